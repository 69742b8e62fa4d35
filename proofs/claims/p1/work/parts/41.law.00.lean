theorem q_439 : Cond.code yX11_feed cX11_feed 6 (some .int) ∈ nm_big := nm_in (List.mem_append_right _ (List.mem_of_getElem? (i := 439) rfl)) (by decide +kernel)
theorem q_436 : Cond.methodLink RL 79 yX11_feed ∈ nm_big := nm_in (List.mem_append_right _ (List.mem_of_getElem? (i := 436) (by decide +kernel))) (by decide +kernel)
theorem q_437 : Cond.instanceMethod yX11_feed ∈ nm_big := nm_in (List.mem_append_right _ (List.mem_of_getElem? (i := 437) (by decide +kernel))) (by decide +kernel)
theorem q_438 : Cond.selects RX11 yX11_feed yX11_feed ∈ nm_big := nm_in (List.mem_append_right _ (List.mem_of_getElem? (i := 438) (by decide +kernel))) (by decide +kernel)
theorem q_1690 : Cond.code yX12_feed cX12_feed 8 (some .int) ∈ nm_big := nm_in (List.mem_append_right _ (List.mem_of_getElem? (i := 1690) (by decide +kernel))) (by decide +kernel)
theorem q_1687 : Cond.methodLink RL 83 yX12_feed ∈ nm_big := nm_in (List.mem_append_right _ (List.mem_of_getElem? (i := 1687) (by decide +kernel))) (by decide +kernel)
theorem q_1688 : Cond.instanceMethod yX12_feed ∈ nm_big := nm_in (List.mem_append_right _ (List.mem_of_getElem? (i := 1688) (by decide +kernel))) (by decide +kernel)
theorem q_1689 : Cond.selects RX12 yX12_feed yX12_feed ∈ nm_big := nm_in (List.mem_append_right _ (List.mem_of_getElem? (i := 1689) (by decide +kernel))) (by decide +kernel)
theorem q_496 : Cond.codeWith yL_define cL_define 4 (some .int) [(0, 9, 12, 13), (0, 9, 15, 15)] ∈ nm_big := nm_in (List.mem_append_right _ (List.mem_of_getElem? (i := 496) (by decide +kernel))) (by decide +kernel)
theorem q_494 : Cond.methodLink RL 84 yL_define ∈ nm_big := nm_in (List.mem_append_right _ (List.mem_of_getElem? (i := 494) (by decide +kernel))) (by decide +kernel)
theorem q_495 : Cond.static yL_define ∈ nm_big := nm_in (List.mem_append_right _ (List.mem_of_getElem? (i := 495) (by decide +kernel))) (by decide +kernel)
theorem q_0 : Cond.initialized RL ∈ nm_big := nm_in (List.mem_append_right _ (List.mem_of_getElem? (i := 0) (by decide +kernel))) (by decide +kernel)
theorem q_1698 : Cond.code yX12_define cX12_define 2 (some .int) ∈ nm_big := nm_in (List.mem_append_right _ (List.mem_of_getElem? (i := 1698) (by decide +kernel))) (by decide +kernel)
theorem q_1695 : Cond.methodLink RL 89 yX12_define ∈ nm_big := nm_in (List.mem_append_right _ (List.mem_of_getElem? (i := 1695) (by decide +kernel))) (by decide +kernel)
theorem q_1696 : Cond.instanceMethod yX12_define ∈ nm_big := nm_in (List.mem_append_right _ (List.mem_of_getElem? (i := 1696) (by decide +kernel))) (by decide +kernel)
theorem q_1697 : Cond.selects RX12 yX12_define yX12_define ∈ nm_big := nm_in (List.mem_append_right _ (List.mem_of_getElem? (i := 1697) (by decide +kernel))) (by decide +kernel)
theorem q_1686 : Cond.code yX12_thrown cX12_thrown 1 (some .int) ∈ nm_big := nm_in (List.mem_append_right _ (List.mem_of_getElem? (i := 1686) (by decide +kernel))) (by decide +kernel)
theorem q_1683 : Cond.methodLink RL 90 yX12_thrown ∈ nm_big := nm_in (List.mem_append_right _ (List.mem_of_getElem? (i := 1683) (by decide +kernel))) (by decide +kernel)
theorem q_1684 : Cond.instanceMethod yX12_thrown ∈ nm_big := nm_in (List.mem_append_right _ (List.mem_of_getElem? (i := 1684) (by decide +kernel))) (by decide +kernel)
theorem q_1685 : Cond.selects RX12 yX12_thrown yX12_thrown ∈ nm_big := nm_in (List.mem_append_right _ (List.mem_of_getElem? (i := 1685) (by decide +kernel))) (by decide +kernel)
theorem q_1199 : Cond.codeWith yL_link cL_link 4 (some .int) [(0, 9, 12, 13), (0, 9, 15, 15)] ∈ nm_big := nm_in (List.mem_append_right _ (List.mem_of_getElem? (i := 1199) (by decide +kernel))) (by decide +kernel)
theorem q_1197 : Cond.methodLink RL 94 yL_link ∈ nm_big := nm_in (List.mem_append_right _ (List.mem_of_getElem? (i := 1197) (by decide +kernel))) (by decide +kernel)
theorem q_1198 : Cond.static yL_link ∈ nm_big := nm_in (List.mem_append_right _ (List.mem_of_getElem? (i := 1198) (by decide +kernel))) (by decide +kernel)
theorem q_1980 : Cond.code yX12_link cX12_link 2 (some .int) ∈ nm_big := nm_in (List.mem_append_right _ (List.mem_of_getElem? (i := 1980) (by decide +kernel))) (by decide +kernel)
theorem q_1977 : Cond.methodLink RL 96 yX12_link ∈ nm_big := nm_in (List.mem_append_right _ (List.mem_of_getElem? (i := 1977) (by decide +kernel))) (by decide +kernel)
theorem q_1978 : Cond.instanceMethod yX12_link ∈ nm_big := nm_in (List.mem_append_right _ (List.mem_of_getElem? (i := 1978) (by decide +kernel))) (by decide +kernel)
theorem q_1979 : Cond.selects RX12 yX12_link yX12_link ∈ nm_big := nm_in (List.mem_append_right _ (List.mem_of_getElem? (i := 1979) (by decide +kernel))) (by decide +kernel)
theorem q_467 : Cond.code yX11_fault cX11_fault 1 (some .int) ∈ nm_big := nm_in (List.mem_append_right _ (List.mem_of_getElem? (i := 467) rfl)) (by decide +kernel)
theorem q_464 : Cond.methodLink RL 97 yX11_fault ∈ nm_big := nm_in (List.mem_append_right _ (List.mem_of_getElem? (i := 464) (by decide +kernel))) (by decide +kernel)
theorem q_465 : Cond.instanceMethod yX11_fault ∈ nm_big := nm_in (List.mem_append_right _ (List.mem_of_getElem? (i := 465) (by decide +kernel))) (by decide +kernel)
theorem q_466 : Cond.selects RX11 yX11_fault yX11_fault ∈ nm_big := nm_in (List.mem_append_right _ (List.mem_of_getElem? (i := 466) (by decide +kernel))) (by decide +kernel)
theorem q_1984 : Cond.code yX12_fault cX12_fault 1 (some .int) ∈ nm_big := nm_in (List.mem_append_right _ (List.mem_of_getElem? (i := 1984) (by decide +kernel))) (by decide +kernel)
theorem q_1981 : Cond.methodLink RL 100 yX12_fault ∈ nm_big := nm_in (List.mem_append_right _ (List.mem_of_getElem? (i := 1981) (by decide +kernel))) (by decide +kernel)
theorem q_1982 : Cond.instanceMethod yX12_fault ∈ nm_big := nm_in (List.mem_append_right _ (List.mem_of_getElem? (i := 1982) (by decide +kernel))) (by decide +kernel)
theorem q_1983 : Cond.selects RX12 yX12_fault yX12_fault ∈ nm_big := nm_in (List.mem_append_right _ (List.mem_of_getElem? (i := 1983) (by decide +kernel))) (by decide +kernel)
theorem q_1217 : Cond.codeWith yL_forget cL_forget 4 (some .int) [(0, 9, 12, 23)] ∈ nm_big := nm_in (List.mem_append_right _ (List.mem_of_getElem? (i := 1217) (by decide +kernel))) (by decide +kernel)
theorem q_1215 : Cond.methodLink RL 101 yL_forget ∈ nm_big := nm_in (List.mem_append_right _ (List.mem_of_getElem? (i := 1215) (by decide +kernel))) (by decide +kernel)
theorem q_1216 : Cond.static yL_forget ∈ nm_big := nm_in (List.mem_append_right _ (List.mem_of_getElem? (i := 1216) (by decide +kernel))) (by decide +kernel)
theorem q_2037 : Cond.code yX12_forget cX12_forget 3 (some .int) ∈ nm_big := nm_in (List.mem_append_right _ (List.mem_of_getElem? (i := 2037) (by decide +kernel))) (by decide +kernel)
theorem q_2034 : Cond.methodLink RL 103 yX12_forget ∈ nm_big := nm_in (List.mem_append_right _ (List.mem_of_getElem? (i := 2034) (by decide +kernel))) (by decide +kernel)
theorem q_2035 : Cond.instanceMethod yX12_forget ∈ nm_big := nm_in (List.mem_append_right _ (List.mem_of_getElem? (i := 2035) (by decide +kernel))) (by decide +kernel)
theorem q_2036 : Cond.selects RX12 yX12_forget yX12_forget ∈ nm_big := nm_in (List.mem_append_right _ (List.mem_of_getElem? (i := 2036) (by decide +kernel))) (by decide +kernel)
theorem q_1253 : Cond.codeWith yL_rename cL_rename 4 (some .int) [(0, 9, 12, 13), (0, 9, 15, 15)] ∈ nm_big := nm_in (List.mem_append_right _ (List.mem_of_getElem? (i := 1253) (by decide +kernel))) (by decide +kernel)
theorem q_1251 : Cond.methodLink RL 104 yL_rename ∈ nm_big := nm_in (List.mem_append_right _ (List.mem_of_getElem? (i := 1251) (by decide +kernel))) (by decide +kernel)
theorem q_1252 : Cond.static yL_rename ∈ nm_big := nm_in (List.mem_append_right _ (List.mem_of_getElem? (i := 1252) (by decide +kernel))) (by decide +kernel)
theorem q_2045 : Cond.code yX12_rename cX12_rename 6 (some .int) ∈ nm_big := nm_in (List.mem_append_right _ (List.mem_of_getElem? (i := 2045) (by decide +kernel))) (by decide +kernel)
theorem q_2042 : Cond.methodLink RL 106 yX12_rename ∈ nm_big := nm_in (List.mem_append_right _ (List.mem_of_getElem? (i := 2042) (by decide +kernel))) (by decide +kernel)
theorem q_2043 : Cond.instanceMethod yX12_rename ∈ nm_big := nm_in (List.mem_append_right _ (List.mem_of_getElem? (i := 2043) (by decide +kernel))) (by decide +kernel)
theorem q_2044 : Cond.selects RX12 yX12_rename yX12_rename ∈ nm_big := nm_in (List.mem_append_right _ (List.mem_of_getElem? (i := 2044) (by decide +kernel))) (by decide +kernel)
theorem q_471 : Cond.code yX11_undo cX11_undo 1 (some .int) ∈ nm_big := nm_in (List.mem_append_right _ (List.mem_of_getElem? (i := 471) rfl)) (by decide +kernel)
theorem q_468 : Cond.methodLink RL 107 yX11_undo ∈ nm_big := nm_in (List.mem_append_right _ (List.mem_of_getElem? (i := 468) (by decide +kernel))) (by decide +kernel)
theorem q_469 : Cond.instanceMethod yX11_undo ∈ nm_big := nm_in (List.mem_append_right _ (List.mem_of_getElem? (i := 469) (by decide +kernel))) (by decide +kernel)
theorem q_470 : Cond.selects RX11 yX11_undo yX11_undo ∈ nm_big := nm_in (List.mem_append_right _ (List.mem_of_getElem? (i := 470) (by decide +kernel))) (by decide +kernel)
theorem q_1694 : Cond.code yX12_undo cX12_undo 2 (some .int) ∈ nm_big := nm_in (List.mem_append_right _ (List.mem_of_getElem? (i := 1694) (by decide +kernel))) (by decide +kernel)
theorem q_1691 : Cond.methodLink RL 110 yX12_undo ∈ nm_big := nm_in (List.mem_append_right _ (List.mem_of_getElem? (i := 1691) (by decide +kernel))) (by decide +kernel)
theorem q_1692 : Cond.instanceMethod yX12_undo ∈ nm_big := nm_in (List.mem_append_right _ (List.mem_of_getElem? (i := 1692) (by decide +kernel))) (by decide +kernel)
theorem q_1693 : Cond.selects RX12 yX12_undo yX12_undo ∈ nm_big := nm_in (List.mem_append_right _ (List.mem_of_getElem? (i := 1693) (by decide +kernel))) (by decide +kernel)
theorem q_1292 : Cond.codeWith yL_told cL_told 4 (some .int) [(0, 9, 12, 13)] ∈ nm_big := nm_in (List.mem_append_right _ (List.mem_of_getElem? (i := 1292) (by decide +kernel))) (by decide +kernel)
theorem q_1290 : Cond.methodLink RL 111 yL_told ∈ nm_big := nm_in (List.mem_append_right _ (List.mem_of_getElem? (i := 1290) (by decide +kernel))) (by decide +kernel)
theorem q_1291 : Cond.static yL_told ∈ nm_big := nm_in (List.mem_append_right _ (List.mem_of_getElem? (i := 1291) (by decide +kernel))) (by decide +kernel)
theorem q_2061 : Cond.code yX12_told cX12_told 2 (some .int) ∈ nm_big := nm_in (List.mem_append_right _ (List.mem_of_getElem? (i := 2061) (by decide +kernel))) (by decide +kernel)
theorem q_2058 : Cond.methodLink RL 113 yX12_told ∈ nm_big := nm_in (List.mem_append_right _ (List.mem_of_getElem? (i := 2058) (by decide +kernel))) (by decide +kernel)
theorem q_2059 : Cond.instanceMethod yX12_told ∈ nm_big := nm_in (List.mem_append_right _ (List.mem_of_getElem? (i := 2059) (by decide +kernel))) (by decide +kernel)
theorem q_2060 : Cond.selects RX12 yX12_told yX12_told ∈ nm_big := nm_in (List.mem_append_right _ (List.mem_of_getElem? (i := 2060) (by decide +kernel))) (by decide +kernel)
theorem q_1299 : Cond.codeWith yL_of cL_of 5 (some .int) [(0, 10, 13, 23), (0, 10, 17, 13)] ∈ nm_big := nm_in (List.mem_append_right _ (List.mem_of_getElem? (i := 1299) (by decide +kernel))) (by decide +kernel)
theorem q_1297 : Cond.methodLink RL 114 yL_of ∈ nm_big := nm_in (List.mem_append_right _ (List.mem_of_getElem? (i := 1297) (by decide +kernel))) (by decide +kernel)
theorem q_1298 : Cond.static yL_of ∈ nm_big := nm_in (List.mem_append_right _ (List.mem_of_getElem? (i := 1298) (by decide +kernel))) (by decide +kernel)
theorem q_2065 : Cond.code yX12_of cX12_of 3 (some .int) ∈ nm_big := nm_in (List.mem_append_right _ (List.mem_of_getElem? (i := 2065) (by decide +kernel))) (by decide +kernel)
theorem q_2062 : Cond.methodLink RL 117 yX12_of ∈ nm_big := nm_in (List.mem_append_right _ (List.mem_of_getElem? (i := 2062) (by decide +kernel))) (by decide +kernel)
theorem q_2063 : Cond.instanceMethod yX12_of ∈ nm_big := nm_in (List.mem_append_right _ (List.mem_of_getElem? (i := 2063) (by decide +kernel))) (by decide +kernel)
theorem q_2064 : Cond.selects RX12 yX12_of yX12_of ∈ nm_big := nm_in (List.mem_append_right _ (List.mem_of_getElem? (i := 2064) (by decide +kernel))) (by decide +kernel)
theorem q_1319 : Cond.codeWith yL_nameAt cL_nameAt 5 (some .int) [(0, 10, 13, 23)] ∈ nm_big := nm_in (List.mem_append_right _ (List.mem_of_getElem? (i := 1319) (by decide +kernel))) (by decide +kernel)
theorem q_1317 : Cond.methodLink RL 118 yL_nameAt ∈ nm_big := nm_in (List.mem_append_right _ (List.mem_of_getElem? (i := 1317) (by decide +kernel))) (by decide +kernel)
theorem q_1318 : Cond.static yL_nameAt ∈ nm_big := nm_in (List.mem_append_right _ (List.mem_of_getElem? (i := 1318) (by decide +kernel))) (by decide +kernel)
theorem q_2093 : Cond.code yX12_nameAt cX12_nameAt 3 (some .int) ∈ nm_big := nm_in (List.mem_append_right _ (List.mem_of_getElem? (i := 2093) (by decide +kernel))) (by decide +kernel)
theorem q_2090 : Cond.methodLink RL 120 yX12_nameAt ∈ nm_big := nm_in (List.mem_append_right _ (List.mem_of_getElem? (i := 2090) (by decide +kernel))) (by decide +kernel)
theorem q_2091 : Cond.instanceMethod yX12_nameAt ∈ nm_big := nm_in (List.mem_append_right _ (List.mem_of_getElem? (i := 2091) (by decide +kernel))) (by decide +kernel)
theorem q_2092 : Cond.selects RX12 yX12_nameAt yX12_nameAt ∈ nm_big := nm_in (List.mem_append_right _ (List.mem_of_getElem? (i := 2092) (by decide +kernel))) (by decide +kernel)
theorem q_1326 : Cond.codeWith yL_textAt cL_textAt 5 (some .int) [(0, 10, 13, 23)] ∈ nm_big := nm_in (List.mem_append_right _ (List.mem_of_getElem? (i := 1326) (by decide +kernel))) (by decide +kernel)
theorem q_1324 : Cond.methodLink RL 121 yL_textAt ∈ nm_big := nm_in (List.mem_append_right _ (List.mem_of_getElem? (i := 1324) (by decide +kernel))) (by decide +kernel)
theorem q_1325 : Cond.static yL_textAt ∈ nm_big := nm_in (List.mem_append_right _ (List.mem_of_getElem? (i := 1325) (by decide +kernel))) (by decide +kernel)
theorem q_2097 : Cond.code yX12_textAt cX12_textAt 3 (some .int) ∈ nm_big := nm_in (List.mem_append_right _ (List.mem_of_getElem? (i := 2097) (by decide +kernel))) (by decide +kernel)
theorem q_2094 : Cond.methodLink RL 123 yX12_textAt ∈ nm_big := nm_in (List.mem_append_right _ (List.mem_of_getElem? (i := 2094) (by decide +kernel))) (by decide +kernel)
theorem q_2095 : Cond.instanceMethod yX12_textAt ∈ nm_big := nm_in (List.mem_append_right _ (List.mem_of_getElem? (i := 2095) (by decide +kernel))) (by decide +kernel)
theorem q_2096 : Cond.selects RX12 yX12_textAt yX12_textAt ∈ nm_big := nm_in (List.mem_append_right _ (List.mem_of_getElem? (i := 2096) (by decide +kernel))) (by decide +kernel)
theorem q_1373 : Cond.codeWith yL_entry cL_entry 6 (some .int) [(0, 12, 15, 23), (0, 12, 19, 13)] ∈ nm_big := nm_in (List.mem_append_right _ (List.mem_of_getElem? (i := 1373) (by decide +kernel))) (by decide +kernel)
theorem q_1371 : Cond.methodLink RL 124 yL_entry ∈ nm_big := nm_in (List.mem_append_right _ (List.mem_of_getElem? (i := 1371) (by decide +kernel))) (by decide +kernel)
theorem q_1372 : Cond.static yL_entry ∈ nm_big := nm_in (List.mem_append_right _ (List.mem_of_getElem? (i := 1372) (by decide +kernel))) (by decide +kernel)
theorem q_2101 : Cond.code yX12_entry cX12_entry 5 (some .int) ∈ nm_big := nm_in (List.mem_append_right _ (List.mem_of_getElem? (i := 2101) (by decide +kernel))) (by decide +kernel)
theorem q_2098 : Cond.methodLink RL 127 yX12_entry ∈ nm_big := nm_in (List.mem_append_right _ (List.mem_of_getElem? (i := 2098) (by decide +kernel))) (by decide +kernel)
theorem q_2099 : Cond.instanceMethod yX12_entry ∈ nm_big := nm_in (List.mem_append_right _ (List.mem_of_getElem? (i := 2099) (by decide +kernel))) (by decide +kernel)
theorem q_2100 : Cond.selects RX12 yX12_entry yX12_entry ∈ nm_big := nm_in (List.mem_append_right _ (List.mem_of_getElem? (i := 2100) (by decide +kernel))) (by decide +kernel)
theorem q_1380 : Cond.codeWith yL_entryAt cL_entryAt 6 (some .int) [(0, 12, 15, 23)] ∈ nm_big := nm_in (List.mem_append_right _ (List.mem_of_getElem? (i := 1380) (by decide +kernel))) (by decide +kernel)
theorem q_1378 : Cond.methodLink RL 128 yL_entryAt ∈ nm_big := nm_in (List.mem_append_right _ (List.mem_of_getElem? (i := 1378) (by decide +kernel))) (by decide +kernel)
theorem q_1379 : Cond.static yL_entryAt ∈ nm_big := nm_in (List.mem_append_right _ (List.mem_of_getElem? (i := 1379) (by decide +kernel))) (by decide +kernel)
theorem q_2105 : Cond.code yX12_entryAt cX12_entryAt 4 (some .int) ∈ nm_big := nm_in (List.mem_append_right _ (List.mem_of_getElem? (i := 2105) (by decide +kernel))) (by decide +kernel)
theorem q_2102 : Cond.methodLink RL 130 yX12_entryAt ∈ nm_big := nm_in (List.mem_append_right _ (List.mem_of_getElem? (i := 2102) (by decide +kernel))) (by decide +kernel)
theorem q_2103 : Cond.instanceMethod yX12_entryAt ∈ nm_big := nm_in (List.mem_append_right _ (List.mem_of_getElem? (i := 2103) (by decide +kernel))) (by decide +kernel)
theorem q_2104 : Cond.selects RX12 yX12_entryAt yX12_entryAt ∈ nm_big := nm_in (List.mem_append_right _ (List.mem_of_getElem? (i := 2104) (by decide +kernel))) (by decide +kernel)
theorem q_1388 : Cond.codeWith yL_refers cL_refers 5 (some .int) [(0, 10, 13, 23)] ∈ nm_big := nm_in (List.mem_append_right _ (List.mem_of_getElem? (i := 1388) (by decide +kernel))) (by decide +kernel)
theorem q_1386 : Cond.methodLink RL 131 yL_refers ∈ nm_big := nm_in (List.mem_append_right _ (List.mem_of_getElem? (i := 1386) (by decide +kernel))) (by decide +kernel)
theorem q_1387 : Cond.static yL_refers ∈ nm_big := nm_in (List.mem_append_right _ (List.mem_of_getElem? (i := 1387) (by decide +kernel))) (by decide +kernel)
theorem q_2109 : Cond.code yX12_refers cX12_refers 4 (some .int) ∈ nm_big := nm_in (List.mem_append_right _ (List.mem_of_getElem? (i := 2109) (by decide +kernel))) (by decide +kernel)
theorem q_2106 : Cond.methodLink RL 133 yX12_refers ∈ nm_big := nm_in (List.mem_append_right _ (List.mem_of_getElem? (i := 2106) (by decide +kernel))) (by decide +kernel)
theorem q_2107 : Cond.instanceMethod yX12_refers ∈ nm_big := nm_in (List.mem_append_right _ (List.mem_of_getElem? (i := 2107) (by decide +kernel))) (by decide +kernel)
theorem q_2108 : Cond.selects RX12 yX12_refers yX12_refers ∈ nm_big := nm_in (List.mem_append_right _ (List.mem_of_getElem? (i := 2108) (by decide +kernel))) (by decide +kernel)
theorem q_1399 : Cond.codeWith yL_check cL_check 4 (some .int) [(0, 9, 12, 13)] ∈ nm_big := nm_in (List.mem_append_right _ (List.mem_of_getElem? (i := 1399) (by decide +kernel))) (by decide +kernel)
theorem q_1397 : Cond.methodLink RL 134 yL_check ∈ nm_big := nm_in (List.mem_append_right _ (List.mem_of_getElem? (i := 1397) (by decide +kernel))) (by decide +kernel)
theorem q_1398 : Cond.static yL_check ∈ nm_big := nm_in (List.mem_append_right _ (List.mem_of_getElem? (i := 1398) (by decide +kernel))) (by decide +kernel)
theorem q_1988 : Cond.code yX12_check cX12_check 2 (some .int) ∈ nm_big := nm_in (List.mem_append_right _ (List.mem_of_getElem? (i := 1988) (by decide +kernel))) (by decide +kernel)
theorem q_1985 : Cond.methodLink RL 136 yX12_check ∈ nm_big := nm_in (List.mem_append_right _ (List.mem_of_getElem? (i := 1985) (by decide +kernel))) (by decide +kernel)
theorem q_1986 : Cond.instanceMethod yX12_check ∈ nm_big := nm_in (List.mem_append_right _ (List.mem_of_getElem? (i := 1986) (by decide +kernel))) (by decide +kernel)
theorem q_1987 : Cond.selects RX12 yX12_check yX12_check ∈ nm_big := nm_in (List.mem_append_right _ (List.mem_of_getElem? (i := 1987) (by decide +kernel))) (by decide +kernel)
theorem q_1406 : Cond.codeWith yL_respell cL_respell 4 (some .int) [(0, 9, 12, 13)] ∈ nm_big := nm_in (List.mem_append_right _ (List.mem_of_getElem? (i := 1406) (by decide +kernel))) (by decide +kernel)
theorem q_1404 : Cond.methodLink RL 137 yL_respell ∈ nm_big := nm_in (List.mem_append_right _ (List.mem_of_getElem? (i := 1404) (by decide +kernel))) (by decide +kernel)
theorem q_1405 : Cond.static yL_respell ∈ nm_big := nm_in (List.mem_append_right _ (List.mem_of_getElem? (i := 1405) (by decide +kernel))) (by decide +kernel)
theorem q_1992 : Cond.code yX12_respell cX12_respell 3 (some .int) ∈ nm_big := nm_in (List.mem_append_right _ (List.mem_of_getElem? (i := 1992) (by decide +kernel))) (by decide +kernel)
theorem q_1989 : Cond.methodLink RL 139 yX12_respell ∈ nm_big := nm_in (List.mem_append_right _ (List.mem_of_getElem? (i := 1989) (by decide +kernel))) (by decide +kernel)
theorem q_1990 : Cond.instanceMethod yX12_respell ∈ nm_big := nm_in (List.mem_append_right _ (List.mem_of_getElem? (i := 1990) (by decide +kernel))) (by decide +kernel)
theorem q_1991 : Cond.selects RX12 yX12_respell yX12_respell ∈ nm_big := nm_in (List.mem_append_right _ (List.mem_of_getElem? (i := 1991) (by decide +kernel))) (by decide +kernel)
theorem q_1413 : Cond.codeWith yL_respelt cL_respelt 4 (some .int) [(0, 9, 12, 23)] ∈ nm_big := nm_in (List.mem_append_right _ (List.mem_of_getElem? (i := 1413) (by decide +kernel))) (by decide +kernel)
theorem q_1411 : Cond.methodLink RL 140 yL_respelt ∈ nm_big := nm_in (List.mem_append_right _ (List.mem_of_getElem? (i := 1411) (by decide +kernel))) (by decide +kernel)
theorem q_1412 : Cond.static yL_respelt ∈ nm_big := nm_in (List.mem_append_right _ (List.mem_of_getElem? (i := 1412) (by decide +kernel))) (by decide +kernel)
theorem q_2033 : Cond.code yX12_respelt cX12_respelt 2 (some .int) ∈ nm_big := nm_in (List.mem_append_right _ (List.mem_of_getElem? (i := 2033) (by decide +kernel))) (by decide +kernel)
theorem q_2030 : Cond.methodLink RL 142 yX12_respelt ∈ nm_big := nm_in (List.mem_append_right _ (List.mem_of_getElem? (i := 2030) (by decide +kernel))) (by decide +kernel)
theorem q_2031 : Cond.instanceMethod yX12_respelt ∈ nm_big := nm_in (List.mem_append_right _ (List.mem_of_getElem? (i := 2031) (by decide +kernel))) (by decide +kernel)
theorem q_2032 : Cond.selects RX12 yX12_respelt yX12_respelt ∈ nm_big := nm_in (List.mem_append_right _ (List.mem_of_getElem? (i := 2032) (by decide +kernel))) (by decide +kernel)
theorem q_1420 : Cond.codeWith yL_alike cL_alike 4 (some .int) [(0, 9, 12, 23)] ∈ nm_big := nm_in (List.mem_append_right _ (List.mem_of_getElem? (i := 1420) (by decide +kernel))) (by decide +kernel)
theorem q_1418 : Cond.methodLink RL 143 yL_alike ∈ nm_big := nm_in (List.mem_append_right _ (List.mem_of_getElem? (i := 1418) (by decide +kernel))) (by decide +kernel)
theorem q_1419 : Cond.static yL_alike ∈ nm_big := nm_in (List.mem_append_right _ (List.mem_of_getElem? (i := 1419) (by decide +kernel))) (by decide +kernel)
theorem q_2113 : Cond.code yX12_alike cX12_alike 5 (some .int) ∈ nm_big := nm_in (List.mem_append_right _ (List.mem_of_getElem? (i := 2113) (by decide +kernel))) (by decide +kernel)
theorem q_2110 : Cond.methodLink RL 145 yX12_alike ∈ nm_big := nm_in (List.mem_append_right _ (List.mem_of_getElem? (i := 2110) (by decide +kernel))) (by decide +kernel)
theorem q_2111 : Cond.instanceMethod yX12_alike ∈ nm_big := nm_in (List.mem_append_right _ (List.mem_of_getElem? (i := 2111) (by decide +kernel))) (by decide +kernel)
theorem q_2112 : Cond.selects RX12 yX12_alike yX12_alike ∈ nm_big := nm_in (List.mem_append_right _ (List.mem_of_getElem? (i := 2112) (by decide +kernel))) (by decide +kernel)
theorem q_1432 : Cond.codeWith yL_apart cL_apart 5 (some .int) [(0, 10, 13, 23)] ∈ nm_big := nm_in (List.mem_append_right _ (List.mem_of_getElem? (i := 1432) (by decide +kernel))) (by decide +kernel)
theorem q_1430 : Cond.methodLink RL 146 yL_apart ∈ nm_big := nm_in (List.mem_append_right _ (List.mem_of_getElem? (i := 1430) (by decide +kernel))) (by decide +kernel)
theorem q_1431 : Cond.static yL_apart ∈ nm_big := nm_in (List.mem_append_right _ (List.mem_of_getElem? (i := 1431) (by decide +kernel))) (by decide +kernel)
theorem q_2121 : Cond.code yX12_apart cX12_apart 3 (some .int) ∈ nm_big := nm_in (List.mem_append_right _ (List.mem_of_getElem? (i := 2121) (by decide +kernel))) (by decide +kernel)
theorem q_2118 : Cond.methodLink RL 148 yX12_apart ∈ nm_big := nm_in (List.mem_append_right _ (List.mem_of_getElem? (i := 2118) (by decide +kernel))) (by decide +kernel)
theorem q_2119 : Cond.instanceMethod yX12_apart ∈ nm_big := nm_in (List.mem_append_right _ (List.mem_of_getElem? (i := 2119) (by decide +kernel))) (by decide +kernel)
theorem q_2120 : Cond.selects RX12 yX12_apart yX12_apart ∈ nm_big := nm_in (List.mem_append_right _ (List.mem_of_getElem? (i := 2120) (by decide +kernel))) (by decide +kernel)
theorem q_1444 : Cond.codeWith yL_ranked cL_ranked 4 (some .int) [(0, 9, 12, 23)] ∈ nm_big := nm_in (List.mem_append_right _ (List.mem_of_getElem? (i := 1444) (by decide +kernel))) (by decide +kernel)
theorem q_1442 : Cond.methodLink RL 149 yL_ranked ∈ nm_big := nm_in (List.mem_append_right _ (List.mem_of_getElem? (i := 1442) (by decide +kernel))) (by decide +kernel)
theorem q_1443 : Cond.static yL_ranked ∈ nm_big := nm_in (List.mem_append_right _ (List.mem_of_getElem? (i := 1443) (by decide +kernel))) (by decide +kernel)
theorem q_2133 : Cond.code yX12_ranked cX12_ranked 6 (some .int) ∈ nm_big := nm_in (List.mem_append_right _ (List.mem_of_getElem? (i := 2133) (by decide +kernel))) (by decide +kernel)
theorem q_2130 : Cond.methodLink RL 151 yX12_ranked ∈ nm_big := nm_in (List.mem_append_right _ (List.mem_of_getElem? (i := 2130) (by decide +kernel))) (by decide +kernel)
theorem q_2131 : Cond.instanceMethod yX12_ranked ∈ nm_big := nm_in (List.mem_append_right _ (List.mem_of_getElem? (i := 2131) (by decide +kernel))) (by decide +kernel)
theorem q_2132 : Cond.selects RX12 yX12_ranked yX12_ranked ∈ nm_big := nm_in (List.mem_append_right _ (List.mem_of_getElem? (i := 2132) (by decide +kernel))) (by decide +kernel)
theorem q_1460 : Cond.codeWith yL_stands cL_stands 5 (some .int) [(0, 10, 13, 23)] ∈ nm_big := nm_in (List.mem_append_right _ (List.mem_of_getElem? (i := 1460) (by decide +kernel))) (by decide +kernel)
theorem q_1458 : Cond.methodLink RL 152 yL_stands ∈ nm_big := nm_in (List.mem_append_right _ (List.mem_of_getElem? (i := 1458) (by decide +kernel))) (by decide +kernel)
theorem q_1459 : Cond.static yL_stands ∈ nm_big := nm_in (List.mem_append_right _ (List.mem_of_getElem? (i := 1459) (by decide +kernel))) (by decide +kernel)
theorem q_2137 : Cond.code yX12_stands cX12_stands 7 (some .int) ∈ nm_big := nm_in (List.mem_append_right _ (List.mem_of_getElem? (i := 2137) (by decide +kernel))) (by decide +kernel)
theorem q_2134 : Cond.methodLink RL 154 yX12_stands ∈ nm_big := nm_in (List.mem_append_right _ (List.mem_of_getElem? (i := 2134) (by decide +kernel))) (by decide +kernel)
theorem q_2135 : Cond.instanceMethod yX12_stands ∈ nm_big := nm_in (List.mem_append_right _ (List.mem_of_getElem? (i := 2135) (by decide +kernel))) (by decide +kernel)
theorem q_2136 : Cond.selects RX12 yX12_stands yX12_stands ∈ nm_big := nm_in (List.mem_append_right _ (List.mem_of_getElem? (i := 2136) (by decide +kernel))) (by decide +kernel)
theorem q_1479 : Cond.codeWith yL_shared cL_shared 5 (some .int) [(0, 10, 13, 23)] ∈ nm_big := nm_in (List.mem_append_right _ (List.mem_of_getElem? (i := 1479) (by decide +kernel))) (by decide +kernel)
theorem q_1477 : Cond.methodLink RL 155 yL_shared ∈ nm_big := nm_in (List.mem_append_right _ (List.mem_of_getElem? (i := 1477) (by decide +kernel))) (by decide +kernel)
theorem q_1478 : Cond.static yL_shared ∈ nm_big := nm_in (List.mem_append_right _ (List.mem_of_getElem? (i := 1478) (by decide +kernel))) (by decide +kernel)
theorem q_2145 : Cond.code yX12_shared cX12_shared 6 (some .int) ∈ nm_big := nm_in (List.mem_append_right _ (List.mem_of_getElem? (i := 2145) (by decide +kernel))) (by decide +kernel)
theorem q_2142 : Cond.methodLink RL 157 yX12_shared ∈ nm_big := nm_in (List.mem_append_right _ (List.mem_of_getElem? (i := 2142) (by decide +kernel))) (by decide +kernel)
theorem q_2143 : Cond.instanceMethod yX12_shared ∈ nm_big := nm_in (List.mem_append_right _ (List.mem_of_getElem? (i := 2143) (by decide +kernel))) (by decide +kernel)
theorem q_2144 : Cond.selects RX12 yX12_shared yX12_shared ∈ nm_big := nm_in (List.mem_append_right _ (List.mem_of_getElem? (i := 2144) (by decide +kernel))) (by decide +kernel)
theorem q_475 : Cond.code yX11_print cX11_print 6 (some .long) ∈ nm_big := nm_in (List.mem_append_right _ (List.mem_of_getElem? (i := 475) rfl)) (by decide +kernel)
theorem q_472 : Cond.methodLink RL 158 yX11_print ∈ nm_big := nm_in (List.mem_append_right _ (List.mem_of_getElem? (i := 472) (by decide +kernel))) (by decide +kernel)
theorem q_473 : Cond.instanceMethod yX11_print ∈ nm_big := nm_in (List.mem_append_right _ (List.mem_of_getElem? (i := 473) (by decide +kernel))) (by decide +kernel)
theorem q_474 : Cond.selects RX11 yX11_print yX11_print ∈ nm_big := nm_in (List.mem_append_right _ (List.mem_of_getElem? (i := 474) (by decide +kernel))) (by decide +kernel)
theorem q_2149 : Cond.code yX12_print cX12_print 5 (some .long) ∈ nm_big := nm_in (List.mem_append_right _ (List.mem_of_getElem? (i := 2149) (by decide +kernel))) (by decide +kernel)
theorem q_2146 : Cond.methodLink RL 162 yX12_print ∈ nm_big := nm_in (List.mem_append_right _ (List.mem_of_getElem? (i := 2146) (by decide +kernel))) (by decide +kernel)
theorem q_2147 : Cond.instanceMethod yX12_print ∈ nm_big := nm_in (List.mem_append_right _ (List.mem_of_getElem? (i := 2147) (by decide +kernel))) (by decide +kernel)
theorem q_2148 : Cond.selects RX12 yX12_print yX12_print ∈ nm_big := nm_in (List.mem_append_right _ (List.mem_of_getElem? (i := 2148) (by decide +kernel))) (by decide +kernel)
theorem q_493 : Cond.code yX11_status cX11_status 2 (some .int) ∈ nm_big := nm_in (List.mem_append_right _ (List.mem_of_getElem? (i := 493) rfl)) (by decide +kernel)
theorem q_490 : Cond.methodLink RL 163 yX11_status ∈ nm_big := nm_in (List.mem_append_right _ (List.mem_of_getElem? (i := 490) (by decide +kernel))) (by decide +kernel)
theorem q_491 : Cond.instanceMethod yX11_status ∈ nm_big := nm_in (List.mem_append_right _ (List.mem_of_getElem? (i := 491) (by decide +kernel))) (by decide +kernel)
theorem q_492 : Cond.selects RX11 yX11_status yX11_status ∈ nm_big := nm_in (List.mem_append_right _ (List.mem_of_getElem? (i := 492) (by decide +kernel))) (by decide +kernel)
theorem q_2153 : Cond.code yX12_status cX12_status 2 (some .int) ∈ nm_big := nm_in (List.mem_append_right _ (List.mem_of_getElem? (i := 2153) (by decide +kernel))) (by decide +kernel)
theorem q_2150 : Cond.methodLink RL 166 yX12_status ∈ nm_big := nm_in (List.mem_append_right _ (List.mem_of_getElem? (i := 2150) (by decide +kernel))) (by decide +kernel)
theorem q_2151 : Cond.instanceMethod yX12_status ∈ nm_big := nm_in (List.mem_append_right _ (List.mem_of_getElem? (i := 2151) (by decide +kernel))) (by decide +kernel)
theorem q_2152 : Cond.selects RX12 yX12_status yX12_status ∈ nm_big := nm_in (List.mem_append_right _ (List.mem_of_getElem? (i := 2152) (by decide +kernel))) (by decide +kernel)
theorem dL_law_152 : decode cL_law 152 = .ok (.aload_n 1, 1) := by decide +kernel
theorem dL_law_153 : decode cL_law 153 = .ok (.aload_n 0, 1) := by decide +kernel
theorem dL_law_154 : decode cL_law 154 = .ok (.iload 4, 2) := by decide +kernel
theorem dL_law_156 : decode cL_law 156 = .ok (.iconst 1, 1) := by decide +kernel
theorem dL_law_157 : decode cL_law 157 = .ok (.iadd, 1) := by decide +kernel
theorem dL_law_158 : decode cL_law 158 = .ok (.iaload, 1) := by decide +kernel
theorem dL_law_159 : decode cL_law 159 = .ok (.aload_n 0, 1) := by decide +kernel
theorem dL_law_160 : decode cL_law 160 = .ok (.iload 4, 2) := by decide +kernel
theorem dL_law_162 : decode cL_law 162 = .ok (.iconst 2, 1) := by decide +kernel
theorem dL_law_163 : decode cL_law 163 = .ok (.iadd, 1) := by decide +kernel
theorem dL_law_164 : decode cL_law 164 = .ok (.iaload, 1) := by decide +kernel
theorem dL_law_165 : decode cL_law 165 = .ok (.aload_n 0, 1) := by decide +kernel
theorem dL_law_166 : decode cL_law 166 = .ok (.iload 4, 2) := by decide +kernel
theorem dL_law_168 : decode cL_law 168 = .ok (.iconst 3, 1) := by decide +kernel
theorem dL_law_169 : decode cL_law 169 = .ok (.iadd, 1) := by decide +kernel
theorem dL_law_170 : decode cL_law 170 = .ok (.iaload, 1) := by decide +kernel
theorem dL_law_171 : decode cL_law 171 = .ok (.aload_n 0, 1) := by decide +kernel
theorem dL_law_172 : decode cL_law 172 = .ok (.iload 4, 2) := by decide +kernel
theorem dL_law_174 : decode cL_law 174 = .ok (.iconst 4, 1) := by decide +kernel
theorem dL_law_175 : decode cL_law 175 = .ok (.iadd, 1) := by decide +kernel
theorem dL_law_176 : decode cL_law 176 = .ok (.iaload, 1) := by decide +kernel
theorem dL_law_177 : decode cL_law 177 = .ok (.aload_n 0, 1) := by decide +kernel
theorem dL_law_178 : decode cL_law 178 = .ok (.iload 4, 2) := by decide +kernel
theorem dL_law_180 : decode cL_law 180 = .ok (.iconst 5, 1) := by decide +kernel
theorem dL_law_181 : decode cL_law 181 = .ok (.iadd, 1) := by decide +kernel
theorem dL_law_182 : decode cL_law 182 = .ok (.iaload, 1) := by decide +kernel
theorem dL_law_183 : decode cL_law 183 = .ok (.invokevirtual 79, 3) := by decide +kernel
theorem dL_law_186 : decode cL_law 186 = .ok (.aload_n 2, 1) := by decide +kernel
theorem dL_law_187 : decode cL_law 187 = .ok (.aload_n 0, 1) := by decide +kernel
theorem dL_law_188 : decode cL_law 188 = .ok (.iload 4, 2) := by decide +kernel
theorem dL_law_190 : decode cL_law 190 = .ok (.iconst 1, 1) := by decide +kernel
theorem dL_law_191 : decode cL_law 191 = .ok (.iadd, 1) := by decide +kernel
theorem dL_law_192 : decode cL_law 192 = .ok (.iaload, 1) := by decide +kernel
theorem dL_law_193 : decode cL_law 193 = .ok (.aload_n 0, 1) := by decide +kernel
theorem dL_law_194 : decode cL_law 194 = .ok (.iload 4, 2) := by decide +kernel
theorem dL_law_196 : decode cL_law 196 = .ok (.iconst 2, 1) := by decide +kernel
theorem dL_law_197 : decode cL_law 197 = .ok (.iadd, 1) := by decide +kernel
theorem dL_law_198 : decode cL_law 198 = .ok (.iaload, 1) := by decide +kernel
theorem dL_law_199 : decode cL_law 199 = .ok (.aload_n 0, 1) := by decide +kernel
theorem dL_law_200 : decode cL_law 200 = .ok (.iload 4, 2) := by decide +kernel
theorem dL_law_202 : decode cL_law 202 = .ok (.iconst 3, 1) := by decide +kernel
theorem dL_law_203 : decode cL_law 203 = .ok (.iadd, 1) := by decide +kernel
theorem dL_law_204 : decode cL_law 204 = .ok (.iaload, 1) := by decide +kernel
theorem dL_law_205 : decode cL_law 205 = .ok (.aload_n 0, 1) := by decide +kernel
theorem dL_law_206 : decode cL_law 206 = .ok (.iload 4, 2) := by decide +kernel
theorem dL_law_208 : decode cL_law 208 = .ok (.iconst 4, 1) := by decide +kernel
theorem dL_law_209 : decode cL_law 209 = .ok (.iadd, 1) := by decide +kernel
theorem dL_law_210 : decode cL_law 210 = .ok (.iaload, 1) := by decide +kernel
theorem dL_law_211 : decode cL_law 211 = .ok (.aload_n 0, 1) := by decide +kernel
theorem dL_law_212 : decode cL_law 212 = .ok (.iload 4, 2) := by decide +kernel
theorem dL_law_214 : decode cL_law 214 = .ok (.iconst 5, 1) := by decide +kernel
theorem dL_law_215 : decode cL_law 215 = .ok (.iadd, 1) := by decide +kernel
theorem dL_law_216 : decode cL_law 216 = .ok (.iaload, 1) := by decide +kernel
theorem dL_law_217 : decode cL_law 217 = .ok (.invokevirtual 83, 3) := by decide +kernel
theorem dL_law_220 : decode cL_law 220 = .ok (.if_icmp .eq 1266, 3) := by decide +kernel
theorem dL_law_1486 : decode cL_law 1486 = .ok (.iinc 4 6, 3) := by decide +kernel
theorem dL_law_1489 : decode cL_law 1489 = .ok (.goto (-1466), 3) := by decide +kernel
theorem dL_law_23 : decode cL_law 23 = .ok (.iload 4, 2) := by decide +kernel
theorem dL_law_25 : decode cL_law 25 = .ok (.aload_n 0, 1) := by decide +kernel
theorem dL_law_26 : decode cL_law 26 = .ok (.arraylength, 1) := by decide +kernel
theorem dL_law_27 : decode cL_law 27 = .ok (.bipush 6, 2) := by decide +kernel
theorem dL_law_29 : decode cL_law 29 = .ok (.isub, 1) := by decide +kernel
theorem dL_law_30 : decode cL_law 30 = .ok (.if_icmp .gt 1462, 3) := by decide +kernel
theorem dL_law_1492 : decode cL_law 1492 = .ok (.iconst 1, 1) := by decide +kernel
theorem dL_law_1493 : decode cL_law 1493 = .ok (.ireturn, 1) := by decide +kernel
theorem dL_law_225 : decode cL_law 225 = .ok (.aload_n 1, 1) := by decide +kernel
theorem dL_law_226 : decode cL_law 226 = .ok (.aload_n 0, 1) := by decide +kernel
theorem dL_law_227 : decode cL_law 227 = .ok (.iload 4, 2) := by decide +kernel
theorem dL_law_229 : decode cL_law 229 = .ok (.iconst 1, 1) := by decide +kernel
theorem dL_law_230 : decode cL_law 230 = .ok (.iadd, 1) := by decide +kernel
theorem dL_law_231 : decode cL_law 231 = .ok (.iaload, 1) := by decide +kernel
theorem dL_law_232 : decode cL_law 232 = .ok (.aload_n 3, 1) := by decide +kernel
theorem dL_law_233 : decode cL_law 233 = .ok (.invokestatic 84, 3) := by decide +kernel
theorem dL_law_236 : decode cL_law 236 = .ok (.istore 5, 2) := by decide +kernel
theorem dL_law_238 : decode cL_law 238 = .ok (.aload_n 2, 1) := by decide +kernel
theorem dL_law_239 : decode cL_law 239 = .ok (.aload_n 0, 1) := by decide +kernel
theorem dL_law_240 : decode cL_law 240 = .ok (.iload 4, 2) := by decide +kernel
theorem dL_law_242 : decode cL_law 242 = .ok (.iconst 1, 1) := by decide +kernel
theorem dL_law_243 : decode cL_law 243 = .ok (.iadd, 1) := by decide +kernel
theorem dL_law_244 : decode cL_law 244 = .ok (.iaload, 1) := by decide +kernel
theorem dL_law_245 : decode cL_law 245 = .ok (.invokevirtual 89, 3) := by decide +kernel
theorem dL_law_248 : decode cL_law 248 = .ok (.istore 6, 2) := by decide +kernel
theorem dL_law_250 : decode cL_law 250 = .ok (.aload_n 2, 1) := by decide +kernel
theorem dL_law_251 : decode cL_law 251 = .ok (.invokevirtual 90, 3) := by decide +kernel
theorem dL_law_254 : decode cL_law 254 = .ok (.iload 5, 2) := by decide +kernel
theorem dL_law_256 : decode cL_law 256 = .ok (.if_icmp .eq 5, 3) := by decide +kernel
theorem dL_law_261 : decode cL_law 261 = .ok (.iload 5, 2) := by decide +kernel
theorem dL_law_263 : decode cL_law 263 = .ok (.ifCond .ne 15, 3) := by decide +kernel
theorem dL_law_278 : decode cL_law 278 = .ok (.goto 1208, 3) := by decide +kernel
theorem dL_law_266 : decode cL_law 266 = .ok (.aload_n 3, 1) := by decide +kernel
theorem dL_law_267 : decode cL_law 267 = .ok (.iconst 0, 1) := by decide +kernel
theorem dL_law_268 : decode cL_law 268 = .ok (.laload, 1) := by decide +kernel
theorem dL_law_269 : decode cL_law 269 = .ok (.iload 6, 2) := by decide +kernel
theorem dL_law_271 : decode cL_law 271 = .ok (.i2l, 1) := by decide +kernel
theorem dL_law_272 : decode cL_law 272 = .ok (.lcmp, 1) := by decide +kernel
theorem dL_law_273 : decode cL_law 273 = .ok (.ifCond .eq 5, 3) := by decide +kernel
theorem dL_law_281 : decode cL_law 281 = .ok (.aload_n 1, 1) := by decide +kernel
theorem dL_law_282 : decode cL_law 282 = .ok (.aload_n 0, 1) := by decide +kernel
theorem dL_law_283 : decode cL_law 283 = .ok (.iload 4, 2) := by decide +kernel
theorem dL_law_285 : decode cL_law 285 = .ok (.iconst 1, 1) := by decide +kernel
theorem dL_law_286 : decode cL_law 286 = .ok (.iadd, 1) := by decide +kernel
theorem dL_law_287 : decode cL_law 287 = .ok (.iaload, 1) := by decide +kernel
theorem dL_law_288 : decode cL_law 288 = .ok (.aload_n 3, 1) := by decide +kernel
theorem dL_law_289 : decode cL_law 289 = .ok (.invokestatic 94, 3) := by decide +kernel
theorem dL_law_292 : decode cL_law 292 = .ok (.istore 5, 2) := by decide +kernel
theorem dL_law_294 : decode cL_law 294 = .ok (.aload_n 2, 1) := by decide +kernel
theorem dL_law_295 : decode cL_law 295 = .ok (.aload_n 0, 1) := by decide +kernel
theorem dL_law_296 : decode cL_law 296 = .ok (.iload 4, 2) := by decide +kernel
theorem dL_law_298 : decode cL_law 298 = .ok (.iconst 1, 1) := by decide +kernel
theorem dL_law_299 : decode cL_law 299 = .ok (.iadd, 1) := by decide +kernel
theorem dL_law_300 : decode cL_law 300 = .ok (.iaload, 1) := by decide +kernel
theorem dL_law_301 : decode cL_law 301 = .ok (.invokevirtual 96, 3) := by decide +kernel
theorem dL_law_304 : decode cL_law 304 = .ok (.istore 6, 2) := by decide +kernel
theorem dL_law_306 : decode cL_law 306 = .ok (.aload_n 2, 1) := by decide +kernel
theorem dL_law_307 : decode cL_law 307 = .ok (.invokevirtual 90, 3) := by decide +kernel
theorem dL_law_310 : decode cL_law 310 = .ok (.iload 5, 2) := by decide +kernel
theorem dL_law_312 : decode cL_law 312 = .ok (.if_icmp .eq 5, 3) := by decide +kernel
theorem dL_law_317 : decode cL_law 317 = .ok (.iload 5, 2) := by decide +kernel
theorem dL_law_319 : decode cL_law 319 = .ok (.ifCond .ne 15, 3) := by decide +kernel
theorem dL_law_334 : decode cL_law 334 = .ok (.goto 1152, 3) := by decide +kernel
theorem dL_law_322 : decode cL_law 322 = .ok (.aload_n 3, 1) := by decide +kernel
theorem dL_law_323 : decode cL_law 323 = .ok (.iconst 0, 1) := by decide +kernel
theorem dL_law_324 : decode cL_law 324 = .ok (.laload, 1) := by decide +kernel
theorem dL_law_325 : decode cL_law 325 = .ok (.iload 6, 2) := by decide +kernel
theorem dL_law_327 : decode cL_law 327 = .ok (.i2l, 1) := by decide +kernel
theorem dL_law_328 : decode cL_law 328 = .ok (.lcmp, 1) := by decide +kernel
theorem dL_law_329 : decode cL_law 329 = .ok (.ifCond .eq 5, 3) := by decide +kernel
theorem dL_law_337 : decode cL_law 337 = .ok (.aload_n 1, 1) := by decide +kernel
theorem dL_law_338 : decode cL_law 338 = .ok (.invokevirtual 97, 3) := by decide +kernel
theorem dL_law_341 : decode cL_law 341 = .ok (.aload_n 2, 1) := by decide +kernel
theorem dL_law_342 : decode cL_law 342 = .ok (.invokevirtual 100, 3) := by decide +kernel
theorem dL_law_345 : decode cL_law 345 = .ok (.if_icmp .eq 1141, 3) := by decide +kernel
theorem dL_law_350 : decode cL_law 350 = .ok (.aload_n 1, 1) := by decide +kernel
theorem dL_law_351 : decode cL_law 351 = .ok (.aload_n 0, 1) := by decide +kernel
theorem dL_law_352 : decode cL_law 352 = .ok (.iload 4, 2) := by decide +kernel
theorem dL_law_354 : decode cL_law 354 = .ok (.iconst 1, 1) := by decide +kernel
theorem dL_law_355 : decode cL_law 355 = .ok (.iadd, 1) := by decide +kernel
theorem dL_law_356 : decode cL_law 356 = .ok (.iaload, 1) := by decide +kernel
theorem dL_law_357 : decode cL_law 357 = .ok (.aload_n 3, 1) := by decide +kernel
theorem dL_law_358 : decode cL_law 358 = .ok (.invokestatic 101, 3) := by decide +kernel
theorem dL_law_361 : decode cL_law 361 = .ok (.istore 5, 2) := by decide +kernel
theorem dL_law_363 : decode cL_law 363 = .ok (.aload_n 2, 1) := by decide +kernel
theorem dL_law_364 : decode cL_law 364 = .ok (.aload_n 0, 1) := by decide +kernel
theorem dL_law_365 : decode cL_law 365 = .ok (.iload 4, 2) := by decide +kernel
theorem dL_law_367 : decode cL_law 367 = .ok (.iconst 1, 1) := by decide +kernel
theorem dL_law_368 : decode cL_law 368 = .ok (.iadd, 1) := by decide +kernel
theorem dL_law_369 : decode cL_law 369 = .ok (.iaload, 1) := by decide +kernel
theorem dL_law_370 : decode cL_law 370 = .ok (.invokevirtual 103, 3) := by decide +kernel
theorem dL_law_373 : decode cL_law 373 = .ok (.istore 6, 2) := by decide +kernel
theorem dL_law_375 : decode cL_law 375 = .ok (.aload_n 2, 1) := by decide +kernel
theorem dL_law_376 : decode cL_law 376 = .ok (.invokevirtual 90, 3) := by decide +kernel
theorem dL_law_379 : decode cL_law 379 = .ok (.iload 5, 2) := by decide +kernel
theorem dL_law_381 : decode cL_law 381 = .ok (.if_icmp .eq 5, 3) := by decide +kernel
theorem dL_law_386 : decode cL_law 386 = .ok (.iload 5, 2) := by decide +kernel
theorem dL_law_388 : decode cL_law 388 = .ok (.ifCond .ne 15, 3) := by decide +kernel
theorem dL_law_403 : decode cL_law 403 = .ok (.goto 1083, 3) := by decide +kernel
theorem dL_law_406 : decode cL_law 406 = .ok (.aload_n 1, 1) := by decide +kernel
theorem dL_law_407 : decode cL_law 407 = .ok (.aload_n 0, 1) := by decide +kernel
theorem dL_law_408 : decode cL_law 408 = .ok (.iload 4, 2) := by decide +kernel
theorem dL_law_410 : decode cL_law 410 = .ok (.iconst 1, 1) := by decide +kernel
theorem dL_law_411 : decode cL_law 411 = .ok (.iadd, 1) := by decide +kernel
theorem dL_law_412 : decode cL_law 412 = .ok (.iaload, 1) := by decide +kernel
theorem dL_law_413 : decode cL_law 413 = .ok (.aload_n 3, 1) := by decide +kernel
theorem dL_law_414 : decode cL_law 414 = .ok (.invokestatic 104, 3) := by decide +kernel
theorem dL_law_417 : decode cL_law 417 = .ok (.istore 5, 2) := by decide +kernel
theorem dL_law_419 : decode cL_law 419 = .ok (.aload_n 2, 1) := by decide +kernel
theorem dL_law_420 : decode cL_law 420 = .ok (.aload_n 0, 1) := by decide +kernel
theorem dL_law_421 : decode cL_law 421 = .ok (.iload 4, 2) := by decide +kernel
theorem dL_law_423 : decode cL_law 423 = .ok (.iconst 1, 1) := by decide +kernel
theorem dL_law_424 : decode cL_law 424 = .ok (.iadd, 1) := by decide +kernel
theorem dL_law_425 : decode cL_law 425 = .ok (.iaload, 1) := by decide +kernel
theorem dL_law_426 : decode cL_law 426 = .ok (.invokevirtual 106, 3) := by decide +kernel
theorem dL_law_429 : decode cL_law 429 = .ok (.istore 6, 2) := by decide +kernel
theorem dL_law_431 : decode cL_law 431 = .ok (.aload_n 2, 1) := by decide +kernel
theorem dL_law_432 : decode cL_law 432 = .ok (.invokevirtual 90, 3) := by decide +kernel
theorem dL_law_435 : decode cL_law 435 = .ok (.iload 5, 2) := by decide +kernel
theorem dL_law_437 : decode cL_law 437 = .ok (.if_icmp .eq 5, 3) := by decide +kernel
theorem dL_law_442 : decode cL_law 442 = .ok (.iload 5, 2) := by decide +kernel
theorem dL_law_444 : decode cL_law 444 = .ok (.ifCond .ne 15, 3) := by decide +kernel
theorem dL_law_459 : decode cL_law 459 = .ok (.goto 1027, 3) := by decide +kernel
theorem dL_law_462 : decode cL_law 462 = .ok (.aload_n 1, 1) := by decide +kernel
theorem dL_law_463 : decode cL_law 463 = .ok (.invokevirtual 107, 3) := by decide +kernel
theorem dL_law_466 : decode cL_law 466 = .ok (.aload_n 2, 1) := by decide +kernel
theorem dL_law_467 : decode cL_law 467 = .ok (.invokevirtual 110, 3) := by decide +kernel
theorem dL_law_470 : decode cL_law 470 = .ok (.if_icmp .eq 1016, 3) := by decide +kernel
theorem dL_law_475 : decode cL_law 475 = .ok (.aload_n 1, 1) := by decide +kernel
theorem dL_law_476 : decode cL_law 476 = .ok (.aload_n 0, 1) := by decide +kernel
theorem dL_law_477 : decode cL_law 477 = .ok (.iload 4, 2) := by decide +kernel
theorem dL_law_479 : decode cL_law 479 = .ok (.iconst 1, 1) := by decide +kernel
theorem dL_law_480 : decode cL_law 480 = .ok (.iadd, 1) := by decide +kernel
theorem dL_law_481 : decode cL_law 481 = .ok (.iaload, 1) := by decide +kernel
theorem dL_law_482 : decode cL_law 482 = .ok (.aload_n 3, 1) := by decide +kernel
theorem dL_law_483 : decode cL_law 483 = .ok (.invokestatic 111, 3) := by decide +kernel
theorem dL_law_486 : decode cL_law 486 = .ok (.istore 5, 2) := by decide +kernel
theorem dL_law_488 : decode cL_law 488 = .ok (.aload_n 2, 1) := by decide +kernel
theorem dL_law_489 : decode cL_law 489 = .ok (.aload_n 0, 1) := by decide +kernel
theorem dL_law_490 : decode cL_law 490 = .ok (.iload 4, 2) := by decide +kernel
theorem dL_law_492 : decode cL_law 492 = .ok (.iconst 1, 1) := by decide +kernel
theorem dL_law_493 : decode cL_law 493 = .ok (.iadd, 1) := by decide +kernel
theorem dL_law_494 : decode cL_law 494 = .ok (.iaload, 1) := by decide +kernel
theorem dL_law_495 : decode cL_law 495 = .ok (.invokevirtual 113, 3) := by decide +kernel
theorem dL_law_498 : decode cL_law 498 = .ok (.istore 6, 2) := by decide +kernel
theorem dL_law_500 : decode cL_law 500 = .ok (.aload_n 2, 1) := by decide +kernel
theorem dL_law_501 : decode cL_law 501 = .ok (.invokevirtual 90, 3) := by decide +kernel
theorem dL_law_504 : decode cL_law 504 = .ok (.iload 5, 2) := by decide +kernel
theorem dL_law_506 : decode cL_law 506 = .ok (.if_icmp .eq 5, 3) := by decide +kernel
theorem dL_law_511 : decode cL_law 511 = .ok (.iload 5, 2) := by decide +kernel
theorem dL_law_513 : decode cL_law 513 = .ok (.ifCond .ne 15, 3) := by decide +kernel
theorem dL_law_528 : decode cL_law 528 = .ok (.goto 958, 3) := by decide +kernel
theorem dL_law_516 : decode cL_law 516 = .ok (.aload_n 3, 1) := by decide +kernel
theorem dL_law_517 : decode cL_law 517 = .ok (.iconst 0, 1) := by decide +kernel
theorem dL_law_518 : decode cL_law 518 = .ok (.laload, 1) := by decide +kernel
theorem dL_law_519 : decode cL_law 519 = .ok (.iload 6, 2) := by decide +kernel
theorem dL_law_521 : decode cL_law 521 = .ok (.i2l, 1) := by decide +kernel
theorem dL_law_522 : decode cL_law 522 = .ok (.lcmp, 1) := by decide +kernel
theorem dL_law_523 : decode cL_law 523 = .ok (.ifCond .eq 5, 3) := by decide +kernel
theorem dL_law_531 : decode cL_law 531 = .ok (.aload_n 1, 1) := by decide +kernel
theorem dL_law_532 : decode cL_law 532 = .ok (.aload_n 0, 1) := by decide +kernel
theorem dL_law_533 : decode cL_law 533 = .ok (.iload 4, 2) := by decide +kernel
theorem dL_law_535 : decode cL_law 535 = .ok (.iconst 1, 1) := by decide +kernel
theorem dL_law_536 : decode cL_law 536 = .ok (.iadd, 1) := by decide +kernel
theorem dL_law_537 : decode cL_law 537 = .ok (.iaload, 1) := by decide +kernel
theorem dL_law_538 : decode cL_law 538 = .ok (.aload_n 0, 1) := by decide +kernel
theorem dL_law_539 : decode cL_law 539 = .ok (.iload 4, 2) := by decide +kernel
theorem dL_law_541 : decode cL_law 541 = .ok (.iconst 2, 1) := by decide +kernel
theorem dL_law_542 : decode cL_law 542 = .ok (.iadd, 1) := by decide +kernel
theorem dL_law_543 : decode cL_law 543 = .ok (.iaload, 1) := by decide +kernel
theorem dL_law_544 : decode cL_law 544 = .ok (.aload_n 3, 1) := by decide +kernel
theorem dL_law_545 : decode cL_law 545 = .ok (.invokestatic 114, 3) := by decide +kernel
theorem dL_law_548 : decode cL_law 548 = .ok (.istore 5, 2) := by decide +kernel
theorem dL_law_550 : decode cL_law 550 = .ok (.aload_n 2, 1) := by decide +kernel
theorem dL_law_551 : decode cL_law 551 = .ok (.aload_n 0, 1) := by decide +kernel
theorem dL_law_552 : decode cL_law 552 = .ok (.iload 4, 2) := by decide +kernel
theorem dL_law_554 : decode cL_law 554 = .ok (.iconst 1, 1) := by decide +kernel
theorem dL_law_555 : decode cL_law 555 = .ok (.iadd, 1) := by decide +kernel
theorem dL_law_556 : decode cL_law 556 = .ok (.iaload, 1) := by decide +kernel
theorem dL_law_557 : decode cL_law 557 = .ok (.aload_n 0, 1) := by decide +kernel
theorem dL_law_558 : decode cL_law 558 = .ok (.iload 4, 2) := by decide +kernel
theorem dL_law_560 : decode cL_law 560 = .ok (.iconst 2, 1) := by decide +kernel
theorem dL_law_561 : decode cL_law 561 = .ok (.iadd, 1) := by decide +kernel
theorem dL_law_562 : decode cL_law 562 = .ok (.iaload, 1) := by decide +kernel
theorem dL_law_563 : decode cL_law 563 = .ok (.invokevirtual 117, 3) := by decide +kernel
theorem dL_law_566 : decode cL_law 566 = .ok (.istore 6, 2) := by decide +kernel
theorem dL_law_568 : decode cL_law 568 = .ok (.aload_n 2, 1) := by decide +kernel
theorem dL_law_569 : decode cL_law 569 = .ok (.invokevirtual 90, 3) := by decide +kernel
theorem dL_law_572 : decode cL_law 572 = .ok (.iload 5, 2) := by decide +kernel
theorem dL_law_574 : decode cL_law 574 = .ok (.if_icmp .eq 5, 3) := by decide +kernel
theorem dL_law_579 : decode cL_law 579 = .ok (.iload 5, 2) := by decide +kernel
theorem dL_law_581 : decode cL_law 581 = .ok (.ifCond .ne 15, 3) := by decide +kernel
theorem dL_law_596 : decode cL_law 596 = .ok (.goto 890, 3) := by decide +kernel
theorem dL_law_599 : decode cL_law 599 = .ok (.aload_n 1, 1) := by decide +kernel
theorem dL_law_600 : decode cL_law 600 = .ok (.aload_n 0, 1) := by decide +kernel
theorem dL_law_601 : decode cL_law 601 = .ok (.iload 4, 2) := by decide +kernel
theorem dL_law_603 : decode cL_law 603 = .ok (.iconst 1, 1) := by decide +kernel
theorem dL_law_604 : decode cL_law 604 = .ok (.iadd, 1) := by decide +kernel
theorem dL_law_605 : decode cL_law 605 = .ok (.iaload, 1) := by decide +kernel
theorem dL_law_606 : decode cL_law 606 = .ok (.aload_n 0, 1) := by decide +kernel
theorem dL_law_607 : decode cL_law 607 = .ok (.iload 4, 2) := by decide +kernel
theorem dL_law_609 : decode cL_law 609 = .ok (.iconst 2, 1) := by decide +kernel
theorem dL_law_610 : decode cL_law 610 = .ok (.iadd, 1) := by decide +kernel
theorem dL_law_611 : decode cL_law 611 = .ok (.iaload, 1) := by decide +kernel
theorem dL_law_612 : decode cL_law 612 = .ok (.aload_n 3, 1) := by decide +kernel
theorem dL_law_613 : decode cL_law 613 = .ok (.invokestatic 118, 3) := by decide +kernel
theorem dL_law_616 : decode cL_law 616 = .ok (.istore 5, 2) := by decide +kernel
theorem dL_law_618 : decode cL_law 618 = .ok (.aload_n 2, 1) := by decide +kernel
theorem dL_law_619 : decode cL_law 619 = .ok (.aload_n 0, 1) := by decide +kernel
theorem dL_law_620 : decode cL_law 620 = .ok (.iload 4, 2) := by decide +kernel
theorem dL_law_622 : decode cL_law 622 = .ok (.iconst 1, 1) := by decide +kernel
theorem dL_law_623 : decode cL_law 623 = .ok (.iadd, 1) := by decide +kernel
theorem dL_law_624 : decode cL_law 624 = .ok (.iaload, 1) := by decide +kernel
theorem dL_law_625 : decode cL_law 625 = .ok (.aload_n 0, 1) := by decide +kernel
theorem dL_law_626 : decode cL_law 626 = .ok (.iload 4, 2) := by decide +kernel
theorem dL_law_628 : decode cL_law 628 = .ok (.iconst 2, 1) := by decide +kernel
theorem dL_law_629 : decode cL_law 629 = .ok (.iadd, 1) := by decide +kernel
theorem dL_law_630 : decode cL_law 630 = .ok (.iaload, 1) := by decide +kernel
theorem dL_law_631 : decode cL_law 631 = .ok (.invokevirtual 120, 3) := by decide +kernel
theorem dL_law_634 : decode cL_law 634 = .ok (.istore 6, 2) := by decide +kernel
theorem dL_law_636 : decode cL_law 636 = .ok (.aload_n 2, 1) := by decide +kernel
theorem dL_law_637 : decode cL_law 637 = .ok (.invokevirtual 90, 3) := by decide +kernel
theorem dL_law_640 : decode cL_law 640 = .ok (.iload 5, 2) := by decide +kernel
theorem dL_law_642 : decode cL_law 642 = .ok (.if_icmp .eq 5, 3) := by decide +kernel
theorem dL_law_647 : decode cL_law 647 = .ok (.iload 5, 2) := by decide +kernel
theorem dL_law_649 : decode cL_law 649 = .ok (.ifCond .ne 15, 3) := by decide +kernel
theorem dL_law_664 : decode cL_law 664 = .ok (.goto 822, 3) := by decide +kernel
theorem dL_law_667 : decode cL_law 667 = .ok (.aload_n 1, 1) := by decide +kernel
theorem dL_law_668 : decode cL_law 668 = .ok (.aload_n 0, 1) := by decide +kernel
theorem dL_law_669 : decode cL_law 669 = .ok (.iload 4, 2) := by decide +kernel
theorem dL_law_671 : decode cL_law 671 = .ok (.iconst 1, 1) := by decide +kernel
theorem dL_law_672 : decode cL_law 672 = .ok (.iadd, 1) := by decide +kernel
theorem dL_law_673 : decode cL_law 673 = .ok (.iaload, 1) := by decide +kernel
theorem dL_law_674 : decode cL_law 674 = .ok (.aload_n 0, 1) := by decide +kernel
theorem dL_law_675 : decode cL_law 675 = .ok (.iload 4, 2) := by decide +kernel
theorem dL_law_677 : decode cL_law 677 = .ok (.iconst 2, 1) := by decide +kernel
theorem dL_law_678 : decode cL_law 678 = .ok (.iadd, 1) := by decide +kernel
theorem dL_law_679 : decode cL_law 679 = .ok (.iaload, 1) := by decide +kernel
theorem dL_law_680 : decode cL_law 680 = .ok (.aload_n 3, 1) := by decide +kernel
theorem dL_law_681 : decode cL_law 681 = .ok (.invokestatic 121, 3) := by decide +kernel
theorem dL_law_684 : decode cL_law 684 = .ok (.istore 5, 2) := by decide +kernel
theorem dL_law_686 : decode cL_law 686 = .ok (.aload_n 2, 1) := by decide +kernel
theorem dL_law_687 : decode cL_law 687 = .ok (.aload_n 0, 1) := by decide +kernel
theorem dL_law_688 : decode cL_law 688 = .ok (.iload 4, 2) := by decide +kernel
theorem dL_law_690 : decode cL_law 690 = .ok (.iconst 1, 1) := by decide +kernel
theorem dL_law_691 : decode cL_law 691 = .ok (.iadd, 1) := by decide +kernel
theorem dL_law_692 : decode cL_law 692 = .ok (.iaload, 1) := by decide +kernel
theorem dL_law_693 : decode cL_law 693 = .ok (.aload_n 0, 1) := by decide +kernel
theorem dL_law_694 : decode cL_law 694 = .ok (.iload 4, 2) := by decide +kernel
theorem dL_law_696 : decode cL_law 696 = .ok (.iconst 2, 1) := by decide +kernel
theorem dL_law_697 : decode cL_law 697 = .ok (.iadd, 1) := by decide +kernel
theorem dL_law_698 : decode cL_law 698 = .ok (.iaload, 1) := by decide +kernel
theorem dL_law_699 : decode cL_law 699 = .ok (.invokevirtual 123, 3) := by decide +kernel
theorem dL_law_702 : decode cL_law 702 = .ok (.istore 6, 2) := by decide +kernel
theorem dL_law_704 : decode cL_law 704 = .ok (.aload_n 2, 1) := by decide +kernel
theorem dL_law_705 : decode cL_law 705 = .ok (.invokevirtual 90, 3) := by decide +kernel
theorem dL_law_708 : decode cL_law 708 = .ok (.iload 5, 2) := by decide +kernel
theorem dL_law_710 : decode cL_law 710 = .ok (.if_icmp .eq 5, 3) := by decide +kernel
theorem dL_law_715 : decode cL_law 715 = .ok (.iload 5, 2) := by decide +kernel
theorem dL_law_717 : decode cL_law 717 = .ok (.ifCond .ne 15, 3) := by decide +kernel
theorem dL_law_732 : decode cL_law 732 = .ok (.goto 754, 3) := by decide +kernel
theorem dL_law_735 : decode cL_law 735 = .ok (.aload_n 1, 1) := by decide +kernel
theorem dL_law_736 : decode cL_law 736 = .ok (.aload_n 0, 1) := by decide +kernel
theorem dL_law_737 : decode cL_law 737 = .ok (.iload 4, 2) := by decide +kernel
theorem dL_law_739 : decode cL_law 739 = .ok (.iconst 1, 1) := by decide +kernel
theorem dL_law_740 : decode cL_law 740 = .ok (.iadd, 1) := by decide +kernel
theorem dL_law_741 : decode cL_law 741 = .ok (.iaload, 1) := by decide +kernel
theorem dL_law_742 : decode cL_law 742 = .ok (.aload_n 0, 1) := by decide +kernel
theorem dL_law_743 : decode cL_law 743 = .ok (.iload 4, 2) := by decide +kernel
theorem dL_law_745 : decode cL_law 745 = .ok (.iconst 2, 1) := by decide +kernel
theorem dL_law_746 : decode cL_law 746 = .ok (.iadd, 1) := by decide +kernel
theorem dL_law_747 : decode cL_law 747 = .ok (.iaload, 1) := by decide +kernel
theorem dL_law_748 : decode cL_law 748 = .ok (.aload_n 0, 1) := by decide +kernel
theorem dL_law_749 : decode cL_law 749 = .ok (.iload 4, 2) := by decide +kernel
theorem dL_law_751 : decode cL_law 751 = .ok (.iconst 3, 1) := by decide +kernel
theorem dL_law_752 : decode cL_law 752 = .ok (.iadd, 1) := by decide +kernel
theorem dL_law_753 : decode cL_law 753 = .ok (.iaload, 1) := by decide +kernel
theorem dL_law_754 : decode cL_law 754 = .ok (.aload_n 3, 1) := by decide +kernel
theorem dL_law_755 : decode cL_law 755 = .ok (.invokestatic 124, 3) := by decide +kernel
theorem dL_law_758 : decode cL_law 758 = .ok (.istore 5, 2) := by decide +kernel
theorem dL_law_760 : decode cL_law 760 = .ok (.aload_n 2, 1) := by decide +kernel
theorem dL_law_761 : decode cL_law 761 = .ok (.aload_n 0, 1) := by decide +kernel
theorem dL_law_762 : decode cL_law 762 = .ok (.iload 4, 2) := by decide +kernel
theorem dL_law_764 : decode cL_law 764 = .ok (.iconst 1, 1) := by decide +kernel
theorem dL_law_765 : decode cL_law 765 = .ok (.iadd, 1) := by decide +kernel
theorem dL_law_766 : decode cL_law 766 = .ok (.iaload, 1) := by decide +kernel
theorem dL_law_767 : decode cL_law 767 = .ok (.aload_n 0, 1) := by decide +kernel
theorem dL_law_768 : decode cL_law 768 = .ok (.iload 4, 2) := by decide +kernel
theorem dL_law_770 : decode cL_law 770 = .ok (.iconst 2, 1) := by decide +kernel
theorem dL_law_771 : decode cL_law 771 = .ok (.iadd, 1) := by decide +kernel
theorem dL_law_772 : decode cL_law 772 = .ok (.iaload, 1) := by decide +kernel
theorem dL_law_773 : decode cL_law 773 = .ok (.aload_n 0, 1) := by decide +kernel
theorem dL_law_774 : decode cL_law 774 = .ok (.iload 4, 2) := by decide +kernel
theorem dL_law_776 : decode cL_law 776 = .ok (.iconst 3, 1) := by decide +kernel
theorem dL_law_777 : decode cL_law 777 = .ok (.iadd, 1) := by decide +kernel
theorem dL_law_778 : decode cL_law 778 = .ok (.iaload, 1) := by decide +kernel
theorem dL_law_779 : decode cL_law 779 = .ok (.invokevirtual 127, 3) := by decide +kernel
theorem dL_law_782 : decode cL_law 782 = .ok (.istore 6, 2) := by decide +kernel
theorem dL_law_784 : decode cL_law 784 = .ok (.aload_n 2, 1) := by decide +kernel
theorem dL_law_785 : decode cL_law 785 = .ok (.invokevirtual 90, 3) := by decide +kernel
theorem dL_law_788 : decode cL_law 788 = .ok (.iload 5, 2) := by decide +kernel
theorem dL_law_790 : decode cL_law 790 = .ok (.if_icmp .eq 5, 3) := by decide +kernel
theorem dL_law_795 : decode cL_law 795 = .ok (.iload 5, 2) := by decide +kernel
theorem dL_law_797 : decode cL_law 797 = .ok (.ifCond .ne 15, 3) := by decide +kernel
theorem dL_law_812 : decode cL_law 812 = .ok (.goto 674, 3) := by decide +kernel
theorem dL_law_815 : decode cL_law 815 = .ok (.aload_n 1, 1) := by decide +kernel
theorem dL_law_816 : decode cL_law 816 = .ok (.aload_n 0, 1) := by decide +kernel
theorem dL_law_817 : decode cL_law 817 = .ok (.iload 4, 2) := by decide +kernel
theorem dL_law_819 : decode cL_law 819 = .ok (.iconst 1, 1) := by decide +kernel
theorem dL_law_820 : decode cL_law 820 = .ok (.iadd, 1) := by decide +kernel
theorem dL_law_821 : decode cL_law 821 = .ok (.iaload, 1) := by decide +kernel
theorem dL_law_822 : decode cL_law 822 = .ok (.aload_n 0, 1) := by decide +kernel
theorem dL_law_823 : decode cL_law 823 = .ok (.iload 4, 2) := by decide +kernel
theorem dL_law_825 : decode cL_law 825 = .ok (.iconst 2, 1) := by decide +kernel
theorem dL_law_826 : decode cL_law 826 = .ok (.iadd, 1) := by decide +kernel
theorem dL_law_827 : decode cL_law 827 = .ok (.iaload, 1) := by decide +kernel
theorem dL_law_828 : decode cL_law 828 = .ok (.aload_n 0, 1) := by decide +kernel
theorem dL_law_829 : decode cL_law 829 = .ok (.iload 4, 2) := by decide +kernel
theorem dL_law_831 : decode cL_law 831 = .ok (.iconst 3, 1) := by decide +kernel
theorem dL_law_832 : decode cL_law 832 = .ok (.iadd, 1) := by decide +kernel
theorem dL_law_833 : decode cL_law 833 = .ok (.iaload, 1) := by decide +kernel
theorem dL_law_834 : decode cL_law 834 = .ok (.aload_n 3, 1) := by decide +kernel
theorem dL_law_835 : decode cL_law 835 = .ok (.invokestatic 128, 3) := by decide +kernel
theorem dL_law_838 : decode cL_law 838 = .ok (.istore 5, 2) := by decide +kernel
theorem dL_law_840 : decode cL_law 840 = .ok (.aload_n 2, 1) := by decide +kernel
theorem dL_law_841 : decode cL_law 841 = .ok (.aload_n 0, 1) := by decide +kernel
theorem dL_law_842 : decode cL_law 842 = .ok (.iload 4, 2) := by decide +kernel
theorem dL_law_844 : decode cL_law 844 = .ok (.iconst 1, 1) := by decide +kernel
theorem dL_law_845 : decode cL_law 845 = .ok (.iadd, 1) := by decide +kernel
theorem dL_law_846 : decode cL_law 846 = .ok (.iaload, 1) := by decide +kernel
theorem dL_law_847 : decode cL_law 847 = .ok (.aload_n 0, 1) := by decide +kernel
theorem dL_law_848 : decode cL_law 848 = .ok (.iload 4, 2) := by decide +kernel
theorem dL_law_850 : decode cL_law 850 = .ok (.iconst 2, 1) := by decide +kernel
theorem dL_law_851 : decode cL_law 851 = .ok (.iadd, 1) := by decide +kernel
theorem dL_law_852 : decode cL_law 852 = .ok (.iaload, 1) := by decide +kernel
theorem dL_law_853 : decode cL_law 853 = .ok (.aload_n 0, 1) := by decide +kernel
theorem dL_law_854 : decode cL_law 854 = .ok (.iload 4, 2) := by decide +kernel
theorem dL_law_856 : decode cL_law 856 = .ok (.iconst 3, 1) := by decide +kernel
theorem dL_law_857 : decode cL_law 857 = .ok (.iadd, 1) := by decide +kernel
theorem dL_law_858 : decode cL_law 858 = .ok (.iaload, 1) := by decide +kernel
theorem dL_law_859 : decode cL_law 859 = .ok (.invokevirtual 130, 3) := by decide +kernel
theorem dL_law_862 : decode cL_law 862 = .ok (.istore 6, 2) := by decide +kernel
theorem dL_law_864 : decode cL_law 864 = .ok (.aload_n 2, 1) := by decide +kernel
theorem dL_law_865 : decode cL_law 865 = .ok (.invokevirtual 90, 3) := by decide +kernel
theorem dL_law_868 : decode cL_law 868 = .ok (.iload 5, 2) := by decide +kernel
theorem dL_law_870 : decode cL_law 870 = .ok (.if_icmp .eq 5, 3) := by decide +kernel
theorem dL_law_875 : decode cL_law 875 = .ok (.iload 5, 2) := by decide +kernel
theorem dL_law_877 : decode cL_law 877 = .ok (.ifCond .ne 15, 3) := by decide +kernel
theorem dL_law_892 : decode cL_law 892 = .ok (.goto 594, 3) := by decide +kernel
theorem dL_law_895 : decode cL_law 895 = .ok (.aload_n 1, 1) := by decide +kernel
theorem dL_law_896 : decode cL_law 896 = .ok (.aload_n 0, 1) := by decide +kernel
theorem dL_law_897 : decode cL_law 897 = .ok (.iload 4, 2) := by decide +kernel
theorem dL_law_899 : decode cL_law 899 = .ok (.iconst 1, 1) := by decide +kernel
theorem dL_law_900 : decode cL_law 900 = .ok (.iadd, 1) := by decide +kernel
theorem dL_law_901 : decode cL_law 901 = .ok (.iaload, 1) := by decide +kernel
theorem dL_law_902 : decode cL_law 902 = .ok (.aload_n 0, 1) := by decide +kernel
theorem dL_law_903 : decode cL_law 903 = .ok (.iload 4, 2) := by decide +kernel
theorem dL_law_905 : decode cL_law 905 = .ok (.iconst 2, 1) := by decide +kernel
theorem dL_law_906 : decode cL_law 906 = .ok (.iadd, 1) := by decide +kernel
theorem dL_law_907 : decode cL_law 907 = .ok (.iaload, 1) := by decide +kernel
theorem dL_law_908 : decode cL_law 908 = .ok (.aload_n 3, 1) := by decide +kernel
theorem dL_law_909 : decode cL_law 909 = .ok (.invokestatic 131, 3) := by decide +kernel
theorem dL_law_912 : decode cL_law 912 = .ok (.istore 5, 2) := by decide +kernel
theorem dL_law_914 : decode cL_law 914 = .ok (.aload_n 2, 1) := by decide +kernel
theorem dL_law_915 : decode cL_law 915 = .ok (.aload_n 0, 1) := by decide +kernel
theorem dL_law_916 : decode cL_law 916 = .ok (.iload 4, 2) := by decide +kernel
theorem dL_law_918 : decode cL_law 918 = .ok (.iconst 1, 1) := by decide +kernel
theorem dL_law_919 : decode cL_law 919 = .ok (.iadd, 1) := by decide +kernel
theorem dL_law_920 : decode cL_law 920 = .ok (.iaload, 1) := by decide +kernel
theorem dL_law_921 : decode cL_law 921 = .ok (.aload_n 0, 1) := by decide +kernel
theorem dL_law_922 : decode cL_law 922 = .ok (.iload 4, 2) := by decide +kernel
theorem dL_law_924 : decode cL_law 924 = .ok (.iconst 2, 1) := by decide +kernel
theorem dL_law_925 : decode cL_law 925 = .ok (.iadd, 1) := by decide +kernel
theorem dL_law_926 : decode cL_law 926 = .ok (.iaload, 1) := by decide +kernel
theorem dL_law_927 : decode cL_law 927 = .ok (.invokevirtual 133, 3) := by decide +kernel
theorem dL_law_930 : decode cL_law 930 = .ok (.istore 6, 2) := by decide +kernel
theorem dL_law_932 : decode cL_law 932 = .ok (.aload_n 2, 1) := by decide +kernel
theorem dL_law_933 : decode cL_law 933 = .ok (.invokevirtual 90, 3) := by decide +kernel
theorem dL_law_936 : decode cL_law 936 = .ok (.iload 5, 2) := by decide +kernel
theorem dL_law_938 : decode cL_law 938 = .ok (.if_icmp .eq 5, 3) := by decide +kernel
theorem dL_law_943 : decode cL_law 943 = .ok (.iload 5, 2) := by decide +kernel
theorem dL_law_945 : decode cL_law 945 = .ok (.ifCond .ne 15, 3) := by decide +kernel
theorem dL_law_960 : decode cL_law 960 = .ok (.goto 526, 3) := by decide +kernel
theorem dL_law_963 : decode cL_law 963 = .ok (.aload_n 1, 1) := by decide +kernel
theorem dL_law_964 : decode cL_law 964 = .ok (.aload_n 0, 1) := by decide +kernel
theorem dL_law_965 : decode cL_law 965 = .ok (.iload 4, 2) := by decide +kernel
theorem dL_law_967 : decode cL_law 967 = .ok (.iconst 1, 1) := by decide +kernel
theorem dL_law_968 : decode cL_law 968 = .ok (.iadd, 1) := by decide +kernel
theorem dL_law_969 : decode cL_law 969 = .ok (.iaload, 1) := by decide +kernel
theorem dL_law_970 : decode cL_law 970 = .ok (.aload_n 3, 1) := by decide +kernel
theorem dL_law_971 : decode cL_law 971 = .ok (.invokestatic 134, 3) := by decide +kernel
theorem dL_law_974 : decode cL_law 974 = .ok (.istore 5, 2) := by decide +kernel
theorem dL_law_976 : decode cL_law 976 = .ok (.aload_n 2, 1) := by decide +kernel
theorem dL_law_977 : decode cL_law 977 = .ok (.aload_n 0, 1) := by decide +kernel
theorem dL_law_978 : decode cL_law 978 = .ok (.iload 4, 2) := by decide +kernel
theorem dL_law_980 : decode cL_law 980 = .ok (.iconst 1, 1) := by decide +kernel
theorem dL_law_981 : decode cL_law 981 = .ok (.iadd, 1) := by decide +kernel
theorem dL_law_982 : decode cL_law 982 = .ok (.iaload, 1) := by decide +kernel
theorem dL_law_983 : decode cL_law 983 = .ok (.invokevirtual 136, 3) := by decide +kernel
theorem dL_law_986 : decode cL_law 986 = .ok (.istore 6, 2) := by decide +kernel
theorem dL_law_988 : decode cL_law 988 = .ok (.aload_n 2, 1) := by decide +kernel
theorem dL_law_989 : decode cL_law 989 = .ok (.invokevirtual 90, 3) := by decide +kernel
theorem dL_law_992 : decode cL_law 992 = .ok (.iload 5, 2) := by decide +kernel
theorem dL_law_994 : decode cL_law 994 = .ok (.if_icmp .eq 5, 3) := by decide +kernel
theorem dL_law_999 : decode cL_law 999 = .ok (.iload 5, 2) := by decide +kernel
theorem dL_law_1001 : decode cL_law 1001 = .ok (.ifCond .ne 15, 3) := by decide +kernel
theorem dL_law_1016 : decode cL_law 1016 = .ok (.goto 470, 3) := by decide +kernel
theorem dL_law_1004 : decode cL_law 1004 = .ok (.aload_n 3, 1) := by decide +kernel
theorem dL_law_1005 : decode cL_law 1005 = .ok (.iconst 0, 1) := by decide +kernel
theorem dL_law_1006 : decode cL_law 1006 = .ok (.laload, 1) := by decide +kernel
theorem dL_law_1007 : decode cL_law 1007 = .ok (.iload 6, 2) := by decide +kernel
theorem dL_law_1009 : decode cL_law 1009 = .ok (.i2l, 1) := by decide +kernel
theorem dL_law_1010 : decode cL_law 1010 = .ok (.lcmp, 1) := by decide +kernel
theorem dL_law_1011 : decode cL_law 1011 = .ok (.ifCond .eq 5, 3) := by decide +kernel
theorem dL_law_1019 : decode cL_law 1019 = .ok (.aload_n 1, 1) := by decide +kernel
theorem dL_law_1020 : decode cL_law 1020 = .ok (.aload_n 0, 1) := by decide +kernel
theorem dL_law_1021 : decode cL_law 1021 = .ok (.iload 4, 2) := by decide +kernel
theorem dL_law_1023 : decode cL_law 1023 = .ok (.iconst 1, 1) := by decide +kernel
theorem dL_law_1024 : decode cL_law 1024 = .ok (.iadd, 1) := by decide +kernel
theorem dL_law_1025 : decode cL_law 1025 = .ok (.iaload, 1) := by decide +kernel
theorem dL_law_1026 : decode cL_law 1026 = .ok (.aload_n 3, 1) := by decide +kernel
theorem dL_law_1027 : decode cL_law 1027 = .ok (.invokestatic 137, 3) := by decide +kernel
theorem dL_law_1030 : decode cL_law 1030 = .ok (.istore 5, 2) := by decide +kernel
theorem dL_law_1032 : decode cL_law 1032 = .ok (.aload_n 2, 1) := by decide +kernel
theorem dL_law_1033 : decode cL_law 1033 = .ok (.aload_n 0, 1) := by decide +kernel
theorem dL_law_1034 : decode cL_law 1034 = .ok (.iload 4, 2) := by decide +kernel
theorem dL_law_1036 : decode cL_law 1036 = .ok (.iconst 1, 1) := by decide +kernel
theorem dL_law_1037 : decode cL_law 1037 = .ok (.iadd, 1) := by decide +kernel
theorem dL_law_1038 : decode cL_law 1038 = .ok (.iaload, 1) := by decide +kernel
theorem dL_law_1039 : decode cL_law 1039 = .ok (.invokevirtual 139, 3) := by decide +kernel
theorem dL_law_1042 : decode cL_law 1042 = .ok (.istore 6, 2) := by decide +kernel
theorem dL_law_1044 : decode cL_law 1044 = .ok (.aload_n 2, 1) := by decide +kernel
theorem dL_law_1045 : decode cL_law 1045 = .ok (.invokevirtual 90, 3) := by decide +kernel
theorem dL_law_1048 : decode cL_law 1048 = .ok (.iload 5, 2) := by decide +kernel
theorem dL_law_1050 : decode cL_law 1050 = .ok (.if_icmp .eq 5, 3) := by decide +kernel
theorem dL_law_1055 : decode cL_law 1055 = .ok (.iload 5, 2) := by decide +kernel
theorem dL_law_1057 : decode cL_law 1057 = .ok (.ifCond .ne 15, 3) := by decide +kernel
theorem dL_law_1072 : decode cL_law 1072 = .ok (.goto 414, 3) := by decide +kernel
theorem dL_law_1060 : decode cL_law 1060 = .ok (.aload_n 3, 1) := by decide +kernel
theorem dL_law_1061 : decode cL_law 1061 = .ok (.iconst 0, 1) := by decide +kernel
theorem dL_law_1062 : decode cL_law 1062 = .ok (.laload, 1) := by decide +kernel
theorem dL_law_1063 : decode cL_law 1063 = .ok (.iload 6, 2) := by decide +kernel
theorem dL_law_1065 : decode cL_law 1065 = .ok (.i2l, 1) := by decide +kernel
theorem dL_law_1066 : decode cL_law 1066 = .ok (.lcmp, 1) := by decide +kernel
theorem dL_law_1067 : decode cL_law 1067 = .ok (.ifCond .eq 5, 3) := by decide +kernel
theorem dL_law_1075 : decode cL_law 1075 = .ok (.aload_n 1, 1) := by decide +kernel
theorem dL_law_1076 : decode cL_law 1076 = .ok (.aload_n 0, 1) := by decide +kernel
theorem dL_law_1077 : decode cL_law 1077 = .ok (.iload 4, 2) := by decide +kernel
theorem dL_law_1079 : decode cL_law 1079 = .ok (.iconst 1, 1) := by decide +kernel
theorem dL_law_1080 : decode cL_law 1080 = .ok (.iadd, 1) := by decide +kernel
theorem dL_law_1081 : decode cL_law 1081 = .ok (.iaload, 1) := by decide +kernel
theorem dL_law_1082 : decode cL_law 1082 = .ok (.aload_n 3, 1) := by decide +kernel
theorem dL_law_1083 : decode cL_law 1083 = .ok (.invokestatic 140, 3) := by decide +kernel
theorem dL_law_1086 : decode cL_law 1086 = .ok (.istore 5, 2) := by decide +kernel
theorem dL_law_1088 : decode cL_law 1088 = .ok (.aload_n 2, 1) := by decide +kernel
theorem dL_law_1089 : decode cL_law 1089 = .ok (.aload_n 0, 1) := by decide +kernel
theorem dL_law_1090 : decode cL_law 1090 = .ok (.iload 4, 2) := by decide +kernel
theorem dL_law_1092 : decode cL_law 1092 = .ok (.iconst 1, 1) := by decide +kernel
theorem dL_law_1093 : decode cL_law 1093 = .ok (.iadd, 1) := by decide +kernel
theorem dL_law_1094 : decode cL_law 1094 = .ok (.iaload, 1) := by decide +kernel
theorem dL_law_1095 : decode cL_law 1095 = .ok (.invokevirtual 142, 3) := by decide +kernel
theorem dL_law_1098 : decode cL_law 1098 = .ok (.istore 6, 2) := by decide +kernel
theorem dL_law_1100 : decode cL_law 1100 = .ok (.aload_n 2, 1) := by decide +kernel
theorem dL_law_1101 : decode cL_law 1101 = .ok (.invokevirtual 90, 3) := by decide +kernel
theorem dL_law_1104 : decode cL_law 1104 = .ok (.iload 5, 2) := by decide +kernel
theorem dL_law_1106 : decode cL_law 1106 = .ok (.if_icmp .eq 5, 3) := by decide +kernel
theorem dL_law_1111 : decode cL_law 1111 = .ok (.iload 5, 2) := by decide +kernel
theorem dL_law_1113 : decode cL_law 1113 = .ok (.ifCond .ne 15, 3) := by decide +kernel
theorem dL_law_1128 : decode cL_law 1128 = .ok (.goto 358, 3) := by decide +kernel
theorem dL_law_1131 : decode cL_law 1131 = .ok (.aload_n 1, 1) := by decide +kernel
theorem dL_law_1132 : decode cL_law 1132 = .ok (.aload_n 0, 1) := by decide +kernel
theorem dL_law_1133 : decode cL_law 1133 = .ok (.iload 4, 2) := by decide +kernel
theorem dL_law_1135 : decode cL_law 1135 = .ok (.iconst 1, 1) := by decide +kernel
theorem dL_law_1136 : decode cL_law 1136 = .ok (.iadd, 1) := by decide +kernel
theorem dL_law_1137 : decode cL_law 1137 = .ok (.iaload, 1) := by decide +kernel
theorem dL_law_1138 : decode cL_law 1138 = .ok (.aload_n 3, 1) := by decide +kernel
theorem dL_law_1139 : decode cL_law 1139 = .ok (.invokestatic 143, 3) := by decide +kernel
theorem dL_law_1142 : decode cL_law 1142 = .ok (.istore 5, 2) := by decide +kernel
theorem dL_law_1144 : decode cL_law 1144 = .ok (.aload_n 2, 1) := by decide +kernel
theorem dL_law_1145 : decode cL_law 1145 = .ok (.aload_n 0, 1) := by decide +kernel
theorem dL_law_1146 : decode cL_law 1146 = .ok (.iload 4, 2) := by decide +kernel
theorem dL_law_1148 : decode cL_law 1148 = .ok (.iconst 1, 1) := by decide +kernel
theorem dL_law_1149 : decode cL_law 1149 = .ok (.iadd, 1) := by decide +kernel
theorem dL_law_1150 : decode cL_law 1150 = .ok (.iaload, 1) := by decide +kernel
theorem dL_law_1151 : decode cL_law 1151 = .ok (.invokevirtual 145, 3) := by decide +kernel
theorem dL_law_1154 : decode cL_law 1154 = .ok (.istore 6, 2) := by decide +kernel
theorem dL_law_1156 : decode cL_law 1156 = .ok (.aload_n 2, 1) := by decide +kernel
theorem dL_law_1157 : decode cL_law 1157 = .ok (.invokevirtual 90, 3) := by decide +kernel
theorem dL_law_1160 : decode cL_law 1160 = .ok (.iload 5, 2) := by decide +kernel
theorem dL_law_1162 : decode cL_law 1162 = .ok (.if_icmp .eq 5, 3) := by decide +kernel
theorem dL_law_1167 : decode cL_law 1167 = .ok (.iload 5, 2) := by decide +kernel
theorem dL_law_1169 : decode cL_law 1169 = .ok (.ifCond .ne 15, 3) := by decide +kernel
theorem dL_law_1184 : decode cL_law 1184 = .ok (.goto 302, 3) := by decide +kernel
theorem dL_law_1187 : decode cL_law 1187 = .ok (.aload_n 1, 1) := by decide +kernel
theorem dL_law_1188 : decode cL_law 1188 = .ok (.aload_n 0, 1) := by decide +kernel
theorem dL_law_1189 : decode cL_law 1189 = .ok (.iload 4, 2) := by decide +kernel
theorem dL_law_1191 : decode cL_law 1191 = .ok (.iconst 1, 1) := by decide +kernel
theorem dL_law_1192 : decode cL_law 1192 = .ok (.iadd, 1) := by decide +kernel
theorem dL_law_1193 : decode cL_law 1193 = .ok (.iaload, 1) := by decide +kernel
theorem dL_law_1194 : decode cL_law 1194 = .ok (.aload_n 0, 1) := by decide +kernel
theorem dL_law_1195 : decode cL_law 1195 = .ok (.iload 4, 2) := by decide +kernel
theorem dL_law_1197 : decode cL_law 1197 = .ok (.iconst 2, 1) := by decide +kernel
theorem dL_law_1198 : decode cL_law 1198 = .ok (.iadd, 1) := by decide +kernel
theorem dL_law_1199 : decode cL_law 1199 = .ok (.iaload, 1) := by decide +kernel
theorem dL_law_1200 : decode cL_law 1200 = .ok (.aload_n 3, 1) := by decide +kernel
theorem dL_law_1201 : decode cL_law 1201 = .ok (.invokestatic 146, 3) := by decide +kernel
theorem dL_law_1204 : decode cL_law 1204 = .ok (.istore 5, 2) := by decide +kernel
theorem dL_law_1206 : decode cL_law 1206 = .ok (.aload_n 2, 1) := by decide +kernel
theorem dL_law_1207 : decode cL_law 1207 = .ok (.aload_n 0, 1) := by decide +kernel
theorem dL_law_1208 : decode cL_law 1208 = .ok (.iload 4, 2) := by decide +kernel
theorem dL_law_1210 : decode cL_law 1210 = .ok (.iconst 1, 1) := by decide +kernel
theorem dL_law_1211 : decode cL_law 1211 = .ok (.iadd, 1) := by decide +kernel
theorem dL_law_1212 : decode cL_law 1212 = .ok (.iaload, 1) := by decide +kernel
theorem dL_law_1213 : decode cL_law 1213 = .ok (.aload_n 0, 1) := by decide +kernel
theorem dL_law_1214 : decode cL_law 1214 = .ok (.iload 4, 2) := by decide +kernel
theorem dL_law_1216 : decode cL_law 1216 = .ok (.iconst 2, 1) := by decide +kernel
theorem dL_law_1217 : decode cL_law 1217 = .ok (.iadd, 1) := by decide +kernel
theorem dL_law_1218 : decode cL_law 1218 = .ok (.iaload, 1) := by decide +kernel
theorem dL_law_1219 : decode cL_law 1219 = .ok (.invokevirtual 148, 3) := by decide +kernel
theorem dL_law_1222 : decode cL_law 1222 = .ok (.istore 6, 2) := by decide +kernel
theorem dL_law_1224 : decode cL_law 1224 = .ok (.aload_n 2, 1) := by decide +kernel
theorem dL_law_1225 : decode cL_law 1225 = .ok (.invokevirtual 90, 3) := by decide +kernel
theorem dL_law_1228 : decode cL_law 1228 = .ok (.iload 5, 2) := by decide +kernel
theorem dL_law_1230 : decode cL_law 1230 = .ok (.if_icmp .eq 5, 3) := by decide +kernel
theorem dL_law_1235 : decode cL_law 1235 = .ok (.iload 5, 2) := by decide +kernel
theorem dL_law_1237 : decode cL_law 1237 = .ok (.ifCond .ne 15, 3) := by decide +kernel
theorem dL_law_1252 : decode cL_law 1252 = .ok (.goto 234, 3) := by decide +kernel
theorem dL_law_1255 : decode cL_law 1255 = .ok (.aload_n 1, 1) := by decide +kernel
theorem dL_law_1256 : decode cL_law 1256 = .ok (.aload_n 0, 1) := by decide +kernel
theorem dL_law_1257 : decode cL_law 1257 = .ok (.iload 4, 2) := by decide +kernel
theorem dL_law_1259 : decode cL_law 1259 = .ok (.iconst 1, 1) := by decide +kernel
theorem dL_law_1260 : decode cL_law 1260 = .ok (.iadd, 1) := by decide +kernel
theorem dL_law_1261 : decode cL_law 1261 = .ok (.iaload, 1) := by decide +kernel
theorem dL_law_1262 : decode cL_law 1262 = .ok (.aload_n 3, 1) := by decide +kernel
theorem dL_law_1263 : decode cL_law 1263 = .ok (.invokestatic 149, 3) := by decide +kernel
theorem dL_law_1266 : decode cL_law 1266 = .ok (.istore 5, 2) := by decide +kernel
theorem dL_law_1268 : decode cL_law 1268 = .ok (.aload_n 2, 1) := by decide +kernel
theorem dL_law_1269 : decode cL_law 1269 = .ok (.aload_n 0, 1) := by decide +kernel
theorem dL_law_1270 : decode cL_law 1270 = .ok (.iload 4, 2) := by decide +kernel
theorem dL_law_1272 : decode cL_law 1272 = .ok (.iconst 1, 1) := by decide +kernel
theorem dL_law_1273 : decode cL_law 1273 = .ok (.iadd, 1) := by decide +kernel
theorem dL_law_1274 : decode cL_law 1274 = .ok (.iaload, 1) := by decide +kernel
theorem dL_law_1275 : decode cL_law 1275 = .ok (.invokevirtual 151, 3) := by decide +kernel
theorem dL_law_1278 : decode cL_law 1278 = .ok (.istore 6, 2) := by decide +kernel
theorem dL_law_1280 : decode cL_law 1280 = .ok (.aload_n 2, 1) := by decide +kernel
theorem dL_law_1281 : decode cL_law 1281 = .ok (.invokevirtual 90, 3) := by decide +kernel
theorem dL_law_1284 : decode cL_law 1284 = .ok (.iload 5, 2) := by decide +kernel
theorem dL_law_1286 : decode cL_law 1286 = .ok (.if_icmp .eq 5, 3) := by decide +kernel
theorem dL_law_1291 : decode cL_law 1291 = .ok (.iload 5, 2) := by decide +kernel
theorem dL_law_1293 : decode cL_law 1293 = .ok (.ifCond .ne 15, 3) := by decide +kernel
theorem dL_law_1308 : decode cL_law 1308 = .ok (.goto 178, 3) := by decide +kernel
theorem dL_law_1311 : decode cL_law 1311 = .ok (.aload_n 1, 1) := by decide +kernel
theorem dL_law_1312 : decode cL_law 1312 = .ok (.aload_n 0, 1) := by decide +kernel
theorem dL_law_1313 : decode cL_law 1313 = .ok (.iload 4, 2) := by decide +kernel
theorem dL_law_1315 : decode cL_law 1315 = .ok (.iconst 1, 1) := by decide +kernel
theorem dL_law_1316 : decode cL_law 1316 = .ok (.iadd, 1) := by decide +kernel
theorem dL_law_1317 : decode cL_law 1317 = .ok (.iaload, 1) := by decide +kernel
theorem dL_law_1318 : decode cL_law 1318 = .ok (.aload_n 0, 1) := by decide +kernel
theorem dL_law_1319 : decode cL_law 1319 = .ok (.iload 4, 2) := by decide +kernel
theorem dL_law_1321 : decode cL_law 1321 = .ok (.iconst 2, 1) := by decide +kernel
theorem dL_law_1322 : decode cL_law 1322 = .ok (.iadd, 1) := by decide +kernel
theorem dL_law_1323 : decode cL_law 1323 = .ok (.iaload, 1) := by decide +kernel
theorem dL_law_1324 : decode cL_law 1324 = .ok (.aload_n 3, 1) := by decide +kernel
theorem dL_law_1325 : decode cL_law 1325 = .ok (.invokestatic 152, 3) := by decide +kernel
theorem dL_law_1328 : decode cL_law 1328 = .ok (.istore 5, 2) := by decide +kernel
theorem dL_law_1330 : decode cL_law 1330 = .ok (.aload_n 2, 1) := by decide +kernel
theorem dL_law_1331 : decode cL_law 1331 = .ok (.aload_n 0, 1) := by decide +kernel
theorem dL_law_1332 : decode cL_law 1332 = .ok (.iload 4, 2) := by decide +kernel
theorem dL_law_1334 : decode cL_law 1334 = .ok (.iconst 1, 1) := by decide +kernel
theorem dL_law_1335 : decode cL_law 1335 = .ok (.iadd, 1) := by decide +kernel
theorem dL_law_1336 : decode cL_law 1336 = .ok (.iaload, 1) := by decide +kernel
theorem dL_law_1337 : decode cL_law 1337 = .ok (.aload_n 0, 1) := by decide +kernel
theorem dL_law_1338 : decode cL_law 1338 = .ok (.iload 4, 2) := by decide +kernel
theorem dL_law_1340 : decode cL_law 1340 = .ok (.iconst 2, 1) := by decide +kernel
theorem dL_law_1341 : decode cL_law 1341 = .ok (.iadd, 1) := by decide +kernel
theorem dL_law_1342 : decode cL_law 1342 = .ok (.iaload, 1) := by decide +kernel
theorem dL_law_1343 : decode cL_law 1343 = .ok (.invokevirtual 154, 3) := by decide +kernel
theorem dL_law_1346 : decode cL_law 1346 = .ok (.istore 6, 2) := by decide +kernel
theorem dL_law_1348 : decode cL_law 1348 = .ok (.aload_n 2, 1) := by decide +kernel
theorem dL_law_1349 : decode cL_law 1349 = .ok (.invokevirtual 90, 3) := by decide +kernel
theorem dL_law_1352 : decode cL_law 1352 = .ok (.iload 5, 2) := by decide +kernel
theorem dL_law_1354 : decode cL_law 1354 = .ok (.if_icmp .eq 5, 3) := by decide +kernel
theorem dL_law_1359 : decode cL_law 1359 = .ok (.iload 5, 2) := by decide +kernel
theorem dL_law_1361 : decode cL_law 1361 = .ok (.ifCond .ne 15, 3) := by decide +kernel
theorem dL_law_1376 : decode cL_law 1376 = .ok (.goto 110, 3) := by decide +kernel
theorem dL_law_1379 : decode cL_law 1379 = .ok (.aload_n 1, 1) := by decide +kernel
theorem dL_law_1380 : decode cL_law 1380 = .ok (.aload_n 0, 1) := by decide +kernel
theorem dL_law_1381 : decode cL_law 1381 = .ok (.iload 4, 2) := by decide +kernel
theorem dL_law_1383 : decode cL_law 1383 = .ok (.iconst 1, 1) := by decide +kernel
theorem dL_law_1384 : decode cL_law 1384 = .ok (.iadd, 1) := by decide +kernel
theorem dL_law_1385 : decode cL_law 1385 = .ok (.iaload, 1) := by decide +kernel
theorem dL_law_1386 : decode cL_law 1386 = .ok (.aload_n 0, 1) := by decide +kernel
theorem dL_law_1387 : decode cL_law 1387 = .ok (.iload 4, 2) := by decide +kernel
theorem dL_law_1389 : decode cL_law 1389 = .ok (.iconst 2, 1) := by decide +kernel
theorem dL_law_1390 : decode cL_law 1390 = .ok (.iadd, 1) := by decide +kernel
theorem dL_law_1391 : decode cL_law 1391 = .ok (.iaload, 1) := by decide +kernel
theorem dL_law_1392 : decode cL_law 1392 = .ok (.aload_n 3, 1) := by decide +kernel
theorem dL_law_1393 : decode cL_law 1393 = .ok (.invokestatic 155, 3) := by decide +kernel
theorem dL_law_1396 : decode cL_law 1396 = .ok (.istore 5, 2) := by decide +kernel
theorem dL_law_1398 : decode cL_law 1398 = .ok (.aload_n 2, 1) := by decide +kernel
theorem dL_law_1399 : decode cL_law 1399 = .ok (.aload_n 0, 1) := by decide +kernel
theorem dL_law_1400 : decode cL_law 1400 = .ok (.iload 4, 2) := by decide +kernel
theorem dL_law_1402 : decode cL_law 1402 = .ok (.iconst 1, 1) := by decide +kernel
theorem dL_law_1403 : decode cL_law 1403 = .ok (.iadd, 1) := by decide +kernel
theorem dL_law_1404 : decode cL_law 1404 = .ok (.iaload, 1) := by decide +kernel
theorem dL_law_1405 : decode cL_law 1405 = .ok (.aload_n 0, 1) := by decide +kernel
theorem dL_law_1406 : decode cL_law 1406 = .ok (.iload 4, 2) := by decide +kernel
theorem dL_law_1408 : decode cL_law 1408 = .ok (.iconst 2, 1) := by decide +kernel
theorem dL_law_1409 : decode cL_law 1409 = .ok (.iadd, 1) := by decide +kernel
theorem dL_law_1410 : decode cL_law 1410 = .ok (.iaload, 1) := by decide +kernel
theorem dL_law_1411 : decode cL_law 1411 = .ok (.invokevirtual 157, 3) := by decide +kernel
theorem dL_law_1414 : decode cL_law 1414 = .ok (.istore 6, 2) := by decide +kernel
theorem dL_law_1416 : decode cL_law 1416 = .ok (.aload_n 2, 1) := by decide +kernel
theorem dL_law_1417 : decode cL_law 1417 = .ok (.invokevirtual 90, 3) := by decide +kernel
theorem dL_law_1420 : decode cL_law 1420 = .ok (.iload 5, 2) := by decide +kernel
theorem dL_law_1422 : decode cL_law 1422 = .ok (.if_icmp .eq 5, 3) := by decide +kernel
theorem dL_law_1427 : decode cL_law 1427 = .ok (.iload 5, 2) := by decide +kernel
theorem dL_law_1429 : decode cL_law 1429 = .ok (.ifCond .ne 15, 3) := by decide +kernel
theorem dL_law_1444 : decode cL_law 1444 = .ok (.goto 42, 3) := by decide +kernel
theorem dL_law_1447 : decode cL_law 1447 = .ok (.aload_n 1, 1) := by decide +kernel
theorem dL_law_1448 : decode cL_law 1448 = .ok (.invokevirtual 158, 3) := by decide +kernel
theorem dL_law_1451 : decode cL_law 1451 = .ok (.aload_n 2, 1) := by decide +kernel
theorem dL_law_1452 : decode cL_law 1452 = .ok (.invokevirtual 162, 3) := by decide +kernel
theorem dL_law_1455 : decode cL_law 1455 = .ok (.lcmp, 1) := by decide +kernel
theorem dL_law_1456 : decode cL_law 1456 = .ok (.ifCond .eq 30, 3) := by decide +kernel
theorem dL_law_1461 : decode cL_law 1461 = .ok (.aload_n 1, 1) := by decide +kernel
theorem dL_law_1462 : decode cL_law 1462 = .ok (.aload_n 0, 1) := by decide +kernel
theorem dL_law_1463 : decode cL_law 1463 = .ok (.iload 4, 2) := by decide +kernel
theorem dL_law_1465 : decode cL_law 1465 = .ok (.iconst 1, 1) := by decide +kernel
theorem dL_law_1466 : decode cL_law 1466 = .ok (.iadd, 1) := by decide +kernel
theorem dL_law_1467 : decode cL_law 1467 = .ok (.iaload, 1) := by decide +kernel
theorem dL_law_1468 : decode cL_law 1468 = .ok (.invokevirtual 163, 3) := by decide +kernel
theorem dL_law_1471 : decode cL_law 1471 = .ok (.aload_n 2, 1) := by decide +kernel
theorem dL_law_1472 : decode cL_law 1472 = .ok (.aload_n 0, 1) := by decide +kernel
theorem dL_law_1473 : decode cL_law 1473 = .ok (.iload 4, 2) := by decide +kernel
theorem dL_law_1475 : decode cL_law 1475 = .ok (.iconst 1, 1) := by decide +kernel
theorem dL_law_1476 : decode cL_law 1476 = .ok (.iadd, 1) := by decide +kernel
theorem dL_law_1477 : decode cL_law 1477 = .ok (.iaload, 1) := by decide +kernel
theorem dL_law_1478 : decode cL_law 1478 = .ok (.invokevirtual 166, 3) := by decide +kernel
theorem dL_law_1481 : decode cL_law 1481 = .ok (.if_icmp .eq 5, 3) := by decide +kernel
set_option maxHeartbeats 4000000 in
set_option maxRecDepth 100000 in
theorem lw_s_0_0 {p : Program} {e : Env} {s : State} {m : MethodId} {below : List Frame} {meth : Method} {c : Code} (l : Launch) (hl0 : l.stackTraces = false) {b : Nat} {xs : Nat → Int32} (C0 : lw_At p s m meth c b 6 xs) {A : Nat → Prop} (hAd : A = fun q : Nat => s.heap.size ≤ q) (D : va_G) (cI cB cJ cS : ClassId) (hM : nm_Amb D cI cB cJ cS s) (hTh : nm_Th A s) (q101 : Nat) (q102 : Nat) (q103 : Nat) (q104 : Nat) (q105 : Nat) (q106 : Nat) (q107 : Nat) (q108 : Nat) (q109 : Nat) (q110 : Nat) (q111 : Nat) (q112 : Nat) (q113 : Nat) (q114 : Nat) (q115 : Nat) (q116 : Nat) (g117 : Nat → Option Nat) (q118 : Nat) (q119 : Nat) (q120 : Nat) (q121 : Nat) (q122 : Nat) (q123 : Nat) (q124 : Nat) (q125 : Nat) (q126 : Nat) (q127 : Nat) (q128 : Nat) (q129 : Nat) (q130 : Nat) (q131 : Nat) (q132 : Nat) (q133 : Nat) (q134 : Nat) (q135 : Nat) (q136 : Nat) (q137 : Nat) (q138 : Nat) (q139 : Nat) (q140 : Nat) (q141 : Nat) (q142 : Nat) (q143 : Nat) (q144 : Nat) (q145 : Nat) (q146 : Nat) (q147 : Nat) (q148 : Nat) (q149 : Nat) (q150 : Nat) (q151 : Nat) (q152 : Nat) (q153 : Nat) (q154 : Nat) (q155 : Nat) (q156 : Nat) (q157 : Nat) (q158 : Nat) (q159 : Nat) (q160 : Nat) (q161 : Nat) (q162 : Nat) (q163 : Nat) (q164 : Nat) (q165 : Nat) (q166 : Nat) (q167 : Nat) (q168 : Nat) (q169 : Nat) (q170 : Nat) (q171 : Nat) (q172 : Nat) (q173 : Nat) (q175 : Nat) (q176 : Nat) (q177 : Nat) (q178 : Nat) (q179 : Nat) (q180 : Nat) (q181 : Nat) (q182 : Nat) (q183 : Nat) (q184 : Nat) (q185 : Nat) (q186 : Nat) (q187 : Nat) (q188 : Nat) (q189 : Nat) (q190 : Nat) (q191 : Nat) (q192 : Nat) (q193 : Nat) (q194 : Nat) (q195 : Nat) (q196 : Nat) (q197 : Nat) (q198 : Nat) (q199 : Nat) (q200 : Nat) (q201 : Nat) (q202 : Nat) (q203 : Nat) (q204 : Nat) (q205 : Nat) (q206 : Nat) (q207 : Nat) (q208 : Nat) (q209 : Nat) (h174 : g117 0 = some q171) (p1 : Int32) (p2 : Int32) (p3 : Int32) (p4 : Int32) (p5 : Int32) (hp1 : xs 1 = p1) (hp2 : xs 2 = p2) (hp3 : xs 3 = p3) (hp4 : xs 4 = p4) (hp5 : xs 5 = p5) {H : Heap} {locs : List Loc} (hP : va_P D nm_cl [(q101, .inr (10, [.ref q102, .ref q103, .int 0, .int 0, .int (-1), .ref q104, .ref q105, .ref q106, .ref q107, .ref q108, .ref q109, .ref q110, .ref q111, .ref q112, .ref q113, .ref q114, .ref q115, .int (-1)])), (q102, .inr (0, [.ref q116, .int 0])), (q116, .inl (cB, 16, .inl (fun _ => 0))), (q103, .inl (cS, 10, .inr (.inr (.inr (.inr g117))))), (q104, .inl (cI, 3, .inl (fun _ => 0))), (q105, .inr (5, [.ref q118, .ref q119, .ref q120, .ref q121, .ref q122, .ref q123, .ref q124, .ref q125, .ref q126, .ref q127, .ref q128, .ref q129, .ref q130, .ref q131, .ref q132, .ref q133, .ref q134, .ref q135])), (q118, .inr (1, [.ref q136, .int 0])), (q119, .inr (1, [.ref q137, .int 0])), (q120, .inr (1, [.ref q138, .int 0])), (q121, .inr (1, [.ref q139, .int 0])), (q122, .inr (1, [.ref q140, .int 0])), (q123, .inr (1, [.ref q141, .int 0])), (q124, .inr (1, [.ref q142, .int 0])), (q125, .inl (cI, 64, .inl (fun _ => 0))), (q126, .inr (1, [.ref q143, .int 0])), (q127, .inr (1, [.ref q144, .int 0])), (q128, .inr (1, [.ref q145, .int 0])), (q129, .inr (1, [.ref q146, .int 0])), (q130, .inr (1, [.ref q147, .int 0])), (q132, .inr (1, [.ref q148, .int 0])), (q133, .inr (1, [.ref q149, .int 0])), (q134, .inr (1, [.ref q150, .int 0])), (q135, .inr (0, [.ref q151, .int 0])), (q106, .inr (6, [.ref q105, .ref q152, .ref q153, .int (-1), .int 0])), (q152, .inr (7, [.ref q154, .ref q155, .ref q156, .ref q157, .ref q158, .ref q159])), (q154, .inr (1, [.ref q160, .int 0])), (q155, .inr (1, [.ref q161, .int 0])), (q156, .inr (1, [.ref q162, .int 0])), (q157, .inr (1, [.ref q163, .int 0])), (q158, .inr (1, [.ref q164, .int 0])), (q159, .inr (1, [.ref q165, .int 0])), (q153, .inr (1, [.ref q166, .int 0])), (q108, .inr (2, [.ref q105, .ref q167, .int 0, .int 0, .int 0, .int (-1), .ref q168, .int 0])), (q109, .inr (8, [.ref q105, .ref q169, .int 0, .int 0, .int 0, .int (-1)])), (q113, .inr (0, [.ref q170, .int 0])), (q171, .inr (4, [.ref q172, .ref q173, .int 0])), (q175, .inr (11, [.int 0, .ref q176, .int 0, .ref q177, .ref q178, .ref q179, .ref q180, .int 0, .int 0, .int (-1), .long 0, .long 0, .int 0, .int 0, .ref q181, .ref q182, .ref q183, .ref q184, .ref q185, .ref q186, .ref q187, .ref q188, .ref q189, .ref q190, .ref q191, .ref q192, .ref q193, .ref q194, .null, .int 0, .int 0, .int 0, .int 0, .ref q195, .int 0, .int 0, .int 0, .int 0, .ref q196, .ref q197, .ref q198, .ref q199, .ref q200, .int 0, .int 0, .ref q201, .int 0, .int 0, .ref q202, .ref q203, .ref q204, .int 0, .ref q205, .int 0, .int 0, .int 0, .int 0, .int 0, .ref q206, .ref q207, .int 0, .ref q208])), (q176, .inl (cI, 3, .inl (fun _ => 0))), (q177, .inl (cB, 400, .inl (fun _ => 0))), (q194, .inl (cI, 4096, .inl (fun _ => 0))), (q209, .inl (cJ, 1, .inr (.inl (fun _ => 0))))] H) (hD : va_D A [(q101, .inr (10, [.ref q102, .ref q103, .int 0, .int 0, .int (-1), .ref q104, .ref q105, .ref q106, .ref q107, .ref q108, .ref q109, .ref q110, .ref q111, .ref q112, .ref q113, .ref q114, .ref q115, .int (-1)])), (q102, .inr (0, [.ref q116, .int 0])), (q116, .inl (cB, 16, .inl (fun _ => 0))), (q103, .inl (cS, 10, .inr (.inr (.inr (.inr g117))))), (q104, .inl (cI, 3, .inl (fun _ => 0))), (q105, .inr (5, [.ref q118, .ref q119, .ref q120, .ref q121, .ref q122, .ref q123, .ref q124, .ref q125, .ref q126, .ref q127, .ref q128, .ref q129, .ref q130, .ref q131, .ref q132, .ref q133, .ref q134, .ref q135])), (q118, .inr (1, [.ref q136, .int 0])), (q119, .inr (1, [.ref q137, .int 0])), (q120, .inr (1, [.ref q138, .int 0])), (q121, .inr (1, [.ref q139, .int 0])), (q122, .inr (1, [.ref q140, .int 0])), (q123, .inr (1, [.ref q141, .int 0])), (q124, .inr (1, [.ref q142, .int 0])), (q125, .inl (cI, 64, .inl (fun _ => 0))), (q126, .inr (1, [.ref q143, .int 0])), (q127, .inr (1, [.ref q144, .int 0])), (q128, .inr (1, [.ref q145, .int 0])), (q129, .inr (1, [.ref q146, .int 0])), (q130, .inr (1, [.ref q147, .int 0])), (q132, .inr (1, [.ref q148, .int 0])), (q133, .inr (1, [.ref q149, .int 0])), (q134, .inr (1, [.ref q150, .int 0])), (q135, .inr (0, [.ref q151, .int 0])), (q106, .inr (6, [.ref q105, .ref q152, .ref q153, .int (-1), .int 0])), (q152, .inr (7, [.ref q154, .ref q155, .ref q156, .ref q157, .ref q158, .ref q159])), (q154, .inr (1, [.ref q160, .int 0])), (q155, .inr (1, [.ref q161, .int 0])), (q156, .inr (1, [.ref q162, .int 0])), (q157, .inr (1, [.ref q163, .int 0])), (q158, .inr (1, [.ref q164, .int 0])), (q159, .inr (1, [.ref q165, .int 0])), (q153, .inr (1, [.ref q166, .int 0])), (q108, .inr (2, [.ref q105, .ref q167, .int 0, .int 0, .int 0, .int (-1), .ref q168, .int 0])), (q109, .inr (8, [.ref q105, .ref q169, .int 0, .int 0, .int 0, .int (-1)])), (q113, .inr (0, [.ref q170, .int 0])), (q171, .inr (4, [.ref q172, .ref q173, .int 0])), (q175, .inr (11, [.int 0, .ref q176, .int 0, .ref q177, .ref q178, .ref q179, .ref q180, .int 0, .int 0, .int (-1), .long 0, .long 0, .int 0, .int 0, .ref q181, .ref q182, .ref q183, .ref q184, .ref q185, .ref q186, .ref q187, .ref q188, .ref q189, .ref q190, .ref q191, .ref q192, .ref q193, .ref q194, .null, .int 0, .int 0, .int 0, .int 0, .ref q195, .int 0, .int 0, .int 0, .int 0, .ref q196, .ref q197, .ref q198, .ref q199, .ref q200, .int 0, .int 0, .ref q201, .int 0, .int 0, .ref q202, .ref q203, .ref q204, .int 0, .ref q205, .int 0, .int 0, .int 0, .int 0, .int 0, .ref q206, .ref q207, .int 0, .ref q208])), (q176, .inl (cI, 3, .inl (fun _ => 0))), (q177, .inl (cB, 400, .inl (fun _ => 0))), (q194, .inl (cI, 4096, .inl (fun _ => 0))), (q209, .inl (cJ, 1, .inr (.inl (fun _ => 0))))]) (hS : va_S A s.heap H locs) {ls : Array Slot} (hl : lv_has ls 7 [(4, .int 0), (3, .ref q209), (2, .ref q175), (1, .ref q101), (0, .ref b)]) : W p l e room_1 s m #[Value.ref b] below meth c H locs 196 153229 (lw_Z below #[Value.ref b] s) (F0 m 152 ls []) := by
  obtain ⟨hx, hb, hr, hml, hown, hts0, hX, hbl, hlocks, hgv⟩ := id C0
  have hown : s.vm.findClass RL = some m.cls := hown
  have hb : c.code = cL_law := hb
  have hts : ∀ w ∈ nm_big, w.before #[Value.ref b] s = true := fun w hw => hts0 w (List.mem_filter.mp hw).1
  have hA : ∀ q : Nat, s.heap.size ≤ q → A q := fun q h => by rw [hAd]; exact h
  have hbA : ¬ A b := by rw [hAd]; exact Nat.not_le.mpr hbl
  have hP := hP.sub (ws' := [(q101, .inr (10, [.ref q102, .ref q103, .int 0, .int 0, .int (-1), .ref q104, .ref q105, .ref q106, .ref q107, .ref q108, .ref q109, .ref q110, .ref q111, .ref q112, .ref q113, .ref q114, .ref q115, .int (-1)])), (q102, .inr (0, [.ref q116, .int 0])), (q116, .inl (cB, 16, .inl (fun _ => 0))), (q175, .inr (11, [.int 0, .ref q176, .int 0, .ref q177, .ref q178, .ref q179, .ref q180, .int 0, .int 0, .int (-1), .long 0, .long 0, .int 0, .int 0, .ref q181, .ref q182, .ref q183, .ref q184, .ref q185, .ref q186, .ref q187, .ref q188, .ref q189, .ref q190, .ref q191, .ref q192, .ref q193, .ref q194, .null, .int 0, .int 0, .int 0, .int 0, .ref q195, .int 0, .int 0, .int 0, .int 0, .ref q196, .ref q197, .ref q198, .ref q199, .ref q200, .int 0, .int 0, .ref q201, .int 0, .int 0, .ref q202, .ref q203, .ref q204, .int 0, .ref q205, .int 0, .int 0, .int 0, .int 0, .int 0, .ref q206, .ref q207, .int 0, .ref q208])), (q177, .inl (cB, 400, .inl (fun _ => 0)))]) [0, 1, 2, 36, 38] rfl
  have hD := hD.sub (ws' := [(q101, .inr (10, [.ref q102, .ref q103, .int 0, .int 0, .int (-1), .ref q104, .ref q105, .ref q106, .ref q107, .ref q108, .ref q109, .ref q110, .ref q111, .ref q112, .ref q113, .ref q114, .ref q115, .int (-1)])), (q102, .inr (0, [.ref q116, .int 0])), (q116, .inl (cB, 16, .inl (fun _ => 0))), (q175, .inr (11, [.int 0, .ref q176, .int 0, .ref q177, .ref q178, .ref q179, .ref q180, .int 0, .int 0, .int (-1), .long 0, .long 0, .int 0, .int 0, .ref q181, .ref q182, .ref q183, .ref q184, .ref q185, .ref q186, .ref q187, .ref q188, .ref q189, .ref q190, .ref q191, .ref q192, .ref q193, .ref q194, .null, .int 0, .int 0, .int 0, .int 0, .ref q195, .int 0, .int 0, .int 0, .int 0, .ref q196, .ref q197, .ref q198, .ref q199, .ref q200, .int 0, .int 0, .ref q201, .int 0, .int 0, .ref q202, .ref q203, .ref q204, .int 0, .ref q205, .int 0, .int 0, .int 0, .int 0, .int 0, .ref q206, .ref q207, .int 0, .ref q208])), (q177, .inl (cB, 400, .inl (fun _ => 0)))]) [0, 1, 2, 36, 38] (by decide) rfl
  refine lv_aload_n hx hb dL_law_152 rfl (lv_at hl 3 rfl) ?_
  refine lv_aload_n hx hb dL_law_153 rfl (lv_at hl 4 rfl) ?_
  refine lv_iload hx hb dL_law_154 (lv_at hl 0 rfl) ?_
  refine lv_iconst (v := 1) hx hb dL_law_156 (by decide) ?_
  refine lv_iadd hx hb dL_law_157 ?_
  refine lv_topi (fun z101 e9 => ?_)
  obtain rfl : z101 = (1 : Int32) := e9.trans (by decide)
  refine va_sld hx hb hX hbl hbA hS (nm_vin (by decide)) dL_law_158 ?_
  refine lv_topi (fun z102 e9 => ?_)
  have e8 : (p1 : Int32) = z102 := ((e9.trans (congrArg xs (by decide))).trans hp1).symm
  subst e8
  refine lv_aload_n hx hb dL_law_159 rfl (lv_at hl 4 rfl) ?_
  refine lv_iload hx hb dL_law_160 (lv_at hl 0 rfl) ?_
  refine lv_iconst (v := 2) hx hb dL_law_162 (by decide) ?_
  refine lv_iadd hx hb dL_law_163 ?_
  refine lv_topi (fun z103 e9 => ?_)
  obtain rfl : z103 = (2 : Int32) := e9.trans (by decide)
  refine va_sld hx hb hX hbl hbA hS (nm_vin (by decide)) dL_law_164 ?_
  refine lv_topi (fun z104 e9 => ?_)
  have e8 : (p2 : Int32) = z104 := ((e9.trans (congrArg xs (by decide))).trans hp2).symm
  subst e8
  refine lv_aload_n hx hb dL_law_165 rfl (lv_at hl 4 rfl) ?_
  refine lv_iload hx hb dL_law_166 (lv_at hl 0 rfl) ?_
  refine lv_iconst (v := 3) hx hb dL_law_168 (by decide) ?_
  refine lv_iadd hx hb dL_law_169 ?_
  refine lv_topi (fun z105 e9 => ?_)
  obtain rfl : z105 = (3 : Int32) := e9.trans (by decide)
  refine va_sld hx hb hX hbl hbA hS (nm_vin (by decide)) dL_law_170 ?_
  refine lv_topi (fun z106 e9 => ?_)
  have e8 : (p3 : Int32) = z106 := ((e9.trans (congrArg xs (by decide))).trans hp3).symm
  subst e8
  refine lv_aload_n hx hb dL_law_171 rfl (lv_at hl 4 rfl) ?_
  refine lv_iload hx hb dL_law_172 (lv_at hl 0 rfl) ?_
  refine lv_iconst (v := 4) hx hb dL_law_174 (by decide) ?_
  refine lv_iadd hx hb dL_law_175 ?_
  refine lv_topi (fun z107 e9 => ?_)
  obtain rfl : z107 = (4 : Int32) := e9.trans (by decide)
  refine va_sld hx hb hX hbl hbA hS (nm_vin (by decide)) dL_law_176 ?_
  refine lv_topi (fun z108 e9 => ?_)
  have e8 : (p4 : Int32) = z108 := ((e9.trans (congrArg xs (by decide))).trans hp4).symm
  subst e8
  refine lv_aload_n hx hb dL_law_177 rfl (lv_at hl 4 rfl) ?_
  refine lv_iload hx hb dL_law_178 (lv_at hl 0 rfl) ?_
  refine lv_iconst (v := 5) hx hb dL_law_180 (by decide) ?_
  refine lv_iadd hx hb dL_law_181 ?_
  refine lv_topi (fun z109 e9 => ?_)
  obtain rfl : z109 = (5 : Int32) := e9.trans (by decide)
  refine va_sld hx hb hX hbl hbA hS (nm_vin (by decide)) dL_law_182 ?_
  refine lv_topi (fun z110 e9 => ?_)
  have e8 : (p5 : Int32) = z110 := ((e9.trans (congrArg xs (by decide))).trans hp5).symm
  subst e8
  refine nm_calli (Z := Unit) (wr := [(q175, .inr (11, [.int 0, .ref q176, .int 0, .ref q177, .ref q178, .ref q179, .ref q180, .int 0, .int 0, .int (-1), .long 0, .long 0, .int 0, .int 0, .ref q181, .ref q182, .ref q183, .ref q184, .ref q185, .ref q186, .ref q187, .ref q188, .ref q189, .ref q190, .ref q191, .ref q192, .ref q193, .ref q194, .null, .int 0, .int 0, .int 0, .int 0, .ref q195, .int 0, .int 0, .int 0, .int 0, .ref q196, .ref q197, .ref q198, .ref q199, .ref q200, .int 0, .int 0, .ref q201, .int 0, .int 0, .ref q202, .ref q203, .ref q204, .int 0, .ref q205, .int 0, .int 0, .int 0, .int 0, .int 0, .ref q206, .ref q207, .int 0, .ref q208])), (q177, .inl (cB, 400, .inl (fun _ => 0)))]) (k := 197) (n := 153261) (va_runV (As := [.int p1, .int p2, .int p3, .int p4, .int p5]) (rest := []) ⟨hx, hb, hml, hown, hts⟩ (c_X11_feed_1 l D cI cB cJ cS H.size q101 q102 q116 p1 p2 p3 p4 p5 (.ref q103) (.int 0) (.int 0) (.int (-1)) (.ref q104) (.ref q105) (.ref q106) (.ref q107) (.ref q108) (.ref q109) (.ref q110) (.ref q111) (.ref q112) (.ref q113) (.ref q114) (.ref q115) (.int (-1)) (fun _ => 0) nm_by0) (cwV 5 hts (nm_gV q_436 q_437 q_438 q_1 q_439) rfl rfl rfl (by decide +kernel) ⟨(Nat.le_of_ble_eq_true rfl), (Nat.le_of_ble_eq_true rfl)⟩) (nm_preV (q := (RX11, TX11, 18)) (hP.sub [0, 1, 2] rfl) (hD.sub [0, 1, 2] (by decide) rfl) hM 0 rfl rfl) rfl rfl hl.1 rfl (lv_room (Nat.le_of_ble_eq_true rfl)) dL_law_183 ⟨(Nat.le_of_ble_eq_true rfl), (Nat.le_of_ble_eq_true rfl)⟩) hP hD hS hA [0, 1, 2] [3, 4] rfl rfl (by decide) (by decide) (Nat.le_of_ble_eq_true rfl) (Nat.le_of_ble_eq_true rfl) (fun r9 u H locs hw hP hD hS => ?_)
  obtain rfl : r9 = (20 : Int32) := hw
  have hP : va_P D nm_cl [(q175, .inr (11, [.int 0, .ref q176, .int 0, .ref q177, .ref q178, .ref q179, .ref q180, .int 0, .int 0, .int (-1), .long 0, .long 0, .int 0, .int 0, .ref q181, .ref q182, .ref q183, .ref q184, .ref q185, .ref q186, .ref q187, .ref q188, .ref q189, .ref q190, .ref q191, .ref q192, .ref q193, .ref q194, .null, .int 0, .int 0, .int 0, .int 0, .ref q195, .int 0, .int 0, .int 0, .int 0, .ref q196, .ref q197, .ref q198, .ref q199, .ref q200, .int 0, .int 0, .ref q201, .int 0, .int 0, .ref q202, .ref q203, .ref q204, .int 0, .ref q205, .int 0, .int 0, .int 0, .int 0, .int 0, .ref q206, .ref q207, .int 0, .ref q208])), (q177, .inl (cB, 400, .inl (fun _ => 0)))] H := hP
  have hD : va_D A [(q175, .inr (11, [.int 0, .ref q176, .int 0, .ref q177, .ref q178, .ref q179, .ref q180, .int 0, .int 0, .int (-1), .long 0, .long 0, .int 0, .int 0, .ref q181, .ref q182, .ref q183, .ref q184, .ref q185, .ref q186, .ref q187, .ref q188, .ref q189, .ref q190, .ref q191, .ref q192, .ref q193, .ref q194, .null, .int 0, .int 0, .int 0, .int 0, .ref q195, .int 0, .int 0, .int 0, .int 0, .ref q196, .ref q197, .ref q198, .ref q199, .ref q200, .int 0, .int 0, .ref q201, .int 0, .int 0, .ref q202, .ref q203, .ref q204, .int 0, .ref q205, .int 0, .int 0, .int 0, .int 0, .int 0, .ref q206, .ref q207, .int 0, .ref q208])), (q177, .inl (cB, 400, .inl (fun _ => 0)))] := hD
  refine lv_aload_n hx hb dL_law_186 rfl (lv_at hl 2 rfl) ?_
  refine lv_aload_n hx hb dL_law_187 rfl (lv_at hl 4 rfl) ?_
  refine lv_iload hx hb dL_law_188 (lv_at hl 0 rfl) ?_
  refine lv_iconst (v := 1) hx hb dL_law_190 (by decide) ?_
  refine lv_iadd hx hb dL_law_191 ?_
  refine lv_topi (fun z111 e9 => ?_)
  obtain rfl : z111 = (1 : Int32) := e9.trans (by decide)
  refine va_sld hx hb hX hbl hbA hS (nm_vin (by decide)) dL_law_192 ?_
  refine lv_topi (fun z112 e9 => ?_)
  have e8 : (p1 : Int32) = z112 := ((e9.trans (congrArg xs (by decide))).trans hp1).symm
  subst e8
  refine lv_aload_n hx hb dL_law_193 rfl (lv_at hl 4 rfl) ?_
  refine lv_iload hx hb dL_law_194 (lv_at hl 0 rfl) ?_
  refine lv_iconst (v := 2) hx hb dL_law_196 (by decide) ?_
  refine lv_iadd hx hb dL_law_197 ?_
  refine lv_topi (fun z113 e9 => ?_)
  obtain rfl : z113 = (2 : Int32) := e9.trans (by decide)
  refine va_sld hx hb hX hbl hbA hS (nm_vin (by decide)) dL_law_198 ?_
  refine lv_topi (fun z114 e9 => ?_)
  have e8 : (p2 : Int32) = z114 := ((e9.trans (congrArg xs (by decide))).trans hp2).symm
  subst e8
  refine lv_aload_n hx hb dL_law_199 rfl (lv_at hl 4 rfl) ?_
  refine lv_iload hx hb dL_law_200 (lv_at hl 0 rfl) ?_
  refine lv_iconst (v := 3) hx hb dL_law_202 (by decide) ?_
  refine lv_iadd hx hb dL_law_203 ?_
  refine lv_topi (fun z115 e9 => ?_)
  obtain rfl : z115 = (3 : Int32) := e9.trans (by decide)
  refine va_sld hx hb hX hbl hbA hS (nm_vin (by decide)) dL_law_204 ?_
  refine lv_topi (fun z116 e9 => ?_)
  have e8 : (p3 : Int32) = z116 := ((e9.trans (congrArg xs (by decide))).trans hp3).symm
  subst e8
  refine lv_aload_n hx hb dL_law_205 rfl (lv_at hl 4 rfl) ?_
  refine lv_iload hx hb dL_law_206 (lv_at hl 0 rfl) ?_
  refine lv_iconst (v := 4) hx hb dL_law_208 (by decide) ?_
  refine lv_iadd hx hb dL_law_209 ?_
  refine lv_topi (fun z117 e9 => ?_)
  obtain rfl : z117 = (4 : Int32) := e9.trans (by decide)
  refine va_sld hx hb hX hbl hbA hS (nm_vin (by decide)) dL_law_210 ?_
  refine lv_topi (fun z118 e9 => ?_)
  have e8 : (p4 : Int32) = z118 := ((e9.trans (congrArg xs (by decide))).trans hp4).symm
  subst e8
  refine lv_aload_n hx hb dL_law_211 rfl (lv_at hl 4 rfl) ?_
  refine lv_iload hx hb dL_law_212 (lv_at hl 0 rfl) ?_
  refine lv_iconst (v := 5) hx hb dL_law_214 (by decide) ?_
  refine lv_iadd hx hb dL_law_215 ?_
  refine lv_topi (fun z119 e9 => ?_)
  obtain rfl : z119 = (5 : Int32) := e9.trans (by decide)
  refine va_sld hx hb hX hbl hbA hS (nm_vin (by decide)) dL_law_216 ?_
  refine lv_topi (fun z120 e9 => ?_)
  have e8 : (p5 : Int32) = z120 := ((e9.trans (congrArg xs (by decide))).trans hp5).symm
  subst e8
  refine nm_calli (Z := Unit) (wr := []) (k := 197) (n := 153261) (va_runV (As := [.int p1, .int p2, .int p3, .int p4, .int p5]) (rest := [.int 20]) ⟨hx, hb, hml, hown, hts⟩ (c_X12_feed_1 l D cI cB cJ cS H.size q175 q177 p1 p2 p3 p4 p5 (.int 0) (.ref q176) (.ref q178) (.ref q179) (.ref q180) (.int 0) (.int 0) (.int (-1)) (.long 0) (.long 0) (.int 0) (.int 0) (.ref q181) (.ref q182) (.ref q183) (.ref q184) (.ref q185) (.ref q186) (.ref q187) (.ref q188) (.ref q189) (.ref q190) (.ref q191) (.ref q192) (.ref q193) (.ref q194) (.null) (.int 0) (.int 0) (.int 0) (.int 0) (.ref q195) (.int 0) (.int 0) (.int 0) (.int 0) (.ref q196) (.ref q197) (.ref q198) (.ref q199) (.ref q200) (.int 0) (.int 0) (.ref q201) (.int 0) (.int 0) (.ref q202) (.ref q203) (.ref q204) (.int 0) (.ref q205) (.int 0) (.int 0) (.int 0) (.int 0) (.int 0) (.ref q206) (.ref q207) (.int 0) (.ref q208) (fun _ => 0) nm_by0) (cwV 5 hts (nm_gV q_1687 q_1688 q_1689 q_13 q_1690) rfl rfl rfl (by decide +kernel) ⟨(Nat.le_of_ble_eq_true rfl), (Nat.le_of_ble_eq_true rfl)⟩) (nm_preV (q := (RX12, TX12, 62)) (hP.sub [0, 1] rfl) (hD.sub [0, 1] (by decide) rfl) hM 0 rfl rfl) rfl rfl hl.1 rfl (lv_room (Nat.le_of_ble_eq_true rfl)) dL_law_217 ⟨(Nat.le_of_ble_eq_true rfl), (Nat.le_of_ble_eq_true rfl)⟩) hP hD hS hA [0, 1] [] rfl rfl (by decide) (by decide) (Nat.le_of_ble_eq_true rfl) (Nat.le_of_ble_eq_true rfl) (fun r9 u H locs hw hP hD hS => ?_)
  obtain rfl : r9 = (20 : Int32) := hw
  have hP : va_P D nm_cl [(q175, .inr (11, [.int 0, .ref q176, .int 20, .ref q177, .ref q178, .ref q179, .ref q180, .int 0, .int 0, .int (-1), .long 0, .long 0, .int 0, .int 0, .ref q181, .ref q182, .ref q183, .ref q184, .ref q185, .ref q186, .ref q187, .ref q188, .ref q189, .ref q190, .ref q191, .ref q192, .ref q193, .ref q194, .null, .int 0, .int 0, .int 0, .int 0, .ref q195, .int 0, .int 0, .int 0, .int 0, .ref q196, .ref q197, .ref q198, .ref q199, .ref q200, .int 0, .int 0, .ref q201, .int 0, .int 0, .ref q202, .ref q203, .ref q204, .int 0, .ref q205, .int 0, .int 0, .int 0, .int 0, .int 0, .ref q206, .ref q207, .int 0, .ref q208]))] H := hP
  have hD : va_D A [(q175, .inr (11, [.int 0, .ref q176, .int 20, .ref q177, .ref q178, .ref q179, .ref q180, .int 0, .int 0, .int (-1), .long 0, .long 0, .int 0, .int 0, .ref q181, .ref q182, .ref q183, .ref q184, .ref q185, .ref q186, .ref q187, .ref q188, .ref q189, .ref q190, .ref q191, .ref q192, .ref q193, .ref q194, .null, .int 0, .int 0, .int 0, .int 0, .ref q195, .int 0, .int 0, .int 0, .int 0, .ref q196, .ref q197, .ref q198, .ref q199, .ref q200, .int 0, .int 0, .ref q201, .int 0, .int 0, .ref q202, .ref q203, .ref q204, .int 0, .ref q205, .int 0, .int 0, .int 0, .int 0, .int 0, .ref q206, .ref q207, .int 0, .ref q208]))] := hD
  refine lv_icmp_eq (tgt := 1486) hx hb dL_law_220 (by decide) (fun _ => ?_) (fun c9 => absurd (by decide) c9)
  refine lv_iinc (v := 6) (lv' := [(4, .int 6), (3, .ref q209), (2, .ref q175), (1, .ref q101), (0, .ref b)]) hx hb dL_law_1486 hl (k := 0) rfl (by decide) (by decide) rfl (fun ls hl => ?_)
  refine lv_goto (tgt := 23) hx hb dL_law_1489 (by decide) ?_
  refine lv_iload hx hb dL_law_23 (lv_at hl 0 rfl) ?_
  refine lv_aload_n hx hb dL_law_25 rfl (lv_at hl 4 rfl) ?_
  refine va_slen hx hb hX hbl hbA hS dL_law_26 ?_
  refine lv_topi (fun z121 e9 => ?_)
  have e8 : (6 : Int32) = z121 := (e9.trans (by decide)).symm
  subst e8
  refine lv_bipush (v := 6) hx hb dL_law_27 (by decide) ?_
  refine lv_isub hx hb dL_law_29 ?_
  refine lv_topi (fun z122 e9 => ?_)
  obtain rfl : z122 = (0 : Int32) := e9.trans (by decide)
  refine lv_icmp_gt (tgt := 1492) hx hb dL_law_30 (by decide) (fun _ => ?_) (fun c9 => absurd (by decide) c9)
  refine lv_iconst (v := 1) hx hb dL_law_1492 (by decide) ?_
  refine va_forget (fun q hq => by have h9 := hS.2.2 q hq; rw [hAd] at h9; exact h9) ?_
  refine W.widen (k := 600002) (n := 7302232) (Nat.le_of_ble_eq_true rfl) (Nat.le_of_ble_eq_true rfl) ?_
  exact lw_ret hx hb hr hlocks dL_law_1493
set_option maxHeartbeats 4000000 in
set_option maxRecDepth 100000 in
theorem c_X12_thrown_2 (l : Launch) (D : va_G) (cI cB cJ cS : ClassId) (sz : Nat) (a0 : Nat) (v0 : Value) (v1 : Value) (v2 : Value) (v3 : Value) (v4 : Value) (v5 : Value) (v6 : Value) (v7 : Value) (v8 : Value) (v9 : Value) (v10 : Value) (v11 : Value) (v12 : Value) (v13 : Value) (v14 : Value) (v15 : Value) (v16 : Value) (v17 : Value) (v18 : Value) (v19 : Value) (v20 : Value) (v21 : Value) (v22 : Value) (v23 : Value) (v24 : Value) (v25 : Value) (v26 : Value) (v27 : Value) (v28 : Value) (v29 : Value) (v30 : Value) (v31 : Value) (v32 : Value) (v33 : Value) (v34 : Value) (v35 : Value) (v36 : Value) (v37 : Value) (v38 : Value) (v39 : Value) (v40 : Value) (v41 : Value) (v42 : Value) (v43 : Value) (v44 : Value) (v45 : Value) (v46 : Value) (v47 : Value) (v48 : Value) (v49 : Value) (v50 : Value) (v51 : Value) (v52 : Value) (v53 : Value) (v54 : Value) (v55 : Value) (v56 : Value) (v57 : Value) (v58 : Value) (v59 : Value) (v60 : Value)  : Met l yX12_thrown (.code yX12_thrown cX12_thrown 1 (some .int) :: nm_big) ({ frames := 0, cells := 0, slots := 0, locals := 0 }) (nm_P D cI cB cJ cS [.ref a0] sz [(a0, .inr (11, [.int 1, v0, v1, v2, v3, v4, v5, v6, v7, v8, v9, v10, v11, v12, v13, v14, v15, v16, v17, v18, v19, v20, v21, v22, v23, v24, v25, v26, v27, v28, v29, v30, v31, v32, v33, v34, v35, v36, v37, v38, v39, v40, v41, v42, v43, v44, v45, v46, v47, v48, v49, v50, v51, v52, v53, v54, v55, v56, v57, v58, v59, v60]))]) ((fun A : Nat → Prop => va_Qi (S := Unit) (fun (r : Int32) => (fun (z : Unit) => r = 1)) (nm_B D (fun (z : Unit) => [(a0, .inr (11, [.int 1, v0, v1, v2, v3, v4, v5, v6, v7, v8, v9, v10, v11, v12, v13, v14, v15, v16, v17, v18, v19, v20, v21, v22, v23, v24, v25, v26, v27, v28, v29, v30, v31, v32, v33, v34, v35, v36, v37, v38, v39, v40, v41, v42, v43, v44, v45, v46, v47, v48, v49, v50, v51, v52, v53, v54, v55, v56, v57, v58, v59, v60]))]) A) A) (va_A [(a0, .inr (11, [.int 1, v0, v1, v2, v3, v4, v5, v6, v7, v8, v9, v10, v11, v12, v13, v14, v15, v16, v17, v18, v19, v20, v21, v22, v23, v24, v25, v26, v27, v28, v29, v30, v31, v32, v33, v34, v35, v36, v37, v38, v39, v40, v41, v42, v43, v44, v45, v46, v47, v48, v49, v50, v51, v52, v53, v54, v55, v56, v57, v58, v59, v60]))] sz)) 0 0 (va_A [(a0, .inr (11, [.int 1, v0, v1, v2, v3, v4, v5, v6, v7, v8, v9, v10, v11, v12, v13, v14, v15, v16, v17, v18, v19, v20, v21, v22, v23, v24, v25, v26, v27, v28, v29, v30, v31, v32, v33, v34, v35, v36, v37, v38, v39, v40, v41, v42, v43, v44, v45, v46, v47, v48, v49, v50, v51, v52, v53, v54, v55, v56, v57, v58, v59, v60]))] sz) := by
  refine nm_Met (Qc := fun A => va_Qi (S := Unit) (fun (r : Int32) => (fun (z : Unit) => r = 1)) (nm_B D (fun (z : Unit) => [(a0, .inr (11, [.int 1, v0, v1, v2, v3, v4, v5, v6, v7, v8, v9, v10, v11, v12, v13, v14, v15, v16, v17, v18, v19, v20, v21, v22, v23, v24, v25, v26, v27, v28, v29, v30, v31, v32, v33, v34, v35, v36, v37, v38, v39, v40, v41, v42, v43, v44, v45, v46, v47, v48, v49, v50, v51, v52, v53, v54, v55, v56, v57, v58, v59, v60]))]) A) A) ?_ ?_ ?_
  · decide +kernel
  · exact Nat.le_of_ble_eq_true rfl
  intro p e s m below meth c A ls hx hb hr hml hts hown hlocks hin hM hP hD hS hA hl
  have hl : lv_has ls 1 [(0, .ref a0)] := hl
  have hown : s.vm.findClass RX12 = some m.cls := hown
  refine lv_aload_n hx hb dX12_thrown_0 rfl (lv_at hl 0 rfl) ?_
  refine va_get (D := D) (ci := 11) (v := .int 1) (C := RX12) (T := TX12) (N := 62) hx hb hts iw_X12 hown hM.1 hP 0 rfl rfl 0 (by decide) (hts _ q_1495) (fun _ h9 => h9) rfl dX12_thrown_1 ?_
  have hP9 := hP.sub (ws' := [(a0, .inr (11, [.int 1, v0, v1, v2, v3, v4, v5, v6, v7, v8, v9, v10, v11, v12, v13, v14, v15, v16, v17, v18, v19, v20, v21, v22, v23, v24, v25, v26, v27, v28, v29, v30, v31, v32, v33, v34, v35, v36, v37, v38, v39, v40, v41, v42, v43, v44, v45, v46, v47, v48, v49, v50, v51, v52, v53, v54, v55, v56, v57, v58, v59, v60]))]) [0] rfl
  have hD9 := hD.sub (ws' := [(a0, .inr (11, [.int 1, v0, v1, v2, v3, v4, v5, v6, v7, v8, v9, v10, v11, v12, v13, v14, v15, v16, v17, v18, v19, v20, v21, v22, v23, v24, v25, v26, v27, v28, v29, v30, v31, v32, v33, v34, v35, v36, v37, v38, v39, v40, v41, v42, v43, v44, v45, v46, v47, v48, v49, v50, v51, v52, v53, v54, v55, v56, v57, v58, v59, v60]))]) [0] (by decide) rfl
  exact W.iret (v := 1) hx hb hr (fun t ht hW => ⟨⟨1, (), rfl, rfl, by rw [ht]; exact hP9, hD9⟩, hS.F ht⟩) hS.2.2 dX12_thrown_4
set_option maxHeartbeats 4000000 in
set_option maxRecDepth 100000 in
theorem lw_s_1_0 {p : Program} {e : Env} {s : State} {m : MethodId} {below : List Frame} {meth : Method} {c : Code} (l : Launch) (hl0 : l.stackTraces = false) {b : Nat} {xs : Nat → Int32} (C0 : lw_At p s m meth c b 6 xs) {A : Nat → Prop} (hAd : A = fun q : Nat => s.heap.size ≤ q) (D : va_G) (cI cB cJ cS : ClassId) (hM : nm_Amb D cI cB cJ cS s) (hTh : nm_Th A s) (q101 : Nat) (q102 : Nat) (q103 : Nat) (q104 : Nat) (q105 : Nat) (q106 : Nat) (q107 : Nat) (q108 : Nat) (q109 : Nat) (q110 : Nat) (q111 : Nat) (q112 : Nat) (q113 : Nat) (q114 : Nat) (q115 : Nat) (q116 : Nat) (g117 : Nat → Option Nat) (q118 : Nat) (q119 : Nat) (q120 : Nat) (q121 : Nat) (q122 : Nat) (q123 : Nat) (q124 : Nat) (q125 : Nat) (q126 : Nat) (q127 : Nat) (q128 : Nat) (q129 : Nat) (q130 : Nat) (q131 : Nat) (q132 : Nat) (q133 : Nat) (q134 : Nat) (q135 : Nat) (q136 : Nat) (q137 : Nat) (q138 : Nat) (q139 : Nat) (q140 : Nat) (q141 : Nat) (q142 : Nat) (q143 : Nat) (q144 : Nat) (q145 : Nat) (q146 : Nat) (q147 : Nat) (q148 : Nat) (q149 : Nat) (q150 : Nat) (q151 : Nat) (q152 : Nat) (q153 : Nat) (q154 : Nat) (q155 : Nat) (q156 : Nat) (q157 : Nat) (q158 : Nat) (q159 : Nat) (q160 : Nat) (q161 : Nat) (q162 : Nat) (q163 : Nat) (q164 : Nat) (q165 : Nat) (q166 : Nat) (q167 : Nat) (q168 : Nat) (q169 : Nat) (q170 : Nat) (q171 : Nat) (q172 : Nat) (q173 : Nat) (q175 : Nat) (q176 : Nat) (q177 : Nat) (q178 : Nat) (q179 : Nat) (q180 : Nat) (q181 : Nat) (q182 : Nat) (q183 : Nat) (q184 : Nat) (q185 : Nat) (q186 : Nat) (q187 : Nat) (q188 : Nat) (q189 : Nat) (q190 : Nat) (q191 : Nat) (q192 : Nat) (q193 : Nat) (q194 : Nat) (q195 : Nat) (q196 : Nat) (q197 : Nat) (q198 : Nat) (q199 : Nat) (q200 : Nat) (q201 : Nat) (q202 : Nat) (q203 : Nat) (q204 : Nat) (q205 : Nat) (q206 : Nat) (q207 : Nat) (q208 : Nat) (q209 : Nat) (h174 : g117 0 = some q171) (p1 : Int32) (hp1 : xs 1 = p1) (hh_p1 : p1 ≤ (-1 : Int32)) {H : Heap} {locs : List Loc} (hP : va_P D nm_cl [(q101, .inr (10, [.ref q102, .ref q103, .int 0, .int 0, .int (-1), .ref q104, .ref q105, .ref q106, .ref q107, .ref q108, .ref q109, .ref q110, .ref q111, .ref q112, .ref q113, .ref q114, .ref q115, .int (-1)])), (q102, .inr (0, [.ref q116, .int 0])), (q116, .inl (cB, 16, .inl (fun _ => 0))), (q103, .inl (cS, 10, .inr (.inr (.inr (.inr g117))))), (q104, .inl (cI, 3, .inl (fun _ => 0))), (q105, .inr (5, [.ref q118, .ref q119, .ref q120, .ref q121, .ref q122, .ref q123, .ref q124, .ref q125, .ref q126, .ref q127, .ref q128, .ref q129, .ref q130, .ref q131, .ref q132, .ref q133, .ref q134, .ref q135])), (q118, .inr (1, [.ref q136, .int 0])), (q119, .inr (1, [.ref q137, .int 0])), (q120, .inr (1, [.ref q138, .int 0])), (q121, .inr (1, [.ref q139, .int 0])), (q122, .inr (1, [.ref q140, .int 0])), (q123, .inr (1, [.ref q141, .int 0])), (q124, .inr (1, [.ref q142, .int 0])), (q125, .inl (cI, 64, .inl (fun _ => 0))), (q126, .inr (1, [.ref q143, .int 0])), (q127, .inr (1, [.ref q144, .int 0])), (q128, .inr (1, [.ref q145, .int 0])), (q129, .inr (1, [.ref q146, .int 0])), (q130, .inr (1, [.ref q147, .int 0])), (q132, .inr (1, [.ref q148, .int 0])), (q133, .inr (1, [.ref q149, .int 0])), (q134, .inr (1, [.ref q150, .int 0])), (q135, .inr (0, [.ref q151, .int 0])), (q106, .inr (6, [.ref q105, .ref q152, .ref q153, .int (-1), .int 0])), (q152, .inr (7, [.ref q154, .ref q155, .ref q156, .ref q157, .ref q158, .ref q159])), (q154, .inr (1, [.ref q160, .int 0])), (q155, .inr (1, [.ref q161, .int 0])), (q156, .inr (1, [.ref q162, .int 0])), (q157, .inr (1, [.ref q163, .int 0])), (q158, .inr (1, [.ref q164, .int 0])), (q159, .inr (1, [.ref q165, .int 0])), (q153, .inr (1, [.ref q166, .int 0])), (q108, .inr (2, [.ref q105, .ref q167, .int 0, .int 0, .int 0, .int (-1), .ref q168, .int 0])), (q109, .inr (8, [.ref q105, .ref q169, .int 0, .int 0, .int 0, .int (-1)])), (q113, .inr (0, [.ref q170, .int 0])), (q171, .inr (4, [.ref q172, .ref q173, .int 0])), (q175, .inr (11, [.int 0, .ref q176, .int 0, .ref q177, .ref q178, .ref q179, .ref q180, .int 0, .int 0, .int (-1), .long 0, .long 0, .int 0, .int 0, .ref q181, .ref q182, .ref q183, .ref q184, .ref q185, .ref q186, .ref q187, .ref q188, .ref q189, .ref q190, .ref q191, .ref q192, .ref q193, .ref q194, .null, .int 0, .int 0, .int 0, .int 0, .ref q195, .int 0, .int 0, .int 0, .int 0, .ref q196, .ref q197, .ref q198, .ref q199, .ref q200, .int 0, .int 0, .ref q201, .int 0, .int 0, .ref q202, .ref q203, .ref q204, .int 0, .ref q205, .int 0, .int 0, .int 0, .int 0, .int 0, .ref q206, .ref q207, .int 0, .ref q208])), (q176, .inl (cI, 3, .inl (fun _ => 0))), (q177, .inl (cB, 400, .inl (fun _ => 0))), (q194, .inl (cI, 4096, .inl (fun _ => 0))), (q209, .inl (cJ, 1, .inr (.inl (fun _ => 0))))] H) (hD : va_D A [(q101, .inr (10, [.ref q102, .ref q103, .int 0, .int 0, .int (-1), .ref q104, .ref q105, .ref q106, .ref q107, .ref q108, .ref q109, .ref q110, .ref q111, .ref q112, .ref q113, .ref q114, .ref q115, .int (-1)])), (q102, .inr (0, [.ref q116, .int 0])), (q116, .inl (cB, 16, .inl (fun _ => 0))), (q103, .inl (cS, 10, .inr (.inr (.inr (.inr g117))))), (q104, .inl (cI, 3, .inl (fun _ => 0))), (q105, .inr (5, [.ref q118, .ref q119, .ref q120, .ref q121, .ref q122, .ref q123, .ref q124, .ref q125, .ref q126, .ref q127, .ref q128, .ref q129, .ref q130, .ref q131, .ref q132, .ref q133, .ref q134, .ref q135])), (q118, .inr (1, [.ref q136, .int 0])), (q119, .inr (1, [.ref q137, .int 0])), (q120, .inr (1, [.ref q138, .int 0])), (q121, .inr (1, [.ref q139, .int 0])), (q122, .inr (1, [.ref q140, .int 0])), (q123, .inr (1, [.ref q141, .int 0])), (q124, .inr (1, [.ref q142, .int 0])), (q125, .inl (cI, 64, .inl (fun _ => 0))), (q126, .inr (1, [.ref q143, .int 0])), (q127, .inr (1, [.ref q144, .int 0])), (q128, .inr (1, [.ref q145, .int 0])), (q129, .inr (1, [.ref q146, .int 0])), (q130, .inr (1, [.ref q147, .int 0])), (q132, .inr (1, [.ref q148, .int 0])), (q133, .inr (1, [.ref q149, .int 0])), (q134, .inr (1, [.ref q150, .int 0])), (q135, .inr (0, [.ref q151, .int 0])), (q106, .inr (6, [.ref q105, .ref q152, .ref q153, .int (-1), .int 0])), (q152, .inr (7, [.ref q154, .ref q155, .ref q156, .ref q157, .ref q158, .ref q159])), (q154, .inr (1, [.ref q160, .int 0])), (q155, .inr (1, [.ref q161, .int 0])), (q156, .inr (1, [.ref q162, .int 0])), (q157, .inr (1, [.ref q163, .int 0])), (q158, .inr (1, [.ref q164, .int 0])), (q159, .inr (1, [.ref q165, .int 0])), (q153, .inr (1, [.ref q166, .int 0])), (q108, .inr (2, [.ref q105, .ref q167, .int 0, .int 0, .int 0, .int (-1), .ref q168, .int 0])), (q109, .inr (8, [.ref q105, .ref q169, .int 0, .int 0, .int 0, .int (-1)])), (q113, .inr (0, [.ref q170, .int 0])), (q171, .inr (4, [.ref q172, .ref q173, .int 0])), (q175, .inr (11, [.int 0, .ref q176, .int 0, .ref q177, .ref q178, .ref q179, .ref q180, .int 0, .int 0, .int (-1), .long 0, .long 0, .int 0, .int 0, .ref q181, .ref q182, .ref q183, .ref q184, .ref q185, .ref q186, .ref q187, .ref q188, .ref q189, .ref q190, .ref q191, .ref q192, .ref q193, .ref q194, .null, .int 0, .int 0, .int 0, .int 0, .ref q195, .int 0, .int 0, .int 0, .int 0, .ref q196, .ref q197, .ref q198, .ref q199, .ref q200, .int 0, .int 0, .ref q201, .int 0, .int 0, .ref q202, .ref q203, .ref q204, .int 0, .ref q205, .int 0, .int 0, .int 0, .int 0, .int 0, .ref q206, .ref q207, .int 0, .ref q208])), (q176, .inl (cI, 3, .inl (fun _ => 0))), (q177, .inl (cB, 400, .inl (fun _ => 0))), (q194, .inl (cI, 4096, .inl (fun _ => 0))), (q209, .inl (cJ, 1, .inr (.inl (fun _ => 0))))]) (hS : va_S A s.heap H locs) {ls : Array Slot} (hl : lv_has ls 7 [(4, .int 0), (3, .ref q209), (2, .ref q175), (1, .ref q101), (0, .ref b)]) : W p l e room_1 s m #[Value.ref b] below meth c H locs 196 153229 (lw_Z below #[Value.ref b] s) (F0 m 225 ls []) := by
  obtain ⟨hx, hb, hr, hml, hown, hts0, hX, hbl, hlocks, hgv⟩ := id C0
  have hown : s.vm.findClass RL = some m.cls := hown
  have hb : c.code = cL_law := hb
  have hts : ∀ w ∈ nm_big, w.before #[Value.ref b] s = true := fun w hw => hts0 w (List.mem_filter.mp hw).1
  have hA : ∀ q : Nat, s.heap.size ≤ q → A q := fun q h => by rw [hAd]; exact h
  have hbA : ¬ A b := by rw [hAd]; exact Nat.not_le.mpr hbl
  have hP := hP.sub (ws' := [(q101, .inr (10, [.ref q102, .ref q103, .int 0, .int 0, .int (-1), .ref q104, .ref q105, .ref q106, .ref q107, .ref q108, .ref q109, .ref q110, .ref q111, .ref q112, .ref q113, .ref q114, .ref q115, .int (-1)])), (q104, .inl (cI, 3, .inl (fun _ => 0))), (q175, .inr (11, [.int 0, .ref q176, .int 0, .ref q177, .ref q178, .ref q179, .ref q180, .int 0, .int 0, .int (-1), .long 0, .long 0, .int 0, .int 0, .ref q181, .ref q182, .ref q183, .ref q184, .ref q185, .ref q186, .ref q187, .ref q188, .ref q189, .ref q190, .ref q191, .ref q192, .ref q193, .ref q194, .null, .int 0, .int 0, .int 0, .int 0, .ref q195, .int 0, .int 0, .int 0, .int 0, .ref q196, .ref q197, .ref q198, .ref q199, .ref q200, .int 0, .int 0, .ref q201, .int 0, .int 0, .ref q202, .ref q203, .ref q204, .int 0, .ref q205, .int 0, .int 0, .int 0, .int 0, .int 0, .ref q206, .ref q207, .int 0, .ref q208])), (q176, .inl (cI, 3, .inl (fun _ => 0)))]) [0, 4, 36, 37] rfl
  have hD := hD.sub (ws' := [(q101, .inr (10, [.ref q102, .ref q103, .int 0, .int 0, .int (-1), .ref q104, .ref q105, .ref q106, .ref q107, .ref q108, .ref q109, .ref q110, .ref q111, .ref q112, .ref q113, .ref q114, .ref q115, .int (-1)])), (q104, .inl (cI, 3, .inl (fun _ => 0))), (q175, .inr (11, [.int 0, .ref q176, .int 0, .ref q177, .ref q178, .ref q179, .ref q180, .int 0, .int 0, .int (-1), .long 0, .long 0, .int 0, .int 0, .ref q181, .ref q182, .ref q183, .ref q184, .ref q185, .ref q186, .ref q187, .ref q188, .ref q189, .ref q190, .ref q191, .ref q192, .ref q193, .ref q194, .null, .int 0, .int 0, .int 0, .int 0, .ref q195, .int 0, .int 0, .int 0, .int 0, .ref q196, .ref q197, .ref q198, .ref q199, .ref q200, .int 0, .int 0, .ref q201, .int 0, .int 0, .ref q202, .ref q203, .ref q204, .int 0, .ref q205, .int 0, .int 0, .int 0, .int 0, .int 0, .ref q206, .ref q207, .int 0, .ref q208])), (q176, .inl (cI, 3, .inl (fun _ => 0)))]) [0, 4, 36, 37] (by decide) rfl
  refine lv_aload_n hx hb dL_law_225 rfl (lv_at hl 3 rfl) ?_
  refine lv_aload_n hx hb dL_law_226 rfl (lv_at hl 4 rfl) ?_
  refine lv_iload hx hb dL_law_227 (lv_at hl 0 rfl) ?_
  refine lv_iconst (v := 1) hx hb dL_law_229 (by decide) ?_
  refine lv_iadd hx hb dL_law_230 ?_
  refine lv_topi (fun z101 e9 => ?_)
  obtain rfl : z101 = (1 : Int32) := e9.trans (by decide)
  refine va_sld hx hb hX hbl hbA hS (nm_vin (by decide)) dL_law_231 ?_
  refine lv_topi (fun z102 e9 => ?_)
  have e8 : (p1 : Int32) = z102 := ((e9.trans (congrArg xs (by decide))).trans hp1).symm
  subst e8
  refine lv_aload_n hx hb dL_law_232 rfl (lv_at hl 1 rfl) ?_
  refine nm_xcalli (Z := Unit) (wr := [(q175, .inr (11, [.int 0, .ref q176, .int 0, .ref q177, .ref q178, .ref q179, .ref q180, .int 0, .int 0, .int (-1), .long 0, .long 0, .int 0, .int 0, .ref q181, .ref q182, .ref q183, .ref q184, .ref q185, .ref q186, .ref q187, .ref q188, .ref q189, .ref q190, .ref q191, .ref q192, .ref q193, .ref q194, .null, .int 0, .int 0, .int 0, .int 0, .ref q195, .int 0, .int 0, .int 0, .int 0, .ref q196, .ref q197, .ref q198, .ref q199, .ref q200, .int 0, .int 0, .ref q201, .int 0, .int 0, .ref q202, .ref q203, .ref q204, .int 0, .ref q205, .int 0, .int 0, .int 0, .int 0, .int 0, .ref q206, .ref q207, .int 0, .ref q208])), (q176, .inl (cI, 3, .inl (fun _ => 0)))]) (k := 197) (n := 153235) (vx_runSX (As := [.ref q101, .int p1, .ref q209]) (rest := []) ⟨hx, hb, hml, hown, hts⟩ (c_L_define_1 l hl0 D cI cB cJ cS H.size q101 q104 p1 q209 (.ref q102) (.ref q103) (.int 0) (.int 0) (.int (-1)) (.ref q105) (.ref q106) (.ref q107) (.ref q108) (.ref q109) (.ref q110) (.ref q111) (.ref q112) (.ref q113) (.ref q114) (.ref q115) (.int (-1)) hh_p1) (vx_cwSW 3 hts (nm_gSW q_494 q_495 q_0 q_496) rfl rfl rfl (by decide +kernel) ⟨(Nat.le_of_ble_eq_true rfl), (Nat.le_of_ble_eq_true rfl)⟩) (nm_preXS (hP.sub [0, 1] rfl) (hD.sub [0, 1] (by decide) rfl) hM hTh hS (va_free hD hS hA [0, 1] rfl)) rfl rfl hl.1 rfl (lv_room (Nat.le_of_ble_eq_true rfl)) dL_law_233 ⟨(Nat.le_of_ble_eq_true rfl), (Nat.le_of_ble_eq_true rfl)⟩) hP hD hS hA [0, 1] [2, 3] rfl rfl (by decide) (by decide) (Nat.le_of_ble_eq_true rfl) (Nat.le_of_ble_eq_true rfl) (fun r9 u H locs hw hP hD hS => ?_)
  obtain rfl : r9 = (1 : Int32) := hw
  have hP : va_P D nm_cl [(q175, .inr (11, [.int 0, .ref q176, .int 0, .ref q177, .ref q178, .ref q179, .ref q180, .int 0, .int 0, .int (-1), .long 0, .long 0, .int 0, .int 0, .ref q181, .ref q182, .ref q183, .ref q184, .ref q185, .ref q186, .ref q187, .ref q188, .ref q189, .ref q190, .ref q191, .ref q192, .ref q193, .ref q194, .null, .int 0, .int 0, .int 0, .int 0, .ref q195, .int 0, .int 0, .int 0, .int 0, .ref q196, .ref q197, .ref q198, .ref q199, .ref q200, .int 0, .int 0, .ref q201, .int 0, .int 0, .ref q202, .ref q203, .ref q204, .int 0, .ref q205, .int 0, .int 0, .int 0, .int 0, .int 0, .ref q206, .ref q207, .int 0, .ref q208])), (q176, .inl (cI, 3, .inl (fun _ => 0)))] H := hP
  have hD : va_D A [(q175, .inr (11, [.int 0, .ref q176, .int 0, .ref q177, .ref q178, .ref q179, .ref q180, .int 0, .int 0, .int (-1), .long 0, .long 0, .int 0, .int 0, .ref q181, .ref q182, .ref q183, .ref q184, .ref q185, .ref q186, .ref q187, .ref q188, .ref q189, .ref q190, .ref q191, .ref q192, .ref q193, .ref q194, .null, .int 0, .int 0, .int 0, .int 0, .ref q195, .int 0, .int 0, .int 0, .int 0, .ref q196, .ref q197, .ref q198, .ref q199, .ref q200, .int 0, .int 0, .ref q201, .int 0, .int 0, .ref q202, .ref q203, .ref q204, .int 0, .ref q205, .int 0, .int 0, .int 0, .int 0, .int 0, .ref q206, .ref q207, .int 0, .ref q208])), (q176, .inl (cI, 3, .inl (fun _ => 0)))] := hD
  refine lv_istore (lv' := [(5, .int 1), (4, .int 0), (3, .ref q209), (2, .ref q175), (1, .ref q101), (0, .ref b)]) hx hb dL_law_236 hl (by decide) rfl (fun ls hl => ?_)
  refine lv_aload_n hx hb dL_law_238 rfl (lv_at hl 3 rfl) ?_
  refine lv_aload_n hx hb dL_law_239 rfl (lv_at hl 5 rfl) ?_
  refine lv_iload hx hb dL_law_240 (lv_at hl 1 rfl) ?_
  refine lv_iconst (v := 1) hx hb dL_law_242 (by decide) ?_
  refine lv_iadd hx hb dL_law_243 ?_
  refine lv_topi (fun z103 e9 => ?_)
  obtain rfl : z103 = (1 : Int32) := e9.trans (by decide)
  refine va_sld hx hb hX hbl hbA hS (nm_vin (by decide)) dL_law_244 ?_
  refine lv_topi (fun z104 e9 => ?_)
  have e8 : (p1 : Int32) = z104 := ((e9.trans (congrArg xs (by decide))).trans hp1).symm
  subst e8
  refine nm_calli (Z := Unit) (wr := []) (k := 197) (n := 153235) (va_runV (As := [.int p1]) (rest := []) ⟨hx, hb, hml, hown, hts⟩ (c_X12_define_1 l D cI cB cJ cS H.size q175 q176 p1 (.int 0) (.ref q177) (.ref q178) (.ref q179) (.ref q180) (.int 0) (.int 0) (.int (-1)) (.long 0) (.long 0) (.int 0) (.int 0) (.ref q181) (.ref q182) (.ref q183) (.ref q184) (.ref q185) (.ref q186) (.ref q187) (.ref q188) (.ref q189) (.ref q190) (.ref q191) (.ref q192) (.ref q193) (.ref q194) (.null) (.int 0) (.int 0) (.int 0) (.int 0) (.ref q195) (.int 0) (.int 0) (.int 0) (.int 0) (.ref q196) (.ref q197) (.ref q198) (.ref q199) (.ref q200) (.int 0) (.int 0) (.ref q201) (.int 0) (.int 0) (.ref q202) (.ref q203) (.ref q204) (.int 0) (.ref q205) (.int 0) (.int 0) (.int 0) (.int 0) (.int 0) (.ref q206) (.ref q207) (.int 0) (.ref q208) hh_p1) (cwV 1 hts (nm_gV q_1695 q_1696 q_1697 q_13 q_1698) rfl rfl rfl (by decide +kernel) ⟨(Nat.le_of_ble_eq_true rfl), (Nat.le_of_ble_eq_true rfl)⟩) (nm_preV (q := (RX12, TX12, 62)) (hP.sub [0, 1] rfl) (hD.sub [0, 1] (by decide) rfl) hM 0 rfl rfl) rfl rfl hl.1 rfl (lv_room (Nat.le_of_ble_eq_true rfl)) dL_law_245 ⟨(Nat.le_of_ble_eq_true rfl), (Nat.le_of_ble_eq_true rfl)⟩) hP hD hS hA [0, 1] [] rfl rfl (by decide) (by decide) (Nat.le_of_ble_eq_true rfl) (Nat.le_of_ble_eq_true rfl) (fun r9 u H locs hw hP hD hS => ?_)
  obtain rfl : r9 = (0 : Int32) := hw
  have hP : va_P D nm_cl [(q175, .inr (11, [.int 1, .ref q176, .int 0, .ref q177, .ref q178, .ref q179, .ref q180, .int 0, .int 0, .int (-1), .long 0, .long 0, .int 0, .int 0, .ref q181, .ref q182, .ref q183, .ref q184, .ref q185, .ref q186, .ref q187, .ref q188, .ref q189, .ref q190, .ref q191, .ref q192, .ref q193, .ref q194, .null, .int 0, .int 0, .int 0, .int 0, .ref q195, .int 0, .int 0, .int 0, .int 0, .ref q196, .ref q197, .ref q198, .ref q199, .ref q200, .int 0, .int 0, .ref q201, .int 0, .int 0, .ref q202, .ref q203, .ref q204, .int 0, .ref q205, .int 0, .int 0, .int 0, .int 0, .int 0, .ref q206, .ref q207, .int 0, .ref q208]))] H := hP
  have hD : va_D A [(q175, .inr (11, [.int 1, .ref q176, .int 0, .ref q177, .ref q178, .ref q179, .ref q180, .int 0, .int 0, .int (-1), .long 0, .long 0, .int 0, .int 0, .ref q181, .ref q182, .ref q183, .ref q184, .ref q185, .ref q186, .ref q187, .ref q188, .ref q189, .ref q190, .ref q191, .ref q192, .ref q193, .ref q194, .null, .int 0, .int 0, .int 0, .int 0, .ref q195, .int 0, .int 0, .int 0, .int 0, .ref q196, .ref q197, .ref q198, .ref q199, .ref q200, .int 0, .int 0, .ref q201, .int 0, .int 0, .ref q202, .ref q203, .ref q204, .int 0, .ref q205, .int 0, .int 0, .int 0, .int 0, .int 0, .ref q206, .ref q207, .int 0, .ref q208]))] := hD
  refine lv_istore (lv' := [(6, .int 0), (5, .int 1), (4, .int 0), (3, .ref q209), (2, .ref q175), (1, .ref q101), (0, .ref b)]) hx hb dL_law_248 hl (by decide) rfl (fun ls hl => ?_)
  refine lv_aload_n hx hb dL_law_250 rfl (lv_at hl 4 rfl) ?_
  refine nm_calli (Z := Unit) (wr := []) (k := 197) (n := 153235) (va_runV (As := []) (rest := []) ⟨hx, hb, hml, hown, hts⟩ (c_X12_thrown_2 l D cI cB cJ cS H.size q175 (.ref q176) (.int 0) (.ref q177) (.ref q178) (.ref q179) (.ref q180) (.int 0) (.int 0) (.int (-1)) (.long 0) (.long 0) (.int 0) (.int 0) (.ref q181) (.ref q182) (.ref q183) (.ref q184) (.ref q185) (.ref q186) (.ref q187) (.ref q188) (.ref q189) (.ref q190) (.ref q191) (.ref q192) (.ref q193) (.ref q194) (.null) (.int 0) (.int 0) (.int 0) (.int 0) (.ref q195) (.int 0) (.int 0) (.int 0) (.int 0) (.ref q196) (.ref q197) (.ref q198) (.ref q199) (.ref q200) (.int 0) (.int 0) (.ref q201) (.int 0) (.int 0) (.ref q202) (.ref q203) (.ref q204) (.int 0) (.ref q205) (.int 0) (.int 0) (.int 0) (.int 0) (.int 0) (.ref q206) (.ref q207) (.int 0) (.ref q208)) (cwV 0 hts (nm_gV q_1683 q_1684 q_1685 q_13 q_1686) rfl rfl rfl (by decide +kernel) ⟨(Nat.le_of_ble_eq_true rfl), (Nat.le_of_ble_eq_true rfl)⟩) (nm_preV (q := (RX12, TX12, 62)) (hP.sub [0] rfl) (hD.sub [0] (by decide) rfl) hM 0 rfl rfl) rfl rfl hl.1 rfl (lv_room (Nat.le_of_ble_eq_true rfl)) dL_law_251 ⟨(Nat.le_of_ble_eq_true rfl), (Nat.le_of_ble_eq_true rfl)⟩) hP hD hS hA [0] [] rfl rfl (by decide) (by decide) (Nat.le_of_ble_eq_true rfl) (Nat.le_of_ble_eq_true rfl) (fun r9 u H locs hw hP hD hS => ?_)
  obtain rfl : r9 = (1 : Int32) := hw
  have hP : va_P D nm_cl [(q175, .inr (11, [.int 1, .ref q176, .int 0, .ref q177, .ref q178, .ref q179, .ref q180, .int 0, .int 0, .int (-1), .long 0, .long 0, .int 0, .int 0, .ref q181, .ref q182, .ref q183, .ref q184, .ref q185, .ref q186, .ref q187, .ref q188, .ref q189, .ref q190, .ref q191, .ref q192, .ref q193, .ref q194, .null, .int 0, .int 0, .int 0, .int 0, .ref q195, .int 0, .int 0, .int 0, .int 0, .ref q196, .ref q197, .ref q198, .ref q199, .ref q200, .int 0, .int 0, .ref q201, .int 0, .int 0, .ref q202, .ref q203, .ref q204, .int 0, .ref q205, .int 0, .int 0, .int 0, .int 0, .int 0, .ref q206, .ref q207, .int 0, .ref q208]))] H := hP
  have hD : va_D A [(q175, .inr (11, [.int 1, .ref q176, .int 0, .ref q177, .ref q178, .ref q179, .ref q180, .int 0, .int 0, .int (-1), .long 0, .long 0, .int 0, .int 0, .ref q181, .ref q182, .ref q183, .ref q184, .ref q185, .ref q186, .ref q187, .ref q188, .ref q189, .ref q190, .ref q191, .ref q192, .ref q193, .ref q194, .null, .int 0, .int 0, .int 0, .int 0, .ref q195, .int 0, .int 0, .int 0, .int 0, .ref q196, .ref q197, .ref q198, .ref q199, .ref q200, .int 0, .int 0, .ref q201, .int 0, .int 0, .ref q202, .ref q203, .ref q204, .int 0, .ref q205, .int 0, .int 0, .int 0, .int 0, .int 0, .ref q206, .ref q207, .int 0, .ref q208]))] := hD
  refine lv_iload hx hb dL_law_254 (lv_at hl 1 rfl) ?_
  refine lv_icmp_eq (tgt := 261) hx hb dL_law_256 (by decide) (fun _ => ?_) (fun c9 => absurd (by decide) c9)
  refine lv_iload hx hb dL_law_261 (lv_at hl 1 rfl) ?_
  refine lv_if_ne (tgt := 278) hx hb dL_law_263 (by decide) (fun _ => ?_) (fun c9 => absurd c9 (by decide))
  refine lv_goto (tgt := 1486) hx hb dL_law_278 (by decide) ?_
  refine lv_iinc (v := 6) (lv' := [(4, .int 6), (6, .int 0), (5, .int 1), (3, .ref q209), (2, .ref q175), (1, .ref q101), (0, .ref b)]) hx hb dL_law_1486 hl (k := 2) rfl (by decide) (by decide) rfl (fun ls hl => ?_)
  refine lv_goto (tgt := 23) hx hb dL_law_1489 (by decide) ?_
  refine lv_iload hx hb dL_law_23 (lv_at hl 0 rfl) ?_
  refine lv_aload_n hx hb dL_law_25 rfl (lv_at hl 6 rfl) ?_
  refine va_slen hx hb hX hbl hbA hS dL_law_26 ?_
  refine lv_topi (fun z105 e9 => ?_)
  have e8 : (6 : Int32) = z105 := (e9.trans (by decide)).symm
  subst e8
  refine lv_bipush (v := 6) hx hb dL_law_27 (by decide) ?_
  refine lv_isub hx hb dL_law_29 ?_
  refine lv_topi (fun z106 e9 => ?_)
  obtain rfl : z106 = (0 : Int32) := e9.trans (by decide)
  refine lv_icmp_gt (tgt := 1492) hx hb dL_law_30 (by decide) (fun _ => ?_) (fun c9 => absurd (by decide) c9)
  refine lv_iconst (v := 1) hx hb dL_law_1492 (by decide) ?_
  refine va_forget (fun q hq => by have h9 := hS.2.2 q hq; rw [hAd] at h9; exact h9) ?_
  refine W.widen (k := 600002) (n := 7302232) (Nat.le_of_ble_eq_true rfl) (Nat.le_of_ble_eq_true rfl) ?_
  exact lw_ret hx hb hr hlocks dL_law_1493
set_option maxHeartbeats 4000000 in
set_option maxRecDepth 100000 in
theorem lw_s_1_1 {p : Program} {e : Env} {s : State} {m : MethodId} {below : List Frame} {meth : Method} {c : Code} (l : Launch) (hl0 : l.stackTraces = false) {b : Nat} {xs : Nat → Int32} (C0 : lw_At p s m meth c b 6 xs) {A : Nat → Prop} (hAd : A = fun q : Nat => s.heap.size ≤ q) (D : va_G) (cI cB cJ cS : ClassId) (hM : nm_Amb D cI cB cJ cS s) (hTh : nm_Th A s) (q101 : Nat) (q102 : Nat) (q103 : Nat) (q104 : Nat) (q105 : Nat) (q106 : Nat) (q107 : Nat) (q108 : Nat) (q109 : Nat) (q110 : Nat) (q111 : Nat) (q112 : Nat) (q113 : Nat) (q114 : Nat) (q115 : Nat) (q116 : Nat) (g117 : Nat → Option Nat) (q118 : Nat) (q119 : Nat) (q120 : Nat) (q121 : Nat) (q122 : Nat) (q123 : Nat) (q124 : Nat) (q125 : Nat) (q126 : Nat) (q127 : Nat) (q128 : Nat) (q129 : Nat) (q130 : Nat) (q131 : Nat) (q132 : Nat) (q133 : Nat) (q134 : Nat) (q135 : Nat) (q136 : Nat) (q137 : Nat) (q138 : Nat) (q139 : Nat) (q140 : Nat) (q141 : Nat) (q142 : Nat) (q143 : Nat) (q144 : Nat) (q145 : Nat) (q146 : Nat) (q147 : Nat) (q148 : Nat) (q149 : Nat) (q150 : Nat) (q151 : Nat) (q152 : Nat) (q153 : Nat) (q154 : Nat) (q155 : Nat) (q156 : Nat) (q157 : Nat) (q158 : Nat) (q159 : Nat) (q160 : Nat) (q161 : Nat) (q162 : Nat) (q163 : Nat) (q164 : Nat) (q165 : Nat) (q166 : Nat) (q167 : Nat) (q168 : Nat) (q169 : Nat) (q170 : Nat) (q171 : Nat) (q172 : Nat) (q173 : Nat) (q175 : Nat) (q176 : Nat) (q177 : Nat) (q178 : Nat) (q179 : Nat) (q180 : Nat) (q181 : Nat) (q182 : Nat) (q183 : Nat) (q184 : Nat) (q185 : Nat) (q186 : Nat) (q187 : Nat) (q188 : Nat) (q189 : Nat) (q190 : Nat) (q191 : Nat) (q192 : Nat) (q193 : Nat) (q194 : Nat) (q195 : Nat) (q196 : Nat) (q197 : Nat) (q198 : Nat) (q199 : Nat) (q200 : Nat) (q201 : Nat) (q202 : Nat) (q203 : Nat) (q204 : Nat) (q205 : Nat) (q206 : Nat) (q207 : Nat) (q208 : Nat) (q209 : Nat) (h174 : g117 0 = some q171) (hp1 : xs 1 = 0) {H : Heap} {locs : List Loc} (hP : va_P D nm_cl [(q101, .inr (10, [.ref q102, .ref q103, .int 0, .int 0, .int (-1), .ref q104, .ref q105, .ref q106, .ref q107, .ref q108, .ref q109, .ref q110, .ref q111, .ref q112, .ref q113, .ref q114, .ref q115, .int (-1)])), (q102, .inr (0, [.ref q116, .int 0])), (q116, .inl (cB, 16, .inl (fun _ => 0))), (q103, .inl (cS, 10, .inr (.inr (.inr (.inr g117))))), (q104, .inl (cI, 3, .inl (fun _ => 0))), (q105, .inr (5, [.ref q118, .ref q119, .ref q120, .ref q121, .ref q122, .ref q123, .ref q124, .ref q125, .ref q126, .ref q127, .ref q128, .ref q129, .ref q130, .ref q131, .ref q132, .ref q133, .ref q134, .ref q135])), (q118, .inr (1, [.ref q136, .int 0])), (q119, .inr (1, [.ref q137, .int 0])), (q120, .inr (1, [.ref q138, .int 0])), (q121, .inr (1, [.ref q139, .int 0])), (q122, .inr (1, [.ref q140, .int 0])), (q123, .inr (1, [.ref q141, .int 0])), (q124, .inr (1, [.ref q142, .int 0])), (q125, .inl (cI, 64, .inl (fun _ => 0))), (q126, .inr (1, [.ref q143, .int 0])), (q127, .inr (1, [.ref q144, .int 0])), (q128, .inr (1, [.ref q145, .int 0])), (q129, .inr (1, [.ref q146, .int 0])), (q130, .inr (1, [.ref q147, .int 0])), (q132, .inr (1, [.ref q148, .int 0])), (q133, .inr (1, [.ref q149, .int 0])), (q134, .inr (1, [.ref q150, .int 0])), (q135, .inr (0, [.ref q151, .int 0])), (q106, .inr (6, [.ref q105, .ref q152, .ref q153, .int (-1), .int 0])), (q152, .inr (7, [.ref q154, .ref q155, .ref q156, .ref q157, .ref q158, .ref q159])), (q154, .inr (1, [.ref q160, .int 0])), (q155, .inr (1, [.ref q161, .int 0])), (q156, .inr (1, [.ref q162, .int 0])), (q157, .inr (1, [.ref q163, .int 0])), (q158, .inr (1, [.ref q164, .int 0])), (q159, .inr (1, [.ref q165, .int 0])), (q153, .inr (1, [.ref q166, .int 0])), (q108, .inr (2, [.ref q105, .ref q167, .int 0, .int 0, .int 0, .int (-1), .ref q168, .int 0])), (q109, .inr (8, [.ref q105, .ref q169, .int 0, .int 0, .int 0, .int (-1)])), (q113, .inr (0, [.ref q170, .int 0])), (q171, .inr (4, [.ref q172, .ref q173, .int 0])), (q175, .inr (11, [.int 0, .ref q176, .int 0, .ref q177, .ref q178, .ref q179, .ref q180, .int 0, .int 0, .int (-1), .long 0, .long 0, .int 0, .int 0, .ref q181, .ref q182, .ref q183, .ref q184, .ref q185, .ref q186, .ref q187, .ref q188, .ref q189, .ref q190, .ref q191, .ref q192, .ref q193, .ref q194, .null, .int 0, .int 0, .int 0, .int 0, .ref q195, .int 0, .int 0, .int 0, .int 0, .ref q196, .ref q197, .ref q198, .ref q199, .ref q200, .int 0, .int 0, .ref q201, .int 0, .int 0, .ref q202, .ref q203, .ref q204, .int 0, .ref q205, .int 0, .int 0, .int 0, .int 0, .int 0, .ref q206, .ref q207, .int 0, .ref q208])), (q176, .inl (cI, 3, .inl (fun _ => 0))), (q177, .inl (cB, 400, .inl (fun _ => 0))), (q194, .inl (cI, 4096, .inl (fun _ => 0))), (q209, .inl (cJ, 1, .inr (.inl (fun _ => 0))))] H) (hD : va_D A [(q101, .inr (10, [.ref q102, .ref q103, .int 0, .int 0, .int (-1), .ref q104, .ref q105, .ref q106, .ref q107, .ref q108, .ref q109, .ref q110, .ref q111, .ref q112, .ref q113, .ref q114, .ref q115, .int (-1)])), (q102, .inr (0, [.ref q116, .int 0])), (q116, .inl (cB, 16, .inl (fun _ => 0))), (q103, .inl (cS, 10, .inr (.inr (.inr (.inr g117))))), (q104, .inl (cI, 3, .inl (fun _ => 0))), (q105, .inr (5, [.ref q118, .ref q119, .ref q120, .ref q121, .ref q122, .ref q123, .ref q124, .ref q125, .ref q126, .ref q127, .ref q128, .ref q129, .ref q130, .ref q131, .ref q132, .ref q133, .ref q134, .ref q135])), (q118, .inr (1, [.ref q136, .int 0])), (q119, .inr (1, [.ref q137, .int 0])), (q120, .inr (1, [.ref q138, .int 0])), (q121, .inr (1, [.ref q139, .int 0])), (q122, .inr (1, [.ref q140, .int 0])), (q123, .inr (1, [.ref q141, .int 0])), (q124, .inr (1, [.ref q142, .int 0])), (q125, .inl (cI, 64, .inl (fun _ => 0))), (q126, .inr (1, [.ref q143, .int 0])), (q127, .inr (1, [.ref q144, .int 0])), (q128, .inr (1, [.ref q145, .int 0])), (q129, .inr (1, [.ref q146, .int 0])), (q130, .inr (1, [.ref q147, .int 0])), (q132, .inr (1, [.ref q148, .int 0])), (q133, .inr (1, [.ref q149, .int 0])), (q134, .inr (1, [.ref q150, .int 0])), (q135, .inr (0, [.ref q151, .int 0])), (q106, .inr (6, [.ref q105, .ref q152, .ref q153, .int (-1), .int 0])), (q152, .inr (7, [.ref q154, .ref q155, .ref q156, .ref q157, .ref q158, .ref q159])), (q154, .inr (1, [.ref q160, .int 0])), (q155, .inr (1, [.ref q161, .int 0])), (q156, .inr (1, [.ref q162, .int 0])), (q157, .inr (1, [.ref q163, .int 0])), (q158, .inr (1, [.ref q164, .int 0])), (q159, .inr (1, [.ref q165, .int 0])), (q153, .inr (1, [.ref q166, .int 0])), (q108, .inr (2, [.ref q105, .ref q167, .int 0, .int 0, .int 0, .int (-1), .ref q168, .int 0])), (q109, .inr (8, [.ref q105, .ref q169, .int 0, .int 0, .int 0, .int (-1)])), (q113, .inr (0, [.ref q170, .int 0])), (q171, .inr (4, [.ref q172, .ref q173, .int 0])), (q175, .inr (11, [.int 0, .ref q176, .int 0, .ref q177, .ref q178, .ref q179, .ref q180, .int 0, .int 0, .int (-1), .long 0, .long 0, .int 0, .int 0, .ref q181, .ref q182, .ref q183, .ref q184, .ref q185, .ref q186, .ref q187, .ref q188, .ref q189, .ref q190, .ref q191, .ref q192, .ref q193, .ref q194, .null, .int 0, .int 0, .int 0, .int 0, .ref q195, .int 0, .int 0, .int 0, .int 0, .ref q196, .ref q197, .ref q198, .ref q199, .ref q200, .int 0, .int 0, .ref q201, .int 0, .int 0, .ref q202, .ref q203, .ref q204, .int 0, .ref q205, .int 0, .int 0, .int 0, .int 0, .int 0, .ref q206, .ref q207, .int 0, .ref q208])), (q176, .inl (cI, 3, .inl (fun _ => 0))), (q177, .inl (cB, 400, .inl (fun _ => 0))), (q194, .inl (cI, 4096, .inl (fun _ => 0))), (q209, .inl (cJ, 1, .inr (.inl (fun _ => 0))))]) (hS : va_S A s.heap H locs) {ls : Array Slot} (hl : lv_has ls 7 [(4, .int 0), (3, .ref q209), (2, .ref q175), (1, .ref q101), (0, .ref b)]) : W p l e room_1 s m #[Value.ref b] below meth c H locs 196 153229 (lw_Z below #[Value.ref b] s) (F0 m 225 ls []) := by
  obtain ⟨hx, hb, hr, hml, hown, hts0, hX, hbl, hlocks, hgv⟩ := id C0
  have hown : s.vm.findClass RL = some m.cls := hown
  have hb : c.code = cL_law := hb
  have hts : ∀ w ∈ nm_big, w.before #[Value.ref b] s = true := fun w hw => hts0 w (List.mem_filter.mp hw).1
  have hA : ∀ q : Nat, s.heap.size ≤ q → A q := fun q h => by rw [hAd]; exact h
  have hbA : ¬ A b := by rw [hAd]; exact Nat.not_le.mpr hbl
  have hP := hP.sub (ws' := [(q101, .inr (10, [.ref q102, .ref q103, .int 0, .int 0, .int (-1), .ref q104, .ref q105, .ref q106, .ref q107, .ref q108, .ref q109, .ref q110, .ref q111, .ref q112, .ref q113, .ref q114, .ref q115, .int (-1)])), (q102, .inr (0, [.ref q116, .int 0])), (q105, .inr (5, [.ref q118, .ref q119, .ref q120, .ref q121, .ref q122, .ref q123, .ref q124, .ref q125, .ref q126, .ref q127, .ref q128, .ref q129, .ref q130, .ref q131, .ref q132, .ref q133, .ref q134, .ref q135])), (q118, .inr (1, [.ref q136, .int 0])), (q119, .inr (1, [.ref q137, .int 0])), (q120, .inr (1, [.ref q138, .int 0])), (q121, .inr (1, [.ref q139, .int 0])), (q122, .inr (1, [.ref q140, .int 0])), (q123, .inr (1, [.ref q141, .int 0])), (q124, .inr (1, [.ref q142, .int 0])), (q125, .inl (cI, 64, .inl (fun _ => 0))), (q126, .inr (1, [.ref q143, .int 0])), (q127, .inr (1, [.ref q144, .int 0])), (q128, .inr (1, [.ref q145, .int 0])), (q129, .inr (1, [.ref q146, .int 0])), (q130, .inr (1, [.ref q147, .int 0])), (q132, .inr (1, [.ref q148, .int 0])), (q133, .inr (1, [.ref q149, .int 0])), (q134, .inr (1, [.ref q150, .int 0])), (q135, .inr (0, [.ref q151, .int 0])), (q106, .inr (6, [.ref q105, .ref q152, .ref q153, .int (-1), .int 0])), (q152, .inr (7, [.ref q154, .ref q155, .ref q156, .ref q157, .ref q158, .ref q159])), (q154, .inr (1, [.ref q160, .int 0])), (q155, .inr (1, [.ref q161, .int 0])), (q156, .inr (1, [.ref q162, .int 0])), (q157, .inr (1, [.ref q163, .int 0])), (q158, .inr (1, [.ref q164, .int 0])), (q159, .inr (1, [.ref q165, .int 0])), (q153, .inr (1, [.ref q166, .int 0])), (q109, .inr (8, [.ref q105, .ref q169, .int 0, .int 0, .int 0, .int (-1)])), (q175, .inr (11, [.int 0, .ref q176, .int 0, .ref q177, .ref q178, .ref q179, .ref q180, .int 0, .int 0, .int (-1), .long 0, .long 0, .int 0, .int 0, .ref q181, .ref q182, .ref q183, .ref q184, .ref q185, .ref q186, .ref q187, .ref q188, .ref q189, .ref q190, .ref q191, .ref q192, .ref q193, .ref q194, .null, .int 0, .int 0, .int 0, .int 0, .ref q195, .int 0, .int 0, .int 0, .int 0, .ref q196, .ref q197, .ref q198, .ref q199, .ref q200, .int 0, .int 0, .ref q201, .int 0, .int 0, .ref q202, .ref q203, .ref q204, .int 0, .ref q205, .int 0, .int 0, .int 0, .int 0, .int 0, .ref q206, .ref q207, .int 0, .ref q208])), (q194, .inl (cI, 4096, .inl (fun _ => 0))), (q209, .inl (cJ, 1, .inr (.inl (fun _ => 0))))]) [0, 1, 5, 6, 7, 8, 9, 10, 11, 12, 13, 14, 15, 16, 17, 18, 19, 20, 21, 22, 23, 24, 25, 26, 27, 28, 29, 30, 31, 33, 36, 39, 40] rfl
  have hD := hD.sub (ws' := [(q101, .inr (10, [.ref q102, .ref q103, .int 0, .int 0, .int (-1), .ref q104, .ref q105, .ref q106, .ref q107, .ref q108, .ref q109, .ref q110, .ref q111, .ref q112, .ref q113, .ref q114, .ref q115, .int (-1)])), (q102, .inr (0, [.ref q116, .int 0])), (q105, .inr (5, [.ref q118, .ref q119, .ref q120, .ref q121, .ref q122, .ref q123, .ref q124, .ref q125, .ref q126, .ref q127, .ref q128, .ref q129, .ref q130, .ref q131, .ref q132, .ref q133, .ref q134, .ref q135])), (q118, .inr (1, [.ref q136, .int 0])), (q119, .inr (1, [.ref q137, .int 0])), (q120, .inr (1, [.ref q138, .int 0])), (q121, .inr (1, [.ref q139, .int 0])), (q122, .inr (1, [.ref q140, .int 0])), (q123, .inr (1, [.ref q141, .int 0])), (q124, .inr (1, [.ref q142, .int 0])), (q125, .inl (cI, 64, .inl (fun _ => 0))), (q126, .inr (1, [.ref q143, .int 0])), (q127, .inr (1, [.ref q144, .int 0])), (q128, .inr (1, [.ref q145, .int 0])), (q129, .inr (1, [.ref q146, .int 0])), (q130, .inr (1, [.ref q147, .int 0])), (q132, .inr (1, [.ref q148, .int 0])), (q133, .inr (1, [.ref q149, .int 0])), (q134, .inr (1, [.ref q150, .int 0])), (q135, .inr (0, [.ref q151, .int 0])), (q106, .inr (6, [.ref q105, .ref q152, .ref q153, .int (-1), .int 0])), (q152, .inr (7, [.ref q154, .ref q155, .ref q156, .ref q157, .ref q158, .ref q159])), (q154, .inr (1, [.ref q160, .int 0])), (q155, .inr (1, [.ref q161, .int 0])), (q156, .inr (1, [.ref q162, .int 0])), (q157, .inr (1, [.ref q163, .int 0])), (q158, .inr (1, [.ref q164, .int 0])), (q159, .inr (1, [.ref q165, .int 0])), (q153, .inr (1, [.ref q166, .int 0])), (q109, .inr (8, [.ref q105, .ref q169, .int 0, .int 0, .int 0, .int (-1)])), (q175, .inr (11, [.int 0, .ref q176, .int 0, .ref q177, .ref q178, .ref q179, .ref q180, .int 0, .int 0, .int (-1), .long 0, .long 0, .int 0, .int 0, .ref q181, .ref q182, .ref q183, .ref q184, .ref q185, .ref q186, .ref q187, .ref q188, .ref q189, .ref q190, .ref q191, .ref q192, .ref q193, .ref q194, .null, .int 0, .int 0, .int 0, .int 0, .ref q195, .int 0, .int 0, .int 0, .int 0, .ref q196, .ref q197, .ref q198, .ref q199, .ref q200, .int 0, .int 0, .ref q201, .int 0, .int 0, .ref q202, .ref q203, .ref q204, .int 0, .ref q205, .int 0, .int 0, .int 0, .int 0, .int 0, .ref q206, .ref q207, .int 0, .ref q208])), (q194, .inl (cI, 4096, .inl (fun _ => 0))), (q209, .inl (cJ, 1, .inr (.inl (fun _ => 0))))]) [0, 1, 5, 6, 7, 8, 9, 10, 11, 12, 13, 14, 15, 16, 17, 18, 19, 20, 21, 22, 23, 24, 25, 26, 27, 28, 29, 30, 31, 33, 36, 39, 40] (by decide) rfl
  refine lv_aload_n hx hb dL_law_225 rfl (lv_at hl 3 rfl) ?_
  refine lv_aload_n hx hb dL_law_226 rfl (lv_at hl 4 rfl) ?_
  refine lv_iload hx hb dL_law_227 (lv_at hl 0 rfl) ?_
  refine lv_iconst (v := 1) hx hb dL_law_229 (by decide) ?_
  refine lv_iadd hx hb dL_law_230 ?_
  refine lv_topi (fun z101 e9 => ?_)
  obtain rfl : z101 = (1 : Int32) := e9.trans (by decide)
  refine va_sld hx hb hX hbl hbA hS (nm_vin (by decide)) dL_law_231 ?_
  refine lv_topi (fun z102 e9 => ?_)
  have e8 : (0 : Int32) = z102 := ((e9.trans (congrArg xs (by decide))).trans hp1).symm
  subst e8
  refine lv_aload_n hx hb dL_law_232 rfl (lv_at hl 1 rfl) ?_
  refine nm_xcalli (Z := (Nat → Int64)) (wr := [(q175, .inr (11, [.int 0, .ref q176, .int 0, .ref q177, .ref q178, .ref q179, .ref q180, .int 0, .int 0, .int (-1), .long 0, .long 0, .int 0, .int 0, .ref q181, .ref q182, .ref q183, .ref q184, .ref q185, .ref q186, .ref q187, .ref q188, .ref q189, .ref q190, .ref q191, .ref q192, .ref q193, .ref q194, .null, .int 0, .int 0, .int 0, .int 0, .ref q195, .int 0, .int 0, .int 0, .int 0, .ref q196, .ref q197, .ref q198, .ref q199, .ref q200, .int 0, .int 0, .ref q201, .int 0, .int 0, .ref q202, .ref q203, .ref q204, .int 0, .ref q205, .int 0, .int 0, .int 0, .int 0, .int 0, .ref q206, .ref q207, .int 0, .ref q208])), (q194, .inl (cI, 4096, .inl (fun _ => 0)))]) (k := 196) (n := 153229) (vx_runSX (As := [.ref q101, .int 0, .ref q209]) (rest := []) ⟨hx, hb, hml, hown, hts⟩ (c_L_define_3 l hl0 D cI cB cJ cS H.size q101 q102 q105 q118 q119 q120 q121 q122 q123 q124 q126 q127 q128 q129 q130 q132 q133 q134 q135 q125 q109 q106 q152 q154 q155 q156 q157 q158 q159 q153 q209 (.ref q103) (.int 0) (.int 0) (.int (-1)) (.ref q104) (.ref q107) (.ref q108) (.ref q110) (.ref q111) (.ref q112) (.ref q113) (.ref q114) (.ref q115) (.int (-1)) (.ref q116) (.ref q131) (.ref q136) (.ref q137) (.ref q138) (.ref q139) (.ref q140) (.ref q141) (.ref q142) (.ref q143) (.ref q144) (.ref q145) (.ref q146) (.ref q147) (.ref q148) (.ref q149) (.ref q150) (.ref q151) (.int 0) (fun _ => 0) (.ref q105) (.ref q169) (.int 0) (.int 0) (.int 0) (.int (-1)) (.ref q105) (.int (-1)) (.int 0) (.ref q160) (.ref q161) (.ref q162) (.ref q163) (.ref q164) (.ref q165) (.ref q166) (fun _ => 0)) (vx_cwSW 3 hts (nm_gSW q_494 q_495 q_0 q_496) rfl rfl rfl (by decide +kernel) ⟨(Nat.le_of_ble_eq_true rfl), (Nat.le_of_ble_eq_true rfl)⟩) (nm_preXS (hP.sub [0, 1, 2, 3, 4, 5, 6, 7, 8, 9, 11, 12, 13, 14, 15, 16, 17, 18, 19, 10, 29, 20, 21, 22, 23, 24, 25, 26, 27, 28, 32] rfl) (hD.sub [0, 1, 2, 3, 4, 5, 6, 7, 8, 9, 11, 12, 13, 14, 15, 16, 17, 18, 19, 10, 29, 20, 21, 22, 23, 24, 25, 26, 27, 28, 32] (by decide) rfl) hM hTh hS (va_free hD hS hA [0, 1, 2, 3, 4, 5, 6, 7, 8, 9, 11, 12, 13, 14, 15, 16, 17, 18, 19, 10, 29, 20, 21, 22, 23, 24, 25, 26, 27, 28, 32] rfl)) rfl rfl hl.1 rfl (lv_room (Nat.le_of_ble_eq_true rfl)) dL_law_233 ⟨(Nat.le_of_ble_eq_true rfl), (Nat.le_of_ble_eq_true rfl)⟩) hP hD hS hA [0, 1, 2, 3, 4, 5, 6, 7, 8, 9, 11, 12, 13, 14, 15, 16, 17, 18, 19, 10, 29, 20, 21, 22, 23, 24, 25, 26, 27, 28, 32] [30, 31] rfl rfl (by decide) (by decide) (Nat.le_of_ble_eq_true rfl) (Nat.le_of_ble_eq_true rfl) (fun r9 u H locs hw hP hD hS => ?_)
  obtain ⟨f103, rfl⟩ : ∃ z, z = u := ⟨_, rfl⟩
  obtain ⟨rfl, h104⟩ := hw
  have hP : va_P D nm_cl [(q175, .inr (11, [.int 0, .ref q176, .int 0, .ref q177, .ref q178, .ref q179, .ref q180, .int 0, .int 0, .int (-1), .long 0, .long 0, .int 0, .int 0, .ref q181, .ref q182, .ref q183, .ref q184, .ref q185, .ref q186, .ref q187, .ref q188, .ref q189, .ref q190, .ref q191, .ref q192, .ref q193, .ref q194, .null, .int 0, .int 0, .int 0, .int 0, .ref q195, .int 0, .int 0, .int 0, .int 0, .ref q196, .ref q197, .ref q198, .ref q199, .ref q200, .int 0, .int 0, .ref q201, .int 0, .int 0, .ref q202, .ref q203, .ref q204, .int 0, .ref q205, .int 0, .int 0, .int 0, .int 0, .int 0, .ref q206, .ref q207, .int 0, .ref q208])), (q194, .inl (cI, 4096, .inl (fun _ => 0))), (q209, .inl (cJ, 1, .inr (.inl f103)))] H := hP
  have hD : va_D A [(q175, .inr (11, [.int 0, .ref q176, .int 0, .ref q177, .ref q178, .ref q179, .ref q180, .int 0, .int 0, .int (-1), .long 0, .long 0, .int 0, .int 0, .ref q181, .ref q182, .ref q183, .ref q184, .ref q185, .ref q186, .ref q187, .ref q188, .ref q189, .ref q190, .ref q191, .ref q192, .ref q193, .ref q194, .null, .int 0, .int 0, .int 0, .int 0, .ref q195, .int 0, .int 0, .int 0, .int 0, .ref q196, .ref q197, .ref q198, .ref q199, .ref q200, .int 0, .int 0, .ref q201, .int 0, .int 0, .ref q202, .ref q203, .ref q204, .int 0, .ref q205, .int 0, .int 0, .int 0, .int 0, .int 0, .ref q206, .ref q207, .int 0, .ref q208])), (q194, .inl (cI, 4096, .inl (fun _ => 0))), (q209, .inl (cJ, 1, .inr (.inl f103)))] := hD
  refine lv_istore (lv' := [(5, .int 0), (4, .int 0), (3, .ref q209), (2, .ref q175), (1, .ref q101), (0, .ref b)]) hx hb dL_law_236 hl (by decide) rfl (fun ls hl => ?_)
  refine lv_aload_n hx hb dL_law_238 rfl (lv_at hl 3 rfl) ?_
  refine lv_aload_n hx hb dL_law_239 rfl (lv_at hl 5 rfl) ?_
  refine lv_iload hx hb dL_law_240 (lv_at hl 1 rfl) ?_
  refine lv_iconst (v := 1) hx hb dL_law_242 (by decide) ?_
  refine lv_iadd hx hb dL_law_243 ?_
  refine lv_topi (fun z105 e9 => ?_)
  obtain rfl : z105 = (1 : Int32) := e9.trans (by decide)
  refine va_sld hx hb hX hbl hbA hS (nm_vin (by decide)) dL_law_244 ?_
  refine lv_topi (fun z106 e9 => ?_)
  have e8 : (0 : Int32) = z106 := ((e9.trans (congrArg xs (by decide))).trans hp1).symm
  subst e8
  refine nm_calli (Z := Unit) (wr := [(q209, .inl (cJ, 1, .inr (.inl f103)))]) (k := 196) (n := 153229) (va_runV (As := [.int 0]) (rest := []) ⟨hx, hb, hml, hown, hts⟩ (c_X12_define_3 l D cI cB cJ cS H.size q175 q194 (.int 0) (.ref q176) q177 (.ref q178) (.ref q179) (.ref q180) (.int 0) (.int 0) (.int (-1)) (.long 0) (.long 0) (.int 0) (.int 0) (.ref q181) (.ref q182) (.ref q183) (.ref q184) (.ref q185) (.ref q186) (.ref q187) (.ref q188) (.ref q189) (.ref q190) (.ref q191) (.ref q192) (.ref q193) (.null) (.int 0) (.int 0) (.int 0) (.int 0) (.ref q195) (.int 0) (.int 0) (.int 0) (.int 0) (.ref q196) (.ref q197) (.ref q198) (.ref q199) (.ref q200) (.int 0) (.int 0) (.ref q201) (.int 0) (.int 0) (.ref q202) (.ref q203) (.ref q204) (.int 0) (.ref q205) (.int 0) (.int 0) (.int 0) (.int 0) (.int 0) (.ref q206) (.ref q207) (.int 0) (.ref q208) (fun _ => 0)) (cwV 1 hts (nm_gV q_1695 q_1696 q_1697 q_13 q_1698) rfl rfl rfl (by decide +kernel) ⟨(Nat.le_of_ble_eq_true rfl), (Nat.le_of_ble_eq_true rfl)⟩) (nm_preV (q := (RX12, TX12, 62)) (hP.sub [0, 1] rfl) (hD.sub [0, 1] (by decide) rfl) hM 0 rfl rfl) rfl rfl hl.1 rfl (lv_room (Nat.le_of_ble_eq_true rfl)) dL_law_245 ⟨(Nat.le_of_ble_eq_true rfl), (Nat.le_of_ble_eq_true rfl)⟩) hP hD hS hA [0, 1] [2] rfl rfl (by decide) (by decide) (Nat.le_of_ble_eq_true rfl) (Nat.le_of_ble_eq_true rfl) (fun r9 u H locs hw hP hD hS => ?_)
  obtain rfl : r9 = ((-9) : Int32) := hw
  have hP : va_P D nm_cl [(q209, .inl (cJ, 1, .inr (.inl f103))), (q175, .inr (11, [.int 0, .ref q176, .int 0, .ref q177, .ref q178, .ref q179, .ref q180, .int 0, .int 0, .int 0, .long 0, .long 0, .int 0, .int 0, .ref q181, .ref q182, .ref q183, .ref q184, .ref q185, .ref q186, .ref q187, .ref q188, .ref q189, .ref q190, .ref q191, .ref q192, .ref q193, .ref q194, .ref q177, .int 0, .int 0, .int 1, .int 0, .ref q195, .int 0, .int 0, .int 0, .int 0, .ref q196, .ref q197, .ref q198, .ref q199, .ref q200, .int 0, .int 0, .ref q201, .int 0, .int 0, .ref q202, .ref q203, .ref q204, .int 0, .ref q205, .int 0, .int 0, .int 0, .int 0, .int 0, .ref q206, .ref q207, .int 0, .ref q208]))] H := hP
  have hD : va_D A [(q209, .inl (cJ, 1, .inr (.inl f103))), (q175, .inr (11, [.int 0, .ref q176, .int 0, .ref q177, .ref q178, .ref q179, .ref q180, .int 0, .int 0, .int 0, .long 0, .long 0, .int 0, .int 0, .ref q181, .ref q182, .ref q183, .ref q184, .ref q185, .ref q186, .ref q187, .ref q188, .ref q189, .ref q190, .ref q191, .ref q192, .ref q193, .ref q194, .ref q177, .int 0, .int 0, .int 1, .int 0, .ref q195, .int 0, .int 0, .int 0, .int 0, .ref q196, .ref q197, .ref q198, .ref q199, .ref q200, .int 0, .int 0, .ref q201, .int 0, .int 0, .ref q202, .ref q203, .ref q204, .int 0, .ref q205, .int 0, .int 0, .int 0, .int 0, .int 0, .ref q206, .ref q207, .int 0, .ref q208]))] := hD
  refine lv_istore (lv' := [(6, .int (-9)), (5, .int 0), (4, .int 0), (3, .ref q209), (2, .ref q175), (1, .ref q101), (0, .ref b)]) hx hb dL_law_248 hl (by decide) rfl (fun ls hl => ?_)
  refine lv_aload_n hx hb dL_law_250 rfl (lv_at hl 4 rfl) ?_
  refine nm_calli (Z := Unit) (wr := [(q209, .inl (cJ, 1, .inr (.inl f103)))]) (k := 196) (n := 153229) (va_runV (As := []) (rest := []) ⟨hx, hb, hml, hown, hts⟩ (c_X12_thrown_1 l D cI cB cJ cS H.size q175 (.ref q176) (.int 0) (.ref q177) (.ref q178) (.ref q179) (.ref q180) (.int 0) (.int 0) (.int 0) (.long 0) (.long 0) (.int 0) (.int 0) (.ref q181) (.ref q182) (.ref q183) (.ref q184) (.ref q185) (.ref q186) (.ref q187) (.ref q188) (.ref q189) (.ref q190) (.ref q191) (.ref q192) (.ref q193) (.ref q194) (.ref q177) (.int 0) (.int 0) (.int 1) (.int 0) (.ref q195) (.int 0) (.int 0) (.int 0) (.int 0) (.ref q196) (.ref q197) (.ref q198) (.ref q199) (.ref q200) (.int 0) (.int 0) (.ref q201) (.int 0) (.int 0) (.ref q202) (.ref q203) (.ref q204) (.int 0) (.ref q205) (.int 0) (.int 0) (.int 0) (.int 0) (.int 0) (.ref q206) (.ref q207) (.int 0) (.ref q208)) (cwV 0 hts (nm_gV q_1683 q_1684 q_1685 q_13 q_1686) rfl rfl rfl (by decide +kernel) ⟨(Nat.le_of_ble_eq_true rfl), (Nat.le_of_ble_eq_true rfl)⟩) (nm_preV (q := (RX12, TX12, 62)) (hP.sub [1] rfl) (hD.sub [1] (by decide) rfl) hM 0 rfl rfl) rfl rfl hl.1 rfl (lv_room (Nat.le_of_ble_eq_true rfl)) dL_law_251 ⟨(Nat.le_of_ble_eq_true rfl), (Nat.le_of_ble_eq_true rfl)⟩) hP hD hS hA [1] [0] rfl rfl (by decide) (by decide) (Nat.le_of_ble_eq_true rfl) (Nat.le_of_ble_eq_true rfl) (fun r9 u H locs hw hP hD hS => ?_)
  obtain rfl : r9 = (0 : Int32) := hw
  have hP : va_P D nm_cl [(q209, .inl (cJ, 1, .inr (.inl f103))), (q175, .inr (11, [.int 0, .ref q176, .int 0, .ref q177, .ref q178, .ref q179, .ref q180, .int 0, .int 0, .int 0, .long 0, .long 0, .int 0, .int 0, .ref q181, .ref q182, .ref q183, .ref q184, .ref q185, .ref q186, .ref q187, .ref q188, .ref q189, .ref q190, .ref q191, .ref q192, .ref q193, .ref q194, .ref q177, .int 0, .int 0, .int 1, .int 0, .ref q195, .int 0, .int 0, .int 0, .int 0, .ref q196, .ref q197, .ref q198, .ref q199, .ref q200, .int 0, .int 0, .ref q201, .int 0, .int 0, .ref q202, .ref q203, .ref q204, .int 0, .ref q205, .int 0, .int 0, .int 0, .int 0, .int 0, .ref q206, .ref q207, .int 0, .ref q208]))] H := hP
  have hD : va_D A [(q209, .inl (cJ, 1, .inr (.inl f103))), (q175, .inr (11, [.int 0, .ref q176, .int 0, .ref q177, .ref q178, .ref q179, .ref q180, .int 0, .int 0, .int 0, .long 0, .long 0, .int 0, .int 0, .ref q181, .ref q182, .ref q183, .ref q184, .ref q185, .ref q186, .ref q187, .ref q188, .ref q189, .ref q190, .ref q191, .ref q192, .ref q193, .ref q194, .ref q177, .int 0, .int 0, .int 1, .int 0, .ref q195, .int 0, .int 0, .int 0, .int 0, .ref q196, .ref q197, .ref q198, .ref q199, .ref q200, .int 0, .int 0, .ref q201, .int 0, .int 0, .ref q202, .ref q203, .ref q204, .int 0, .ref q205, .int 0, .int 0, .int 0, .int 0, .int 0, .ref q206, .ref q207, .int 0, .ref q208]))] := hD
  refine lv_iload hx hb dL_law_254 (lv_at hl 1 rfl) ?_
  refine lv_icmp_eq (tgt := 261) hx hb dL_law_256 (by decide) (fun _ => ?_) (fun c9 => absurd (by decide) c9)
  refine lv_iload hx hb dL_law_261 (lv_at hl 1 rfl) ?_
  refine lv_if_ne (tgt := 278) hx hb dL_law_263 (by decide) (fun c9 => absurd (by decide) c9) (fun _ => ?_)
  refine lv_aload_n hx hb dL_law_266 rfl (lv_at hl 3 rfl) ?_
  refine lv_iconst (v := 0) hx hb dL_law_267 (by decide) ?_
  refine va_lald hx hb hM.1 hP 0 2 rfl rfl (nm_vin (by decide)) dL_law_268 ?_
  refine lv_topl (fun z107 e9 => ?_)
  obtain rfl : z107 = ((-9) : Int64) := e9.trans h104
  refine lv_iload hx hb dL_law_269 (lv_at hl 0 rfl) ?_
  refine lv_i2l (v := -9) hx hb dL_law_271 (by decide) ?_
  refine W.lcmp hx hb dL_law_272 ?_
  refine lv_topi (fun z108 e9 => ?_)
  obtain rfl : z108 = (0 : Int32) := e9.trans (by decide)
  refine lv_if_eq (tgt := 278) hx hb dL_law_273 (by decide) (fun _ => ?_) (fun c9 => absurd (by decide) c9)
  refine lv_goto (tgt := 1486) hx hb dL_law_278 (by decide) ?_
  refine lv_iinc (v := 6) (lv' := [(4, .int 6), (6, .int (-9)), (5, .int 0), (3, .ref q209), (2, .ref q175), (1, .ref q101), (0, .ref b)]) hx hb dL_law_1486 hl (k := 2) rfl (by decide) (by decide) rfl (fun ls hl => ?_)
  refine lv_goto (tgt := 23) hx hb dL_law_1489 (by decide) ?_
  refine lv_iload hx hb dL_law_23 (lv_at hl 0 rfl) ?_
  refine lv_aload_n hx hb dL_law_25 rfl (lv_at hl 6 rfl) ?_
  refine va_slen hx hb hX hbl hbA hS dL_law_26 ?_
  refine lv_topi (fun z109 e9 => ?_)
  have e8 : (6 : Int32) = z109 := (e9.trans (by decide)).symm
  subst e8
  refine lv_bipush (v := 6) hx hb dL_law_27 (by decide) ?_
  refine lv_isub hx hb dL_law_29 ?_
  refine lv_topi (fun z110 e9 => ?_)
  obtain rfl : z110 = (0 : Int32) := e9.trans (by decide)
  refine lv_icmp_gt (tgt := 1492) hx hb dL_law_30 (by decide) (fun _ => ?_) (fun c9 => absurd (by decide) c9)
  refine lv_iconst (v := 1) hx hb dL_law_1492 (by decide) ?_
  refine va_forget (fun q hq => by have h9 := hS.2.2 q hq; rw [hAd] at h9; exact h9) ?_
  refine W.widen (k := 600002) (n := 7302232) (Nat.le_of_ble_eq_true rfl) (Nat.le_of_ble_eq_true rfl) ?_
  exact lw_ret hx hb hr hlocks dL_law_1493
