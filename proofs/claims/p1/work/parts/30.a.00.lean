theorem q_507 : Cond.classLink RX11 277 "java/lang/IllegalArgumentException" ∈ nm_big := nm_in (List.mem_append_right _ (List.mem_of_getElem? (i := 507) (by decide +kernel))) (by decide +kernel)
theorem q_20 : Cond.initialized "java/lang/IllegalArgumentException" ∈ nm_big := nm_in (List.mem_append_right _ (List.mem_of_getElem? (i := 20) (by decide +kernel))) (by decide +kernel)
theorem q_506 : Cond.code yX11_needArgument cX11_needArgument 2 none ∈ nm_big := nm_in (List.mem_append_right _ (List.mem_of_getElem? (i := 506) (by decide +kernel))) (by decide +kernel)
theorem q_503 : Cond.methodLink RX11 110 yX11_needArgument ∈ nm_big := nm_in (List.mem_append_right _ (List.mem_of_getElem? (i := 503) (by decide +kernel))) (by decide +kernel)
theorem q_505 : Cond.instanceMethod yX11_needArgument ∈ nm_big := nm_in (List.mem_append_right _ (List.mem_of_getElem? (i := 505) (by decide +kernel))) (by decide +kernel)
theorem qs_1 : Cond.selects RX11 yX11_needArgument yX11_needArgument ∈ nm_big := nm_in (List.mem_append_left _ (List.mem_of_getElem? (i := 1) (by decide +kernel))) (by decide +kernel)
theorem q_1 : Cond.initialized RX11 ∈ nm_big := nm_in (List.mem_append_right _ (List.mem_of_getElem? (i := 1) (by decide +kernel))) (by decide +kernel)
theorem q_1296 : Cond.code yX11_told cX11_told 2 (some .int) ∈ nm_big := nm_in (List.mem_append_right _ (List.mem_of_getElem? (i := 1296) (by decide +kernel))) (by decide +kernel)
theorem q_1293 : Cond.methodLink RL 28 yX11_told ∈ nm_big := nm_in (List.mem_append_right _ (List.mem_of_getElem? (i := 1293) (by decide +kernel))) (by decide +kernel)
theorem q_1294 : Cond.instanceMethod yX11_told ∈ nm_big := nm_in (List.mem_append_right _ (List.mem_of_getElem? (i := 1294) (by decide +kernel))) (by decide +kernel)
theorem q_1295 : Cond.selects RX11 yX11_told yX11_told ∈ nm_big := nm_in (List.mem_append_right _ (List.mem_of_getElem? (i := 1295) (by decide +kernel))) (by decide +kernel)
theorem q_497 : Cond.classLink RL 13 "java/lang/IllegalArgumentException" ∈ nm_big := nm_in (List.mem_append_right _ (List.mem_of_getElem? (i := 497) (by decide +kernel))) (by decide +kernel)
theorem q_1495 : Cond.fieldLink RX12 119 "NameManglerModel" "thrown" "I" ∈ nm_big := nm_in (List.mem_append_right _ (List.mem_of_getElem? (i := 1495) (by decide +kernel))) (by decide +kernel)
theorem q_1705 : Cond.code yX12_in cX12_in 3 (some .boolean) ∈ nm_big := nm_in (List.mem_append_right _ (List.mem_of_getElem? (i := 1705) (by decide +kernel))) (by decide +kernel)
theorem q_1703 : Cond.methodLink RX12 452 yX12_in ∈ nm_big := nm_in (List.mem_append_right _ (List.mem_of_getElem? (i := 1703) (by decide +kernel))) (by decide +kernel)
theorem q_1704 : Cond.static yX12_in ∈ nm_big := nm_in (List.mem_append_right _ (List.mem_of_getElem? (i := 1704) (by decide +kernel))) (by decide +kernel)
theorem q_13 : Cond.initialized RX12 ∈ nm_big := nm_in (List.mem_append_right _ (List.mem_of_getElem? (i := 13) (by decide +kernel))) (by decide +kernel)
theorem q_1709 : Cond.code yX12_bad cX12_bad 4 (some .boolean) ∈ nm_big := nm_in (List.mem_append_right _ (List.mem_of_getElem? (i := 1709) (by decide +kernel))) (by decide +kernel)
theorem q_1706 : Cond.methodLink RX12 482 yX12_bad ∈ nm_big := nm_in (List.mem_append_right _ (List.mem_of_getElem? (i := 1706) (by decide +kernel))) (by decide +kernel)
theorem q_1708 : Cond.instanceMethod yX12_bad ∈ nm_big := nm_in (List.mem_append_right _ (List.mem_of_getElem? (i := 1708) (by decide +kernel))) (by decide +kernel)
theorem qs_60 : Cond.selects RX12 yX12_bad yX12_bad ∈ nm_big := nm_in (List.mem_append_left _ (List.mem_of_getElem? (i := 60) (by decide +kernel))) (by decide +kernel)
theorem q_373 : Cond.fieldLink RX11 141 "NameMangler$State" "count" "I" ∈ nm_big := nm_in (List.mem_append_right _ (List.mem_of_getElem? (i := 373) (by decide +kernel))) (by decide +kernel)
theorem q_479 : Cond.code yX11_now cX11_now 1 (some (.object "NameMangler$State")) ∈ nm_big := nm_in (List.mem_append_right _ (List.mem_of_getElem? (i := 479) rfl)) (by decide +kernel)
theorem q_476 : Cond.methodLink RX11 162 yX11_now ∈ nm_big := nm_in (List.mem_append_right _ (List.mem_of_getElem? (i := 476) (by decide +kernel))) (by decide +kernel)
theorem q_478 : Cond.instanceMethod yX11_now ∈ nm_big := nm_in (List.mem_append_right _ (List.mem_of_getElem? (i := 478) (by decide +kernel))) (by decide +kernel)
theorem qs_0 : Cond.selects RX11 yX11_now yX11_now ∈ nm_big := nm_in (List.mem_append_left _ (List.mem_of_getElem? (i := 0) (by decide +kernel))) (by decide +kernel)
theorem q_1502 : Cond.fieldLink RX12 445 "NameManglerModel" "symbols" "I" ∈ nm_big := nm_in (List.mem_append_right _ (List.mem_of_getElem? (i := 1502) (by decide +kernel))) (by decide +kernel)
theorem q_44 : Cond.fieldLink RX11 103 "NameMangler$Bytes" "size" "I" ∈ nm_big := nm_in (List.mem_append_right _ (List.mem_of_getElem? (i := 44) (by decide +kernel))) (by decide +kernel)
theorem q_1497 : Cond.fieldLink RX12 125 "NameManglerModel" "tape" "I" ∈ nm_big := nm_in (List.mem_append_right _ (List.mem_of_getElem? (i := 1497) (by decide +kernel))) (by decide +kernel)
theorem q_1503 : Cond.fieldLink RX12 472 "NameManglerModel" "backs" "I" ∈ nm_big := nm_in (List.mem_append_right _ (List.mem_of_getElem? (i := 1503) (by decide +kernel))) (by decide +kernel)
theorem q_1231 : Cond.classLink RX11 270 "java/util/NoSuchElementException" ∈ nm_big := nm_in (List.mem_append_right _ (List.mem_of_getElem? (i := 1231) (by decide +kernel))) (by decide +kernel)
theorem q_27 : Cond.initialized "java/util/NoSuchElementException" ∈ nm_big := nm_in (List.mem_append_right _ (List.mem_of_getElem? (i := 27) (by decide +kernel))) (by decide +kernel)
theorem q_1230 : Cond.code yX11_needElement cX11_needElement 2 none ∈ nm_big := nm_in (List.mem_append_right _ (List.mem_of_getElem? (i := 1230) (by decide +kernel))) (by decide +kernel)
theorem q_1227 : Cond.methodLink RX11 210 yX11_needElement ∈ nm_big := nm_in (List.mem_append_right _ (List.mem_of_getElem? (i := 1227) (by decide +kernel))) (by decide +kernel)
theorem q_1229 : Cond.instanceMethod yX11_needElement ∈ nm_big := nm_in (List.mem_append_right _ (List.mem_of_getElem? (i := 1229) (by decide +kernel))) (by decide +kernel)
theorem qs_49 : Cond.selects RX11 yX11_needElement yX11_needElement ∈ nm_big := nm_in (List.mem_append_left _ (List.mem_of_getElem? (i := 49) (by decide +kernel))) (by decide +kernel)
theorem q_1226 : Cond.code yX11_needSymbol cX11_needSymbol 2 none ∈ nm_big := nm_in (List.mem_append_right _ (List.mem_of_getElem? (i := 1226) (by decide +kernel))) (by decide +kernel)
theorem q_1223 : Cond.methodLink RX11 128 yX11_needSymbol ∈ nm_big := nm_in (List.mem_append_right _ (List.mem_of_getElem? (i := 1223) (by decide +kernel))) (by decide +kernel)
theorem q_1225 : Cond.instanceMethod yX11_needSymbol ∈ nm_big := nm_in (List.mem_append_right _ (List.mem_of_getElem? (i := 1225) (by decide +kernel))) (by decide +kernel)
theorem qs_48 : Cond.selects RX11 yX11_needSymbol yX11_needSymbol ∈ nm_big := nm_in (List.mem_append_left _ (List.mem_of_getElem? (i := 48) (by decide +kernel))) (by decide +kernel)
theorem q_1222 : Cond.code yX11_forget cX11_forget 3 (some .int) ∈ nm_big := nm_in (List.mem_append_right _ (List.mem_of_getElem? (i := 1222) (by decide +kernel))) (by decide +kernel)
theorem q_1219 : Cond.methodLink RL 20 yX11_forget ∈ nm_big := nm_in (List.mem_append_right _ (List.mem_of_getElem? (i := 1219) (by decide +kernel))) (by decide +kernel)
theorem q_1220 : Cond.instanceMethod yX11_forget ∈ nm_big := nm_in (List.mem_append_right _ (List.mem_of_getElem? (i := 1220) (by decide +kernel))) (by decide +kernel)
theorem q_1221 : Cond.selects RX11 yX11_forget yX11_forget ∈ nm_big := nm_in (List.mem_append_right _ (List.mem_of_getElem? (i := 1221) (by decide +kernel))) (by decide +kernel)
theorem q_1218 : Cond.classLink RL 23 "java/util/NoSuchElementException" ∈ nm_big := nm_in (List.mem_append_right _ (List.mem_of_getElem? (i := 1218) (by decide +kernel))) (by decide +kernel)
theorem q_2041 : Cond.code yX12_isSymbol cX12_isSymbol 2 (some .boolean) ∈ nm_big := nm_in (List.mem_append_right _ (List.mem_of_getElem? (i := 2041) (by decide +kernel))) (by decide +kernel)
theorem q_2038 : Cond.methodLink RX12 506 yX12_isSymbol ∈ nm_big := nm_in (List.mem_append_right _ (List.mem_of_getElem? (i := 2038) (by decide +kernel))) (by decide +kernel)
theorem q_2040 : Cond.instanceMethod yX12_isSymbol ∈ nm_big := nm_in (List.mem_append_right _ (List.mem_of_getElem? (i := 2040) (by decide +kernel))) (by decide +kernel)
theorem qs_122 : Cond.selects RX12 yX12_isSymbol yX12_isSymbol ∈ nm_big := nm_in (List.mem_append_left _ (List.mem_of_getElem? (i := 122) (by decide +kernel))) (by decide +kernel)
theorem dL_told_0 : decode cL_told 0 = .ok (.aload_n 2, 1) := by decide +kernel
theorem dL_told_1 : decode cL_told 1 = .ok (.iconst 0, 1) := by decide +kernel
theorem dL_told_2 : decode cL_told 2 = .ok (.aload_n 0, 1) := by decide +kernel
theorem dL_told_3 : decode cL_told 3 = .ok (.iload_n 1, 1) := by decide +kernel
theorem dX11_told_0 : decode cX11_told 0 = .ok (.aload_n 0, 1) := by decide +kernel
theorem dX11_told_1 : decode cX11_told 1 = .ok (.iload_n 1, 1) := by decide +kernel
theorem dX11_told_2 : decode cX11_told 2 = .ok (.ifCond .lt 12, 3) := by decide +kernel
theorem dX11_told_14 : decode cX11_told 14 = .ok (.iconst 0, 1) := by decide +kernel
theorem dX11_needArgument_0 : decode cX11_needArgument 0 = .ok (.iload_n 1, 1) := by decide +kernel
theorem dX11_needArgument_1 : decode cX11_needArgument 1 = .ok (.ifCond .ne 24, 3) := by decide +kernel
theorem dX11_needArgument_4 : decode cX11_needArgument 4 = .ok (.aload_n 0, 1) := by decide +kernel
theorem dX11_needArgument_5 : decode cX11_needArgument 5 = .ok (.getfield 32, 3) := by decide +kernel
theorem dX11_needArgument_8 : decode cX11_needArgument 8 = .ok (.iconst 1, 1) := by decide +kernel
theorem dX11_needArgument_9 : decode cX11_needArgument 9 = .ok (.dup2, 1) := by decide +kernel
theorem dX11_needArgument_10 : decode cX11_needArgument 10 = .ok (.iaload, 1) := by decide +kernel
theorem dX11_needArgument_11 : decode cX11_needArgument 11 = .ok (.iconst 1, 1) := by decide +kernel
theorem dX11_needArgument_12 : decode cX11_needArgument 12 = .ok (.iadd, 1) := by decide +kernel
theorem dX11_needArgument_13 : decode cX11_needArgument 13 = .ok (.iastore, 1) := by decide +kernel
theorem dL_told_12 : decode cL_told 12 = .ok (.astore_n 3, 1) := by decide +kernel
theorem dL_told_13 : decode cL_told 13 = .ok (.iconst 1, 1) := by decide +kernel
theorem dX11_needArgument_14 : decode cX11_needArgument 14 = .ok (.new 277, 3) := by decide +kernel
theorem dX11_needArgument_17 : decode cX11_needArgument 17 = .ok (.dup, 1) := by decide +kernel
theorem dX11_needArgument_18 : decode cX11_needArgument 18 = .ok (.ldc_w 279, 3) := by decide +kernel
theorem dX11_needArgument_21 : decode cX11_needArgument 21 = .ok (.invokespecial 281, 3) := by decide +kernel
theorem dX11_needArgument_24 : decode cX11_needArgument 24 = .ok (.athrow, 1) := by decide +kernel
theorem dX11_told_15 : decode cX11_told 15 = .ok (.invokevirtual 110, 3) := by decide +kernel
theorem dL_told_4 : decode cL_told 4 = .ok (.invokevirtual 28, 3) := by decide +kernel
theorem dL_told_14 : decode cL_told 14 = .ok (.ireturn, 1) := by decide +kernel
theorem dX12_told_0 : decode cX12_told 0 = .ok (.aload_n 0, 1) := by decide +kernel
theorem dX12_told_1 : decode cX12_told 1 = .ok (.iconst 0, 1) := by decide +kernel
theorem dX12_told_2 : decode cX12_told 2 = .ok (.putfield 119, 3) := by decide +kernel
theorem dX12_told_5 : decode cX12_told 5 = .ok (.aload_n 0, 1) := by decide +kernel
theorem dX12_told_6 : decode cX12_told 6 = .ok (.iload_n 1, 1) := by decide +kernel
theorem dX12_told_7 : decode cX12_told 7 = .ok (.iconst 0, 1) := by decide +kernel
theorem dX12_told_8 : decode cX12_told 8 = .ok (.iconst 2, 1) := by decide +kernel
theorem dX12_in_0 : decode cX12_in 0 = .ok (.iload_n 0, 1) := by decide +kernel
theorem dX12_in_1 : decode cX12_in 1 = .ok (.iload_n 1, 1) := by decide +kernel
theorem dX12_in_2 : decode cX12_in 2 = .ok (.if_icmp .lt 12, 3) := by decide +kernel
theorem dX12_in_14 : decode cX12_in 14 = .ok (.iconst 0, 1) := by decide +kernel
theorem dX12_told_12 : decode cX12_told 12 = .ok (.ifCond .ne 7, 3) := by decide +kernel
theorem dX12_told_15 : decode cX12_told 15 = .ok (.iconst 1, 1) := by decide +kernel
theorem dX12_told_16 : decode cX12_told 16 = .ok (.goto 4, 3) := by decide +kernel
theorem dX12_told_20 : decode cX12_told 20 = .ok (.iconst 1, 1) := by decide +kernel
theorem dX12_told_21 : decode cX12_told 21 = .ok (.iconst 1, 1) := by decide +kernel
theorem dX12_bad_0 : decode cX12_bad 0 = .ok (.iload_n 1, 1) := by decide +kernel
theorem dX12_bad_1 : decode cX12_bad 1 = .ok (.ifCond .eq 25, 3) := by decide +kernel
theorem dX12_bad_4 : decode cX12_bad 4 = .ok (.aload_n 0, 1) := by decide +kernel
theorem dX12_bad_5 : decode cX12_bad 5 = .ok (.getfield 119, 3) := by decide +kernel
theorem dX12_bad_8 : decode cX12_bad 8 = .ok (.ifCond .ne 18, 3) := by decide +kernel
theorem dX12_bad_11 : decode cX12_bad 11 = .ok (.aload_n 0, 1) := by decide +kernel
theorem dX12_bad_12 : decode cX12_bad 12 = .ok (.iload_n 2, 1) := by decide +kernel
theorem dX12_bad_13 : decode cX12_bad 13 = .ok (.putfield 119, 3) := by decide +kernel
theorem dX12_bad_16 : decode cX12_bad 16 = .ok (.aload_n 0, 1) := by decide +kernel
theorem dX12_bad_17 : decode cX12_bad 17 = .ok (.getfield 7, 3) := by decide +kernel
theorem dX12_bad_20 : decode cX12_bad 20 = .ok (.iload_n 3, 1) := by decide +kernel
theorem dX12_bad_21 : decode cX12_bad 21 = .ok (.dup2, 1) := by decide +kernel
theorem dX12_bad_22 : decode cX12_bad 22 = .ok (.iaload, 1) := by decide +kernel
theorem dX12_bad_23 : decode cX12_bad 23 = .ok (.iconst 1, 1) := by decide +kernel
theorem dX12_bad_24 : decode cX12_bad 24 = .ok (.iadd, 1) := by decide +kernel
theorem dX12_bad_25 : decode cX12_bad 25 = .ok (.iastore, 1) := by decide +kernel
theorem dX12_bad_26 : decode cX12_bad 26 = .ok (.aload_n 0, 1) := by decide +kernel
theorem dX12_bad_27 : decode cX12_bad 27 = .ok (.getfield 119, 3) := by decide +kernel
theorem dX12_bad_30 : decode cX12_bad 30 = .ok (.ifCond .eq 7, 3) := by decide +kernel
theorem dX12_bad_33 : decode cX12_bad 33 = .ok (.iconst 1, 1) := by decide +kernel
theorem dX12_bad_34 : decode cX12_bad 34 = .ok (.goto 4, 3) := by decide +kernel
theorem dX12_told_25 : decode cX12_told 25 = .ok (.ifCond .eq 5, 3) := by decide +kernel
theorem dX12_told_28 : decode cX12_told 28 = .ok (.iconst 0, 1) := by decide +kernel
theorem dX12_in_15 : decode cX12_in 15 = .ok (.ireturn, 1) := by decide +kernel
theorem dX12_told_9 : decode cX12_told 9 = .ok (.invokestatic 452, 3) := by decide +kernel
theorem dX12_bad_38 : decode cX12_bad 38 = .ok (.ireturn, 1) := by decide +kernel
theorem dX12_told_22 : decode cX12_told 22 = .ok (.invokevirtual 482, 3) := by decide +kernel
theorem dX12_told_29 : decode cX12_told 29 = .ok (.ireturn, 1) := by decide +kernel
theorem dX11_told_5 : decode cX11_told 5 = .ok (.iload_n 1, 1) := by decide +kernel
theorem dX11_told_6 : decode cX11_told 6 = .ok (.iconst 2, 1) := by decide +kernel
theorem dX11_told_7 : decode cX11_told 7 = .ok (.if_icmp .gt 7, 3) := by decide +kernel
theorem dX11_told_10 : decode cX11_told 10 = .ok (.iconst 1, 1) := by decide +kernel
theorem dX11_told_11 : decode cX11_told 11 = .ok (.goto 4, 3) := by decide +kernel
theorem dX11_told_18 : decode cX11_told 18 = .ok (.iload_n 1, 1) := by decide +kernel
theorem dX11_told_19 : decode cX11_told 19 = .ok (.ifCond .ne 11, 3) := by decide +kernel
theorem dX11_told_22 : decode cX11_told 22 = .ok (.aload_n 0, 1) := by decide +kernel
theorem dX11_now_0 : decode cX11_now 0 = .ok (.aload_n 0, 1) := by decide +kernel
theorem dX11_now_1 : decode cX11_now 1 = .ok (.getfield 18, 3) := by decide +kernel
theorem dX11_now_4 : decode cX11_now 4 = .ok (.aload_n 0, 1) := by decide +kernel
theorem dX11_now_5 : decode cX11_now 5 = .ok (.getfield 22, 3) := by decide +kernel
theorem dX11_now_8 : decode cX11_now 8 = .ok (.aaload, 1) := by decide +kernel
theorem dX11_told_26 : decode cX11_told 26 = .ok (.getfield 141, 3) := by decide +kernel
theorem dL_told_7 : decode cL_told 7 = .ok (.i2l, 1) := by decide +kernel
theorem dL_told_8 : decode cL_told 8 = .ok (.lastore, 1) := by decide +kernel
theorem dL_told_9 : decode cL_told 9 = .ok (.goto 6, 3) := by decide +kernel
theorem dL_told_15 : decode cL_told 15 = .ok (.iconst 0, 1) := by decide +kernel
theorem dX11_needArgument_25 : decode cX11_needArgument 25 = .ok (.return_, 1) := by decide +kernel
theorem dX11_now_9 : decode cX11_now 9 = .ok (.areturn, 1) := by decide +kernel
theorem dX11_told_23 : decode cX11_told 23 = .ok (.invokevirtual 162, 3) := by decide +kernel
theorem dX11_told_29 : decode cX11_told 29 = .ok (.ireturn, 1) := by decide +kernel
theorem dL_told_16 : decode cL_told 16 = .ok (.ireturn, 1) := by decide +kernel
theorem dX12_in_5 : decode cX12_in 5 = .ok (.iload_n 0, 1) := by decide +kernel
theorem dX12_in_6 : decode cX12_in 6 = .ok (.iload_n 2, 1) := by decide +kernel
theorem dX12_in_7 : decode cX12_in 7 = .ok (.if_icmp .gt 7, 3) := by decide +kernel
theorem dX12_in_10 : decode cX12_in 10 = .ok (.iconst 1, 1) := by decide +kernel
theorem dX12_in_11 : decode cX12_in 11 = .ok (.goto 4, 3) := by decide +kernel
theorem dX12_told_19 : decode cX12_told 19 = .ok (.iconst 0, 1) := by decide +kernel
theorem dX12_bad_37 : decode cX12_bad 37 = .ok (.iconst 0, 1) := by decide +kernel
theorem dX12_told_30 : decode cX12_told 30 = .ok (.iload_n 1, 1) := by decide +kernel
theorem dX12_told_31 : decode cX12_told 31 = .ok (.ifCond .ne 10, 3) := by decide +kernel
theorem dX12_told_34 : decode cX12_told 34 = .ok (.aload_n 0, 1) := by decide +kernel
theorem dX12_told_35 : decode cX12_told 35 = .ok (.getfield 445, 3) := by decide +kernel
theorem dX12_told_38 : decode cX12_told 38 = .ok (.goto 19, 3) := by decide +kernel
theorem dX12_told_57 : decode cX12_told 57 = .ok (.ireturn, 1) := by decide +kernel
theorem dX11_told_30 : decode cX11_told 30 = .ok (.iload_n 1, 1) := by decide +kernel
theorem dX11_told_31 : decode cX11_told 31 = .ok (.iconst 1, 1) := by decide +kernel
theorem dX11_told_32 : decode cX11_told 32 = .ok (.if_icmp .ne 13, 3) := by decide +kernel
theorem dX11_told_35 : decode cX11_told 35 = .ok (.aload_n 0, 1) := by decide +kernel
theorem dX11_told_36 : decode cX11_told 36 = .ok (.getfield 10, 3) := by decide +kernel
theorem dX11_told_39 : decode cX11_told 39 = .ok (.getfield 103, 3) := by decide +kernel
theorem dX11_told_42 : decode cX11_told 42 = .ok (.goto 7, 3) := by decide +kernel
theorem dX11_told_49 : decode cX11_told 49 = .ok (.ireturn, 1) := by decide +kernel
theorem dX12_told_41 : decode cX12_told 41 = .ok (.iload_n 1, 1) := by decide +kernel
theorem dX12_told_42 : decode cX12_told 42 = .ok (.iconst 1, 1) := by decide +kernel
theorem dX12_told_43 : decode cX12_told 43 = .ok (.if_icmp .ne 10, 3) := by decide +kernel
theorem dX12_told_46 : decode cX12_told 46 = .ok (.aload_n 0, 1) := by decide +kernel
theorem dX12_told_47 : decode cX12_told 47 = .ok (.getfield 125, 3) := by decide +kernel
theorem dX12_told_50 : decode cX12_told 50 = .ok (.goto 7, 3) := by decide +kernel
theorem dX11_told_45 : decode cX11_told 45 = .ok (.aload_n 0, 1) := by decide +kernel
theorem dX11_told_46 : decode cX11_told 46 = .ok (.getfield 26, 3) := by decide +kernel
theorem dX12_told_53 : decode cX12_told 53 = .ok (.aload_n 0, 1) := by decide +kernel
theorem dX12_told_54 : decode cX12_told 54 = .ok (.getfield 472, 3) := by decide +kernel
theorem dL_forget_0 : decode cL_forget 0 = .ok (.aload_n 2, 1) := by decide +kernel
theorem dL_forget_1 : decode cL_forget 1 = .ok (.iconst 0, 1) := by decide +kernel
theorem dL_forget_2 : decode cL_forget 2 = .ok (.aload_n 0, 1) := by decide +kernel
theorem dL_forget_3 : decode cL_forget 3 = .ok (.iload_n 1, 1) := by decide +kernel
theorem dX11_forget_0 : decode cX11_forget 0 = .ok (.aload_n 0, 1) := by decide +kernel
theorem dX11_forget_1 : decode cX11_forget 1 = .ok (.iload_n 1, 1) := by decide +kernel
theorem dX11_needSymbol_0 : decode cX11_needSymbol 0 = .ok (.aload_n 0, 1) := by decide +kernel
theorem dX11_needSymbol_1 : decode cX11_needSymbol 1 = .ok (.iload_n 1, 1) := by decide +kernel
theorem dX11_needSymbol_2 : decode cX11_needSymbol 2 = .ok (.ifCond .lt 18, 3) := by decide +kernel
theorem dX11_needSymbol_20 : decode cX11_needSymbol 20 = .ok (.iconst 0, 1) := by decide +kernel
theorem dX11_needElement_0 : decode cX11_needElement 0 = .ok (.iload_n 1, 1) := by decide +kernel
theorem dX11_needElement_1 : decode cX11_needElement 1 = .ok (.ifCond .ne 24, 3) := by decide +kernel
theorem dX11_needElement_4 : decode cX11_needElement 4 = .ok (.aload_n 0, 1) := by decide +kernel
theorem dX11_needElement_5 : decode cX11_needElement 5 = .ok (.getfield 32, 3) := by decide +kernel
theorem dX11_needElement_8 : decode cX11_needElement 8 = .ok (.iconst 0, 1) := by decide +kernel
theorem dX11_needElement_9 : decode cX11_needElement 9 = .ok (.dup2, 1) := by decide +kernel
theorem dX11_needElement_10 : decode cX11_needElement 10 = .ok (.iaload, 1) := by decide +kernel
theorem dX11_needElement_11 : decode cX11_needElement 11 = .ok (.iconst 1, 1) := by decide +kernel
theorem dX11_needElement_12 : decode cX11_needElement 12 = .ok (.iadd, 1) := by decide +kernel
theorem dX11_needElement_13 : decode cX11_needElement 13 = .ok (.iastore, 1) := by decide +kernel
theorem dL_forget_12 : decode cL_forget 12 = .ok (.astore_n 3, 1) := by decide +kernel
theorem dL_forget_13 : decode cL_forget 13 = .ok (.iconst 1, 1) := by decide +kernel
theorem dX11_needElement_14 : decode cX11_needElement 14 = .ok (.new 270, 3) := by decide +kernel
theorem dX11_needElement_17 : decode cX11_needElement 17 = .ok (.dup, 1) := by decide +kernel
theorem dX11_needElement_18 : decode cX11_needElement 18 = .ok (.ldc_w 272, 3) := by decide +kernel
theorem dX11_needElement_21 : decode cX11_needElement 21 = .ok (.invokespecial 274, 3) := by decide +kernel
theorem dX11_needElement_24 : decode cX11_needElement 24 = .ok (.athrow, 1) := by decide +kernel
theorem dX11_needSymbol_21 : decode cX11_needSymbol 21 = .ok (.invokevirtual 210, 3) := by decide +kernel
theorem dX11_forget_2 : decode cX11_forget 2 = .ok (.invokevirtual 128, 3) := by decide +kernel
theorem dL_forget_4 : decode cL_forget 4 = .ok (.invokevirtual 20, 3) := by decide +kernel
theorem dL_forget_14 : decode cL_forget 14 = .ok (.ireturn, 1) := by decide +kernel
theorem dX12_forget_0 : decode cX12_forget 0 = .ok (.aload_n 0, 1) := by decide +kernel
theorem dX12_forget_1 : decode cX12_forget 1 = .ok (.iconst 0, 1) := by decide +kernel
theorem dX12_forget_2 : decode cX12_forget 2 = .ok (.putfield 119, 3) := by decide +kernel
theorem dX12_forget_5 : decode cX12_forget 5 = .ok (.aload_n 0, 1) := by decide +kernel
theorem dX12_forget_6 : decode cX12_forget 6 = .ok (.aload_n 0, 1) := by decide +kernel
theorem dX12_forget_7 : decode cX12_forget 7 = .ok (.iload_n 1, 1) := by decide +kernel
theorem dX12_isSymbol_0 : decode cX12_isSymbol 0 = .ok (.iload_n 1, 1) := by decide +kernel
theorem dX12_isSymbol_1 : decode cX12_isSymbol 1 = .ok (.iconst 0, 1) := by decide +kernel
theorem dX12_isSymbol_2 : decode cX12_isSymbol 2 = .ok (.aload_n 0, 1) := by decide +kernel
theorem dX12_isSymbol_3 : decode cX12_isSymbol 3 = .ok (.getfield 445, 3) := by decide +kernel
theorem dX12_isSymbol_6 : decode cX12_isSymbol 6 = .ok (.iconst 1, 1) := by decide +kernel
theorem dX12_isSymbol_7 : decode cX12_isSymbol 7 = .ok (.isub, 1) := by decide +kernel
theorem dX12_forget_11 : decode cX12_forget 11 = .ok (.ifCond .ne 7, 3) := by decide +kernel
theorem dX12_forget_14 : decode cX12_forget 14 = .ok (.iconst 1, 1) := by decide +kernel
theorem dX12_forget_15 : decode cX12_forget 15 = .ok (.goto 4, 3) := by decide +kernel
theorem dX12_forget_19 : decode cX12_forget 19 = .ok (.iconst 1, 1) := by decide +kernel
theorem dX12_forget_20 : decode cX12_forget 20 = .ok (.iconst 0, 1) := by decide +kernel
theorem dX12_forget_24 : decode cX12_forget 24 = .ok (.ifCond .eq 5, 3) := by decide +kernel
theorem dX12_forget_27 : decode cX12_forget 27 = .ok (.iconst 0, 1) := by decide +kernel
theorem dX12_isSymbol_8 : decode cX12_isSymbol 8 = .ok (.invokestatic 452, 3) := by decide +kernel
theorem dX12_isSymbol_11 : decode cX12_isSymbol 11 = .ok (.ireturn, 1) := by decide +kernel
theorem dX12_forget_8 : decode cX12_forget 8 = .ok (.invokevirtual 506, 3) := by decide +kernel
theorem dX12_forget_21 : decode cX12_forget 21 = .ok (.invokevirtual 482, 3) := by decide +kernel
theorem dX12_forget_28 : decode cX12_forget 28 = .ok (.ireturn, 1) := by decide +kernel
theorem dX11_needSymbol_5 : decode cX11_needSymbol 5 = .ok (.iload_n 1, 1) := by decide +kernel
theorem dX11_needSymbol_6 : decode cX11_needSymbol 6 = .ok (.aload_n 0, 1) := by decide +kernel
theorem dX11_needSymbol_10 : decode cX11_needSymbol 10 = .ok (.getfield 141, 3) := by decide +kernel
theorem dX11_needSymbol_13 : decode cX11_needSymbol 13 = .ok (.if_icmp .ge 7, 3) := by decide +kernel
theorem dX11_needSymbol_7 : decode cX11_needSymbol 7 = .ok (.invokevirtual 162, 3) := by decide +kernel
theorem dX12_thrown_0 : decode cX12_thrown 0 = .ok (.aload_n 0, 1) := by decide +kernel
theorem dX12_thrown_1 : decode cX12_thrown 1 = .ok (.getfield 119, 3) := by decide +kernel
theorem dX12_thrown_4 : decode cX12_thrown 4 = .ok (.ireturn, 1) := by decide +kernel
set_option maxHeartbeats 4000000 in
set_option maxRecDepth 100000 in
theorem c_X11_needArgument_1 (l : Launch) (hl0 : l.stackTraces = false) (D : va_G) (cI cB cJ cS : ClassId) (sz : Nat) (a0 : Nat) (a1 : Nat) (v0 : Value) (v1 : Value) (v2 : Value) (v3 : Value) (v4 : Value) (v5 : Value) (v6 : Value) (v7 : Value) (v8 : Value) (v9 : Value) (v10 : Value) (v11 : Value) (v12 : Value) (v13 : Value) (v14 : Value) (v15 : Value) (v16 : Value)  : vx_Met l yX11_needArgument (.code yX11_needArgument cX11_needArgument 2 none :: nm_big) ({ frames := 6, cells := 1, slots := 6, locals := 82 }) (nm_PX D cI cB cJ cS [.ref a0, .int 0] sz [(a0, .inr (10, [v0, v1, v2, v3, v4, .ref a1, v5, v6, v7, v8, v9, v10, v11, v12, v13, v14, v15, v16])), (a1, .inl (cI, 3, .inl (fun _ => 0)))]) ((fun A : Nat → Prop => va_Qv (S := Unit) (fun _ => False) (fun _ _ => True) A) (va_A [(a0, .inr (10, [v0, v1, v2, v3, v4, .ref a1, v5, v6, v7, v8, v9, v10, v11, v12, v13, v14, v15, v16])), (a1, .inl (cI, 3, .inl (fun _ => 0)))] sz)) ((fun A : Nat → Prop => nm_X "java/lang/IllegalArgumentException" A) (va_A [(a0, .inr (10, [v0, v1, v2, v3, v4, .ref a1, v5, v6, v7, v8, v9, v10, v11, v12, v13, v14, v15, v16])), (a1, .inl (cI, 3, .inl (fun _ => 0)))] sz)) 1 6 (va_A [(a0, .inr (10, [v0, v1, v2, v3, v4, .ref a1, v5, v6, v7, v8, v9, v10, v11, v12, v13, v14, v15, v16])), (a1, .inl (cI, 3, .inl (fun _ => 0)))] sz) := by
  refine nm_MetX (Qc := fun A => va_Qv (S := Unit) (fun _ => False) (fun _ _ => True) A) (XC := fun A => nm_X "java/lang/IllegalArgumentException" A) ?_ ?_ ?_
  · decide +kernel
  · exact Nat.le_of_ble_eq_true rfl
  intro p e s m below meth c A ls hx hb hr hml hts hown hlocks hout hM hTh hP hD hS hA hl
  have hl : lv_has ls 2 [(0, .ref a0), (1, .int 0)] := hl
  have hown : s.vm.findClass RX11 = some m.cls := hown
  refine lv_iload_n hx hb dX11_needArgument_0 rfl (lv_at hl 1 rfl) ?_
  refine lv_if_ne (tgt := 25) hx hb dX11_needArgument_1 (by decide) (fun c9 => absurd (by decide) c9) (fun _ => ?_)
  refine lv_aload_n hx hb dX11_needArgument_4 rfl (lv_at hl 0 rfl) ?_
  refine va_get (D := D) (ci := 10) (v := .ref a1) (C := RX11) (T := TX11) (N := 18) hx hb hts iw_X11 hown hM.1 hP 0 rfl rfl 5 (by decide) (hts _ q_386) (fun _ h9 => h9) rfl dX11_needArgument_5 ?_
  refine lv_iconst (v := 1) hx hb dX11_needArgument_8 (by decide) ?_
  refine lv_dup2_11 hx hb dX11_needArgument_9 rfl rfl ?_
  refine va_iald hx hb hM.1 hP 1 0 rfl rfl (nm_vin (by decide)) dX11_needArgument_10 ?_
  refine lv_topi (fun z101 e9 => ?_)
  obtain rfl : z101 = (0 : Int32) := e9
  refine lv_iconst (v := 1) hx hb dX11_needArgument_11 (by decide) ?_
  refine lv_iadd hx hb dX11_needArgument_12 ?_
  refine lv_topi (fun z102 e9 => ?_)
  obtain rfl : z102 = (1 : Int32) := e9.trans (by decide)
  refine va_iast hx hb hM.1 hP hD hS 1 0 rfl rfl (nm_vin (by decide)) dX11_needArgument_13 (fun H locs hP hD hS => ?_)
  have hP : va_P D nm_cl [(a0, .inr (10, [v0, v1, v2, v3, v4, .ref a1, v5, v6, v7, v8, v9, v10, v11, v12, v13, v14, v15, v16])), (a1, .inl (cI, 3, .inl (upd (fun _ => 0) (Int32.toNatClampNeg 1) 1)))] H := hP
  have hD : va_D A [(a0, .inr (10, [v0, v1, v2, v3, v4, .ref a1, v5, v6, v7, v8, v9, v10, v11, v12, v13, v14, v15, v16])), (a1, .inl (cI, 3, .inl (upd (fun _ => 0) (Int32.toNatClampNeg 1) 1)))] := hD
  obtain ⟨f103, hf9⟩ : ∃ g : Nat → Int32, g = (upd (fun _ => 0) (Int32.toNatClampNeg 1) 1) := ⟨_, rfl⟩
  rw [← hf9] at hP hD
  obtain ⟨sa, hstr⟩ := hM.2.2.2.2.2.2.1
  exact vx_throwSW hx hb hl0 hown (by decide +kernel) (by decide +kernel) (hts _ q_507) (hts _ q_20) hstr (nm_at hts hTh hM.2.2.2.2.2.2.2.2.1 nm_tI1 nm_tI2) nm_tI3 hTh.1 hTh.2.1 hS (hl.1.trans hml.symm) dX11_needArgument_14 dX11_needArgument_17 dX11_needArgument_18 dX11_needArgument_21 dX11_needArgument_24 (fun x hx => (hout x hx).elim) (Nat.le_of_ble_eq_true rfl) (Nat.le_of_ble_eq_true rfl) (Nat.le_of_ble_eq_true rfl) (Nat.le_of_ble_eq_true rfl) hlocks (nm_tx hS) hS.2.2 (Nat.le_of_ble_eq_true rfl) (Nat.le_of_ble_eq_true rfl)
set_option maxHeartbeats 4000000 in
set_option maxRecDepth 100000 in
theorem c_X11_told_1 (l : Launch) (hl0 : l.stackTraces = false) (D : va_G) (cI cB cJ cS : ClassId) (sz : Nat) (a0 : Nat) (a1 : Nat) (x0 : Int32) (v0 : Value) (v1 : Value) (v2 : Value) (v3 : Value) (v4 : Value) (v5 : Value) (v6 : Value) (v7 : Value) (v8 : Value) (v9 : Value) (v10 : Value) (v11 : Value) (v12 : Value) (v13 : Value) (v14 : Value) (v15 : Value) (v16 : Value) (hh_x0 : x0 ≤ (-1 : Int32)) : vx_Met l yX11_told (.code yX11_told cX11_told 2 (some .int) :: nm_big) ({ frames := 7, cells := 1, slots := 6, locals := 103 }) (nm_PX D cI cB cJ cS [.ref a0, .int x0] sz [(a0, .inr (10, [v0, v1, v2, v3, v4, .ref a1, v5, v6, v7, v8, v9, v10, v11, v12, v13, v14, v15, v16])), (a1, .inl (cI, 3, .inl (fun _ => 0)))]) ((fun A : Nat → Prop => va_Qi (S := Unit) (fun _ _ => False) (fun _ _ => True) A) (va_A [(a0, .inr (10, [v0, v1, v2, v3, v4, .ref a1, v5, v6, v7, v8, v9, v10, v11, v12, v13, v14, v15, v16])), (a1, .inl (cI, 3, .inl (fun _ => 0)))] sz)) ((fun A : Nat → Prop => nm_X "java/lang/IllegalArgumentException" A) (va_A [(a0, .inr (10, [v0, v1, v2, v3, v4, .ref a1, v5, v6, v7, v8, v9, v10, v11, v12, v13, v14, v15, v16])), (a1, .inl (cI, 3, .inl (fun _ => 0)))] sz)) 1 6 (va_A [(a0, .inr (10, [v0, v1, v2, v3, v4, .ref a1, v5, v6, v7, v8, v9, v10, v11, v12, v13, v14, v15, v16])), (a1, .inl (cI, 3, .inl (fun _ => 0)))] sz) := by
  refine nm_MetX (Qc := fun A => va_Qi (S := Unit) (fun _ _ => False) (fun _ _ => True) A) (XC := fun A => nm_X "java/lang/IllegalArgumentException" A) ?_ ?_ ?_
  · decide +kernel
  · exact Nat.le_of_ble_eq_true rfl
  intro p e s m below meth c A ls hx hb hr hml hts hown hlocks hout hM hTh hP hD hS hA hl
  have hl : lv_has ls 2 [(0, .ref a0), (1, .int x0)] := hl
  have hown : s.vm.findClass RX11 = some m.cls := hown
  refine lv_aload_n hx hb dX11_told_0 rfl (lv_at hl 0 rfl) ?_
  refine lv_iload_n hx hb dX11_told_1 rfl (lv_at hl 1 rfl) ?_
  refine lv_if_lt (tgt := 14) hx hb dX11_told_2 (by decide) (fun _ => ?_) (fun c9 => absurd (nm_o1 hh_x0 (by decide)) c9)
  refine lv_iconst (v := 0) hx hb dX11_told_14 (by decide) ?_
  exact nm_xoutv (vx_runV (As := [.int 0]) (rest := []) ⟨hx, hb, hml, hown, hts⟩ (c_X11_needArgument_1 l hl0 D cI cB cJ cS s.heap.size a0 a1 v0 v1 v2 v3 v4 v5 v6 v7 v8 v9 v10 v11 v12 v13 v14 v15 v16) (cwV 1 hts (nm_gV q_503 q_505 qs_1 q_1 q_506) rfl rfl rfl (by decide +kernel) ⟨(Nat.le_of_ble_eq_true rfl), (Nat.le_of_ble_eq_true rfl)⟩) (nm_preXV (q := (RX11, TX11, 18)) (hP.sub [0, 1] rfl) (hD.sub [0, 1] (by decide) rfl) hM hTh hS (va_free hD hS hA [0, 1] rfl) 0 rfl rfl) rfl rfl hl.1 rfl (lv_room (Nat.le_of_ble_eq_true rfl)) dX11_told_15 ⟨(Nat.le_of_ble_eq_true rfl), (Nat.le_of_ble_eq_true rfl)⟩) (va_free hD hS hA [0, 1] rfl) hS hout hlocks (Nat.le_of_ble_eq_true rfl) (Nat.le_of_ble_eq_true rfl)
set_option maxHeartbeats 4000000 in
set_option maxRecDepth 100000 in
theorem c_L_told_1 (l : Launch) (hl0 : l.stackTraces = false) (D : va_G) (cI cB cJ cS : ClassId) (sz : Nat) (a0 : Nat) (a1 : Nat) (x0 : Int32) (b0 : Nat) (v0 : Value) (v1 : Value) (v2 : Value) (v3 : Value) (v4 : Value) (v5 : Value) (v6 : Value) (v7 : Value) (v8 : Value) (v9 : Value) (v10 : Value) (v11 : Value) (v12 : Value) (v13 : Value) (v14 : Value) (v15 : Value) (v16 : Value) (hh_x0 : x0 ≤ (-1 : Int32)) : vx_Met l yL_told (.codeWith yL_told cL_told 4 (some .int) [(0, 9, 12, 13)] :: nm_big) ({ frames := 8, cells := 1, slots := 6, locals := 124 }) (nm_PX D cI cB cJ cS [.ref a0, .int x0, .ref b0] sz [(a0, .inr (10, [v0, v1, v2, v3, v4, .ref a1, v5, v6, v7, v8, v9, v10, v11, v12, v13, v14, v15, v16])), (a1, .inl (cI, 3, .inl (fun _ => 0)))]) ((fun A : Nat → Prop => va_Qi (S := Unit) (fun (r : Int32) => (fun (z : Unit) => r = 1)) (nm_B D (fun (z : Unit) => []) A) A) (va_A [(a0, .inr (10, [v0, v1, v2, v3, v4, .ref a1, v5, v6, v7, v8, v9, v10, v11, v12, v13, v14, v15, v16])), (a1, .inl (cI, 3, .inl (fun _ => 0)))] sz)) ((fun A : Nat → Prop => nm_X0 A) (va_A [(a0, .inr (10, [v0, v1, v2, v3, v4, .ref a1, v5, v6, v7, v8, v9, v10, v11, v12, v13, v14, v15, v16])), (a1, .inl (cI, 3, .inl (fun _ => 0)))] sz)) 1 6 (va_A [(a0, .inr (10, [v0, v1, v2, v3, v4, .ref a1, v5, v6, v7, v8, v9, v10, v11, v12, v13, v14, v15, v16])), (a1, .inl (cI, 3, .inl (fun _ => 0)))] sz) := by
  refine nm_MetW (Qc := fun A => va_Qi (S := Unit) (fun (r : Int32) => (fun (z : Unit) => r = 1)) (nm_B D (fun (z : Unit) => []) A) A) (XC := fun A => nm_X0 A) ?_ ?_ ?_
  · decide +kernel
  · exact Nat.le_of_ble_eq_true rfl
  intro p e s m below meth c A ls hx hb hr hml hts hown hlocks htab hM hTh hP hD hS hA hl
  have hl : lv_has ls 4 [(0, .ref a0), (1, .int x0), (2, .ref b0)] := hl
  have hown : s.vm.findClass RL = some m.cls := hown
  refine lv_aload_n hx hb dL_told_0 rfl (lv_at hl 2 rfl) ?_
  refine lv_iconst (v := 0) hx hb dL_told_1 (by decide) ?_
  refine lv_aload_n hx hb dL_told_2 rfl (lv_at hl 0 rfl) ?_
  refine lv_iload_n hx hb dL_told_3 rfl (lv_at hl 1 rfl) ?_
  refine nm_xcatch (hp := 12) (k := 1) (n := 6) (vx_runV (As := [.int x0]) (rest := [.int 0, .ref b0]) ⟨hx, hb, hml, hown, hts⟩ (c_X11_told_1 l hl0 D cI cB cJ cS s.heap.size a0 a1 x0 v0 v1 v2 v3 v4 v5 v6 v7 v8 v9 v10 v11 v12 v13 v14 v15 v16 hh_x0) (cwV 1 hts (nm_gV q_1293 q_1294 q_1295 q_1 q_1296) rfl rfl rfl (by decide +kernel) ⟨(Nat.le_of_ble_eq_true rfl), (Nat.le_of_ble_eq_true rfl)⟩) (nm_preXV (q := (RX11, TX11, 18)) (hP.sub [0, 1] rfl) (hD.sub [0, 1] (by decide) rfl) hM hTh hS (va_free hD hS hA [0, 1] rfl) 0 rfl rfl) rfl rfl hl.1 rfl (lv_room (Nat.le_of_ble_eq_true rfl)) dL_told_4 ⟨(Nat.le_of_ble_eq_true rfl), (Nat.le_of_ble_eq_true rfl)⟩) (va_free hD hS hA [0, 1] rfl) hS hown _ _ htab rfl (by decide) (hts _ q_497) hM.2.2.2.2.2.2.2.2.1 rfl (Nat.le_of_ble_eq_true rfl) (Nat.le_of_ble_eq_true rfl) (fun q101 H locs hS => ?_)
  have hP : va_P D nm_cl [] H := nm_nil
  have hD : va_D A [] := nm_nilD
  refine lv_astore_n (lv' := [(3, .ref q101), (0, .ref a0), (1, .int x0), (2, .ref b0)]) hx hb dL_told_12 rfl hl (by decide) rfl (fun ls hl => ?_)
  refine lv_iconst (v := 1) hx hb dL_told_13 (by decide) ?_
  have hP9 := hP.sub (ws' := []) [] rfl
  have hD9 := hD.sub (ws' := []) [] (by decide) rfl
  exact vx_ret (W.iret (v := 1) hx hb hr (fun t ht hW => ⟨⟨1, (), rfl, rfl, by rw [ht]; exact hP9, hD9⟩, hS.F ht⟩) hS.2.2 dL_told_14)
set_option maxHeartbeats 4000000 in
set_option maxRecDepth 100000 in
theorem c_X12_in_1 (l : Launch) (D : va_G) (cI cB cJ cS : ClassId) (sz : Nat) (x0 : Int32) (hh_x0 : x0 ≤ (-1 : Int32)) : Met l yX12_in (.code yX12_in cX12_in 3 (some .boolean) :: nm_big) ({ frames := 0, cells := 0, slots := 0, locals := 0 }) (nm_P D cI cB cJ cS [.int x0, .int 0, .int 2] sz []) ((fun A : Nat → Prop => va_Qi (S := Unit) (fun (r : Int32) => (fun (z : Unit) => r = 0)) (nm_B D (fun (z : Unit) => []) A) A) (va_A [] sz)) 0 0 (va_A [] sz) := by
  refine nm_Met (Qc := fun A => va_Qi (S := Unit) (fun (r : Int32) => (fun (z : Unit) => r = 0)) (nm_B D (fun (z : Unit) => []) A) A) ?_ ?_ ?_
  · decide +kernel
  · exact Nat.le_of_ble_eq_true rfl
  intro p e s m below meth c A ls hx hb hr hml hts hown hlocks hin hM hP hD hS hA hl
  have hl : lv_has ls 3 [(0, .int x0), (1, .int 0), (2, .int 2)] := hl
  have hown : s.vm.findClass RX12 = some m.cls := hown
  refine lv_iload_n hx hb dX12_in_0 rfl (lv_at hl 0 rfl) ?_
  refine lv_iload_n hx hb dX12_in_1 rfl (lv_at hl 1 rfl) ?_
  refine lv_icmp_lt (tgt := 14) hx hb dX12_in_2 (by decide) (fun _ => ?_) (fun c9 => absurd (nm_o1 hh_x0 (by decide)) c9)
  refine lv_iconst (v := 0) hx hb dX12_in_14 (by decide) ?_
  have hP9 := hP.sub (ws' := []) [] rfl
  have hD9 := hD.sub (ws' := []) [] (by decide) rfl
  exact W.zret (v := 0) hx hb hr (by decide) (fun t ht hW => ⟨⟨0, (), rfl, rfl, by rw [ht]; exact hP9, hD9⟩, hS.F ht⟩) hS.2.2 dX12_in_15
set_option maxHeartbeats 4000000 in
set_option maxRecDepth 100000 in
theorem c_X12_bad_1 (l : Launch) (D : va_G) (cI cB cJ cS : ClassId) (sz : Nat) (a0 : Nat) (a1 : Nat) (v0 : Value) (v1 : Value) (v2 : Value) (v3 : Value) (v4 : Value) (v5 : Value) (v6 : Value) (v7 : Value) (v8 : Value) (v9 : Value) (v10 : Value) (v11 : Value) (v12 : Value) (v13 : Value) (v14 : Value) (v15 : Value) (v16 : Value) (v17 : Value) (v18 : Value) (v19 : Value) (v20 : Value) (v21 : Value) (v22 : Value) (v23 : Value) (v24 : Value) (v25 : Value) (v26 : Value) (v27 : Value) (v28 : Value) (v29 : Value) (v30 : Value) (v31 : Value) (v32 : Value) (v33 : Value) (v34 : Value) (v35 : Value) (v36 : Value) (v37 : Value) (v38 : Value) (v39 : Value) (v40 : Value) (v41 : Value) (v42 : Value) (v43 : Value) (v44 : Value) (v45 : Value) (v46 : Value) (v47 : Value) (v48 : Value) (v49 : Value) (v50 : Value) (v51 : Value) (v52 : Value) (v53 : Value) (v54 : Value) (v55 : Value) (v56 : Value) (v57 : Value) (v58 : Value) (v59 : Value)  : Met l yX12_bad (.code yX12_bad cX12_bad 4 (some .boolean) :: nm_big) ({ frames := 0, cells := 0, slots := 0, locals := 0 }) (nm_P D cI cB cJ cS [.ref a0, .int 1, .int 1, .int 1] sz [(a0, .inr (11, [.int 0, .ref a1, v0, v1, v2, v3, v4, v5, v6, v7, v8, v9, v10, v11, v12, v13, v14, v15, v16, v17, v18, v19, v20, v21, v22, v23, v24, v25, v26, v27, v28, v29, v30, v31, v32, v33, v34, v35, v36, v37, v38, v39, v40, v41, v42, v43, v44, v45, v46, v47, v48, v49, v50, v51, v52, v53, v54, v55, v56, v57, v58, v59])), (a1, .inl (cI, 3, .inl (fun _ => 0)))]) ((fun A : Nat → Prop => va_Qi (S := (Nat → Int32)) (fun (r : Int32) => (fun (f103 : (Nat → Int32)) => r = 1)) (nm_B D (fun (f103 : (Nat → Int32)) => [(a0, .inr (11, [.int 1, .ref a1, v0, v1, v2, v3, v4, v5, v6, v7, v8, v9, v10, v11, v12, v13, v14, v15, v16, v17, v18, v19, v20, v21, v22, v23, v24, v25, v26, v27, v28, v29, v30, v31, v32, v33, v34, v35, v36, v37, v38, v39, v40, v41, v42, v43, v44, v45, v46, v47, v48, v49, v50, v51, v52, v53, v54, v55, v56, v57, v58, v59])), (a1, .inl (cI, 3, .inl f103))]) A) A) (va_A [(a0, .inr (11, [.int 0, .ref a1, v0, v1, v2, v3, v4, v5, v6, v7, v8, v9, v10, v11, v12, v13, v14, v15, v16, v17, v18, v19, v20, v21, v22, v23, v24, v25, v26, v27, v28, v29, v30, v31, v32, v33, v34, v35, v36, v37, v38, v39, v40, v41, v42, v43, v44, v45, v46, v47, v48, v49, v50, v51, v52, v53, v54, v55, v56, v57, v58, v59])), (a1, .inl (cI, 3, .inl (fun _ => 0)))] sz)) 0 0 (va_A [(a0, .inr (11, [.int 0, .ref a1, v0, v1, v2, v3, v4, v5, v6, v7, v8, v9, v10, v11, v12, v13, v14, v15, v16, v17, v18, v19, v20, v21, v22, v23, v24, v25, v26, v27, v28, v29, v30, v31, v32, v33, v34, v35, v36, v37, v38, v39, v40, v41, v42, v43, v44, v45, v46, v47, v48, v49, v50, v51, v52, v53, v54, v55, v56, v57, v58, v59])), (a1, .inl (cI, 3, .inl (fun _ => 0)))] sz) := by
  refine nm_Met (Qc := fun A => va_Qi (S := (Nat → Int32)) (fun (r : Int32) => (fun (f103 : (Nat → Int32)) => r = 1)) (nm_B D (fun (f103 : (Nat → Int32)) => [(a0, .inr (11, [.int 1, .ref a1, v0, v1, v2, v3, v4, v5, v6, v7, v8, v9, v10, v11, v12, v13, v14, v15, v16, v17, v18, v19, v20, v21, v22, v23, v24, v25, v26, v27, v28, v29, v30, v31, v32, v33, v34, v35, v36, v37, v38, v39, v40, v41, v42, v43, v44, v45, v46, v47, v48, v49, v50, v51, v52, v53, v54, v55, v56, v57, v58, v59])), (a1, .inl (cI, 3, .inl f103))]) A) A) ?_ ?_ ?_
  · decide +kernel
  · exact Nat.le_of_ble_eq_true rfl
  intro p e s m below meth c A ls hx hb hr hml hts hown hlocks hin hM hP hD hS hA hl
  have hl : lv_has ls 4 [(0, .ref a0), (1, .int 1), (2, .int 1), (3, .int 1)] := hl
  have hown : s.vm.findClass RX12 = some m.cls := hown
  refine lv_iload_n hx hb dX12_bad_0 rfl (lv_at hl 1 rfl) ?_
  refine lv_if_eq (tgt := 26) hx hb dX12_bad_1 (by decide) (fun c9 => absurd c9 (by decide)) (fun _ => ?_)
  refine lv_aload_n hx hb dX12_bad_4 rfl (lv_at hl 0 rfl) ?_
  refine va_get (D := D) (ci := 11) (v := .int 0) (C := RX12) (T := TX12) (N := 62) hx hb hts iw_X12 hown hM.1 hP 0 rfl rfl 0 (by decide) (hts _ q_1495) (fun _ h9 => h9) rfl dX12_bad_5 ?_
  refine lv_if_ne (tgt := 26) hx hb dX12_bad_8 (by decide) (fun c9 => absurd (by decide) c9) (fun _ => ?_)
  refine lv_aload_n hx hb dX12_bad_11 rfl (lv_at hl 0 rfl) ?_
  refine lv_iload_n hx hb dX12_bad_12 rfl (lv_at hl 2 rfl) ?_
  refine va_put (D := D) (ci := 11) (v := .int 1) (ty := .int) (C := RX12) (T := TX12) (N := 62) hx hb hts iw_X12 tyX12 tyX12_ok nmX12 hown hM.1 hP hD hS 0 rfl rfl 0 (by decide) (hts _ q_1495) (fun _ h9 => h9) rfl (by decide +kernel) rfl rfl (Nat.le_of_ble_eq_true rfl) dX12_bad_13 (fun H locs hP hD hS => ?_)
  have hP : va_P D nm_cl [(a0, .inr (11, [.int 1, .ref a1, v0, v1, v2, v3, v4, v5, v6, v7, v8, v9, v10, v11, v12, v13, v14, v15, v16, v17, v18, v19, v20, v21, v22, v23, v24, v25, v26, v27, v28, v29, v30, v31, v32, v33, v34, v35, v36, v37, v38, v39, v40, v41, v42, v43, v44, v45, v46, v47, v48, v49, v50, v51, v52, v53, v54, v55, v56, v57, v58, v59])), (a1, .inl (cI, 3, .inl (fun _ => 0)))] H := hP
  have hD : va_D A [(a0, .inr (11, [.int 1, .ref a1, v0, v1, v2, v3, v4, v5, v6, v7, v8, v9, v10, v11, v12, v13, v14, v15, v16, v17, v18, v19, v20, v21, v22, v23, v24, v25, v26, v27, v28, v29, v30, v31, v32, v33, v34, v35, v36, v37, v38, v39, v40, v41, v42, v43, v44, v45, v46, v47, v48, v49, v50, v51, v52, v53, v54, v55, v56, v57, v58, v59])), (a1, .inl (cI, 3, .inl (fun _ => 0)))] := hD
  refine lv_aload_n hx hb dX12_bad_16 rfl (lv_at hl 0 rfl) ?_
  refine va_get (D := D) (ci := 11) (v := .ref a1) (C := RX12) (T := TX12) (N := 62) hx hb hts iw_X12 hown hM.1 hP 0 rfl rfl 1 (by decide) (hts _ q_1496) (fun _ h9 => h9) rfl dX12_bad_17 ?_
  refine lv_iload_n hx hb dX12_bad_20 rfl (lv_at hl 3 rfl) ?_
  refine lv_dup2_11 hx hb dX12_bad_21 rfl rfl ?_
  refine va_iald hx hb hM.1 hP 1 0 rfl rfl (nm_vin (by decide)) dX12_bad_22 ?_
  refine lv_topi (fun z101 e9 => ?_)
  obtain rfl : z101 = (0 : Int32) := e9
  refine lv_iconst (v := 1) hx hb dX12_bad_23 (by decide) ?_
  refine lv_iadd hx hb dX12_bad_24 ?_
  refine lv_topi (fun z102 e9 => ?_)
  obtain rfl : z102 = (1 : Int32) := e9.trans (by decide)
  refine va_iast hx hb hM.1 hP hD hS 1 0 rfl rfl (nm_vin (by decide)) dX12_bad_25 (fun H locs hP hD hS => ?_)
  have hP : va_P D nm_cl [(a0, .inr (11, [.int 1, .ref a1, v0, v1, v2, v3, v4, v5, v6, v7, v8, v9, v10, v11, v12, v13, v14, v15, v16, v17, v18, v19, v20, v21, v22, v23, v24, v25, v26, v27, v28, v29, v30, v31, v32, v33, v34, v35, v36, v37, v38, v39, v40, v41, v42, v43, v44, v45, v46, v47, v48, v49, v50, v51, v52, v53, v54, v55, v56, v57, v58, v59])), (a1, .inl (cI, 3, .inl (upd (fun _ => 0) (Int32.toNatClampNeg 1) 1)))] H := hP
  have hD : va_D A [(a0, .inr (11, [.int 1, .ref a1, v0, v1, v2, v3, v4, v5, v6, v7, v8, v9, v10, v11, v12, v13, v14, v15, v16, v17, v18, v19, v20, v21, v22, v23, v24, v25, v26, v27, v28, v29, v30, v31, v32, v33, v34, v35, v36, v37, v38, v39, v40, v41, v42, v43, v44, v45, v46, v47, v48, v49, v50, v51, v52, v53, v54, v55, v56, v57, v58, v59])), (a1, .inl (cI, 3, .inl (upd (fun _ => 0) (Int32.toNatClampNeg 1) 1)))] := hD
  obtain ⟨f103, hf9⟩ : ∃ g : Nat → Int32, g = (upd (fun _ => 0) (Int32.toNatClampNeg 1) 1) := ⟨_, rfl⟩
  rw [← hf9] at hP hD
  refine lv_aload_n hx hb dX12_bad_26 rfl (lv_at hl 0 rfl) ?_
  refine va_get (D := D) (ci := 11) (v := .int 1) (C := RX12) (T := TX12) (N := 62) hx hb hts iw_X12 hown hM.1 hP 0 rfl rfl 0 (by decide) (hts _ q_1495) (fun _ h9 => h9) rfl dX12_bad_27 ?_
  refine lv_if_eq (tgt := 37) hx hb dX12_bad_30 (by decide) (fun c9 => absurd c9 (by decide)) (fun _ => ?_)
  refine lv_iconst (v := 1) hx hb dX12_bad_33 (by decide) ?_
  refine lv_goto (tgt := 38) hx hb dX12_bad_34 (by decide) ?_
  have hP9 := hP.sub (ws' := [(a0, .inr (11, [.int 1, .ref a1, v0, v1, v2, v3, v4, v5, v6, v7, v8, v9, v10, v11, v12, v13, v14, v15, v16, v17, v18, v19, v20, v21, v22, v23, v24, v25, v26, v27, v28, v29, v30, v31, v32, v33, v34, v35, v36, v37, v38, v39, v40, v41, v42, v43, v44, v45, v46, v47, v48, v49, v50, v51, v52, v53, v54, v55, v56, v57, v58, v59])), (a1, .inl (cI, 3, .inl f103))]) [0, 1] rfl
  have hD9 := hD.sub (ws' := [(a0, .inr (11, [.int 1, .ref a1, v0, v1, v2, v3, v4, v5, v6, v7, v8, v9, v10, v11, v12, v13, v14, v15, v16, v17, v18, v19, v20, v21, v22, v23, v24, v25, v26, v27, v28, v29, v30, v31, v32, v33, v34, v35, v36, v37, v38, v39, v40, v41, v42, v43, v44, v45, v46, v47, v48, v49, v50, v51, v52, v53, v54, v55, v56, v57, v58, v59])), (a1, .inl (cI, 3, .inl f103))]) [0, 1] (by decide) rfl
  exact W.zret (v := 1) hx hb hr (by decide) (fun t ht hW => ⟨⟨1, f103, rfl, rfl, by rw [ht]; exact hP9, hD9⟩, hS.F ht⟩) hS.2.2 dX12_bad_38
set_option maxHeartbeats 4000000 in
set_option maxRecDepth 100000 in
theorem c_X12_told_1 (l : Launch) (D : va_G) (cI cB cJ cS : ClassId) (sz : Nat) (a0 : Nat) (a1 : Nat) (x0 : Int32) (v0 : Value) (v1 : Value) (v2 : Value) (v3 : Value) (v4 : Value) (v5 : Value) (v6 : Value) (v7 : Value) (v8 : Value) (v9 : Value) (v10 : Value) (v11 : Value) (v12 : Value) (v13 : Value) (v14 : Value) (v15 : Value) (v16 : Value) (v17 : Value) (v18 : Value) (v19 : Value) (v20 : Value) (v21 : Value) (v22 : Value) (v23 : Value) (v24 : Value) (v25 : Value) (v26 : Value) (v27 : Value) (v28 : Value) (v29 : Value) (v30 : Value) (v31 : Value) (v32 : Value) (v33 : Value) (v34 : Value) (v35 : Value) (v36 : Value) (v37 : Value) (v38 : Value) (v39 : Value) (v40 : Value) (v41 : Value) (v42 : Value) (v43 : Value) (v44 : Value) (v45 : Value) (v46 : Value) (v47 : Value) (v48 : Value) (v49 : Value) (v50 : Value) (v51 : Value) (v52 : Value) (v53 : Value) (v54 : Value) (v55 : Value) (v56 : Value) (v57 : Value) (v58 : Value) (v59 : Value) (v60 : Value) (hh_x0 : x0 ≤ (-1 : Int32)) : Met l yX12_told (.code yX12_told cX12_told 2 (some .int) :: nm_big) ({ frames := 1, cells := 0, slots := 0, locals := 23 }) (nm_P D cI cB cJ cS [.ref a0, .int x0] sz [(a0, .inr (11, [v0, .ref a1, v1, v2, v3, v4, v5, v6, v7, v8, v9, v10, v11, v12, v13, v14, v15, v16, v17, v18, v19, v20, v21, v22, v23, v24, v25, v26, v27, v28, v29, v30, v31, v32, v33, v34, v35, v36, v37, v38, v39, v40, v41, v42, v43, v44, v45, v46, v47, v48, v49, v50, v51, v52, v53, v54, v55, v56, v57, v58, v59, v60])), (a1, .inl (cI, 3, .inl (fun _ => 0)))]) ((fun A : Nat → Prop => va_Qi (S := Unit) (fun (r : Int32) => (fun (z : Unit) => r = 0)) (nm_B D (fun (z : Unit) => [(a0, .inr (11, [.int 1, .ref a1, v1, v2, v3, v4, v5, v6, v7, v8, v9, v10, v11, v12, v13, v14, v15, v16, v17, v18, v19, v20, v21, v22, v23, v24, v25, v26, v27, v28, v29, v30, v31, v32, v33, v34, v35, v36, v37, v38, v39, v40, v41, v42, v43, v44, v45, v46, v47, v48, v49, v50, v51, v52, v53, v54, v55, v56, v57, v58, v59, v60]))]) A) A) (va_A [(a0, .inr (11, [v0, .ref a1, v1, v2, v3, v4, v5, v6, v7, v8, v9, v10, v11, v12, v13, v14, v15, v16, v17, v18, v19, v20, v21, v22, v23, v24, v25, v26, v27, v28, v29, v30, v31, v32, v33, v34, v35, v36, v37, v38, v39, v40, v41, v42, v43, v44, v45, v46, v47, v48, v49, v50, v51, v52, v53, v54, v55, v56, v57, v58, v59, v60])), (a1, .inl (cI, 3, .inl (fun _ => 0)))] sz)) 0 0 (va_A [(a0, .inr (11, [v0, .ref a1, v1, v2, v3, v4, v5, v6, v7, v8, v9, v10, v11, v12, v13, v14, v15, v16, v17, v18, v19, v20, v21, v22, v23, v24, v25, v26, v27, v28, v29, v30, v31, v32, v33, v34, v35, v36, v37, v38, v39, v40, v41, v42, v43, v44, v45, v46, v47, v48, v49, v50, v51, v52, v53, v54, v55, v56, v57, v58, v59, v60])), (a1, .inl (cI, 3, .inl (fun _ => 0)))] sz) := by
  refine nm_Met (Qc := fun A => va_Qi (S := Unit) (fun (r : Int32) => (fun (z : Unit) => r = 0)) (nm_B D (fun (z : Unit) => [(a0, .inr (11, [.int 1, .ref a1, v1, v2, v3, v4, v5, v6, v7, v8, v9, v10, v11, v12, v13, v14, v15, v16, v17, v18, v19, v20, v21, v22, v23, v24, v25, v26, v27, v28, v29, v30, v31, v32, v33, v34, v35, v36, v37, v38, v39, v40, v41, v42, v43, v44, v45, v46, v47, v48, v49, v50, v51, v52, v53, v54, v55, v56, v57, v58, v59, v60]))]) A) A) ?_ ?_ ?_
  · decide +kernel
  · exact Nat.le_of_ble_eq_true rfl
  intro p e s m below meth c A ls hx hb hr hml hts hown hlocks hin hM hP hD hS hA hl
  have hl : lv_has ls 2 [(0, .ref a0), (1, .int x0)] := hl
  have hown : s.vm.findClass RX12 = some m.cls := hown
  refine lv_aload_n hx hb dX12_told_0 rfl (lv_at hl 0 rfl) ?_
  refine lv_iconst (v := 0) hx hb dX12_told_1 (by decide) ?_
  refine va_put (D := D) (ci := 11) (v := .int 0) (ty := .int) (C := RX12) (T := TX12) (N := 62) hx hb hts iw_X12 tyX12 tyX12_ok nmX12 hown hM.1 hP hD hS 0 rfl rfl 0 (by decide) (hts _ q_1495) (fun _ h9 => h9) rfl (by decide +kernel) rfl rfl (Nat.le_of_ble_eq_true rfl) dX12_told_2 (fun H locs hP hD hS => ?_)
  have hP : va_P D nm_cl [(a0, .inr (11, [.int 0, .ref a1, v1, v2, v3, v4, v5, v6, v7, v8, v9, v10, v11, v12, v13, v14, v15, v16, v17, v18, v19, v20, v21, v22, v23, v24, v25, v26, v27, v28, v29, v30, v31, v32, v33, v34, v35, v36, v37, v38, v39, v40, v41, v42, v43, v44, v45, v46, v47, v48, v49, v50, v51, v52, v53, v54, v55, v56, v57, v58, v59, v60])), (a1, .inl (cI, 3, .inl (fun _ => 0)))] H := hP
  have hD : va_D A [(a0, .inr (11, [.int 0, .ref a1, v1, v2, v3, v4, v5, v6, v7, v8, v9, v10, v11, v12, v13, v14, v15, v16, v17, v18, v19, v20, v21, v22, v23, v24, v25, v26, v27, v28, v29, v30, v31, v32, v33, v34, v35, v36, v37, v38, v39, v40, v41, v42, v43, v44, v45, v46, v47, v48, v49, v50, v51, v52, v53, v54, v55, v56, v57, v58, v59, v60])), (a1, .inl (cI, 3, .inl (fun _ => 0)))] := hD
  refine lv_aload_n hx hb dX12_told_5 rfl (lv_at hl 0 rfl) ?_
  refine lv_iload_n hx hb dX12_told_6 rfl (lv_at hl 1 rfl) ?_
  refine lv_iconst (v := 0) hx hb dX12_told_7 (by decide) ?_
  refine lv_iconst (v := 2) hx hb dX12_told_8 (by decide) ?_
  refine nm_calli (Z := Unit) (wr := [(a0, .inr (11, [.int 0, .ref a1, v1, v2, v3, v4, v5, v6, v7, v8, v9, v10, v11, v12, v13, v14, v15, v16, v17, v18, v19, v20, v21, v22, v23, v24, v25, v26, v27, v28, v29, v30, v31, v32, v33, v34, v35, v36, v37, v38, v39, v40, v41, v42, v43, v44, v45, v46, v47, v48, v49, v50, v51, v52, v53, v54, v55, v56, v57, v58, v59, v60])), (a1, .inl (cI, 3, .inl (fun _ => 0)))]) (k := 0) (n := 0) (va_runS (As := [.int x0, .int 0, .int 2]) (rest := [.ref a0]) ⟨hx, hb, hml, hown, hts⟩ (c_X12_in_1 l D cI cB cJ cS H.size x0 hh_x0) (va_cwS 3 hts (nm_gS q_1703 q_1704 q_13 q_1705) rfl rfl rfl (by decide +kernel) ⟨(Nat.le_of_ble_eq_true rfl), (Nat.le_of_ble_eq_true rfl)⟩) (nm_preS (hP.sub [] rfl) (hD.sub [] (by decide) rfl) hM) rfl rfl hl.1 rfl (lv_room (Nat.le_of_ble_eq_true rfl)) dX12_told_9 ⟨(Nat.le_of_ble_eq_true rfl), (Nat.le_of_ble_eq_true rfl)⟩) hP hD hS hA [] [0, 1] rfl rfl (by decide) (by decide) (Nat.le_of_ble_eq_true rfl) (Nat.le_of_ble_eq_true rfl) (fun r9 u H locs hw hP hD hS => ?_)
  obtain rfl : r9 = (0 : Int32) := hw
  have hP : va_P D nm_cl [(a0, .inr (11, [.int 0, .ref a1, v1, v2, v3, v4, v5, v6, v7, v8, v9, v10, v11, v12, v13, v14, v15, v16, v17, v18, v19, v20, v21, v22, v23, v24, v25, v26, v27, v28, v29, v30, v31, v32, v33, v34, v35, v36, v37, v38, v39, v40, v41, v42, v43, v44, v45, v46, v47, v48, v49, v50, v51, v52, v53, v54, v55, v56, v57, v58, v59, v60])), (a1, .inl (cI, 3, .inl (fun _ => 0)))] H := hP
  have hD : va_D A [(a0, .inr (11, [.int 0, .ref a1, v1, v2, v3, v4, v5, v6, v7, v8, v9, v10, v11, v12, v13, v14, v15, v16, v17, v18, v19, v20, v21, v22, v23, v24, v25, v26, v27, v28, v29, v30, v31, v32, v33, v34, v35, v36, v37, v38, v39, v40, v41, v42, v43, v44, v45, v46, v47, v48, v49, v50, v51, v52, v53, v54, v55, v56, v57, v58, v59, v60])), (a1, .inl (cI, 3, .inl (fun _ => 0)))] := hD
  refine lv_if_ne (tgt := 19) hx hb dX12_told_12 (by decide) (fun c9 => absurd (by decide) c9) (fun _ => ?_)
  refine lv_iconst (v := 1) hx hb dX12_told_15 (by decide) ?_
  refine lv_goto (tgt := 20) hx hb dX12_told_16 (by decide) ?_
  refine lv_iconst (v := 1) hx hb dX12_told_20 (by decide) ?_
  refine lv_iconst (v := 1) hx hb dX12_told_21 (by decide) ?_
  refine nm_calli (Z := (Nat → Int32)) (wr := []) (k := 0) (n := 0) (va_runV (As := [.int 1, .int 1, .int 1]) (rest := []) ⟨hx, hb, hml, hown, hts⟩ (c_X12_bad_1 l D cI cB cJ cS H.size a0 a1 v1 v2 v3 v4 v5 v6 v7 v8 v9 v10 v11 v12 v13 v14 v15 v16 v17 v18 v19 v20 v21 v22 v23 v24 v25 v26 v27 v28 v29 v30 v31 v32 v33 v34 v35 v36 v37 v38 v39 v40 v41 v42 v43 v44 v45 v46 v47 v48 v49 v50 v51 v52 v53 v54 v55 v56 v57 v58 v59 v60) (cwV 3 hts (nm_gV q_1706 q_1708 qs_60 q_13 q_1709) rfl rfl rfl (by decide +kernel) ⟨(Nat.le_of_ble_eq_true rfl), (Nat.le_of_ble_eq_true rfl)⟩) (nm_preV (q := (RX12, TX12, 62)) (hP.sub [0, 1] rfl) (hD.sub [0, 1] (by decide) rfl) hM 0 rfl rfl) rfl rfl hl.1 rfl (lv_room (Nat.le_of_ble_eq_true rfl)) dX12_told_22 ⟨(Nat.le_of_ble_eq_true rfl), (Nat.le_of_ble_eq_true rfl)⟩) hP hD hS hA [0, 1] [] rfl rfl (by decide) (by decide) (Nat.le_of_ble_eq_true rfl) (Nat.le_of_ble_eq_true rfl) (fun r9 u H locs hw hP hD hS => ?_)
  obtain ⟨f101, rfl⟩ : ∃ z, z = u := ⟨_, rfl⟩
  obtain rfl : r9 = (1 : Int32) := hw
  have hP : va_P D nm_cl [(a0, .inr (11, [.int 1, .ref a1, v1, v2, v3, v4, v5, v6, v7, v8, v9, v10, v11, v12, v13, v14, v15, v16, v17, v18, v19, v20, v21, v22, v23, v24, v25, v26, v27, v28, v29, v30, v31, v32, v33, v34, v35, v36, v37, v38, v39, v40, v41, v42, v43, v44, v45, v46, v47, v48, v49, v50, v51, v52, v53, v54, v55, v56, v57, v58, v59, v60])), (a1, .inl (cI, 3, .inl f101))] H := hP
  have hD : va_D A [(a0, .inr (11, [.int 1, .ref a1, v1, v2, v3, v4, v5, v6, v7, v8, v9, v10, v11, v12, v13, v14, v15, v16, v17, v18, v19, v20, v21, v22, v23, v24, v25, v26, v27, v28, v29, v30, v31, v32, v33, v34, v35, v36, v37, v38, v39, v40, v41, v42, v43, v44, v45, v46, v47, v48, v49, v50, v51, v52, v53, v54, v55, v56, v57, v58, v59, v60])), (a1, .inl (cI, 3, .inl f101))] := hD
  refine lv_if_eq (tgt := 30) hx hb dX12_told_25 (by decide) (fun c9 => absurd c9 (by decide)) (fun _ => ?_)
  refine lv_iconst (v := 0) hx hb dX12_told_28 (by decide) ?_
  have hP9 := hP.sub (ws' := [(a0, .inr (11, [.int 1, .ref a1, v1, v2, v3, v4, v5, v6, v7, v8, v9, v10, v11, v12, v13, v14, v15, v16, v17, v18, v19, v20, v21, v22, v23, v24, v25, v26, v27, v28, v29, v30, v31, v32, v33, v34, v35, v36, v37, v38, v39, v40, v41, v42, v43, v44, v45, v46, v47, v48, v49, v50, v51, v52, v53, v54, v55, v56, v57, v58, v59, v60]))]) [0] rfl
  have hD9 := hD.sub (ws' := [(a0, .inr (11, [.int 1, .ref a1, v1, v2, v3, v4, v5, v6, v7, v8, v9, v10, v11, v12, v13, v14, v15, v16, v17, v18, v19, v20, v21, v22, v23, v24, v25, v26, v27, v28, v29, v30, v31, v32, v33, v34, v35, v36, v37, v38, v39, v40, v41, v42, v43, v44, v45, v46, v47, v48, v49, v50, v51, v52, v53, v54, v55, v56, v57, v58, v59, v60]))]) [0] (by decide) rfl
  exact W.iret (v := 0) hx hb hr (fun t ht hW => ⟨⟨0, (), rfl, rfl, by rw [ht]; exact hP9, hD9⟩, hS.F ht⟩) hS.2.2 dX12_told_29
set_option maxHeartbeats 4000000 in
set_option maxRecDepth 100000 in
theorem c_X11_needArgument_2 (l : Launch) (D : va_G) (cI cB cJ cS : ClassId) (sz : Nat) (a0 : Nat) (v0 : Value) (v1 : Value) (v2 : Value) (v3 : Value) (v4 : Value) (v5 : Value) (v6 : Value) (v7 : Value) (v8 : Value) (v9 : Value) (v10 : Value) (v11 : Value) (v12 : Value) (v13 : Value) (v14 : Value) (v15 : Value) (v16 : Value) (v17 : Value)  : Met l yX11_needArgument (.code yX11_needArgument cX11_needArgument 2 none :: nm_big) ({ frames := 0, cells := 0, slots := 0, locals := 0 }) (nm_P D cI cB cJ cS [.ref a0, .int 1] sz [(a0, .inr (10, [v0, v1, v2, v3, v4, v5, v6, v7, v8, v9, v10, v11, v12, v13, v14, v15, v16, v17]))]) ((fun A : Nat → Prop => va_Qv (S := Unit) (fun (z : Unit) => True) (nm_B D (fun (z : Unit) => [(a0, .inr (10, [v0, v1, v2, v3, v4, v5, v6, v7, v8, v9, v10, v11, v12, v13, v14, v15, v16, v17]))]) A) A) (va_A [(a0, .inr (10, [v0, v1, v2, v3, v4, v5, v6, v7, v8, v9, v10, v11, v12, v13, v14, v15, v16, v17]))] sz)) 0 0 (va_A [(a0, .inr (10, [v0, v1, v2, v3, v4, v5, v6, v7, v8, v9, v10, v11, v12, v13, v14, v15, v16, v17]))] sz) := by
  refine nm_Met (Qc := fun A => va_Qv (S := Unit) (fun (z : Unit) => True) (nm_B D (fun (z : Unit) => [(a0, .inr (10, [v0, v1, v2, v3, v4, v5, v6, v7, v8, v9, v10, v11, v12, v13, v14, v15, v16, v17]))]) A) A) ?_ ?_ ?_
  · decide +kernel
  · exact Nat.le_of_ble_eq_true rfl
  intro p e s m below meth c A ls hx hb hr hml hts hown hlocks hin hM hP hD hS hA hl
  have hl : lv_has ls 2 [(0, .ref a0), (1, .int 1)] := hl
  have hown : s.vm.findClass RX11 = some m.cls := hown
  refine lv_iload_n hx hb dX11_needArgument_0 rfl (lv_at hl 1 rfl) ?_
  refine lv_if_ne (tgt := 25) hx hb dX11_needArgument_1 (by decide) (fun _ => ?_) (fun c9 => absurd c9 (by decide))
  have hP9 := hP.sub (ws' := [(a0, .inr (10, [v0, v1, v2, v3, v4, v5, v6, v7, v8, v9, v10, v11, v12, v13, v14, v15, v16, v17]))]) [0] rfl
  have hD9 := hD.sub (ws' := [(a0, .inr (10, [v0, v1, v2, v3, v4, v5, v6, v7, v8, v9, v10, v11, v12, v13, v14, v15, v16, v17]))]) [0] (by decide) rfl
  exact W.vret hx hb hr (fun t ht hW => ⟨⟨(), rfl, trivial, by rw [ht]; exact hP9, hD9⟩, hS.F ht⟩) hS.2.2 dX11_needArgument_25
set_option maxHeartbeats 4000000 in
set_option maxRecDepth 100000 in
theorem c_X11_now_1 (l : Launch) (D : va_G) (cI cB cJ cS : ClassId) (sz : Nat) (a0 : Nat) (a1 : Nat) (v0 : Value) (v1 : Value) (v2 : Value) (v3 : Value) (v4 : Value) (v5 : Value) (v6 : Value) (v7 : Value) (v8 : Value) (v9 : Value) (v10 : Value) (v11 : Value) (v12 : Value) (v13 : Value) (v14 : Value) (v15 : Value) (f16 : Nat → Option Nat) (b0 : Nat) (ef16_0 : f16 0 = some b0) : Met l yX11_now (.code yX11_now cX11_now 1 (some (.object "NameMangler$State")) :: nm_big) ({ frames := 0, cells := 0, slots := 0, locals := 0 }) (nm_P D cI cB cJ cS [.ref a0] sz [(a0, .inr (10, [v0, .ref a1, .int 0, v1, v2, v3, v4, v5, v6, v7, v8, v9, v10, v11, v12, v13, v14, v15])), (a1, .inl (cS, 10, .inr (.inr (.inr (.inr f16)))))]) ((fun A : Nat → Prop => va_Qr (S := Unit) (fun (z : Unit) => f16 0 = some b0) (nm_Br D (fun (z : Unit) => b0) (fun (z : Unit) => [(a0, .inr (10, [v0, .ref a1, .int 0, v1, v2, v3, v4, v5, v6, v7, v8, v9, v10, v11, v12, v13, v14, v15])), (a1, .inl (cS, 10, .inr (.inr (.inr (.inr f16)))))]) A) A) (va_A [(a0, .inr (10, [v0, .ref a1, .int 0, v1, v2, v3, v4, v5, v6, v7, v8, v9, v10, v11, v12, v13, v14, v15])), (a1, .inl (cS, 10, .inr (.inr (.inr (.inr f16)))))] sz)) 0 0 (va_A [(a0, .inr (10, [v0, .ref a1, .int 0, v1, v2, v3, v4, v5, v6, v7, v8, v9, v10, v11, v12, v13, v14, v15])), (a1, .inl (cS, 10, .inr (.inr (.inr (.inr f16)))))] sz) := by
  refine nm_Met (Qc := fun A => va_Qr (S := Unit) (fun (z : Unit) => f16 0 = some b0) (nm_Br D (fun (z : Unit) => b0) (fun (z : Unit) => [(a0, .inr (10, [v0, .ref a1, .int 0, v1, v2, v3, v4, v5, v6, v7, v8, v9, v10, v11, v12, v13, v14, v15])), (a1, .inl (cS, 10, .inr (.inr (.inr (.inr f16)))))]) A) A) ?_ ?_ ?_
  · decide +kernel
  · exact Nat.le_of_ble_eq_true rfl
  intro p e s m below meth c A ls hx hb hr hml hts hown hlocks hin hM hP hD hS hA hl
  have hl : lv_has ls 1 [(0, .ref a0)] := hl
  have hown : s.vm.findClass RX11 = some m.cls := hown
  refine lv_aload_n hx hb dX11_now_0 rfl (lv_at hl 0 rfl) ?_
  refine va_get (D := D) (ci := 10) (v := .ref a1) (C := RX11) (T := TX11) (N := 18) hx hb hts iw_X11 hown hM.1 hP 0 rfl rfl 1 (by decide) (hts _ q_382) (fun _ h9 => h9) rfl dX11_now_1 ?_
  refine lv_aload_n hx hb dX11_now_4 rfl (lv_at hl 0 rfl) ?_
  refine va_get (D := D) (ci := 10) (v := .int 0) (C := RX11) (T := TX11) (N := 18) hx hb hts iw_X11 hown hM.1 hP 0 rfl rfl 2 (by decide) (hts _ q_383) (fun _ h9 => h9) rfl dX11_now_5 ?_
  refine va_aldq hx hb hM.1 hP 1 3 rfl rfl (nm_vin (by decide)) dX11_now_8 ?_
  rw [show f16 (Int32.toNatClampNeg 0) = some b0 from ef16_0]
  have hP9 := hP.sub (ws' := [(a0, .inr (10, [v0, .ref a1, .int 0, v1, v2, v3, v4, v5, v6, v7, v8, v9, v10, v11, v12, v13, v14, v15])), (a1, .inl (cS, 10, .inr (.inr (.inr (.inr f16)))))]) [0, 1] rfl
  have hD9 := hD.sub (ws' := [(a0, .inr (10, [v0, .ref a1, .int 0, v1, v2, v3, v4, v5, v6, v7, v8, v9, v10, v11, v12, v13, v14, v15])), (a1, .inl (cS, 10, .inr (.inr (.inr (.inr f16)))))]) [0, 1] (by decide) rfl
  exact W.aret (v := .ref b0) hx hb hr (by first | exact Or.inl ⟨_, rfl⟩ | exact Or.inr ⟨_, rfl⟩) (Or.inr ⟨_, rfl⟩) (fun t ht hW => ⟨⟨(), b0, rfl, ef16_0, rfl, by rw [ht]; exact hP9, hD9⟩, hS.F ht⟩) hS.2.2 dX11_now_9
set_option maxHeartbeats 4000000 in
set_option maxRecDepth 100000 in
theorem c_X11_told_2 (l : Launch) (D : va_G) (cI cB cJ cS : ClassId) (sz : Nat) (a0 : Nat) (a1 : Nat) (a2 : Nat) (v0 : Value) (v1 : Value) (v2 : Value) (v3 : Value) (v4 : Value) (v5 : Value) (v6 : Value) (v7 : Value) (v8 : Value) (v9 : Value) (v10 : Value) (v11 : Value) (v12 : Value) (v13 : Value) (v14 : Value) (v15 : Value) (f16 : Nat → Option Nat) (v17 : Value) (v18 : Value) (ef16_0 : f16 0 = some a2) : Met l yX11_told (.code yX11_told cX11_told 2 (some .int) :: nm_big) ({ frames := 1, cells := 0, slots := 0, locals := 21 }) (nm_P D cI cB cJ cS [.ref a0, .int 0] sz [(a0, .inr (10, [v0, .ref a1, .int 0, v1, v2, v3, v4, v5, v6, v7, v8, v9, v10, v11, v12, v13, v14, v15])), (a1, .inl (cS, 10, .inr (.inr (.inr (.inr f16))))), (a2, .inr (4, [v17, v18, .int 0]))]) ((fun A : Nat → Prop => va_Qi (S := Unit) (fun (r : Int32) => (fun (z : Unit) => r = 0)) (nm_B D (fun (z : Unit) => []) A) A) (va_A [(a0, .inr (10, [v0, .ref a1, .int 0, v1, v2, v3, v4, v5, v6, v7, v8, v9, v10, v11, v12, v13, v14, v15])), (a1, .inl (cS, 10, .inr (.inr (.inr (.inr f16))))), (a2, .inr (4, [v17, v18, .int 0]))] sz)) 0 0 (va_A [(a0, .inr (10, [v0, .ref a1, .int 0, v1, v2, v3, v4, v5, v6, v7, v8, v9, v10, v11, v12, v13, v14, v15])), (a1, .inl (cS, 10, .inr (.inr (.inr (.inr f16))))), (a2, .inr (4, [v17, v18, .int 0]))] sz) := by
  refine nm_Met (Qc := fun A => va_Qi (S := Unit) (fun (r : Int32) => (fun (z : Unit) => r = 0)) (nm_B D (fun (z : Unit) => []) A) A) ?_ ?_ ?_
  · decide +kernel
  · exact Nat.le_of_ble_eq_true rfl
  intro p e s m below meth c A ls hx hb hr hml hts hown hlocks hin hM hP hD hS hA hl
  have hl : lv_has ls 2 [(0, .ref a0), (1, .int 0)] := hl
  have hown : s.vm.findClass RX11 = some m.cls := hown
  refine lv_aload_n hx hb dX11_told_0 rfl (lv_at hl 0 rfl) ?_
  refine lv_iload_n hx hb dX11_told_1 rfl (lv_at hl 1 rfl) ?_
  refine lv_if_lt (tgt := 14) hx hb dX11_told_2 (by decide) (fun c9 => absurd c9 (by decide)) (fun _ => ?_)
  refine lv_iload_n hx hb dX11_told_5 rfl (lv_at hl 1 rfl) ?_
  refine lv_iconst (v := 2) hx hb dX11_told_6 (by decide) ?_
  refine lv_icmp_gt (tgt := 14) hx hb dX11_told_7 (by decide) (fun c9 => absurd c9 (by decide)) (fun _ => ?_)
  refine lv_iconst (v := 1) hx hb dX11_told_10 (by decide) ?_
  refine lv_goto (tgt := 15) hx hb dX11_told_11 (by decide) ?_
  refine nm_callv (Z := Unit) (wr := [(a1, .inl (cS, 10, .inr (.inr (.inr (.inr f16))))), (a2, .inr (4, [v17, v18, .int 0]))]) (k := 0) (n := 0) (va_runV (As := [.int 1]) (rest := []) ⟨hx, hb, hml, hown, hts⟩ (c_X11_needArgument_2 l D cI cB cJ cS s.heap.size a0 v0 (.ref a1) (.int 0) v1 v2 v3 v4 v5 v6 v7 v8 v9 v10 v11 v12 v13 v14 v15) (cwV 1 hts (nm_gV q_503 q_505 qs_1 q_1 q_506) rfl rfl rfl (by decide +kernel) ⟨(Nat.le_of_ble_eq_true rfl), (Nat.le_of_ble_eq_true rfl)⟩) (nm_preV (q := (RX11, TX11, 18)) (hP.sub [0] rfl) (hD.sub [0] (by decide) rfl) hM 0 rfl rfl) rfl rfl hl.1 rfl (lv_room (Nat.le_of_ble_eq_true rfl)) dX11_told_15 ⟨(Nat.le_of_ble_eq_true rfl), (Nat.le_of_ble_eq_true rfl)⟩) hP hD hS hA [0] [1, 2] rfl rfl (by decide) (by decide) (Nat.le_of_ble_eq_true rfl) (Nat.le_of_ble_eq_true rfl) (fun u H locs hw hP hD hS => ?_)
  have hP : va_P D nm_cl [(a1, .inl (cS, 10, .inr (.inr (.inr (.inr f16))))), (a2, .inr (4, [v17, v18, .int 0])), (a0, .inr (10, [v0, .ref a1, .int 0, v1, v2, v3, v4, v5, v6, v7, v8, v9, v10, v11, v12, v13, v14, v15]))] H := hP
  have hD : va_D A [(a1, .inl (cS, 10, .inr (.inr (.inr (.inr f16))))), (a2, .inr (4, [v17, v18, .int 0])), (a0, .inr (10, [v0, .ref a1, .int 0, v1, v2, v3, v4, v5, v6, v7, v8, v9, v10, v11, v12, v13, v14, v15]))] := hD
  refine lv_iload_n hx hb dX11_told_18 rfl (lv_at hl 1 rfl) ?_
  refine lv_if_ne (tgt := 30) hx hb dX11_told_19 (by decide) (fun c9 => absurd (by decide) c9) (fun _ => ?_)
  refine lv_aload_n hx hb dX11_told_22 rfl (lv_at hl 0 rfl) ?_
  refine nm_callr (Z := Unit) (wr := [(a2, .inr (4, [v17, v18, .int 0]))]) (k := 0) (n := 0) (va_runV (As := []) (rest := []) ⟨hx, hb, hml, hown, hts⟩ (c_X11_now_1 l D cI cB cJ cS H.size a0 a1 v0 v1 v2 v3 v4 v5 v6 v7 v8 v9 v10 v11 v12 v13 v14 v15 f16 a2 ef16_0) (cwV 0 hts (nm_gV q_476 q_478 qs_0 q_1 q_479) rfl rfl rfl (by decide +kernel) ⟨(Nat.le_of_ble_eq_true rfl), (Nat.le_of_ble_eq_true rfl)⟩) (nm_preV (q := (RX11, TX11, 18)) (hP.sub [2, 0] rfl) (hD.sub [2, 0] (by decide) rfl) hM 0 rfl rfl) rfl rfl hl.1 rfl (lv_room (Nat.le_of_ble_eq_true rfl)) dX11_told_23 ⟨(Nat.le_of_ble_eq_true rfl), (Nat.le_of_ble_eq_true rfl)⟩) hP hD hS hA [2, 0] [1] rfl rfl (by decide) (by decide) (Nat.le_of_ble_eq_true rfl) (Nat.le_of_ble_eq_true rfl) (fun u H locs hw hP hD hS => ?_)
  have h101 := hw
  have hP : va_P D nm_cl [(a2, .inr (4, [v17, v18, .int 0])), (a0, .inr (10, [v0, .ref a1, .int 0, v1, v2, v3, v4, v5, v6, v7, v8, v9, v10, v11, v12, v13, v14, v15])), (a1, .inl (cS, 10, .inr (.inr (.inr (.inr f16)))))] H := hP
  have hD : va_D A [(a2, .inr (4, [v17, v18, .int 0])), (a0, .inr (10, [v0, .ref a1, .int 0, v1, v2, v3, v4, v5, v6, v7, v8, v9, v10, v11, v12, v13, v14, v15])), (a1, .inl (cS, 10, .inr (.inr (.inr (.inr f16)))))] := hD
  refine va_get (D := D) (ci := 4) (v := .int 0) (C := RX5) (T := TX5) (N := 3) hx hb hts iw_X5 hown hM.1 hP 0 rfl rfl 2 (by decide) (hts _ q_373) (fun _ h9 => h9) rfl dX11_told_26 ?_
  have hP9 := hP.sub (ws' := []) [] rfl
  have hD9 := hD.sub (ws' := []) [] (by decide) rfl
  exact W.iret (v := 0) hx hb hr (fun t ht hW => ⟨⟨0, (), rfl, rfl, by rw [ht]; exact hP9, hD9⟩, hS.F ht⟩) hS.2.2 dX11_told_29
set_option maxHeartbeats 4000000 in
set_option maxRecDepth 100000 in
theorem c_L_told_2 (l : Launch) (hl0 : l.stackTraces = false) (D : va_G) (cI cB cJ cS : ClassId) (sz : Nat) (a0 : Nat) (a1 : Nat) (a2 : Nat) (a3 : Nat) (v0 : Value) (v1 : Value) (v2 : Value) (v3 : Value) (v4 : Value) (v5 : Value) (v6 : Value) (v7 : Value) (v8 : Value) (v9 : Value) (v10 : Value) (v11 : Value) (v12 : Value) (v13 : Value) (v14 : Value) (v15 : Value) (f16 : Nat → Option Nat) (v17 : Value) (v18 : Value) (f19 : Nat → Int64) (ef16_0 : f16 0 = some a2) : vx_Met l yL_told (.codeWith yL_told cL_told 4 (some .int) [(0, 9, 12, 13)] :: nm_big) ({ frames := 2, cells := 0, slots := 0, locals := 42 }) (nm_PX D cI cB cJ cS [.ref a0, .int 0, .ref a3] sz [(a0, .inr (10, [v0, .ref a1, .int 0, v1, v2, v3, v4, v5, v6, v7, v8, v9, v10, v11, v12, v13, v14, v15])), (a1, .inl (cS, 10, .inr (.inr (.inr (.inr f16))))), (a2, .inr (4, [v17, v18, .int 0])), (a3, .inl (cJ, 1, .inr (.inl f19)))]) ((fun A : Nat → Prop => va_Qi (S := (Nat → Int64)) (fun (r : Int32) => (fun (f101 : (Nat → Int64)) => r = 0 ∧ f101 0 = 0)) (nm_B D (fun (f101 : (Nat → Int64)) => [(a3, .inl (cJ, 1, .inr (.inl f101)))]) A) A) (va_A [(a0, .inr (10, [v0, .ref a1, .int 0, v1, v2, v3, v4, v5, v6, v7, v8, v9, v10, v11, v12, v13, v14, v15])), (a1, .inl (cS, 10, .inr (.inr (.inr (.inr f16))))), (a2, .inr (4, [v17, v18, .int 0])), (a3, .inl (cJ, 1, .inr (.inl f19)))] sz)) ((fun A : Nat → Prop => nm_X0 A) (va_A [(a0, .inr (10, [v0, .ref a1, .int 0, v1, v2, v3, v4, v5, v6, v7, v8, v9, v10, v11, v12, v13, v14, v15])), (a1, .inl (cS, 10, .inr (.inr (.inr (.inr f16))))), (a2, .inr (4, [v17, v18, .int 0])), (a3, .inl (cJ, 1, .inr (.inl f19)))] sz)) 0 0 (va_A [(a0, .inr (10, [v0, .ref a1, .int 0, v1, v2, v3, v4, v5, v6, v7, v8, v9, v10, v11, v12, v13, v14, v15])), (a1, .inl (cS, 10, .inr (.inr (.inr (.inr f16))))), (a2, .inr (4, [v17, v18, .int 0])), (a3, .inl (cJ, 1, .inr (.inl f19)))] sz) := by
  refine nm_MetW (Qc := fun A => va_Qi (S := (Nat → Int64)) (fun (r : Int32) => (fun (f101 : (Nat → Int64)) => r = 0 ∧ f101 0 = 0)) (nm_B D (fun (f101 : (Nat → Int64)) => [(a3, .inl (cJ, 1, .inr (.inl f101)))]) A) A) (XC := fun A => nm_X0 A) ?_ ?_ ?_
  · decide +kernel
  · exact Nat.le_of_ble_eq_true rfl
  intro p e s m below meth c A ls hx hb hr hml hts hown hlocks htab hM hTh hP hD hS hA hl
  have hl : lv_has ls 4 [(0, .ref a0), (1, .int 0), (2, .ref a3)] := hl
  have hown : s.vm.findClass RL = some m.cls := hown
  refine lv_aload_n hx hb dL_told_0 rfl (lv_at hl 2 rfl) ?_
  refine lv_iconst (v := 0) hx hb dL_told_1 (by decide) ?_
  refine lv_aload_n hx hb dL_told_2 rfl (lv_at hl 0 rfl) ?_
  refine lv_iload_n hx hb dL_told_3 rfl (lv_at hl 1 rfl) ?_
  refine nm_calli (Z := Unit) (wr := [(a3, .inl (cJ, 1, .inr (.inl f19)))]) (k := 0) (n := 0) (va_runV (As := [.int 0]) (rest := [.int 0, .ref a3]) ⟨hx, hb, hml, hown, hts⟩ (c_X11_told_2 l D cI cB cJ cS s.heap.size a0 a1 a2 v0 v1 v2 v3 v4 v5 v6 v7 v8 v9 v10 v11 v12 v13 v14 v15 f16 v17 v18 ef16_0) (cwV 1 hts (nm_gV q_1293 q_1294 q_1295 q_1 q_1296) rfl rfl rfl (by decide +kernel) ⟨(Nat.le_of_ble_eq_true rfl), (Nat.le_of_ble_eq_true rfl)⟩) (nm_preV (q := (RX11, TX11, 18)) (hP.sub [0, 1, 2] rfl) (hD.sub [0, 1, 2] (by decide) rfl) hM 0 rfl rfl) rfl rfl hl.1 rfl (lv_room (Nat.le_of_ble_eq_true rfl)) dL_told_4 ⟨(Nat.le_of_ble_eq_true rfl), (Nat.le_of_ble_eq_true rfl)⟩) hP hD hS hA [0, 1, 2] [3] rfl rfl (by decide) (by decide) (Nat.le_of_ble_eq_true rfl) (Nat.le_of_ble_eq_true rfl) (fun r9 u H locs hw hP hD hS => ?_)
  obtain rfl : r9 = (0 : Int32) := hw
  have hP : va_P D nm_cl [(a3, .inl (cJ, 1, .inr (.inl f19)))] H := hP
  have hD : va_D A [(a3, .inl (cJ, 1, .inr (.inl f19)))] := hD
  refine lv_i2l (v := 0) hx hb dL_told_7 (by decide) ?_
  refine va_last hx hb hM.1 hP hD hS 0 2 rfl rfl (nm_vin (by decide)) dL_told_8 (fun H locs hP hD hS => ?_)
  have hP : va_P D nm_cl [(a3, .inl (cJ, 1, .inr (.inl (vp_updL f19 (Int32.toNatClampNeg 0) 0))))] H := hP
  have hD : va_D A [(a3, .inl (cJ, 1, .inr (.inl (vp_updL f19 (Int32.toNatClampNeg 0) 0))))] := hD
  obtain ⟨f101, hf9⟩ : ∃ g : Nat → Int64, g = (vp_updL f19 (Int32.toNatClampNeg 0) 0) := ⟨_, rfl⟩
  rw [← hf9] at hP hD
  have ef101 : f101 0 = 0 := by rw [hf9]; rfl
  refine lv_goto (tgt := 15) hx hb dL_told_9 (by decide) ?_
  refine lv_iconst (v := 0) hx hb dL_told_15 (by decide) ?_
  have hP9 := hP.sub (ws' := [(a3, .inl (cJ, 1, .inr (.inl f101)))]) [0] rfl
  have hD9 := hD.sub (ws' := [(a3, .inl (cJ, 1, .inr (.inl f101)))]) [0] (by decide) rfl
  exact vx_ret (W.iret (v := 0) hx hb hr (fun t ht hW => ⟨⟨0, f101, rfl, ⟨rfl, ef101⟩, by rw [ht]; exact hP9, hD9⟩, hS.F ht⟩) hS.2.2 dL_told_16)
set_option maxHeartbeats 4000000 in
set_option maxRecDepth 100000 in
theorem c_X12_in_2 (l : Launch) (D : va_G) (cI cB cJ cS : ClassId) (sz : Nat)   : Met l yX12_in (.code yX12_in cX12_in 3 (some .boolean) :: nm_big) ({ frames := 0, cells := 0, slots := 0, locals := 0 }) (nm_P D cI cB cJ cS [.int 0, .int 0, .int 2] sz []) ((fun A : Nat → Prop => va_Qi (S := Unit) (fun (r : Int32) => (fun (z : Unit) => r = 1)) (nm_B D (fun (z : Unit) => []) A) A) (va_A [] sz)) 0 0 (va_A [] sz) := by
  refine nm_Met (Qc := fun A => va_Qi (S := Unit) (fun (r : Int32) => (fun (z : Unit) => r = 1)) (nm_B D (fun (z : Unit) => []) A) A) ?_ ?_ ?_
  · decide +kernel
  · exact Nat.le_of_ble_eq_true rfl
  intro p e s m below meth c A ls hx hb hr hml hts hown hlocks hin hM hP hD hS hA hl
  have hl : lv_has ls 3 [(0, .int 0), (1, .int 0), (2, .int 2)] := hl
  have hown : s.vm.findClass RX12 = some m.cls := hown
  refine lv_iload_n hx hb dX12_in_0 rfl (lv_at hl 0 rfl) ?_
  refine lv_iload_n hx hb dX12_in_1 rfl (lv_at hl 1 rfl) ?_
  refine lv_icmp_lt (tgt := 14) hx hb dX12_in_2 (by decide) (fun c9 => absurd c9 (by decide)) (fun _ => ?_)
  refine lv_iload_n hx hb dX12_in_5 rfl (lv_at hl 0 rfl) ?_
  refine lv_iload_n hx hb dX12_in_6 rfl (lv_at hl 2 rfl) ?_
  refine lv_icmp_gt (tgt := 14) hx hb dX12_in_7 (by decide) (fun c9 => absurd c9 (by decide)) (fun _ => ?_)
  refine lv_iconst (v := 1) hx hb dX12_in_10 (by decide) ?_
  refine lv_goto (tgt := 15) hx hb dX12_in_11 (by decide) ?_
  have hP9 := hP.sub (ws' := []) [] rfl
  have hD9 := hD.sub (ws' := []) [] (by decide) rfl
  exact W.zret (v := 1) hx hb hr (by decide) (fun t ht hW => ⟨⟨1, (), rfl, rfl, by rw [ht]; exact hP9, hD9⟩, hS.F ht⟩) hS.2.2 dX12_in_15
set_option maxHeartbeats 4000000 in
set_option maxRecDepth 100000 in
theorem c_X12_bad_2 (l : Launch) (D : va_G) (cI cB cJ cS : ClassId) (sz : Nat) (a0 : Nat) (v0 : Value) (v1 : Value) (v2 : Value) (v3 : Value) (v4 : Value) (v5 : Value) (v6 : Value) (v7 : Value) (v8 : Value) (v9 : Value) (v10 : Value) (v11 : Value) (v12 : Value) (v13 : Value) (v14 : Value) (v15 : Value) (v16 : Value) (v17 : Value) (v18 : Value) (v19 : Value) (v20 : Value) (v21 : Value) (v22 : Value) (v23 : Value) (v24 : Value) (v25 : Value) (v26 : Value) (v27 : Value) (v28 : Value) (v29 : Value) (v30 : Value) (v31 : Value) (v32 : Value) (v33 : Value) (v34 : Value) (v35 : Value) (v36 : Value) (v37 : Value) (v38 : Value) (v39 : Value) (v40 : Value) (v41 : Value) (v42 : Value) (v43 : Value) (v44 : Value) (v45 : Value) (v46 : Value) (v47 : Value) (v48 : Value) (v49 : Value) (v50 : Value) (v51 : Value) (v52 : Value) (v53 : Value) (v54 : Value) (v55 : Value) (v56 : Value) (v57 : Value) (v58 : Value) (v59 : Value) (v60 : Value)  : Met l yX12_bad (.code yX12_bad cX12_bad 4 (some .boolean) :: nm_big) ({ frames := 0, cells := 0, slots := 0, locals := 0 }) (nm_P D cI cB cJ cS [.ref a0, .int 0, .int 1, .int 1] sz [(a0, .inr (11, [.int 0, v0, v1, v2, v3, v4, v5, v6, v7, v8, v9, v10, v11, v12, v13, v14, v15, v16, v17, v18, v19, v20, v21, v22, v23, v24, v25, v26, v27, v28, v29, v30, v31, v32, v33, v34, v35, v36, v37, v38, v39, v40, v41, v42, v43, v44, v45, v46, v47, v48, v49, v50, v51, v52, v53, v54, v55, v56, v57, v58, v59, v60]))]) ((fun A : Nat → Prop => va_Qi (S := Unit) (fun (r : Int32) => (fun (z : Unit) => r = 0)) (nm_B D (fun (z : Unit) => [(a0, .inr (11, [.int 0, v0, v1, v2, v3, v4, v5, v6, v7, v8, v9, v10, v11, v12, v13, v14, v15, v16, v17, v18, v19, v20, v21, v22, v23, v24, v25, v26, v27, v28, v29, v30, v31, v32, v33, v34, v35, v36, v37, v38, v39, v40, v41, v42, v43, v44, v45, v46, v47, v48, v49, v50, v51, v52, v53, v54, v55, v56, v57, v58, v59, v60]))]) A) A) (va_A [(a0, .inr (11, [.int 0, v0, v1, v2, v3, v4, v5, v6, v7, v8, v9, v10, v11, v12, v13, v14, v15, v16, v17, v18, v19, v20, v21, v22, v23, v24, v25, v26, v27, v28, v29, v30, v31, v32, v33, v34, v35, v36, v37, v38, v39, v40, v41, v42, v43, v44, v45, v46, v47, v48, v49, v50, v51, v52, v53, v54, v55, v56, v57, v58, v59, v60]))] sz)) 0 0 (va_A [(a0, .inr (11, [.int 0, v0, v1, v2, v3, v4, v5, v6, v7, v8, v9, v10, v11, v12, v13, v14, v15, v16, v17, v18, v19, v20, v21, v22, v23, v24, v25, v26, v27, v28, v29, v30, v31, v32, v33, v34, v35, v36, v37, v38, v39, v40, v41, v42, v43, v44, v45, v46, v47, v48, v49, v50, v51, v52, v53, v54, v55, v56, v57, v58, v59, v60]))] sz) := by
  refine nm_Met (Qc := fun A => va_Qi (S := Unit) (fun (r : Int32) => (fun (z : Unit) => r = 0)) (nm_B D (fun (z : Unit) => [(a0, .inr (11, [.int 0, v0, v1, v2, v3, v4, v5, v6, v7, v8, v9, v10, v11, v12, v13, v14, v15, v16, v17, v18, v19, v20, v21, v22, v23, v24, v25, v26, v27, v28, v29, v30, v31, v32, v33, v34, v35, v36, v37, v38, v39, v40, v41, v42, v43, v44, v45, v46, v47, v48, v49, v50, v51, v52, v53, v54, v55, v56, v57, v58, v59, v60]))]) A) A) ?_ ?_ ?_
  · decide +kernel
  · exact Nat.le_of_ble_eq_true rfl
  intro p e s m below meth c A ls hx hb hr hml hts hown hlocks hin hM hP hD hS hA hl
  have hl : lv_has ls 4 [(0, .ref a0), (1, .int 0), (2, .int 1), (3, .int 1)] := hl
  have hown : s.vm.findClass RX12 = some m.cls := hown
  refine lv_iload_n hx hb dX12_bad_0 rfl (lv_at hl 1 rfl) ?_
  refine lv_if_eq (tgt := 26) hx hb dX12_bad_1 (by decide) (fun _ => ?_) (fun c9 => absurd (by decide) c9)
  refine lv_aload_n hx hb dX12_bad_26 rfl (lv_at hl 0 rfl) ?_
  refine va_get (D := D) (ci := 11) (v := .int 0) (C := RX12) (T := TX12) (N := 62) hx hb hts iw_X12 hown hM.1 hP 0 rfl rfl 0 (by decide) (hts _ q_1495) (fun _ h9 => h9) rfl dX12_bad_27 ?_
  refine lv_if_eq (tgt := 37) hx hb dX12_bad_30 (by decide) (fun _ => ?_) (fun c9 => absurd (by decide) c9)
  refine lv_iconst (v := 0) hx hb dX12_bad_37 (by decide) ?_
  have hP9 := hP.sub (ws' := [(a0, .inr (11, [.int 0, v0, v1, v2, v3, v4, v5, v6, v7, v8, v9, v10, v11, v12, v13, v14, v15, v16, v17, v18, v19, v20, v21, v22, v23, v24, v25, v26, v27, v28, v29, v30, v31, v32, v33, v34, v35, v36, v37, v38, v39, v40, v41, v42, v43, v44, v45, v46, v47, v48, v49, v50, v51, v52, v53, v54, v55, v56, v57, v58, v59, v60]))]) [0] rfl
  have hD9 := hD.sub (ws' := [(a0, .inr (11, [.int 0, v0, v1, v2, v3, v4, v5, v6, v7, v8, v9, v10, v11, v12, v13, v14, v15, v16, v17, v18, v19, v20, v21, v22, v23, v24, v25, v26, v27, v28, v29, v30, v31, v32, v33, v34, v35, v36, v37, v38, v39, v40, v41, v42, v43, v44, v45, v46, v47, v48, v49, v50, v51, v52, v53, v54, v55, v56, v57, v58, v59, v60]))]) [0] (by decide) rfl
  exact W.zret (v := 0) hx hb hr (by decide) (fun t ht hW => ⟨⟨0, (), rfl, rfl, by rw [ht]; exact hP9, hD9⟩, hS.F ht⟩) hS.2.2 dX12_bad_38
set_option maxHeartbeats 4000000 in
set_option maxRecDepth 100000 in
theorem c_X12_told_2 (l : Launch) (D : va_G) (cI cB cJ cS : ClassId) (sz : Nat) (a0 : Nat) (v0 : Value) (v1 : Value) (v2 : Value) (v3 : Value) (v4 : Value) (v5 : Value) (v6 : Value) (v7 : Value) (v8 : Value) (v9 : Value) (v10 : Value) (v11 : Value) (v12 : Value) (v13 : Value) (v14 : Value) (v15 : Value) (v16 : Value) (v17 : Value) (v18 : Value) (v19 : Value) (v20 : Value) (v21 : Value) (v22 : Value) (v23 : Value) (v24 : Value) (v25 : Value) (v26 : Value) (v27 : Value) (v28 : Value) (v29 : Value) (v30 : Value) (v31 : Value) (v32 : Value) (v33 : Value) (v34 : Value) (v35 : Value) (v36 : Value) (v37 : Value) (v38 : Value) (v39 : Value) (v40 : Value) (v41 : Value) (v42 : Value) (v43 : Value) (v44 : Value) (v45 : Value) (v46 : Value) (v47 : Value) (v48 : Value) (v49 : Value) (v50 : Value) (v51 : Value) (v52 : Value) (v53 : Value) (v54 : Value) (v55 : Value) (v56 : Value) (v57 : Value) (v58 : Value) (v59 : Value) (v60 : Value)  : Met l yX12_told (.code yX12_told cX12_told 2 (some .int) :: nm_big) ({ frames := 1, cells := 0, slots := 0, locals := 23 }) (nm_P D cI cB cJ cS [.ref a0, .int 0] sz [(a0, .inr (11, [v0, v1, v2, v3, v4, v5, v6, .int 0, v7, v8, v9, v10, v11, v12, v13, v14, v15, v16, v17, v18, v19, v20, v21, v22, v23, v24, v25, v26, v27, v28, v29, v30, v31, v32, v33, v34, v35, v36, v37, v38, v39, v40, v41, v42, v43, v44, v45, v46, v47, v48, v49, v50, v51, v52, v53, v54, v55, v56, v57, v58, v59, v60]))]) ((fun A : Nat → Prop => va_Qi (S := Unit) (fun (r : Int32) => (fun (z : Unit) => r = 0)) (nm_B D (fun (z : Unit) => [(a0, .inr (11, [.int 0, v1, v2, v3, v4, v5, v6, .int 0, v7, v8, v9, v10, v11, v12, v13, v14, v15, v16, v17, v18, v19, v20, v21, v22, v23, v24, v25, v26, v27, v28, v29, v30, v31, v32, v33, v34, v35, v36, v37, v38, v39, v40, v41, v42, v43, v44, v45, v46, v47, v48, v49, v50, v51, v52, v53, v54, v55, v56, v57, v58, v59, v60]))]) A) A) (va_A [(a0, .inr (11, [v0, v1, v2, v3, v4, v5, v6, .int 0, v7, v8, v9, v10, v11, v12, v13, v14, v15, v16, v17, v18, v19, v20, v21, v22, v23, v24, v25, v26, v27, v28, v29, v30, v31, v32, v33, v34, v35, v36, v37, v38, v39, v40, v41, v42, v43, v44, v45, v46, v47, v48, v49, v50, v51, v52, v53, v54, v55, v56, v57, v58, v59, v60]))] sz)) 0 0 (va_A [(a0, .inr (11, [v0, v1, v2, v3, v4, v5, v6, .int 0, v7, v8, v9, v10, v11, v12, v13, v14, v15, v16, v17, v18, v19, v20, v21, v22, v23, v24, v25, v26, v27, v28, v29, v30, v31, v32, v33, v34, v35, v36, v37, v38, v39, v40, v41, v42, v43, v44, v45, v46, v47, v48, v49, v50, v51, v52, v53, v54, v55, v56, v57, v58, v59, v60]))] sz) := by
  refine nm_Met (Qc := fun A => va_Qi (S := Unit) (fun (r : Int32) => (fun (z : Unit) => r = 0)) (nm_B D (fun (z : Unit) => [(a0, .inr (11, [.int 0, v1, v2, v3, v4, v5, v6, .int 0, v7, v8, v9, v10, v11, v12, v13, v14, v15, v16, v17, v18, v19, v20, v21, v22, v23, v24, v25, v26, v27, v28, v29, v30, v31, v32, v33, v34, v35, v36, v37, v38, v39, v40, v41, v42, v43, v44, v45, v46, v47, v48, v49, v50, v51, v52, v53, v54, v55, v56, v57, v58, v59, v60]))]) A) A) ?_ ?_ ?_
  · decide +kernel
  · exact Nat.le_of_ble_eq_true rfl
  intro p e s m below meth c A ls hx hb hr hml hts hown hlocks hin hM hP hD hS hA hl
  have hl : lv_has ls 2 [(0, .ref a0), (1, .int 0)] := hl
  have hown : s.vm.findClass RX12 = some m.cls := hown
  refine lv_aload_n hx hb dX12_told_0 rfl (lv_at hl 0 rfl) ?_
  refine lv_iconst (v := 0) hx hb dX12_told_1 (by decide) ?_
  refine va_put (D := D) (ci := 11) (v := .int 0) (ty := .int) (C := RX12) (T := TX12) (N := 62) hx hb hts iw_X12 tyX12 tyX12_ok nmX12 hown hM.1 hP hD hS 0 rfl rfl 0 (by decide) (hts _ q_1495) (fun _ h9 => h9) rfl (by decide +kernel) rfl rfl (Nat.le_of_ble_eq_true rfl) dX12_told_2 (fun H locs hP hD hS => ?_)
  have hP : va_P D nm_cl [(a0, .inr (11, [.int 0, v1, v2, v3, v4, v5, v6, .int 0, v7, v8, v9, v10, v11, v12, v13, v14, v15, v16, v17, v18, v19, v20, v21, v22, v23, v24, v25, v26, v27, v28, v29, v30, v31, v32, v33, v34, v35, v36, v37, v38, v39, v40, v41, v42, v43, v44, v45, v46, v47, v48, v49, v50, v51, v52, v53, v54, v55, v56, v57, v58, v59, v60]))] H := hP
  have hD : va_D A [(a0, .inr (11, [.int 0, v1, v2, v3, v4, v5, v6, .int 0, v7, v8, v9, v10, v11, v12, v13, v14, v15, v16, v17, v18, v19, v20, v21, v22, v23, v24, v25, v26, v27, v28, v29, v30, v31, v32, v33, v34, v35, v36, v37, v38, v39, v40, v41, v42, v43, v44, v45, v46, v47, v48, v49, v50, v51, v52, v53, v54, v55, v56, v57, v58, v59, v60]))] := hD
  refine lv_aload_n hx hb dX12_told_5 rfl (lv_at hl 0 rfl) ?_
  refine lv_iload_n hx hb dX12_told_6 rfl (lv_at hl 1 rfl) ?_
  refine lv_iconst (v := 0) hx hb dX12_told_7 (by decide) ?_
  refine lv_iconst (v := 2) hx hb dX12_told_8 (by decide) ?_
  refine nm_calli (Z := Unit) (wr := [(a0, .inr (11, [.int 0, v1, v2, v3, v4, v5, v6, .int 0, v7, v8, v9, v10, v11, v12, v13, v14, v15, v16, v17, v18, v19, v20, v21, v22, v23, v24, v25, v26, v27, v28, v29, v30, v31, v32, v33, v34, v35, v36, v37, v38, v39, v40, v41, v42, v43, v44, v45, v46, v47, v48, v49, v50, v51, v52, v53, v54, v55, v56, v57, v58, v59, v60]))]) (k := 0) (n := 0) (va_runS (As := [.int 0, .int 0, .int 2]) (rest := [.ref a0]) ⟨hx, hb, hml, hown, hts⟩ (c_X12_in_2 l D cI cB cJ cS H.size) (va_cwS 3 hts (nm_gS q_1703 q_1704 q_13 q_1705) rfl rfl rfl (by decide +kernel) ⟨(Nat.le_of_ble_eq_true rfl), (Nat.le_of_ble_eq_true rfl)⟩) (nm_preS (hP.sub [] rfl) (hD.sub [] (by decide) rfl) hM) rfl rfl hl.1 rfl (lv_room (Nat.le_of_ble_eq_true rfl)) dX12_told_9 ⟨(Nat.le_of_ble_eq_true rfl), (Nat.le_of_ble_eq_true rfl)⟩) hP hD hS hA [] [0] rfl rfl (by decide) (by decide) (Nat.le_of_ble_eq_true rfl) (Nat.le_of_ble_eq_true rfl) (fun r9 u H locs hw hP hD hS => ?_)
  obtain rfl : r9 = (1 : Int32) := hw
  have hP : va_P D nm_cl [(a0, .inr (11, [.int 0, v1, v2, v3, v4, v5, v6, .int 0, v7, v8, v9, v10, v11, v12, v13, v14, v15, v16, v17, v18, v19, v20, v21, v22, v23, v24, v25, v26, v27, v28, v29, v30, v31, v32, v33, v34, v35, v36, v37, v38, v39, v40, v41, v42, v43, v44, v45, v46, v47, v48, v49, v50, v51, v52, v53, v54, v55, v56, v57, v58, v59, v60]))] H := hP
  have hD : va_D A [(a0, .inr (11, [.int 0, v1, v2, v3, v4, v5, v6, .int 0, v7, v8, v9, v10, v11, v12, v13, v14, v15, v16, v17, v18, v19, v20, v21, v22, v23, v24, v25, v26, v27, v28, v29, v30, v31, v32, v33, v34, v35, v36, v37, v38, v39, v40, v41, v42, v43, v44, v45, v46, v47, v48, v49, v50, v51, v52, v53, v54, v55, v56, v57, v58, v59, v60]))] := hD
  refine lv_if_ne (tgt := 19) hx hb dX12_told_12 (by decide) (fun _ => ?_) (fun c9 => absurd c9 (by decide))
  refine lv_iconst (v := 0) hx hb dX12_told_19 (by decide) ?_
  refine lv_iconst (v := 1) hx hb dX12_told_20 (by decide) ?_
  refine lv_iconst (v := 1) hx hb dX12_told_21 (by decide) ?_
  refine nm_calli (Z := Unit) (wr := []) (k := 0) (n := 0) (va_runV (As := [.int 0, .int 1, .int 1]) (rest := []) ⟨hx, hb, hml, hown, hts⟩ (c_X12_bad_2 l D cI cB cJ cS H.size a0 v1 v2 v3 v4 v5 v6 (.int 0) v7 v8 v9 v10 v11 v12 v13 v14 v15 v16 v17 v18 v19 v20 v21 v22 v23 v24 v25 v26 v27 v28 v29 v30 v31 v32 v33 v34 v35 v36 v37 v38 v39 v40 v41 v42 v43 v44 v45 v46 v47 v48 v49 v50 v51 v52 v53 v54 v55 v56 v57 v58 v59 v60) (cwV 3 hts (nm_gV q_1706 q_1708 qs_60 q_13 q_1709) rfl rfl rfl (by decide +kernel) ⟨(Nat.le_of_ble_eq_true rfl), (Nat.le_of_ble_eq_true rfl)⟩) (nm_preV (q := (RX12, TX12, 62)) (hP.sub [0] rfl) (hD.sub [0] (by decide) rfl) hM 0 rfl rfl) rfl rfl hl.1 rfl (lv_room (Nat.le_of_ble_eq_true rfl)) dX12_told_22 ⟨(Nat.le_of_ble_eq_true rfl), (Nat.le_of_ble_eq_true rfl)⟩) hP hD hS hA [0] [] rfl rfl (by decide) (by decide) (Nat.le_of_ble_eq_true rfl) (Nat.le_of_ble_eq_true rfl) (fun r9 u H locs hw hP hD hS => ?_)
  obtain rfl : r9 = (0 : Int32) := hw
  have hP : va_P D nm_cl [(a0, .inr (11, [.int 0, v1, v2, v3, v4, v5, v6, .int 0, v7, v8, v9, v10, v11, v12, v13, v14, v15, v16, v17, v18, v19, v20, v21, v22, v23, v24, v25, v26, v27, v28, v29, v30, v31, v32, v33, v34, v35, v36, v37, v38, v39, v40, v41, v42, v43, v44, v45, v46, v47, v48, v49, v50, v51, v52, v53, v54, v55, v56, v57, v58, v59, v60]))] H := hP
  have hD : va_D A [(a0, .inr (11, [.int 0, v1, v2, v3, v4, v5, v6, .int 0, v7, v8, v9, v10, v11, v12, v13, v14, v15, v16, v17, v18, v19, v20, v21, v22, v23, v24, v25, v26, v27, v28, v29, v30, v31, v32, v33, v34, v35, v36, v37, v38, v39, v40, v41, v42, v43, v44, v45, v46, v47, v48, v49, v50, v51, v52, v53, v54, v55, v56, v57, v58, v59, v60]))] := hD
  refine lv_if_eq (tgt := 30) hx hb dX12_told_25 (by decide) (fun _ => ?_) (fun c9 => absurd (by decide) c9)
  refine lv_iload_n hx hb dX12_told_30 rfl (lv_at hl 1 rfl) ?_
  refine lv_if_ne (tgt := 41) hx hb dX12_told_31 (by decide) (fun c9 => absurd (by decide) c9) (fun _ => ?_)
  refine lv_aload_n hx hb dX12_told_34 rfl (lv_at hl 0 rfl) ?_
  refine va_get (D := D) (ci := 11) (v := .int 0) (C := RX12) (T := TX12) (N := 62) hx hb hts iw_X12 hown hM.1 hP 0 rfl rfl 7 (by decide) (hts _ q_1502) (fun _ h9 => h9) rfl dX12_told_35 ?_
  refine lv_goto (tgt := 57) hx hb dX12_told_38 (by decide) ?_
  have hP9 := hP.sub (ws' := [(a0, .inr (11, [.int 0, v1, v2, v3, v4, v5, v6, .int 0, v7, v8, v9, v10, v11, v12, v13, v14, v15, v16, v17, v18, v19, v20, v21, v22, v23, v24, v25, v26, v27, v28, v29, v30, v31, v32, v33, v34, v35, v36, v37, v38, v39, v40, v41, v42, v43, v44, v45, v46, v47, v48, v49, v50, v51, v52, v53, v54, v55, v56, v57, v58, v59, v60]))]) [0] rfl
  have hD9 := hD.sub (ws' := [(a0, .inr (11, [.int 0, v1, v2, v3, v4, v5, v6, .int 0, v7, v8, v9, v10, v11, v12, v13, v14, v15, v16, v17, v18, v19, v20, v21, v22, v23, v24, v25, v26, v27, v28, v29, v30, v31, v32, v33, v34, v35, v36, v37, v38, v39, v40, v41, v42, v43, v44, v45, v46, v47, v48, v49, v50, v51, v52, v53, v54, v55, v56, v57, v58, v59, v60]))]) [0] (by decide) rfl
  exact W.iret (v := 0) hx hb hr (fun t ht hW => ⟨⟨0, (), rfl, rfl, by rw [ht]; exact hP9, hD9⟩, hS.F ht⟩) hS.2.2 dX12_told_57
set_option maxHeartbeats 4000000 in
set_option maxRecDepth 100000 in
theorem c_X11_told_3 (l : Launch) (D : va_G) (cI cB cJ cS : ClassId) (sz : Nat) (a0 : Nat) (a1 : Nat) (v0 : Value) (v1 : Value) (v2 : Value) (v3 : Value) (v4 : Value) (v5 : Value) (v6 : Value) (v7 : Value) (v8 : Value) (v9 : Value) (v10 : Value) (v11 : Value) (v12 : Value) (v13 : Value) (v14 : Value) (v15 : Value) (v16 : Value) (v17 : Value)  : Met l yX11_told (.code yX11_told cX11_told 2 (some .int) :: nm_big) ({ frames := 1, cells := 0, slots := 0, locals := 21 }) (nm_P D cI cB cJ cS [.ref a0, .int 1] sz [(a0, .inr (10, [.ref a1, v0, v1, v2, v3, v4, v5, v6, v7, v8, v9, v10, v11, v12, v13, v14, v15, v16])), (a1, .inr (0, [v17, .int 0]))]) ((fun A : Nat → Prop => va_Qi (S := Unit) (fun (r : Int32) => (fun (z : Unit) => r = 0)) (nm_B D (fun (z : Unit) => []) A) A) (va_A [(a0, .inr (10, [.ref a1, v0, v1, v2, v3, v4, v5, v6, v7, v8, v9, v10, v11, v12, v13, v14, v15, v16])), (a1, .inr (0, [v17, .int 0]))] sz)) 0 0 (va_A [(a0, .inr (10, [.ref a1, v0, v1, v2, v3, v4, v5, v6, v7, v8, v9, v10, v11, v12, v13, v14, v15, v16])), (a1, .inr (0, [v17, .int 0]))] sz) := by
  refine nm_Met (Qc := fun A => va_Qi (S := Unit) (fun (r : Int32) => (fun (z : Unit) => r = 0)) (nm_B D (fun (z : Unit) => []) A) A) ?_ ?_ ?_
  · decide +kernel
  · exact Nat.le_of_ble_eq_true rfl
  intro p e s m below meth c A ls hx hb hr hml hts hown hlocks hin hM hP hD hS hA hl
  have hl : lv_has ls 2 [(0, .ref a0), (1, .int 1)] := hl
  have hown : s.vm.findClass RX11 = some m.cls := hown
  refine lv_aload_n hx hb dX11_told_0 rfl (lv_at hl 0 rfl) ?_
  refine lv_iload_n hx hb dX11_told_1 rfl (lv_at hl 1 rfl) ?_
  refine lv_if_lt (tgt := 14) hx hb dX11_told_2 (by decide) (fun c9 => absurd c9 (by decide)) (fun _ => ?_)
  refine lv_iload_n hx hb dX11_told_5 rfl (lv_at hl 1 rfl) ?_
  refine lv_iconst (v := 2) hx hb dX11_told_6 (by decide) ?_
  refine lv_icmp_gt (tgt := 14) hx hb dX11_told_7 (by decide) (fun c9 => absurd c9 (by decide)) (fun _ => ?_)
  refine lv_iconst (v := 1) hx hb dX11_told_10 (by decide) ?_
  refine lv_goto (tgt := 15) hx hb dX11_told_11 (by decide) ?_
  refine nm_callv (Z := Unit) (wr := [(a1, .inr (0, [v17, .int 0]))]) (k := 0) (n := 0) (va_runV (As := [.int 1]) (rest := []) ⟨hx, hb, hml, hown, hts⟩ (c_X11_needArgument_2 l D cI cB cJ cS s.heap.size a0 (.ref a1) v0 v1 v2 v3 v4 v5 v6 v7 v8 v9 v10 v11 v12 v13 v14 v15 v16) (cwV 1 hts (nm_gV q_503 q_505 qs_1 q_1 q_506) rfl rfl rfl (by decide +kernel) ⟨(Nat.le_of_ble_eq_true rfl), (Nat.le_of_ble_eq_true rfl)⟩) (nm_preV (q := (RX11, TX11, 18)) (hP.sub [0] rfl) (hD.sub [0] (by decide) rfl) hM 0 rfl rfl) rfl rfl hl.1 rfl (lv_room (Nat.le_of_ble_eq_true rfl)) dX11_told_15 ⟨(Nat.le_of_ble_eq_true rfl), (Nat.le_of_ble_eq_true rfl)⟩) hP hD hS hA [0] [1] rfl rfl (by decide) (by decide) (Nat.le_of_ble_eq_true rfl) (Nat.le_of_ble_eq_true rfl) (fun u H locs hw hP hD hS => ?_)
  have hP : va_P D nm_cl [(a1, .inr (0, [v17, .int 0])), (a0, .inr (10, [.ref a1, v0, v1, v2, v3, v4, v5, v6, v7, v8, v9, v10, v11, v12, v13, v14, v15, v16]))] H := hP
  have hD : va_D A [(a1, .inr (0, [v17, .int 0])), (a0, .inr (10, [.ref a1, v0, v1, v2, v3, v4, v5, v6, v7, v8, v9, v10, v11, v12, v13, v14, v15, v16]))] := hD
  refine lv_iload_n hx hb dX11_told_18 rfl (lv_at hl 1 rfl) ?_
  refine lv_if_ne (tgt := 30) hx hb dX11_told_19 (by decide) (fun _ => ?_) (fun c9 => absurd c9 (by decide))
  refine lv_iload_n hx hb dX11_told_30 rfl (lv_at hl 1 rfl) ?_
  refine lv_iconst (v := 1) hx hb dX11_told_31 (by decide) ?_
  refine lv_icmp_ne (tgt := 45) hx hb dX11_told_32 (by decide) (fun c9 => absurd (by decide) c9) (fun _ => ?_)
  refine lv_aload_n hx hb dX11_told_35 rfl (lv_at hl 0 rfl) ?_
  refine va_get (D := D) (ci := 10) (v := .ref a1) (C := RX11) (T := TX11) (N := 18) hx hb hts iw_X11 hown hM.1 hP 1 rfl rfl 0 (by decide) (hts _ q_381) (fun _ h9 => h9) rfl dX11_told_36 ?_
  refine va_get (D := D) (ci := 0) (v := .int 0) (C := RX0) (T := TX0) (N := 2) hx hb hts iw_X0 hown hM.1 hP 0 rfl rfl 1 (by decide) (hts _ q_44) (fun _ h9 => h9) rfl dX11_told_39 ?_
  refine lv_goto (tgt := 49) hx hb dX11_told_42 (by decide) ?_
  have hP9 := hP.sub (ws' := []) [] rfl
  have hD9 := hD.sub (ws' := []) [] (by decide) rfl
  exact W.iret (v := 0) hx hb hr (fun t ht hW => ⟨⟨0, (), rfl, rfl, by rw [ht]; exact hP9, hD9⟩, hS.F ht⟩) hS.2.2 dX11_told_49
set_option maxHeartbeats 4000000 in
set_option maxRecDepth 100000 in
theorem c_L_told_3 (l : Launch) (hl0 : l.stackTraces = false) (D : va_G) (cI cB cJ cS : ClassId) (sz : Nat) (a0 : Nat) (a1 : Nat) (a2 : Nat) (v0 : Value) (v1 : Value) (v2 : Value) (v3 : Value) (v4 : Value) (v5 : Value) (v6 : Value) (v7 : Value) (v8 : Value) (v9 : Value) (v10 : Value) (v11 : Value) (v12 : Value) (v13 : Value) (v14 : Value) (v15 : Value) (v16 : Value) (v17 : Value) (f18 : Nat → Int64)  : vx_Met l yL_told (.codeWith yL_told cL_told 4 (some .int) [(0, 9, 12, 13)] :: nm_big) ({ frames := 2, cells := 0, slots := 0, locals := 42 }) (nm_PX D cI cB cJ cS [.ref a0, .int 1, .ref a2] sz [(a0, .inr (10, [.ref a1, v0, v1, v2, v3, v4, v5, v6, v7, v8, v9, v10, v11, v12, v13, v14, v15, v16])), (a1, .inr (0, [v17, .int 0])), (a2, .inl (cJ, 1, .inr (.inl f18)))]) ((fun A : Nat → Prop => va_Qi (S := (Nat → Int64)) (fun (r : Int32) => (fun (f101 : (Nat → Int64)) => r = 0 ∧ f101 0 = 0)) (nm_B D (fun (f101 : (Nat → Int64)) => [(a2, .inl (cJ, 1, .inr (.inl f101)))]) A) A) (va_A [(a0, .inr (10, [.ref a1, v0, v1, v2, v3, v4, v5, v6, v7, v8, v9, v10, v11, v12, v13, v14, v15, v16])), (a1, .inr (0, [v17, .int 0])), (a2, .inl (cJ, 1, .inr (.inl f18)))] sz)) ((fun A : Nat → Prop => nm_X0 A) (va_A [(a0, .inr (10, [.ref a1, v0, v1, v2, v3, v4, v5, v6, v7, v8, v9, v10, v11, v12, v13, v14, v15, v16])), (a1, .inr (0, [v17, .int 0])), (a2, .inl (cJ, 1, .inr (.inl f18)))] sz)) 0 0 (va_A [(a0, .inr (10, [.ref a1, v0, v1, v2, v3, v4, v5, v6, v7, v8, v9, v10, v11, v12, v13, v14, v15, v16])), (a1, .inr (0, [v17, .int 0])), (a2, .inl (cJ, 1, .inr (.inl f18)))] sz) := by
  refine nm_MetW (Qc := fun A => va_Qi (S := (Nat → Int64)) (fun (r : Int32) => (fun (f101 : (Nat → Int64)) => r = 0 ∧ f101 0 = 0)) (nm_B D (fun (f101 : (Nat → Int64)) => [(a2, .inl (cJ, 1, .inr (.inl f101)))]) A) A) (XC := fun A => nm_X0 A) ?_ ?_ ?_
  · decide +kernel
  · exact Nat.le_of_ble_eq_true rfl
  intro p e s m below meth c A ls hx hb hr hml hts hown hlocks htab hM hTh hP hD hS hA hl
  have hl : lv_has ls 4 [(0, .ref a0), (1, .int 1), (2, .ref a2)] := hl
  have hown : s.vm.findClass RL = some m.cls := hown
  refine lv_aload_n hx hb dL_told_0 rfl (lv_at hl 2 rfl) ?_
  refine lv_iconst (v := 0) hx hb dL_told_1 (by decide) ?_
  refine lv_aload_n hx hb dL_told_2 rfl (lv_at hl 0 rfl) ?_
  refine lv_iload_n hx hb dL_told_3 rfl (lv_at hl 1 rfl) ?_
  refine nm_calli (Z := Unit) (wr := [(a2, .inl (cJ, 1, .inr (.inl f18)))]) (k := 0) (n := 0) (va_runV (As := [.int 1]) (rest := [.int 0, .ref a2]) ⟨hx, hb, hml, hown, hts⟩ (c_X11_told_3 l D cI cB cJ cS s.heap.size a0 a1 v0 v1 v2 v3 v4 v5 v6 v7 v8 v9 v10 v11 v12 v13 v14 v15 v16 v17) (cwV 1 hts (nm_gV q_1293 q_1294 q_1295 q_1 q_1296) rfl rfl rfl (by decide +kernel) ⟨(Nat.le_of_ble_eq_true rfl), (Nat.le_of_ble_eq_true rfl)⟩) (nm_preV (q := (RX11, TX11, 18)) (hP.sub [0, 1] rfl) (hD.sub [0, 1] (by decide) rfl) hM 0 rfl rfl) rfl rfl hl.1 rfl (lv_room (Nat.le_of_ble_eq_true rfl)) dL_told_4 ⟨(Nat.le_of_ble_eq_true rfl), (Nat.le_of_ble_eq_true rfl)⟩) hP hD hS hA [0, 1] [2] rfl rfl (by decide) (by decide) (Nat.le_of_ble_eq_true rfl) (Nat.le_of_ble_eq_true rfl) (fun r9 u H locs hw hP hD hS => ?_)
  obtain rfl : r9 = (0 : Int32) := hw
  have hP : va_P D nm_cl [(a2, .inl (cJ, 1, .inr (.inl f18)))] H := hP
  have hD : va_D A [(a2, .inl (cJ, 1, .inr (.inl f18)))] := hD
  refine lv_i2l (v := 0) hx hb dL_told_7 (by decide) ?_
  refine va_last hx hb hM.1 hP hD hS 0 2 rfl rfl (nm_vin (by decide)) dL_told_8 (fun H locs hP hD hS => ?_)
  have hP : va_P D nm_cl [(a2, .inl (cJ, 1, .inr (.inl (vp_updL f18 (Int32.toNatClampNeg 0) 0))))] H := hP
  have hD : va_D A [(a2, .inl (cJ, 1, .inr (.inl (vp_updL f18 (Int32.toNatClampNeg 0) 0))))] := hD
  obtain ⟨f101, hf9⟩ : ∃ g : Nat → Int64, g = (vp_updL f18 (Int32.toNatClampNeg 0) 0) := ⟨_, rfl⟩
  rw [← hf9] at hP hD
  have ef101 : f101 0 = 0 := by rw [hf9]; rfl
  refine lv_goto (tgt := 15) hx hb dL_told_9 (by decide) ?_
  refine lv_iconst (v := 0) hx hb dL_told_15 (by decide) ?_
  have hP9 := hP.sub (ws' := [(a2, .inl (cJ, 1, .inr (.inl f101)))]) [0] rfl
  have hD9 := hD.sub (ws' := [(a2, .inl (cJ, 1, .inr (.inl f101)))]) [0] (by decide) rfl
  exact vx_ret (W.iret (v := 0) hx hb hr (fun t ht hW => ⟨⟨0, f101, rfl, ⟨rfl, ef101⟩, by rw [ht]; exact hP9, hD9⟩, hS.F ht⟩) hS.2.2 dL_told_16)
set_option maxHeartbeats 4000000 in
set_option maxRecDepth 100000 in
theorem c_X12_in_3 (l : Launch) (D : va_G) (cI cB cJ cS : ClassId) (sz : Nat)   : Met l yX12_in (.code yX12_in cX12_in 3 (some .boolean) :: nm_big) ({ frames := 0, cells := 0, slots := 0, locals := 0 }) (nm_P D cI cB cJ cS [.int 1, .int 0, .int 2] sz []) ((fun A : Nat → Prop => va_Qi (S := Unit) (fun (r : Int32) => (fun (z : Unit) => r = 1)) (nm_B D (fun (z : Unit) => []) A) A) (va_A [] sz)) 0 0 (va_A [] sz) := by
  refine nm_Met (Qc := fun A => va_Qi (S := Unit) (fun (r : Int32) => (fun (z : Unit) => r = 1)) (nm_B D (fun (z : Unit) => []) A) A) ?_ ?_ ?_
  · decide +kernel
  · exact Nat.le_of_ble_eq_true rfl
  intro p e s m below meth c A ls hx hb hr hml hts hown hlocks hin hM hP hD hS hA hl
  have hl : lv_has ls 3 [(0, .int 1), (1, .int 0), (2, .int 2)] := hl
  have hown : s.vm.findClass RX12 = some m.cls := hown
  refine lv_iload_n hx hb dX12_in_0 rfl (lv_at hl 0 rfl) ?_
  refine lv_iload_n hx hb dX12_in_1 rfl (lv_at hl 1 rfl) ?_
  refine lv_icmp_lt (tgt := 14) hx hb dX12_in_2 (by decide) (fun c9 => absurd c9 (by decide)) (fun _ => ?_)
  refine lv_iload_n hx hb dX12_in_5 rfl (lv_at hl 0 rfl) ?_
  refine lv_iload_n hx hb dX12_in_6 rfl (lv_at hl 2 rfl) ?_
  refine lv_icmp_gt (tgt := 14) hx hb dX12_in_7 (by decide) (fun c9 => absurd c9 (by decide)) (fun _ => ?_)
  refine lv_iconst (v := 1) hx hb dX12_in_10 (by decide) ?_
  refine lv_goto (tgt := 15) hx hb dX12_in_11 (by decide) ?_
  have hP9 := hP.sub (ws' := []) [] rfl
  have hD9 := hD.sub (ws' := []) [] (by decide) rfl
  exact W.zret (v := 1) hx hb hr (by decide) (fun t ht hW => ⟨⟨1, (), rfl, rfl, by rw [ht]; exact hP9, hD9⟩, hS.F ht⟩) hS.2.2 dX12_in_15
set_option maxHeartbeats 4000000 in
set_option maxRecDepth 100000 in
theorem c_X12_told_3 (l : Launch) (D : va_G) (cI cB cJ cS : ClassId) (sz : Nat) (a0 : Nat) (v0 : Value) (v1 : Value) (v2 : Value) (v3 : Value) (v4 : Value) (v5 : Value) (v6 : Value) (v7 : Value) (v8 : Value) (v9 : Value) (v10 : Value) (v11 : Value) (v12 : Value) (v13 : Value) (v14 : Value) (v15 : Value) (v16 : Value) (v17 : Value) (v18 : Value) (v19 : Value) (v20 : Value) (v21 : Value) (v22 : Value) (v23 : Value) (v24 : Value) (v25 : Value) (v26 : Value) (v27 : Value) (v28 : Value) (v29 : Value) (v30 : Value) (v31 : Value) (v32 : Value) (v33 : Value) (v34 : Value) (v35 : Value) (v36 : Value) (v37 : Value) (v38 : Value) (v39 : Value) (v40 : Value) (v41 : Value) (v42 : Value) (v43 : Value) (v44 : Value) (v45 : Value) (v46 : Value) (v47 : Value) (v48 : Value) (v49 : Value) (v50 : Value) (v51 : Value) (v52 : Value) (v53 : Value) (v54 : Value) (v55 : Value) (v56 : Value) (v57 : Value) (v58 : Value) (v59 : Value) (v60 : Value)  : Met l yX12_told (.code yX12_told cX12_told 2 (some .int) :: nm_big) ({ frames := 1, cells := 0, slots := 0, locals := 23 }) (nm_P D cI cB cJ cS [.ref a0, .int 1] sz [(a0, .inr (11, [v0, v1, .int 0, v2, v3, v4, v5, v6, v7, v8, v9, v10, v11, v12, v13, v14, v15, v16, v17, v18, v19, v20, v21, v22, v23, v24, v25, v26, v27, v28, v29, v30, v31, v32, v33, v34, v35, v36, v37, v38, v39, v40, v41, v42, v43, v44, v45, v46, v47, v48, v49, v50, v51, v52, v53, v54, v55, v56, v57, v58, v59, v60]))]) ((fun A : Nat → Prop => va_Qi (S := Unit) (fun (r : Int32) => (fun (z : Unit) => r = 0)) (nm_B D (fun (z : Unit) => [(a0, .inr (11, [.int 0, v1, .int 0, v2, v3, v4, v5, v6, v7, v8, v9, v10, v11, v12, v13, v14, v15, v16, v17, v18, v19, v20, v21, v22, v23, v24, v25, v26, v27, v28, v29, v30, v31, v32, v33, v34, v35, v36, v37, v38, v39, v40, v41, v42, v43, v44, v45, v46, v47, v48, v49, v50, v51, v52, v53, v54, v55, v56, v57, v58, v59, v60]))]) A) A) (va_A [(a0, .inr (11, [v0, v1, .int 0, v2, v3, v4, v5, v6, v7, v8, v9, v10, v11, v12, v13, v14, v15, v16, v17, v18, v19, v20, v21, v22, v23, v24, v25, v26, v27, v28, v29, v30, v31, v32, v33, v34, v35, v36, v37, v38, v39, v40, v41, v42, v43, v44, v45, v46, v47, v48, v49, v50, v51, v52, v53, v54, v55, v56, v57, v58, v59, v60]))] sz)) 0 0 (va_A [(a0, .inr (11, [v0, v1, .int 0, v2, v3, v4, v5, v6, v7, v8, v9, v10, v11, v12, v13, v14, v15, v16, v17, v18, v19, v20, v21, v22, v23, v24, v25, v26, v27, v28, v29, v30, v31, v32, v33, v34, v35, v36, v37, v38, v39, v40, v41, v42, v43, v44, v45, v46, v47, v48, v49, v50, v51, v52, v53, v54, v55, v56, v57, v58, v59, v60]))] sz) := by
  refine nm_Met (Qc := fun A => va_Qi (S := Unit) (fun (r : Int32) => (fun (z : Unit) => r = 0)) (nm_B D (fun (z : Unit) => [(a0, .inr (11, [.int 0, v1, .int 0, v2, v3, v4, v5, v6, v7, v8, v9, v10, v11, v12, v13, v14, v15, v16, v17, v18, v19, v20, v21, v22, v23, v24, v25, v26, v27, v28, v29, v30, v31, v32, v33, v34, v35, v36, v37, v38, v39, v40, v41, v42, v43, v44, v45, v46, v47, v48, v49, v50, v51, v52, v53, v54, v55, v56, v57, v58, v59, v60]))]) A) A) ?_ ?_ ?_
  · decide +kernel
  · exact Nat.le_of_ble_eq_true rfl
  intro p e s m below meth c A ls hx hb hr hml hts hown hlocks hin hM hP hD hS hA hl
  have hl : lv_has ls 2 [(0, .ref a0), (1, .int 1)] := hl
  have hown : s.vm.findClass RX12 = some m.cls := hown
  refine lv_aload_n hx hb dX12_told_0 rfl (lv_at hl 0 rfl) ?_
  refine lv_iconst (v := 0) hx hb dX12_told_1 (by decide) ?_
  refine va_put (D := D) (ci := 11) (v := .int 0) (ty := .int) (C := RX12) (T := TX12) (N := 62) hx hb hts iw_X12 tyX12 tyX12_ok nmX12 hown hM.1 hP hD hS 0 rfl rfl 0 (by decide) (hts _ q_1495) (fun _ h9 => h9) rfl (by decide +kernel) rfl rfl (Nat.le_of_ble_eq_true rfl) dX12_told_2 (fun H locs hP hD hS => ?_)
  have hP : va_P D nm_cl [(a0, .inr (11, [.int 0, v1, .int 0, v2, v3, v4, v5, v6, v7, v8, v9, v10, v11, v12, v13, v14, v15, v16, v17, v18, v19, v20, v21, v22, v23, v24, v25, v26, v27, v28, v29, v30, v31, v32, v33, v34, v35, v36, v37, v38, v39, v40, v41, v42, v43, v44, v45, v46, v47, v48, v49, v50, v51, v52, v53, v54, v55, v56, v57, v58, v59, v60]))] H := hP
  have hD : va_D A [(a0, .inr (11, [.int 0, v1, .int 0, v2, v3, v4, v5, v6, v7, v8, v9, v10, v11, v12, v13, v14, v15, v16, v17, v18, v19, v20, v21, v22, v23, v24, v25, v26, v27, v28, v29, v30, v31, v32, v33, v34, v35, v36, v37, v38, v39, v40, v41, v42, v43, v44, v45, v46, v47, v48, v49, v50, v51, v52, v53, v54, v55, v56, v57, v58, v59, v60]))] := hD
  refine lv_aload_n hx hb dX12_told_5 rfl (lv_at hl 0 rfl) ?_
  refine lv_iload_n hx hb dX12_told_6 rfl (lv_at hl 1 rfl) ?_
  refine lv_iconst (v := 0) hx hb dX12_told_7 (by decide) ?_
  refine lv_iconst (v := 2) hx hb dX12_told_8 (by decide) ?_
  refine nm_calli (Z := Unit) (wr := [(a0, .inr (11, [.int 0, v1, .int 0, v2, v3, v4, v5, v6, v7, v8, v9, v10, v11, v12, v13, v14, v15, v16, v17, v18, v19, v20, v21, v22, v23, v24, v25, v26, v27, v28, v29, v30, v31, v32, v33, v34, v35, v36, v37, v38, v39, v40, v41, v42, v43, v44, v45, v46, v47, v48, v49, v50, v51, v52, v53, v54, v55, v56, v57, v58, v59, v60]))]) (k := 0) (n := 0) (va_runS (As := [.int 1, .int 0, .int 2]) (rest := [.ref a0]) ⟨hx, hb, hml, hown, hts⟩ (c_X12_in_3 l D cI cB cJ cS H.size) (va_cwS 3 hts (nm_gS q_1703 q_1704 q_13 q_1705) rfl rfl rfl (by decide +kernel) ⟨(Nat.le_of_ble_eq_true rfl), (Nat.le_of_ble_eq_true rfl)⟩) (nm_preS (hP.sub [] rfl) (hD.sub [] (by decide) rfl) hM) rfl rfl hl.1 rfl (lv_room (Nat.le_of_ble_eq_true rfl)) dX12_told_9 ⟨(Nat.le_of_ble_eq_true rfl), (Nat.le_of_ble_eq_true rfl)⟩) hP hD hS hA [] [0] rfl rfl (by decide) (by decide) (Nat.le_of_ble_eq_true rfl) (Nat.le_of_ble_eq_true rfl) (fun r9 u H locs hw hP hD hS => ?_)
  obtain rfl : r9 = (1 : Int32) := hw
  have hP : va_P D nm_cl [(a0, .inr (11, [.int 0, v1, .int 0, v2, v3, v4, v5, v6, v7, v8, v9, v10, v11, v12, v13, v14, v15, v16, v17, v18, v19, v20, v21, v22, v23, v24, v25, v26, v27, v28, v29, v30, v31, v32, v33, v34, v35, v36, v37, v38, v39, v40, v41, v42, v43, v44, v45, v46, v47, v48, v49, v50, v51, v52, v53, v54, v55, v56, v57, v58, v59, v60]))] H := hP
  have hD : va_D A [(a0, .inr (11, [.int 0, v1, .int 0, v2, v3, v4, v5, v6, v7, v8, v9, v10, v11, v12, v13, v14, v15, v16, v17, v18, v19, v20, v21, v22, v23, v24, v25, v26, v27, v28, v29, v30, v31, v32, v33, v34, v35, v36, v37, v38, v39, v40, v41, v42, v43, v44, v45, v46, v47, v48, v49, v50, v51, v52, v53, v54, v55, v56, v57, v58, v59, v60]))] := hD
  refine lv_if_ne (tgt := 19) hx hb dX12_told_12 (by decide) (fun _ => ?_) (fun c9 => absurd c9 (by decide))
  refine lv_iconst (v := 0) hx hb dX12_told_19 (by decide) ?_
  refine lv_iconst (v := 1) hx hb dX12_told_20 (by decide) ?_
  refine lv_iconst (v := 1) hx hb dX12_told_21 (by decide) ?_
  refine nm_calli (Z := Unit) (wr := []) (k := 0) (n := 0) (va_runV (As := [.int 0, .int 1, .int 1]) (rest := []) ⟨hx, hb, hml, hown, hts⟩ (c_X12_bad_2 l D cI cB cJ cS H.size a0 v1 (.int 0) v2 v3 v4 v5 v6 v7 v8 v9 v10 v11 v12 v13 v14 v15 v16 v17 v18 v19 v20 v21 v22 v23 v24 v25 v26 v27 v28 v29 v30 v31 v32 v33 v34 v35 v36 v37 v38 v39 v40 v41 v42 v43 v44 v45 v46 v47 v48 v49 v50 v51 v52 v53 v54 v55 v56 v57 v58 v59 v60) (cwV 3 hts (nm_gV q_1706 q_1708 qs_60 q_13 q_1709) rfl rfl rfl (by decide +kernel) ⟨(Nat.le_of_ble_eq_true rfl), (Nat.le_of_ble_eq_true rfl)⟩) (nm_preV (q := (RX12, TX12, 62)) (hP.sub [0] rfl) (hD.sub [0] (by decide) rfl) hM 0 rfl rfl) rfl rfl hl.1 rfl (lv_room (Nat.le_of_ble_eq_true rfl)) dX12_told_22 ⟨(Nat.le_of_ble_eq_true rfl), (Nat.le_of_ble_eq_true rfl)⟩) hP hD hS hA [0] [] rfl rfl (by decide) (by decide) (Nat.le_of_ble_eq_true rfl) (Nat.le_of_ble_eq_true rfl) (fun r9 u H locs hw hP hD hS => ?_)
  obtain rfl : r9 = (0 : Int32) := hw
  have hP : va_P D nm_cl [(a0, .inr (11, [.int 0, v1, .int 0, v2, v3, v4, v5, v6, v7, v8, v9, v10, v11, v12, v13, v14, v15, v16, v17, v18, v19, v20, v21, v22, v23, v24, v25, v26, v27, v28, v29, v30, v31, v32, v33, v34, v35, v36, v37, v38, v39, v40, v41, v42, v43, v44, v45, v46, v47, v48, v49, v50, v51, v52, v53, v54, v55, v56, v57, v58, v59, v60]))] H := hP
  have hD : va_D A [(a0, .inr (11, [.int 0, v1, .int 0, v2, v3, v4, v5, v6, v7, v8, v9, v10, v11, v12, v13, v14, v15, v16, v17, v18, v19, v20, v21, v22, v23, v24, v25, v26, v27, v28, v29, v30, v31, v32, v33, v34, v35, v36, v37, v38, v39, v40, v41, v42, v43, v44, v45, v46, v47, v48, v49, v50, v51, v52, v53, v54, v55, v56, v57, v58, v59, v60]))] := hD
  refine lv_if_eq (tgt := 30) hx hb dX12_told_25 (by decide) (fun _ => ?_) (fun c9 => absurd (by decide) c9)
  refine lv_iload_n hx hb dX12_told_30 rfl (lv_at hl 1 rfl) ?_
  refine lv_if_ne (tgt := 41) hx hb dX12_told_31 (by decide) (fun _ => ?_) (fun c9 => absurd c9 (by decide))
  refine lv_iload_n hx hb dX12_told_41 rfl (lv_at hl 1 rfl) ?_
  refine lv_iconst (v := 1) hx hb dX12_told_42 (by decide) ?_
  refine lv_icmp_ne (tgt := 53) hx hb dX12_told_43 (by decide) (fun c9 => absurd (by decide) c9) (fun _ => ?_)
  refine lv_aload_n hx hb dX12_told_46 rfl (lv_at hl 0 rfl) ?_
  refine va_get (D := D) (ci := 11) (v := .int 0) (C := RX12) (T := TX12) (N := 62) hx hb hts iw_X12 hown hM.1 hP 0 rfl rfl 2 (by decide) (hts _ q_1497) (fun _ h9 => h9) rfl dX12_told_47 ?_
  refine lv_goto (tgt := 57) hx hb dX12_told_50 (by decide) ?_
  have hP9 := hP.sub (ws' := [(a0, .inr (11, [.int 0, v1, .int 0, v2, v3, v4, v5, v6, v7, v8, v9, v10, v11, v12, v13, v14, v15, v16, v17, v18, v19, v20, v21, v22, v23, v24, v25, v26, v27, v28, v29, v30, v31, v32, v33, v34, v35, v36, v37, v38, v39, v40, v41, v42, v43, v44, v45, v46, v47, v48, v49, v50, v51, v52, v53, v54, v55, v56, v57, v58, v59, v60]))]) [0] rfl
  have hD9 := hD.sub (ws' := [(a0, .inr (11, [.int 0, v1, .int 0, v2, v3, v4, v5, v6, v7, v8, v9, v10, v11, v12, v13, v14, v15, v16, v17, v18, v19, v20, v21, v22, v23, v24, v25, v26, v27, v28, v29, v30, v31, v32, v33, v34, v35, v36, v37, v38, v39, v40, v41, v42, v43, v44, v45, v46, v47, v48, v49, v50, v51, v52, v53, v54, v55, v56, v57, v58, v59, v60]))]) [0] (by decide) rfl
  exact W.iret (v := 0) hx hb hr (fun t ht hW => ⟨⟨0, (), rfl, rfl, by rw [ht]; exact hP9, hD9⟩, hS.F ht⟩) hS.2.2 dX12_told_57
set_option maxHeartbeats 4000000 in
set_option maxRecDepth 100000 in
theorem c_X11_told_4 (l : Launch) (D : va_G) (cI cB cJ cS : ClassId) (sz : Nat) (a0 : Nat) (v0 : Value) (v1 : Value) (v2 : Value) (v3 : Value) (v4 : Value) (v5 : Value) (v6 : Value) (v7 : Value) (v8 : Value) (v9 : Value) (v10 : Value) (v11 : Value) (v12 : Value) (v13 : Value) (v14 : Value) (v15 : Value) (v16 : Value)  : Met l yX11_told (.code yX11_told cX11_told 2 (some .int) :: nm_big) ({ frames := 1, cells := 0, slots := 0, locals := 21 }) (nm_P D cI cB cJ cS [.ref a0, .int 2] sz [(a0, .inr (10, [v0, v1, v2, .int 0, v3, v4, v5, v6, v7, v8, v9, v10, v11, v12, v13, v14, v15, v16]))]) ((fun A : Nat → Prop => va_Qi (S := Unit) (fun (r : Int32) => (fun (z : Unit) => r = 0)) (nm_B D (fun (z : Unit) => []) A) A) (va_A [(a0, .inr (10, [v0, v1, v2, .int 0, v3, v4, v5, v6, v7, v8, v9, v10, v11, v12, v13, v14, v15, v16]))] sz)) 0 0 (va_A [(a0, .inr (10, [v0, v1, v2, .int 0, v3, v4, v5, v6, v7, v8, v9, v10, v11, v12, v13, v14, v15, v16]))] sz) := by
  refine nm_Met (Qc := fun A => va_Qi (S := Unit) (fun (r : Int32) => (fun (z : Unit) => r = 0)) (nm_B D (fun (z : Unit) => []) A) A) ?_ ?_ ?_
  · decide +kernel
  · exact Nat.le_of_ble_eq_true rfl
  intro p e s m below meth c A ls hx hb hr hml hts hown hlocks hin hM hP hD hS hA hl
  have hl : lv_has ls 2 [(0, .ref a0), (1, .int 2)] := hl
  have hown : s.vm.findClass RX11 = some m.cls := hown
  refine lv_aload_n hx hb dX11_told_0 rfl (lv_at hl 0 rfl) ?_
  refine lv_iload_n hx hb dX11_told_1 rfl (lv_at hl 1 rfl) ?_
  refine lv_if_lt (tgt := 14) hx hb dX11_told_2 (by decide) (fun c9 => absurd c9 (by decide)) (fun _ => ?_)
  refine lv_iload_n hx hb dX11_told_5 rfl (lv_at hl 1 rfl) ?_
  refine lv_iconst (v := 2) hx hb dX11_told_6 (by decide) ?_
  refine lv_icmp_gt (tgt := 14) hx hb dX11_told_7 (by decide) (fun c9 => absurd c9 (by decide)) (fun _ => ?_)
  refine lv_iconst (v := 1) hx hb dX11_told_10 (by decide) ?_
  refine lv_goto (tgt := 15) hx hb dX11_told_11 (by decide) ?_
  refine nm_callv (Z := Unit) (wr := []) (k := 0) (n := 0) (va_runV (As := [.int 1]) (rest := []) ⟨hx, hb, hml, hown, hts⟩ (c_X11_needArgument_2 l D cI cB cJ cS s.heap.size a0 v0 v1 v2 (.int 0) v3 v4 v5 v6 v7 v8 v9 v10 v11 v12 v13 v14 v15 v16) (cwV 1 hts (nm_gV q_503 q_505 qs_1 q_1 q_506) rfl rfl rfl (by decide +kernel) ⟨(Nat.le_of_ble_eq_true rfl), (Nat.le_of_ble_eq_true rfl)⟩) (nm_preV (q := (RX11, TX11, 18)) (hP.sub [0] rfl) (hD.sub [0] (by decide) rfl) hM 0 rfl rfl) rfl rfl hl.1 rfl (lv_room (Nat.le_of_ble_eq_true rfl)) dX11_told_15 ⟨(Nat.le_of_ble_eq_true rfl), (Nat.le_of_ble_eq_true rfl)⟩) hP hD hS hA [0] [] rfl rfl (by decide) (by decide) (Nat.le_of_ble_eq_true rfl) (Nat.le_of_ble_eq_true rfl) (fun u H locs hw hP hD hS => ?_)
  have hP : va_P D nm_cl [(a0, .inr (10, [v0, v1, v2, .int 0, v3, v4, v5, v6, v7, v8, v9, v10, v11, v12, v13, v14, v15, v16]))] H := hP
  have hD : va_D A [(a0, .inr (10, [v0, v1, v2, .int 0, v3, v4, v5, v6, v7, v8, v9, v10, v11, v12, v13, v14, v15, v16]))] := hD
  refine lv_iload_n hx hb dX11_told_18 rfl (lv_at hl 1 rfl) ?_
  refine lv_if_ne (tgt := 30) hx hb dX11_told_19 (by decide) (fun _ => ?_) (fun c9 => absurd c9 (by decide))
  refine lv_iload_n hx hb dX11_told_30 rfl (lv_at hl 1 rfl) ?_
  refine lv_iconst (v := 1) hx hb dX11_told_31 (by decide) ?_
  refine lv_icmp_ne (tgt := 45) hx hb dX11_told_32 (by decide) (fun _ => ?_) (fun c9 => absurd c9 (by decide))
  refine lv_aload_n hx hb dX11_told_45 rfl (lv_at hl 0 rfl) ?_
  refine va_get (D := D) (ci := 10) (v := .int 0) (C := RX11) (T := TX11) (N := 18) hx hb hts iw_X11 hown hM.1 hP 0 rfl rfl 3 (by decide) (hts _ q_384) (fun _ h9 => h9) rfl dX11_told_46 ?_
  have hP9 := hP.sub (ws' := []) [] rfl
  have hD9 := hD.sub (ws' := []) [] (by decide) rfl
  exact W.iret (v := 0) hx hb hr (fun t ht hW => ⟨⟨0, (), rfl, rfl, by rw [ht]; exact hP9, hD9⟩, hS.F ht⟩) hS.2.2 dX11_told_49
set_option maxHeartbeats 4000000 in
set_option maxRecDepth 100000 in
theorem c_L_told_4 (l : Launch) (hl0 : l.stackTraces = false) (D : va_G) (cI cB cJ cS : ClassId) (sz : Nat) (a0 : Nat) (a1 : Nat) (v0 : Value) (v1 : Value) (v2 : Value) (v3 : Value) (v4 : Value) (v5 : Value) (v6 : Value) (v7 : Value) (v8 : Value) (v9 : Value) (v10 : Value) (v11 : Value) (v12 : Value) (v13 : Value) (v14 : Value) (v15 : Value) (v16 : Value) (f17 : Nat → Int64)  : vx_Met l yL_told (.codeWith yL_told cL_told 4 (some .int) [(0, 9, 12, 13)] :: nm_big) ({ frames := 2, cells := 0, slots := 0, locals := 42 }) (nm_PX D cI cB cJ cS [.ref a0, .int 2, .ref a1] sz [(a0, .inr (10, [v0, v1, v2, .int 0, v3, v4, v5, v6, v7, v8, v9, v10, v11, v12, v13, v14, v15, v16])), (a1, .inl (cJ, 1, .inr (.inl f17)))]) ((fun A : Nat → Prop => va_Qi (S := (Nat → Int64)) (fun (r : Int32) => (fun (f101 : (Nat → Int64)) => r = 0 ∧ f101 0 = 0)) (nm_B D (fun (f101 : (Nat → Int64)) => [(a1, .inl (cJ, 1, .inr (.inl f101)))]) A) A) (va_A [(a0, .inr (10, [v0, v1, v2, .int 0, v3, v4, v5, v6, v7, v8, v9, v10, v11, v12, v13, v14, v15, v16])), (a1, .inl (cJ, 1, .inr (.inl f17)))] sz)) ((fun A : Nat → Prop => nm_X0 A) (va_A [(a0, .inr (10, [v0, v1, v2, .int 0, v3, v4, v5, v6, v7, v8, v9, v10, v11, v12, v13, v14, v15, v16])), (a1, .inl (cJ, 1, .inr (.inl f17)))] sz)) 0 0 (va_A [(a0, .inr (10, [v0, v1, v2, .int 0, v3, v4, v5, v6, v7, v8, v9, v10, v11, v12, v13, v14, v15, v16])), (a1, .inl (cJ, 1, .inr (.inl f17)))] sz) := by
  refine nm_MetW (Qc := fun A => va_Qi (S := (Nat → Int64)) (fun (r : Int32) => (fun (f101 : (Nat → Int64)) => r = 0 ∧ f101 0 = 0)) (nm_B D (fun (f101 : (Nat → Int64)) => [(a1, .inl (cJ, 1, .inr (.inl f101)))]) A) A) (XC := fun A => nm_X0 A) ?_ ?_ ?_
  · decide +kernel
  · exact Nat.le_of_ble_eq_true rfl
  intro p e s m below meth c A ls hx hb hr hml hts hown hlocks htab hM hTh hP hD hS hA hl
  have hl : lv_has ls 4 [(0, .ref a0), (1, .int 2), (2, .ref a1)] := hl
  have hown : s.vm.findClass RL = some m.cls := hown
  refine lv_aload_n hx hb dL_told_0 rfl (lv_at hl 2 rfl) ?_
  refine lv_iconst (v := 0) hx hb dL_told_1 (by decide) ?_
  refine lv_aload_n hx hb dL_told_2 rfl (lv_at hl 0 rfl) ?_
  refine lv_iload_n hx hb dL_told_3 rfl (lv_at hl 1 rfl) ?_
  refine nm_calli (Z := Unit) (wr := [(a1, .inl (cJ, 1, .inr (.inl f17)))]) (k := 0) (n := 0) (va_runV (As := [.int 2]) (rest := [.int 0, .ref a1]) ⟨hx, hb, hml, hown, hts⟩ (c_X11_told_4 l D cI cB cJ cS s.heap.size a0 v0 v1 v2 v3 v4 v5 v6 v7 v8 v9 v10 v11 v12 v13 v14 v15 v16) (cwV 1 hts (nm_gV q_1293 q_1294 q_1295 q_1 q_1296) rfl rfl rfl (by decide +kernel) ⟨(Nat.le_of_ble_eq_true rfl), (Nat.le_of_ble_eq_true rfl)⟩) (nm_preV (q := (RX11, TX11, 18)) (hP.sub [0] rfl) (hD.sub [0] (by decide) rfl) hM 0 rfl rfl) rfl rfl hl.1 rfl (lv_room (Nat.le_of_ble_eq_true rfl)) dL_told_4 ⟨(Nat.le_of_ble_eq_true rfl), (Nat.le_of_ble_eq_true rfl)⟩) hP hD hS hA [0] [1] rfl rfl (by decide) (by decide) (Nat.le_of_ble_eq_true rfl) (Nat.le_of_ble_eq_true rfl) (fun r9 u H locs hw hP hD hS => ?_)
  obtain rfl : r9 = (0 : Int32) := hw
  have hP : va_P D nm_cl [(a1, .inl (cJ, 1, .inr (.inl f17)))] H := hP
  have hD : va_D A [(a1, .inl (cJ, 1, .inr (.inl f17)))] := hD
  refine lv_i2l (v := 0) hx hb dL_told_7 (by decide) ?_
  refine va_last hx hb hM.1 hP hD hS 0 2 rfl rfl (nm_vin (by decide)) dL_told_8 (fun H locs hP hD hS => ?_)
  have hP : va_P D nm_cl [(a1, .inl (cJ, 1, .inr (.inl (vp_updL f17 (Int32.toNatClampNeg 0) 0))))] H := hP
  have hD : va_D A [(a1, .inl (cJ, 1, .inr (.inl (vp_updL f17 (Int32.toNatClampNeg 0) 0))))] := hD
  obtain ⟨f101, hf9⟩ : ∃ g : Nat → Int64, g = (vp_updL f17 (Int32.toNatClampNeg 0) 0) := ⟨_, rfl⟩
  rw [← hf9] at hP hD
  have ef101 : f101 0 = 0 := by rw [hf9]; rfl
  refine lv_goto (tgt := 15) hx hb dL_told_9 (by decide) ?_
  refine lv_iconst (v := 0) hx hb dL_told_15 (by decide) ?_
  have hP9 := hP.sub (ws' := [(a1, .inl (cJ, 1, .inr (.inl f101)))]) [0] rfl
  have hD9 := hD.sub (ws' := [(a1, .inl (cJ, 1, .inr (.inl f101)))]) [0] (by decide) rfl
  exact vx_ret (W.iret (v := 0) hx hb hr (fun t ht hW => ⟨⟨0, f101, rfl, ⟨rfl, ef101⟩, by rw [ht]; exact hP9, hD9⟩, hS.F ht⟩) hS.2.2 dL_told_16)
set_option maxHeartbeats 4000000 in
set_option maxRecDepth 100000 in
theorem c_X12_in_4 (l : Launch) (D : va_G) (cI cB cJ cS : ClassId) (sz : Nat)   : Met l yX12_in (.code yX12_in cX12_in 3 (some .boolean) :: nm_big) ({ frames := 0, cells := 0, slots := 0, locals := 0 }) (nm_P D cI cB cJ cS [.int 2, .int 0, .int 2] sz []) ((fun A : Nat → Prop => va_Qi (S := Unit) (fun (r : Int32) => (fun (z : Unit) => r = 1)) (nm_B D (fun (z : Unit) => []) A) A) (va_A [] sz)) 0 0 (va_A [] sz) := by
  refine nm_Met (Qc := fun A => va_Qi (S := Unit) (fun (r : Int32) => (fun (z : Unit) => r = 1)) (nm_B D (fun (z : Unit) => []) A) A) ?_ ?_ ?_
  · decide +kernel
  · exact Nat.le_of_ble_eq_true rfl
  intro p e s m below meth c A ls hx hb hr hml hts hown hlocks hin hM hP hD hS hA hl
  have hl : lv_has ls 3 [(0, .int 2), (1, .int 0), (2, .int 2)] := hl
  have hown : s.vm.findClass RX12 = some m.cls := hown
  refine lv_iload_n hx hb dX12_in_0 rfl (lv_at hl 0 rfl) ?_
  refine lv_iload_n hx hb dX12_in_1 rfl (lv_at hl 1 rfl) ?_
  refine lv_icmp_lt (tgt := 14) hx hb dX12_in_2 (by decide) (fun c9 => absurd c9 (by decide)) (fun _ => ?_)
  refine lv_iload_n hx hb dX12_in_5 rfl (lv_at hl 0 rfl) ?_
  refine lv_iload_n hx hb dX12_in_6 rfl (lv_at hl 2 rfl) ?_
  refine lv_icmp_gt (tgt := 14) hx hb dX12_in_7 (by decide) (fun c9 => absurd c9 (by decide)) (fun _ => ?_)
  refine lv_iconst (v := 1) hx hb dX12_in_10 (by decide) ?_
  refine lv_goto (tgt := 15) hx hb dX12_in_11 (by decide) ?_
  have hP9 := hP.sub (ws' := []) [] rfl
  have hD9 := hD.sub (ws' := []) [] (by decide) rfl
  exact W.zret (v := 1) hx hb hr (by decide) (fun t ht hW => ⟨⟨1, (), rfl, rfl, by rw [ht]; exact hP9, hD9⟩, hS.F ht⟩) hS.2.2 dX12_in_15
set_option maxHeartbeats 4000000 in
set_option maxRecDepth 100000 in
theorem c_X12_told_4 (l : Launch) (D : va_G) (cI cB cJ cS : ClassId) (sz : Nat) (a0 : Nat) (v0 : Value) (v1 : Value) (v2 : Value) (v3 : Value) (v4 : Value) (v5 : Value) (v6 : Value) (v7 : Value) (v8 : Value) (v9 : Value) (v10 : Value) (v11 : Value) (v12 : Value) (v13 : Value) (v14 : Value) (v15 : Value) (v16 : Value) (v17 : Value) (v18 : Value) (v19 : Value) (v20 : Value) (v21 : Value) (v22 : Value) (v23 : Value) (v24 : Value) (v25 : Value) (v26 : Value) (v27 : Value) (v28 : Value) (v29 : Value) (v30 : Value) (v31 : Value) (v32 : Value) (v33 : Value) (v34 : Value) (v35 : Value) (v36 : Value) (v37 : Value) (v38 : Value) (v39 : Value) (v40 : Value) (v41 : Value) (v42 : Value) (v43 : Value) (v44 : Value) (v45 : Value) (v46 : Value) (v47 : Value) (v48 : Value) (v49 : Value) (v50 : Value) (v51 : Value) (v52 : Value) (v53 : Value) (v54 : Value) (v55 : Value) (v56 : Value) (v57 : Value) (v58 : Value) (v59 : Value) (v60 : Value)  : Met l yX12_told (.code yX12_told cX12_told 2 (some .int) :: nm_big) ({ frames := 1, cells := 0, slots := 0, locals := 23 }) (nm_P D cI cB cJ cS [.ref a0, .int 2] sz [(a0, .inr (11, [v0, v1, v2, v3, v4, v5, v6, v7, .int 0, v8, v9, v10, v11, v12, v13, v14, v15, v16, v17, v18, v19, v20, v21, v22, v23, v24, v25, v26, v27, v28, v29, v30, v31, v32, v33, v34, v35, v36, v37, v38, v39, v40, v41, v42, v43, v44, v45, v46, v47, v48, v49, v50, v51, v52, v53, v54, v55, v56, v57, v58, v59, v60]))]) ((fun A : Nat → Prop => va_Qi (S := Unit) (fun (r : Int32) => (fun (z : Unit) => r = 0)) (nm_B D (fun (z : Unit) => [(a0, .inr (11, [.int 0, v1, v2, v3, v4, v5, v6, v7, .int 0, v8, v9, v10, v11, v12, v13, v14, v15, v16, v17, v18, v19, v20, v21, v22, v23, v24, v25, v26, v27, v28, v29, v30, v31, v32, v33, v34, v35, v36, v37, v38, v39, v40, v41, v42, v43, v44, v45, v46, v47, v48, v49, v50, v51, v52, v53, v54, v55, v56, v57, v58, v59, v60]))]) A) A) (va_A [(a0, .inr (11, [v0, v1, v2, v3, v4, v5, v6, v7, .int 0, v8, v9, v10, v11, v12, v13, v14, v15, v16, v17, v18, v19, v20, v21, v22, v23, v24, v25, v26, v27, v28, v29, v30, v31, v32, v33, v34, v35, v36, v37, v38, v39, v40, v41, v42, v43, v44, v45, v46, v47, v48, v49, v50, v51, v52, v53, v54, v55, v56, v57, v58, v59, v60]))] sz)) 0 0 (va_A [(a0, .inr (11, [v0, v1, v2, v3, v4, v5, v6, v7, .int 0, v8, v9, v10, v11, v12, v13, v14, v15, v16, v17, v18, v19, v20, v21, v22, v23, v24, v25, v26, v27, v28, v29, v30, v31, v32, v33, v34, v35, v36, v37, v38, v39, v40, v41, v42, v43, v44, v45, v46, v47, v48, v49, v50, v51, v52, v53, v54, v55, v56, v57, v58, v59, v60]))] sz) := by
  refine nm_Met (Qc := fun A => va_Qi (S := Unit) (fun (r : Int32) => (fun (z : Unit) => r = 0)) (nm_B D (fun (z : Unit) => [(a0, .inr (11, [.int 0, v1, v2, v3, v4, v5, v6, v7, .int 0, v8, v9, v10, v11, v12, v13, v14, v15, v16, v17, v18, v19, v20, v21, v22, v23, v24, v25, v26, v27, v28, v29, v30, v31, v32, v33, v34, v35, v36, v37, v38, v39, v40, v41, v42, v43, v44, v45, v46, v47, v48, v49, v50, v51, v52, v53, v54, v55, v56, v57, v58, v59, v60]))]) A) A) ?_ ?_ ?_
  · decide +kernel
  · exact Nat.le_of_ble_eq_true rfl
  intro p e s m below meth c A ls hx hb hr hml hts hown hlocks hin hM hP hD hS hA hl
  have hl : lv_has ls 2 [(0, .ref a0), (1, .int 2)] := hl
  have hown : s.vm.findClass RX12 = some m.cls := hown
  refine lv_aload_n hx hb dX12_told_0 rfl (lv_at hl 0 rfl) ?_
  refine lv_iconst (v := 0) hx hb dX12_told_1 (by decide) ?_
  refine va_put (D := D) (ci := 11) (v := .int 0) (ty := .int) (C := RX12) (T := TX12) (N := 62) hx hb hts iw_X12 tyX12 tyX12_ok nmX12 hown hM.1 hP hD hS 0 rfl rfl 0 (by decide) (hts _ q_1495) (fun _ h9 => h9) rfl (by decide +kernel) rfl rfl (Nat.le_of_ble_eq_true rfl) dX12_told_2 (fun H locs hP hD hS => ?_)
  have hP : va_P D nm_cl [(a0, .inr (11, [.int 0, v1, v2, v3, v4, v5, v6, v7, .int 0, v8, v9, v10, v11, v12, v13, v14, v15, v16, v17, v18, v19, v20, v21, v22, v23, v24, v25, v26, v27, v28, v29, v30, v31, v32, v33, v34, v35, v36, v37, v38, v39, v40, v41, v42, v43, v44, v45, v46, v47, v48, v49, v50, v51, v52, v53, v54, v55, v56, v57, v58, v59, v60]))] H := hP
  have hD : va_D A [(a0, .inr (11, [.int 0, v1, v2, v3, v4, v5, v6, v7, .int 0, v8, v9, v10, v11, v12, v13, v14, v15, v16, v17, v18, v19, v20, v21, v22, v23, v24, v25, v26, v27, v28, v29, v30, v31, v32, v33, v34, v35, v36, v37, v38, v39, v40, v41, v42, v43, v44, v45, v46, v47, v48, v49, v50, v51, v52, v53, v54, v55, v56, v57, v58, v59, v60]))] := hD
  refine lv_aload_n hx hb dX12_told_5 rfl (lv_at hl 0 rfl) ?_
  refine lv_iload_n hx hb dX12_told_6 rfl (lv_at hl 1 rfl) ?_
  refine lv_iconst (v := 0) hx hb dX12_told_7 (by decide) ?_
  refine lv_iconst (v := 2) hx hb dX12_told_8 (by decide) ?_
  refine nm_calli (Z := Unit) (wr := [(a0, .inr (11, [.int 0, v1, v2, v3, v4, v5, v6, v7, .int 0, v8, v9, v10, v11, v12, v13, v14, v15, v16, v17, v18, v19, v20, v21, v22, v23, v24, v25, v26, v27, v28, v29, v30, v31, v32, v33, v34, v35, v36, v37, v38, v39, v40, v41, v42, v43, v44, v45, v46, v47, v48, v49, v50, v51, v52, v53, v54, v55, v56, v57, v58, v59, v60]))]) (k := 0) (n := 0) (va_runS (As := [.int 2, .int 0, .int 2]) (rest := [.ref a0]) ⟨hx, hb, hml, hown, hts⟩ (c_X12_in_4 l D cI cB cJ cS H.size) (va_cwS 3 hts (nm_gS q_1703 q_1704 q_13 q_1705) rfl rfl rfl (by decide +kernel) ⟨(Nat.le_of_ble_eq_true rfl), (Nat.le_of_ble_eq_true rfl)⟩) (nm_preS (hP.sub [] rfl) (hD.sub [] (by decide) rfl) hM) rfl rfl hl.1 rfl (lv_room (Nat.le_of_ble_eq_true rfl)) dX12_told_9 ⟨(Nat.le_of_ble_eq_true rfl), (Nat.le_of_ble_eq_true rfl)⟩) hP hD hS hA [] [0] rfl rfl (by decide) (by decide) (Nat.le_of_ble_eq_true rfl) (Nat.le_of_ble_eq_true rfl) (fun r9 u H locs hw hP hD hS => ?_)
  obtain rfl : r9 = (1 : Int32) := hw
  have hP : va_P D nm_cl [(a0, .inr (11, [.int 0, v1, v2, v3, v4, v5, v6, v7, .int 0, v8, v9, v10, v11, v12, v13, v14, v15, v16, v17, v18, v19, v20, v21, v22, v23, v24, v25, v26, v27, v28, v29, v30, v31, v32, v33, v34, v35, v36, v37, v38, v39, v40, v41, v42, v43, v44, v45, v46, v47, v48, v49, v50, v51, v52, v53, v54, v55, v56, v57, v58, v59, v60]))] H := hP
  have hD : va_D A [(a0, .inr (11, [.int 0, v1, v2, v3, v4, v5, v6, v7, .int 0, v8, v9, v10, v11, v12, v13, v14, v15, v16, v17, v18, v19, v20, v21, v22, v23, v24, v25, v26, v27, v28, v29, v30, v31, v32, v33, v34, v35, v36, v37, v38, v39, v40, v41, v42, v43, v44, v45, v46, v47, v48, v49, v50, v51, v52, v53, v54, v55, v56, v57, v58, v59, v60]))] := hD
  refine lv_if_ne (tgt := 19) hx hb dX12_told_12 (by decide) (fun _ => ?_) (fun c9 => absurd c9 (by decide))
  refine lv_iconst (v := 0) hx hb dX12_told_19 (by decide) ?_
  refine lv_iconst (v := 1) hx hb dX12_told_20 (by decide) ?_
  refine lv_iconst (v := 1) hx hb dX12_told_21 (by decide) ?_
  refine nm_calli (Z := Unit) (wr := []) (k := 0) (n := 0) (va_runV (As := [.int 0, .int 1, .int 1]) (rest := []) ⟨hx, hb, hml, hown, hts⟩ (c_X12_bad_2 l D cI cB cJ cS H.size a0 v1 v2 v3 v4 v5 v6 v7 (.int 0) v8 v9 v10 v11 v12 v13 v14 v15 v16 v17 v18 v19 v20 v21 v22 v23 v24 v25 v26 v27 v28 v29 v30 v31 v32 v33 v34 v35 v36 v37 v38 v39 v40 v41 v42 v43 v44 v45 v46 v47 v48 v49 v50 v51 v52 v53 v54 v55 v56 v57 v58 v59 v60) (cwV 3 hts (nm_gV q_1706 q_1708 qs_60 q_13 q_1709) rfl rfl rfl (by decide +kernel) ⟨(Nat.le_of_ble_eq_true rfl), (Nat.le_of_ble_eq_true rfl)⟩) (nm_preV (q := (RX12, TX12, 62)) (hP.sub [0] rfl) (hD.sub [0] (by decide) rfl) hM 0 rfl rfl) rfl rfl hl.1 rfl (lv_room (Nat.le_of_ble_eq_true rfl)) dX12_told_22 ⟨(Nat.le_of_ble_eq_true rfl), (Nat.le_of_ble_eq_true rfl)⟩) hP hD hS hA [0] [] rfl rfl (by decide) (by decide) (Nat.le_of_ble_eq_true rfl) (Nat.le_of_ble_eq_true rfl) (fun r9 u H locs hw hP hD hS => ?_)
  obtain rfl : r9 = (0 : Int32) := hw
  have hP : va_P D nm_cl [(a0, .inr (11, [.int 0, v1, v2, v3, v4, v5, v6, v7, .int 0, v8, v9, v10, v11, v12, v13, v14, v15, v16, v17, v18, v19, v20, v21, v22, v23, v24, v25, v26, v27, v28, v29, v30, v31, v32, v33, v34, v35, v36, v37, v38, v39, v40, v41, v42, v43, v44, v45, v46, v47, v48, v49, v50, v51, v52, v53, v54, v55, v56, v57, v58, v59, v60]))] H := hP
  have hD : va_D A [(a0, .inr (11, [.int 0, v1, v2, v3, v4, v5, v6, v7, .int 0, v8, v9, v10, v11, v12, v13, v14, v15, v16, v17, v18, v19, v20, v21, v22, v23, v24, v25, v26, v27, v28, v29, v30, v31, v32, v33, v34, v35, v36, v37, v38, v39, v40, v41, v42, v43, v44, v45, v46, v47, v48, v49, v50, v51, v52, v53, v54, v55, v56, v57, v58, v59, v60]))] := hD
  refine lv_if_eq (tgt := 30) hx hb dX12_told_25 (by decide) (fun _ => ?_) (fun c9 => absurd (by decide) c9)
  refine lv_iload_n hx hb dX12_told_30 rfl (lv_at hl 1 rfl) ?_
  refine lv_if_ne (tgt := 41) hx hb dX12_told_31 (by decide) (fun _ => ?_) (fun c9 => absurd c9 (by decide))
  refine lv_iload_n hx hb dX12_told_41 rfl (lv_at hl 1 rfl) ?_
  refine lv_iconst (v := 1) hx hb dX12_told_42 (by decide) ?_
  refine lv_icmp_ne (tgt := 53) hx hb dX12_told_43 (by decide) (fun _ => ?_) (fun c9 => absurd c9 (by decide))
  refine lv_aload_n hx hb dX12_told_53 rfl (lv_at hl 0 rfl) ?_
  refine va_get (D := D) (ci := 11) (v := .int 0) (C := RX12) (T := TX12) (N := 62) hx hb hts iw_X12 hown hM.1 hP 0 rfl rfl 8 (by decide) (hts _ q_1503) (fun _ h9 => h9) rfl dX12_told_54 ?_
  have hP9 := hP.sub (ws' := [(a0, .inr (11, [.int 0, v1, v2, v3, v4, v5, v6, v7, .int 0, v8, v9, v10, v11, v12, v13, v14, v15, v16, v17, v18, v19, v20, v21, v22, v23, v24, v25, v26, v27, v28, v29, v30, v31, v32, v33, v34, v35, v36, v37, v38, v39, v40, v41, v42, v43, v44, v45, v46, v47, v48, v49, v50, v51, v52, v53, v54, v55, v56, v57, v58, v59, v60]))]) [0] rfl
  have hD9 := hD.sub (ws' := [(a0, .inr (11, [.int 0, v1, v2, v3, v4, v5, v6, v7, .int 0, v8, v9, v10, v11, v12, v13, v14, v15, v16, v17, v18, v19, v20, v21, v22, v23, v24, v25, v26, v27, v28, v29, v30, v31, v32, v33, v34, v35, v36, v37, v38, v39, v40, v41, v42, v43, v44, v45, v46, v47, v48, v49, v50, v51, v52, v53, v54, v55, v56, v57, v58, v59, v60]))]) [0] (by decide) rfl
  exact W.iret (v := 0) hx hb hr (fun t ht hW => ⟨⟨0, (), rfl, rfl, by rw [ht]; exact hP9, hD9⟩, hS.F ht⟩) hS.2.2 dX12_told_57
set_option maxHeartbeats 4000000 in
set_option maxRecDepth 100000 in
theorem c_X11_told_5 (l : Launch) (hl0 : l.stackTraces = false) (D : va_G) (cI cB cJ cS : ClassId) (sz : Nat) (a0 : Nat) (a1 : Nat) (x0 : Int32) (v0 : Value) (v1 : Value) (v2 : Value) (v3 : Value) (v4 : Value) (v5 : Value) (v6 : Value) (v7 : Value) (v8 : Value) (v9 : Value) (v10 : Value) (v11 : Value) (v12 : Value) (v13 : Value) (v14 : Value) (v15 : Value) (v16 : Value) (hl_x0 : (3 : Int32) ≤ x0) : vx_Met l yX11_told (.code yX11_told cX11_told 2 (some .int) :: nm_big) ({ frames := 7, cells := 1, slots := 6, locals := 103 }) (nm_PX D cI cB cJ cS [.ref a0, .int x0] sz [(a0, .inr (10, [v0, v1, v2, v3, v4, .ref a1, v5, v6, v7, v8, v9, v10, v11, v12, v13, v14, v15, v16])), (a1, .inl (cI, 3, .inl (fun _ => 0)))]) ((fun A : Nat → Prop => va_Qi (S := Unit) (fun _ _ => False) (fun _ _ => True) A) (va_A [(a0, .inr (10, [v0, v1, v2, v3, v4, .ref a1, v5, v6, v7, v8, v9, v10, v11, v12, v13, v14, v15, v16])), (a1, .inl (cI, 3, .inl (fun _ => 0)))] sz)) ((fun A : Nat → Prop => nm_X "java/lang/IllegalArgumentException" A) (va_A [(a0, .inr (10, [v0, v1, v2, v3, v4, .ref a1, v5, v6, v7, v8, v9, v10, v11, v12, v13, v14, v15, v16])), (a1, .inl (cI, 3, .inl (fun _ => 0)))] sz)) 1 6 (va_A [(a0, .inr (10, [v0, v1, v2, v3, v4, .ref a1, v5, v6, v7, v8, v9, v10, v11, v12, v13, v14, v15, v16])), (a1, .inl (cI, 3, .inl (fun _ => 0)))] sz) := by
  refine nm_MetX (Qc := fun A => va_Qi (S := Unit) (fun _ _ => False) (fun _ _ => True) A) (XC := fun A => nm_X "java/lang/IllegalArgumentException" A) ?_ ?_ ?_
  · decide +kernel
  · exact Nat.le_of_ble_eq_true rfl
  intro p e s m below meth c A ls hx hb hr hml hts hown hlocks hout hM hTh hP hD hS hA hl
  have hl : lv_has ls 2 [(0, .ref a0), (1, .int x0)] := hl
  have hown : s.vm.findClass RX11 = some m.cls := hown
  refine lv_aload_n hx hb dX11_told_0 rfl (lv_at hl 0 rfl) ?_
  refine lv_iload_n hx hb dX11_told_1 rfl (lv_at hl 1 rfl) ?_
  refine lv_if_lt (tgt := 14) hx hb dX11_told_2 (by decide) (fun c9 => absurd c9 (nm_o2 hl_x0 (by decide))) (fun _ => ?_)
  refine lv_iload_n hx hb dX11_told_5 rfl (lv_at hl 1 rfl) ?_
  refine lv_iconst (v := 2) hx hb dX11_told_6 (by decide) ?_
  refine lv_icmp_gt (tgt := 14) hx hb dX11_told_7 (by decide) (fun _ => ?_) (fun c9 => absurd (nm_o5 hl_x0 (by decide)) c9)
  refine lv_iconst (v := 0) hx hb dX11_told_14 (by decide) ?_
  exact nm_xoutv (vx_runV (As := [.int 0]) (rest := []) ⟨hx, hb, hml, hown, hts⟩ (c_X11_needArgument_1 l hl0 D cI cB cJ cS s.heap.size a0 a1 v0 v1 v2 v3 v4 v5 v6 v7 v8 v9 v10 v11 v12 v13 v14 v15 v16) (cwV 1 hts (nm_gV q_503 q_505 qs_1 q_1 q_506) rfl rfl rfl (by decide +kernel) ⟨(Nat.le_of_ble_eq_true rfl), (Nat.le_of_ble_eq_true rfl)⟩) (nm_preXV (q := (RX11, TX11, 18)) (hP.sub [0, 1] rfl) (hD.sub [0, 1] (by decide) rfl) hM hTh hS (va_free hD hS hA [0, 1] rfl) 0 rfl rfl) rfl rfl hl.1 rfl (lv_room (Nat.le_of_ble_eq_true rfl)) dX11_told_15 ⟨(Nat.le_of_ble_eq_true rfl), (Nat.le_of_ble_eq_true rfl)⟩) (va_free hD hS hA [0, 1] rfl) hS hout hlocks (Nat.le_of_ble_eq_true rfl) (Nat.le_of_ble_eq_true rfl)
set_option maxHeartbeats 4000000 in
set_option maxRecDepth 100000 in
theorem c_L_told_5 (l : Launch) (hl0 : l.stackTraces = false) (D : va_G) (cI cB cJ cS : ClassId) (sz : Nat) (a0 : Nat) (a1 : Nat) (x0 : Int32) (b0 : Nat) (v0 : Value) (v1 : Value) (v2 : Value) (v3 : Value) (v4 : Value) (v5 : Value) (v6 : Value) (v7 : Value) (v8 : Value) (v9 : Value) (v10 : Value) (v11 : Value) (v12 : Value) (v13 : Value) (v14 : Value) (v15 : Value) (v16 : Value) (hl_x0 : (3 : Int32) ≤ x0) : vx_Met l yL_told (.codeWith yL_told cL_told 4 (some .int) [(0, 9, 12, 13)] :: nm_big) ({ frames := 8, cells := 1, slots := 6, locals := 124 }) (nm_PX D cI cB cJ cS [.ref a0, .int x0, .ref b0] sz [(a0, .inr (10, [v0, v1, v2, v3, v4, .ref a1, v5, v6, v7, v8, v9, v10, v11, v12, v13, v14, v15, v16])), (a1, .inl (cI, 3, .inl (fun _ => 0)))]) ((fun A : Nat → Prop => va_Qi (S := Unit) (fun (r : Int32) => (fun (z : Unit) => r = 1)) (nm_B D (fun (z : Unit) => []) A) A) (va_A [(a0, .inr (10, [v0, v1, v2, v3, v4, .ref a1, v5, v6, v7, v8, v9, v10, v11, v12, v13, v14, v15, v16])), (a1, .inl (cI, 3, .inl (fun _ => 0)))] sz)) ((fun A : Nat → Prop => nm_X0 A) (va_A [(a0, .inr (10, [v0, v1, v2, v3, v4, .ref a1, v5, v6, v7, v8, v9, v10, v11, v12, v13, v14, v15, v16])), (a1, .inl (cI, 3, .inl (fun _ => 0)))] sz)) 1 6 (va_A [(a0, .inr (10, [v0, v1, v2, v3, v4, .ref a1, v5, v6, v7, v8, v9, v10, v11, v12, v13, v14, v15, v16])), (a1, .inl (cI, 3, .inl (fun _ => 0)))] sz) := by
  refine nm_MetW (Qc := fun A => va_Qi (S := Unit) (fun (r : Int32) => (fun (z : Unit) => r = 1)) (nm_B D (fun (z : Unit) => []) A) A) (XC := fun A => nm_X0 A) ?_ ?_ ?_
  · decide +kernel
  · exact Nat.le_of_ble_eq_true rfl
  intro p e s m below meth c A ls hx hb hr hml hts hown hlocks htab hM hTh hP hD hS hA hl
  have hl : lv_has ls 4 [(0, .ref a0), (1, .int x0), (2, .ref b0)] := hl
  have hown : s.vm.findClass RL = some m.cls := hown
  refine lv_aload_n hx hb dL_told_0 rfl (lv_at hl 2 rfl) ?_
  refine lv_iconst (v := 0) hx hb dL_told_1 (by decide) ?_
  refine lv_aload_n hx hb dL_told_2 rfl (lv_at hl 0 rfl) ?_
  refine lv_iload_n hx hb dL_told_3 rfl (lv_at hl 1 rfl) ?_
  refine nm_xcatch (hp := 12) (k := 1) (n := 6) (vx_runV (As := [.int x0]) (rest := [.int 0, .ref b0]) ⟨hx, hb, hml, hown, hts⟩ (c_X11_told_5 l hl0 D cI cB cJ cS s.heap.size a0 a1 x0 v0 v1 v2 v3 v4 v5 v6 v7 v8 v9 v10 v11 v12 v13 v14 v15 v16 hl_x0) (cwV 1 hts (nm_gV q_1293 q_1294 q_1295 q_1 q_1296) rfl rfl rfl (by decide +kernel) ⟨(Nat.le_of_ble_eq_true rfl), (Nat.le_of_ble_eq_true rfl)⟩) (nm_preXV (q := (RX11, TX11, 18)) (hP.sub [0, 1] rfl) (hD.sub [0, 1] (by decide) rfl) hM hTh hS (va_free hD hS hA [0, 1] rfl) 0 rfl rfl) rfl rfl hl.1 rfl (lv_room (Nat.le_of_ble_eq_true rfl)) dL_told_4 ⟨(Nat.le_of_ble_eq_true rfl), (Nat.le_of_ble_eq_true rfl)⟩) (va_free hD hS hA [0, 1] rfl) hS hown _ _ htab rfl (by decide) (hts _ q_497) hM.2.2.2.2.2.2.2.2.1 rfl (Nat.le_of_ble_eq_true rfl) (Nat.le_of_ble_eq_true rfl) (fun q101 H locs hS => ?_)
  have hP : va_P D nm_cl [] H := nm_nil
  have hD : va_D A [] := nm_nilD
  refine lv_astore_n (lv' := [(3, .ref q101), (0, .ref a0), (1, .int x0), (2, .ref b0)]) hx hb dL_told_12 rfl hl (by decide) rfl (fun ls hl => ?_)
  refine lv_iconst (v := 1) hx hb dL_told_13 (by decide) ?_
  have hP9 := hP.sub (ws' := []) [] rfl
  have hD9 := hD.sub (ws' := []) [] (by decide) rfl
  exact vx_ret (W.iret (v := 1) hx hb hr (fun t ht hW => ⟨⟨1, (), rfl, rfl, by rw [ht]; exact hP9, hD9⟩, hS.F ht⟩) hS.2.2 dL_told_14)
set_option maxHeartbeats 4000000 in
set_option maxRecDepth 100000 in
theorem c_X12_in_5 (l : Launch) (D : va_G) (cI cB cJ cS : ClassId) (sz : Nat) (x0 : Int32) (hl_x0 : (3 : Int32) ≤ x0) : Met l yX12_in (.code yX12_in cX12_in 3 (some .boolean) :: nm_big) ({ frames := 0, cells := 0, slots := 0, locals := 0 }) (nm_P D cI cB cJ cS [.int x0, .int 0, .int 2] sz []) ((fun A : Nat → Prop => va_Qi (S := Unit) (fun (r : Int32) => (fun (z : Unit) => r = 0)) (nm_B D (fun (z : Unit) => []) A) A) (va_A [] sz)) 0 0 (va_A [] sz) := by
  refine nm_Met (Qc := fun A => va_Qi (S := Unit) (fun (r : Int32) => (fun (z : Unit) => r = 0)) (nm_B D (fun (z : Unit) => []) A) A) ?_ ?_ ?_
  · decide +kernel
  · exact Nat.le_of_ble_eq_true rfl
  intro p e s m below meth c A ls hx hb hr hml hts hown hlocks hin hM hP hD hS hA hl
  have hl : lv_has ls 3 [(0, .int x0), (1, .int 0), (2, .int 2)] := hl
  have hown : s.vm.findClass RX12 = some m.cls := hown
  refine lv_iload_n hx hb dX12_in_0 rfl (lv_at hl 0 rfl) ?_
  refine lv_iload_n hx hb dX12_in_1 rfl (lv_at hl 1 rfl) ?_
  refine lv_icmp_lt (tgt := 14) hx hb dX12_in_2 (by decide) (fun c9 => absurd c9 (nm_o2 hl_x0 (by decide))) (fun _ => ?_)
  refine lv_iload_n hx hb dX12_in_5 rfl (lv_at hl 0 rfl) ?_
  refine lv_iload_n hx hb dX12_in_6 rfl (lv_at hl 2 rfl) ?_
  refine lv_icmp_gt (tgt := 14) hx hb dX12_in_7 (by decide) (fun _ => ?_) (fun c9 => absurd (nm_o5 hl_x0 (by decide)) c9)
  refine lv_iconst (v := 0) hx hb dX12_in_14 (by decide) ?_
  have hP9 := hP.sub (ws' := []) [] rfl
  have hD9 := hD.sub (ws' := []) [] (by decide) rfl
  exact W.zret (v := 0) hx hb hr (by decide) (fun t ht hW => ⟨⟨0, (), rfl, rfl, by rw [ht]; exact hP9, hD9⟩, hS.F ht⟩) hS.2.2 dX12_in_15
set_option maxHeartbeats 4000000 in
set_option maxRecDepth 100000 in
theorem c_X12_told_5 (l : Launch) (D : va_G) (cI cB cJ cS : ClassId) (sz : Nat) (a0 : Nat) (a1 : Nat) (x0 : Int32) (v0 : Value) (v1 : Value) (v2 : Value) (v3 : Value) (v4 : Value) (v5 : Value) (v6 : Value) (v7 : Value) (v8 : Value) (v9 : Value) (v10 : Value) (v11 : Value) (v12 : Value) (v13 : Value) (v14 : Value) (v15 : Value) (v16 : Value) (v17 : Value) (v18 : Value) (v19 : Value) (v20 : Value) (v21 : Value) (v22 : Value) (v23 : Value) (v24 : Value) (v25 : Value) (v26 : Value) (v27 : Value) (v28 : Value) (v29 : Value) (v30 : Value) (v31 : Value) (v32 : Value) (v33 : Value) (v34 : Value) (v35 : Value) (v36 : Value) (v37 : Value) (v38 : Value) (v39 : Value) (v40 : Value) (v41 : Value) (v42 : Value) (v43 : Value) (v44 : Value) (v45 : Value) (v46 : Value) (v47 : Value) (v48 : Value) (v49 : Value) (v50 : Value) (v51 : Value) (v52 : Value) (v53 : Value) (v54 : Value) (v55 : Value) (v56 : Value) (v57 : Value) (v58 : Value) (v59 : Value) (v60 : Value) (hl_x0 : (3 : Int32) ≤ x0) : Met l yX12_told (.code yX12_told cX12_told 2 (some .int) :: nm_big) ({ frames := 1, cells := 0, slots := 0, locals := 23 }) (nm_P D cI cB cJ cS [.ref a0, .int x0] sz [(a0, .inr (11, [v0, .ref a1, v1, v2, v3, v4, v5, v6, v7, v8, v9, v10, v11, v12, v13, v14, v15, v16, v17, v18, v19, v20, v21, v22, v23, v24, v25, v26, v27, v28, v29, v30, v31, v32, v33, v34, v35, v36, v37, v38, v39, v40, v41, v42, v43, v44, v45, v46, v47, v48, v49, v50, v51, v52, v53, v54, v55, v56, v57, v58, v59, v60])), (a1, .inl (cI, 3, .inl (fun _ => 0)))]) ((fun A : Nat → Prop => va_Qi (S := Unit) (fun (r : Int32) => (fun (z : Unit) => r = 0)) (nm_B D (fun (z : Unit) => [(a0, .inr (11, [.int 1, .ref a1, v1, v2, v3, v4, v5, v6, v7, v8, v9, v10, v11, v12, v13, v14, v15, v16, v17, v18, v19, v20, v21, v22, v23, v24, v25, v26, v27, v28, v29, v30, v31, v32, v33, v34, v35, v36, v37, v38, v39, v40, v41, v42, v43, v44, v45, v46, v47, v48, v49, v50, v51, v52, v53, v54, v55, v56, v57, v58, v59, v60]))]) A) A) (va_A [(a0, .inr (11, [v0, .ref a1, v1, v2, v3, v4, v5, v6, v7, v8, v9, v10, v11, v12, v13, v14, v15, v16, v17, v18, v19, v20, v21, v22, v23, v24, v25, v26, v27, v28, v29, v30, v31, v32, v33, v34, v35, v36, v37, v38, v39, v40, v41, v42, v43, v44, v45, v46, v47, v48, v49, v50, v51, v52, v53, v54, v55, v56, v57, v58, v59, v60])), (a1, .inl (cI, 3, .inl (fun _ => 0)))] sz)) 0 0 (va_A [(a0, .inr (11, [v0, .ref a1, v1, v2, v3, v4, v5, v6, v7, v8, v9, v10, v11, v12, v13, v14, v15, v16, v17, v18, v19, v20, v21, v22, v23, v24, v25, v26, v27, v28, v29, v30, v31, v32, v33, v34, v35, v36, v37, v38, v39, v40, v41, v42, v43, v44, v45, v46, v47, v48, v49, v50, v51, v52, v53, v54, v55, v56, v57, v58, v59, v60])), (a1, .inl (cI, 3, .inl (fun _ => 0)))] sz) := by
  refine nm_Met (Qc := fun A => va_Qi (S := Unit) (fun (r : Int32) => (fun (z : Unit) => r = 0)) (nm_B D (fun (z : Unit) => [(a0, .inr (11, [.int 1, .ref a1, v1, v2, v3, v4, v5, v6, v7, v8, v9, v10, v11, v12, v13, v14, v15, v16, v17, v18, v19, v20, v21, v22, v23, v24, v25, v26, v27, v28, v29, v30, v31, v32, v33, v34, v35, v36, v37, v38, v39, v40, v41, v42, v43, v44, v45, v46, v47, v48, v49, v50, v51, v52, v53, v54, v55, v56, v57, v58, v59, v60]))]) A) A) ?_ ?_ ?_
  · decide +kernel
  · exact Nat.le_of_ble_eq_true rfl
  intro p e s m below meth c A ls hx hb hr hml hts hown hlocks hin hM hP hD hS hA hl
  have hl : lv_has ls 2 [(0, .ref a0), (1, .int x0)] := hl
  have hown : s.vm.findClass RX12 = some m.cls := hown
  refine lv_aload_n hx hb dX12_told_0 rfl (lv_at hl 0 rfl) ?_
  refine lv_iconst (v := 0) hx hb dX12_told_1 (by decide) ?_
  refine va_put (D := D) (ci := 11) (v := .int 0) (ty := .int) (C := RX12) (T := TX12) (N := 62) hx hb hts iw_X12 tyX12 tyX12_ok nmX12 hown hM.1 hP hD hS 0 rfl rfl 0 (by decide) (hts _ q_1495) (fun _ h9 => h9) rfl (by decide +kernel) rfl rfl (Nat.le_of_ble_eq_true rfl) dX12_told_2 (fun H locs hP hD hS => ?_)
  have hP : va_P D nm_cl [(a0, .inr (11, [.int 0, .ref a1, v1, v2, v3, v4, v5, v6, v7, v8, v9, v10, v11, v12, v13, v14, v15, v16, v17, v18, v19, v20, v21, v22, v23, v24, v25, v26, v27, v28, v29, v30, v31, v32, v33, v34, v35, v36, v37, v38, v39, v40, v41, v42, v43, v44, v45, v46, v47, v48, v49, v50, v51, v52, v53, v54, v55, v56, v57, v58, v59, v60])), (a1, .inl (cI, 3, .inl (fun _ => 0)))] H := hP
  have hD : va_D A [(a0, .inr (11, [.int 0, .ref a1, v1, v2, v3, v4, v5, v6, v7, v8, v9, v10, v11, v12, v13, v14, v15, v16, v17, v18, v19, v20, v21, v22, v23, v24, v25, v26, v27, v28, v29, v30, v31, v32, v33, v34, v35, v36, v37, v38, v39, v40, v41, v42, v43, v44, v45, v46, v47, v48, v49, v50, v51, v52, v53, v54, v55, v56, v57, v58, v59, v60])), (a1, .inl (cI, 3, .inl (fun _ => 0)))] := hD
  refine lv_aload_n hx hb dX12_told_5 rfl (lv_at hl 0 rfl) ?_
  refine lv_iload_n hx hb dX12_told_6 rfl (lv_at hl 1 rfl) ?_
  refine lv_iconst (v := 0) hx hb dX12_told_7 (by decide) ?_
  refine lv_iconst (v := 2) hx hb dX12_told_8 (by decide) ?_
  refine nm_calli (Z := Unit) (wr := [(a0, .inr (11, [.int 0, .ref a1, v1, v2, v3, v4, v5, v6, v7, v8, v9, v10, v11, v12, v13, v14, v15, v16, v17, v18, v19, v20, v21, v22, v23, v24, v25, v26, v27, v28, v29, v30, v31, v32, v33, v34, v35, v36, v37, v38, v39, v40, v41, v42, v43, v44, v45, v46, v47, v48, v49, v50, v51, v52, v53, v54, v55, v56, v57, v58, v59, v60])), (a1, .inl (cI, 3, .inl (fun _ => 0)))]) (k := 0) (n := 0) (va_runS (As := [.int x0, .int 0, .int 2]) (rest := [.ref a0]) ⟨hx, hb, hml, hown, hts⟩ (c_X12_in_5 l D cI cB cJ cS H.size x0 hl_x0) (va_cwS 3 hts (nm_gS q_1703 q_1704 q_13 q_1705) rfl rfl rfl (by decide +kernel) ⟨(Nat.le_of_ble_eq_true rfl), (Nat.le_of_ble_eq_true rfl)⟩) (nm_preS (hP.sub [] rfl) (hD.sub [] (by decide) rfl) hM) rfl rfl hl.1 rfl (lv_room (Nat.le_of_ble_eq_true rfl)) dX12_told_9 ⟨(Nat.le_of_ble_eq_true rfl), (Nat.le_of_ble_eq_true rfl)⟩) hP hD hS hA [] [0, 1] rfl rfl (by decide) (by decide) (Nat.le_of_ble_eq_true rfl) (Nat.le_of_ble_eq_true rfl) (fun r9 u H locs hw hP hD hS => ?_)
  obtain rfl : r9 = (0 : Int32) := hw
  have hP : va_P D nm_cl [(a0, .inr (11, [.int 0, .ref a1, v1, v2, v3, v4, v5, v6, v7, v8, v9, v10, v11, v12, v13, v14, v15, v16, v17, v18, v19, v20, v21, v22, v23, v24, v25, v26, v27, v28, v29, v30, v31, v32, v33, v34, v35, v36, v37, v38, v39, v40, v41, v42, v43, v44, v45, v46, v47, v48, v49, v50, v51, v52, v53, v54, v55, v56, v57, v58, v59, v60])), (a1, .inl (cI, 3, .inl (fun _ => 0)))] H := hP
  have hD : va_D A [(a0, .inr (11, [.int 0, .ref a1, v1, v2, v3, v4, v5, v6, v7, v8, v9, v10, v11, v12, v13, v14, v15, v16, v17, v18, v19, v20, v21, v22, v23, v24, v25, v26, v27, v28, v29, v30, v31, v32, v33, v34, v35, v36, v37, v38, v39, v40, v41, v42, v43, v44, v45, v46, v47, v48, v49, v50, v51, v52, v53, v54, v55, v56, v57, v58, v59, v60])), (a1, .inl (cI, 3, .inl (fun _ => 0)))] := hD
  refine lv_if_ne (tgt := 19) hx hb dX12_told_12 (by decide) (fun c9 => absurd (by decide) c9) (fun _ => ?_)
  refine lv_iconst (v := 1) hx hb dX12_told_15 (by decide) ?_
  refine lv_goto (tgt := 20) hx hb dX12_told_16 (by decide) ?_
  refine lv_iconst (v := 1) hx hb dX12_told_20 (by decide) ?_
  refine lv_iconst (v := 1) hx hb dX12_told_21 (by decide) ?_
  refine nm_calli (Z := (Nat → Int32)) (wr := []) (k := 0) (n := 0) (va_runV (As := [.int 1, .int 1, .int 1]) (rest := []) ⟨hx, hb, hml, hown, hts⟩ (c_X12_bad_1 l D cI cB cJ cS H.size a0 a1 v1 v2 v3 v4 v5 v6 v7 v8 v9 v10 v11 v12 v13 v14 v15 v16 v17 v18 v19 v20 v21 v22 v23 v24 v25 v26 v27 v28 v29 v30 v31 v32 v33 v34 v35 v36 v37 v38 v39 v40 v41 v42 v43 v44 v45 v46 v47 v48 v49 v50 v51 v52 v53 v54 v55 v56 v57 v58 v59 v60) (cwV 3 hts (nm_gV q_1706 q_1708 qs_60 q_13 q_1709) rfl rfl rfl (by decide +kernel) ⟨(Nat.le_of_ble_eq_true rfl), (Nat.le_of_ble_eq_true rfl)⟩) (nm_preV (q := (RX12, TX12, 62)) (hP.sub [0, 1] rfl) (hD.sub [0, 1] (by decide) rfl) hM 0 rfl rfl) rfl rfl hl.1 rfl (lv_room (Nat.le_of_ble_eq_true rfl)) dX12_told_22 ⟨(Nat.le_of_ble_eq_true rfl), (Nat.le_of_ble_eq_true rfl)⟩) hP hD hS hA [0, 1] [] rfl rfl (by decide) (by decide) (Nat.le_of_ble_eq_true rfl) (Nat.le_of_ble_eq_true rfl) (fun r9 u H locs hw hP hD hS => ?_)
  obtain ⟨f101, rfl⟩ : ∃ z, z = u := ⟨_, rfl⟩
  obtain rfl : r9 = (1 : Int32) := hw
  have hP : va_P D nm_cl [(a0, .inr (11, [.int 1, .ref a1, v1, v2, v3, v4, v5, v6, v7, v8, v9, v10, v11, v12, v13, v14, v15, v16, v17, v18, v19, v20, v21, v22, v23, v24, v25, v26, v27, v28, v29, v30, v31, v32, v33, v34, v35, v36, v37, v38, v39, v40, v41, v42, v43, v44, v45, v46, v47, v48, v49, v50, v51, v52, v53, v54, v55, v56, v57, v58, v59, v60])), (a1, .inl (cI, 3, .inl f101))] H := hP
  have hD : va_D A [(a0, .inr (11, [.int 1, .ref a1, v1, v2, v3, v4, v5, v6, v7, v8, v9, v10, v11, v12, v13, v14, v15, v16, v17, v18, v19, v20, v21, v22, v23, v24, v25, v26, v27, v28, v29, v30, v31, v32, v33, v34, v35, v36, v37, v38, v39, v40, v41, v42, v43, v44, v45, v46, v47, v48, v49, v50, v51, v52, v53, v54, v55, v56, v57, v58, v59, v60])), (a1, .inl (cI, 3, .inl f101))] := hD
  refine lv_if_eq (tgt := 30) hx hb dX12_told_25 (by decide) (fun c9 => absurd c9 (by decide)) (fun _ => ?_)
  refine lv_iconst (v := 0) hx hb dX12_told_28 (by decide) ?_
  have hP9 := hP.sub (ws' := [(a0, .inr (11, [.int 1, .ref a1, v1, v2, v3, v4, v5, v6, v7, v8, v9, v10, v11, v12, v13, v14, v15, v16, v17, v18, v19, v20, v21, v22, v23, v24, v25, v26, v27, v28, v29, v30, v31, v32, v33, v34, v35, v36, v37, v38, v39, v40, v41, v42, v43, v44, v45, v46, v47, v48, v49, v50, v51, v52, v53, v54, v55, v56, v57, v58, v59, v60]))]) [0] rfl
  have hD9 := hD.sub (ws' := [(a0, .inr (11, [.int 1, .ref a1, v1, v2, v3, v4, v5, v6, v7, v8, v9, v10, v11, v12, v13, v14, v15, v16, v17, v18, v19, v20, v21, v22, v23, v24, v25, v26, v27, v28, v29, v30, v31, v32, v33, v34, v35, v36, v37, v38, v39, v40, v41, v42, v43, v44, v45, v46, v47, v48, v49, v50, v51, v52, v53, v54, v55, v56, v57, v58, v59, v60]))]) [0] (by decide) rfl
  exact W.iret (v := 0) hx hb hr (fun t ht hW => ⟨⟨0, (), rfl, rfl, by rw [ht]; exact hP9, hD9⟩, hS.F ht⟩) hS.2.2 dX12_told_29
set_option maxHeartbeats 4000000 in
set_option maxRecDepth 100000 in
theorem c_X11_needElement_1 (l : Launch) (hl0 : l.stackTraces = false) (D : va_G) (cI cB cJ cS : ClassId) (sz : Nat) (a0 : Nat) (a1 : Nat) (v0 : Value) (v1 : Value) (v2 : Value) (v3 : Value) (v4 : Value) (v5 : Value) (v6 : Value) (v7 : Value) (v8 : Value) (v9 : Value) (v10 : Value) (v11 : Value) (v12 : Value) (v13 : Value) (v14 : Value) (v15 : Value) (v16 : Value)  : vx_Met l yX11_needElement (.code yX11_needElement cX11_needElement 2 none :: nm_big) ({ frames := 6, cells := 1, slots := 6, locals := 82 }) (nm_PX D cI cB cJ cS [.ref a0, .int 0] sz [(a0, .inr (10, [v0, v1, v2, v3, v4, .ref a1, v5, v6, v7, v8, v9, v10, v11, v12, v13, v14, v15, v16])), (a1, .inl (cI, 3, .inl (fun _ => 0)))]) ((fun A : Nat → Prop => va_Qv (S := Unit) (fun _ => False) (fun _ _ => True) A) (va_A [(a0, .inr (10, [v0, v1, v2, v3, v4, .ref a1, v5, v6, v7, v8, v9, v10, v11, v12, v13, v14, v15, v16])), (a1, .inl (cI, 3, .inl (fun _ => 0)))] sz)) ((fun A : Nat → Prop => nm_X "java/util/NoSuchElementException" A) (va_A [(a0, .inr (10, [v0, v1, v2, v3, v4, .ref a1, v5, v6, v7, v8, v9, v10, v11, v12, v13, v14, v15, v16])), (a1, .inl (cI, 3, .inl (fun _ => 0)))] sz)) 1 6 (va_A [(a0, .inr (10, [v0, v1, v2, v3, v4, .ref a1, v5, v6, v7, v8, v9, v10, v11, v12, v13, v14, v15, v16])), (a1, .inl (cI, 3, .inl (fun _ => 0)))] sz) := by
  refine nm_MetX (Qc := fun A => va_Qv (S := Unit) (fun _ => False) (fun _ _ => True) A) (XC := fun A => nm_X "java/util/NoSuchElementException" A) ?_ ?_ ?_
  · decide +kernel
  · exact Nat.le_of_ble_eq_true rfl
  intro p e s m below meth c A ls hx hb hr hml hts hown hlocks hout hM hTh hP hD hS hA hl
  have hl : lv_has ls 2 [(0, .ref a0), (1, .int 0)] := hl
  have hown : s.vm.findClass RX11 = some m.cls := hown
  refine lv_iload_n hx hb dX11_needElement_0 rfl (lv_at hl 1 rfl) ?_
  refine lv_if_ne (tgt := 25) hx hb dX11_needElement_1 (by decide) (fun c9 => absurd (by decide) c9) (fun _ => ?_)
  refine lv_aload_n hx hb dX11_needElement_4 rfl (lv_at hl 0 rfl) ?_
  refine va_get (D := D) (ci := 10) (v := .ref a1) (C := RX11) (T := TX11) (N := 18) hx hb hts iw_X11 hown hM.1 hP 0 rfl rfl 5 (by decide) (hts _ q_386) (fun _ h9 => h9) rfl dX11_needElement_5 ?_
  refine lv_iconst (v := 0) hx hb dX11_needElement_8 (by decide) ?_
  refine lv_dup2_11 hx hb dX11_needElement_9 rfl rfl ?_
  refine va_iald hx hb hM.1 hP 1 0 rfl rfl (nm_vin (by decide)) dX11_needElement_10 ?_
  refine lv_topi (fun z101 e9 => ?_)
  obtain rfl : z101 = (0 : Int32) := e9
  refine lv_iconst (v := 1) hx hb dX11_needElement_11 (by decide) ?_
  refine lv_iadd hx hb dX11_needElement_12 ?_
  refine lv_topi (fun z102 e9 => ?_)
  obtain rfl : z102 = (1 : Int32) := e9.trans (by decide)
  refine va_iast hx hb hM.1 hP hD hS 1 0 rfl rfl (nm_vin (by decide)) dX11_needElement_13 (fun H locs hP hD hS => ?_)
  have hP : va_P D nm_cl [(a0, .inr (10, [v0, v1, v2, v3, v4, .ref a1, v5, v6, v7, v8, v9, v10, v11, v12, v13, v14, v15, v16])), (a1, .inl (cI, 3, .inl (upd (fun _ => 0) (Int32.toNatClampNeg 0) 1)))] H := hP
  have hD : va_D A [(a0, .inr (10, [v0, v1, v2, v3, v4, .ref a1, v5, v6, v7, v8, v9, v10, v11, v12, v13, v14, v15, v16])), (a1, .inl (cI, 3, .inl (upd (fun _ => 0) (Int32.toNatClampNeg 0) 1)))] := hD
  obtain ⟨f103, hf9⟩ : ∃ g : Nat → Int32, g = (upd (fun _ => 0) (Int32.toNatClampNeg 0) 1) := ⟨_, rfl⟩
  rw [← hf9] at hP hD
  obtain ⟨sa, hstr⟩ := hM.2.2.2.2.2.2.2.1
  exact nm_throwN hx hb hl0 hown (hts _ q_1231) (hts _ q_27) hstr (nm_at hts hTh hM.2.2.2.2.2.2.2.2.2 nm_tN1 nm_tN2) nm_tN3 hTh.1 hTh.2.1 hS (hl.1.trans hml.symm) dX11_needElement_14 dX11_needElement_17 dX11_needElement_18 dX11_needElement_21 dX11_needElement_24 (fun x hx => (hout x hx).elim) (Nat.le_of_ble_eq_true rfl) (Nat.le_of_ble_eq_true rfl) (Nat.le_of_ble_eq_true rfl) (Nat.le_of_ble_eq_true rfl) hlocks (nm_tx hS) hS.2.2 (Nat.le_of_ble_eq_true rfl) (Nat.le_of_ble_eq_true rfl)
set_option maxHeartbeats 4000000 in
set_option maxRecDepth 100000 in
theorem c_X11_needSymbol_1 (l : Launch) (hl0 : l.stackTraces = false) (D : va_G) (cI cB cJ cS : ClassId) (sz : Nat) (a0 : Nat) (a1 : Nat) (x0 : Int32) (v0 : Value) (v1 : Value) (v2 : Value) (v3 : Value) (v4 : Value) (v5 : Value) (v6 : Value) (v7 : Value) (v8 : Value) (v9 : Value) (v10 : Value) (v11 : Value) (v12 : Value) (v13 : Value) (v14 : Value) (v15 : Value) (v16 : Value) (hh_x0 : x0 ≤ (-1 : Int32)) : vx_Met l yX11_needSymbol (.code yX11_needSymbol cX11_needSymbol 2 none :: nm_big) ({ frames := 7, cells := 1, slots := 6, locals := 103 }) (nm_PX D cI cB cJ cS [.ref a0, .int x0] sz [(a0, .inr (10, [v0, v1, v2, v3, v4, .ref a1, v5, v6, v7, v8, v9, v10, v11, v12, v13, v14, v15, v16])), (a1, .inl (cI, 3, .inl (fun _ => 0)))]) ((fun A : Nat → Prop => va_Qv (S := Unit) (fun _ => False) (fun _ _ => True) A) (va_A [(a0, .inr (10, [v0, v1, v2, v3, v4, .ref a1, v5, v6, v7, v8, v9, v10, v11, v12, v13, v14, v15, v16])), (a1, .inl (cI, 3, .inl (fun _ => 0)))] sz)) ((fun A : Nat → Prop => nm_X "java/util/NoSuchElementException" A) (va_A [(a0, .inr (10, [v0, v1, v2, v3, v4, .ref a1, v5, v6, v7, v8, v9, v10, v11, v12, v13, v14, v15, v16])), (a1, .inl (cI, 3, .inl (fun _ => 0)))] sz)) 1 6 (va_A [(a0, .inr (10, [v0, v1, v2, v3, v4, .ref a1, v5, v6, v7, v8, v9, v10, v11, v12, v13, v14, v15, v16])), (a1, .inl (cI, 3, .inl (fun _ => 0)))] sz) := by
  refine nm_MetX (Qc := fun A => va_Qv (S := Unit) (fun _ => False) (fun _ _ => True) A) (XC := fun A => nm_X "java/util/NoSuchElementException" A) ?_ ?_ ?_
  · decide +kernel
  · exact Nat.le_of_ble_eq_true rfl
  intro p e s m below meth c A ls hx hb hr hml hts hown hlocks hout hM hTh hP hD hS hA hl
  have hl : lv_has ls 2 [(0, .ref a0), (1, .int x0)] := hl
  have hown : s.vm.findClass RX11 = some m.cls := hown
  refine lv_aload_n hx hb dX11_needSymbol_0 rfl (lv_at hl 0 rfl) ?_
  refine lv_iload_n hx hb dX11_needSymbol_1 rfl (lv_at hl 1 rfl) ?_
  refine lv_if_lt (tgt := 20) hx hb dX11_needSymbol_2 (by decide) (fun _ => ?_) (fun c9 => absurd (nm_o1 hh_x0 (by decide)) c9)
  refine lv_iconst (v := 0) hx hb dX11_needSymbol_20 (by decide) ?_
  exact nm_xoutv (vx_runV (As := [.int 0]) (rest := []) ⟨hx, hb, hml, hown, hts⟩ (c_X11_needElement_1 l hl0 D cI cB cJ cS s.heap.size a0 a1 v0 v1 v2 v3 v4 v5 v6 v7 v8 v9 v10 v11 v12 v13 v14 v15 v16) (cwV 1 hts (nm_gV q_1227 q_1229 qs_49 q_1 q_1230) rfl rfl rfl (by decide +kernel) ⟨(Nat.le_of_ble_eq_true rfl), (Nat.le_of_ble_eq_true rfl)⟩) (nm_preXV (q := (RX11, TX11, 18)) (hP.sub [0, 1] rfl) (hD.sub [0, 1] (by decide) rfl) hM hTh hS (va_free hD hS hA [0, 1] rfl) 0 rfl rfl) rfl rfl hl.1 rfl (lv_room (Nat.le_of_ble_eq_true rfl)) dX11_needSymbol_21 ⟨(Nat.le_of_ble_eq_true rfl), (Nat.le_of_ble_eq_true rfl)⟩) (va_free hD hS hA [0, 1] rfl) hS hout hlocks (Nat.le_of_ble_eq_true rfl) (Nat.le_of_ble_eq_true rfl)
set_option maxHeartbeats 4000000 in
set_option maxRecDepth 100000 in
theorem c_X11_forget_1 (l : Launch) (hl0 : l.stackTraces = false) (D : va_G) (cI cB cJ cS : ClassId) (sz : Nat) (a0 : Nat) (a1 : Nat) (x0 : Int32) (v0 : Value) (v1 : Value) (v2 : Value) (v3 : Value) (v4 : Value) (v5 : Value) (v6 : Value) (v7 : Value) (v8 : Value) (v9 : Value) (v10 : Value) (v11 : Value) (v12 : Value) (v13 : Value) (v14 : Value) (v15 : Value) (v16 : Value) (hh_x0 : x0 ≤ (-1 : Int32)) : vx_Met l yX11_forget (.code yX11_forget cX11_forget 3 (some .int) :: nm_big) ({ frames := 8, cells := 1, slots := 6, locals := 124 }) (nm_PX D cI cB cJ cS [.ref a0, .int x0] sz [(a0, .inr (10, [v0, v1, v2, v3, v4, .ref a1, v5, v6, v7, v8, v9, v10, v11, v12, v13, v14, v15, v16])), (a1, .inl (cI, 3, .inl (fun _ => 0)))]) ((fun A : Nat → Prop => va_Qi (S := Unit) (fun _ _ => False) (fun _ _ => True) A) (va_A [(a0, .inr (10, [v0, v1, v2, v3, v4, .ref a1, v5, v6, v7, v8, v9, v10, v11, v12, v13, v14, v15, v16])), (a1, .inl (cI, 3, .inl (fun _ => 0)))] sz)) ((fun A : Nat → Prop => nm_X "java/util/NoSuchElementException" A) (va_A [(a0, .inr (10, [v0, v1, v2, v3, v4, .ref a1, v5, v6, v7, v8, v9, v10, v11, v12, v13, v14, v15, v16])), (a1, .inl (cI, 3, .inl (fun _ => 0)))] sz)) 1 6 (va_A [(a0, .inr (10, [v0, v1, v2, v3, v4, .ref a1, v5, v6, v7, v8, v9, v10, v11, v12, v13, v14, v15, v16])), (a1, .inl (cI, 3, .inl (fun _ => 0)))] sz) := by
  refine nm_MetX (Qc := fun A => va_Qi (S := Unit) (fun _ _ => False) (fun _ _ => True) A) (XC := fun A => nm_X "java/util/NoSuchElementException" A) ?_ ?_ ?_
  · decide +kernel
  · exact Nat.le_of_ble_eq_true rfl
  intro p e s m below meth c A ls hx hb hr hml hts hown hlocks hout hM hTh hP hD hS hA hl
  have hl : lv_has ls 3 [(0, .ref a0), (1, .int x0)] := hl
  have hown : s.vm.findClass RX11 = some m.cls := hown
  refine lv_aload_n hx hb dX11_forget_0 rfl (lv_at hl 0 rfl) ?_
  refine lv_iload_n hx hb dX11_forget_1 rfl (lv_at hl 1 rfl) ?_
  exact nm_xoutv (vx_runV (As := [.int x0]) (rest := []) ⟨hx, hb, hml, hown, hts⟩ (c_X11_needSymbol_1 l hl0 D cI cB cJ cS s.heap.size a0 a1 x0 v0 v1 v2 v3 v4 v5 v6 v7 v8 v9 v10 v11 v12 v13 v14 v15 v16 hh_x0) (cwV 1 hts (nm_gV q_1223 q_1225 qs_48 q_1 q_1226) rfl rfl rfl (by decide +kernel) ⟨(Nat.le_of_ble_eq_true rfl), (Nat.le_of_ble_eq_true rfl)⟩) (nm_preXV (q := (RX11, TX11, 18)) (hP.sub [0, 1] rfl) (hD.sub [0, 1] (by decide) rfl) hM hTh hS (va_free hD hS hA [0, 1] rfl) 0 rfl rfl) rfl rfl hl.1 rfl (lv_room (Nat.le_of_ble_eq_true rfl)) dX11_forget_2 ⟨(Nat.le_of_ble_eq_true rfl), (Nat.le_of_ble_eq_true rfl)⟩) (va_free hD hS hA [0, 1] rfl) hS hout hlocks (Nat.le_of_ble_eq_true rfl) (Nat.le_of_ble_eq_true rfl)
set_option maxHeartbeats 4000000 in
set_option maxRecDepth 100000 in
theorem c_L_forget_1 (l : Launch) (hl0 : l.stackTraces = false) (D : va_G) (cI cB cJ cS : ClassId) (sz : Nat) (a0 : Nat) (a1 : Nat) (x0 : Int32) (b0 : Nat) (v0 : Value) (v1 : Value) (v2 : Value) (v3 : Value) (v4 : Value) (v5 : Value) (v6 : Value) (v7 : Value) (v8 : Value) (v9 : Value) (v10 : Value) (v11 : Value) (v12 : Value) (v13 : Value) (v14 : Value) (v15 : Value) (v16 : Value) (hh_x0 : x0 ≤ (-1 : Int32)) : vx_Met l yL_forget (.codeWith yL_forget cL_forget 4 (some .int) [(0, 9, 12, 23)] :: nm_big) ({ frames := 9, cells := 1, slots := 6, locals := 146 }) (nm_PX D cI cB cJ cS [.ref a0, .int x0, .ref b0] sz [(a0, .inr (10, [v0, v1, v2, v3, v4, .ref a1, v5, v6, v7, v8, v9, v10, v11, v12, v13, v14, v15, v16])), (a1, .inl (cI, 3, .inl (fun _ => 0)))]) ((fun A : Nat → Prop => va_Qi (S := Unit) (fun (r : Int32) => (fun (z : Unit) => r = 1)) (nm_B D (fun (z : Unit) => []) A) A) (va_A [(a0, .inr (10, [v0, v1, v2, v3, v4, .ref a1, v5, v6, v7, v8, v9, v10, v11, v12, v13, v14, v15, v16])), (a1, .inl (cI, 3, .inl (fun _ => 0)))] sz)) ((fun A : Nat → Prop => nm_X0 A) (va_A [(a0, .inr (10, [v0, v1, v2, v3, v4, .ref a1, v5, v6, v7, v8, v9, v10, v11, v12, v13, v14, v15, v16])), (a1, .inl (cI, 3, .inl (fun _ => 0)))] sz)) 1 6 (va_A [(a0, .inr (10, [v0, v1, v2, v3, v4, .ref a1, v5, v6, v7, v8, v9, v10, v11, v12, v13, v14, v15, v16])), (a1, .inl (cI, 3, .inl (fun _ => 0)))] sz) := by
  refine nm_MetW (Qc := fun A => va_Qi (S := Unit) (fun (r : Int32) => (fun (z : Unit) => r = 1)) (nm_B D (fun (z : Unit) => []) A) A) (XC := fun A => nm_X0 A) ?_ ?_ ?_
  · decide +kernel
  · exact Nat.le_of_ble_eq_true rfl
  intro p e s m below meth c A ls hx hb hr hml hts hown hlocks htab hM hTh hP hD hS hA hl
  have hl : lv_has ls 4 [(0, .ref a0), (1, .int x0), (2, .ref b0)] := hl
  have hown : s.vm.findClass RL = some m.cls := hown
  refine lv_aload_n hx hb dL_forget_0 rfl (lv_at hl 2 rfl) ?_
  refine lv_iconst (v := 0) hx hb dL_forget_1 (by decide) ?_
  refine lv_aload_n hx hb dL_forget_2 rfl (lv_at hl 0 rfl) ?_
  refine lv_iload_n hx hb dL_forget_3 rfl (lv_at hl 1 rfl) ?_
  refine nm_xcatch (hp := 12) (k := 1) (n := 6) (vx_runV (As := [.int x0]) (rest := [.int 0, .ref b0]) ⟨hx, hb, hml, hown, hts⟩ (c_X11_forget_1 l hl0 D cI cB cJ cS s.heap.size a0 a1 x0 v0 v1 v2 v3 v4 v5 v6 v7 v8 v9 v10 v11 v12 v13 v14 v15 v16 hh_x0) (cwV 1 hts (nm_gV q_1219 q_1220 q_1221 q_1 q_1222) rfl rfl rfl (by decide +kernel) ⟨(Nat.le_of_ble_eq_true rfl), (Nat.le_of_ble_eq_true rfl)⟩) (nm_preXV (q := (RX11, TX11, 18)) (hP.sub [0, 1] rfl) (hD.sub [0, 1] (by decide) rfl) hM hTh hS (va_free hD hS hA [0, 1] rfl) 0 rfl rfl) rfl rfl hl.1 rfl (lv_room (Nat.le_of_ble_eq_true rfl)) dL_forget_4 ⟨(Nat.le_of_ble_eq_true rfl), (Nat.le_of_ble_eq_true rfl)⟩) (va_free hD hS hA [0, 1] rfl) hS hown _ _ htab rfl (by decide) (hts _ q_1218) hM.2.2.2.2.2.2.2.2.2 rfl (Nat.le_of_ble_eq_true rfl) (Nat.le_of_ble_eq_true rfl) (fun q101 H locs hS => ?_)
  have hP : va_P D nm_cl [] H := nm_nil
  have hD : va_D A [] := nm_nilD
  refine lv_astore_n (lv' := [(3, .ref q101), (0, .ref a0), (1, .int x0), (2, .ref b0)]) hx hb dL_forget_12 rfl hl (by decide) rfl (fun ls hl => ?_)
  refine lv_iconst (v := 1) hx hb dL_forget_13 (by decide) ?_
  have hP9 := hP.sub (ws' := []) [] rfl
  have hD9 := hD.sub (ws' := []) [] (by decide) rfl
  exact vx_ret (W.iret (v := 1) hx hb hr (fun t ht hW => ⟨⟨1, (), rfl, rfl, by rw [ht]; exact hP9, hD9⟩, hS.F ht⟩) hS.2.2 dL_forget_14)
set_option maxHeartbeats 4000000 in
set_option maxRecDepth 100000 in
theorem c_X12_in_6 (l : Launch) (D : va_G) (cI cB cJ cS : ClassId) (sz : Nat) (x0 : Int32) (hh_x0 : x0 ≤ (-1 : Int32)) : Met l yX12_in (.code yX12_in cX12_in 3 (some .boolean) :: nm_big) ({ frames := 0, cells := 0, slots := 0, locals := 0 }) (nm_P D cI cB cJ cS [.int x0, .int 0, .int (-1)] sz []) ((fun A : Nat → Prop => va_Qi (S := Unit) (fun (r : Int32) => (fun (z : Unit) => r = 0)) (nm_B D (fun (z : Unit) => []) A) A) (va_A [] sz)) 0 0 (va_A [] sz) := by
  refine nm_Met (Qc := fun A => va_Qi (S := Unit) (fun (r : Int32) => (fun (z : Unit) => r = 0)) (nm_B D (fun (z : Unit) => []) A) A) ?_ ?_ ?_
  · decide +kernel
  · exact Nat.le_of_ble_eq_true rfl
  intro p e s m below meth c A ls hx hb hr hml hts hown hlocks hin hM hP hD hS hA hl
  have hl : lv_has ls 3 [(0, .int x0), (1, .int 0), (2, .int (-1))] := hl
  have hown : s.vm.findClass RX12 = some m.cls := hown
  refine lv_iload_n hx hb dX12_in_0 rfl (lv_at hl 0 rfl) ?_
  refine lv_iload_n hx hb dX12_in_1 rfl (lv_at hl 1 rfl) ?_
  refine lv_icmp_lt (tgt := 14) hx hb dX12_in_2 (by decide) (fun _ => ?_) (fun c9 => absurd (nm_o1 hh_x0 (by decide)) c9)
  refine lv_iconst (v := 0) hx hb dX12_in_14 (by decide) ?_
  have hP9 := hP.sub (ws' := []) [] rfl
  have hD9 := hD.sub (ws' := []) [] (by decide) rfl
  exact W.zret (v := 0) hx hb hr (by decide) (fun t ht hW => ⟨⟨0, (), rfl, rfl, by rw [ht]; exact hP9, hD9⟩, hS.F ht⟩) hS.2.2 dX12_in_15
set_option maxHeartbeats 4000000 in
set_option maxRecDepth 100000 in
theorem c_X12_isSymbol_1 (l : Launch) (D : va_G) (cI cB cJ cS : ClassId) (sz : Nat) (a0 : Nat) (x0 : Int32) (v0 : Value) (v1 : Value) (v2 : Value) (v3 : Value) (v4 : Value) (v5 : Value) (v6 : Value) (v7 : Value) (v8 : Value) (v9 : Value) (v10 : Value) (v11 : Value) (v12 : Value) (v13 : Value) (v14 : Value) (v15 : Value) (v16 : Value) (v17 : Value) (v18 : Value) (v19 : Value) (v20 : Value) (v21 : Value) (v22 : Value) (v23 : Value) (v24 : Value) (v25 : Value) (v26 : Value) (v27 : Value) (v28 : Value) (v29 : Value) (v30 : Value) (v31 : Value) (v32 : Value) (v33 : Value) (v34 : Value) (v35 : Value) (v36 : Value) (v37 : Value) (v38 : Value) (v39 : Value) (v40 : Value) (v41 : Value) (v42 : Value) (v43 : Value) (v44 : Value) (v45 : Value) (v46 : Value) (v47 : Value) (v48 : Value) (v49 : Value) (v50 : Value) (v51 : Value) (v52 : Value) (v53 : Value) (v54 : Value) (v55 : Value) (v56 : Value) (v57 : Value) (v58 : Value) (v59 : Value) (v60 : Value) (hh_x0 : x0 ≤ (-1 : Int32)) : Met l yX12_isSymbol (.code yX12_isSymbol cX12_isSymbol 2 (some .boolean) :: nm_big) ({ frames := 1, cells := 0, slots := 0, locals := 22 }) (nm_P D cI cB cJ cS [.ref a0, .int x0] sz [(a0, .inr (11, [v0, v1, v2, v3, v4, v5, v6, .int 0, v7, v8, v9, v10, v11, v12, v13, v14, v15, v16, v17, v18, v19, v20, v21, v22, v23, v24, v25, v26, v27, v28, v29, v30, v31, v32, v33, v34, v35, v36, v37, v38, v39, v40, v41, v42, v43, v44, v45, v46, v47, v48, v49, v50, v51, v52, v53, v54, v55, v56, v57, v58, v59, v60]))]) ((fun A : Nat → Prop => va_Qi (S := Unit) (fun (r : Int32) => (fun (z : Unit) => r = 0)) (nm_B D (fun (z : Unit) => [(a0, .inr (11, [v0, v1, v2, v3, v4, v5, v6, .int 0, v7, v8, v9, v10, v11, v12, v13, v14, v15, v16, v17, v18, v19, v20, v21, v22, v23, v24, v25, v26, v27, v28, v29, v30, v31, v32, v33, v34, v35, v36, v37, v38, v39, v40, v41, v42, v43, v44, v45, v46, v47, v48, v49, v50, v51, v52, v53, v54, v55, v56, v57, v58, v59, v60]))]) A) A) (va_A [(a0, .inr (11, [v0, v1, v2, v3, v4, v5, v6, .int 0, v7, v8, v9, v10, v11, v12, v13, v14, v15, v16, v17, v18, v19, v20, v21, v22, v23, v24, v25, v26, v27, v28, v29, v30, v31, v32, v33, v34, v35, v36, v37, v38, v39, v40, v41, v42, v43, v44, v45, v46, v47, v48, v49, v50, v51, v52, v53, v54, v55, v56, v57, v58, v59, v60]))] sz)) 0 0 (va_A [(a0, .inr (11, [v0, v1, v2, v3, v4, v5, v6, .int 0, v7, v8, v9, v10, v11, v12, v13, v14, v15, v16, v17, v18, v19, v20, v21, v22, v23, v24, v25, v26, v27, v28, v29, v30, v31, v32, v33, v34, v35, v36, v37, v38, v39, v40, v41, v42, v43, v44, v45, v46, v47, v48, v49, v50, v51, v52, v53, v54, v55, v56, v57, v58, v59, v60]))] sz) := by
  refine nm_Met (Qc := fun A => va_Qi (S := Unit) (fun (r : Int32) => (fun (z : Unit) => r = 0)) (nm_B D (fun (z : Unit) => [(a0, .inr (11, [v0, v1, v2, v3, v4, v5, v6, .int 0, v7, v8, v9, v10, v11, v12, v13, v14, v15, v16, v17, v18, v19, v20, v21, v22, v23, v24, v25, v26, v27, v28, v29, v30, v31, v32, v33, v34, v35, v36, v37, v38, v39, v40, v41, v42, v43, v44, v45, v46, v47, v48, v49, v50, v51, v52, v53, v54, v55, v56, v57, v58, v59, v60]))]) A) A) ?_ ?_ ?_
  · decide +kernel
  · exact Nat.le_of_ble_eq_true rfl
  intro p e s m below meth c A ls hx hb hr hml hts hown hlocks hin hM hP hD hS hA hl
  have hl : lv_has ls 2 [(0, .ref a0), (1, .int x0)] := hl
  have hown : s.vm.findClass RX12 = some m.cls := hown
  refine lv_iload_n hx hb dX12_isSymbol_0 rfl (lv_at hl 1 rfl) ?_
  refine lv_iconst (v := 0) hx hb dX12_isSymbol_1 (by decide) ?_
  refine lv_aload_n hx hb dX12_isSymbol_2 rfl (lv_at hl 0 rfl) ?_
  refine va_get (D := D) (ci := 11) (v := .int 0) (C := RX12) (T := TX12) (N := 62) hx hb hts iw_X12 hown hM.1 hP 0 rfl rfl 7 (by decide) (hts _ q_1502) (fun _ h9 => h9) rfl dX12_isSymbol_3 ?_
  refine lv_iconst (v := 1) hx hb dX12_isSymbol_6 (by decide) ?_
  refine lv_isub hx hb dX12_isSymbol_7 ?_
  refine lv_topi (fun z101 e9 => ?_)
  obtain rfl : z101 = (-1 : Int32) := e9.trans (by decide)
  refine nm_calli (Z := Unit) (wr := [(a0, .inr (11, [v0, v1, v2, v3, v4, v5, v6, .int 0, v7, v8, v9, v10, v11, v12, v13, v14, v15, v16, v17, v18, v19, v20, v21, v22, v23, v24, v25, v26, v27, v28, v29, v30, v31, v32, v33, v34, v35, v36, v37, v38, v39, v40, v41, v42, v43, v44, v45, v46, v47, v48, v49, v50, v51, v52, v53, v54, v55, v56, v57, v58, v59, v60]))]) (k := 0) (n := 0) (va_runS (As := [.int x0, .int 0, .int (-1)]) (rest := []) ⟨hx, hb, hml, hown, hts⟩ (c_X12_in_6 l D cI cB cJ cS s.heap.size x0 hh_x0) (va_cwS 3 hts (nm_gS q_1703 q_1704 q_13 q_1705) rfl rfl rfl (by decide +kernel) ⟨(Nat.le_of_ble_eq_true rfl), (Nat.le_of_ble_eq_true rfl)⟩) (nm_preS (hP.sub [] rfl) (hD.sub [] (by decide) rfl) hM) rfl rfl hl.1 rfl (lv_room (Nat.le_of_ble_eq_true rfl)) dX12_isSymbol_8 ⟨(Nat.le_of_ble_eq_true rfl), (Nat.le_of_ble_eq_true rfl)⟩) hP hD hS hA [] [0] rfl rfl (by decide) (by decide) (Nat.le_of_ble_eq_true rfl) (Nat.le_of_ble_eq_true rfl) (fun r9 u H locs hw hP hD hS => ?_)
  obtain rfl : r9 = (0 : Int32) := hw
  have hP : va_P D nm_cl [(a0, .inr (11, [v0, v1, v2, v3, v4, v5, v6, .int 0, v7, v8, v9, v10, v11, v12, v13, v14, v15, v16, v17, v18, v19, v20, v21, v22, v23, v24, v25, v26, v27, v28, v29, v30, v31, v32, v33, v34, v35, v36, v37, v38, v39, v40, v41, v42, v43, v44, v45, v46, v47, v48, v49, v50, v51, v52, v53, v54, v55, v56, v57, v58, v59, v60]))] H := hP
  have hD : va_D A [(a0, .inr (11, [v0, v1, v2, v3, v4, v5, v6, .int 0, v7, v8, v9, v10, v11, v12, v13, v14, v15, v16, v17, v18, v19, v20, v21, v22, v23, v24, v25, v26, v27, v28, v29, v30, v31, v32, v33, v34, v35, v36, v37, v38, v39, v40, v41, v42, v43, v44, v45, v46, v47, v48, v49, v50, v51, v52, v53, v54, v55, v56, v57, v58, v59, v60]))] := hD
  have hP9 := hP.sub (ws' := [(a0, .inr (11, [v0, v1, v2, v3, v4, v5, v6, .int 0, v7, v8, v9, v10, v11, v12, v13, v14, v15, v16, v17, v18, v19, v20, v21, v22, v23, v24, v25, v26, v27, v28, v29, v30, v31, v32, v33, v34, v35, v36, v37, v38, v39, v40, v41, v42, v43, v44, v45, v46, v47, v48, v49, v50, v51, v52, v53, v54, v55, v56, v57, v58, v59, v60]))]) [0] rfl
  have hD9 := hD.sub (ws' := [(a0, .inr (11, [v0, v1, v2, v3, v4, v5, v6, .int 0, v7, v8, v9, v10, v11, v12, v13, v14, v15, v16, v17, v18, v19, v20, v21, v22, v23, v24, v25, v26, v27, v28, v29, v30, v31, v32, v33, v34, v35, v36, v37, v38, v39, v40, v41, v42, v43, v44, v45, v46, v47, v48, v49, v50, v51, v52, v53, v54, v55, v56, v57, v58, v59, v60]))]) [0] (by decide) rfl
  exact W.zret (v := 0) hx hb hr (by decide) (fun t ht hW => ⟨⟨0, (), rfl, rfl, by rw [ht]; exact hP9, hD9⟩, hS.F ht⟩) hS.2.2 dX12_isSymbol_11
set_option maxHeartbeats 4000000 in
set_option maxRecDepth 100000 in
theorem c_X12_bad_3 (l : Launch) (D : va_G) (cI cB cJ cS : ClassId) (sz : Nat) (a0 : Nat) (a1 : Nat) (v0 : Value) (v1 : Value) (v2 : Value) (v3 : Value) (v4 : Value) (v5 : Value) (v6 : Value) (v7 : Value) (v8 : Value) (v9 : Value) (v10 : Value) (v11 : Value) (v12 : Value) (v13 : Value) (v14 : Value) (v15 : Value) (v16 : Value) (v17 : Value) (v18 : Value) (v19 : Value) (v20 : Value) (v21 : Value) (v22 : Value) (v23 : Value) (v24 : Value) (v25 : Value) (v26 : Value) (v27 : Value) (v28 : Value) (v29 : Value) (v30 : Value) (v31 : Value) (v32 : Value) (v33 : Value) (v34 : Value) (v35 : Value) (v36 : Value) (v37 : Value) (v38 : Value) (v39 : Value) (v40 : Value) (v41 : Value) (v42 : Value) (v43 : Value) (v44 : Value) (v45 : Value) (v46 : Value) (v47 : Value) (v48 : Value) (v49 : Value) (v50 : Value) (v51 : Value) (v52 : Value) (v53 : Value) (v54 : Value) (v55 : Value) (v56 : Value) (v57 : Value) (v58 : Value) (v59 : Value)  : Met l yX12_bad (.code yX12_bad cX12_bad 4 (some .boolean) :: nm_big) ({ frames := 0, cells := 0, slots := 0, locals := 0 }) (nm_P D cI cB cJ cS [.ref a0, .int 1, .int 1, .int 0] sz [(a0, .inr (11, [.int 0, .ref a1, v0, v1, v2, v3, v4, v5, v6, v7, v8, v9, v10, v11, v12, v13, v14, v15, v16, v17, v18, v19, v20, v21, v22, v23, v24, v25, v26, v27, v28, v29, v30, v31, v32, v33, v34, v35, v36, v37, v38, v39, v40, v41, v42, v43, v44, v45, v46, v47, v48, v49, v50, v51, v52, v53, v54, v55, v56, v57, v58, v59])), (a1, .inl (cI, 3, .inl (fun _ => 0)))]) ((fun A : Nat → Prop => va_Qi (S := (Nat → Int32)) (fun (r : Int32) => (fun (f103 : (Nat → Int32)) => r = 1)) (nm_B D (fun (f103 : (Nat → Int32)) => [(a0, .inr (11, [.int 1, .ref a1, v0, v1, v2, v3, v4, v5, v6, v7, v8, v9, v10, v11, v12, v13, v14, v15, v16, v17, v18, v19, v20, v21, v22, v23, v24, v25, v26, v27, v28, v29, v30, v31, v32, v33, v34, v35, v36, v37, v38, v39, v40, v41, v42, v43, v44, v45, v46, v47, v48, v49, v50, v51, v52, v53, v54, v55, v56, v57, v58, v59])), (a1, .inl (cI, 3, .inl f103))]) A) A) (va_A [(a0, .inr (11, [.int 0, .ref a1, v0, v1, v2, v3, v4, v5, v6, v7, v8, v9, v10, v11, v12, v13, v14, v15, v16, v17, v18, v19, v20, v21, v22, v23, v24, v25, v26, v27, v28, v29, v30, v31, v32, v33, v34, v35, v36, v37, v38, v39, v40, v41, v42, v43, v44, v45, v46, v47, v48, v49, v50, v51, v52, v53, v54, v55, v56, v57, v58, v59])), (a1, .inl (cI, 3, .inl (fun _ => 0)))] sz)) 0 0 (va_A [(a0, .inr (11, [.int 0, .ref a1, v0, v1, v2, v3, v4, v5, v6, v7, v8, v9, v10, v11, v12, v13, v14, v15, v16, v17, v18, v19, v20, v21, v22, v23, v24, v25, v26, v27, v28, v29, v30, v31, v32, v33, v34, v35, v36, v37, v38, v39, v40, v41, v42, v43, v44, v45, v46, v47, v48, v49, v50, v51, v52, v53, v54, v55, v56, v57, v58, v59])), (a1, .inl (cI, 3, .inl (fun _ => 0)))] sz) := by
  refine nm_Met (Qc := fun A => va_Qi (S := (Nat → Int32)) (fun (r : Int32) => (fun (f103 : (Nat → Int32)) => r = 1)) (nm_B D (fun (f103 : (Nat → Int32)) => [(a0, .inr (11, [.int 1, .ref a1, v0, v1, v2, v3, v4, v5, v6, v7, v8, v9, v10, v11, v12, v13, v14, v15, v16, v17, v18, v19, v20, v21, v22, v23, v24, v25, v26, v27, v28, v29, v30, v31, v32, v33, v34, v35, v36, v37, v38, v39, v40, v41, v42, v43, v44, v45, v46, v47, v48, v49, v50, v51, v52, v53, v54, v55, v56, v57, v58, v59])), (a1, .inl (cI, 3, .inl f103))]) A) A) ?_ ?_ ?_
  · decide +kernel
  · exact Nat.le_of_ble_eq_true rfl
  intro p e s m below meth c A ls hx hb hr hml hts hown hlocks hin hM hP hD hS hA hl
  have hl : lv_has ls 4 [(0, .ref a0), (1, .int 1), (2, .int 1), (3, .int 0)] := hl
  have hown : s.vm.findClass RX12 = some m.cls := hown
  refine lv_iload_n hx hb dX12_bad_0 rfl (lv_at hl 1 rfl) ?_
  refine lv_if_eq (tgt := 26) hx hb dX12_bad_1 (by decide) (fun c9 => absurd c9 (by decide)) (fun _ => ?_)
  refine lv_aload_n hx hb dX12_bad_4 rfl (lv_at hl 0 rfl) ?_
  refine va_get (D := D) (ci := 11) (v := .int 0) (C := RX12) (T := TX12) (N := 62) hx hb hts iw_X12 hown hM.1 hP 0 rfl rfl 0 (by decide) (hts _ q_1495) (fun _ h9 => h9) rfl dX12_bad_5 ?_
  refine lv_if_ne (tgt := 26) hx hb dX12_bad_8 (by decide) (fun c9 => absurd (by decide) c9) (fun _ => ?_)
  refine lv_aload_n hx hb dX12_bad_11 rfl (lv_at hl 0 rfl) ?_
  refine lv_iload_n hx hb dX12_bad_12 rfl (lv_at hl 2 rfl) ?_
  refine va_put (D := D) (ci := 11) (v := .int 1) (ty := .int) (C := RX12) (T := TX12) (N := 62) hx hb hts iw_X12 tyX12 tyX12_ok nmX12 hown hM.1 hP hD hS 0 rfl rfl 0 (by decide) (hts _ q_1495) (fun _ h9 => h9) rfl (by decide +kernel) rfl rfl (Nat.le_of_ble_eq_true rfl) dX12_bad_13 (fun H locs hP hD hS => ?_)
  have hP : va_P D nm_cl [(a0, .inr (11, [.int 1, .ref a1, v0, v1, v2, v3, v4, v5, v6, v7, v8, v9, v10, v11, v12, v13, v14, v15, v16, v17, v18, v19, v20, v21, v22, v23, v24, v25, v26, v27, v28, v29, v30, v31, v32, v33, v34, v35, v36, v37, v38, v39, v40, v41, v42, v43, v44, v45, v46, v47, v48, v49, v50, v51, v52, v53, v54, v55, v56, v57, v58, v59])), (a1, .inl (cI, 3, .inl (fun _ => 0)))] H := hP
  have hD : va_D A [(a0, .inr (11, [.int 1, .ref a1, v0, v1, v2, v3, v4, v5, v6, v7, v8, v9, v10, v11, v12, v13, v14, v15, v16, v17, v18, v19, v20, v21, v22, v23, v24, v25, v26, v27, v28, v29, v30, v31, v32, v33, v34, v35, v36, v37, v38, v39, v40, v41, v42, v43, v44, v45, v46, v47, v48, v49, v50, v51, v52, v53, v54, v55, v56, v57, v58, v59])), (a1, .inl (cI, 3, .inl (fun _ => 0)))] := hD
  refine lv_aload_n hx hb dX12_bad_16 rfl (lv_at hl 0 rfl) ?_
  refine va_get (D := D) (ci := 11) (v := .ref a1) (C := RX12) (T := TX12) (N := 62) hx hb hts iw_X12 hown hM.1 hP 0 rfl rfl 1 (by decide) (hts _ q_1496) (fun _ h9 => h9) rfl dX12_bad_17 ?_
  refine lv_iload_n hx hb dX12_bad_20 rfl (lv_at hl 3 rfl) ?_
  refine lv_dup2_11 hx hb dX12_bad_21 rfl rfl ?_
  refine va_iald hx hb hM.1 hP 1 0 rfl rfl (nm_vin (by decide)) dX12_bad_22 ?_
  refine lv_topi (fun z101 e9 => ?_)
  obtain rfl : z101 = (0 : Int32) := e9
  refine lv_iconst (v := 1) hx hb dX12_bad_23 (by decide) ?_
  refine lv_iadd hx hb dX12_bad_24 ?_
  refine lv_topi (fun z102 e9 => ?_)
  obtain rfl : z102 = (1 : Int32) := e9.trans (by decide)
  refine va_iast hx hb hM.1 hP hD hS 1 0 rfl rfl (nm_vin (by decide)) dX12_bad_25 (fun H locs hP hD hS => ?_)
  have hP : va_P D nm_cl [(a0, .inr (11, [.int 1, .ref a1, v0, v1, v2, v3, v4, v5, v6, v7, v8, v9, v10, v11, v12, v13, v14, v15, v16, v17, v18, v19, v20, v21, v22, v23, v24, v25, v26, v27, v28, v29, v30, v31, v32, v33, v34, v35, v36, v37, v38, v39, v40, v41, v42, v43, v44, v45, v46, v47, v48, v49, v50, v51, v52, v53, v54, v55, v56, v57, v58, v59])), (a1, .inl (cI, 3, .inl (upd (fun _ => 0) (Int32.toNatClampNeg 0) 1)))] H := hP
  have hD : va_D A [(a0, .inr (11, [.int 1, .ref a1, v0, v1, v2, v3, v4, v5, v6, v7, v8, v9, v10, v11, v12, v13, v14, v15, v16, v17, v18, v19, v20, v21, v22, v23, v24, v25, v26, v27, v28, v29, v30, v31, v32, v33, v34, v35, v36, v37, v38, v39, v40, v41, v42, v43, v44, v45, v46, v47, v48, v49, v50, v51, v52, v53, v54, v55, v56, v57, v58, v59])), (a1, .inl (cI, 3, .inl (upd (fun _ => 0) (Int32.toNatClampNeg 0) 1)))] := hD
  obtain ⟨f103, hf9⟩ : ∃ g : Nat → Int32, g = (upd (fun _ => 0) (Int32.toNatClampNeg 0) 1) := ⟨_, rfl⟩
  rw [← hf9] at hP hD
  refine lv_aload_n hx hb dX12_bad_26 rfl (lv_at hl 0 rfl) ?_
  refine va_get (D := D) (ci := 11) (v := .int 1) (C := RX12) (T := TX12) (N := 62) hx hb hts iw_X12 hown hM.1 hP 0 rfl rfl 0 (by decide) (hts _ q_1495) (fun _ h9 => h9) rfl dX12_bad_27 ?_
  refine lv_if_eq (tgt := 37) hx hb dX12_bad_30 (by decide) (fun c9 => absurd c9 (by decide)) (fun _ => ?_)
  refine lv_iconst (v := 1) hx hb dX12_bad_33 (by decide) ?_
  refine lv_goto (tgt := 38) hx hb dX12_bad_34 (by decide) ?_
  have hP9 := hP.sub (ws' := [(a0, .inr (11, [.int 1, .ref a1, v0, v1, v2, v3, v4, v5, v6, v7, v8, v9, v10, v11, v12, v13, v14, v15, v16, v17, v18, v19, v20, v21, v22, v23, v24, v25, v26, v27, v28, v29, v30, v31, v32, v33, v34, v35, v36, v37, v38, v39, v40, v41, v42, v43, v44, v45, v46, v47, v48, v49, v50, v51, v52, v53, v54, v55, v56, v57, v58, v59])), (a1, .inl (cI, 3, .inl f103))]) [0, 1] rfl
  have hD9 := hD.sub (ws' := [(a0, .inr (11, [.int 1, .ref a1, v0, v1, v2, v3, v4, v5, v6, v7, v8, v9, v10, v11, v12, v13, v14, v15, v16, v17, v18, v19, v20, v21, v22, v23, v24, v25, v26, v27, v28, v29, v30, v31, v32, v33, v34, v35, v36, v37, v38, v39, v40, v41, v42, v43, v44, v45, v46, v47, v48, v49, v50, v51, v52, v53, v54, v55, v56, v57, v58, v59])), (a1, .inl (cI, 3, .inl f103))]) [0, 1] (by decide) rfl
  exact W.zret (v := 1) hx hb hr (by decide) (fun t ht hW => ⟨⟨1, f103, rfl, rfl, by rw [ht]; exact hP9, hD9⟩, hS.F ht⟩) hS.2.2 dX12_bad_38
set_option maxHeartbeats 4000000 in
set_option maxRecDepth 100000 in
theorem c_X12_forget_1 (l : Launch) (D : va_G) (cI cB cJ cS : ClassId) (sz : Nat) (a0 : Nat) (a1 : Nat) (x0 : Int32) (v0 : Value) (v1 : Value) (v2 : Value) (v3 : Value) (v4 : Value) (v5 : Value) (v6 : Value) (v7 : Value) (v8 : Value) (v9 : Value) (v10 : Value) (v11 : Value) (v12 : Value) (v13 : Value) (v14 : Value) (v15 : Value) (v16 : Value) (v17 : Value) (v18 : Value) (v19 : Value) (v20 : Value) (v21 : Value) (v22 : Value) (v23 : Value) (v24 : Value) (v25 : Value) (v26 : Value) (v27 : Value) (v28 : Value) (v29 : Value) (v30 : Value) (v31 : Value) (v32 : Value) (v33 : Value) (v34 : Value) (v35 : Value) (v36 : Value) (v37 : Value) (v38 : Value) (v39 : Value) (v40 : Value) (v41 : Value) (v42 : Value) (v43 : Value) (v44 : Value) (v45 : Value) (v46 : Value) (v47 : Value) (v48 : Value) (v49 : Value) (v50 : Value) (v51 : Value) (v52 : Value) (v53 : Value) (v54 : Value) (v55 : Value) (v56 : Value) (v57 : Value) (v58 : Value) (v59 : Value) (hh_x0 : x0 ≤ (-1 : Int32)) : Met l yX12_forget (.code yX12_forget cX12_forget 3 (some .int) :: nm_big) ({ frames := 2, cells := 0, slots := 0, locals := 43 }) (nm_P D cI cB cJ cS [.ref a0, .int x0] sz [(a0, .inr (11, [v0, .ref a1, v1, v2, v3, v4, v5, .int 0, v6, v7, v8, v9, v10, v11, v12, v13, v14, v15, v16, v17, v18, v19, v20, v21, v22, v23, v24, v25, v26, v27, v28, v29, v30, v31, v32, v33, v34, v35, v36, v37, v38, v39, v40, v41, v42, v43, v44, v45, v46, v47, v48, v49, v50, v51, v52, v53, v54, v55, v56, v57, v58, v59])), (a1, .inl (cI, 3, .inl (fun _ => 0)))]) ((fun A : Nat → Prop => va_Qi (S := Unit) (fun (r : Int32) => (fun (z : Unit) => r = 0)) (nm_B D (fun (z : Unit) => [(a0, .inr (11, [.int 1, .ref a1, v1, v2, v3, v4, v5, .int 0, v6, v7, v8, v9, v10, v11, v12, v13, v14, v15, v16, v17, v18, v19, v20, v21, v22, v23, v24, v25, v26, v27, v28, v29, v30, v31, v32, v33, v34, v35, v36, v37, v38, v39, v40, v41, v42, v43, v44, v45, v46, v47, v48, v49, v50, v51, v52, v53, v54, v55, v56, v57, v58, v59]))]) A) A) (va_A [(a0, .inr (11, [v0, .ref a1, v1, v2, v3, v4, v5, .int 0, v6, v7, v8, v9, v10, v11, v12, v13, v14, v15, v16, v17, v18, v19, v20, v21, v22, v23, v24, v25, v26, v27, v28, v29, v30, v31, v32, v33, v34, v35, v36, v37, v38, v39, v40, v41, v42, v43, v44, v45, v46, v47, v48, v49, v50, v51, v52, v53, v54, v55, v56, v57, v58, v59])), (a1, .inl (cI, 3, .inl (fun _ => 0)))] sz)) 0 0 (va_A [(a0, .inr (11, [v0, .ref a1, v1, v2, v3, v4, v5, .int 0, v6, v7, v8, v9, v10, v11, v12, v13, v14, v15, v16, v17, v18, v19, v20, v21, v22, v23, v24, v25, v26, v27, v28, v29, v30, v31, v32, v33, v34, v35, v36, v37, v38, v39, v40, v41, v42, v43, v44, v45, v46, v47, v48, v49, v50, v51, v52, v53, v54, v55, v56, v57, v58, v59])), (a1, .inl (cI, 3, .inl (fun _ => 0)))] sz) := by
  refine nm_Met (Qc := fun A => va_Qi (S := Unit) (fun (r : Int32) => (fun (z : Unit) => r = 0)) (nm_B D (fun (z : Unit) => [(a0, .inr (11, [.int 1, .ref a1, v1, v2, v3, v4, v5, .int 0, v6, v7, v8, v9, v10, v11, v12, v13, v14, v15, v16, v17, v18, v19, v20, v21, v22, v23, v24, v25, v26, v27, v28, v29, v30, v31, v32, v33, v34, v35, v36, v37, v38, v39, v40, v41, v42, v43, v44, v45, v46, v47, v48, v49, v50, v51, v52, v53, v54, v55, v56, v57, v58, v59]))]) A) A) ?_ ?_ ?_
  · decide +kernel
  · exact Nat.le_of_ble_eq_true rfl
  intro p e s m below meth c A ls hx hb hr hml hts hown hlocks hin hM hP hD hS hA hl
  have hl : lv_has ls 3 [(0, .ref a0), (1, .int x0)] := hl
  have hown : s.vm.findClass RX12 = some m.cls := hown
  refine lv_aload_n hx hb dX12_forget_0 rfl (lv_at hl 0 rfl) ?_
  refine lv_iconst (v := 0) hx hb dX12_forget_1 (by decide) ?_
  refine va_put (D := D) (ci := 11) (v := .int 0) (ty := .int) (C := RX12) (T := TX12) (N := 62) hx hb hts iw_X12 tyX12 tyX12_ok nmX12 hown hM.1 hP hD hS 0 rfl rfl 0 (by decide) (hts _ q_1495) (fun _ h9 => h9) rfl (by decide +kernel) rfl rfl (Nat.le_of_ble_eq_true rfl) dX12_forget_2 (fun H locs hP hD hS => ?_)
  have hP : va_P D nm_cl [(a0, .inr (11, [.int 0, .ref a1, v1, v2, v3, v4, v5, .int 0, v6, v7, v8, v9, v10, v11, v12, v13, v14, v15, v16, v17, v18, v19, v20, v21, v22, v23, v24, v25, v26, v27, v28, v29, v30, v31, v32, v33, v34, v35, v36, v37, v38, v39, v40, v41, v42, v43, v44, v45, v46, v47, v48, v49, v50, v51, v52, v53, v54, v55, v56, v57, v58, v59])), (a1, .inl (cI, 3, .inl (fun _ => 0)))] H := hP
  have hD : va_D A [(a0, .inr (11, [.int 0, .ref a1, v1, v2, v3, v4, v5, .int 0, v6, v7, v8, v9, v10, v11, v12, v13, v14, v15, v16, v17, v18, v19, v20, v21, v22, v23, v24, v25, v26, v27, v28, v29, v30, v31, v32, v33, v34, v35, v36, v37, v38, v39, v40, v41, v42, v43, v44, v45, v46, v47, v48, v49, v50, v51, v52, v53, v54, v55, v56, v57, v58, v59])), (a1, .inl (cI, 3, .inl (fun _ => 0)))] := hD
  refine lv_aload_n hx hb dX12_forget_5 rfl (lv_at hl 0 rfl) ?_
  refine lv_aload_n hx hb dX12_forget_6 rfl (lv_at hl 0 rfl) ?_
  refine lv_iload_n hx hb dX12_forget_7 rfl (lv_at hl 1 rfl) ?_
  refine nm_calli (Z := Unit) (wr := [(a1, .inl (cI, 3, .inl (fun _ => 0)))]) (k := 0) (n := 0) (va_runV (As := [.int x0]) (rest := [.ref a0]) ⟨hx, hb, hml, hown, hts⟩ (c_X12_isSymbol_1 l D cI cB cJ cS H.size a0 x0 (.int 0) (.ref a1) v1 v2 v3 v4 v5 v6 v7 v8 v9 v10 v11 v12 v13 v14 v15 v16 v17 v18 v19 v20 v21 v22 v23 v24 v25 v26 v27 v28 v29 v30 v31 v32 v33 v34 v35 v36 v37 v38 v39 v40 v41 v42 v43 v44 v45 v46 v47 v48 v49 v50 v51 v52 v53 v54 v55 v56 v57 v58 v59 hh_x0) (cwV 1 hts (nm_gV q_2038 q_2040 qs_122 q_13 q_2041) rfl rfl rfl (by decide +kernel) ⟨(Nat.le_of_ble_eq_true rfl), (Nat.le_of_ble_eq_true rfl)⟩) (nm_preV (q := (RX12, TX12, 62)) (hP.sub [0] rfl) (hD.sub [0] (by decide) rfl) hM 0 rfl rfl) rfl rfl hl.1 rfl (lv_room (Nat.le_of_ble_eq_true rfl)) dX12_forget_8 ⟨(Nat.le_of_ble_eq_true rfl), (Nat.le_of_ble_eq_true rfl)⟩) hP hD hS hA [0] [1] rfl rfl (by decide) (by decide) (Nat.le_of_ble_eq_true rfl) (Nat.le_of_ble_eq_true rfl) (fun r9 u H locs hw hP hD hS => ?_)
  obtain rfl : r9 = (0 : Int32) := hw
  have hP : va_P D nm_cl [(a1, .inl (cI, 3, .inl (fun _ => 0))), (a0, .inr (11, [.int 0, .ref a1, v1, v2, v3, v4, v5, .int 0, v6, v7, v8, v9, v10, v11, v12, v13, v14, v15, v16, v17, v18, v19, v20, v21, v22, v23, v24, v25, v26, v27, v28, v29, v30, v31, v32, v33, v34, v35, v36, v37, v38, v39, v40, v41, v42, v43, v44, v45, v46, v47, v48, v49, v50, v51, v52, v53, v54, v55, v56, v57, v58, v59]))] H := hP
  have hD : va_D A [(a1, .inl (cI, 3, .inl (fun _ => 0))), (a0, .inr (11, [.int 0, .ref a1, v1, v2, v3, v4, v5, .int 0, v6, v7, v8, v9, v10, v11, v12, v13, v14, v15, v16, v17, v18, v19, v20, v21, v22, v23, v24, v25, v26, v27, v28, v29, v30, v31, v32, v33, v34, v35, v36, v37, v38, v39, v40, v41, v42, v43, v44, v45, v46, v47, v48, v49, v50, v51, v52, v53, v54, v55, v56, v57, v58, v59]))] := hD
  refine lv_if_ne (tgt := 18) hx hb dX12_forget_11 (by decide) (fun c9 => absurd (by decide) c9) (fun _ => ?_)
  refine lv_iconst (v := 1) hx hb dX12_forget_14 (by decide) ?_
  refine lv_goto (tgt := 19) hx hb dX12_forget_15 (by decide) ?_
  refine lv_iconst (v := 1) hx hb dX12_forget_19 (by decide) ?_
  refine lv_iconst (v := 0) hx hb dX12_forget_20 (by decide) ?_
  refine nm_calli (Z := (Nat → Int32)) (wr := []) (k := 0) (n := 0) (va_runV (As := [.int 1, .int 1, .int 0]) (rest := []) ⟨hx, hb, hml, hown, hts⟩ (c_X12_bad_3 l D cI cB cJ cS H.size a0 a1 v1 v2 v3 v4 v5 (.int 0) v6 v7 v8 v9 v10 v11 v12 v13 v14 v15 v16 v17 v18 v19 v20 v21 v22 v23 v24 v25 v26 v27 v28 v29 v30 v31 v32 v33 v34 v35 v36 v37 v38 v39 v40 v41 v42 v43 v44 v45 v46 v47 v48 v49 v50 v51 v52 v53 v54 v55 v56 v57 v58 v59) (cwV 3 hts (nm_gV q_1706 q_1708 qs_60 q_13 q_1709) rfl rfl rfl (by decide +kernel) ⟨(Nat.le_of_ble_eq_true rfl), (Nat.le_of_ble_eq_true rfl)⟩) (nm_preV (q := (RX12, TX12, 62)) (hP.sub [1, 0] rfl) (hD.sub [1, 0] (by decide) rfl) hM 0 rfl rfl) rfl rfl hl.1 rfl (lv_room (Nat.le_of_ble_eq_true rfl)) dX12_forget_21 ⟨(Nat.le_of_ble_eq_true rfl), (Nat.le_of_ble_eq_true rfl)⟩) hP hD hS hA [1, 0] [] rfl rfl (by decide) (by decide) (Nat.le_of_ble_eq_true rfl) (Nat.le_of_ble_eq_true rfl) (fun r9 u H locs hw hP hD hS => ?_)
  obtain ⟨f101, rfl⟩ : ∃ z, z = u := ⟨_, rfl⟩
  obtain rfl : r9 = (1 : Int32) := hw
  have hP : va_P D nm_cl [(a0, .inr (11, [.int 1, .ref a1, v1, v2, v3, v4, v5, .int 0, v6, v7, v8, v9, v10, v11, v12, v13, v14, v15, v16, v17, v18, v19, v20, v21, v22, v23, v24, v25, v26, v27, v28, v29, v30, v31, v32, v33, v34, v35, v36, v37, v38, v39, v40, v41, v42, v43, v44, v45, v46, v47, v48, v49, v50, v51, v52, v53, v54, v55, v56, v57, v58, v59])), (a1, .inl (cI, 3, .inl f101))] H := hP
  have hD : va_D A [(a0, .inr (11, [.int 1, .ref a1, v1, v2, v3, v4, v5, .int 0, v6, v7, v8, v9, v10, v11, v12, v13, v14, v15, v16, v17, v18, v19, v20, v21, v22, v23, v24, v25, v26, v27, v28, v29, v30, v31, v32, v33, v34, v35, v36, v37, v38, v39, v40, v41, v42, v43, v44, v45, v46, v47, v48, v49, v50, v51, v52, v53, v54, v55, v56, v57, v58, v59])), (a1, .inl (cI, 3, .inl f101))] := hD
  refine lv_if_eq (tgt := 29) hx hb dX12_forget_24 (by decide) (fun c9 => absurd c9 (by decide)) (fun _ => ?_)
  refine lv_iconst (v := 0) hx hb dX12_forget_27 (by decide) ?_
  have hP9 := hP.sub (ws' := [(a0, .inr (11, [.int 1, .ref a1, v1, v2, v3, v4, v5, .int 0, v6, v7, v8, v9, v10, v11, v12, v13, v14, v15, v16, v17, v18, v19, v20, v21, v22, v23, v24, v25, v26, v27, v28, v29, v30, v31, v32, v33, v34, v35, v36, v37, v38, v39, v40, v41, v42, v43, v44, v45, v46, v47, v48, v49, v50, v51, v52, v53, v54, v55, v56, v57, v58, v59]))]) [0] rfl
  have hD9 := hD.sub (ws' := [(a0, .inr (11, [.int 1, .ref a1, v1, v2, v3, v4, v5, .int 0, v6, v7, v8, v9, v10, v11, v12, v13, v14, v15, v16, v17, v18, v19, v20, v21, v22, v23, v24, v25, v26, v27, v28, v29, v30, v31, v32, v33, v34, v35, v36, v37, v38, v39, v40, v41, v42, v43, v44, v45, v46, v47, v48, v49, v50, v51, v52, v53, v54, v55, v56, v57, v58, v59]))]) [0] (by decide) rfl
  exact W.iret (v := 0) hx hb hr (fun t ht hW => ⟨⟨0, (), rfl, rfl, by rw [ht]; exact hP9, hD9⟩, hS.F ht⟩) hS.2.2 dX12_forget_28
set_option maxHeartbeats 4000000 in
set_option maxRecDepth 100000 in
theorem c_X11_needSymbol_2 (l : Launch) (hl0 : l.stackTraces = false) (D : va_G) (cI cB cJ cS : ClassId) (sz : Nat) (a0 : Nat) (a1 : Nat) (a2 : Nat) (a3 : Nat) (x0 : Int32) (v0 : Value) (v1 : Value) (v2 : Value) (v3 : Value) (v4 : Value) (v5 : Value) (v6 : Value) (v7 : Value) (v8 : Value) (v9 : Value) (v10 : Value) (v11 : Value) (v12 : Value) (v13 : Value) (v14 : Value) (f15 : Nat → Option Nat) (v16 : Value) (v17 : Value) (ef15_0 : f15 0 = some a2) (hl_x0 : (0 : Int32) ≤ x0) : vx_Met l yX11_needSymbol (.code yX11_needSymbol cX11_needSymbol 2 none :: nm_big) ({ frames := 7, cells := 1, slots := 6, locals := 103 }) (nm_PX D cI cB cJ cS [.ref a0, .int x0] sz [(a0, .inr (10, [v0, .ref a1, .int 0, v1, v2, .ref a3, v3, v4, v5, v6, v7, v8, v9, v10, v11, v12, v13, v14])), (a1, .inl (cS, 10, .inr (.inr (.inr (.inr f15))))), (a2, .inr (4, [v16, v17, .int 0])), (a3, .inl (cI, 3, .inl (fun _ => 0)))]) ((fun A : Nat → Prop => va_Qv (S := Unit) (fun _ => False) (fun _ _ => True) A) (va_A [(a0, .inr (10, [v0, .ref a1, .int 0, v1, v2, .ref a3, v3, v4, v5, v6, v7, v8, v9, v10, v11, v12, v13, v14])), (a1, .inl (cS, 10, .inr (.inr (.inr (.inr f15))))), (a2, .inr (4, [v16, v17, .int 0])), (a3, .inl (cI, 3, .inl (fun _ => 0)))] sz)) ((fun A : Nat → Prop => nm_X "java/util/NoSuchElementException" A) (va_A [(a0, .inr (10, [v0, .ref a1, .int 0, v1, v2, .ref a3, v3, v4, v5, v6, v7, v8, v9, v10, v11, v12, v13, v14])), (a1, .inl (cS, 10, .inr (.inr (.inr (.inr f15))))), (a2, .inr (4, [v16, v17, .int 0])), (a3, .inl (cI, 3, .inl (fun _ => 0)))] sz)) 1 6 (va_A [(a0, .inr (10, [v0, .ref a1, .int 0, v1, v2, .ref a3, v3, v4, v5, v6, v7, v8, v9, v10, v11, v12, v13, v14])), (a1, .inl (cS, 10, .inr (.inr (.inr (.inr f15))))), (a2, .inr (4, [v16, v17, .int 0])), (a3, .inl (cI, 3, .inl (fun _ => 0)))] sz) := by
  refine nm_MetX (Qc := fun A => va_Qv (S := Unit) (fun _ => False) (fun _ _ => True) A) (XC := fun A => nm_X "java/util/NoSuchElementException" A) ?_ ?_ ?_
  · decide +kernel
  · exact Nat.le_of_ble_eq_true rfl
  intro p e s m below meth c A ls hx hb hr hml hts hown hlocks hout hM hTh hP hD hS hA hl
  have hl : lv_has ls 2 [(0, .ref a0), (1, .int x0)] := hl
  have hown : s.vm.findClass RX11 = some m.cls := hown
  refine lv_aload_n hx hb dX11_needSymbol_0 rfl (lv_at hl 0 rfl) ?_
  refine lv_iload_n hx hb dX11_needSymbol_1 rfl (lv_at hl 1 rfl) ?_
  refine lv_if_lt (tgt := 20) hx hb dX11_needSymbol_2 (by decide) (fun c9 => absurd c9 (nm_o2 hl_x0 (by decide))) (fun _ => ?_)
  refine lv_iload_n hx hb dX11_needSymbol_5 rfl (lv_at hl 1 rfl) ?_
  refine lv_aload_n hx hb dX11_needSymbol_6 rfl (lv_at hl 0 rfl) ?_
  refine nm_callr (Z := Unit) (wr := [(a2, .inr (4, [v16, v17, .int 0])), (a3, .inl (cI, 3, .inl (fun _ => 0)))]) (k := 0) (n := 0) (va_runV (As := []) (rest := [.int x0, .ref a0]) ⟨hx, hb, hml, hown, hts⟩ (c_X11_now_1 l D cI cB cJ cS s.heap.size a0 a1 v0 v1 v2 (.ref a3) v3 v4 v5 v6 v7 v8 v9 v10 v11 v12 v13 v14 f15 a2 ef15_0) (cwV 0 hts (nm_gV q_476 q_478 qs_0 q_1 q_479) rfl rfl rfl (by decide +kernel) ⟨(Nat.le_of_ble_eq_true rfl), (Nat.le_of_ble_eq_true rfl)⟩) (nm_preV (q := (RX11, TX11, 18)) (hP.sub [0, 1] rfl) (hD.sub [0, 1] (by decide) rfl) hM 0 rfl rfl) rfl rfl hl.1 rfl (lv_room (Nat.le_of_ble_eq_true rfl)) dX11_needSymbol_7 ⟨(Nat.le_of_ble_eq_true rfl), (Nat.le_of_ble_eq_true rfl)⟩) hP hD hS hA [0, 1] [2, 3] rfl rfl (by decide) (by decide) (Nat.le_of_ble_eq_true rfl) (Nat.le_of_ble_eq_true rfl) (fun u H locs hw hP hD hS => ?_)
  have h101 := hw
  have hP : va_P D nm_cl [(a2, .inr (4, [v16, v17, .int 0])), (a3, .inl (cI, 3, .inl (fun _ => 0))), (a0, .inr (10, [v0, .ref a1, .int 0, v1, v2, .ref a3, v3, v4, v5, v6, v7, v8, v9, v10, v11, v12, v13, v14])), (a1, .inl (cS, 10, .inr (.inr (.inr (.inr f15)))))] H := hP
  have hD : va_D A [(a2, .inr (4, [v16, v17, .int 0])), (a3, .inl (cI, 3, .inl (fun _ => 0))), (a0, .inr (10, [v0, .ref a1, .int 0, v1, v2, .ref a3, v3, v4, v5, v6, v7, v8, v9, v10, v11, v12, v13, v14])), (a1, .inl (cS, 10, .inr (.inr (.inr (.inr f15)))))] := hD
  refine va_get (D := D) (ci := 4) (v := .int 0) (C := RX5) (T := TX5) (N := 3) hx hb hts iw_X5 hown hM.1 hP 0 rfl rfl 2 (by decide) (hts _ q_373) (fun _ h9 => h9) rfl dX11_needSymbol_10 ?_
  refine lv_icmp_ge (tgt := 20) hx hb dX11_needSymbol_13 (by decide) (fun _ => ?_) (fun c9 => absurd (nm_o3 hl_x0 (by decide)) c9)
  refine lv_iconst (v := 0) hx hb dX11_needSymbol_20 (by decide) ?_
  exact nm_xoutv (vx_runV (As := [.int 0]) (rest := []) ⟨hx, hb, hml, hown, hts⟩ (c_X11_needElement_1 l hl0 D cI cB cJ cS H.size a0 a3 v0 (.ref a1) (.int 0) v1 v2 v3 v4 v5 v6 v7 v8 v9 v10 v11 v12 v13 v14) (cwV 1 hts (nm_gV q_1227 q_1229 qs_49 q_1 q_1230) rfl rfl rfl (by decide +kernel) ⟨(Nat.le_of_ble_eq_true rfl), (Nat.le_of_ble_eq_true rfl)⟩) (nm_preXV (q := (RX11, TX11, 18)) (hP.sub [2, 1] rfl) (hD.sub [2, 1] (by decide) rfl) hM hTh hS (va_free hD hS hA [2, 1] rfl) 0 rfl rfl) rfl rfl hl.1 rfl (lv_room (Nat.le_of_ble_eq_true rfl)) dX11_needSymbol_21 ⟨(Nat.le_of_ble_eq_true rfl), (Nat.le_of_ble_eq_true rfl)⟩) (va_free hD hS hA [2, 1] rfl) hS hout hlocks (Nat.le_of_ble_eq_true rfl) (Nat.le_of_ble_eq_true rfl)
set_option maxHeartbeats 4000000 in
set_option maxRecDepth 100000 in
theorem c_X11_forget_2 (l : Launch) (hl0 : l.stackTraces = false) (D : va_G) (cI cB cJ cS : ClassId) (sz : Nat) (a0 : Nat) (a1 : Nat) (a2 : Nat) (a3 : Nat) (x0 : Int32) (v0 : Value) (v1 : Value) (v2 : Value) (v3 : Value) (v4 : Value) (v5 : Value) (v6 : Value) (v7 : Value) (v8 : Value) (v9 : Value) (v10 : Value) (v11 : Value) (v12 : Value) (v13 : Value) (v14 : Value) (f15 : Nat → Option Nat) (v16 : Value) (v17 : Value) (ef15_0 : f15 0 = some a2) (hl_x0 : (0 : Int32) ≤ x0) : vx_Met l yX11_forget (.code yX11_forget cX11_forget 3 (some .int) :: nm_big) ({ frames := 8, cells := 1, slots := 6, locals := 124 }) (nm_PX D cI cB cJ cS [.ref a0, .int x0] sz [(a0, .inr (10, [v0, .ref a1, .int 0, v1, v2, .ref a3, v3, v4, v5, v6, v7, v8, v9, v10, v11, v12, v13, v14])), (a1, .inl (cS, 10, .inr (.inr (.inr (.inr f15))))), (a2, .inr (4, [v16, v17, .int 0])), (a3, .inl (cI, 3, .inl (fun _ => 0)))]) ((fun A : Nat → Prop => va_Qi (S := Unit) (fun _ _ => False) (fun _ _ => True) A) (va_A [(a0, .inr (10, [v0, .ref a1, .int 0, v1, v2, .ref a3, v3, v4, v5, v6, v7, v8, v9, v10, v11, v12, v13, v14])), (a1, .inl (cS, 10, .inr (.inr (.inr (.inr f15))))), (a2, .inr (4, [v16, v17, .int 0])), (a3, .inl (cI, 3, .inl (fun _ => 0)))] sz)) ((fun A : Nat → Prop => nm_X "java/util/NoSuchElementException" A) (va_A [(a0, .inr (10, [v0, .ref a1, .int 0, v1, v2, .ref a3, v3, v4, v5, v6, v7, v8, v9, v10, v11, v12, v13, v14])), (a1, .inl (cS, 10, .inr (.inr (.inr (.inr f15))))), (a2, .inr (4, [v16, v17, .int 0])), (a3, .inl (cI, 3, .inl (fun _ => 0)))] sz)) 1 6 (va_A [(a0, .inr (10, [v0, .ref a1, .int 0, v1, v2, .ref a3, v3, v4, v5, v6, v7, v8, v9, v10, v11, v12, v13, v14])), (a1, .inl (cS, 10, .inr (.inr (.inr (.inr f15))))), (a2, .inr (4, [v16, v17, .int 0])), (a3, .inl (cI, 3, .inl (fun _ => 0)))] sz) := by
  refine nm_MetX (Qc := fun A => va_Qi (S := Unit) (fun _ _ => False) (fun _ _ => True) A) (XC := fun A => nm_X "java/util/NoSuchElementException" A) ?_ ?_ ?_
  · decide +kernel
  · exact Nat.le_of_ble_eq_true rfl
  intro p e s m below meth c A ls hx hb hr hml hts hown hlocks hout hM hTh hP hD hS hA hl
  have hl : lv_has ls 3 [(0, .ref a0), (1, .int x0)] := hl
  have hown : s.vm.findClass RX11 = some m.cls := hown
  refine lv_aload_n hx hb dX11_forget_0 rfl (lv_at hl 0 rfl) ?_
  refine lv_iload_n hx hb dX11_forget_1 rfl (lv_at hl 1 rfl) ?_
  exact nm_xoutv (vx_runV (As := [.int x0]) (rest := []) ⟨hx, hb, hml, hown, hts⟩ (c_X11_needSymbol_2 l hl0 D cI cB cJ cS s.heap.size a0 a1 a2 a3 x0 v0 v1 v2 v3 v4 v5 v6 v7 v8 v9 v10 v11 v12 v13 v14 f15 v16 v17 ef15_0 hl_x0) (cwV 1 hts (nm_gV q_1223 q_1225 qs_48 q_1 q_1226) rfl rfl rfl (by decide +kernel) ⟨(Nat.le_of_ble_eq_true rfl), (Nat.le_of_ble_eq_true rfl)⟩) (nm_preXV (q := (RX11, TX11, 18)) (hP.sub [0, 1, 2, 3] rfl) (hD.sub [0, 1, 2, 3] (by decide) rfl) hM hTh hS (va_free hD hS hA [0, 1, 2, 3] rfl) 0 rfl rfl) rfl rfl hl.1 rfl (lv_room (Nat.le_of_ble_eq_true rfl)) dX11_forget_2 ⟨(Nat.le_of_ble_eq_true rfl), (Nat.le_of_ble_eq_true rfl)⟩) (va_free hD hS hA [0, 1, 2, 3] rfl) hS hout hlocks (Nat.le_of_ble_eq_true rfl) (Nat.le_of_ble_eq_true rfl)
set_option maxHeartbeats 4000000 in
set_option maxRecDepth 100000 in
theorem c_L_forget_2 (l : Launch) (hl0 : l.stackTraces = false) (D : va_G) (cI cB cJ cS : ClassId) (sz : Nat) (a0 : Nat) (a1 : Nat) (a2 : Nat) (a3 : Nat) (x0 : Int32) (b0 : Nat) (v0 : Value) (v1 : Value) (v2 : Value) (v3 : Value) (v4 : Value) (v5 : Value) (v6 : Value) (v7 : Value) (v8 : Value) (v9 : Value) (v10 : Value) (v11 : Value) (v12 : Value) (v13 : Value) (v14 : Value) (f15 : Nat → Option Nat) (v16 : Value) (v17 : Value) (ef15_0 : f15 0 = some a2) (hl_x0 : (0 : Int32) ≤ x0) : vx_Met l yL_forget (.codeWith yL_forget cL_forget 4 (some .int) [(0, 9, 12, 23)] :: nm_big) ({ frames := 9, cells := 1, slots := 6, locals := 146 }) (nm_PX D cI cB cJ cS [.ref a0, .int x0, .ref b0] sz [(a0, .inr (10, [v0, .ref a1, .int 0, v1, v2, .ref a3, v3, v4, v5, v6, v7, v8, v9, v10, v11, v12, v13, v14])), (a1, .inl (cS, 10, .inr (.inr (.inr (.inr f15))))), (a2, .inr (4, [v16, v17, .int 0])), (a3, .inl (cI, 3, .inl (fun _ => 0)))]) ((fun A : Nat → Prop => va_Qi (S := Unit) (fun (r : Int32) => (fun (z : Unit) => r = 1)) (nm_B D (fun (z : Unit) => []) A) A) (va_A [(a0, .inr (10, [v0, .ref a1, .int 0, v1, v2, .ref a3, v3, v4, v5, v6, v7, v8, v9, v10, v11, v12, v13, v14])), (a1, .inl (cS, 10, .inr (.inr (.inr (.inr f15))))), (a2, .inr (4, [v16, v17, .int 0])), (a3, .inl (cI, 3, .inl (fun _ => 0)))] sz)) ((fun A : Nat → Prop => nm_X0 A) (va_A [(a0, .inr (10, [v0, .ref a1, .int 0, v1, v2, .ref a3, v3, v4, v5, v6, v7, v8, v9, v10, v11, v12, v13, v14])), (a1, .inl (cS, 10, .inr (.inr (.inr (.inr f15))))), (a2, .inr (4, [v16, v17, .int 0])), (a3, .inl (cI, 3, .inl (fun _ => 0)))] sz)) 1 6 (va_A [(a0, .inr (10, [v0, .ref a1, .int 0, v1, v2, .ref a3, v3, v4, v5, v6, v7, v8, v9, v10, v11, v12, v13, v14])), (a1, .inl (cS, 10, .inr (.inr (.inr (.inr f15))))), (a2, .inr (4, [v16, v17, .int 0])), (a3, .inl (cI, 3, .inl (fun _ => 0)))] sz) := by
  refine nm_MetW (Qc := fun A => va_Qi (S := Unit) (fun (r : Int32) => (fun (z : Unit) => r = 1)) (nm_B D (fun (z : Unit) => []) A) A) (XC := fun A => nm_X0 A) ?_ ?_ ?_
  · decide +kernel
  · exact Nat.le_of_ble_eq_true rfl
  intro p e s m below meth c A ls hx hb hr hml hts hown hlocks htab hM hTh hP hD hS hA hl
  have hl : lv_has ls 4 [(0, .ref a0), (1, .int x0), (2, .ref b0)] := hl
  have hown : s.vm.findClass RL = some m.cls := hown
  refine lv_aload_n hx hb dL_forget_0 rfl (lv_at hl 2 rfl) ?_
  refine lv_iconst (v := 0) hx hb dL_forget_1 (by decide) ?_
  refine lv_aload_n hx hb dL_forget_2 rfl (lv_at hl 0 rfl) ?_
  refine lv_iload_n hx hb dL_forget_3 rfl (lv_at hl 1 rfl) ?_
  refine nm_xcatch (hp := 12) (k := 1) (n := 6) (vx_runV (As := [.int x0]) (rest := [.int 0, .ref b0]) ⟨hx, hb, hml, hown, hts⟩ (c_X11_forget_2 l hl0 D cI cB cJ cS s.heap.size a0 a1 a2 a3 x0 v0 v1 v2 v3 v4 v5 v6 v7 v8 v9 v10 v11 v12 v13 v14 f15 v16 v17 ef15_0 hl_x0) (cwV 1 hts (nm_gV q_1219 q_1220 q_1221 q_1 q_1222) rfl rfl rfl (by decide +kernel) ⟨(Nat.le_of_ble_eq_true rfl), (Nat.le_of_ble_eq_true rfl)⟩) (nm_preXV (q := (RX11, TX11, 18)) (hP.sub [0, 1, 2, 3] rfl) (hD.sub [0, 1, 2, 3] (by decide) rfl) hM hTh hS (va_free hD hS hA [0, 1, 2, 3] rfl) 0 rfl rfl) rfl rfl hl.1 rfl (lv_room (Nat.le_of_ble_eq_true rfl)) dL_forget_4 ⟨(Nat.le_of_ble_eq_true rfl), (Nat.le_of_ble_eq_true rfl)⟩) (va_free hD hS hA [0, 1, 2, 3] rfl) hS hown _ _ htab rfl (by decide) (hts _ q_1218) hM.2.2.2.2.2.2.2.2.2 rfl (Nat.le_of_ble_eq_true rfl) (Nat.le_of_ble_eq_true rfl) (fun q101 H locs hS => ?_)
  have hP : va_P D nm_cl [] H := nm_nil
  have hD : va_D A [] := nm_nilD
  refine lv_astore_n (lv' := [(3, .ref q101), (0, .ref a0), (1, .int x0), (2, .ref b0)]) hx hb dL_forget_12 rfl hl (by decide) rfl (fun ls hl => ?_)
  refine lv_iconst (v := 1) hx hb dL_forget_13 (by decide) ?_
  have hP9 := hP.sub (ws' := []) [] rfl
  have hD9 := hD.sub (ws' := []) [] (by decide) rfl
  exact vx_ret (W.iret (v := 1) hx hb hr (fun t ht hW => ⟨⟨1, (), rfl, rfl, by rw [ht]; exact hP9, hD9⟩, hS.F ht⟩) hS.2.2 dL_forget_14)
set_option maxHeartbeats 4000000 in
set_option maxRecDepth 100000 in
theorem c_X12_in_7 (l : Launch) (D : va_G) (cI cB cJ cS : ClassId) (sz : Nat) (x0 : Int32) (hl_x0 : (0 : Int32) ≤ x0) : Met l yX12_in (.code yX12_in cX12_in 3 (some .boolean) :: nm_big) ({ frames := 0, cells := 0, slots := 0, locals := 0 }) (nm_P D cI cB cJ cS [.int x0, .int 0, .int (-1)] sz []) ((fun A : Nat → Prop => va_Qi (S := Unit) (fun (r : Int32) => (fun (z : Unit) => r = 0)) (nm_B D (fun (z : Unit) => []) A) A) (va_A [] sz)) 0 0 (va_A [] sz) := by
  refine nm_Met (Qc := fun A => va_Qi (S := Unit) (fun (r : Int32) => (fun (z : Unit) => r = 0)) (nm_B D (fun (z : Unit) => []) A) A) ?_ ?_ ?_
  · decide +kernel
  · exact Nat.le_of_ble_eq_true rfl
  intro p e s m below meth c A ls hx hb hr hml hts hown hlocks hin hM hP hD hS hA hl
  have hl : lv_has ls 3 [(0, .int x0), (1, .int 0), (2, .int (-1))] := hl
  have hown : s.vm.findClass RX12 = some m.cls := hown
  refine lv_iload_n hx hb dX12_in_0 rfl (lv_at hl 0 rfl) ?_
  refine lv_iload_n hx hb dX12_in_1 rfl (lv_at hl 1 rfl) ?_
  refine lv_icmp_lt (tgt := 14) hx hb dX12_in_2 (by decide) (fun c9 => absurd c9 (nm_o2 hl_x0 (by decide))) (fun _ => ?_)
  refine lv_iload_n hx hb dX12_in_5 rfl (lv_at hl 0 rfl) ?_
  refine lv_iload_n hx hb dX12_in_6 rfl (lv_at hl 2 rfl) ?_
  refine lv_icmp_gt (tgt := 14) hx hb dX12_in_7 (by decide) (fun _ => ?_) (fun c9 => absurd (nm_o5 hl_x0 (by decide)) c9)
  refine lv_iconst (v := 0) hx hb dX12_in_14 (by decide) ?_
  have hP9 := hP.sub (ws' := []) [] rfl
  have hD9 := hD.sub (ws' := []) [] (by decide) rfl
  exact W.zret (v := 0) hx hb hr (by decide) (fun t ht hW => ⟨⟨0, (), rfl, rfl, by rw [ht]; exact hP9, hD9⟩, hS.F ht⟩) hS.2.2 dX12_in_15
set_option maxHeartbeats 4000000 in
set_option maxRecDepth 100000 in
theorem c_X12_isSymbol_2 (l : Launch) (D : va_G) (cI cB cJ cS : ClassId) (sz : Nat) (a0 : Nat) (x0 : Int32) (v0 : Value) (v1 : Value) (v2 : Value) (v3 : Value) (v4 : Value) (v5 : Value) (v6 : Value) (v7 : Value) (v8 : Value) (v9 : Value) (v10 : Value) (v11 : Value) (v12 : Value) (v13 : Value) (v14 : Value) (v15 : Value) (v16 : Value) (v17 : Value) (v18 : Value) (v19 : Value) (v20 : Value) (v21 : Value) (v22 : Value) (v23 : Value) (v24 : Value) (v25 : Value) (v26 : Value) (v27 : Value) (v28 : Value) (v29 : Value) (v30 : Value) (v31 : Value) (v32 : Value) (v33 : Value) (v34 : Value) (v35 : Value) (v36 : Value) (v37 : Value) (v38 : Value) (v39 : Value) (v40 : Value) (v41 : Value) (v42 : Value) (v43 : Value) (v44 : Value) (v45 : Value) (v46 : Value) (v47 : Value) (v48 : Value) (v49 : Value) (v50 : Value) (v51 : Value) (v52 : Value) (v53 : Value) (v54 : Value) (v55 : Value) (v56 : Value) (v57 : Value) (v58 : Value) (v59 : Value) (v60 : Value) (hl_x0 : (0 : Int32) ≤ x0) : Met l yX12_isSymbol (.code yX12_isSymbol cX12_isSymbol 2 (some .boolean) :: nm_big) ({ frames := 1, cells := 0, slots := 0, locals := 22 }) (nm_P D cI cB cJ cS [.ref a0, .int x0] sz [(a0, .inr (11, [v0, v1, v2, v3, v4, v5, v6, .int 0, v7, v8, v9, v10, v11, v12, v13, v14, v15, v16, v17, v18, v19, v20, v21, v22, v23, v24, v25, v26, v27, v28, v29, v30, v31, v32, v33, v34, v35, v36, v37, v38, v39, v40, v41, v42, v43, v44, v45, v46, v47, v48, v49, v50, v51, v52, v53, v54, v55, v56, v57, v58, v59, v60]))]) ((fun A : Nat → Prop => va_Qi (S := Unit) (fun (r : Int32) => (fun (z : Unit) => r = 0)) (nm_B D (fun (z : Unit) => [(a0, .inr (11, [v0, v1, v2, v3, v4, v5, v6, .int 0, v7, v8, v9, v10, v11, v12, v13, v14, v15, v16, v17, v18, v19, v20, v21, v22, v23, v24, v25, v26, v27, v28, v29, v30, v31, v32, v33, v34, v35, v36, v37, v38, v39, v40, v41, v42, v43, v44, v45, v46, v47, v48, v49, v50, v51, v52, v53, v54, v55, v56, v57, v58, v59, v60]))]) A) A) (va_A [(a0, .inr (11, [v0, v1, v2, v3, v4, v5, v6, .int 0, v7, v8, v9, v10, v11, v12, v13, v14, v15, v16, v17, v18, v19, v20, v21, v22, v23, v24, v25, v26, v27, v28, v29, v30, v31, v32, v33, v34, v35, v36, v37, v38, v39, v40, v41, v42, v43, v44, v45, v46, v47, v48, v49, v50, v51, v52, v53, v54, v55, v56, v57, v58, v59, v60]))] sz)) 0 0 (va_A [(a0, .inr (11, [v0, v1, v2, v3, v4, v5, v6, .int 0, v7, v8, v9, v10, v11, v12, v13, v14, v15, v16, v17, v18, v19, v20, v21, v22, v23, v24, v25, v26, v27, v28, v29, v30, v31, v32, v33, v34, v35, v36, v37, v38, v39, v40, v41, v42, v43, v44, v45, v46, v47, v48, v49, v50, v51, v52, v53, v54, v55, v56, v57, v58, v59, v60]))] sz) := by
  refine nm_Met (Qc := fun A => va_Qi (S := Unit) (fun (r : Int32) => (fun (z : Unit) => r = 0)) (nm_B D (fun (z : Unit) => [(a0, .inr (11, [v0, v1, v2, v3, v4, v5, v6, .int 0, v7, v8, v9, v10, v11, v12, v13, v14, v15, v16, v17, v18, v19, v20, v21, v22, v23, v24, v25, v26, v27, v28, v29, v30, v31, v32, v33, v34, v35, v36, v37, v38, v39, v40, v41, v42, v43, v44, v45, v46, v47, v48, v49, v50, v51, v52, v53, v54, v55, v56, v57, v58, v59, v60]))]) A) A) ?_ ?_ ?_
  · decide +kernel
  · exact Nat.le_of_ble_eq_true rfl
  intro p e s m below meth c A ls hx hb hr hml hts hown hlocks hin hM hP hD hS hA hl
  have hl : lv_has ls 2 [(0, .ref a0), (1, .int x0)] := hl
  have hown : s.vm.findClass RX12 = some m.cls := hown
  refine lv_iload_n hx hb dX12_isSymbol_0 rfl (lv_at hl 1 rfl) ?_
  refine lv_iconst (v := 0) hx hb dX12_isSymbol_1 (by decide) ?_
  refine lv_aload_n hx hb dX12_isSymbol_2 rfl (lv_at hl 0 rfl) ?_
  refine va_get (D := D) (ci := 11) (v := .int 0) (C := RX12) (T := TX12) (N := 62) hx hb hts iw_X12 hown hM.1 hP 0 rfl rfl 7 (by decide) (hts _ q_1502) (fun _ h9 => h9) rfl dX12_isSymbol_3 ?_
  refine lv_iconst (v := 1) hx hb dX12_isSymbol_6 (by decide) ?_
  refine lv_isub hx hb dX12_isSymbol_7 ?_
  refine lv_topi (fun z101 e9 => ?_)
  obtain rfl : z101 = (-1 : Int32) := e9.trans (by decide)
  refine nm_calli (Z := Unit) (wr := [(a0, .inr (11, [v0, v1, v2, v3, v4, v5, v6, .int 0, v7, v8, v9, v10, v11, v12, v13, v14, v15, v16, v17, v18, v19, v20, v21, v22, v23, v24, v25, v26, v27, v28, v29, v30, v31, v32, v33, v34, v35, v36, v37, v38, v39, v40, v41, v42, v43, v44, v45, v46, v47, v48, v49, v50, v51, v52, v53, v54, v55, v56, v57, v58, v59, v60]))]) (k := 0) (n := 0) (va_runS (As := [.int x0, .int 0, .int (-1)]) (rest := []) ⟨hx, hb, hml, hown, hts⟩ (c_X12_in_7 l D cI cB cJ cS s.heap.size x0 hl_x0) (va_cwS 3 hts (nm_gS q_1703 q_1704 q_13 q_1705) rfl rfl rfl (by decide +kernel) ⟨(Nat.le_of_ble_eq_true rfl), (Nat.le_of_ble_eq_true rfl)⟩) (nm_preS (hP.sub [] rfl) (hD.sub [] (by decide) rfl) hM) rfl rfl hl.1 rfl (lv_room (Nat.le_of_ble_eq_true rfl)) dX12_isSymbol_8 ⟨(Nat.le_of_ble_eq_true rfl), (Nat.le_of_ble_eq_true rfl)⟩) hP hD hS hA [] [0] rfl rfl (by decide) (by decide) (Nat.le_of_ble_eq_true rfl) (Nat.le_of_ble_eq_true rfl) (fun r9 u H locs hw hP hD hS => ?_)
  obtain rfl : r9 = (0 : Int32) := hw
  have hP : va_P D nm_cl [(a0, .inr (11, [v0, v1, v2, v3, v4, v5, v6, .int 0, v7, v8, v9, v10, v11, v12, v13, v14, v15, v16, v17, v18, v19, v20, v21, v22, v23, v24, v25, v26, v27, v28, v29, v30, v31, v32, v33, v34, v35, v36, v37, v38, v39, v40, v41, v42, v43, v44, v45, v46, v47, v48, v49, v50, v51, v52, v53, v54, v55, v56, v57, v58, v59, v60]))] H := hP
  have hD : va_D A [(a0, .inr (11, [v0, v1, v2, v3, v4, v5, v6, .int 0, v7, v8, v9, v10, v11, v12, v13, v14, v15, v16, v17, v18, v19, v20, v21, v22, v23, v24, v25, v26, v27, v28, v29, v30, v31, v32, v33, v34, v35, v36, v37, v38, v39, v40, v41, v42, v43, v44, v45, v46, v47, v48, v49, v50, v51, v52, v53, v54, v55, v56, v57, v58, v59, v60]))] := hD
  have hP9 := hP.sub (ws' := [(a0, .inr (11, [v0, v1, v2, v3, v4, v5, v6, .int 0, v7, v8, v9, v10, v11, v12, v13, v14, v15, v16, v17, v18, v19, v20, v21, v22, v23, v24, v25, v26, v27, v28, v29, v30, v31, v32, v33, v34, v35, v36, v37, v38, v39, v40, v41, v42, v43, v44, v45, v46, v47, v48, v49, v50, v51, v52, v53, v54, v55, v56, v57, v58, v59, v60]))]) [0] rfl
  have hD9 := hD.sub (ws' := [(a0, .inr (11, [v0, v1, v2, v3, v4, v5, v6, .int 0, v7, v8, v9, v10, v11, v12, v13, v14, v15, v16, v17, v18, v19, v20, v21, v22, v23, v24, v25, v26, v27, v28, v29, v30, v31, v32, v33, v34, v35, v36, v37, v38, v39, v40, v41, v42, v43, v44, v45, v46, v47, v48, v49, v50, v51, v52, v53, v54, v55, v56, v57, v58, v59, v60]))]) [0] (by decide) rfl
  exact W.zret (v := 0) hx hb hr (by decide) (fun t ht hW => ⟨⟨0, (), rfl, rfl, by rw [ht]; exact hP9, hD9⟩, hS.F ht⟩) hS.2.2 dX12_isSymbol_11
set_option maxHeartbeats 4000000 in
set_option maxRecDepth 100000 in
theorem c_X12_forget_2 (l : Launch) (D : va_G) (cI cB cJ cS : ClassId) (sz : Nat) (a0 : Nat) (a1 : Nat) (x0 : Int32) (v0 : Value) (v1 : Value) (v2 : Value) (v3 : Value) (v4 : Value) (v5 : Value) (v6 : Value) (v7 : Value) (v8 : Value) (v9 : Value) (v10 : Value) (v11 : Value) (v12 : Value) (v13 : Value) (v14 : Value) (v15 : Value) (v16 : Value) (v17 : Value) (v18 : Value) (v19 : Value) (v20 : Value) (v21 : Value) (v22 : Value) (v23 : Value) (v24 : Value) (v25 : Value) (v26 : Value) (v27 : Value) (v28 : Value) (v29 : Value) (v30 : Value) (v31 : Value) (v32 : Value) (v33 : Value) (v34 : Value) (v35 : Value) (v36 : Value) (v37 : Value) (v38 : Value) (v39 : Value) (v40 : Value) (v41 : Value) (v42 : Value) (v43 : Value) (v44 : Value) (v45 : Value) (v46 : Value) (v47 : Value) (v48 : Value) (v49 : Value) (v50 : Value) (v51 : Value) (v52 : Value) (v53 : Value) (v54 : Value) (v55 : Value) (v56 : Value) (v57 : Value) (v58 : Value) (v59 : Value) (hl_x0 : (0 : Int32) ≤ x0) : Met l yX12_forget (.code yX12_forget cX12_forget 3 (some .int) :: nm_big) ({ frames := 2, cells := 0, slots := 0, locals := 43 }) (nm_P D cI cB cJ cS [.ref a0, .int x0] sz [(a0, .inr (11, [v0, .ref a1, v1, v2, v3, v4, v5, .int 0, v6, v7, v8, v9, v10, v11, v12, v13, v14, v15, v16, v17, v18, v19, v20, v21, v22, v23, v24, v25, v26, v27, v28, v29, v30, v31, v32, v33, v34, v35, v36, v37, v38, v39, v40, v41, v42, v43, v44, v45, v46, v47, v48, v49, v50, v51, v52, v53, v54, v55, v56, v57, v58, v59])), (a1, .inl (cI, 3, .inl (fun _ => 0)))]) ((fun A : Nat → Prop => va_Qi (S := Unit) (fun (r : Int32) => (fun (z : Unit) => r = 0)) (nm_B D (fun (z : Unit) => [(a0, .inr (11, [.int 1, .ref a1, v1, v2, v3, v4, v5, .int 0, v6, v7, v8, v9, v10, v11, v12, v13, v14, v15, v16, v17, v18, v19, v20, v21, v22, v23, v24, v25, v26, v27, v28, v29, v30, v31, v32, v33, v34, v35, v36, v37, v38, v39, v40, v41, v42, v43, v44, v45, v46, v47, v48, v49, v50, v51, v52, v53, v54, v55, v56, v57, v58, v59]))]) A) A) (va_A [(a0, .inr (11, [v0, .ref a1, v1, v2, v3, v4, v5, .int 0, v6, v7, v8, v9, v10, v11, v12, v13, v14, v15, v16, v17, v18, v19, v20, v21, v22, v23, v24, v25, v26, v27, v28, v29, v30, v31, v32, v33, v34, v35, v36, v37, v38, v39, v40, v41, v42, v43, v44, v45, v46, v47, v48, v49, v50, v51, v52, v53, v54, v55, v56, v57, v58, v59])), (a1, .inl (cI, 3, .inl (fun _ => 0)))] sz)) 0 0 (va_A [(a0, .inr (11, [v0, .ref a1, v1, v2, v3, v4, v5, .int 0, v6, v7, v8, v9, v10, v11, v12, v13, v14, v15, v16, v17, v18, v19, v20, v21, v22, v23, v24, v25, v26, v27, v28, v29, v30, v31, v32, v33, v34, v35, v36, v37, v38, v39, v40, v41, v42, v43, v44, v45, v46, v47, v48, v49, v50, v51, v52, v53, v54, v55, v56, v57, v58, v59])), (a1, .inl (cI, 3, .inl (fun _ => 0)))] sz) := by
  refine nm_Met (Qc := fun A => va_Qi (S := Unit) (fun (r : Int32) => (fun (z : Unit) => r = 0)) (nm_B D (fun (z : Unit) => [(a0, .inr (11, [.int 1, .ref a1, v1, v2, v3, v4, v5, .int 0, v6, v7, v8, v9, v10, v11, v12, v13, v14, v15, v16, v17, v18, v19, v20, v21, v22, v23, v24, v25, v26, v27, v28, v29, v30, v31, v32, v33, v34, v35, v36, v37, v38, v39, v40, v41, v42, v43, v44, v45, v46, v47, v48, v49, v50, v51, v52, v53, v54, v55, v56, v57, v58, v59]))]) A) A) ?_ ?_ ?_
  · decide +kernel
  · exact Nat.le_of_ble_eq_true rfl
  intro p e s m below meth c A ls hx hb hr hml hts hown hlocks hin hM hP hD hS hA hl
  have hl : lv_has ls 3 [(0, .ref a0), (1, .int x0)] := hl
  have hown : s.vm.findClass RX12 = some m.cls := hown
  refine lv_aload_n hx hb dX12_forget_0 rfl (lv_at hl 0 rfl) ?_
  refine lv_iconst (v := 0) hx hb dX12_forget_1 (by decide) ?_
  refine va_put (D := D) (ci := 11) (v := .int 0) (ty := .int) (C := RX12) (T := TX12) (N := 62) hx hb hts iw_X12 tyX12 tyX12_ok nmX12 hown hM.1 hP hD hS 0 rfl rfl 0 (by decide) (hts _ q_1495) (fun _ h9 => h9) rfl (by decide +kernel) rfl rfl (Nat.le_of_ble_eq_true rfl) dX12_forget_2 (fun H locs hP hD hS => ?_)
  have hP : va_P D nm_cl [(a0, .inr (11, [.int 0, .ref a1, v1, v2, v3, v4, v5, .int 0, v6, v7, v8, v9, v10, v11, v12, v13, v14, v15, v16, v17, v18, v19, v20, v21, v22, v23, v24, v25, v26, v27, v28, v29, v30, v31, v32, v33, v34, v35, v36, v37, v38, v39, v40, v41, v42, v43, v44, v45, v46, v47, v48, v49, v50, v51, v52, v53, v54, v55, v56, v57, v58, v59])), (a1, .inl (cI, 3, .inl (fun _ => 0)))] H := hP
  have hD : va_D A [(a0, .inr (11, [.int 0, .ref a1, v1, v2, v3, v4, v5, .int 0, v6, v7, v8, v9, v10, v11, v12, v13, v14, v15, v16, v17, v18, v19, v20, v21, v22, v23, v24, v25, v26, v27, v28, v29, v30, v31, v32, v33, v34, v35, v36, v37, v38, v39, v40, v41, v42, v43, v44, v45, v46, v47, v48, v49, v50, v51, v52, v53, v54, v55, v56, v57, v58, v59])), (a1, .inl (cI, 3, .inl (fun _ => 0)))] := hD
  refine lv_aload_n hx hb dX12_forget_5 rfl (lv_at hl 0 rfl) ?_
  refine lv_aload_n hx hb dX12_forget_6 rfl (lv_at hl 0 rfl) ?_
  refine lv_iload_n hx hb dX12_forget_7 rfl (lv_at hl 1 rfl) ?_
  refine nm_calli (Z := Unit) (wr := [(a1, .inl (cI, 3, .inl (fun _ => 0)))]) (k := 0) (n := 0) (va_runV (As := [.int x0]) (rest := [.ref a0]) ⟨hx, hb, hml, hown, hts⟩ (c_X12_isSymbol_2 l D cI cB cJ cS H.size a0 x0 (.int 0) (.ref a1) v1 v2 v3 v4 v5 v6 v7 v8 v9 v10 v11 v12 v13 v14 v15 v16 v17 v18 v19 v20 v21 v22 v23 v24 v25 v26 v27 v28 v29 v30 v31 v32 v33 v34 v35 v36 v37 v38 v39 v40 v41 v42 v43 v44 v45 v46 v47 v48 v49 v50 v51 v52 v53 v54 v55 v56 v57 v58 v59 hl_x0) (cwV 1 hts (nm_gV q_2038 q_2040 qs_122 q_13 q_2041) rfl rfl rfl (by decide +kernel) ⟨(Nat.le_of_ble_eq_true rfl), (Nat.le_of_ble_eq_true rfl)⟩) (nm_preV (q := (RX12, TX12, 62)) (hP.sub [0] rfl) (hD.sub [0] (by decide) rfl) hM 0 rfl rfl) rfl rfl hl.1 rfl (lv_room (Nat.le_of_ble_eq_true rfl)) dX12_forget_8 ⟨(Nat.le_of_ble_eq_true rfl), (Nat.le_of_ble_eq_true rfl)⟩) hP hD hS hA [0] [1] rfl rfl (by decide) (by decide) (Nat.le_of_ble_eq_true rfl) (Nat.le_of_ble_eq_true rfl) (fun r9 u H locs hw hP hD hS => ?_)
  obtain rfl : r9 = (0 : Int32) := hw
  have hP : va_P D nm_cl [(a1, .inl (cI, 3, .inl (fun _ => 0))), (a0, .inr (11, [.int 0, .ref a1, v1, v2, v3, v4, v5, .int 0, v6, v7, v8, v9, v10, v11, v12, v13, v14, v15, v16, v17, v18, v19, v20, v21, v22, v23, v24, v25, v26, v27, v28, v29, v30, v31, v32, v33, v34, v35, v36, v37, v38, v39, v40, v41, v42, v43, v44, v45, v46, v47, v48, v49, v50, v51, v52, v53, v54, v55, v56, v57, v58, v59]))] H := hP
  have hD : va_D A [(a1, .inl (cI, 3, .inl (fun _ => 0))), (a0, .inr (11, [.int 0, .ref a1, v1, v2, v3, v4, v5, .int 0, v6, v7, v8, v9, v10, v11, v12, v13, v14, v15, v16, v17, v18, v19, v20, v21, v22, v23, v24, v25, v26, v27, v28, v29, v30, v31, v32, v33, v34, v35, v36, v37, v38, v39, v40, v41, v42, v43, v44, v45, v46, v47, v48, v49, v50, v51, v52, v53, v54, v55, v56, v57, v58, v59]))] := hD
  refine lv_if_ne (tgt := 18) hx hb dX12_forget_11 (by decide) (fun c9 => absurd (by decide) c9) (fun _ => ?_)
  refine lv_iconst (v := 1) hx hb dX12_forget_14 (by decide) ?_
  refine lv_goto (tgt := 19) hx hb dX12_forget_15 (by decide) ?_
  refine lv_iconst (v := 1) hx hb dX12_forget_19 (by decide) ?_
  refine lv_iconst (v := 0) hx hb dX12_forget_20 (by decide) ?_
  refine nm_calli (Z := (Nat → Int32)) (wr := []) (k := 0) (n := 0) (va_runV (As := [.int 1, .int 1, .int 0]) (rest := []) ⟨hx, hb, hml, hown, hts⟩ (c_X12_bad_3 l D cI cB cJ cS H.size a0 a1 v1 v2 v3 v4 v5 (.int 0) v6 v7 v8 v9 v10 v11 v12 v13 v14 v15 v16 v17 v18 v19 v20 v21 v22 v23 v24 v25 v26 v27 v28 v29 v30 v31 v32 v33 v34 v35 v36 v37 v38 v39 v40 v41 v42 v43 v44 v45 v46 v47 v48 v49 v50 v51 v52 v53 v54 v55 v56 v57 v58 v59) (cwV 3 hts (nm_gV q_1706 q_1708 qs_60 q_13 q_1709) rfl rfl rfl (by decide +kernel) ⟨(Nat.le_of_ble_eq_true rfl), (Nat.le_of_ble_eq_true rfl)⟩) (nm_preV (q := (RX12, TX12, 62)) (hP.sub [1, 0] rfl) (hD.sub [1, 0] (by decide) rfl) hM 0 rfl rfl) rfl rfl hl.1 rfl (lv_room (Nat.le_of_ble_eq_true rfl)) dX12_forget_21 ⟨(Nat.le_of_ble_eq_true rfl), (Nat.le_of_ble_eq_true rfl)⟩) hP hD hS hA [1, 0] [] rfl rfl (by decide) (by decide) (Nat.le_of_ble_eq_true rfl) (Nat.le_of_ble_eq_true rfl) (fun r9 u H locs hw hP hD hS => ?_)
  obtain ⟨f101, rfl⟩ : ∃ z, z = u := ⟨_, rfl⟩
  obtain rfl : r9 = (1 : Int32) := hw
  have hP : va_P D nm_cl [(a0, .inr (11, [.int 1, .ref a1, v1, v2, v3, v4, v5, .int 0, v6, v7, v8, v9, v10, v11, v12, v13, v14, v15, v16, v17, v18, v19, v20, v21, v22, v23, v24, v25, v26, v27, v28, v29, v30, v31, v32, v33, v34, v35, v36, v37, v38, v39, v40, v41, v42, v43, v44, v45, v46, v47, v48, v49, v50, v51, v52, v53, v54, v55, v56, v57, v58, v59])), (a1, .inl (cI, 3, .inl f101))] H := hP
  have hD : va_D A [(a0, .inr (11, [.int 1, .ref a1, v1, v2, v3, v4, v5, .int 0, v6, v7, v8, v9, v10, v11, v12, v13, v14, v15, v16, v17, v18, v19, v20, v21, v22, v23, v24, v25, v26, v27, v28, v29, v30, v31, v32, v33, v34, v35, v36, v37, v38, v39, v40, v41, v42, v43, v44, v45, v46, v47, v48, v49, v50, v51, v52, v53, v54, v55, v56, v57, v58, v59])), (a1, .inl (cI, 3, .inl f101))] := hD
  refine lv_if_eq (tgt := 29) hx hb dX12_forget_24 (by decide) (fun c9 => absurd c9 (by decide)) (fun _ => ?_)
  refine lv_iconst (v := 0) hx hb dX12_forget_27 (by decide) ?_
  have hP9 := hP.sub (ws' := [(a0, .inr (11, [.int 1, .ref a1, v1, v2, v3, v4, v5, .int 0, v6, v7, v8, v9, v10, v11, v12, v13, v14, v15, v16, v17, v18, v19, v20, v21, v22, v23, v24, v25, v26, v27, v28, v29, v30, v31, v32, v33, v34, v35, v36, v37, v38, v39, v40, v41, v42, v43, v44, v45, v46, v47, v48, v49, v50, v51, v52, v53, v54, v55, v56, v57, v58, v59]))]) [0] rfl
  have hD9 := hD.sub (ws' := [(a0, .inr (11, [.int 1, .ref a1, v1, v2, v3, v4, v5, .int 0, v6, v7, v8, v9, v10, v11, v12, v13, v14, v15, v16, v17, v18, v19, v20, v21, v22, v23, v24, v25, v26, v27, v28, v29, v30, v31, v32, v33, v34, v35, v36, v37, v38, v39, v40, v41, v42, v43, v44, v45, v46, v47, v48, v49, v50, v51, v52, v53, v54, v55, v56, v57, v58, v59]))]) [0] (by decide) rfl
  exact W.iret (v := 0) hx hb hr (fun t ht hW => ⟨⟨0, (), rfl, rfl, by rw [ht]; exact hP9, hD9⟩, hS.F ht⟩) hS.2.2 dX12_forget_28
set_option maxHeartbeats 4000000 in
set_option maxRecDepth 100000 in
theorem c_X12_thrown_1 (l : Launch) (D : va_G) (cI cB cJ cS : ClassId) (sz : Nat) (a0 : Nat) (v0 : Value) (v1 : Value) (v2 : Value) (v3 : Value) (v4 : Value) (v5 : Value) (v6 : Value) (v7 : Value) (v8 : Value) (v9 : Value) (v10 : Value) (v11 : Value) (v12 : Value) (v13 : Value) (v14 : Value) (v15 : Value) (v16 : Value) (v17 : Value) (v18 : Value) (v19 : Value) (v20 : Value) (v21 : Value) (v22 : Value) (v23 : Value) (v24 : Value) (v25 : Value) (v26 : Value) (v27 : Value) (v28 : Value) (v29 : Value) (v30 : Value) (v31 : Value) (v32 : Value) (v33 : Value) (v34 : Value) (v35 : Value) (v36 : Value) (v37 : Value) (v38 : Value) (v39 : Value) (v40 : Value) (v41 : Value) (v42 : Value) (v43 : Value) (v44 : Value) (v45 : Value) (v46 : Value) (v47 : Value) (v48 : Value) (v49 : Value) (v50 : Value) (v51 : Value) (v52 : Value) (v53 : Value) (v54 : Value) (v55 : Value) (v56 : Value) (v57 : Value) (v58 : Value) (v59 : Value) (v60 : Value)  : Met l yX12_thrown (.code yX12_thrown cX12_thrown 1 (some .int) :: nm_big) ({ frames := 0, cells := 0, slots := 0, locals := 0 }) (nm_P D cI cB cJ cS [.ref a0] sz [(a0, .inr (11, [.int 0, v0, v1, v2, v3, v4, v5, v6, v7, v8, v9, v10, v11, v12, v13, v14, v15, v16, v17, v18, v19, v20, v21, v22, v23, v24, v25, v26, v27, v28, v29, v30, v31, v32, v33, v34, v35, v36, v37, v38, v39, v40, v41, v42, v43, v44, v45, v46, v47, v48, v49, v50, v51, v52, v53, v54, v55, v56, v57, v58, v59, v60]))]) ((fun A : Nat → Prop => va_Qi (S := Unit) (fun (r : Int32) => (fun (z : Unit) => r = 0)) (nm_B D (fun (z : Unit) => [(a0, .inr (11, [.int 0, v0, v1, v2, v3, v4, v5, v6, v7, v8, v9, v10, v11, v12, v13, v14, v15, v16, v17, v18, v19, v20, v21, v22, v23, v24, v25, v26, v27, v28, v29, v30, v31, v32, v33, v34, v35, v36, v37, v38, v39, v40, v41, v42, v43, v44, v45, v46, v47, v48, v49, v50, v51, v52, v53, v54, v55, v56, v57, v58, v59, v60]))]) A) A) (va_A [(a0, .inr (11, [.int 0, v0, v1, v2, v3, v4, v5, v6, v7, v8, v9, v10, v11, v12, v13, v14, v15, v16, v17, v18, v19, v20, v21, v22, v23, v24, v25, v26, v27, v28, v29, v30, v31, v32, v33, v34, v35, v36, v37, v38, v39, v40, v41, v42, v43, v44, v45, v46, v47, v48, v49, v50, v51, v52, v53, v54, v55, v56, v57, v58, v59, v60]))] sz)) 0 0 (va_A [(a0, .inr (11, [.int 0, v0, v1, v2, v3, v4, v5, v6, v7, v8, v9, v10, v11, v12, v13, v14, v15, v16, v17, v18, v19, v20, v21, v22, v23, v24, v25, v26, v27, v28, v29, v30, v31, v32, v33, v34, v35, v36, v37, v38, v39, v40, v41, v42, v43, v44, v45, v46, v47, v48, v49, v50, v51, v52, v53, v54, v55, v56, v57, v58, v59, v60]))] sz) := by
  refine nm_Met (Qc := fun A => va_Qi (S := Unit) (fun (r : Int32) => (fun (z : Unit) => r = 0)) (nm_B D (fun (z : Unit) => [(a0, .inr (11, [.int 0, v0, v1, v2, v3, v4, v5, v6, v7, v8, v9, v10, v11, v12, v13, v14, v15, v16, v17, v18, v19, v20, v21, v22, v23, v24, v25, v26, v27, v28, v29, v30, v31, v32, v33, v34, v35, v36, v37, v38, v39, v40, v41, v42, v43, v44, v45, v46, v47, v48, v49, v50, v51, v52, v53, v54, v55, v56, v57, v58, v59, v60]))]) A) A) ?_ ?_ ?_
  · decide +kernel
  · exact Nat.le_of_ble_eq_true rfl
  intro p e s m below meth c A ls hx hb hr hml hts hown hlocks hin hM hP hD hS hA hl
  have hl : lv_has ls 1 [(0, .ref a0)] := hl
  have hown : s.vm.findClass RX12 = some m.cls := hown
  refine lv_aload_n hx hb dX12_thrown_0 rfl (lv_at hl 0 rfl) ?_
  refine va_get (D := D) (ci := 11) (v := .int 0) (C := RX12) (T := TX12) (N := 62) hx hb hts iw_X12 hown hM.1 hP 0 rfl rfl 0 (by decide) (hts _ q_1495) (fun _ h9 => h9) rfl dX12_thrown_1 ?_
  have hP9 := hP.sub (ws' := [(a0, .inr (11, [.int 0, v0, v1, v2, v3, v4, v5, v6, v7, v8, v9, v10, v11, v12, v13, v14, v15, v16, v17, v18, v19, v20, v21, v22, v23, v24, v25, v26, v27, v28, v29, v30, v31, v32, v33, v34, v35, v36, v37, v38, v39, v40, v41, v42, v43, v44, v45, v46, v47, v48, v49, v50, v51, v52, v53, v54, v55, v56, v57, v58, v59, v60]))]) [0] rfl
  have hD9 := hD.sub (ws' := [(a0, .inr (11, [.int 0, v0, v1, v2, v3, v4, v5, v6, v7, v8, v9, v10, v11, v12, v13, v14, v15, v16, v17, v18, v19, v20, v21, v22, v23, v24, v25, v26, v27, v28, v29, v30, v31, v32, v33, v34, v35, v36, v37, v38, v39, v40, v41, v42, v43, v44, v45, v46, v47, v48, v49, v50, v51, v52, v53, v54, v55, v56, v57, v58, v59, v60]))]) [0] (by decide) rfl
  exact W.iret (v := 0) hx hb hr (fun t ht hW => ⟨⟨0, (), rfl, rfl, by rw [ht]; exact hP9, hD9⟩, hS.F ht⟩) hS.2.2 dX12_thrown_4
