theorem q_28 : Cond.classLink RL 8 RX11 ∈ nm_big := nm_in (List.mem_append_right _ (List.mem_of_getElem? (i := 28) (by decide +kernel))) (by decide +kernel)
theorem q_29 : Cond.instantiable RX11 18 ∈ nm_big := nm_in (List.mem_append_right _ (List.mem_of_getElem? (i := 29) (by decide +kernel))) (by decide +kernel)
theorem q_32 : Cond.code yX11_init cX11_init 2 none ∈ nm_big := nm_in (List.mem_append_right _ (List.mem_of_getElem? (i := 32) rfl)) (by decide +kernel)
theorem q_30 : Cond.methodLink RL 75 yX11_init ∈ nm_big := nm_in (List.mem_append_right _ (List.mem_of_getElem? (i := 30) (by decide +kernel))) (by decide +kernel)
theorem q_31 : Cond.instanceMethod yX11_init ∈ nm_big := nm_in (List.mem_append_right _ (List.mem_of_getElem? (i := 31) (by decide +kernel))) (by decide +kernel)
theorem q_1485 : Cond.classLink RL 76 RX12 ∈ nm_big := nm_in (List.mem_append_right _ (List.mem_of_getElem? (i := 1485) (by decide +kernel))) (by decide +kernel)
theorem q_1486 : Cond.instantiable RX12 62 ∈ nm_big := nm_in (List.mem_append_right _ (List.mem_of_getElem? (i := 1486) (by decide +kernel))) (by decide +kernel)
theorem q_1489 : Cond.code yX12_init cX12_init 1 none ∈ nm_big := nm_in (List.mem_append_right _ (List.mem_of_getElem? (i := 1489) (by decide +kernel))) (by decide +kernel)
theorem q_1487 : Cond.methodLink RL 78 yX12_init ∈ nm_big := nm_in (List.mem_append_right _ (List.mem_of_getElem? (i := 1487) (by decide +kernel))) (by decide +kernel)
theorem q_1488 : Cond.instanceMethod yX12_init ∈ nm_big := nm_in (List.mem_append_right _ (List.mem_of_getElem? (i := 1488) (by decide +kernel))) (by decide +kernel)
theorem dL_law_0 : decode cL_law 0 = .ok (.new 8, 3) := by decide +kernel
theorem dL_law_3 : decode cL_law 3 = .ok (.dup, 1) := by decide +kernel
theorem dL_law_4 : decode cL_law 4 = .ok (.invokespecial 75, 3) := by decide +kernel
theorem dL_law_7 : decode cL_law 7 = .ok (.astore_n 1, 1) := by decide +kernel
theorem dL_law_8 : decode cL_law 8 = .ok (.new 76, 3) := by decide +kernel
theorem dL_law_11 : decode cL_law 11 = .ok (.dup, 1) := by decide +kernel
theorem dL_law_12 : decode cL_law 12 = .ok (.invokespecial 78, 3) := by decide +kernel
theorem dL_law_15 : decode cL_law 15 = .ok (.astore_n 2, 1) := by decide +kernel
theorem dL_law_16 : decode cL_law 16 = .ok (.iconst 1, 1) := by decide +kernel
theorem dL_law_17 : decode cL_law 17 = .ok (.newarray .long, 2) := by decide +kernel
theorem dL_law_19 : decode cL_law 19 = .ok (.astore_n 3, 1) := by decide +kernel
theorem dL_law_20 : decode cL_law 20 = .ok (.iconst 0, 1) := by decide +kernel
theorem dL_law_21 : decode cL_law 21 = .ok (.istore 4, 2) := by decide +kernel
