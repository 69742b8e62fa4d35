theorem q_458 : Cond.methodLink RJ7 304 Lib.Math.min.name ∈ nm_big := nm_in (List.mem_append_right _ (List.mem_of_getElem? (i := 458) (by decide +kernel))) (by decide +kernel)
theorem q_459 : Cond.static Lib.Math.min.name ∈ nm_big := nm_in (List.mem_append_right _ (List.mem_of_getElem? (i := 459) (by decide +kernel))) (by decide +kernel)
theorem q_15 : Cond.initialized RJ9 ∈ nm_big := nm_in (List.mem_append_right _ (List.mem_of_getElem? (i := 15) (by decide +kernel))) (by decide +kernel)
theorem q_460 : Cond.code Lib.Math.min.name Lib.Math.min.code 2 (some .int) ∈ nm_big := nm_in (List.mem_append_right _ (List.mem_of_getElem? (i := 460) rfl)) (by decide +kernel)
theorem q_461 : Cond.methodLink RJ7 150 arraycopyName ∈ nm_big := nm_in (List.mem_append_right _ (List.mem_of_getElem? (i := 461) (by decide +kernel))) (by decide +kernel)
theorem q_463 : Cond.native arraycopyName ∈ nm_big := nm_in (List.mem_append_right _ (List.mem_of_getElem? (i := 463) (by decide +kernel))) (by decide +kernel)
theorem q_462 : Cond.static arraycopyName ∈ nm_big := nm_in (List.mem_append_right _ (List.mem_of_getElem? (i := 462) (by decide +kernel))) (by decide +kernel)
theorem q_16 : Cond.initialized RJ10 ∈ nm_big := nm_in (List.mem_append_right _ (List.mem_of_getElem? (i := 16) (by decide +kernel))) (by decide +kernel)
theorem q_447 : Cond.code yX0_add cX0_add 2 none ∈ nm_big := nm_in (List.mem_append_right _ (List.mem_of_getElem? (i := 447) rfl)) (by decide +kernel)
theorem q_444 : Cond.methodLink RX0 25 yX0_add ∈ nm_big := nm_in (List.mem_append_right _ (List.mem_of_getElem? (i := 444) (by decide +kernel))) (by decide +kernel)
theorem q_445 : Cond.instanceMethod yX0_add ∈ nm_big := nm_in (List.mem_append_right _ (List.mem_of_getElem? (i := 445) (by decide +kernel))) (by decide +kernel)
theorem q_446 : Cond.selects RX0 yX0_add yX0_add ∈ nm_big := nm_in (List.mem_append_right _ (List.mem_of_getElem? (i := 446) (by decide +kernel))) (by decide +kernel)
theorem q_443 : Cond.code yX0_addFour cX0_addFour 2 none ∈ nm_big := nm_in (List.mem_append_right _ (List.mem_of_getElem? (i := 443) rfl)) (by decide +kernel)
theorem q_440 : Cond.methodLink RX11 106 yX0_addFour ∈ nm_big := nm_in (List.mem_append_right _ (List.mem_of_getElem? (i := 440) (by decide +kernel))) (by decide +kernel)
theorem q_441 : Cond.instanceMethod yX0_addFour ∈ nm_big := nm_in (List.mem_append_right _ (List.mem_of_getElem? (i := 441) (by decide +kernel))) (by decide +kernel)
theorem q_442 : Cond.selects RX0 yX0_addFour yX0_addFour ∈ nm_big := nm_in (List.mem_append_right _ (List.mem_of_getElem? (i := 442) (by decide +kernel))) (by decide +kernel)
theorem q_450 : Cond.code yJ7_copyOf_9075b cJ7_copyOf_9075b 3 (some (.array .byte)) ∈ nm_big := nm_in (List.mem_append_right _ (List.mem_of_getElem? (i := 450) rfl)) (by decide +kernel)
theorem q_448 : Cond.methodLink RX0 19 yJ7_copyOf_9075b ∈ nm_big := nm_in (List.mem_append_right _ (List.mem_of_getElem? (i := 448) (by decide +kernel))) (by decide +kernel)
theorem q_449 : Cond.static yJ7_copyOf_9075b ∈ nm_big := nm_in (List.mem_append_right _ (List.mem_of_getElem? (i := 449) (by decide +kernel))) (by decide +kernel)
theorem dX11_feed_0 : decode cX11_feed 0 = .ok (.aload_n 0, 1) := by decide +kernel
theorem dX11_feed_1 : decode cX11_feed 1 = .ok (.getfield 10, 3) := by decide +kernel
theorem dX11_feed_4 : decode cX11_feed 4 = .ok (.getfield 103, 3) := by decide +kernel
theorem dX11_feed_7 : decode cX11_feed 7 = .ok (.bipush 20, 2) := by decide +kernel
theorem dX11_feed_9 : decode cX11_feed 9 = .ok (.iadd, 1) := by decide +kernel
theorem dX11_feed_10 : decode cX11_feed 10 = .ok (.sipush 400, 3) := by decide +kernel
theorem dX11_feed_13 : decode cX11_feed 13 = .ok (.if_icmp .le 5, 3) := by decide +kernel
theorem dX11_feed_18 : decode cX11_feed 18 = .ok (.aload_n 0, 1) := by decide +kernel
theorem dX11_feed_19 : decode cX11_feed 19 = .ok (.getfield 10, 3) := by decide +kernel
theorem dX11_feed_22 : decode cX11_feed 22 = .ok (.iload_n 1, 1) := by decide +kernel
theorem dX0_addFour_0 : decode cX0_addFour 0 = .ok (.aload_n 0, 1) := by decide +kernel
theorem dX0_addFour_1 : decode cX0_addFour 1 = .ok (.iload_n 1, 1) := by decide +kernel
theorem dX0_addFour_2 : decode cX0_addFour 2 = .ok (.bipush 24, 2) := by decide +kernel
theorem dX0_addFour_4 : decode cX0_addFour 4 = .ok (.iushr, 1) := by decide +kernel
theorem dX0_add_0 : decode cX0_add 0 = .ok (.aload_n 0, 1) := by decide +kernel
theorem dX0_add_1 : decode cX0_add 1 = .ok (.getfield 15, 3) := by decide +kernel
theorem dX0_add_4 : decode cX0_add 4 = .ok (.aload_n 0, 1) := by decide +kernel
theorem dX0_add_5 : decode cX0_add 5 = .ok (.getfield 9, 3) := by decide +kernel
theorem dX0_add_8 : decode cX0_add 8 = .ok (.arraylength, 1) := by decide +kernel
theorem dX0_add_9 : decode cX0_add 9 = .ok (.if_icmp .lt 20, 3) := by decide +kernel
theorem dX0_add_29 : decode cX0_add 29 = .ok (.aload_n 0, 1) := by decide +kernel
theorem dX0_add_30 : decode cX0_add 30 = .ok (.getfield 9, 3) := by decide +kernel
theorem dX0_add_33 : decode cX0_add 33 = .ok (.aload_n 0, 1) := by decide +kernel
theorem dX0_add_34 : decode cX0_add 34 = .ok (.getfield 15, 3) := by decide +kernel
theorem dX0_add_37 : decode cX0_add 37 = .ok (.iload_n 1, 1) := by decide +kernel
theorem dX0_add_38 : decode cX0_add 38 = .ok (.i2b, 1) := by decide +kernel
theorem dX0_add_39 : decode cX0_add 39 = .ok (.bastore, 1) := by decide +kernel
theorem dX0_add_40 : decode cX0_add 40 = .ok (.aload_n 0, 1) := by decide +kernel
theorem dX0_add_41 : decode cX0_add 41 = .ok (.dup, 1) := by decide +kernel
theorem dX0_add_42 : decode cX0_add 42 = .ok (.getfield 15, 3) := by decide +kernel
theorem dX0_add_45 : decode cX0_add 45 = .ok (.iconst 1, 1) := by decide +kernel
theorem dX0_add_46 : decode cX0_add 46 = .ok (.iadd, 1) := by decide +kernel
theorem dX0_add_47 : decode cX0_add 47 = .ok (.putfield 15, 3) := by decide +kernel
theorem dX0_addFour_8 : decode cX0_addFour 8 = .ok (.aload_n 0, 1) := by decide +kernel
theorem dX0_addFour_9 : decode cX0_addFour 9 = .ok (.iload_n 1, 1) := by decide +kernel
theorem dX0_addFour_10 : decode cX0_addFour 10 = .ok (.bipush 16, 2) := by decide +kernel
theorem dX0_addFour_12 : decode cX0_addFour 12 = .ok (.iushr, 1) := by decide +kernel
theorem dX0_addFour_16 : decode cX0_addFour 16 = .ok (.aload_n 0, 1) := by decide +kernel
theorem dX0_addFour_17 : decode cX0_addFour 17 = .ok (.iload_n 1, 1) := by decide +kernel
theorem dX0_addFour_18 : decode cX0_addFour 18 = .ok (.bipush 8, 2) := by decide +kernel
theorem dX0_addFour_20 : decode cX0_addFour 20 = .ok (.iushr, 1) := by decide +kernel
theorem dX0_addFour_24 : decode cX0_addFour 24 = .ok (.aload_n 0, 1) := by decide +kernel
theorem dX0_addFour_25 : decode cX0_addFour 25 = .ok (.iload_n 1, 1) := by decide +kernel
theorem dX11_feed_26 : decode cX11_feed 26 = .ok (.aload_n 0, 1) := by decide +kernel
theorem dX11_feed_27 : decode cX11_feed 27 = .ok (.getfield 10, 3) := by decide +kernel
theorem dX11_feed_30 : decode cX11_feed 30 = .ok (.iload_n 2, 1) := by decide +kernel
theorem dX11_feed_34 : decode cX11_feed 34 = .ok (.aload_n 0, 1) := by decide +kernel
theorem dX11_feed_35 : decode cX11_feed 35 = .ok (.getfield 10, 3) := by decide +kernel
theorem dX11_feed_38 : decode cX11_feed 38 = .ok (.iload_n 3, 1) := by decide +kernel
theorem dX11_feed_42 : decode cX11_feed 42 = .ok (.aload_n 0, 1) := by decide +kernel
theorem dX11_feed_43 : decode cX11_feed 43 = .ok (.getfield 10, 3) := by decide +kernel
theorem dX11_feed_46 : decode cX11_feed 46 = .ok (.iload 4, 2) := by decide +kernel
theorem dX11_feed_51 : decode cX11_feed 51 = .ok (.aload_n 0, 1) := by decide +kernel
theorem dX11_feed_52 : decode cX11_feed 52 = .ok (.getfield 10, 3) := by decide +kernel
theorem dX11_feed_55 : decode cX11_feed 55 = .ok (.iload 5, 2) := by decide +kernel
theorem dX0_add_12 : decode cX0_add 12 = .ok (.aload_n 0, 1) := by decide +kernel
theorem dX0_add_13 : decode cX0_add 13 = .ok (.aload_n 0, 1) := by decide +kernel
theorem dX0_add_14 : decode cX0_add 14 = .ok (.getfield 9, 3) := by decide +kernel
theorem dX0_add_17 : decode cX0_add 17 = .ok (.iconst 2, 1) := by decide +kernel
theorem dX0_add_18 : decode cX0_add 18 = .ok (.aload_n 0, 1) := by decide +kernel
theorem dX0_add_19 : decode cX0_add 19 = .ok (.getfield 15, 3) := by decide +kernel
theorem dX0_add_22 : decode cX0_add 22 = .ok (.imul, 1) := by decide +kernel
theorem dJ7_copyOf_9075b_0 : decode cJ7_copyOf_9075b 0 = .ok (.iload_n 1, 1) := by decide +kernel
theorem dJ7_copyOf_9075b_1 : decode cJ7_copyOf_9075b 1 = .ok (.aload_n 0, 1) := by decide +kernel
theorem dJ7_copyOf_9075b_2 : decode cJ7_copyOf_9075b 2 = .ok (.arraylength, 1) := by decide +kernel
theorem dJ7_copyOf_9075b_3 : decode cJ7_copyOf_9075b 3 = .ok (.if_icmp .ne 11, 3) := by decide +kernel
theorem dJ7_copyOf_9075b_14 : decode cJ7_copyOf_9075b 14 = .ok (.iload_n 1, 1) := by decide +kernel
theorem dJ7_copyOf_9075b_15 : decode cJ7_copyOf_9075b 15 = .ok (.newarray .byte, 2) := by decide +kernel
theorem dJ7_copyOf_9075b_17 : decode cJ7_copyOf_9075b 17 = .ok (.astore_n 2, 1) := by decide +kernel
theorem dJ7_copyOf_9075b_18 : decode cJ7_copyOf_9075b 18 = .ok (.aload_n 0, 1) := by decide +kernel
theorem dJ7_copyOf_9075b_19 : decode cJ7_copyOf_9075b 19 = .ok (.iconst 0, 1) := by decide +kernel
theorem dJ7_copyOf_9075b_20 : decode cJ7_copyOf_9075b 20 = .ok (.aload_n 2, 1) := by decide +kernel
theorem dJ7_copyOf_9075b_21 : decode cJ7_copyOf_9075b 21 = .ok (.iconst 0, 1) := by decide +kernel
theorem dJ7_copyOf_9075b_22 : decode cJ7_copyOf_9075b 22 = .ok (.aload_n 0, 1) := by decide +kernel
theorem dJ7_copyOf_9075b_23 : decode cJ7_copyOf_9075b 23 = .ok (.arraylength, 1) := by decide +kernel
theorem dJ7_copyOf_9075b_24 : decode cJ7_copyOf_9075b 24 = .ok (.iload_n 1, 1) := by decide +kernel
theorem dJ7_copyOf_9075b_25 : decode cJ7_copyOf_9075b 25 = .ok (.invokestatic 304, 3) := by decide +kernel
theorem dJ7_copyOf_9075b_28 : decode cJ7_copyOf_9075b 28 = .ok (.invokestatic 150, 3) := by decide +kernel
theorem dJ7_copyOf_9075b_31 : decode cJ7_copyOf_9075b 31 = .ok (.aload_n 2, 1) := by decide +kernel
theorem dX0_add_26 : decode cX0_add 26 = .ok (.putfield 9, 3) := by decide +kernel
theorem dX11_feed_60 : decode cX11_feed 60 = .ok (.aload_n 0, 1) := by decide +kernel
theorem dX11_feed_61 : decode cX11_feed 61 = .ok (.getfield 10, 3) := by decide +kernel
theorem dX11_feed_64 : decode cX11_feed 64 = .ok (.getfield 103, 3) := by decide +kernel
theorem dX0_add_50 : decode cX0_add 50 = .ok (.return_, 1) := by decide +kernel
theorem dX0_addFour_5 : decode cX0_addFour 5 = .ok (.invokevirtual 25, 3) := by decide +kernel
theorem dX0_addFour_13 : decode cX0_addFour 13 = .ok (.invokevirtual 25, 3) := by decide +kernel
theorem dX0_addFour_21 : decode cX0_addFour 21 = .ok (.invokevirtual 25, 3) := by decide +kernel
theorem dX0_addFour_26 : decode cX0_addFour 26 = .ok (.invokevirtual 25, 3) := by decide +kernel
theorem dX0_addFour_29 : decode cX0_addFour 29 = .ok (.return_, 1) := by decide +kernel
theorem dX11_feed_23 : decode cX11_feed 23 = .ok (.invokevirtual 106, 3) := by decide +kernel
theorem dX11_feed_31 : decode cX11_feed 31 = .ok (.invokevirtual 106, 3) := by decide +kernel
theorem dX11_feed_39 : decode cX11_feed 39 = .ok (.invokevirtual 106, 3) := by decide +kernel
theorem dX11_feed_48 : decode cX11_feed 48 = .ok (.invokevirtual 106, 3) := by decide +kernel
theorem dJ7_copyOf_9075b_32 : decode cJ7_copyOf_9075b 32 = .ok (.areturn, 1) := by decide +kernel
theorem dX0_add_23 : decode cX0_add 23 = .ok (.invokestatic 19, 3) := by decide +kernel
theorem dX11_feed_57 : decode cX11_feed 57 = .ok (.invokevirtual 106, 3) := by decide +kernel
theorem dX11_feed_67 : decode cX11_feed 67 = .ok (.ireturn, 1) := by decide +kernel
set_option maxHeartbeats 4000000 in
set_option maxRecDepth 100000 in
theorem c_X0_add_1 (l : Launch) (D : va_G) (cI cB cJ cS : ClassId) (sz : Nat) (a0 : Nat) (a1 : Nat) (x0 : Int32) (f0 : Nat → Int32) (hy_f0 : ∀ j, fits .byte (.int (f0 j)) = true) : Met l yX0_add (.code yX0_add cX0_add 2 none :: nm_big) ({ frames := 0, cells := 0, slots := 0, locals := 0 }) (nm_P D cI cB cJ cS [.ref a0, .int x0] sz [(a0, .inr (0, [.ref a1, .int 0])), (a1, .inl (cB, 16, .inl f0))]) ((fun A : Nat → Prop => va_Qv (S := (Nat → Int32)) (fun (f102 : (Nat → Int32)) => (∀ j, fits .byte (.int (f102 j)) = true)) (nm_B D (fun (f102 : (Nat → Int32)) => [(a0, .inr (0, [.ref a1, .int 1])), (a1, .inl (cB, 16, .inl f102))]) A) A) (va_A [(a0, .inr (0, [.ref a1, .int 0])), (a1, .inl (cB, 16, .inl f0))] sz)) 0 0 (va_A [(a0, .inr (0, [.ref a1, .int 0])), (a1, .inl (cB, 16, .inl f0))] sz) := by
  refine nm_Met (Qc := fun A => va_Qv (S := (Nat → Int32)) (fun (f102 : (Nat → Int32)) => (∀ j, fits .byte (.int (f102 j)) = true)) (nm_B D (fun (f102 : (Nat → Int32)) => [(a0, .inr (0, [.ref a1, .int 1])), (a1, .inl (cB, 16, .inl f102))]) A) A) ?_ ?_ ?_
  · decide +kernel
  · exact Nat.le_of_ble_eq_true rfl
  intro p e s m below meth c A ls hx hb hr hml hts hown hlocks hin hM hP hD hS hA hl
  have hl : lv_has ls 2 [(0, .ref a0), (1, .int x0)] := hl
  have hown : s.vm.findClass RX0 = some m.cls := hown
  refine lv_aload_n hx hb dX0_add_0 rfl (lv_at hl 0 rfl) ?_
  refine va_get (D := D) (ci := 0) (v := .int 0) (C := RX0) (T := TX0) (N := 2) hx hb hts iw_X0 hown hM.1 hP 0 rfl rfl 1 (by decide) (hts _ q_43) (fun _ h9 => h9) rfl dX0_add_1 ?_
  refine lv_aload_n hx hb dX0_add_4 rfl (lv_at hl 0 rfl) ?_
  refine va_get (D := D) (ci := 0) (v := .ref a1) (C := RX0) (T := TX0) (N := 2) hx hb hts iw_X0 hown hM.1 hP 0 rfl rfl 0 (by decide) (hts _ q_42) (fun _ h9 => h9) rfl dX0_add_5 ?_
  refine va_alen (v := 16) hx hb hM.1 hP 1 1 rfl rfl rfl dX0_add_8 ?_
  refine lv_icmp_lt (tgt := 29) hx hb dX0_add_9 (by decide) (fun _ => ?_) (fun c9 => absurd (by decide) c9)
  refine lv_aload_n hx hb dX0_add_29 rfl (lv_at hl 0 rfl) ?_
  refine va_get (D := D) (ci := 0) (v := .ref a1) (C := RX0) (T := TX0) (N := 2) hx hb hts iw_X0 hown hM.1 hP 0 rfl rfl 0 (by decide) (hts _ q_42) (fun _ h9 => h9) rfl dX0_add_30 ?_
  refine lv_aload_n hx hb dX0_add_33 rfl (lv_at hl 0 rfl) ?_
  refine va_get (D := D) (ci := 0) (v := .int 0) (C := RX0) (T := TX0) (N := 2) hx hb hts iw_X0 hown hM.1 hP 0 rfl rfl 1 (by decide) (hts _ q_43) (fun _ h9 => h9) rfl dX0_add_34 ?_
  refine lv_iload_n hx hb dX0_add_37 rfl (lv_at hl 1 rfl) ?_
  obtain ⟨z101, e9⟩ : ∃ y : Int32, Int8.toInt32 (Int32.toInt8 x0) = y := ⟨_, rfl⟩
  refine lv_i2b hx hb dX0_add_38 e9 ?_
  refine va_bast hx hb hM.1 hP hD hS 1 1 rfl rfl (nm_vin (by decide)) dX0_add_39 (fun H locs hP hD hS => ?_)
  have hP : va_P D nm_cl [(a0, .inr (0, [.ref a1, .int 0])), (a1, .inl (cB, 16, .inl (upd f0 (Int32.toNatClampNeg 0) (vp_nar .byte z101))))] H := hP
  have hD : va_D A [(a0, .inr (0, [.ref a1, .int 0])), (a1, .inl (cB, 16, .inl (upd f0 (Int32.toNatClampNeg 0) (vp_nar .byte z101))))] := hD
  obtain ⟨f102, hf9⟩ : ∃ g : Nat → Int32, g = (upd f0 (Int32.toNatClampNeg 0) (vp_nar .byte z101)) := ⟨_, rfl⟩
  rw [← hf9] at hP hD
  have hy_f102 : ∀ j, fits .byte (.int (f102 j)) = true := by rw [hf9]; exact nm_by hy_f0
  refine lv_aload_n hx hb dX0_add_40 rfl (lv_at hl 0 rfl) ?_
  refine lv_dup hx hb dX0_add_41 rfl ?_
  refine va_get (D := D) (ci := 0) (v := .int 0) (C := RX0) (T := TX0) (N := 2) hx hb hts iw_X0 hown hM.1 hP 0 rfl rfl 1 (by decide) (hts _ q_43) (fun _ h9 => h9) rfl dX0_add_42 ?_
  refine lv_iconst (v := 1) hx hb dX0_add_45 (by decide) ?_
  refine lv_iadd hx hb dX0_add_46 ?_
  refine lv_topi (fun z103 e9 => ?_)
  obtain rfl : z103 = (1 : Int32) := e9.trans (by decide)
  refine va_put (D := D) (ci := 0) (v := .int 1) (ty := .int) (C := RX0) (T := TX0) (N := 2) hx hb hts iw_X0 tyX0 tyX0_ok nmX0 hown hM.1 hP hD hS 0 rfl rfl 1 (by decide) (hts _ q_43) (fun _ h9 => h9) rfl (by decide +kernel) rfl rfl (Nat.le_of_ble_eq_true rfl) dX0_add_47 (fun H locs hP hD hS => ?_)
  have hP : va_P D nm_cl [(a0, .inr (0, [.ref a1, .int 1])), (a1, .inl (cB, 16, .inl f102))] H := hP
  have hD : va_D A [(a0, .inr (0, [.ref a1, .int 1])), (a1, .inl (cB, 16, .inl f102))] := hD
  have hP9 := hP.sub (ws' := [(a0, .inr (0, [.ref a1, .int 1])), (a1, .inl (cB, 16, .inl f102))]) [0, 1] rfl
  have hD9 := hD.sub (ws' := [(a0, .inr (0, [.ref a1, .int 1])), (a1, .inl (cB, 16, .inl f102))]) [0, 1] (by decide) rfl
  exact W.vret hx hb hr (fun t ht hW => ⟨⟨f102, rfl, hy_f102, by rw [ht]; exact hP9, hD9⟩, hS.F ht⟩) hS.2.2 dX0_add_50
set_option maxHeartbeats 4000000 in
set_option maxRecDepth 100000 in
theorem c_X0_add_2 (l : Launch) (D : va_G) (cI cB cJ cS : ClassId) (sz : Nat) (a0 : Nat) (a1 : Nat) (x0 : Int32) (f0 : Nat → Int32) (hy_f0 : ∀ j, fits .byte (.int (f0 j)) = true) : Met l yX0_add (.code yX0_add cX0_add 2 none :: nm_big) ({ frames := 0, cells := 0, slots := 0, locals := 0 }) (nm_P D cI cB cJ cS [.ref a0, .int x0] sz [(a0, .inr (0, [.ref a1, .int 1])), (a1, .inl (cB, 16, .inl f0))]) ((fun A : Nat → Prop => va_Qv (S := (Nat → Int32)) (fun (f102 : (Nat → Int32)) => (∀ j, fits .byte (.int (f102 j)) = true)) (nm_B D (fun (f102 : (Nat → Int32)) => [(a0, .inr (0, [.ref a1, .int 2])), (a1, .inl (cB, 16, .inl f102))]) A) A) (va_A [(a0, .inr (0, [.ref a1, .int 1])), (a1, .inl (cB, 16, .inl f0))] sz)) 0 0 (va_A [(a0, .inr (0, [.ref a1, .int 1])), (a1, .inl (cB, 16, .inl f0))] sz) := by
  refine nm_Met (Qc := fun A => va_Qv (S := (Nat → Int32)) (fun (f102 : (Nat → Int32)) => (∀ j, fits .byte (.int (f102 j)) = true)) (nm_B D (fun (f102 : (Nat → Int32)) => [(a0, .inr (0, [.ref a1, .int 2])), (a1, .inl (cB, 16, .inl f102))]) A) A) ?_ ?_ ?_
  · decide +kernel
  · exact Nat.le_of_ble_eq_true rfl
  intro p e s m below meth c A ls hx hb hr hml hts hown hlocks hin hM hP hD hS hA hl
  have hl : lv_has ls 2 [(0, .ref a0), (1, .int x0)] := hl
  have hown : s.vm.findClass RX0 = some m.cls := hown
  refine lv_aload_n hx hb dX0_add_0 rfl (lv_at hl 0 rfl) ?_
  refine va_get (D := D) (ci := 0) (v := .int 1) (C := RX0) (T := TX0) (N := 2) hx hb hts iw_X0 hown hM.1 hP 0 rfl rfl 1 (by decide) (hts _ q_43) (fun _ h9 => h9) rfl dX0_add_1 ?_
  refine lv_aload_n hx hb dX0_add_4 rfl (lv_at hl 0 rfl) ?_
  refine va_get (D := D) (ci := 0) (v := .ref a1) (C := RX0) (T := TX0) (N := 2) hx hb hts iw_X0 hown hM.1 hP 0 rfl rfl 0 (by decide) (hts _ q_42) (fun _ h9 => h9) rfl dX0_add_5 ?_
  refine va_alen (v := 16) hx hb hM.1 hP 1 1 rfl rfl rfl dX0_add_8 ?_
  refine lv_icmp_lt (tgt := 29) hx hb dX0_add_9 (by decide) (fun _ => ?_) (fun c9 => absurd (by decide) c9)
  refine lv_aload_n hx hb dX0_add_29 rfl (lv_at hl 0 rfl) ?_
  refine va_get (D := D) (ci := 0) (v := .ref a1) (C := RX0) (T := TX0) (N := 2) hx hb hts iw_X0 hown hM.1 hP 0 rfl rfl 0 (by decide) (hts _ q_42) (fun _ h9 => h9) rfl dX0_add_30 ?_
  refine lv_aload_n hx hb dX0_add_33 rfl (lv_at hl 0 rfl) ?_
  refine va_get (D := D) (ci := 0) (v := .int 1) (C := RX0) (T := TX0) (N := 2) hx hb hts iw_X0 hown hM.1 hP 0 rfl rfl 1 (by decide) (hts _ q_43) (fun _ h9 => h9) rfl dX0_add_34 ?_
  refine lv_iload_n hx hb dX0_add_37 rfl (lv_at hl 1 rfl) ?_
  obtain ⟨z101, e9⟩ : ∃ y : Int32, Int8.toInt32 (Int32.toInt8 x0) = y := ⟨_, rfl⟩
  refine lv_i2b hx hb dX0_add_38 e9 ?_
  refine va_bast hx hb hM.1 hP hD hS 1 1 rfl rfl (nm_vin (by decide)) dX0_add_39 (fun H locs hP hD hS => ?_)
  have hP : va_P D nm_cl [(a0, .inr (0, [.ref a1, .int 1])), (a1, .inl (cB, 16, .inl (upd f0 (Int32.toNatClampNeg 1) (vp_nar .byte z101))))] H := hP
  have hD : va_D A [(a0, .inr (0, [.ref a1, .int 1])), (a1, .inl (cB, 16, .inl (upd f0 (Int32.toNatClampNeg 1) (vp_nar .byte z101))))] := hD
  obtain ⟨f102, hf9⟩ : ∃ g : Nat → Int32, g = (upd f0 (Int32.toNatClampNeg 1) (vp_nar .byte z101)) := ⟨_, rfl⟩
  rw [← hf9] at hP hD
  have hy_f102 : ∀ j, fits .byte (.int (f102 j)) = true := by rw [hf9]; exact nm_by hy_f0
  refine lv_aload_n hx hb dX0_add_40 rfl (lv_at hl 0 rfl) ?_
  refine lv_dup hx hb dX0_add_41 rfl ?_
  refine va_get (D := D) (ci := 0) (v := .int 1) (C := RX0) (T := TX0) (N := 2) hx hb hts iw_X0 hown hM.1 hP 0 rfl rfl 1 (by decide) (hts _ q_43) (fun _ h9 => h9) rfl dX0_add_42 ?_
  refine lv_iconst (v := 1) hx hb dX0_add_45 (by decide) ?_
  refine lv_iadd hx hb dX0_add_46 ?_
  refine lv_topi (fun z103 e9 => ?_)
  obtain rfl : z103 = (2 : Int32) := e9.trans (by decide)
  refine va_put (D := D) (ci := 0) (v := .int 2) (ty := .int) (C := RX0) (T := TX0) (N := 2) hx hb hts iw_X0 tyX0 tyX0_ok nmX0 hown hM.1 hP hD hS 0 rfl rfl 1 (by decide) (hts _ q_43) (fun _ h9 => h9) rfl (by decide +kernel) rfl rfl (Nat.le_of_ble_eq_true rfl) dX0_add_47 (fun H locs hP hD hS => ?_)
  have hP : va_P D nm_cl [(a0, .inr (0, [.ref a1, .int 2])), (a1, .inl (cB, 16, .inl f102))] H := hP
  have hD : va_D A [(a0, .inr (0, [.ref a1, .int 2])), (a1, .inl (cB, 16, .inl f102))] := hD
  have hP9 := hP.sub (ws' := [(a0, .inr (0, [.ref a1, .int 2])), (a1, .inl (cB, 16, .inl f102))]) [0, 1] rfl
  have hD9 := hD.sub (ws' := [(a0, .inr (0, [.ref a1, .int 2])), (a1, .inl (cB, 16, .inl f102))]) [0, 1] (by decide) rfl
  exact W.vret hx hb hr (fun t ht hW => ⟨⟨f102, rfl, hy_f102, by rw [ht]; exact hP9, hD9⟩, hS.F ht⟩) hS.2.2 dX0_add_50
set_option maxHeartbeats 4000000 in
set_option maxRecDepth 100000 in
theorem c_X0_add_3 (l : Launch) (D : va_G) (cI cB cJ cS : ClassId) (sz : Nat) (a0 : Nat) (a1 : Nat) (x0 : Int32) (f0 : Nat → Int32) (hy_f0 : ∀ j, fits .byte (.int (f0 j)) = true) : Met l yX0_add (.code yX0_add cX0_add 2 none :: nm_big) ({ frames := 0, cells := 0, slots := 0, locals := 0 }) (nm_P D cI cB cJ cS [.ref a0, .int x0] sz [(a0, .inr (0, [.ref a1, .int 2])), (a1, .inl (cB, 16, .inl f0))]) ((fun A : Nat → Prop => va_Qv (S := (Nat → Int32)) (fun (f102 : (Nat → Int32)) => (∀ j, fits .byte (.int (f102 j)) = true)) (nm_B D (fun (f102 : (Nat → Int32)) => [(a0, .inr (0, [.ref a1, .int 3])), (a1, .inl (cB, 16, .inl f102))]) A) A) (va_A [(a0, .inr (0, [.ref a1, .int 2])), (a1, .inl (cB, 16, .inl f0))] sz)) 0 0 (va_A [(a0, .inr (0, [.ref a1, .int 2])), (a1, .inl (cB, 16, .inl f0))] sz) := by
  refine nm_Met (Qc := fun A => va_Qv (S := (Nat → Int32)) (fun (f102 : (Nat → Int32)) => (∀ j, fits .byte (.int (f102 j)) = true)) (nm_B D (fun (f102 : (Nat → Int32)) => [(a0, .inr (0, [.ref a1, .int 3])), (a1, .inl (cB, 16, .inl f102))]) A) A) ?_ ?_ ?_
  · decide +kernel
  · exact Nat.le_of_ble_eq_true rfl
  intro p e s m below meth c A ls hx hb hr hml hts hown hlocks hin hM hP hD hS hA hl
  have hl : lv_has ls 2 [(0, .ref a0), (1, .int x0)] := hl
  have hown : s.vm.findClass RX0 = some m.cls := hown
  refine lv_aload_n hx hb dX0_add_0 rfl (lv_at hl 0 rfl) ?_
  refine va_get (D := D) (ci := 0) (v := .int 2) (C := RX0) (T := TX0) (N := 2) hx hb hts iw_X0 hown hM.1 hP 0 rfl rfl 1 (by decide) (hts _ q_43) (fun _ h9 => h9) rfl dX0_add_1 ?_
  refine lv_aload_n hx hb dX0_add_4 rfl (lv_at hl 0 rfl) ?_
  refine va_get (D := D) (ci := 0) (v := .ref a1) (C := RX0) (T := TX0) (N := 2) hx hb hts iw_X0 hown hM.1 hP 0 rfl rfl 0 (by decide) (hts _ q_42) (fun _ h9 => h9) rfl dX0_add_5 ?_
  refine va_alen (v := 16) hx hb hM.1 hP 1 1 rfl rfl rfl dX0_add_8 ?_
  refine lv_icmp_lt (tgt := 29) hx hb dX0_add_9 (by decide) (fun _ => ?_) (fun c9 => absurd (by decide) c9)
  refine lv_aload_n hx hb dX0_add_29 rfl (lv_at hl 0 rfl) ?_
  refine va_get (D := D) (ci := 0) (v := .ref a1) (C := RX0) (T := TX0) (N := 2) hx hb hts iw_X0 hown hM.1 hP 0 rfl rfl 0 (by decide) (hts _ q_42) (fun _ h9 => h9) rfl dX0_add_30 ?_
  refine lv_aload_n hx hb dX0_add_33 rfl (lv_at hl 0 rfl) ?_
  refine va_get (D := D) (ci := 0) (v := .int 2) (C := RX0) (T := TX0) (N := 2) hx hb hts iw_X0 hown hM.1 hP 0 rfl rfl 1 (by decide) (hts _ q_43) (fun _ h9 => h9) rfl dX0_add_34 ?_
  refine lv_iload_n hx hb dX0_add_37 rfl (lv_at hl 1 rfl) ?_
  obtain ⟨z101, e9⟩ : ∃ y : Int32, Int8.toInt32 (Int32.toInt8 x0) = y := ⟨_, rfl⟩
  refine lv_i2b hx hb dX0_add_38 e9 ?_
  refine va_bast hx hb hM.1 hP hD hS 1 1 rfl rfl (nm_vin (by decide)) dX0_add_39 (fun H locs hP hD hS => ?_)
  have hP : va_P D nm_cl [(a0, .inr (0, [.ref a1, .int 2])), (a1, .inl (cB, 16, .inl (upd f0 (Int32.toNatClampNeg 2) (vp_nar .byte z101))))] H := hP
  have hD : va_D A [(a0, .inr (0, [.ref a1, .int 2])), (a1, .inl (cB, 16, .inl (upd f0 (Int32.toNatClampNeg 2) (vp_nar .byte z101))))] := hD
  obtain ⟨f102, hf9⟩ : ∃ g : Nat → Int32, g = (upd f0 (Int32.toNatClampNeg 2) (vp_nar .byte z101)) := ⟨_, rfl⟩
  rw [← hf9] at hP hD
  have hy_f102 : ∀ j, fits .byte (.int (f102 j)) = true := by rw [hf9]; exact nm_by hy_f0
  refine lv_aload_n hx hb dX0_add_40 rfl (lv_at hl 0 rfl) ?_
  refine lv_dup hx hb dX0_add_41 rfl ?_
  refine va_get (D := D) (ci := 0) (v := .int 2) (C := RX0) (T := TX0) (N := 2) hx hb hts iw_X0 hown hM.1 hP 0 rfl rfl 1 (by decide) (hts _ q_43) (fun _ h9 => h9) rfl dX0_add_42 ?_
  refine lv_iconst (v := 1) hx hb dX0_add_45 (by decide) ?_
  refine lv_iadd hx hb dX0_add_46 ?_
  refine lv_topi (fun z103 e9 => ?_)
  obtain rfl : z103 = (3 : Int32) := e9.trans (by decide)
  refine va_put (D := D) (ci := 0) (v := .int 3) (ty := .int) (C := RX0) (T := TX0) (N := 2) hx hb hts iw_X0 tyX0 tyX0_ok nmX0 hown hM.1 hP hD hS 0 rfl rfl 1 (by decide) (hts _ q_43) (fun _ h9 => h9) rfl (by decide +kernel) rfl rfl (Nat.le_of_ble_eq_true rfl) dX0_add_47 (fun H locs hP hD hS => ?_)
  have hP : va_P D nm_cl [(a0, .inr (0, [.ref a1, .int 3])), (a1, .inl (cB, 16, .inl f102))] H := hP
  have hD : va_D A [(a0, .inr (0, [.ref a1, .int 3])), (a1, .inl (cB, 16, .inl f102))] := hD
  have hP9 := hP.sub (ws' := [(a0, .inr (0, [.ref a1, .int 3])), (a1, .inl (cB, 16, .inl f102))]) [0, 1] rfl
  have hD9 := hD.sub (ws' := [(a0, .inr (0, [.ref a1, .int 3])), (a1, .inl (cB, 16, .inl f102))]) [0, 1] (by decide) rfl
  exact W.vret hx hb hr (fun t ht hW => ⟨⟨f102, rfl, hy_f102, by rw [ht]; exact hP9, hD9⟩, hS.F ht⟩) hS.2.2 dX0_add_50
set_option maxHeartbeats 4000000 in
set_option maxRecDepth 100000 in
theorem c_X0_add_4 (l : Launch) (D : va_G) (cI cB cJ cS : ClassId) (sz : Nat) (a0 : Nat) (a1 : Nat) (x0 : Int32) (f0 : Nat → Int32) (hy_f0 : ∀ j, fits .byte (.int (f0 j)) = true) : Met l yX0_add (.code yX0_add cX0_add 2 none :: nm_big) ({ frames := 0, cells := 0, slots := 0, locals := 0 }) (nm_P D cI cB cJ cS [.ref a0, .int x0] sz [(a0, .inr (0, [.ref a1, .int 3])), (a1, .inl (cB, 16, .inl f0))]) ((fun A : Nat → Prop => va_Qv (S := (Nat → Int32)) (fun (f102 : (Nat → Int32)) => (∀ j, fits .byte (.int (f102 j)) = true)) (nm_B D (fun (f102 : (Nat → Int32)) => [(a0, .inr (0, [.ref a1, .int 4])), (a1, .inl (cB, 16, .inl f102))]) A) A) (va_A [(a0, .inr (0, [.ref a1, .int 3])), (a1, .inl (cB, 16, .inl f0))] sz)) 0 0 (va_A [(a0, .inr (0, [.ref a1, .int 3])), (a1, .inl (cB, 16, .inl f0))] sz) := by
  refine nm_Met (Qc := fun A => va_Qv (S := (Nat → Int32)) (fun (f102 : (Nat → Int32)) => (∀ j, fits .byte (.int (f102 j)) = true)) (nm_B D (fun (f102 : (Nat → Int32)) => [(a0, .inr (0, [.ref a1, .int 4])), (a1, .inl (cB, 16, .inl f102))]) A) A) ?_ ?_ ?_
  · decide +kernel
  · exact Nat.le_of_ble_eq_true rfl
  intro p e s m below meth c A ls hx hb hr hml hts hown hlocks hin hM hP hD hS hA hl
  have hl : lv_has ls 2 [(0, .ref a0), (1, .int x0)] := hl
  have hown : s.vm.findClass RX0 = some m.cls := hown
  refine lv_aload_n hx hb dX0_add_0 rfl (lv_at hl 0 rfl) ?_
  refine va_get (D := D) (ci := 0) (v := .int 3) (C := RX0) (T := TX0) (N := 2) hx hb hts iw_X0 hown hM.1 hP 0 rfl rfl 1 (by decide) (hts _ q_43) (fun _ h9 => h9) rfl dX0_add_1 ?_
  refine lv_aload_n hx hb dX0_add_4 rfl (lv_at hl 0 rfl) ?_
  refine va_get (D := D) (ci := 0) (v := .ref a1) (C := RX0) (T := TX0) (N := 2) hx hb hts iw_X0 hown hM.1 hP 0 rfl rfl 0 (by decide) (hts _ q_42) (fun _ h9 => h9) rfl dX0_add_5 ?_
  refine va_alen (v := 16) hx hb hM.1 hP 1 1 rfl rfl rfl dX0_add_8 ?_
  refine lv_icmp_lt (tgt := 29) hx hb dX0_add_9 (by decide) (fun _ => ?_) (fun c9 => absurd (by decide) c9)
  refine lv_aload_n hx hb dX0_add_29 rfl (lv_at hl 0 rfl) ?_
  refine va_get (D := D) (ci := 0) (v := .ref a1) (C := RX0) (T := TX0) (N := 2) hx hb hts iw_X0 hown hM.1 hP 0 rfl rfl 0 (by decide) (hts _ q_42) (fun _ h9 => h9) rfl dX0_add_30 ?_
  refine lv_aload_n hx hb dX0_add_33 rfl (lv_at hl 0 rfl) ?_
  refine va_get (D := D) (ci := 0) (v := .int 3) (C := RX0) (T := TX0) (N := 2) hx hb hts iw_X0 hown hM.1 hP 0 rfl rfl 1 (by decide) (hts _ q_43) (fun _ h9 => h9) rfl dX0_add_34 ?_
  refine lv_iload_n hx hb dX0_add_37 rfl (lv_at hl 1 rfl) ?_
  obtain ⟨z101, e9⟩ : ∃ y : Int32, Int8.toInt32 (Int32.toInt8 x0) = y := ⟨_, rfl⟩
  refine lv_i2b hx hb dX0_add_38 e9 ?_
  refine va_bast hx hb hM.1 hP hD hS 1 1 rfl rfl (nm_vin (by decide)) dX0_add_39 (fun H locs hP hD hS => ?_)
  have hP : va_P D nm_cl [(a0, .inr (0, [.ref a1, .int 3])), (a1, .inl (cB, 16, .inl (upd f0 (Int32.toNatClampNeg 3) (vp_nar .byte z101))))] H := hP
  have hD : va_D A [(a0, .inr (0, [.ref a1, .int 3])), (a1, .inl (cB, 16, .inl (upd f0 (Int32.toNatClampNeg 3) (vp_nar .byte z101))))] := hD
  obtain ⟨f102, hf9⟩ : ∃ g : Nat → Int32, g = (upd f0 (Int32.toNatClampNeg 3) (vp_nar .byte z101)) := ⟨_, rfl⟩
  rw [← hf9] at hP hD
  have hy_f102 : ∀ j, fits .byte (.int (f102 j)) = true := by rw [hf9]; exact nm_by hy_f0
  refine lv_aload_n hx hb dX0_add_40 rfl (lv_at hl 0 rfl) ?_
  refine lv_dup hx hb dX0_add_41 rfl ?_
  refine va_get (D := D) (ci := 0) (v := .int 3) (C := RX0) (T := TX0) (N := 2) hx hb hts iw_X0 hown hM.1 hP 0 rfl rfl 1 (by decide) (hts _ q_43) (fun _ h9 => h9) rfl dX0_add_42 ?_
  refine lv_iconst (v := 1) hx hb dX0_add_45 (by decide) ?_
  refine lv_iadd hx hb dX0_add_46 ?_
  refine lv_topi (fun z103 e9 => ?_)
  obtain rfl : z103 = (4 : Int32) := e9.trans (by decide)
  refine va_put (D := D) (ci := 0) (v := .int 4) (ty := .int) (C := RX0) (T := TX0) (N := 2) hx hb hts iw_X0 tyX0 tyX0_ok nmX0 hown hM.1 hP hD hS 0 rfl rfl 1 (by decide) (hts _ q_43) (fun _ h9 => h9) rfl (by decide +kernel) rfl rfl (Nat.le_of_ble_eq_true rfl) dX0_add_47 (fun H locs hP hD hS => ?_)
  have hP : va_P D nm_cl [(a0, .inr (0, [.ref a1, .int 4])), (a1, .inl (cB, 16, .inl f102))] H := hP
  have hD : va_D A [(a0, .inr (0, [.ref a1, .int 4])), (a1, .inl (cB, 16, .inl f102))] := hD
  have hP9 := hP.sub (ws' := [(a0, .inr (0, [.ref a1, .int 4])), (a1, .inl (cB, 16, .inl f102))]) [0, 1] rfl
  have hD9 := hD.sub (ws' := [(a0, .inr (0, [.ref a1, .int 4])), (a1, .inl (cB, 16, .inl f102))]) [0, 1] (by decide) rfl
  exact W.vret hx hb hr (fun t ht hW => ⟨⟨f102, rfl, hy_f102, by rw [ht]; exact hP9, hD9⟩, hS.F ht⟩) hS.2.2 dX0_add_50
set_option maxHeartbeats 4000000 in
set_option maxRecDepth 100000 in
theorem c_X0_addFour_1 (l : Launch) (D : va_G) (cI cB cJ cS : ClassId) (sz : Nat) (a0 : Nat) (a1 : Nat) (x0 : Int32) (f0 : Nat → Int32) (hy_f0 : ∀ j, fits .byte (.int (f0 j)) = true) : Met l yX0_addFour (.code yX0_addFour cX0_addFour 2 none :: nm_big) ({ frames := 1, cells := 0, slots := 0, locals := 21 }) (nm_P D cI cB cJ cS [.ref a0, .int x0] sz [(a0, .inr (0, [.ref a1, .int 0])), (a1, .inl (cB, 16, .inl f0))]) ((fun A : Nat → Prop => va_Qv (S := (Nat → Int32)) (fun (f110 : (Nat → Int32)) => (∀ j, fits .byte (.int (f110 j)) = true)) (nm_B D (fun (f110 : (Nat → Int32)) => [(a0, .inr (0, [.ref a1, .int 4])), (a1, .inl (cB, 16, .inl f110))]) A) A) (va_A [(a0, .inr (0, [.ref a1, .int 0])), (a1, .inl (cB, 16, .inl f0))] sz)) 0 0 (va_A [(a0, .inr (0, [.ref a1, .int 0])), (a1, .inl (cB, 16, .inl f0))] sz) := by
  refine nm_Met (Qc := fun A => va_Qv (S := (Nat → Int32)) (fun (f110 : (Nat → Int32)) => (∀ j, fits .byte (.int (f110 j)) = true)) (nm_B D (fun (f110 : (Nat → Int32)) => [(a0, .inr (0, [.ref a1, .int 4])), (a1, .inl (cB, 16, .inl f110))]) A) A) ?_ ?_ ?_
  · decide +kernel
  · exact Nat.le_of_ble_eq_true rfl
  intro p e s m below meth c A ls hx hb hr hml hts hown hlocks hin hM hP hD hS hA hl
  have hl : lv_has ls 2 [(0, .ref a0), (1, .int x0)] := hl
  have hown : s.vm.findClass RX0 = some m.cls := hown
  refine lv_aload_n hx hb dX0_addFour_0 rfl (lv_at hl 0 rfl) ?_
  refine lv_iload_n hx hb dX0_addFour_1 rfl (lv_at hl 1 rfl) ?_
  refine lv_bipush (v := 24) hx hb dX0_addFour_2 (by decide) ?_
  obtain ⟨z101, e9⟩ : ∃ y : Int32, _ = y := ⟨_, rfl⟩
  refine lv_iushr hx hb dX0_addFour_4 e9 ?_
  refine nm_callv (Z := (Nat → Int32)) (wr := []) (k := 0) (n := 0) (va_runV (As := [.int z101]) (rest := []) ⟨hx, hb, hml, hown, hts⟩ (c_X0_add_1 l D cI cB cJ cS s.heap.size a0 a1 z101 f0 hy_f0) (cwV 1 hts (nm_gV q_444 q_445 q_446 q_2 q_447) rfl rfl rfl (by decide +kernel) ⟨(Nat.le_of_ble_eq_true rfl), (Nat.le_of_ble_eq_true rfl)⟩) (nm_preV (q := (RX0, TX0, 2)) (hP.sub [0, 1] rfl) (hD.sub [0, 1] (by decide) rfl) hM 0 rfl rfl) rfl rfl hl.1 rfl (lv_room (Nat.le_of_ble_eq_true rfl)) dX0_addFour_5 ⟨(Nat.le_of_ble_eq_true rfl), (Nat.le_of_ble_eq_true rfl)⟩) hP hD hS hA [0, 1] [] rfl rfl (by decide) (by decide) (Nat.le_of_ble_eq_true rfl) (Nat.le_of_ble_eq_true rfl) (fun u H locs hw hP hD hS => ?_)
  obtain ⟨f102, rfl⟩ : ∃ z, z = u := ⟨_, rfl⟩
  have h103 := hw
  have hP : va_P D nm_cl [(a0, .inr (0, [.ref a1, .int 1])), (a1, .inl (cB, 16, .inl f102))] H := hP
  have hD : va_D A [(a0, .inr (0, [.ref a1, .int 1])), (a1, .inl (cB, 16, .inl f102))] := hD
  refine lv_aload_n hx hb dX0_addFour_8 rfl (lv_at hl 0 rfl) ?_
  refine lv_iload_n hx hb dX0_addFour_9 rfl (lv_at hl 1 rfl) ?_
  refine lv_bipush (v := 16) hx hb dX0_addFour_10 (by decide) ?_
  obtain ⟨z104, e9⟩ : ∃ y : Int32, _ = y := ⟨_, rfl⟩
  refine lv_iushr hx hb dX0_addFour_12 e9 ?_
  refine nm_callv (Z := (Nat → Int32)) (wr := []) (k := 0) (n := 0) (va_runV (As := [.int z104]) (rest := []) ⟨hx, hb, hml, hown, hts⟩ (c_X0_add_2 l D cI cB cJ cS H.size a0 a1 z104 f102 h103) (cwV 1 hts (nm_gV q_444 q_445 q_446 q_2 q_447) rfl rfl rfl (by decide +kernel) ⟨(Nat.le_of_ble_eq_true rfl), (Nat.le_of_ble_eq_true rfl)⟩) (nm_preV (q := (RX0, TX0, 2)) (hP.sub [0, 1] rfl) (hD.sub [0, 1] (by decide) rfl) hM 0 rfl rfl) rfl rfl hl.1 rfl (lv_room (Nat.le_of_ble_eq_true rfl)) dX0_addFour_13 ⟨(Nat.le_of_ble_eq_true rfl), (Nat.le_of_ble_eq_true rfl)⟩) hP hD hS hA [0, 1] [] rfl rfl (by decide) (by decide) (Nat.le_of_ble_eq_true rfl) (Nat.le_of_ble_eq_true rfl) (fun u H locs hw hP hD hS => ?_)
  obtain ⟨f105, rfl⟩ : ∃ z, z = u := ⟨_, rfl⟩
  have h106 := hw
  have hP : va_P D nm_cl [(a0, .inr (0, [.ref a1, .int 2])), (a1, .inl (cB, 16, .inl f105))] H := hP
  have hD : va_D A [(a0, .inr (0, [.ref a1, .int 2])), (a1, .inl (cB, 16, .inl f105))] := hD
  refine lv_aload_n hx hb dX0_addFour_16 rfl (lv_at hl 0 rfl) ?_
  refine lv_iload_n hx hb dX0_addFour_17 rfl (lv_at hl 1 rfl) ?_
  refine lv_bipush (v := 8) hx hb dX0_addFour_18 (by decide) ?_
  obtain ⟨z107, e9⟩ : ∃ y : Int32, _ = y := ⟨_, rfl⟩
  refine lv_iushr hx hb dX0_addFour_20 e9 ?_
  refine nm_callv (Z := (Nat → Int32)) (wr := []) (k := 0) (n := 0) (va_runV (As := [.int z107]) (rest := []) ⟨hx, hb, hml, hown, hts⟩ (c_X0_add_3 l D cI cB cJ cS H.size a0 a1 z107 f105 h106) (cwV 1 hts (nm_gV q_444 q_445 q_446 q_2 q_447) rfl rfl rfl (by decide +kernel) ⟨(Nat.le_of_ble_eq_true rfl), (Nat.le_of_ble_eq_true rfl)⟩) (nm_preV (q := (RX0, TX0, 2)) (hP.sub [0, 1] rfl) (hD.sub [0, 1] (by decide) rfl) hM 0 rfl rfl) rfl rfl hl.1 rfl (lv_room (Nat.le_of_ble_eq_true rfl)) dX0_addFour_21 ⟨(Nat.le_of_ble_eq_true rfl), (Nat.le_of_ble_eq_true rfl)⟩) hP hD hS hA [0, 1] [] rfl rfl (by decide) (by decide) (Nat.le_of_ble_eq_true rfl) (Nat.le_of_ble_eq_true rfl) (fun u H locs hw hP hD hS => ?_)
  obtain ⟨f108, rfl⟩ : ∃ z, z = u := ⟨_, rfl⟩
  have h109 := hw
  have hP : va_P D nm_cl [(a0, .inr (0, [.ref a1, .int 3])), (a1, .inl (cB, 16, .inl f108))] H := hP
  have hD : va_D A [(a0, .inr (0, [.ref a1, .int 3])), (a1, .inl (cB, 16, .inl f108))] := hD
  refine lv_aload_n hx hb dX0_addFour_24 rfl (lv_at hl 0 rfl) ?_
  refine lv_iload_n hx hb dX0_addFour_25 rfl (lv_at hl 1 rfl) ?_
  refine nm_callv (Z := (Nat → Int32)) (wr := []) (k := 0) (n := 0) (va_runV (As := [.int x0]) (rest := []) ⟨hx, hb, hml, hown, hts⟩ (c_X0_add_4 l D cI cB cJ cS H.size a0 a1 x0 f108 h109) (cwV 1 hts (nm_gV q_444 q_445 q_446 q_2 q_447) rfl rfl rfl (by decide +kernel) ⟨(Nat.le_of_ble_eq_true rfl), (Nat.le_of_ble_eq_true rfl)⟩) (nm_preV (q := (RX0, TX0, 2)) (hP.sub [0, 1] rfl) (hD.sub [0, 1] (by decide) rfl) hM 0 rfl rfl) rfl rfl hl.1 rfl (lv_room (Nat.le_of_ble_eq_true rfl)) dX0_addFour_26 ⟨(Nat.le_of_ble_eq_true rfl), (Nat.le_of_ble_eq_true rfl)⟩) hP hD hS hA [0, 1] [] rfl rfl (by decide) (by decide) (Nat.le_of_ble_eq_true rfl) (Nat.le_of_ble_eq_true rfl) (fun u H locs hw hP hD hS => ?_)
  obtain ⟨f110, rfl⟩ : ∃ z, z = u := ⟨_, rfl⟩
  have h111 := hw
  have hP : va_P D nm_cl [(a0, .inr (0, [.ref a1, .int 4])), (a1, .inl (cB, 16, .inl f110))] H := hP
  have hD : va_D A [(a0, .inr (0, [.ref a1, .int 4])), (a1, .inl (cB, 16, .inl f110))] := hD
  have hP9 := hP.sub (ws' := [(a0, .inr (0, [.ref a1, .int 4])), (a1, .inl (cB, 16, .inl f110))]) [0, 1] rfl
  have hD9 := hD.sub (ws' := [(a0, .inr (0, [.ref a1, .int 4])), (a1, .inl (cB, 16, .inl f110))]) [0, 1] (by decide) rfl
  exact W.vret hx hb hr (fun t ht hW => ⟨⟨f110, rfl, h111, by rw [ht]; exact hP9, hD9⟩, hS.F ht⟩) hS.2.2 dX0_addFour_29
set_option maxHeartbeats 4000000 in
set_option maxRecDepth 100000 in
theorem c_X0_add_5 (l : Launch) (D : va_G) (cI cB cJ cS : ClassId) (sz : Nat) (a0 : Nat) (a1 : Nat) (x0 : Int32) (f0 : Nat → Int32) (hy_f0 : ∀ j, fits .byte (.int (f0 j)) = true) : Met l yX0_add (.code yX0_add cX0_add 2 none :: nm_big) ({ frames := 0, cells := 0, slots := 0, locals := 0 }) (nm_P D cI cB cJ cS [.ref a0, .int x0] sz [(a0, .inr (0, [.ref a1, .int 4])), (a1, .inl (cB, 16, .inl f0))]) ((fun A : Nat → Prop => va_Qv (S := (Nat → Int32)) (fun (f102 : (Nat → Int32)) => (∀ j, fits .byte (.int (f102 j)) = true)) (nm_B D (fun (f102 : (Nat → Int32)) => [(a0, .inr (0, [.ref a1, .int 5])), (a1, .inl (cB, 16, .inl f102))]) A) A) (va_A [(a0, .inr (0, [.ref a1, .int 4])), (a1, .inl (cB, 16, .inl f0))] sz)) 0 0 (va_A [(a0, .inr (0, [.ref a1, .int 4])), (a1, .inl (cB, 16, .inl f0))] sz) := by
  refine nm_Met (Qc := fun A => va_Qv (S := (Nat → Int32)) (fun (f102 : (Nat → Int32)) => (∀ j, fits .byte (.int (f102 j)) = true)) (nm_B D (fun (f102 : (Nat → Int32)) => [(a0, .inr (0, [.ref a1, .int 5])), (a1, .inl (cB, 16, .inl f102))]) A) A) ?_ ?_ ?_
  · decide +kernel
  · exact Nat.le_of_ble_eq_true rfl
  intro p e s m below meth c A ls hx hb hr hml hts hown hlocks hin hM hP hD hS hA hl
  have hl : lv_has ls 2 [(0, .ref a0), (1, .int x0)] := hl
  have hown : s.vm.findClass RX0 = some m.cls := hown
  refine lv_aload_n hx hb dX0_add_0 rfl (lv_at hl 0 rfl) ?_
  refine va_get (D := D) (ci := 0) (v := .int 4) (C := RX0) (T := TX0) (N := 2) hx hb hts iw_X0 hown hM.1 hP 0 rfl rfl 1 (by decide) (hts _ q_43) (fun _ h9 => h9) rfl dX0_add_1 ?_
  refine lv_aload_n hx hb dX0_add_4 rfl (lv_at hl 0 rfl) ?_
  refine va_get (D := D) (ci := 0) (v := .ref a1) (C := RX0) (T := TX0) (N := 2) hx hb hts iw_X0 hown hM.1 hP 0 rfl rfl 0 (by decide) (hts _ q_42) (fun _ h9 => h9) rfl dX0_add_5 ?_
  refine va_alen (v := 16) hx hb hM.1 hP 1 1 rfl rfl rfl dX0_add_8 ?_
  refine lv_icmp_lt (tgt := 29) hx hb dX0_add_9 (by decide) (fun _ => ?_) (fun c9 => absurd (by decide) c9)
  refine lv_aload_n hx hb dX0_add_29 rfl (lv_at hl 0 rfl) ?_
  refine va_get (D := D) (ci := 0) (v := .ref a1) (C := RX0) (T := TX0) (N := 2) hx hb hts iw_X0 hown hM.1 hP 0 rfl rfl 0 (by decide) (hts _ q_42) (fun _ h9 => h9) rfl dX0_add_30 ?_
  refine lv_aload_n hx hb dX0_add_33 rfl (lv_at hl 0 rfl) ?_
  refine va_get (D := D) (ci := 0) (v := .int 4) (C := RX0) (T := TX0) (N := 2) hx hb hts iw_X0 hown hM.1 hP 0 rfl rfl 1 (by decide) (hts _ q_43) (fun _ h9 => h9) rfl dX0_add_34 ?_
  refine lv_iload_n hx hb dX0_add_37 rfl (lv_at hl 1 rfl) ?_
  obtain ⟨z101, e9⟩ : ∃ y : Int32, Int8.toInt32 (Int32.toInt8 x0) = y := ⟨_, rfl⟩
  refine lv_i2b hx hb dX0_add_38 e9 ?_
  refine va_bast hx hb hM.1 hP hD hS 1 1 rfl rfl (nm_vin (by decide)) dX0_add_39 (fun H locs hP hD hS => ?_)
  have hP : va_P D nm_cl [(a0, .inr (0, [.ref a1, .int 4])), (a1, .inl (cB, 16, .inl (upd f0 (Int32.toNatClampNeg 4) (vp_nar .byte z101))))] H := hP
  have hD : va_D A [(a0, .inr (0, [.ref a1, .int 4])), (a1, .inl (cB, 16, .inl (upd f0 (Int32.toNatClampNeg 4) (vp_nar .byte z101))))] := hD
  obtain ⟨f102, hf9⟩ : ∃ g : Nat → Int32, g = (upd f0 (Int32.toNatClampNeg 4) (vp_nar .byte z101)) := ⟨_, rfl⟩
  rw [← hf9] at hP hD
  have hy_f102 : ∀ j, fits .byte (.int (f102 j)) = true := by rw [hf9]; exact nm_by hy_f0
  refine lv_aload_n hx hb dX0_add_40 rfl (lv_at hl 0 rfl) ?_
  refine lv_dup hx hb dX0_add_41 rfl ?_
  refine va_get (D := D) (ci := 0) (v := .int 4) (C := RX0) (T := TX0) (N := 2) hx hb hts iw_X0 hown hM.1 hP 0 rfl rfl 1 (by decide) (hts _ q_43) (fun _ h9 => h9) rfl dX0_add_42 ?_
  refine lv_iconst (v := 1) hx hb dX0_add_45 (by decide) ?_
  refine lv_iadd hx hb dX0_add_46 ?_
  refine lv_topi (fun z103 e9 => ?_)
  obtain rfl : z103 = (5 : Int32) := e9.trans (by decide)
  refine va_put (D := D) (ci := 0) (v := .int 5) (ty := .int) (C := RX0) (T := TX0) (N := 2) hx hb hts iw_X0 tyX0 tyX0_ok nmX0 hown hM.1 hP hD hS 0 rfl rfl 1 (by decide) (hts _ q_43) (fun _ h9 => h9) rfl (by decide +kernel) rfl rfl (Nat.le_of_ble_eq_true rfl) dX0_add_47 (fun H locs hP hD hS => ?_)
  have hP : va_P D nm_cl [(a0, .inr (0, [.ref a1, .int 5])), (a1, .inl (cB, 16, .inl f102))] H := hP
  have hD : va_D A [(a0, .inr (0, [.ref a1, .int 5])), (a1, .inl (cB, 16, .inl f102))] := hD
  have hP9 := hP.sub (ws' := [(a0, .inr (0, [.ref a1, .int 5])), (a1, .inl (cB, 16, .inl f102))]) [0, 1] rfl
  have hD9 := hD.sub (ws' := [(a0, .inr (0, [.ref a1, .int 5])), (a1, .inl (cB, 16, .inl f102))]) [0, 1] (by decide) rfl
  exact W.vret hx hb hr (fun t ht hW => ⟨⟨f102, rfl, hy_f102, by rw [ht]; exact hP9, hD9⟩, hS.F ht⟩) hS.2.2 dX0_add_50
set_option maxHeartbeats 4000000 in
set_option maxRecDepth 100000 in
theorem c_X0_add_6 (l : Launch) (D : va_G) (cI cB cJ cS : ClassId) (sz : Nat) (a0 : Nat) (a1 : Nat) (x0 : Int32) (f0 : Nat → Int32) (hy_f0 : ∀ j, fits .byte (.int (f0 j)) = true) : Met l yX0_add (.code yX0_add cX0_add 2 none :: nm_big) ({ frames := 0, cells := 0, slots := 0, locals := 0 }) (nm_P D cI cB cJ cS [.ref a0, .int x0] sz [(a0, .inr (0, [.ref a1, .int 5])), (a1, .inl (cB, 16, .inl f0))]) ((fun A : Nat → Prop => va_Qv (S := (Nat → Int32)) (fun (f102 : (Nat → Int32)) => (∀ j, fits .byte (.int (f102 j)) = true)) (nm_B D (fun (f102 : (Nat → Int32)) => [(a0, .inr (0, [.ref a1, .int 6])), (a1, .inl (cB, 16, .inl f102))]) A) A) (va_A [(a0, .inr (0, [.ref a1, .int 5])), (a1, .inl (cB, 16, .inl f0))] sz)) 0 0 (va_A [(a0, .inr (0, [.ref a1, .int 5])), (a1, .inl (cB, 16, .inl f0))] sz) := by
  refine nm_Met (Qc := fun A => va_Qv (S := (Nat → Int32)) (fun (f102 : (Nat → Int32)) => (∀ j, fits .byte (.int (f102 j)) = true)) (nm_B D (fun (f102 : (Nat → Int32)) => [(a0, .inr (0, [.ref a1, .int 6])), (a1, .inl (cB, 16, .inl f102))]) A) A) ?_ ?_ ?_
  · decide +kernel
  · exact Nat.le_of_ble_eq_true rfl
  intro p e s m below meth c A ls hx hb hr hml hts hown hlocks hin hM hP hD hS hA hl
  have hl : lv_has ls 2 [(0, .ref a0), (1, .int x0)] := hl
  have hown : s.vm.findClass RX0 = some m.cls := hown
  refine lv_aload_n hx hb dX0_add_0 rfl (lv_at hl 0 rfl) ?_
  refine va_get (D := D) (ci := 0) (v := .int 5) (C := RX0) (T := TX0) (N := 2) hx hb hts iw_X0 hown hM.1 hP 0 rfl rfl 1 (by decide) (hts _ q_43) (fun _ h9 => h9) rfl dX0_add_1 ?_
  refine lv_aload_n hx hb dX0_add_4 rfl (lv_at hl 0 rfl) ?_
  refine va_get (D := D) (ci := 0) (v := .ref a1) (C := RX0) (T := TX0) (N := 2) hx hb hts iw_X0 hown hM.1 hP 0 rfl rfl 0 (by decide) (hts _ q_42) (fun _ h9 => h9) rfl dX0_add_5 ?_
  refine va_alen (v := 16) hx hb hM.1 hP 1 1 rfl rfl rfl dX0_add_8 ?_
  refine lv_icmp_lt (tgt := 29) hx hb dX0_add_9 (by decide) (fun _ => ?_) (fun c9 => absurd (by decide) c9)
  refine lv_aload_n hx hb dX0_add_29 rfl (lv_at hl 0 rfl) ?_
  refine va_get (D := D) (ci := 0) (v := .ref a1) (C := RX0) (T := TX0) (N := 2) hx hb hts iw_X0 hown hM.1 hP 0 rfl rfl 0 (by decide) (hts _ q_42) (fun _ h9 => h9) rfl dX0_add_30 ?_
  refine lv_aload_n hx hb dX0_add_33 rfl (lv_at hl 0 rfl) ?_
  refine va_get (D := D) (ci := 0) (v := .int 5) (C := RX0) (T := TX0) (N := 2) hx hb hts iw_X0 hown hM.1 hP 0 rfl rfl 1 (by decide) (hts _ q_43) (fun _ h9 => h9) rfl dX0_add_34 ?_
  refine lv_iload_n hx hb dX0_add_37 rfl (lv_at hl 1 rfl) ?_
  obtain ⟨z101, e9⟩ : ∃ y : Int32, Int8.toInt32 (Int32.toInt8 x0) = y := ⟨_, rfl⟩
  refine lv_i2b hx hb dX0_add_38 e9 ?_
  refine va_bast hx hb hM.1 hP hD hS 1 1 rfl rfl (nm_vin (by decide)) dX0_add_39 (fun H locs hP hD hS => ?_)
  have hP : va_P D nm_cl [(a0, .inr (0, [.ref a1, .int 5])), (a1, .inl (cB, 16, .inl (upd f0 (Int32.toNatClampNeg 5) (vp_nar .byte z101))))] H := hP
  have hD : va_D A [(a0, .inr (0, [.ref a1, .int 5])), (a1, .inl (cB, 16, .inl (upd f0 (Int32.toNatClampNeg 5) (vp_nar .byte z101))))] := hD
  obtain ⟨f102, hf9⟩ : ∃ g : Nat → Int32, g = (upd f0 (Int32.toNatClampNeg 5) (vp_nar .byte z101)) := ⟨_, rfl⟩
  rw [← hf9] at hP hD
  have hy_f102 : ∀ j, fits .byte (.int (f102 j)) = true := by rw [hf9]; exact nm_by hy_f0
  refine lv_aload_n hx hb dX0_add_40 rfl (lv_at hl 0 rfl) ?_
  refine lv_dup hx hb dX0_add_41 rfl ?_
  refine va_get (D := D) (ci := 0) (v := .int 5) (C := RX0) (T := TX0) (N := 2) hx hb hts iw_X0 hown hM.1 hP 0 rfl rfl 1 (by decide) (hts _ q_43) (fun _ h9 => h9) rfl dX0_add_42 ?_
  refine lv_iconst (v := 1) hx hb dX0_add_45 (by decide) ?_
  refine lv_iadd hx hb dX0_add_46 ?_
  refine lv_topi (fun z103 e9 => ?_)
  obtain rfl : z103 = (6 : Int32) := e9.trans (by decide)
  refine va_put (D := D) (ci := 0) (v := .int 6) (ty := .int) (C := RX0) (T := TX0) (N := 2) hx hb hts iw_X0 tyX0 tyX0_ok nmX0 hown hM.1 hP hD hS 0 rfl rfl 1 (by decide) (hts _ q_43) (fun _ h9 => h9) rfl (by decide +kernel) rfl rfl (Nat.le_of_ble_eq_true rfl) dX0_add_47 (fun H locs hP hD hS => ?_)
  have hP : va_P D nm_cl [(a0, .inr (0, [.ref a1, .int 6])), (a1, .inl (cB, 16, .inl f102))] H := hP
  have hD : va_D A [(a0, .inr (0, [.ref a1, .int 6])), (a1, .inl (cB, 16, .inl f102))] := hD
  have hP9 := hP.sub (ws' := [(a0, .inr (0, [.ref a1, .int 6])), (a1, .inl (cB, 16, .inl f102))]) [0, 1] rfl
  have hD9 := hD.sub (ws' := [(a0, .inr (0, [.ref a1, .int 6])), (a1, .inl (cB, 16, .inl f102))]) [0, 1] (by decide) rfl
  exact W.vret hx hb hr (fun t ht hW => ⟨⟨f102, rfl, hy_f102, by rw [ht]; exact hP9, hD9⟩, hS.F ht⟩) hS.2.2 dX0_add_50
set_option maxHeartbeats 4000000 in
set_option maxRecDepth 100000 in
theorem c_X0_add_7 (l : Launch) (D : va_G) (cI cB cJ cS : ClassId) (sz : Nat) (a0 : Nat) (a1 : Nat) (x0 : Int32) (f0 : Nat → Int32) (hy_f0 : ∀ j, fits .byte (.int (f0 j)) = true) : Met l yX0_add (.code yX0_add cX0_add 2 none :: nm_big) ({ frames := 0, cells := 0, slots := 0, locals := 0 }) (nm_P D cI cB cJ cS [.ref a0, .int x0] sz [(a0, .inr (0, [.ref a1, .int 6])), (a1, .inl (cB, 16, .inl f0))]) ((fun A : Nat → Prop => va_Qv (S := (Nat → Int32)) (fun (f102 : (Nat → Int32)) => (∀ j, fits .byte (.int (f102 j)) = true)) (nm_B D (fun (f102 : (Nat → Int32)) => [(a0, .inr (0, [.ref a1, .int 7])), (a1, .inl (cB, 16, .inl f102))]) A) A) (va_A [(a0, .inr (0, [.ref a1, .int 6])), (a1, .inl (cB, 16, .inl f0))] sz)) 0 0 (va_A [(a0, .inr (0, [.ref a1, .int 6])), (a1, .inl (cB, 16, .inl f0))] sz) := by
  refine nm_Met (Qc := fun A => va_Qv (S := (Nat → Int32)) (fun (f102 : (Nat → Int32)) => (∀ j, fits .byte (.int (f102 j)) = true)) (nm_B D (fun (f102 : (Nat → Int32)) => [(a0, .inr (0, [.ref a1, .int 7])), (a1, .inl (cB, 16, .inl f102))]) A) A) ?_ ?_ ?_
  · decide +kernel
  · exact Nat.le_of_ble_eq_true rfl
  intro p e s m below meth c A ls hx hb hr hml hts hown hlocks hin hM hP hD hS hA hl
  have hl : lv_has ls 2 [(0, .ref a0), (1, .int x0)] := hl
  have hown : s.vm.findClass RX0 = some m.cls := hown
  refine lv_aload_n hx hb dX0_add_0 rfl (lv_at hl 0 rfl) ?_
  refine va_get (D := D) (ci := 0) (v := .int 6) (C := RX0) (T := TX0) (N := 2) hx hb hts iw_X0 hown hM.1 hP 0 rfl rfl 1 (by decide) (hts _ q_43) (fun _ h9 => h9) rfl dX0_add_1 ?_
  refine lv_aload_n hx hb dX0_add_4 rfl (lv_at hl 0 rfl) ?_
  refine va_get (D := D) (ci := 0) (v := .ref a1) (C := RX0) (T := TX0) (N := 2) hx hb hts iw_X0 hown hM.1 hP 0 rfl rfl 0 (by decide) (hts _ q_42) (fun _ h9 => h9) rfl dX0_add_5 ?_
  refine va_alen (v := 16) hx hb hM.1 hP 1 1 rfl rfl rfl dX0_add_8 ?_
  refine lv_icmp_lt (tgt := 29) hx hb dX0_add_9 (by decide) (fun _ => ?_) (fun c9 => absurd (by decide) c9)
  refine lv_aload_n hx hb dX0_add_29 rfl (lv_at hl 0 rfl) ?_
  refine va_get (D := D) (ci := 0) (v := .ref a1) (C := RX0) (T := TX0) (N := 2) hx hb hts iw_X0 hown hM.1 hP 0 rfl rfl 0 (by decide) (hts _ q_42) (fun _ h9 => h9) rfl dX0_add_30 ?_
  refine lv_aload_n hx hb dX0_add_33 rfl (lv_at hl 0 rfl) ?_
  refine va_get (D := D) (ci := 0) (v := .int 6) (C := RX0) (T := TX0) (N := 2) hx hb hts iw_X0 hown hM.1 hP 0 rfl rfl 1 (by decide) (hts _ q_43) (fun _ h9 => h9) rfl dX0_add_34 ?_
  refine lv_iload_n hx hb dX0_add_37 rfl (lv_at hl 1 rfl) ?_
  obtain ⟨z101, e9⟩ : ∃ y : Int32, Int8.toInt32 (Int32.toInt8 x0) = y := ⟨_, rfl⟩
  refine lv_i2b hx hb dX0_add_38 e9 ?_
  refine va_bast hx hb hM.1 hP hD hS 1 1 rfl rfl (nm_vin (by decide)) dX0_add_39 (fun H locs hP hD hS => ?_)
  have hP : va_P D nm_cl [(a0, .inr (0, [.ref a1, .int 6])), (a1, .inl (cB, 16, .inl (upd f0 (Int32.toNatClampNeg 6) (vp_nar .byte z101))))] H := hP
  have hD : va_D A [(a0, .inr (0, [.ref a1, .int 6])), (a1, .inl (cB, 16, .inl (upd f0 (Int32.toNatClampNeg 6) (vp_nar .byte z101))))] := hD
  obtain ⟨f102, hf9⟩ : ∃ g : Nat → Int32, g = (upd f0 (Int32.toNatClampNeg 6) (vp_nar .byte z101)) := ⟨_, rfl⟩
  rw [← hf9] at hP hD
  have hy_f102 : ∀ j, fits .byte (.int (f102 j)) = true := by rw [hf9]; exact nm_by hy_f0
  refine lv_aload_n hx hb dX0_add_40 rfl (lv_at hl 0 rfl) ?_
  refine lv_dup hx hb dX0_add_41 rfl ?_
  refine va_get (D := D) (ci := 0) (v := .int 6) (C := RX0) (T := TX0) (N := 2) hx hb hts iw_X0 hown hM.1 hP 0 rfl rfl 1 (by decide) (hts _ q_43) (fun _ h9 => h9) rfl dX0_add_42 ?_
  refine lv_iconst (v := 1) hx hb dX0_add_45 (by decide) ?_
  refine lv_iadd hx hb dX0_add_46 ?_
  refine lv_topi (fun z103 e9 => ?_)
  obtain rfl : z103 = (7 : Int32) := e9.trans (by decide)
  refine va_put (D := D) (ci := 0) (v := .int 7) (ty := .int) (C := RX0) (T := TX0) (N := 2) hx hb hts iw_X0 tyX0 tyX0_ok nmX0 hown hM.1 hP hD hS 0 rfl rfl 1 (by decide) (hts _ q_43) (fun _ h9 => h9) rfl (by decide +kernel) rfl rfl (Nat.le_of_ble_eq_true rfl) dX0_add_47 (fun H locs hP hD hS => ?_)
  have hP : va_P D nm_cl [(a0, .inr (0, [.ref a1, .int 7])), (a1, .inl (cB, 16, .inl f102))] H := hP
  have hD : va_D A [(a0, .inr (0, [.ref a1, .int 7])), (a1, .inl (cB, 16, .inl f102))] := hD
  have hP9 := hP.sub (ws' := [(a0, .inr (0, [.ref a1, .int 7])), (a1, .inl (cB, 16, .inl f102))]) [0, 1] rfl
  have hD9 := hD.sub (ws' := [(a0, .inr (0, [.ref a1, .int 7])), (a1, .inl (cB, 16, .inl f102))]) [0, 1] (by decide) rfl
  exact W.vret hx hb hr (fun t ht hW => ⟨⟨f102, rfl, hy_f102, by rw [ht]; exact hP9, hD9⟩, hS.F ht⟩) hS.2.2 dX0_add_50
set_option maxHeartbeats 4000000 in
set_option maxRecDepth 100000 in
theorem c_X0_add_8 (l : Launch) (D : va_G) (cI cB cJ cS : ClassId) (sz : Nat) (a0 : Nat) (a1 : Nat) (x0 : Int32) (f0 : Nat → Int32) (hy_f0 : ∀ j, fits .byte (.int (f0 j)) = true) : Met l yX0_add (.code yX0_add cX0_add 2 none :: nm_big) ({ frames := 0, cells := 0, slots := 0, locals := 0 }) (nm_P D cI cB cJ cS [.ref a0, .int x0] sz [(a0, .inr (0, [.ref a1, .int 7])), (a1, .inl (cB, 16, .inl f0))]) ((fun A : Nat → Prop => va_Qv (S := (Nat → Int32)) (fun (f102 : (Nat → Int32)) => (∀ j, fits .byte (.int (f102 j)) = true)) (nm_B D (fun (f102 : (Nat → Int32)) => [(a0, .inr (0, [.ref a1, .int 8])), (a1, .inl (cB, 16, .inl f102))]) A) A) (va_A [(a0, .inr (0, [.ref a1, .int 7])), (a1, .inl (cB, 16, .inl f0))] sz)) 0 0 (va_A [(a0, .inr (0, [.ref a1, .int 7])), (a1, .inl (cB, 16, .inl f0))] sz) := by
  refine nm_Met (Qc := fun A => va_Qv (S := (Nat → Int32)) (fun (f102 : (Nat → Int32)) => (∀ j, fits .byte (.int (f102 j)) = true)) (nm_B D (fun (f102 : (Nat → Int32)) => [(a0, .inr (0, [.ref a1, .int 8])), (a1, .inl (cB, 16, .inl f102))]) A) A) ?_ ?_ ?_
  · decide +kernel
  · exact Nat.le_of_ble_eq_true rfl
  intro p e s m below meth c A ls hx hb hr hml hts hown hlocks hin hM hP hD hS hA hl
  have hl : lv_has ls 2 [(0, .ref a0), (1, .int x0)] := hl
  have hown : s.vm.findClass RX0 = some m.cls := hown
  refine lv_aload_n hx hb dX0_add_0 rfl (lv_at hl 0 rfl) ?_
  refine va_get (D := D) (ci := 0) (v := .int 7) (C := RX0) (T := TX0) (N := 2) hx hb hts iw_X0 hown hM.1 hP 0 rfl rfl 1 (by decide) (hts _ q_43) (fun _ h9 => h9) rfl dX0_add_1 ?_
  refine lv_aload_n hx hb dX0_add_4 rfl (lv_at hl 0 rfl) ?_
  refine va_get (D := D) (ci := 0) (v := .ref a1) (C := RX0) (T := TX0) (N := 2) hx hb hts iw_X0 hown hM.1 hP 0 rfl rfl 0 (by decide) (hts _ q_42) (fun _ h9 => h9) rfl dX0_add_5 ?_
  refine va_alen (v := 16) hx hb hM.1 hP 1 1 rfl rfl rfl dX0_add_8 ?_
  refine lv_icmp_lt (tgt := 29) hx hb dX0_add_9 (by decide) (fun _ => ?_) (fun c9 => absurd (by decide) c9)
  refine lv_aload_n hx hb dX0_add_29 rfl (lv_at hl 0 rfl) ?_
  refine va_get (D := D) (ci := 0) (v := .ref a1) (C := RX0) (T := TX0) (N := 2) hx hb hts iw_X0 hown hM.1 hP 0 rfl rfl 0 (by decide) (hts _ q_42) (fun _ h9 => h9) rfl dX0_add_30 ?_
  refine lv_aload_n hx hb dX0_add_33 rfl (lv_at hl 0 rfl) ?_
  refine va_get (D := D) (ci := 0) (v := .int 7) (C := RX0) (T := TX0) (N := 2) hx hb hts iw_X0 hown hM.1 hP 0 rfl rfl 1 (by decide) (hts _ q_43) (fun _ h9 => h9) rfl dX0_add_34 ?_
  refine lv_iload_n hx hb dX0_add_37 rfl (lv_at hl 1 rfl) ?_
  obtain ⟨z101, e9⟩ : ∃ y : Int32, Int8.toInt32 (Int32.toInt8 x0) = y := ⟨_, rfl⟩
  refine lv_i2b hx hb dX0_add_38 e9 ?_
  refine va_bast hx hb hM.1 hP hD hS 1 1 rfl rfl (nm_vin (by decide)) dX0_add_39 (fun H locs hP hD hS => ?_)
  have hP : va_P D nm_cl [(a0, .inr (0, [.ref a1, .int 7])), (a1, .inl (cB, 16, .inl (upd f0 (Int32.toNatClampNeg 7) (vp_nar .byte z101))))] H := hP
  have hD : va_D A [(a0, .inr (0, [.ref a1, .int 7])), (a1, .inl (cB, 16, .inl (upd f0 (Int32.toNatClampNeg 7) (vp_nar .byte z101))))] := hD
  obtain ⟨f102, hf9⟩ : ∃ g : Nat → Int32, g = (upd f0 (Int32.toNatClampNeg 7) (vp_nar .byte z101)) := ⟨_, rfl⟩
  rw [← hf9] at hP hD
  have hy_f102 : ∀ j, fits .byte (.int (f102 j)) = true := by rw [hf9]; exact nm_by hy_f0
  refine lv_aload_n hx hb dX0_add_40 rfl (lv_at hl 0 rfl) ?_
  refine lv_dup hx hb dX0_add_41 rfl ?_
  refine va_get (D := D) (ci := 0) (v := .int 7) (C := RX0) (T := TX0) (N := 2) hx hb hts iw_X0 hown hM.1 hP 0 rfl rfl 1 (by decide) (hts _ q_43) (fun _ h9 => h9) rfl dX0_add_42 ?_
  refine lv_iconst (v := 1) hx hb dX0_add_45 (by decide) ?_
  refine lv_iadd hx hb dX0_add_46 ?_
  refine lv_topi (fun z103 e9 => ?_)
  obtain rfl : z103 = (8 : Int32) := e9.trans (by decide)
  refine va_put (D := D) (ci := 0) (v := .int 8) (ty := .int) (C := RX0) (T := TX0) (N := 2) hx hb hts iw_X0 tyX0 tyX0_ok nmX0 hown hM.1 hP hD hS 0 rfl rfl 1 (by decide) (hts _ q_43) (fun _ h9 => h9) rfl (by decide +kernel) rfl rfl (Nat.le_of_ble_eq_true rfl) dX0_add_47 (fun H locs hP hD hS => ?_)
  have hP : va_P D nm_cl [(a0, .inr (0, [.ref a1, .int 8])), (a1, .inl (cB, 16, .inl f102))] H := hP
  have hD : va_D A [(a0, .inr (0, [.ref a1, .int 8])), (a1, .inl (cB, 16, .inl f102))] := hD
  have hP9 := hP.sub (ws' := [(a0, .inr (0, [.ref a1, .int 8])), (a1, .inl (cB, 16, .inl f102))]) [0, 1] rfl
  have hD9 := hD.sub (ws' := [(a0, .inr (0, [.ref a1, .int 8])), (a1, .inl (cB, 16, .inl f102))]) [0, 1] (by decide) rfl
  exact W.vret hx hb hr (fun t ht hW => ⟨⟨f102, rfl, hy_f102, by rw [ht]; exact hP9, hD9⟩, hS.F ht⟩) hS.2.2 dX0_add_50
set_option maxHeartbeats 4000000 in
set_option maxRecDepth 100000 in
theorem c_X0_addFour_2 (l : Launch) (D : va_G) (cI cB cJ cS : ClassId) (sz : Nat) (a0 : Nat) (a1 : Nat) (x0 : Int32) (f0 : Nat → Int32) (hy_f0 : ∀ j, fits .byte (.int (f0 j)) = true) : Met l yX0_addFour (.code yX0_addFour cX0_addFour 2 none :: nm_big) ({ frames := 1, cells := 0, slots := 0, locals := 21 }) (nm_P D cI cB cJ cS [.ref a0, .int x0] sz [(a0, .inr (0, [.ref a1, .int 4])), (a1, .inl (cB, 16, .inl f0))]) ((fun A : Nat → Prop => va_Qv (S := (Nat → Int32)) (fun (f110 : (Nat → Int32)) => (∀ j, fits .byte (.int (f110 j)) = true)) (nm_B D (fun (f110 : (Nat → Int32)) => [(a0, .inr (0, [.ref a1, .int 8])), (a1, .inl (cB, 16, .inl f110))]) A) A) (va_A [(a0, .inr (0, [.ref a1, .int 4])), (a1, .inl (cB, 16, .inl f0))] sz)) 0 0 (va_A [(a0, .inr (0, [.ref a1, .int 4])), (a1, .inl (cB, 16, .inl f0))] sz) := by
  refine nm_Met (Qc := fun A => va_Qv (S := (Nat → Int32)) (fun (f110 : (Nat → Int32)) => (∀ j, fits .byte (.int (f110 j)) = true)) (nm_B D (fun (f110 : (Nat → Int32)) => [(a0, .inr (0, [.ref a1, .int 8])), (a1, .inl (cB, 16, .inl f110))]) A) A) ?_ ?_ ?_
  · decide +kernel
  · exact Nat.le_of_ble_eq_true rfl
  intro p e s m below meth c A ls hx hb hr hml hts hown hlocks hin hM hP hD hS hA hl
  have hl : lv_has ls 2 [(0, .ref a0), (1, .int x0)] := hl
  have hown : s.vm.findClass RX0 = some m.cls := hown
  refine lv_aload_n hx hb dX0_addFour_0 rfl (lv_at hl 0 rfl) ?_
  refine lv_iload_n hx hb dX0_addFour_1 rfl (lv_at hl 1 rfl) ?_
  refine lv_bipush (v := 24) hx hb dX0_addFour_2 (by decide) ?_
  obtain ⟨z101, e9⟩ : ∃ y : Int32, _ = y := ⟨_, rfl⟩
  refine lv_iushr hx hb dX0_addFour_4 e9 ?_
  refine nm_callv (Z := (Nat → Int32)) (wr := []) (k := 0) (n := 0) (va_runV (As := [.int z101]) (rest := []) ⟨hx, hb, hml, hown, hts⟩ (c_X0_add_5 l D cI cB cJ cS s.heap.size a0 a1 z101 f0 hy_f0) (cwV 1 hts (nm_gV q_444 q_445 q_446 q_2 q_447) rfl rfl rfl (by decide +kernel) ⟨(Nat.le_of_ble_eq_true rfl), (Nat.le_of_ble_eq_true rfl)⟩) (nm_preV (q := (RX0, TX0, 2)) (hP.sub [0, 1] rfl) (hD.sub [0, 1] (by decide) rfl) hM 0 rfl rfl) rfl rfl hl.1 rfl (lv_room (Nat.le_of_ble_eq_true rfl)) dX0_addFour_5 ⟨(Nat.le_of_ble_eq_true rfl), (Nat.le_of_ble_eq_true rfl)⟩) hP hD hS hA [0, 1] [] rfl rfl (by decide) (by decide) (Nat.le_of_ble_eq_true rfl) (Nat.le_of_ble_eq_true rfl) (fun u H locs hw hP hD hS => ?_)
  obtain ⟨f102, rfl⟩ : ∃ z, z = u := ⟨_, rfl⟩
  have h103 := hw
  have hP : va_P D nm_cl [(a0, .inr (0, [.ref a1, .int 5])), (a1, .inl (cB, 16, .inl f102))] H := hP
  have hD : va_D A [(a0, .inr (0, [.ref a1, .int 5])), (a1, .inl (cB, 16, .inl f102))] := hD
  refine lv_aload_n hx hb dX0_addFour_8 rfl (lv_at hl 0 rfl) ?_
  refine lv_iload_n hx hb dX0_addFour_9 rfl (lv_at hl 1 rfl) ?_
  refine lv_bipush (v := 16) hx hb dX0_addFour_10 (by decide) ?_
  obtain ⟨z104, e9⟩ : ∃ y : Int32, _ = y := ⟨_, rfl⟩
  refine lv_iushr hx hb dX0_addFour_12 e9 ?_
  refine nm_callv (Z := (Nat → Int32)) (wr := []) (k := 0) (n := 0) (va_runV (As := [.int z104]) (rest := []) ⟨hx, hb, hml, hown, hts⟩ (c_X0_add_6 l D cI cB cJ cS H.size a0 a1 z104 f102 h103) (cwV 1 hts (nm_gV q_444 q_445 q_446 q_2 q_447) rfl rfl rfl (by decide +kernel) ⟨(Nat.le_of_ble_eq_true rfl), (Nat.le_of_ble_eq_true rfl)⟩) (nm_preV (q := (RX0, TX0, 2)) (hP.sub [0, 1] rfl) (hD.sub [0, 1] (by decide) rfl) hM 0 rfl rfl) rfl rfl hl.1 rfl (lv_room (Nat.le_of_ble_eq_true rfl)) dX0_addFour_13 ⟨(Nat.le_of_ble_eq_true rfl), (Nat.le_of_ble_eq_true rfl)⟩) hP hD hS hA [0, 1] [] rfl rfl (by decide) (by decide) (Nat.le_of_ble_eq_true rfl) (Nat.le_of_ble_eq_true rfl) (fun u H locs hw hP hD hS => ?_)
  obtain ⟨f105, rfl⟩ : ∃ z, z = u := ⟨_, rfl⟩
  have h106 := hw
  have hP : va_P D nm_cl [(a0, .inr (0, [.ref a1, .int 6])), (a1, .inl (cB, 16, .inl f105))] H := hP
  have hD : va_D A [(a0, .inr (0, [.ref a1, .int 6])), (a1, .inl (cB, 16, .inl f105))] := hD
  refine lv_aload_n hx hb dX0_addFour_16 rfl (lv_at hl 0 rfl) ?_
  refine lv_iload_n hx hb dX0_addFour_17 rfl (lv_at hl 1 rfl) ?_
  refine lv_bipush (v := 8) hx hb dX0_addFour_18 (by decide) ?_
  obtain ⟨z107, e9⟩ : ∃ y : Int32, _ = y := ⟨_, rfl⟩
  refine lv_iushr hx hb dX0_addFour_20 e9 ?_
  refine nm_callv (Z := (Nat → Int32)) (wr := []) (k := 0) (n := 0) (va_runV (As := [.int z107]) (rest := []) ⟨hx, hb, hml, hown, hts⟩ (c_X0_add_7 l D cI cB cJ cS H.size a0 a1 z107 f105 h106) (cwV 1 hts (nm_gV q_444 q_445 q_446 q_2 q_447) rfl rfl rfl (by decide +kernel) ⟨(Nat.le_of_ble_eq_true rfl), (Nat.le_of_ble_eq_true rfl)⟩) (nm_preV (q := (RX0, TX0, 2)) (hP.sub [0, 1] rfl) (hD.sub [0, 1] (by decide) rfl) hM 0 rfl rfl) rfl rfl hl.1 rfl (lv_room (Nat.le_of_ble_eq_true rfl)) dX0_addFour_21 ⟨(Nat.le_of_ble_eq_true rfl), (Nat.le_of_ble_eq_true rfl)⟩) hP hD hS hA [0, 1] [] rfl rfl (by decide) (by decide) (Nat.le_of_ble_eq_true rfl) (Nat.le_of_ble_eq_true rfl) (fun u H locs hw hP hD hS => ?_)
  obtain ⟨f108, rfl⟩ : ∃ z, z = u := ⟨_, rfl⟩
  have h109 := hw
  have hP : va_P D nm_cl [(a0, .inr (0, [.ref a1, .int 7])), (a1, .inl (cB, 16, .inl f108))] H := hP
  have hD : va_D A [(a0, .inr (0, [.ref a1, .int 7])), (a1, .inl (cB, 16, .inl f108))] := hD
  refine lv_aload_n hx hb dX0_addFour_24 rfl (lv_at hl 0 rfl) ?_
  refine lv_iload_n hx hb dX0_addFour_25 rfl (lv_at hl 1 rfl) ?_
  refine nm_callv (Z := (Nat → Int32)) (wr := []) (k := 0) (n := 0) (va_runV (As := [.int x0]) (rest := []) ⟨hx, hb, hml, hown, hts⟩ (c_X0_add_8 l D cI cB cJ cS H.size a0 a1 x0 f108 h109) (cwV 1 hts (nm_gV q_444 q_445 q_446 q_2 q_447) rfl rfl rfl (by decide +kernel) ⟨(Nat.le_of_ble_eq_true rfl), (Nat.le_of_ble_eq_true rfl)⟩) (nm_preV (q := (RX0, TX0, 2)) (hP.sub [0, 1] rfl) (hD.sub [0, 1] (by decide) rfl) hM 0 rfl rfl) rfl rfl hl.1 rfl (lv_room (Nat.le_of_ble_eq_true rfl)) dX0_addFour_26 ⟨(Nat.le_of_ble_eq_true rfl), (Nat.le_of_ble_eq_true rfl)⟩) hP hD hS hA [0, 1] [] rfl rfl (by decide) (by decide) (Nat.le_of_ble_eq_true rfl) (Nat.le_of_ble_eq_true rfl) (fun u H locs hw hP hD hS => ?_)
  obtain ⟨f110, rfl⟩ : ∃ z, z = u := ⟨_, rfl⟩
  have h111 := hw
  have hP : va_P D nm_cl [(a0, .inr (0, [.ref a1, .int 8])), (a1, .inl (cB, 16, .inl f110))] H := hP
  have hD : va_D A [(a0, .inr (0, [.ref a1, .int 8])), (a1, .inl (cB, 16, .inl f110))] := hD
  have hP9 := hP.sub (ws' := [(a0, .inr (0, [.ref a1, .int 8])), (a1, .inl (cB, 16, .inl f110))]) [0, 1] rfl
  have hD9 := hD.sub (ws' := [(a0, .inr (0, [.ref a1, .int 8])), (a1, .inl (cB, 16, .inl f110))]) [0, 1] (by decide) rfl
  exact W.vret hx hb hr (fun t ht hW => ⟨⟨f110, rfl, h111, by rw [ht]; exact hP9, hD9⟩, hS.F ht⟩) hS.2.2 dX0_addFour_29
set_option maxHeartbeats 4000000 in
set_option maxRecDepth 100000 in
theorem c_X0_add_9 (l : Launch) (D : va_G) (cI cB cJ cS : ClassId) (sz : Nat) (a0 : Nat) (a1 : Nat) (x0 : Int32) (f0 : Nat → Int32) (hy_f0 : ∀ j, fits .byte (.int (f0 j)) = true) : Met l yX0_add (.code yX0_add cX0_add 2 none :: nm_big) ({ frames := 0, cells := 0, slots := 0, locals := 0 }) (nm_P D cI cB cJ cS [.ref a0, .int x0] sz [(a0, .inr (0, [.ref a1, .int 8])), (a1, .inl (cB, 16, .inl f0))]) ((fun A : Nat → Prop => va_Qv (S := (Nat → Int32)) (fun (f102 : (Nat → Int32)) => (∀ j, fits .byte (.int (f102 j)) = true)) (nm_B D (fun (f102 : (Nat → Int32)) => [(a0, .inr (0, [.ref a1, .int 9])), (a1, .inl (cB, 16, .inl f102))]) A) A) (va_A [(a0, .inr (0, [.ref a1, .int 8])), (a1, .inl (cB, 16, .inl f0))] sz)) 0 0 (va_A [(a0, .inr (0, [.ref a1, .int 8])), (a1, .inl (cB, 16, .inl f0))] sz) := by
  refine nm_Met (Qc := fun A => va_Qv (S := (Nat → Int32)) (fun (f102 : (Nat → Int32)) => (∀ j, fits .byte (.int (f102 j)) = true)) (nm_B D (fun (f102 : (Nat → Int32)) => [(a0, .inr (0, [.ref a1, .int 9])), (a1, .inl (cB, 16, .inl f102))]) A) A) ?_ ?_ ?_
  · decide +kernel
  · exact Nat.le_of_ble_eq_true rfl
  intro p e s m below meth c A ls hx hb hr hml hts hown hlocks hin hM hP hD hS hA hl
  have hl : lv_has ls 2 [(0, .ref a0), (1, .int x0)] := hl
  have hown : s.vm.findClass RX0 = some m.cls := hown
  refine lv_aload_n hx hb dX0_add_0 rfl (lv_at hl 0 rfl) ?_
  refine va_get (D := D) (ci := 0) (v := .int 8) (C := RX0) (T := TX0) (N := 2) hx hb hts iw_X0 hown hM.1 hP 0 rfl rfl 1 (by decide) (hts _ q_43) (fun _ h9 => h9) rfl dX0_add_1 ?_
  refine lv_aload_n hx hb dX0_add_4 rfl (lv_at hl 0 rfl) ?_
  refine va_get (D := D) (ci := 0) (v := .ref a1) (C := RX0) (T := TX0) (N := 2) hx hb hts iw_X0 hown hM.1 hP 0 rfl rfl 0 (by decide) (hts _ q_42) (fun _ h9 => h9) rfl dX0_add_5 ?_
  refine va_alen (v := 16) hx hb hM.1 hP 1 1 rfl rfl rfl dX0_add_8 ?_
  refine lv_icmp_lt (tgt := 29) hx hb dX0_add_9 (by decide) (fun _ => ?_) (fun c9 => absurd (by decide) c9)
  refine lv_aload_n hx hb dX0_add_29 rfl (lv_at hl 0 rfl) ?_
  refine va_get (D := D) (ci := 0) (v := .ref a1) (C := RX0) (T := TX0) (N := 2) hx hb hts iw_X0 hown hM.1 hP 0 rfl rfl 0 (by decide) (hts _ q_42) (fun _ h9 => h9) rfl dX0_add_30 ?_
  refine lv_aload_n hx hb dX0_add_33 rfl (lv_at hl 0 rfl) ?_
  refine va_get (D := D) (ci := 0) (v := .int 8) (C := RX0) (T := TX0) (N := 2) hx hb hts iw_X0 hown hM.1 hP 0 rfl rfl 1 (by decide) (hts _ q_43) (fun _ h9 => h9) rfl dX0_add_34 ?_
  refine lv_iload_n hx hb dX0_add_37 rfl (lv_at hl 1 rfl) ?_
  obtain ⟨z101, e9⟩ : ∃ y : Int32, Int8.toInt32 (Int32.toInt8 x0) = y := ⟨_, rfl⟩
  refine lv_i2b hx hb dX0_add_38 e9 ?_
  refine va_bast hx hb hM.1 hP hD hS 1 1 rfl rfl (nm_vin (by decide)) dX0_add_39 (fun H locs hP hD hS => ?_)
  have hP : va_P D nm_cl [(a0, .inr (0, [.ref a1, .int 8])), (a1, .inl (cB, 16, .inl (upd f0 (Int32.toNatClampNeg 8) (vp_nar .byte z101))))] H := hP
  have hD : va_D A [(a0, .inr (0, [.ref a1, .int 8])), (a1, .inl (cB, 16, .inl (upd f0 (Int32.toNatClampNeg 8) (vp_nar .byte z101))))] := hD
  obtain ⟨f102, hf9⟩ : ∃ g : Nat → Int32, g = (upd f0 (Int32.toNatClampNeg 8) (vp_nar .byte z101)) := ⟨_, rfl⟩
  rw [← hf9] at hP hD
  have hy_f102 : ∀ j, fits .byte (.int (f102 j)) = true := by rw [hf9]; exact nm_by hy_f0
  refine lv_aload_n hx hb dX0_add_40 rfl (lv_at hl 0 rfl) ?_
  refine lv_dup hx hb dX0_add_41 rfl ?_
  refine va_get (D := D) (ci := 0) (v := .int 8) (C := RX0) (T := TX0) (N := 2) hx hb hts iw_X0 hown hM.1 hP 0 rfl rfl 1 (by decide) (hts _ q_43) (fun _ h9 => h9) rfl dX0_add_42 ?_
  refine lv_iconst (v := 1) hx hb dX0_add_45 (by decide) ?_
  refine lv_iadd hx hb dX0_add_46 ?_
  refine lv_topi (fun z103 e9 => ?_)
  obtain rfl : z103 = (9 : Int32) := e9.trans (by decide)
  refine va_put (D := D) (ci := 0) (v := .int 9) (ty := .int) (C := RX0) (T := TX0) (N := 2) hx hb hts iw_X0 tyX0 tyX0_ok nmX0 hown hM.1 hP hD hS 0 rfl rfl 1 (by decide) (hts _ q_43) (fun _ h9 => h9) rfl (by decide +kernel) rfl rfl (Nat.le_of_ble_eq_true rfl) dX0_add_47 (fun H locs hP hD hS => ?_)
  have hP : va_P D nm_cl [(a0, .inr (0, [.ref a1, .int 9])), (a1, .inl (cB, 16, .inl f102))] H := hP
  have hD : va_D A [(a0, .inr (0, [.ref a1, .int 9])), (a1, .inl (cB, 16, .inl f102))] := hD
  have hP9 := hP.sub (ws' := [(a0, .inr (0, [.ref a1, .int 9])), (a1, .inl (cB, 16, .inl f102))]) [0, 1] rfl
  have hD9 := hD.sub (ws' := [(a0, .inr (0, [.ref a1, .int 9])), (a1, .inl (cB, 16, .inl f102))]) [0, 1] (by decide) rfl
  exact W.vret hx hb hr (fun t ht hW => ⟨⟨f102, rfl, hy_f102, by rw [ht]; exact hP9, hD9⟩, hS.F ht⟩) hS.2.2 dX0_add_50
set_option maxHeartbeats 4000000 in
set_option maxRecDepth 100000 in
theorem c_X0_add_10 (l : Launch) (D : va_G) (cI cB cJ cS : ClassId) (sz : Nat) (a0 : Nat) (a1 : Nat) (x0 : Int32) (f0 : Nat → Int32) (hy_f0 : ∀ j, fits .byte (.int (f0 j)) = true) : Met l yX0_add (.code yX0_add cX0_add 2 none :: nm_big) ({ frames := 0, cells := 0, slots := 0, locals := 0 }) (nm_P D cI cB cJ cS [.ref a0, .int x0] sz [(a0, .inr (0, [.ref a1, .int 9])), (a1, .inl (cB, 16, .inl f0))]) ((fun A : Nat → Prop => va_Qv (S := (Nat → Int32)) (fun (f102 : (Nat → Int32)) => (∀ j, fits .byte (.int (f102 j)) = true)) (nm_B D (fun (f102 : (Nat → Int32)) => [(a0, .inr (0, [.ref a1, .int 10])), (a1, .inl (cB, 16, .inl f102))]) A) A) (va_A [(a0, .inr (0, [.ref a1, .int 9])), (a1, .inl (cB, 16, .inl f0))] sz)) 0 0 (va_A [(a0, .inr (0, [.ref a1, .int 9])), (a1, .inl (cB, 16, .inl f0))] sz) := by
  refine nm_Met (Qc := fun A => va_Qv (S := (Nat → Int32)) (fun (f102 : (Nat → Int32)) => (∀ j, fits .byte (.int (f102 j)) = true)) (nm_B D (fun (f102 : (Nat → Int32)) => [(a0, .inr (0, [.ref a1, .int 10])), (a1, .inl (cB, 16, .inl f102))]) A) A) ?_ ?_ ?_
  · decide +kernel
  · exact Nat.le_of_ble_eq_true rfl
  intro p e s m below meth c A ls hx hb hr hml hts hown hlocks hin hM hP hD hS hA hl
  have hl : lv_has ls 2 [(0, .ref a0), (1, .int x0)] := hl
  have hown : s.vm.findClass RX0 = some m.cls := hown
  refine lv_aload_n hx hb dX0_add_0 rfl (lv_at hl 0 rfl) ?_
  refine va_get (D := D) (ci := 0) (v := .int 9) (C := RX0) (T := TX0) (N := 2) hx hb hts iw_X0 hown hM.1 hP 0 rfl rfl 1 (by decide) (hts _ q_43) (fun _ h9 => h9) rfl dX0_add_1 ?_
  refine lv_aload_n hx hb dX0_add_4 rfl (lv_at hl 0 rfl) ?_
  refine va_get (D := D) (ci := 0) (v := .ref a1) (C := RX0) (T := TX0) (N := 2) hx hb hts iw_X0 hown hM.1 hP 0 rfl rfl 0 (by decide) (hts _ q_42) (fun _ h9 => h9) rfl dX0_add_5 ?_
  refine va_alen (v := 16) hx hb hM.1 hP 1 1 rfl rfl rfl dX0_add_8 ?_
  refine lv_icmp_lt (tgt := 29) hx hb dX0_add_9 (by decide) (fun _ => ?_) (fun c9 => absurd (by decide) c9)
  refine lv_aload_n hx hb dX0_add_29 rfl (lv_at hl 0 rfl) ?_
  refine va_get (D := D) (ci := 0) (v := .ref a1) (C := RX0) (T := TX0) (N := 2) hx hb hts iw_X0 hown hM.1 hP 0 rfl rfl 0 (by decide) (hts _ q_42) (fun _ h9 => h9) rfl dX0_add_30 ?_
  refine lv_aload_n hx hb dX0_add_33 rfl (lv_at hl 0 rfl) ?_
  refine va_get (D := D) (ci := 0) (v := .int 9) (C := RX0) (T := TX0) (N := 2) hx hb hts iw_X0 hown hM.1 hP 0 rfl rfl 1 (by decide) (hts _ q_43) (fun _ h9 => h9) rfl dX0_add_34 ?_
  refine lv_iload_n hx hb dX0_add_37 rfl (lv_at hl 1 rfl) ?_
  obtain ⟨z101, e9⟩ : ∃ y : Int32, Int8.toInt32 (Int32.toInt8 x0) = y := ⟨_, rfl⟩
  refine lv_i2b hx hb dX0_add_38 e9 ?_
  refine va_bast hx hb hM.1 hP hD hS 1 1 rfl rfl (nm_vin (by decide)) dX0_add_39 (fun H locs hP hD hS => ?_)
  have hP : va_P D nm_cl [(a0, .inr (0, [.ref a1, .int 9])), (a1, .inl (cB, 16, .inl (upd f0 (Int32.toNatClampNeg 9) (vp_nar .byte z101))))] H := hP
  have hD : va_D A [(a0, .inr (0, [.ref a1, .int 9])), (a1, .inl (cB, 16, .inl (upd f0 (Int32.toNatClampNeg 9) (vp_nar .byte z101))))] := hD
  obtain ⟨f102, hf9⟩ : ∃ g : Nat → Int32, g = (upd f0 (Int32.toNatClampNeg 9) (vp_nar .byte z101)) := ⟨_, rfl⟩
  rw [← hf9] at hP hD
  have hy_f102 : ∀ j, fits .byte (.int (f102 j)) = true := by rw [hf9]; exact nm_by hy_f0
  refine lv_aload_n hx hb dX0_add_40 rfl (lv_at hl 0 rfl) ?_
  refine lv_dup hx hb dX0_add_41 rfl ?_
  refine va_get (D := D) (ci := 0) (v := .int 9) (C := RX0) (T := TX0) (N := 2) hx hb hts iw_X0 hown hM.1 hP 0 rfl rfl 1 (by decide) (hts _ q_43) (fun _ h9 => h9) rfl dX0_add_42 ?_
  refine lv_iconst (v := 1) hx hb dX0_add_45 (by decide) ?_
  refine lv_iadd hx hb dX0_add_46 ?_
  refine lv_topi (fun z103 e9 => ?_)
  obtain rfl : z103 = (10 : Int32) := e9.trans (by decide)
  refine va_put (D := D) (ci := 0) (v := .int 10) (ty := .int) (C := RX0) (T := TX0) (N := 2) hx hb hts iw_X0 tyX0 tyX0_ok nmX0 hown hM.1 hP hD hS 0 rfl rfl 1 (by decide) (hts _ q_43) (fun _ h9 => h9) rfl (by decide +kernel) rfl rfl (Nat.le_of_ble_eq_true rfl) dX0_add_47 (fun H locs hP hD hS => ?_)
  have hP : va_P D nm_cl [(a0, .inr (0, [.ref a1, .int 10])), (a1, .inl (cB, 16, .inl f102))] H := hP
  have hD : va_D A [(a0, .inr (0, [.ref a1, .int 10])), (a1, .inl (cB, 16, .inl f102))] := hD
  have hP9 := hP.sub (ws' := [(a0, .inr (0, [.ref a1, .int 10])), (a1, .inl (cB, 16, .inl f102))]) [0, 1] rfl
  have hD9 := hD.sub (ws' := [(a0, .inr (0, [.ref a1, .int 10])), (a1, .inl (cB, 16, .inl f102))]) [0, 1] (by decide) rfl
  exact W.vret hx hb hr (fun t ht hW => ⟨⟨f102, rfl, hy_f102, by rw [ht]; exact hP9, hD9⟩, hS.F ht⟩) hS.2.2 dX0_add_50
set_option maxHeartbeats 4000000 in
set_option maxRecDepth 100000 in
theorem c_X0_add_11 (l : Launch) (D : va_G) (cI cB cJ cS : ClassId) (sz : Nat) (a0 : Nat) (a1 : Nat) (x0 : Int32) (f0 : Nat → Int32) (hy_f0 : ∀ j, fits .byte (.int (f0 j)) = true) : Met l yX0_add (.code yX0_add cX0_add 2 none :: nm_big) ({ frames := 0, cells := 0, slots := 0, locals := 0 }) (nm_P D cI cB cJ cS [.ref a0, .int x0] sz [(a0, .inr (0, [.ref a1, .int 10])), (a1, .inl (cB, 16, .inl f0))]) ((fun A : Nat → Prop => va_Qv (S := (Nat → Int32)) (fun (f102 : (Nat → Int32)) => (∀ j, fits .byte (.int (f102 j)) = true)) (nm_B D (fun (f102 : (Nat → Int32)) => [(a0, .inr (0, [.ref a1, .int 11])), (a1, .inl (cB, 16, .inl f102))]) A) A) (va_A [(a0, .inr (0, [.ref a1, .int 10])), (a1, .inl (cB, 16, .inl f0))] sz)) 0 0 (va_A [(a0, .inr (0, [.ref a1, .int 10])), (a1, .inl (cB, 16, .inl f0))] sz) := by
  refine nm_Met (Qc := fun A => va_Qv (S := (Nat → Int32)) (fun (f102 : (Nat → Int32)) => (∀ j, fits .byte (.int (f102 j)) = true)) (nm_B D (fun (f102 : (Nat → Int32)) => [(a0, .inr (0, [.ref a1, .int 11])), (a1, .inl (cB, 16, .inl f102))]) A) A) ?_ ?_ ?_
  · decide +kernel
  · exact Nat.le_of_ble_eq_true rfl
  intro p e s m below meth c A ls hx hb hr hml hts hown hlocks hin hM hP hD hS hA hl
  have hl : lv_has ls 2 [(0, .ref a0), (1, .int x0)] := hl
  have hown : s.vm.findClass RX0 = some m.cls := hown
  refine lv_aload_n hx hb dX0_add_0 rfl (lv_at hl 0 rfl) ?_
  refine va_get (D := D) (ci := 0) (v := .int 10) (C := RX0) (T := TX0) (N := 2) hx hb hts iw_X0 hown hM.1 hP 0 rfl rfl 1 (by decide) (hts _ q_43) (fun _ h9 => h9) rfl dX0_add_1 ?_
  refine lv_aload_n hx hb dX0_add_4 rfl (lv_at hl 0 rfl) ?_
  refine va_get (D := D) (ci := 0) (v := .ref a1) (C := RX0) (T := TX0) (N := 2) hx hb hts iw_X0 hown hM.1 hP 0 rfl rfl 0 (by decide) (hts _ q_42) (fun _ h9 => h9) rfl dX0_add_5 ?_
  refine va_alen (v := 16) hx hb hM.1 hP 1 1 rfl rfl rfl dX0_add_8 ?_
  refine lv_icmp_lt (tgt := 29) hx hb dX0_add_9 (by decide) (fun _ => ?_) (fun c9 => absurd (by decide) c9)
  refine lv_aload_n hx hb dX0_add_29 rfl (lv_at hl 0 rfl) ?_
  refine va_get (D := D) (ci := 0) (v := .ref a1) (C := RX0) (T := TX0) (N := 2) hx hb hts iw_X0 hown hM.1 hP 0 rfl rfl 0 (by decide) (hts _ q_42) (fun _ h9 => h9) rfl dX0_add_30 ?_
  refine lv_aload_n hx hb dX0_add_33 rfl (lv_at hl 0 rfl) ?_
  refine va_get (D := D) (ci := 0) (v := .int 10) (C := RX0) (T := TX0) (N := 2) hx hb hts iw_X0 hown hM.1 hP 0 rfl rfl 1 (by decide) (hts _ q_43) (fun _ h9 => h9) rfl dX0_add_34 ?_
  refine lv_iload_n hx hb dX0_add_37 rfl (lv_at hl 1 rfl) ?_
  obtain ⟨z101, e9⟩ : ∃ y : Int32, Int8.toInt32 (Int32.toInt8 x0) = y := ⟨_, rfl⟩
  refine lv_i2b hx hb dX0_add_38 e9 ?_
  refine va_bast hx hb hM.1 hP hD hS 1 1 rfl rfl (nm_vin (by decide)) dX0_add_39 (fun H locs hP hD hS => ?_)
  have hP : va_P D nm_cl [(a0, .inr (0, [.ref a1, .int 10])), (a1, .inl (cB, 16, .inl (upd f0 (Int32.toNatClampNeg 10) (vp_nar .byte z101))))] H := hP
  have hD : va_D A [(a0, .inr (0, [.ref a1, .int 10])), (a1, .inl (cB, 16, .inl (upd f0 (Int32.toNatClampNeg 10) (vp_nar .byte z101))))] := hD
  obtain ⟨f102, hf9⟩ : ∃ g : Nat → Int32, g = (upd f0 (Int32.toNatClampNeg 10) (vp_nar .byte z101)) := ⟨_, rfl⟩
  rw [← hf9] at hP hD
  have hy_f102 : ∀ j, fits .byte (.int (f102 j)) = true := by rw [hf9]; exact nm_by hy_f0
  refine lv_aload_n hx hb dX0_add_40 rfl (lv_at hl 0 rfl) ?_
  refine lv_dup hx hb dX0_add_41 rfl ?_
  refine va_get (D := D) (ci := 0) (v := .int 10) (C := RX0) (T := TX0) (N := 2) hx hb hts iw_X0 hown hM.1 hP 0 rfl rfl 1 (by decide) (hts _ q_43) (fun _ h9 => h9) rfl dX0_add_42 ?_
  refine lv_iconst (v := 1) hx hb dX0_add_45 (by decide) ?_
  refine lv_iadd hx hb dX0_add_46 ?_
  refine lv_topi (fun z103 e9 => ?_)
  obtain rfl : z103 = (11 : Int32) := e9.trans (by decide)
  refine va_put (D := D) (ci := 0) (v := .int 11) (ty := .int) (C := RX0) (T := TX0) (N := 2) hx hb hts iw_X0 tyX0 tyX0_ok nmX0 hown hM.1 hP hD hS 0 rfl rfl 1 (by decide) (hts _ q_43) (fun _ h9 => h9) rfl (by decide +kernel) rfl rfl (Nat.le_of_ble_eq_true rfl) dX0_add_47 (fun H locs hP hD hS => ?_)
  have hP : va_P D nm_cl [(a0, .inr (0, [.ref a1, .int 11])), (a1, .inl (cB, 16, .inl f102))] H := hP
  have hD : va_D A [(a0, .inr (0, [.ref a1, .int 11])), (a1, .inl (cB, 16, .inl f102))] := hD
  have hP9 := hP.sub (ws' := [(a0, .inr (0, [.ref a1, .int 11])), (a1, .inl (cB, 16, .inl f102))]) [0, 1] rfl
  have hD9 := hD.sub (ws' := [(a0, .inr (0, [.ref a1, .int 11])), (a1, .inl (cB, 16, .inl f102))]) [0, 1] (by decide) rfl
  exact W.vret hx hb hr (fun t ht hW => ⟨⟨f102, rfl, hy_f102, by rw [ht]; exact hP9, hD9⟩, hS.F ht⟩) hS.2.2 dX0_add_50
set_option maxHeartbeats 4000000 in
set_option maxRecDepth 100000 in
theorem c_X0_add_12 (l : Launch) (D : va_G) (cI cB cJ cS : ClassId) (sz : Nat) (a0 : Nat) (a1 : Nat) (x0 : Int32) (f0 : Nat → Int32) (hy_f0 : ∀ j, fits .byte (.int (f0 j)) = true) : Met l yX0_add (.code yX0_add cX0_add 2 none :: nm_big) ({ frames := 0, cells := 0, slots := 0, locals := 0 }) (nm_P D cI cB cJ cS [.ref a0, .int x0] sz [(a0, .inr (0, [.ref a1, .int 11])), (a1, .inl (cB, 16, .inl f0))]) ((fun A : Nat → Prop => va_Qv (S := (Nat → Int32)) (fun (f102 : (Nat → Int32)) => (∀ j, fits .byte (.int (f102 j)) = true)) (nm_B D (fun (f102 : (Nat → Int32)) => [(a0, .inr (0, [.ref a1, .int 12])), (a1, .inl (cB, 16, .inl f102))]) A) A) (va_A [(a0, .inr (0, [.ref a1, .int 11])), (a1, .inl (cB, 16, .inl f0))] sz)) 0 0 (va_A [(a0, .inr (0, [.ref a1, .int 11])), (a1, .inl (cB, 16, .inl f0))] sz) := by
  refine nm_Met (Qc := fun A => va_Qv (S := (Nat → Int32)) (fun (f102 : (Nat → Int32)) => (∀ j, fits .byte (.int (f102 j)) = true)) (nm_B D (fun (f102 : (Nat → Int32)) => [(a0, .inr (0, [.ref a1, .int 12])), (a1, .inl (cB, 16, .inl f102))]) A) A) ?_ ?_ ?_
  · decide +kernel
  · exact Nat.le_of_ble_eq_true rfl
  intro p e s m below meth c A ls hx hb hr hml hts hown hlocks hin hM hP hD hS hA hl
  have hl : lv_has ls 2 [(0, .ref a0), (1, .int x0)] := hl
  have hown : s.vm.findClass RX0 = some m.cls := hown
  refine lv_aload_n hx hb dX0_add_0 rfl (lv_at hl 0 rfl) ?_
  refine va_get (D := D) (ci := 0) (v := .int 11) (C := RX0) (T := TX0) (N := 2) hx hb hts iw_X0 hown hM.1 hP 0 rfl rfl 1 (by decide) (hts _ q_43) (fun _ h9 => h9) rfl dX0_add_1 ?_
  refine lv_aload_n hx hb dX0_add_4 rfl (lv_at hl 0 rfl) ?_
  refine va_get (D := D) (ci := 0) (v := .ref a1) (C := RX0) (T := TX0) (N := 2) hx hb hts iw_X0 hown hM.1 hP 0 rfl rfl 0 (by decide) (hts _ q_42) (fun _ h9 => h9) rfl dX0_add_5 ?_
  refine va_alen (v := 16) hx hb hM.1 hP 1 1 rfl rfl rfl dX0_add_8 ?_
  refine lv_icmp_lt (tgt := 29) hx hb dX0_add_9 (by decide) (fun _ => ?_) (fun c9 => absurd (by decide) c9)
  refine lv_aload_n hx hb dX0_add_29 rfl (lv_at hl 0 rfl) ?_
  refine va_get (D := D) (ci := 0) (v := .ref a1) (C := RX0) (T := TX0) (N := 2) hx hb hts iw_X0 hown hM.1 hP 0 rfl rfl 0 (by decide) (hts _ q_42) (fun _ h9 => h9) rfl dX0_add_30 ?_
  refine lv_aload_n hx hb dX0_add_33 rfl (lv_at hl 0 rfl) ?_
  refine va_get (D := D) (ci := 0) (v := .int 11) (C := RX0) (T := TX0) (N := 2) hx hb hts iw_X0 hown hM.1 hP 0 rfl rfl 1 (by decide) (hts _ q_43) (fun _ h9 => h9) rfl dX0_add_34 ?_
  refine lv_iload_n hx hb dX0_add_37 rfl (lv_at hl 1 rfl) ?_
  obtain ⟨z101, e9⟩ : ∃ y : Int32, Int8.toInt32 (Int32.toInt8 x0) = y := ⟨_, rfl⟩
  refine lv_i2b hx hb dX0_add_38 e9 ?_
  refine va_bast hx hb hM.1 hP hD hS 1 1 rfl rfl (nm_vin (by decide)) dX0_add_39 (fun H locs hP hD hS => ?_)
  have hP : va_P D nm_cl [(a0, .inr (0, [.ref a1, .int 11])), (a1, .inl (cB, 16, .inl (upd f0 (Int32.toNatClampNeg 11) (vp_nar .byte z101))))] H := hP
  have hD : va_D A [(a0, .inr (0, [.ref a1, .int 11])), (a1, .inl (cB, 16, .inl (upd f0 (Int32.toNatClampNeg 11) (vp_nar .byte z101))))] := hD
  obtain ⟨f102, hf9⟩ : ∃ g : Nat → Int32, g = (upd f0 (Int32.toNatClampNeg 11) (vp_nar .byte z101)) := ⟨_, rfl⟩
  rw [← hf9] at hP hD
  have hy_f102 : ∀ j, fits .byte (.int (f102 j)) = true := by rw [hf9]; exact nm_by hy_f0
  refine lv_aload_n hx hb dX0_add_40 rfl (lv_at hl 0 rfl) ?_
  refine lv_dup hx hb dX0_add_41 rfl ?_
  refine va_get (D := D) (ci := 0) (v := .int 11) (C := RX0) (T := TX0) (N := 2) hx hb hts iw_X0 hown hM.1 hP 0 rfl rfl 1 (by decide) (hts _ q_43) (fun _ h9 => h9) rfl dX0_add_42 ?_
  refine lv_iconst (v := 1) hx hb dX0_add_45 (by decide) ?_
  refine lv_iadd hx hb dX0_add_46 ?_
  refine lv_topi (fun z103 e9 => ?_)
  obtain rfl : z103 = (12 : Int32) := e9.trans (by decide)
  refine va_put (D := D) (ci := 0) (v := .int 12) (ty := .int) (C := RX0) (T := TX0) (N := 2) hx hb hts iw_X0 tyX0 tyX0_ok nmX0 hown hM.1 hP hD hS 0 rfl rfl 1 (by decide) (hts _ q_43) (fun _ h9 => h9) rfl (by decide +kernel) rfl rfl (Nat.le_of_ble_eq_true rfl) dX0_add_47 (fun H locs hP hD hS => ?_)
  have hP : va_P D nm_cl [(a0, .inr (0, [.ref a1, .int 12])), (a1, .inl (cB, 16, .inl f102))] H := hP
  have hD : va_D A [(a0, .inr (0, [.ref a1, .int 12])), (a1, .inl (cB, 16, .inl f102))] := hD
  have hP9 := hP.sub (ws' := [(a0, .inr (0, [.ref a1, .int 12])), (a1, .inl (cB, 16, .inl f102))]) [0, 1] rfl
  have hD9 := hD.sub (ws' := [(a0, .inr (0, [.ref a1, .int 12])), (a1, .inl (cB, 16, .inl f102))]) [0, 1] (by decide) rfl
  exact W.vret hx hb hr (fun t ht hW => ⟨⟨f102, rfl, hy_f102, by rw [ht]; exact hP9, hD9⟩, hS.F ht⟩) hS.2.2 dX0_add_50
set_option maxHeartbeats 4000000 in
set_option maxRecDepth 100000 in
theorem c_X0_addFour_3 (l : Launch) (D : va_G) (cI cB cJ cS : ClassId) (sz : Nat) (a0 : Nat) (a1 : Nat) (x0 : Int32) (f0 : Nat → Int32) (hy_f0 : ∀ j, fits .byte (.int (f0 j)) = true) : Met l yX0_addFour (.code yX0_addFour cX0_addFour 2 none :: nm_big) ({ frames := 1, cells := 0, slots := 0, locals := 21 }) (nm_P D cI cB cJ cS [.ref a0, .int x0] sz [(a0, .inr (0, [.ref a1, .int 8])), (a1, .inl (cB, 16, .inl f0))]) ((fun A : Nat → Prop => va_Qv (S := (Nat → Int32)) (fun (f110 : (Nat → Int32)) => (∀ j, fits .byte (.int (f110 j)) = true)) (nm_B D (fun (f110 : (Nat → Int32)) => [(a0, .inr (0, [.ref a1, .int 12])), (a1, .inl (cB, 16, .inl f110))]) A) A) (va_A [(a0, .inr (0, [.ref a1, .int 8])), (a1, .inl (cB, 16, .inl f0))] sz)) 0 0 (va_A [(a0, .inr (0, [.ref a1, .int 8])), (a1, .inl (cB, 16, .inl f0))] sz) := by
  refine nm_Met (Qc := fun A => va_Qv (S := (Nat → Int32)) (fun (f110 : (Nat → Int32)) => (∀ j, fits .byte (.int (f110 j)) = true)) (nm_B D (fun (f110 : (Nat → Int32)) => [(a0, .inr (0, [.ref a1, .int 12])), (a1, .inl (cB, 16, .inl f110))]) A) A) ?_ ?_ ?_
  · decide +kernel
  · exact Nat.le_of_ble_eq_true rfl
  intro p e s m below meth c A ls hx hb hr hml hts hown hlocks hin hM hP hD hS hA hl
  have hl : lv_has ls 2 [(0, .ref a0), (1, .int x0)] := hl
  have hown : s.vm.findClass RX0 = some m.cls := hown
  refine lv_aload_n hx hb dX0_addFour_0 rfl (lv_at hl 0 rfl) ?_
  refine lv_iload_n hx hb dX0_addFour_1 rfl (lv_at hl 1 rfl) ?_
  refine lv_bipush (v := 24) hx hb dX0_addFour_2 (by decide) ?_
  obtain ⟨z101, e9⟩ : ∃ y : Int32, _ = y := ⟨_, rfl⟩
  refine lv_iushr hx hb dX0_addFour_4 e9 ?_
  refine nm_callv (Z := (Nat → Int32)) (wr := []) (k := 0) (n := 0) (va_runV (As := [.int z101]) (rest := []) ⟨hx, hb, hml, hown, hts⟩ (c_X0_add_9 l D cI cB cJ cS s.heap.size a0 a1 z101 f0 hy_f0) (cwV 1 hts (nm_gV q_444 q_445 q_446 q_2 q_447) rfl rfl rfl (by decide +kernel) ⟨(Nat.le_of_ble_eq_true rfl), (Nat.le_of_ble_eq_true rfl)⟩) (nm_preV (q := (RX0, TX0, 2)) (hP.sub [0, 1] rfl) (hD.sub [0, 1] (by decide) rfl) hM 0 rfl rfl) rfl rfl hl.1 rfl (lv_room (Nat.le_of_ble_eq_true rfl)) dX0_addFour_5 ⟨(Nat.le_of_ble_eq_true rfl), (Nat.le_of_ble_eq_true rfl)⟩) hP hD hS hA [0, 1] [] rfl rfl (by decide) (by decide) (Nat.le_of_ble_eq_true rfl) (Nat.le_of_ble_eq_true rfl) (fun u H locs hw hP hD hS => ?_)
  obtain ⟨f102, rfl⟩ : ∃ z, z = u := ⟨_, rfl⟩
  have h103 := hw
  have hP : va_P D nm_cl [(a0, .inr (0, [.ref a1, .int 9])), (a1, .inl (cB, 16, .inl f102))] H := hP
  have hD : va_D A [(a0, .inr (0, [.ref a1, .int 9])), (a1, .inl (cB, 16, .inl f102))] := hD
  refine lv_aload_n hx hb dX0_addFour_8 rfl (lv_at hl 0 rfl) ?_
  refine lv_iload_n hx hb dX0_addFour_9 rfl (lv_at hl 1 rfl) ?_
  refine lv_bipush (v := 16) hx hb dX0_addFour_10 (by decide) ?_
  obtain ⟨z104, e9⟩ : ∃ y : Int32, _ = y := ⟨_, rfl⟩
  refine lv_iushr hx hb dX0_addFour_12 e9 ?_
  refine nm_callv (Z := (Nat → Int32)) (wr := []) (k := 0) (n := 0) (va_runV (As := [.int z104]) (rest := []) ⟨hx, hb, hml, hown, hts⟩ (c_X0_add_10 l D cI cB cJ cS H.size a0 a1 z104 f102 h103) (cwV 1 hts (nm_gV q_444 q_445 q_446 q_2 q_447) rfl rfl rfl (by decide +kernel) ⟨(Nat.le_of_ble_eq_true rfl), (Nat.le_of_ble_eq_true rfl)⟩) (nm_preV (q := (RX0, TX0, 2)) (hP.sub [0, 1] rfl) (hD.sub [0, 1] (by decide) rfl) hM 0 rfl rfl) rfl rfl hl.1 rfl (lv_room (Nat.le_of_ble_eq_true rfl)) dX0_addFour_13 ⟨(Nat.le_of_ble_eq_true rfl), (Nat.le_of_ble_eq_true rfl)⟩) hP hD hS hA [0, 1] [] rfl rfl (by decide) (by decide) (Nat.le_of_ble_eq_true rfl) (Nat.le_of_ble_eq_true rfl) (fun u H locs hw hP hD hS => ?_)
  obtain ⟨f105, rfl⟩ : ∃ z, z = u := ⟨_, rfl⟩
  have h106 := hw
  have hP : va_P D nm_cl [(a0, .inr (0, [.ref a1, .int 10])), (a1, .inl (cB, 16, .inl f105))] H := hP
  have hD : va_D A [(a0, .inr (0, [.ref a1, .int 10])), (a1, .inl (cB, 16, .inl f105))] := hD
  refine lv_aload_n hx hb dX0_addFour_16 rfl (lv_at hl 0 rfl) ?_
  refine lv_iload_n hx hb dX0_addFour_17 rfl (lv_at hl 1 rfl) ?_
  refine lv_bipush (v := 8) hx hb dX0_addFour_18 (by decide) ?_
  obtain ⟨z107, e9⟩ : ∃ y : Int32, _ = y := ⟨_, rfl⟩
  refine lv_iushr hx hb dX0_addFour_20 e9 ?_
  refine nm_callv (Z := (Nat → Int32)) (wr := []) (k := 0) (n := 0) (va_runV (As := [.int z107]) (rest := []) ⟨hx, hb, hml, hown, hts⟩ (c_X0_add_11 l D cI cB cJ cS H.size a0 a1 z107 f105 h106) (cwV 1 hts (nm_gV q_444 q_445 q_446 q_2 q_447) rfl rfl rfl (by decide +kernel) ⟨(Nat.le_of_ble_eq_true rfl), (Nat.le_of_ble_eq_true rfl)⟩) (nm_preV (q := (RX0, TX0, 2)) (hP.sub [0, 1] rfl) (hD.sub [0, 1] (by decide) rfl) hM 0 rfl rfl) rfl rfl hl.1 rfl (lv_room (Nat.le_of_ble_eq_true rfl)) dX0_addFour_21 ⟨(Nat.le_of_ble_eq_true rfl), (Nat.le_of_ble_eq_true rfl)⟩) hP hD hS hA [0, 1] [] rfl rfl (by decide) (by decide) (Nat.le_of_ble_eq_true rfl) (Nat.le_of_ble_eq_true rfl) (fun u H locs hw hP hD hS => ?_)
  obtain ⟨f108, rfl⟩ : ∃ z, z = u := ⟨_, rfl⟩
  have h109 := hw
  have hP : va_P D nm_cl [(a0, .inr (0, [.ref a1, .int 11])), (a1, .inl (cB, 16, .inl f108))] H := hP
  have hD : va_D A [(a0, .inr (0, [.ref a1, .int 11])), (a1, .inl (cB, 16, .inl f108))] := hD
  refine lv_aload_n hx hb dX0_addFour_24 rfl (lv_at hl 0 rfl) ?_
  refine lv_iload_n hx hb dX0_addFour_25 rfl (lv_at hl 1 rfl) ?_
  refine nm_callv (Z := (Nat → Int32)) (wr := []) (k := 0) (n := 0) (va_runV (As := [.int x0]) (rest := []) ⟨hx, hb, hml, hown, hts⟩ (c_X0_add_12 l D cI cB cJ cS H.size a0 a1 x0 f108 h109) (cwV 1 hts (nm_gV q_444 q_445 q_446 q_2 q_447) rfl rfl rfl (by decide +kernel) ⟨(Nat.le_of_ble_eq_true rfl), (Nat.le_of_ble_eq_true rfl)⟩) (nm_preV (q := (RX0, TX0, 2)) (hP.sub [0, 1] rfl) (hD.sub [0, 1] (by decide) rfl) hM 0 rfl rfl) rfl rfl hl.1 rfl (lv_room (Nat.le_of_ble_eq_true rfl)) dX0_addFour_26 ⟨(Nat.le_of_ble_eq_true rfl), (Nat.le_of_ble_eq_true rfl)⟩) hP hD hS hA [0, 1] [] rfl rfl (by decide) (by decide) (Nat.le_of_ble_eq_true rfl) (Nat.le_of_ble_eq_true rfl) (fun u H locs hw hP hD hS => ?_)
  obtain ⟨f110, rfl⟩ : ∃ z, z = u := ⟨_, rfl⟩
  have h111 := hw
  have hP : va_P D nm_cl [(a0, .inr (0, [.ref a1, .int 12])), (a1, .inl (cB, 16, .inl f110))] H := hP
  have hD : va_D A [(a0, .inr (0, [.ref a1, .int 12])), (a1, .inl (cB, 16, .inl f110))] := hD
  have hP9 := hP.sub (ws' := [(a0, .inr (0, [.ref a1, .int 12])), (a1, .inl (cB, 16, .inl f110))]) [0, 1] rfl
  have hD9 := hD.sub (ws' := [(a0, .inr (0, [.ref a1, .int 12])), (a1, .inl (cB, 16, .inl f110))]) [0, 1] (by decide) rfl
  exact W.vret hx hb hr (fun t ht hW => ⟨⟨f110, rfl, h111, by rw [ht]; exact hP9, hD9⟩, hS.F ht⟩) hS.2.2 dX0_addFour_29
set_option maxHeartbeats 4000000 in
set_option maxRecDepth 100000 in
theorem c_X0_add_13 (l : Launch) (D : va_G) (cI cB cJ cS : ClassId) (sz : Nat) (a0 : Nat) (a1 : Nat) (x0 : Int32) (f0 : Nat → Int32) (hy_f0 : ∀ j, fits .byte (.int (f0 j)) = true) : Met l yX0_add (.code yX0_add cX0_add 2 none :: nm_big) ({ frames := 0, cells := 0, slots := 0, locals := 0 }) (nm_P D cI cB cJ cS [.ref a0, .int x0] sz [(a0, .inr (0, [.ref a1, .int 12])), (a1, .inl (cB, 16, .inl f0))]) ((fun A : Nat → Prop => va_Qv (S := (Nat → Int32)) (fun (f102 : (Nat → Int32)) => (∀ j, fits .byte (.int (f102 j)) = true)) (nm_B D (fun (f102 : (Nat → Int32)) => [(a0, .inr (0, [.ref a1, .int 13])), (a1, .inl (cB, 16, .inl f102))]) A) A) (va_A [(a0, .inr (0, [.ref a1, .int 12])), (a1, .inl (cB, 16, .inl f0))] sz)) 0 0 (va_A [(a0, .inr (0, [.ref a1, .int 12])), (a1, .inl (cB, 16, .inl f0))] sz) := by
  refine nm_Met (Qc := fun A => va_Qv (S := (Nat → Int32)) (fun (f102 : (Nat → Int32)) => (∀ j, fits .byte (.int (f102 j)) = true)) (nm_B D (fun (f102 : (Nat → Int32)) => [(a0, .inr (0, [.ref a1, .int 13])), (a1, .inl (cB, 16, .inl f102))]) A) A) ?_ ?_ ?_
  · decide +kernel
  · exact Nat.le_of_ble_eq_true rfl
  intro p e s m below meth c A ls hx hb hr hml hts hown hlocks hin hM hP hD hS hA hl
  have hl : lv_has ls 2 [(0, .ref a0), (1, .int x0)] := hl
  have hown : s.vm.findClass RX0 = some m.cls := hown
  refine lv_aload_n hx hb dX0_add_0 rfl (lv_at hl 0 rfl) ?_
  refine va_get (D := D) (ci := 0) (v := .int 12) (C := RX0) (T := TX0) (N := 2) hx hb hts iw_X0 hown hM.1 hP 0 rfl rfl 1 (by decide) (hts _ q_43) (fun _ h9 => h9) rfl dX0_add_1 ?_
  refine lv_aload_n hx hb dX0_add_4 rfl (lv_at hl 0 rfl) ?_
  refine va_get (D := D) (ci := 0) (v := .ref a1) (C := RX0) (T := TX0) (N := 2) hx hb hts iw_X0 hown hM.1 hP 0 rfl rfl 0 (by decide) (hts _ q_42) (fun _ h9 => h9) rfl dX0_add_5 ?_
  refine va_alen (v := 16) hx hb hM.1 hP 1 1 rfl rfl rfl dX0_add_8 ?_
  refine lv_icmp_lt (tgt := 29) hx hb dX0_add_9 (by decide) (fun _ => ?_) (fun c9 => absurd (by decide) c9)
  refine lv_aload_n hx hb dX0_add_29 rfl (lv_at hl 0 rfl) ?_
  refine va_get (D := D) (ci := 0) (v := .ref a1) (C := RX0) (T := TX0) (N := 2) hx hb hts iw_X0 hown hM.1 hP 0 rfl rfl 0 (by decide) (hts _ q_42) (fun _ h9 => h9) rfl dX0_add_30 ?_
  refine lv_aload_n hx hb dX0_add_33 rfl (lv_at hl 0 rfl) ?_
  refine va_get (D := D) (ci := 0) (v := .int 12) (C := RX0) (T := TX0) (N := 2) hx hb hts iw_X0 hown hM.1 hP 0 rfl rfl 1 (by decide) (hts _ q_43) (fun _ h9 => h9) rfl dX0_add_34 ?_
  refine lv_iload_n hx hb dX0_add_37 rfl (lv_at hl 1 rfl) ?_
  obtain ⟨z101, e9⟩ : ∃ y : Int32, Int8.toInt32 (Int32.toInt8 x0) = y := ⟨_, rfl⟩
  refine lv_i2b hx hb dX0_add_38 e9 ?_
  refine va_bast hx hb hM.1 hP hD hS 1 1 rfl rfl (nm_vin (by decide)) dX0_add_39 (fun H locs hP hD hS => ?_)
  have hP : va_P D nm_cl [(a0, .inr (0, [.ref a1, .int 12])), (a1, .inl (cB, 16, .inl (upd f0 (Int32.toNatClampNeg 12) (vp_nar .byte z101))))] H := hP
  have hD : va_D A [(a0, .inr (0, [.ref a1, .int 12])), (a1, .inl (cB, 16, .inl (upd f0 (Int32.toNatClampNeg 12) (vp_nar .byte z101))))] := hD
  obtain ⟨f102, hf9⟩ : ∃ g : Nat → Int32, g = (upd f0 (Int32.toNatClampNeg 12) (vp_nar .byte z101)) := ⟨_, rfl⟩
  rw [← hf9] at hP hD
  have hy_f102 : ∀ j, fits .byte (.int (f102 j)) = true := by rw [hf9]; exact nm_by hy_f0
  refine lv_aload_n hx hb dX0_add_40 rfl (lv_at hl 0 rfl) ?_
  refine lv_dup hx hb dX0_add_41 rfl ?_
  refine va_get (D := D) (ci := 0) (v := .int 12) (C := RX0) (T := TX0) (N := 2) hx hb hts iw_X0 hown hM.1 hP 0 rfl rfl 1 (by decide) (hts _ q_43) (fun _ h9 => h9) rfl dX0_add_42 ?_
  refine lv_iconst (v := 1) hx hb dX0_add_45 (by decide) ?_
  refine lv_iadd hx hb dX0_add_46 ?_
  refine lv_topi (fun z103 e9 => ?_)
  obtain rfl : z103 = (13 : Int32) := e9.trans (by decide)
  refine va_put (D := D) (ci := 0) (v := .int 13) (ty := .int) (C := RX0) (T := TX0) (N := 2) hx hb hts iw_X0 tyX0 tyX0_ok nmX0 hown hM.1 hP hD hS 0 rfl rfl 1 (by decide) (hts _ q_43) (fun _ h9 => h9) rfl (by decide +kernel) rfl rfl (Nat.le_of_ble_eq_true rfl) dX0_add_47 (fun H locs hP hD hS => ?_)
  have hP : va_P D nm_cl [(a0, .inr (0, [.ref a1, .int 13])), (a1, .inl (cB, 16, .inl f102))] H := hP
  have hD : va_D A [(a0, .inr (0, [.ref a1, .int 13])), (a1, .inl (cB, 16, .inl f102))] := hD
  have hP9 := hP.sub (ws' := [(a0, .inr (0, [.ref a1, .int 13])), (a1, .inl (cB, 16, .inl f102))]) [0, 1] rfl
  have hD9 := hD.sub (ws' := [(a0, .inr (0, [.ref a1, .int 13])), (a1, .inl (cB, 16, .inl f102))]) [0, 1] (by decide) rfl
  exact W.vret hx hb hr (fun t ht hW => ⟨⟨f102, rfl, hy_f102, by rw [ht]; exact hP9, hD9⟩, hS.F ht⟩) hS.2.2 dX0_add_50
set_option maxHeartbeats 4000000 in
set_option maxRecDepth 100000 in
theorem c_X0_add_14 (l : Launch) (D : va_G) (cI cB cJ cS : ClassId) (sz : Nat) (a0 : Nat) (a1 : Nat) (x0 : Int32) (f0 : Nat → Int32) (hy_f0 : ∀ j, fits .byte (.int (f0 j)) = true) : Met l yX0_add (.code yX0_add cX0_add 2 none :: nm_big) ({ frames := 0, cells := 0, slots := 0, locals := 0 }) (nm_P D cI cB cJ cS [.ref a0, .int x0] sz [(a0, .inr (0, [.ref a1, .int 13])), (a1, .inl (cB, 16, .inl f0))]) ((fun A : Nat → Prop => va_Qv (S := (Nat → Int32)) (fun (f102 : (Nat → Int32)) => (∀ j, fits .byte (.int (f102 j)) = true)) (nm_B D (fun (f102 : (Nat → Int32)) => [(a0, .inr (0, [.ref a1, .int 14])), (a1, .inl (cB, 16, .inl f102))]) A) A) (va_A [(a0, .inr (0, [.ref a1, .int 13])), (a1, .inl (cB, 16, .inl f0))] sz)) 0 0 (va_A [(a0, .inr (0, [.ref a1, .int 13])), (a1, .inl (cB, 16, .inl f0))] sz) := by
  refine nm_Met (Qc := fun A => va_Qv (S := (Nat → Int32)) (fun (f102 : (Nat → Int32)) => (∀ j, fits .byte (.int (f102 j)) = true)) (nm_B D (fun (f102 : (Nat → Int32)) => [(a0, .inr (0, [.ref a1, .int 14])), (a1, .inl (cB, 16, .inl f102))]) A) A) ?_ ?_ ?_
  · decide +kernel
  · exact Nat.le_of_ble_eq_true rfl
  intro p e s m below meth c A ls hx hb hr hml hts hown hlocks hin hM hP hD hS hA hl
  have hl : lv_has ls 2 [(0, .ref a0), (1, .int x0)] := hl
  have hown : s.vm.findClass RX0 = some m.cls := hown
  refine lv_aload_n hx hb dX0_add_0 rfl (lv_at hl 0 rfl) ?_
  refine va_get (D := D) (ci := 0) (v := .int 13) (C := RX0) (T := TX0) (N := 2) hx hb hts iw_X0 hown hM.1 hP 0 rfl rfl 1 (by decide) (hts _ q_43) (fun _ h9 => h9) rfl dX0_add_1 ?_
  refine lv_aload_n hx hb dX0_add_4 rfl (lv_at hl 0 rfl) ?_
  refine va_get (D := D) (ci := 0) (v := .ref a1) (C := RX0) (T := TX0) (N := 2) hx hb hts iw_X0 hown hM.1 hP 0 rfl rfl 0 (by decide) (hts _ q_42) (fun _ h9 => h9) rfl dX0_add_5 ?_
  refine va_alen (v := 16) hx hb hM.1 hP 1 1 rfl rfl rfl dX0_add_8 ?_
  refine lv_icmp_lt (tgt := 29) hx hb dX0_add_9 (by decide) (fun _ => ?_) (fun c9 => absurd (by decide) c9)
  refine lv_aload_n hx hb dX0_add_29 rfl (lv_at hl 0 rfl) ?_
  refine va_get (D := D) (ci := 0) (v := .ref a1) (C := RX0) (T := TX0) (N := 2) hx hb hts iw_X0 hown hM.1 hP 0 rfl rfl 0 (by decide) (hts _ q_42) (fun _ h9 => h9) rfl dX0_add_30 ?_
  refine lv_aload_n hx hb dX0_add_33 rfl (lv_at hl 0 rfl) ?_
  refine va_get (D := D) (ci := 0) (v := .int 13) (C := RX0) (T := TX0) (N := 2) hx hb hts iw_X0 hown hM.1 hP 0 rfl rfl 1 (by decide) (hts _ q_43) (fun _ h9 => h9) rfl dX0_add_34 ?_
  refine lv_iload_n hx hb dX0_add_37 rfl (lv_at hl 1 rfl) ?_
  obtain ⟨z101, e9⟩ : ∃ y : Int32, Int8.toInt32 (Int32.toInt8 x0) = y := ⟨_, rfl⟩
  refine lv_i2b hx hb dX0_add_38 e9 ?_
  refine va_bast hx hb hM.1 hP hD hS 1 1 rfl rfl (nm_vin (by decide)) dX0_add_39 (fun H locs hP hD hS => ?_)
  have hP : va_P D nm_cl [(a0, .inr (0, [.ref a1, .int 13])), (a1, .inl (cB, 16, .inl (upd f0 (Int32.toNatClampNeg 13) (vp_nar .byte z101))))] H := hP
  have hD : va_D A [(a0, .inr (0, [.ref a1, .int 13])), (a1, .inl (cB, 16, .inl (upd f0 (Int32.toNatClampNeg 13) (vp_nar .byte z101))))] := hD
  obtain ⟨f102, hf9⟩ : ∃ g : Nat → Int32, g = (upd f0 (Int32.toNatClampNeg 13) (vp_nar .byte z101)) := ⟨_, rfl⟩
  rw [← hf9] at hP hD
  have hy_f102 : ∀ j, fits .byte (.int (f102 j)) = true := by rw [hf9]; exact nm_by hy_f0
  refine lv_aload_n hx hb dX0_add_40 rfl (lv_at hl 0 rfl) ?_
  refine lv_dup hx hb dX0_add_41 rfl ?_
  refine va_get (D := D) (ci := 0) (v := .int 13) (C := RX0) (T := TX0) (N := 2) hx hb hts iw_X0 hown hM.1 hP 0 rfl rfl 1 (by decide) (hts _ q_43) (fun _ h9 => h9) rfl dX0_add_42 ?_
  refine lv_iconst (v := 1) hx hb dX0_add_45 (by decide) ?_
  refine lv_iadd hx hb dX0_add_46 ?_
  refine lv_topi (fun z103 e9 => ?_)
  obtain rfl : z103 = (14 : Int32) := e9.trans (by decide)
  refine va_put (D := D) (ci := 0) (v := .int 14) (ty := .int) (C := RX0) (T := TX0) (N := 2) hx hb hts iw_X0 tyX0 tyX0_ok nmX0 hown hM.1 hP hD hS 0 rfl rfl 1 (by decide) (hts _ q_43) (fun _ h9 => h9) rfl (by decide +kernel) rfl rfl (Nat.le_of_ble_eq_true rfl) dX0_add_47 (fun H locs hP hD hS => ?_)
  have hP : va_P D nm_cl [(a0, .inr (0, [.ref a1, .int 14])), (a1, .inl (cB, 16, .inl f102))] H := hP
  have hD : va_D A [(a0, .inr (0, [.ref a1, .int 14])), (a1, .inl (cB, 16, .inl f102))] := hD
  have hP9 := hP.sub (ws' := [(a0, .inr (0, [.ref a1, .int 14])), (a1, .inl (cB, 16, .inl f102))]) [0, 1] rfl
  have hD9 := hD.sub (ws' := [(a0, .inr (0, [.ref a1, .int 14])), (a1, .inl (cB, 16, .inl f102))]) [0, 1] (by decide) rfl
  exact W.vret hx hb hr (fun t ht hW => ⟨⟨f102, rfl, hy_f102, by rw [ht]; exact hP9, hD9⟩, hS.F ht⟩) hS.2.2 dX0_add_50
set_option maxHeartbeats 4000000 in
set_option maxRecDepth 100000 in
theorem c_X0_add_15 (l : Launch) (D : va_G) (cI cB cJ cS : ClassId) (sz : Nat) (a0 : Nat) (a1 : Nat) (x0 : Int32) (f0 : Nat → Int32) (hy_f0 : ∀ j, fits .byte (.int (f0 j)) = true) : Met l yX0_add (.code yX0_add cX0_add 2 none :: nm_big) ({ frames := 0, cells := 0, slots := 0, locals := 0 }) (nm_P D cI cB cJ cS [.ref a0, .int x0] sz [(a0, .inr (0, [.ref a1, .int 14])), (a1, .inl (cB, 16, .inl f0))]) ((fun A : Nat → Prop => va_Qv (S := (Nat → Int32)) (fun (f102 : (Nat → Int32)) => (∀ j, fits .byte (.int (f102 j)) = true)) (nm_B D (fun (f102 : (Nat → Int32)) => [(a0, .inr (0, [.ref a1, .int 15])), (a1, .inl (cB, 16, .inl f102))]) A) A) (va_A [(a0, .inr (0, [.ref a1, .int 14])), (a1, .inl (cB, 16, .inl f0))] sz)) 0 0 (va_A [(a0, .inr (0, [.ref a1, .int 14])), (a1, .inl (cB, 16, .inl f0))] sz) := by
  refine nm_Met (Qc := fun A => va_Qv (S := (Nat → Int32)) (fun (f102 : (Nat → Int32)) => (∀ j, fits .byte (.int (f102 j)) = true)) (nm_B D (fun (f102 : (Nat → Int32)) => [(a0, .inr (0, [.ref a1, .int 15])), (a1, .inl (cB, 16, .inl f102))]) A) A) ?_ ?_ ?_
  · decide +kernel
  · exact Nat.le_of_ble_eq_true rfl
  intro p e s m below meth c A ls hx hb hr hml hts hown hlocks hin hM hP hD hS hA hl
  have hl : lv_has ls 2 [(0, .ref a0), (1, .int x0)] := hl
  have hown : s.vm.findClass RX0 = some m.cls := hown
  refine lv_aload_n hx hb dX0_add_0 rfl (lv_at hl 0 rfl) ?_
  refine va_get (D := D) (ci := 0) (v := .int 14) (C := RX0) (T := TX0) (N := 2) hx hb hts iw_X0 hown hM.1 hP 0 rfl rfl 1 (by decide) (hts _ q_43) (fun _ h9 => h9) rfl dX0_add_1 ?_
  refine lv_aload_n hx hb dX0_add_4 rfl (lv_at hl 0 rfl) ?_
  refine va_get (D := D) (ci := 0) (v := .ref a1) (C := RX0) (T := TX0) (N := 2) hx hb hts iw_X0 hown hM.1 hP 0 rfl rfl 0 (by decide) (hts _ q_42) (fun _ h9 => h9) rfl dX0_add_5 ?_
  refine va_alen (v := 16) hx hb hM.1 hP 1 1 rfl rfl rfl dX0_add_8 ?_
  refine lv_icmp_lt (tgt := 29) hx hb dX0_add_9 (by decide) (fun _ => ?_) (fun c9 => absurd (by decide) c9)
  refine lv_aload_n hx hb dX0_add_29 rfl (lv_at hl 0 rfl) ?_
  refine va_get (D := D) (ci := 0) (v := .ref a1) (C := RX0) (T := TX0) (N := 2) hx hb hts iw_X0 hown hM.1 hP 0 rfl rfl 0 (by decide) (hts _ q_42) (fun _ h9 => h9) rfl dX0_add_30 ?_
  refine lv_aload_n hx hb dX0_add_33 rfl (lv_at hl 0 rfl) ?_
  refine va_get (D := D) (ci := 0) (v := .int 14) (C := RX0) (T := TX0) (N := 2) hx hb hts iw_X0 hown hM.1 hP 0 rfl rfl 1 (by decide) (hts _ q_43) (fun _ h9 => h9) rfl dX0_add_34 ?_
  refine lv_iload_n hx hb dX0_add_37 rfl (lv_at hl 1 rfl) ?_
  obtain ⟨z101, e9⟩ : ∃ y : Int32, Int8.toInt32 (Int32.toInt8 x0) = y := ⟨_, rfl⟩
  refine lv_i2b hx hb dX0_add_38 e9 ?_
  refine va_bast hx hb hM.1 hP hD hS 1 1 rfl rfl (nm_vin (by decide)) dX0_add_39 (fun H locs hP hD hS => ?_)
  have hP : va_P D nm_cl [(a0, .inr (0, [.ref a1, .int 14])), (a1, .inl (cB, 16, .inl (upd f0 (Int32.toNatClampNeg 14) (vp_nar .byte z101))))] H := hP
  have hD : va_D A [(a0, .inr (0, [.ref a1, .int 14])), (a1, .inl (cB, 16, .inl (upd f0 (Int32.toNatClampNeg 14) (vp_nar .byte z101))))] := hD
  obtain ⟨f102, hf9⟩ : ∃ g : Nat → Int32, g = (upd f0 (Int32.toNatClampNeg 14) (vp_nar .byte z101)) := ⟨_, rfl⟩
  rw [← hf9] at hP hD
  have hy_f102 : ∀ j, fits .byte (.int (f102 j)) = true := by rw [hf9]; exact nm_by hy_f0
  refine lv_aload_n hx hb dX0_add_40 rfl (lv_at hl 0 rfl) ?_
  refine lv_dup hx hb dX0_add_41 rfl ?_
  refine va_get (D := D) (ci := 0) (v := .int 14) (C := RX0) (T := TX0) (N := 2) hx hb hts iw_X0 hown hM.1 hP 0 rfl rfl 1 (by decide) (hts _ q_43) (fun _ h9 => h9) rfl dX0_add_42 ?_
  refine lv_iconst (v := 1) hx hb dX0_add_45 (by decide) ?_
  refine lv_iadd hx hb dX0_add_46 ?_
  refine lv_topi (fun z103 e9 => ?_)
  obtain rfl : z103 = (15 : Int32) := e9.trans (by decide)
  refine va_put (D := D) (ci := 0) (v := .int 15) (ty := .int) (C := RX0) (T := TX0) (N := 2) hx hb hts iw_X0 tyX0 tyX0_ok nmX0 hown hM.1 hP hD hS 0 rfl rfl 1 (by decide) (hts _ q_43) (fun _ h9 => h9) rfl (by decide +kernel) rfl rfl (Nat.le_of_ble_eq_true rfl) dX0_add_47 (fun H locs hP hD hS => ?_)
  have hP : va_P D nm_cl [(a0, .inr (0, [.ref a1, .int 15])), (a1, .inl (cB, 16, .inl f102))] H := hP
  have hD : va_D A [(a0, .inr (0, [.ref a1, .int 15])), (a1, .inl (cB, 16, .inl f102))] := hD
  have hP9 := hP.sub (ws' := [(a0, .inr (0, [.ref a1, .int 15])), (a1, .inl (cB, 16, .inl f102))]) [0, 1] rfl
  have hD9 := hD.sub (ws' := [(a0, .inr (0, [.ref a1, .int 15])), (a1, .inl (cB, 16, .inl f102))]) [0, 1] (by decide) rfl
  exact W.vret hx hb hr (fun t ht hW => ⟨⟨f102, rfl, hy_f102, by rw [ht]; exact hP9, hD9⟩, hS.F ht⟩) hS.2.2 dX0_add_50
set_option maxHeartbeats 4000000 in
set_option maxRecDepth 100000 in
theorem c_X0_add_16 (l : Launch) (D : va_G) (cI cB cJ cS : ClassId) (sz : Nat) (a0 : Nat) (a1 : Nat) (x0 : Int32) (f0 : Nat → Int32) (hy_f0 : ∀ j, fits .byte (.int (f0 j)) = true) : Met l yX0_add (.code yX0_add cX0_add 2 none :: nm_big) ({ frames := 0, cells := 0, slots := 0, locals := 0 }) (nm_P D cI cB cJ cS [.ref a0, .int x0] sz [(a0, .inr (0, [.ref a1, .int 15])), (a1, .inl (cB, 16, .inl f0))]) ((fun A : Nat → Prop => va_Qv (S := (Nat → Int32)) (fun (f102 : (Nat → Int32)) => (∀ j, fits .byte (.int (f102 j)) = true)) (nm_B D (fun (f102 : (Nat → Int32)) => [(a0, .inr (0, [.ref a1, .int 16])), (a1, .inl (cB, 16, .inl f102))]) A) A) (va_A [(a0, .inr (0, [.ref a1, .int 15])), (a1, .inl (cB, 16, .inl f0))] sz)) 0 0 (va_A [(a0, .inr (0, [.ref a1, .int 15])), (a1, .inl (cB, 16, .inl f0))] sz) := by
  refine nm_Met (Qc := fun A => va_Qv (S := (Nat → Int32)) (fun (f102 : (Nat → Int32)) => (∀ j, fits .byte (.int (f102 j)) = true)) (nm_B D (fun (f102 : (Nat → Int32)) => [(a0, .inr (0, [.ref a1, .int 16])), (a1, .inl (cB, 16, .inl f102))]) A) A) ?_ ?_ ?_
  · decide +kernel
  · exact Nat.le_of_ble_eq_true rfl
  intro p e s m below meth c A ls hx hb hr hml hts hown hlocks hin hM hP hD hS hA hl
  have hl : lv_has ls 2 [(0, .ref a0), (1, .int x0)] := hl
  have hown : s.vm.findClass RX0 = some m.cls := hown
  refine lv_aload_n hx hb dX0_add_0 rfl (lv_at hl 0 rfl) ?_
  refine va_get (D := D) (ci := 0) (v := .int 15) (C := RX0) (T := TX0) (N := 2) hx hb hts iw_X0 hown hM.1 hP 0 rfl rfl 1 (by decide) (hts _ q_43) (fun _ h9 => h9) rfl dX0_add_1 ?_
  refine lv_aload_n hx hb dX0_add_4 rfl (lv_at hl 0 rfl) ?_
  refine va_get (D := D) (ci := 0) (v := .ref a1) (C := RX0) (T := TX0) (N := 2) hx hb hts iw_X0 hown hM.1 hP 0 rfl rfl 0 (by decide) (hts _ q_42) (fun _ h9 => h9) rfl dX0_add_5 ?_
  refine va_alen (v := 16) hx hb hM.1 hP 1 1 rfl rfl rfl dX0_add_8 ?_
  refine lv_icmp_lt (tgt := 29) hx hb dX0_add_9 (by decide) (fun _ => ?_) (fun c9 => absurd (by decide) c9)
  refine lv_aload_n hx hb dX0_add_29 rfl (lv_at hl 0 rfl) ?_
  refine va_get (D := D) (ci := 0) (v := .ref a1) (C := RX0) (T := TX0) (N := 2) hx hb hts iw_X0 hown hM.1 hP 0 rfl rfl 0 (by decide) (hts _ q_42) (fun _ h9 => h9) rfl dX0_add_30 ?_
  refine lv_aload_n hx hb dX0_add_33 rfl (lv_at hl 0 rfl) ?_
  refine va_get (D := D) (ci := 0) (v := .int 15) (C := RX0) (T := TX0) (N := 2) hx hb hts iw_X0 hown hM.1 hP 0 rfl rfl 1 (by decide) (hts _ q_43) (fun _ h9 => h9) rfl dX0_add_34 ?_
  refine lv_iload_n hx hb dX0_add_37 rfl (lv_at hl 1 rfl) ?_
  obtain ⟨z101, e9⟩ : ∃ y : Int32, Int8.toInt32 (Int32.toInt8 x0) = y := ⟨_, rfl⟩
  refine lv_i2b hx hb dX0_add_38 e9 ?_
  refine va_bast hx hb hM.1 hP hD hS 1 1 rfl rfl (nm_vin (by decide)) dX0_add_39 (fun H locs hP hD hS => ?_)
  have hP : va_P D nm_cl [(a0, .inr (0, [.ref a1, .int 15])), (a1, .inl (cB, 16, .inl (upd f0 (Int32.toNatClampNeg 15) (vp_nar .byte z101))))] H := hP
  have hD : va_D A [(a0, .inr (0, [.ref a1, .int 15])), (a1, .inl (cB, 16, .inl (upd f0 (Int32.toNatClampNeg 15) (vp_nar .byte z101))))] := hD
  obtain ⟨f102, hf9⟩ : ∃ g : Nat → Int32, g = (upd f0 (Int32.toNatClampNeg 15) (vp_nar .byte z101)) := ⟨_, rfl⟩
  rw [← hf9] at hP hD
  have hy_f102 : ∀ j, fits .byte (.int (f102 j)) = true := by rw [hf9]; exact nm_by hy_f0
  refine lv_aload_n hx hb dX0_add_40 rfl (lv_at hl 0 rfl) ?_
  refine lv_dup hx hb dX0_add_41 rfl ?_
  refine va_get (D := D) (ci := 0) (v := .int 15) (C := RX0) (T := TX0) (N := 2) hx hb hts iw_X0 hown hM.1 hP 0 rfl rfl 1 (by decide) (hts _ q_43) (fun _ h9 => h9) rfl dX0_add_42 ?_
  refine lv_iconst (v := 1) hx hb dX0_add_45 (by decide) ?_
  refine lv_iadd hx hb dX0_add_46 ?_
  refine lv_topi (fun z103 e9 => ?_)
  obtain rfl : z103 = (16 : Int32) := e9.trans (by decide)
  refine va_put (D := D) (ci := 0) (v := .int 16) (ty := .int) (C := RX0) (T := TX0) (N := 2) hx hb hts iw_X0 tyX0 tyX0_ok nmX0 hown hM.1 hP hD hS 0 rfl rfl 1 (by decide) (hts _ q_43) (fun _ h9 => h9) rfl (by decide +kernel) rfl rfl (Nat.le_of_ble_eq_true rfl) dX0_add_47 (fun H locs hP hD hS => ?_)
  have hP : va_P D nm_cl [(a0, .inr (0, [.ref a1, .int 16])), (a1, .inl (cB, 16, .inl f102))] H := hP
  have hD : va_D A [(a0, .inr (0, [.ref a1, .int 16])), (a1, .inl (cB, 16, .inl f102))] := hD
  have hP9 := hP.sub (ws' := [(a0, .inr (0, [.ref a1, .int 16])), (a1, .inl (cB, 16, .inl f102))]) [0, 1] rfl
  have hD9 := hD.sub (ws' := [(a0, .inr (0, [.ref a1, .int 16])), (a1, .inl (cB, 16, .inl f102))]) [0, 1] (by decide) rfl
  exact W.vret hx hb hr (fun t ht hW => ⟨⟨f102, rfl, hy_f102, by rw [ht]; exact hP9, hD9⟩, hS.F ht⟩) hS.2.2 dX0_add_50
set_option maxHeartbeats 4000000 in
set_option maxRecDepth 100000 in
theorem c_X0_addFour_4 (l : Launch) (D : va_G) (cI cB cJ cS : ClassId) (sz : Nat) (a0 : Nat) (a1 : Nat) (x0 : Int32) (f0 : Nat → Int32) (hy_f0 : ∀ j, fits .byte (.int (f0 j)) = true) : Met l yX0_addFour (.code yX0_addFour cX0_addFour 2 none :: nm_big) ({ frames := 1, cells := 0, slots := 0, locals := 21 }) (nm_P D cI cB cJ cS [.ref a0, .int x0] sz [(a0, .inr (0, [.ref a1, .int 12])), (a1, .inl (cB, 16, .inl f0))]) ((fun A : Nat → Prop => va_Qv (S := (Nat → Int32)) (fun (f110 : (Nat → Int32)) => (∀ j, fits .byte (.int (f110 j)) = true)) (nm_B D (fun (f110 : (Nat → Int32)) => [(a0, .inr (0, [.ref a1, .int 16])), (a1, .inl (cB, 16, .inl f110))]) A) A) (va_A [(a0, .inr (0, [.ref a1, .int 12])), (a1, .inl (cB, 16, .inl f0))] sz)) 0 0 (va_A [(a0, .inr (0, [.ref a1, .int 12])), (a1, .inl (cB, 16, .inl f0))] sz) := by
  refine nm_Met (Qc := fun A => va_Qv (S := (Nat → Int32)) (fun (f110 : (Nat → Int32)) => (∀ j, fits .byte (.int (f110 j)) = true)) (nm_B D (fun (f110 : (Nat → Int32)) => [(a0, .inr (0, [.ref a1, .int 16])), (a1, .inl (cB, 16, .inl f110))]) A) A) ?_ ?_ ?_
  · decide +kernel
  · exact Nat.le_of_ble_eq_true rfl
  intro p e s m below meth c A ls hx hb hr hml hts hown hlocks hin hM hP hD hS hA hl
  have hl : lv_has ls 2 [(0, .ref a0), (1, .int x0)] := hl
  have hown : s.vm.findClass RX0 = some m.cls := hown
  refine lv_aload_n hx hb dX0_addFour_0 rfl (lv_at hl 0 rfl) ?_
  refine lv_iload_n hx hb dX0_addFour_1 rfl (lv_at hl 1 rfl) ?_
  refine lv_bipush (v := 24) hx hb dX0_addFour_2 (by decide) ?_
  obtain ⟨z101, e9⟩ : ∃ y : Int32, _ = y := ⟨_, rfl⟩
  refine lv_iushr hx hb dX0_addFour_4 e9 ?_
  refine nm_callv (Z := (Nat → Int32)) (wr := []) (k := 0) (n := 0) (va_runV (As := [.int z101]) (rest := []) ⟨hx, hb, hml, hown, hts⟩ (c_X0_add_13 l D cI cB cJ cS s.heap.size a0 a1 z101 f0 hy_f0) (cwV 1 hts (nm_gV q_444 q_445 q_446 q_2 q_447) rfl rfl rfl (by decide +kernel) ⟨(Nat.le_of_ble_eq_true rfl), (Nat.le_of_ble_eq_true rfl)⟩) (nm_preV (q := (RX0, TX0, 2)) (hP.sub [0, 1] rfl) (hD.sub [0, 1] (by decide) rfl) hM 0 rfl rfl) rfl rfl hl.1 rfl (lv_room (Nat.le_of_ble_eq_true rfl)) dX0_addFour_5 ⟨(Nat.le_of_ble_eq_true rfl), (Nat.le_of_ble_eq_true rfl)⟩) hP hD hS hA [0, 1] [] rfl rfl (by decide) (by decide) (Nat.le_of_ble_eq_true rfl) (Nat.le_of_ble_eq_true rfl) (fun u H locs hw hP hD hS => ?_)
  obtain ⟨f102, rfl⟩ : ∃ z, z = u := ⟨_, rfl⟩
  have h103 := hw
  have hP : va_P D nm_cl [(a0, .inr (0, [.ref a1, .int 13])), (a1, .inl (cB, 16, .inl f102))] H := hP
  have hD : va_D A [(a0, .inr (0, [.ref a1, .int 13])), (a1, .inl (cB, 16, .inl f102))] := hD
  refine lv_aload_n hx hb dX0_addFour_8 rfl (lv_at hl 0 rfl) ?_
  refine lv_iload_n hx hb dX0_addFour_9 rfl (lv_at hl 1 rfl) ?_
  refine lv_bipush (v := 16) hx hb dX0_addFour_10 (by decide) ?_
  obtain ⟨z104, e9⟩ : ∃ y : Int32, _ = y := ⟨_, rfl⟩
  refine lv_iushr hx hb dX0_addFour_12 e9 ?_
  refine nm_callv (Z := (Nat → Int32)) (wr := []) (k := 0) (n := 0) (va_runV (As := [.int z104]) (rest := []) ⟨hx, hb, hml, hown, hts⟩ (c_X0_add_14 l D cI cB cJ cS H.size a0 a1 z104 f102 h103) (cwV 1 hts (nm_gV q_444 q_445 q_446 q_2 q_447) rfl rfl rfl (by decide +kernel) ⟨(Nat.le_of_ble_eq_true rfl), (Nat.le_of_ble_eq_true rfl)⟩) (nm_preV (q := (RX0, TX0, 2)) (hP.sub [0, 1] rfl) (hD.sub [0, 1] (by decide) rfl) hM 0 rfl rfl) rfl rfl hl.1 rfl (lv_room (Nat.le_of_ble_eq_true rfl)) dX0_addFour_13 ⟨(Nat.le_of_ble_eq_true rfl), (Nat.le_of_ble_eq_true rfl)⟩) hP hD hS hA [0, 1] [] rfl rfl (by decide) (by decide) (Nat.le_of_ble_eq_true rfl) (Nat.le_of_ble_eq_true rfl) (fun u H locs hw hP hD hS => ?_)
  obtain ⟨f105, rfl⟩ : ∃ z, z = u := ⟨_, rfl⟩
  have h106 := hw
  have hP : va_P D nm_cl [(a0, .inr (0, [.ref a1, .int 14])), (a1, .inl (cB, 16, .inl f105))] H := hP
  have hD : va_D A [(a0, .inr (0, [.ref a1, .int 14])), (a1, .inl (cB, 16, .inl f105))] := hD
  refine lv_aload_n hx hb dX0_addFour_16 rfl (lv_at hl 0 rfl) ?_
  refine lv_iload_n hx hb dX0_addFour_17 rfl (lv_at hl 1 rfl) ?_
  refine lv_bipush (v := 8) hx hb dX0_addFour_18 (by decide) ?_
  obtain ⟨z107, e9⟩ : ∃ y : Int32, _ = y := ⟨_, rfl⟩
  refine lv_iushr hx hb dX0_addFour_20 e9 ?_
  refine nm_callv (Z := (Nat → Int32)) (wr := []) (k := 0) (n := 0) (va_runV (As := [.int z107]) (rest := []) ⟨hx, hb, hml, hown, hts⟩ (c_X0_add_15 l D cI cB cJ cS H.size a0 a1 z107 f105 h106) (cwV 1 hts (nm_gV q_444 q_445 q_446 q_2 q_447) rfl rfl rfl (by decide +kernel) ⟨(Nat.le_of_ble_eq_true rfl), (Nat.le_of_ble_eq_true rfl)⟩) (nm_preV (q := (RX0, TX0, 2)) (hP.sub [0, 1] rfl) (hD.sub [0, 1] (by decide) rfl) hM 0 rfl rfl) rfl rfl hl.1 rfl (lv_room (Nat.le_of_ble_eq_true rfl)) dX0_addFour_21 ⟨(Nat.le_of_ble_eq_true rfl), (Nat.le_of_ble_eq_true rfl)⟩) hP hD hS hA [0, 1] [] rfl rfl (by decide) (by decide) (Nat.le_of_ble_eq_true rfl) (Nat.le_of_ble_eq_true rfl) (fun u H locs hw hP hD hS => ?_)
  obtain ⟨f108, rfl⟩ : ∃ z, z = u := ⟨_, rfl⟩
  have h109 := hw
  have hP : va_P D nm_cl [(a0, .inr (0, [.ref a1, .int 15])), (a1, .inl (cB, 16, .inl f108))] H := hP
  have hD : va_D A [(a0, .inr (0, [.ref a1, .int 15])), (a1, .inl (cB, 16, .inl f108))] := hD
  refine lv_aload_n hx hb dX0_addFour_24 rfl (lv_at hl 0 rfl) ?_
  refine lv_iload_n hx hb dX0_addFour_25 rfl (lv_at hl 1 rfl) ?_
  refine nm_callv (Z := (Nat → Int32)) (wr := []) (k := 0) (n := 0) (va_runV (As := [.int x0]) (rest := []) ⟨hx, hb, hml, hown, hts⟩ (c_X0_add_16 l D cI cB cJ cS H.size a0 a1 x0 f108 h109) (cwV 1 hts (nm_gV q_444 q_445 q_446 q_2 q_447) rfl rfl rfl (by decide +kernel) ⟨(Nat.le_of_ble_eq_true rfl), (Nat.le_of_ble_eq_true rfl)⟩) (nm_preV (q := (RX0, TX0, 2)) (hP.sub [0, 1] rfl) (hD.sub [0, 1] (by decide) rfl) hM 0 rfl rfl) rfl rfl hl.1 rfl (lv_room (Nat.le_of_ble_eq_true rfl)) dX0_addFour_26 ⟨(Nat.le_of_ble_eq_true rfl), (Nat.le_of_ble_eq_true rfl)⟩) hP hD hS hA [0, 1] [] rfl rfl (by decide) (by decide) (Nat.le_of_ble_eq_true rfl) (Nat.le_of_ble_eq_true rfl) (fun u H locs hw hP hD hS => ?_)
  obtain ⟨f110, rfl⟩ : ∃ z, z = u := ⟨_, rfl⟩
  have h111 := hw
  have hP : va_P D nm_cl [(a0, .inr (0, [.ref a1, .int 16])), (a1, .inl (cB, 16, .inl f110))] H := hP
  have hD : va_D A [(a0, .inr (0, [.ref a1, .int 16])), (a1, .inl (cB, 16, .inl f110))] := hD
  have hP9 := hP.sub (ws' := [(a0, .inr (0, [.ref a1, .int 16])), (a1, .inl (cB, 16, .inl f110))]) [0, 1] rfl
  have hD9 := hD.sub (ws' := [(a0, .inr (0, [.ref a1, .int 16])), (a1, .inl (cB, 16, .inl f110))]) [0, 1] (by decide) rfl
  exact W.vret hx hb hr (fun t ht hW => ⟨⟨f110, rfl, h111, by rw [ht]; exact hP9, hD9⟩, hS.F ht⟩) hS.2.2 dX0_addFour_29
set_option maxHeartbeats 4000000 in
set_option maxRecDepth 100000 in
theorem c_J7_copyOf_9075b_1 (l : Launch) (D : va_G) (cI cB cJ cS : ClassId) (sz : Nat) (a0 : Nat) (f0 : Nat → Int32) (hy_f0 : ∀ j, fits .byte (.int (f0 j)) = true) : Met l yJ7_copyOf_9075b (.code yJ7_copyOf_9075b cJ7_copyOf_9075b 3 (some (.array .byte)) :: nm_big) ({ frames := 1, cells := 1, slots := 32, locals := 80 }) (nm_P D cI cB cJ cS [.ref a0, .int 32] sz [(a0, .inl (cB, 16, .inl f0))]) ((fun A : Nat → Prop => va_Qr (S := Nat × (Nat → Int32)) (fun (z : Nat × (Nat → Int32)) => match z with | (q101, f103) => (∀ j, fits .byte (.int (f0 j)) = true) ∧ (∀ j, fits .byte (.int (f103 j)) = true)) (nm_Br D (fun (z : Nat × (Nat → Int32)) => match z with | (q101, f103) => q101) (fun (z : Nat × (Nat → Int32)) => match z with | (q101, f103) => [(a0, .inl (cB, 16, .inl f0)), (q101, .inl (cB, 32, .inl f103))]) A) A) (va_A [(a0, .inl (cB, 16, .inl f0))] sz)) 1 32 (va_A [(a0, .inl (cB, 16, .inl f0))] sz) := by
  refine nm_Met (Qc := fun A => va_Qr (S := Nat × (Nat → Int32)) (fun (z : Nat × (Nat → Int32)) => match z with | (q101, f103) => (∀ j, fits .byte (.int (f0 j)) = true) ∧ (∀ j, fits .byte (.int (f103 j)) = true)) (nm_Br D (fun (z : Nat × (Nat → Int32)) => match z with | (q101, f103) => q101) (fun (z : Nat × (Nat → Int32)) => match z with | (q101, f103) => [(a0, .inl (cB, 16, .inl f0)), (q101, .inl (cB, 32, .inl f103))]) A) A) ?_ ?_ ?_
  · decide +kernel
  · exact Nat.le_of_ble_eq_true rfl
  intro p e s m below meth c A ls hx hb hr hml hts hown hlocks hin hM hP hD hS hA hl
  have hl : lv_has ls 3 [(0, .ref a0), (1, .int 32)] := hl
  have hown : s.vm.findClass RJ7 = some m.cls := hown
  refine lv_iload_n hx hb dJ7_copyOf_9075b_0 rfl (lv_at hl 1 rfl) ?_
  refine lv_aload_n hx hb dJ7_copyOf_9075b_1 rfl (lv_at hl 0 rfl) ?_
  refine va_alen (v := 16) hx hb hM.1 hP 0 1 rfl rfl rfl dJ7_copyOf_9075b_2 ?_
  refine lv_icmp_ne (tgt := 14) hx hb dJ7_copyOf_9075b_3 (by decide) (fun _ => ?_) (fun c9 => absurd c9 (by decide))
  refine lv_iload_n hx hb dJ7_copyOf_9075b_14 rfl (lv_at hl 1 rfl) ?_
  refine nm_newb (k := 1) (n := 32) (N := 32) hx hb (hts _ q_52) hM hP hD hS hA (by decide) (by decide) (Nat.le_of_ble_eq_true rfl) (Nat.le_of_ble_eq_true rfl) (Nat.le_of_ble_eq_true rfl) dJ7_copyOf_9075b_15 (Nat.le_of_ble_eq_true rfl) (Nat.le_of_ble_eq_true rfl) (fun q101 H hP hD hS => ?_)
  have hP : va_P D nm_cl [(a0, .inl (cB, 16, .inl f0)), (q101, .inl (cB, 32, .inl (fun _ => 0)))] H := hP
  have hD : va_D A [(a0, .inl (cB, 16, .inl f0)), (q101, .inl (cB, 32, .inl (fun _ => 0)))] := hD
  refine lv_astore_n (lv' := [(2, .ref q101), (0, .ref a0), (1, .int 32)]) hx hb dJ7_copyOf_9075b_17 rfl hl (by decide) rfl (fun ls hl => ?_)
  refine lv_aload_n hx hb dJ7_copyOf_9075b_18 rfl (lv_at hl 1 rfl) ?_
  refine lv_iconst (v := 0) hx hb dJ7_copyOf_9075b_19 (by decide) ?_
  refine lv_aload_n hx hb dJ7_copyOf_9075b_20 rfl (lv_at hl 0 rfl) ?_
  refine lv_iconst (v := 0) hx hb dJ7_copyOf_9075b_21 (by decide) ?_
  refine lv_aload_n hx hb dJ7_copyOf_9075b_22 rfl (lv_at hl 1 rfl) ?_
  refine va_alen (v := 16) hx hb hM.1 hP 0 1 rfl rfl rfl dJ7_copyOf_9075b_23 ?_
  refine lv_iload_n hx hb dJ7_copyOf_9075b_24 rfl (lv_at hl 2 rfl) ?_
  refine va_mmin hx hb (hml.trans hl.1.symm) hown (hts _ q_458) (hts _ q_459) (hts _ q_15) (hts _ q_460) (Nat.le_of_ble_eq_true rfl) (Nat.le_of_ble_eq_true rfl) (Nat.le_of_ble_eq_true rfl) (Nat.le_of_ble_eq_true rfl) dJ7_copyOf_9075b_25 ?_
  refine lv_topi (fun z102 e9 => ?_)
  obtain rfl : z102 = (16 : Int32) := e9.trans (by decide)
  refine va_copyi hx hb (hml.trans hl.1.symm) hown (hts _ q_461) (hts _ q_463) (hts _ q_462) (hts _ q_16) hM.1 hP hD hS 0 1 1 1 rfl rfl rfl rfl rfl (by decide) (by decide) (by decide) (by decide) (by decide) (fun _ _ => hy_f0 _) (Nat.le_of_ble_eq_true rfl) (Nat.le_of_ble_eq_true rfl) dJ7_copyOf_9075b_28 (fun H locs hP hD hS => ?_)
  have hP : va_P D nm_cl [(a0, .inl (cB, 16, .inl f0)), (q101, .inl (cB, 32, .inl (va_cpy f0 (fun _ => 0) (Int32.toNatClampNeg 0) (Int32.toNatClampNeg 0) (Int32.toNatClampNeg 16))))] H := hP
  have hD : va_D A [(a0, .inl (cB, 16, .inl f0)), (q101, .inl (cB, 32, .inl (va_cpy f0 (fun _ => 0) (Int32.toNatClampNeg 0) (Int32.toNatClampNeg 0) (Int32.toNatClampNeg 16))))] := hD
  obtain ⟨f103, hf9⟩ : ∃ g : Nat → Int32, g = (va_cpy f0 (fun _ => 0) (Int32.toNatClampNeg 0) (Int32.toNatClampNeg 0) (Int32.toNatClampNeg 16)) := ⟨_, rfl⟩
  rw [← hf9] at hP hD
  have hy_f103 : ∀ j, fits .byte (.int (f103 j)) = true := by rw [hf9]; exact nm_cpb hy_f0 nm_by0
  refine lv_aload_n hx hb dJ7_copyOf_9075b_31 rfl (lv_at hl 0 rfl) ?_
  have hP9 := hP.sub (ws' := [(a0, .inl (cB, 16, .inl f0)), (q101, .inl (cB, 32, .inl f103))]) [0, 1] rfl
  have hD9 := hD.sub (ws' := [(a0, .inl (cB, 16, .inl f0)), (q101, .inl (cB, 32, .inl f103))]) [0, 1] (by decide) rfl
  exact W.aret (v := .ref q101) hx hb hr (by first | exact Or.inl ⟨_, rfl⟩ | exact Or.inr ⟨_, rfl⟩) (Or.inr ⟨_, rfl⟩) (fun t ht hW => ⟨⟨(q101, f103), q101, rfl, ⟨hy_f0, hy_f103⟩, rfl, by rw [ht]; exact hP9, hD9⟩, hS.F ht⟩) hS.2.2 dJ7_copyOf_9075b_32
set_option maxHeartbeats 4000000 in
set_option maxRecDepth 100000 in
theorem c_X0_add_17 (l : Launch) (D : va_G) (cI cB cJ cS : ClassId) (sz : Nat) (a0 : Nat) (a1 : Nat) (x0 : Int32) (f0 : Nat → Int32) (hy_f0 : ∀ j, fits .byte (.int (f0 j)) = true) : Met l yX0_add (.code yX0_add cX0_add 2 none :: nm_big) ({ frames := 2, cells := 1, slots := 32, locals := 102 }) (nm_P D cI cB cJ cS [.ref a0, .int x0] sz [(a0, .inr (0, [.ref a1, .int 16])), (a1, .inl (cB, 16, .inl f0))]) ((fun A : Nat → Prop => va_Qv (S := Nat × (Nat → Int32)) (fun (z : Nat × (Nat → Int32)) => match z with | (q102, f107) => (∀ j, fits .byte (.int (f0 j)) = true) ∧ (∀ j, fits .byte (.int (f107 j)) = true)) (nm_B D (fun (z : Nat × (Nat → Int32)) => match z with | (q102, f107) => [(a0, .inr (0, [.ref q102, .int 17])), (a1, .inl (cB, 16, .inl f0)), (q102, .inl (cB, 32, .inl f107))]) A) A) (va_A [(a0, .inr (0, [.ref a1, .int 16])), (a1, .inl (cB, 16, .inl f0))] sz)) 1 32 (va_A [(a0, .inr (0, [.ref a1, .int 16])), (a1, .inl (cB, 16, .inl f0))] sz) := by
  refine nm_Met (Qc := fun A => va_Qv (S := Nat × (Nat → Int32)) (fun (z : Nat × (Nat → Int32)) => match z with | (q102, f107) => (∀ j, fits .byte (.int (f0 j)) = true) ∧ (∀ j, fits .byte (.int (f107 j)) = true)) (nm_B D (fun (z : Nat × (Nat → Int32)) => match z with | (q102, f107) => [(a0, .inr (0, [.ref q102, .int 17])), (a1, .inl (cB, 16, .inl f0)), (q102, .inl (cB, 32, .inl f107))]) A) A) ?_ ?_ ?_
  · decide +kernel
  · exact Nat.le_of_ble_eq_true rfl
  intro p e s m below meth c A ls hx hb hr hml hts hown hlocks hin hM hP hD hS hA hl
  have hl : lv_has ls 2 [(0, .ref a0), (1, .int x0)] := hl
  have hown : s.vm.findClass RX0 = some m.cls := hown
  refine lv_aload_n hx hb dX0_add_0 rfl (lv_at hl 0 rfl) ?_
  refine va_get (D := D) (ci := 0) (v := .int 16) (C := RX0) (T := TX0) (N := 2) hx hb hts iw_X0 hown hM.1 hP 0 rfl rfl 1 (by decide) (hts _ q_43) (fun _ h9 => h9) rfl dX0_add_1 ?_
  refine lv_aload_n hx hb dX0_add_4 rfl (lv_at hl 0 rfl) ?_
  refine va_get (D := D) (ci := 0) (v := .ref a1) (C := RX0) (T := TX0) (N := 2) hx hb hts iw_X0 hown hM.1 hP 0 rfl rfl 0 (by decide) (hts _ q_42) (fun _ h9 => h9) rfl dX0_add_5 ?_
  refine va_alen (v := 16) hx hb hM.1 hP 1 1 rfl rfl rfl dX0_add_8 ?_
  refine lv_icmp_lt (tgt := 29) hx hb dX0_add_9 (by decide) (fun c9 => absurd c9 (by decide)) (fun _ => ?_)
  refine lv_aload_n hx hb dX0_add_12 rfl (lv_at hl 0 rfl) ?_
  refine lv_aload_n hx hb dX0_add_13 rfl (lv_at hl 0 rfl) ?_
  refine va_get (D := D) (ci := 0) (v := .ref a1) (C := RX0) (T := TX0) (N := 2) hx hb hts iw_X0 hown hM.1 hP 0 rfl rfl 0 (by decide) (hts _ q_42) (fun _ h9 => h9) rfl dX0_add_14 ?_
  refine lv_iconst (v := 2) hx hb dX0_add_17 (by decide) ?_
  refine lv_aload_n hx hb dX0_add_18 rfl (lv_at hl 0 rfl) ?_
  refine va_get (D := D) (ci := 0) (v := .int 16) (C := RX0) (T := TX0) (N := 2) hx hb hts iw_X0 hown hM.1 hP 0 rfl rfl 1 (by decide) (hts _ q_43) (fun _ h9 => h9) rfl dX0_add_19 ?_
  refine lv_imul hx hb dX0_add_22 ?_
  refine lv_topi (fun z101 e9 => ?_)
  obtain rfl : z101 = (32 : Int32) := e9.trans (by decide)
  refine nm_callr (Z := Nat × (Nat → Int32)) (wr := [(a0, .inr (0, [.ref a1, .int 16]))]) (k := 1) (n := 32) (va_runS (As := [.ref a1, .int 32]) (rest := [.ref a0]) ⟨hx, hb, hml, hown, hts⟩ (c_J7_copyOf_9075b_1 l D cI cB cJ cS s.heap.size a1 f0 hy_f0) (va_cwS 2 hts (nm_gS q_448 q_449 q_14 q_450) rfl rfl rfl (by decide +kernel) ⟨(Nat.le_of_ble_eq_true rfl), (Nat.le_of_ble_eq_true rfl)⟩) (nm_preS (hP.sub [1] rfl) (hD.sub [1] (by decide) rfl) hM) rfl rfl hl.1 rfl (lv_room (Nat.le_of_ble_eq_true rfl)) dX0_add_23 ⟨(Nat.le_of_ble_eq_true rfl), (Nat.le_of_ble_eq_true rfl)⟩) hP hD hS hA [1] [0] rfl rfl (by decide) (by decide) (Nat.le_of_ble_eq_true rfl) (Nat.le_of_ble_eq_true rfl) (fun u H locs hw hP hD hS => ?_)
  obtain ⟨q102, f103⟩ := u
  obtain ⟨h104, h105⟩ := hw
  have hP : va_P D nm_cl [(a0, .inr (0, [.ref a1, .int 16])), (a1, .inl (cB, 16, .inl f0)), (q102, .inl (cB, 32, .inl f103))] H := hP
  have hD : va_D A [(a0, .inr (0, [.ref a1, .int 16])), (a1, .inl (cB, 16, .inl f0)), (q102, .inl (cB, 32, .inl f103))] := hD
  refine va_put (D := D) (ci := 0) (v := .ref q102) (ty := .array .byte) (C := RX0) (T := TX0) (N := 2) hx hb hts iw_X0 tyX0 tyX0_ok nmX0 hown hM.1 hP hD hS 0 rfl rfl 0 (by decide) (hts _ q_42) (fun _ h9 => h9) rfl (by decide +kernel) rfl rfl (Nat.le_of_ble_eq_true rfl) dX0_add_26 (fun H locs hP hD hS => ?_)
  have hP : va_P D nm_cl [(a0, .inr (0, [.ref q102, .int 16])), (a1, .inl (cB, 16, .inl f0)), (q102, .inl (cB, 32, .inl f103))] H := hP
  have hD : va_D A [(a0, .inr (0, [.ref q102, .int 16])), (a1, .inl (cB, 16, .inl f0)), (q102, .inl (cB, 32, .inl f103))] := hD
  refine lv_aload_n hx hb dX0_add_29 rfl (lv_at hl 0 rfl) ?_
  refine va_get (D := D) (ci := 0) (v := .ref q102) (C := RX0) (T := TX0) (N := 2) hx hb hts iw_X0 hown hM.1 hP 0 rfl rfl 0 (by decide) (hts _ q_42) (fun _ h9 => h9) rfl dX0_add_30 ?_
  refine lv_aload_n hx hb dX0_add_33 rfl (lv_at hl 0 rfl) ?_
  refine va_get (D := D) (ci := 0) (v := .int 16) (C := RX0) (T := TX0) (N := 2) hx hb hts iw_X0 hown hM.1 hP 0 rfl rfl 1 (by decide) (hts _ q_43) (fun _ h9 => h9) rfl dX0_add_34 ?_
  refine lv_iload_n hx hb dX0_add_37 rfl (lv_at hl 1 rfl) ?_
  obtain ⟨z106, e9⟩ : ∃ y : Int32, Int8.toInt32 (Int32.toInt8 x0) = y := ⟨_, rfl⟩
  refine lv_i2b hx hb dX0_add_38 e9 ?_
  refine va_bast hx hb hM.1 hP hD hS 2 1 rfl rfl (nm_vin (by decide)) dX0_add_39 (fun H locs hP hD hS => ?_)
  have hP : va_P D nm_cl [(a0, .inr (0, [.ref q102, .int 16])), (a1, .inl (cB, 16, .inl f0)), (q102, .inl (cB, 32, .inl (upd f103 (Int32.toNatClampNeg 16) (vp_nar .byte z106))))] H := hP
  have hD : va_D A [(a0, .inr (0, [.ref q102, .int 16])), (a1, .inl (cB, 16, .inl f0)), (q102, .inl (cB, 32, .inl (upd f103 (Int32.toNatClampNeg 16) (vp_nar .byte z106))))] := hD
  obtain ⟨f107, hf9⟩ : ∃ g : Nat → Int32, g = (upd f103 (Int32.toNatClampNeg 16) (vp_nar .byte z106)) := ⟨_, rfl⟩
  rw [← hf9] at hP hD
  have hy_f107 : ∀ j, fits .byte (.int (f107 j)) = true := by rw [hf9]; exact nm_by h105
  refine lv_aload_n hx hb dX0_add_40 rfl (lv_at hl 0 rfl) ?_
  refine lv_dup hx hb dX0_add_41 rfl ?_
  refine va_get (D := D) (ci := 0) (v := .int 16) (C := RX0) (T := TX0) (N := 2) hx hb hts iw_X0 hown hM.1 hP 0 rfl rfl 1 (by decide) (hts _ q_43) (fun _ h9 => h9) rfl dX0_add_42 ?_
  refine lv_iconst (v := 1) hx hb dX0_add_45 (by decide) ?_
  refine lv_iadd hx hb dX0_add_46 ?_
  refine lv_topi (fun z108 e9 => ?_)
  obtain rfl : z108 = (17 : Int32) := e9.trans (by decide)
  refine va_put (D := D) (ci := 0) (v := .int 17) (ty := .int) (C := RX0) (T := TX0) (N := 2) hx hb hts iw_X0 tyX0 tyX0_ok nmX0 hown hM.1 hP hD hS 0 rfl rfl 1 (by decide) (hts _ q_43) (fun _ h9 => h9) rfl (by decide +kernel) rfl rfl (Nat.le_of_ble_eq_true rfl) dX0_add_47 (fun H locs hP hD hS => ?_)
  have hP : va_P D nm_cl [(a0, .inr (0, [.ref q102, .int 17])), (a1, .inl (cB, 16, .inl f0)), (q102, .inl (cB, 32, .inl f107))] H := hP
  have hD : va_D A [(a0, .inr (0, [.ref q102, .int 17])), (a1, .inl (cB, 16, .inl f0)), (q102, .inl (cB, 32, .inl f107))] := hD
  have hP9 := hP.sub (ws' := [(a0, .inr (0, [.ref q102, .int 17])), (a1, .inl (cB, 16, .inl f0)), (q102, .inl (cB, 32, .inl f107))]) [0, 1, 2] rfl
  have hD9 := hD.sub (ws' := [(a0, .inr (0, [.ref q102, .int 17])), (a1, .inl (cB, 16, .inl f0)), (q102, .inl (cB, 32, .inl f107))]) [0, 1, 2] (by decide) rfl
  exact W.vret hx hb hr (fun t ht hW => ⟨⟨(q102, f107), rfl, ⟨h104, hy_f107⟩, by rw [ht]; exact hP9, hD9⟩, hS.F ht⟩) hS.2.2 dX0_add_50
set_option maxHeartbeats 4000000 in
set_option maxRecDepth 100000 in
theorem c_X0_add_18 (l : Launch) (D : va_G) (cI cB cJ cS : ClassId) (sz : Nat) (a0 : Nat) (a1 : Nat) (x0 : Int32) (f0 : Nat → Int32) (hy_f0 : ∀ j, fits .byte (.int (f0 j)) = true) : Met l yX0_add (.code yX0_add cX0_add 2 none :: nm_big) ({ frames := 0, cells := 0, slots := 0, locals := 0 }) (nm_P D cI cB cJ cS [.ref a0, .int x0] sz [(a0, .inr (0, [.ref a1, .int 17])), (a1, .inl (cB, 32, .inl f0))]) ((fun A : Nat → Prop => va_Qv (S := (Nat → Int32)) (fun (f102 : (Nat → Int32)) => (∀ j, fits .byte (.int (f102 j)) = true)) (nm_B D (fun (f102 : (Nat → Int32)) => [(a0, .inr (0, [.ref a1, .int 18])), (a1, .inl (cB, 32, .inl f102))]) A) A) (va_A [(a0, .inr (0, [.ref a1, .int 17])), (a1, .inl (cB, 32, .inl f0))] sz)) 0 0 (va_A [(a0, .inr (0, [.ref a1, .int 17])), (a1, .inl (cB, 32, .inl f0))] sz) := by
  refine nm_Met (Qc := fun A => va_Qv (S := (Nat → Int32)) (fun (f102 : (Nat → Int32)) => (∀ j, fits .byte (.int (f102 j)) = true)) (nm_B D (fun (f102 : (Nat → Int32)) => [(a0, .inr (0, [.ref a1, .int 18])), (a1, .inl (cB, 32, .inl f102))]) A) A) ?_ ?_ ?_
  · decide +kernel
  · exact Nat.le_of_ble_eq_true rfl
  intro p e s m below meth c A ls hx hb hr hml hts hown hlocks hin hM hP hD hS hA hl
  have hl : lv_has ls 2 [(0, .ref a0), (1, .int x0)] := hl
  have hown : s.vm.findClass RX0 = some m.cls := hown
  refine lv_aload_n hx hb dX0_add_0 rfl (lv_at hl 0 rfl) ?_
  refine va_get (D := D) (ci := 0) (v := .int 17) (C := RX0) (T := TX0) (N := 2) hx hb hts iw_X0 hown hM.1 hP 0 rfl rfl 1 (by decide) (hts _ q_43) (fun _ h9 => h9) rfl dX0_add_1 ?_
  refine lv_aload_n hx hb dX0_add_4 rfl (lv_at hl 0 rfl) ?_
  refine va_get (D := D) (ci := 0) (v := .ref a1) (C := RX0) (T := TX0) (N := 2) hx hb hts iw_X0 hown hM.1 hP 0 rfl rfl 0 (by decide) (hts _ q_42) (fun _ h9 => h9) rfl dX0_add_5 ?_
  refine va_alen (v := 32) hx hb hM.1 hP 1 1 rfl rfl rfl dX0_add_8 ?_
  refine lv_icmp_lt (tgt := 29) hx hb dX0_add_9 (by decide) (fun _ => ?_) (fun c9 => absurd (by decide) c9)
  refine lv_aload_n hx hb dX0_add_29 rfl (lv_at hl 0 rfl) ?_
  refine va_get (D := D) (ci := 0) (v := .ref a1) (C := RX0) (T := TX0) (N := 2) hx hb hts iw_X0 hown hM.1 hP 0 rfl rfl 0 (by decide) (hts _ q_42) (fun _ h9 => h9) rfl dX0_add_30 ?_
  refine lv_aload_n hx hb dX0_add_33 rfl (lv_at hl 0 rfl) ?_
  refine va_get (D := D) (ci := 0) (v := .int 17) (C := RX0) (T := TX0) (N := 2) hx hb hts iw_X0 hown hM.1 hP 0 rfl rfl 1 (by decide) (hts _ q_43) (fun _ h9 => h9) rfl dX0_add_34 ?_
  refine lv_iload_n hx hb dX0_add_37 rfl (lv_at hl 1 rfl) ?_
  obtain ⟨z101, e9⟩ : ∃ y : Int32, Int8.toInt32 (Int32.toInt8 x0) = y := ⟨_, rfl⟩
  refine lv_i2b hx hb dX0_add_38 e9 ?_
  refine va_bast hx hb hM.1 hP hD hS 1 1 rfl rfl (nm_vin (by decide)) dX0_add_39 (fun H locs hP hD hS => ?_)
  have hP : va_P D nm_cl [(a0, .inr (0, [.ref a1, .int 17])), (a1, .inl (cB, 32, .inl (upd f0 (Int32.toNatClampNeg 17) (vp_nar .byte z101))))] H := hP
  have hD : va_D A [(a0, .inr (0, [.ref a1, .int 17])), (a1, .inl (cB, 32, .inl (upd f0 (Int32.toNatClampNeg 17) (vp_nar .byte z101))))] := hD
  obtain ⟨f102, hf9⟩ : ∃ g : Nat → Int32, g = (upd f0 (Int32.toNatClampNeg 17) (vp_nar .byte z101)) := ⟨_, rfl⟩
  rw [← hf9] at hP hD
  have hy_f102 : ∀ j, fits .byte (.int (f102 j)) = true := by rw [hf9]; exact nm_by hy_f0
  refine lv_aload_n hx hb dX0_add_40 rfl (lv_at hl 0 rfl) ?_
  refine lv_dup hx hb dX0_add_41 rfl ?_
  refine va_get (D := D) (ci := 0) (v := .int 17) (C := RX0) (T := TX0) (N := 2) hx hb hts iw_X0 hown hM.1 hP 0 rfl rfl 1 (by decide) (hts _ q_43) (fun _ h9 => h9) rfl dX0_add_42 ?_
  refine lv_iconst (v := 1) hx hb dX0_add_45 (by decide) ?_
  refine lv_iadd hx hb dX0_add_46 ?_
  refine lv_topi (fun z103 e9 => ?_)
  obtain rfl : z103 = (18 : Int32) := e9.trans (by decide)
  refine va_put (D := D) (ci := 0) (v := .int 18) (ty := .int) (C := RX0) (T := TX0) (N := 2) hx hb hts iw_X0 tyX0 tyX0_ok nmX0 hown hM.1 hP hD hS 0 rfl rfl 1 (by decide) (hts _ q_43) (fun _ h9 => h9) rfl (by decide +kernel) rfl rfl (Nat.le_of_ble_eq_true rfl) dX0_add_47 (fun H locs hP hD hS => ?_)
  have hP : va_P D nm_cl [(a0, .inr (0, [.ref a1, .int 18])), (a1, .inl (cB, 32, .inl f102))] H := hP
  have hD : va_D A [(a0, .inr (0, [.ref a1, .int 18])), (a1, .inl (cB, 32, .inl f102))] := hD
  have hP9 := hP.sub (ws' := [(a0, .inr (0, [.ref a1, .int 18])), (a1, .inl (cB, 32, .inl f102))]) [0, 1] rfl
  have hD9 := hD.sub (ws' := [(a0, .inr (0, [.ref a1, .int 18])), (a1, .inl (cB, 32, .inl f102))]) [0, 1] (by decide) rfl
  exact W.vret hx hb hr (fun t ht hW => ⟨⟨f102, rfl, hy_f102, by rw [ht]; exact hP9, hD9⟩, hS.F ht⟩) hS.2.2 dX0_add_50
set_option maxHeartbeats 4000000 in
set_option maxRecDepth 100000 in
theorem c_X0_add_19 (l : Launch) (D : va_G) (cI cB cJ cS : ClassId) (sz : Nat) (a0 : Nat) (a1 : Nat) (x0 : Int32) (f0 : Nat → Int32) (hy_f0 : ∀ j, fits .byte (.int (f0 j)) = true) : Met l yX0_add (.code yX0_add cX0_add 2 none :: nm_big) ({ frames := 0, cells := 0, slots := 0, locals := 0 }) (nm_P D cI cB cJ cS [.ref a0, .int x0] sz [(a0, .inr (0, [.ref a1, .int 18])), (a1, .inl (cB, 32, .inl f0))]) ((fun A : Nat → Prop => va_Qv (S := (Nat → Int32)) (fun (f102 : (Nat → Int32)) => (∀ j, fits .byte (.int (f102 j)) = true)) (nm_B D (fun (f102 : (Nat → Int32)) => [(a0, .inr (0, [.ref a1, .int 19])), (a1, .inl (cB, 32, .inl f102))]) A) A) (va_A [(a0, .inr (0, [.ref a1, .int 18])), (a1, .inl (cB, 32, .inl f0))] sz)) 0 0 (va_A [(a0, .inr (0, [.ref a1, .int 18])), (a1, .inl (cB, 32, .inl f0))] sz) := by
  refine nm_Met (Qc := fun A => va_Qv (S := (Nat → Int32)) (fun (f102 : (Nat → Int32)) => (∀ j, fits .byte (.int (f102 j)) = true)) (nm_B D (fun (f102 : (Nat → Int32)) => [(a0, .inr (0, [.ref a1, .int 19])), (a1, .inl (cB, 32, .inl f102))]) A) A) ?_ ?_ ?_
  · decide +kernel
  · exact Nat.le_of_ble_eq_true rfl
  intro p e s m below meth c A ls hx hb hr hml hts hown hlocks hin hM hP hD hS hA hl
  have hl : lv_has ls 2 [(0, .ref a0), (1, .int x0)] := hl
  have hown : s.vm.findClass RX0 = some m.cls := hown
  refine lv_aload_n hx hb dX0_add_0 rfl (lv_at hl 0 rfl) ?_
  refine va_get (D := D) (ci := 0) (v := .int 18) (C := RX0) (T := TX0) (N := 2) hx hb hts iw_X0 hown hM.1 hP 0 rfl rfl 1 (by decide) (hts _ q_43) (fun _ h9 => h9) rfl dX0_add_1 ?_
  refine lv_aload_n hx hb dX0_add_4 rfl (lv_at hl 0 rfl) ?_
  refine va_get (D := D) (ci := 0) (v := .ref a1) (C := RX0) (T := TX0) (N := 2) hx hb hts iw_X0 hown hM.1 hP 0 rfl rfl 0 (by decide) (hts _ q_42) (fun _ h9 => h9) rfl dX0_add_5 ?_
  refine va_alen (v := 32) hx hb hM.1 hP 1 1 rfl rfl rfl dX0_add_8 ?_
  refine lv_icmp_lt (tgt := 29) hx hb dX0_add_9 (by decide) (fun _ => ?_) (fun c9 => absurd (by decide) c9)
  refine lv_aload_n hx hb dX0_add_29 rfl (lv_at hl 0 rfl) ?_
  refine va_get (D := D) (ci := 0) (v := .ref a1) (C := RX0) (T := TX0) (N := 2) hx hb hts iw_X0 hown hM.1 hP 0 rfl rfl 0 (by decide) (hts _ q_42) (fun _ h9 => h9) rfl dX0_add_30 ?_
  refine lv_aload_n hx hb dX0_add_33 rfl (lv_at hl 0 rfl) ?_
  refine va_get (D := D) (ci := 0) (v := .int 18) (C := RX0) (T := TX0) (N := 2) hx hb hts iw_X0 hown hM.1 hP 0 rfl rfl 1 (by decide) (hts _ q_43) (fun _ h9 => h9) rfl dX0_add_34 ?_
  refine lv_iload_n hx hb dX0_add_37 rfl (lv_at hl 1 rfl) ?_
  obtain ⟨z101, e9⟩ : ∃ y : Int32, Int8.toInt32 (Int32.toInt8 x0) = y := ⟨_, rfl⟩
  refine lv_i2b hx hb dX0_add_38 e9 ?_
  refine va_bast hx hb hM.1 hP hD hS 1 1 rfl rfl (nm_vin (by decide)) dX0_add_39 (fun H locs hP hD hS => ?_)
  have hP : va_P D nm_cl [(a0, .inr (0, [.ref a1, .int 18])), (a1, .inl (cB, 32, .inl (upd f0 (Int32.toNatClampNeg 18) (vp_nar .byte z101))))] H := hP
  have hD : va_D A [(a0, .inr (0, [.ref a1, .int 18])), (a1, .inl (cB, 32, .inl (upd f0 (Int32.toNatClampNeg 18) (vp_nar .byte z101))))] := hD
  obtain ⟨f102, hf9⟩ : ∃ g : Nat → Int32, g = (upd f0 (Int32.toNatClampNeg 18) (vp_nar .byte z101)) := ⟨_, rfl⟩
  rw [← hf9] at hP hD
  have hy_f102 : ∀ j, fits .byte (.int (f102 j)) = true := by rw [hf9]; exact nm_by hy_f0
  refine lv_aload_n hx hb dX0_add_40 rfl (lv_at hl 0 rfl) ?_
  refine lv_dup hx hb dX0_add_41 rfl ?_
  refine va_get (D := D) (ci := 0) (v := .int 18) (C := RX0) (T := TX0) (N := 2) hx hb hts iw_X0 hown hM.1 hP 0 rfl rfl 1 (by decide) (hts _ q_43) (fun _ h9 => h9) rfl dX0_add_42 ?_
  refine lv_iconst (v := 1) hx hb dX0_add_45 (by decide) ?_
  refine lv_iadd hx hb dX0_add_46 ?_
  refine lv_topi (fun z103 e9 => ?_)
  obtain rfl : z103 = (19 : Int32) := e9.trans (by decide)
  refine va_put (D := D) (ci := 0) (v := .int 19) (ty := .int) (C := RX0) (T := TX0) (N := 2) hx hb hts iw_X0 tyX0 tyX0_ok nmX0 hown hM.1 hP hD hS 0 rfl rfl 1 (by decide) (hts _ q_43) (fun _ h9 => h9) rfl (by decide +kernel) rfl rfl (Nat.le_of_ble_eq_true rfl) dX0_add_47 (fun H locs hP hD hS => ?_)
  have hP : va_P D nm_cl [(a0, .inr (0, [.ref a1, .int 19])), (a1, .inl (cB, 32, .inl f102))] H := hP
  have hD : va_D A [(a0, .inr (0, [.ref a1, .int 19])), (a1, .inl (cB, 32, .inl f102))] := hD
  have hP9 := hP.sub (ws' := [(a0, .inr (0, [.ref a1, .int 19])), (a1, .inl (cB, 32, .inl f102))]) [0, 1] rfl
  have hD9 := hD.sub (ws' := [(a0, .inr (0, [.ref a1, .int 19])), (a1, .inl (cB, 32, .inl f102))]) [0, 1] (by decide) rfl
  exact W.vret hx hb hr (fun t ht hW => ⟨⟨f102, rfl, hy_f102, by rw [ht]; exact hP9, hD9⟩, hS.F ht⟩) hS.2.2 dX0_add_50
set_option maxHeartbeats 4000000 in
set_option maxRecDepth 100000 in
theorem c_X0_add_20 (l : Launch) (D : va_G) (cI cB cJ cS : ClassId) (sz : Nat) (a0 : Nat) (a1 : Nat) (x0 : Int32) (f0 : Nat → Int32) (hy_f0 : ∀ j, fits .byte (.int (f0 j)) = true) : Met l yX0_add (.code yX0_add cX0_add 2 none :: nm_big) ({ frames := 0, cells := 0, slots := 0, locals := 0 }) (nm_P D cI cB cJ cS [.ref a0, .int x0] sz [(a0, .inr (0, [.ref a1, .int 19])), (a1, .inl (cB, 32, .inl f0))]) ((fun A : Nat → Prop => va_Qv (S := (Nat → Int32)) (fun (f102 : (Nat → Int32)) => (∀ j, fits .byte (.int (f102 j)) = true)) (nm_B D (fun (f102 : (Nat → Int32)) => [(a0, .inr (0, [.ref a1, .int 20])), (a1, .inl (cB, 32, .inl f102))]) A) A) (va_A [(a0, .inr (0, [.ref a1, .int 19])), (a1, .inl (cB, 32, .inl f0))] sz)) 0 0 (va_A [(a0, .inr (0, [.ref a1, .int 19])), (a1, .inl (cB, 32, .inl f0))] sz) := by
  refine nm_Met (Qc := fun A => va_Qv (S := (Nat → Int32)) (fun (f102 : (Nat → Int32)) => (∀ j, fits .byte (.int (f102 j)) = true)) (nm_B D (fun (f102 : (Nat → Int32)) => [(a0, .inr (0, [.ref a1, .int 20])), (a1, .inl (cB, 32, .inl f102))]) A) A) ?_ ?_ ?_
  · decide +kernel
  · exact Nat.le_of_ble_eq_true rfl
  intro p e s m below meth c A ls hx hb hr hml hts hown hlocks hin hM hP hD hS hA hl
  have hl : lv_has ls 2 [(0, .ref a0), (1, .int x0)] := hl
  have hown : s.vm.findClass RX0 = some m.cls := hown
  refine lv_aload_n hx hb dX0_add_0 rfl (lv_at hl 0 rfl) ?_
  refine va_get (D := D) (ci := 0) (v := .int 19) (C := RX0) (T := TX0) (N := 2) hx hb hts iw_X0 hown hM.1 hP 0 rfl rfl 1 (by decide) (hts _ q_43) (fun _ h9 => h9) rfl dX0_add_1 ?_
  refine lv_aload_n hx hb dX0_add_4 rfl (lv_at hl 0 rfl) ?_
  refine va_get (D := D) (ci := 0) (v := .ref a1) (C := RX0) (T := TX0) (N := 2) hx hb hts iw_X0 hown hM.1 hP 0 rfl rfl 0 (by decide) (hts _ q_42) (fun _ h9 => h9) rfl dX0_add_5 ?_
  refine va_alen (v := 32) hx hb hM.1 hP 1 1 rfl rfl rfl dX0_add_8 ?_
  refine lv_icmp_lt (tgt := 29) hx hb dX0_add_9 (by decide) (fun _ => ?_) (fun c9 => absurd (by decide) c9)
  refine lv_aload_n hx hb dX0_add_29 rfl (lv_at hl 0 rfl) ?_
  refine va_get (D := D) (ci := 0) (v := .ref a1) (C := RX0) (T := TX0) (N := 2) hx hb hts iw_X0 hown hM.1 hP 0 rfl rfl 0 (by decide) (hts _ q_42) (fun _ h9 => h9) rfl dX0_add_30 ?_
  refine lv_aload_n hx hb dX0_add_33 rfl (lv_at hl 0 rfl) ?_
  refine va_get (D := D) (ci := 0) (v := .int 19) (C := RX0) (T := TX0) (N := 2) hx hb hts iw_X0 hown hM.1 hP 0 rfl rfl 1 (by decide) (hts _ q_43) (fun _ h9 => h9) rfl dX0_add_34 ?_
  refine lv_iload_n hx hb dX0_add_37 rfl (lv_at hl 1 rfl) ?_
  obtain ⟨z101, e9⟩ : ∃ y : Int32, Int8.toInt32 (Int32.toInt8 x0) = y := ⟨_, rfl⟩
  refine lv_i2b hx hb dX0_add_38 e9 ?_
  refine va_bast hx hb hM.1 hP hD hS 1 1 rfl rfl (nm_vin (by decide)) dX0_add_39 (fun H locs hP hD hS => ?_)
  have hP : va_P D nm_cl [(a0, .inr (0, [.ref a1, .int 19])), (a1, .inl (cB, 32, .inl (upd f0 (Int32.toNatClampNeg 19) (vp_nar .byte z101))))] H := hP
  have hD : va_D A [(a0, .inr (0, [.ref a1, .int 19])), (a1, .inl (cB, 32, .inl (upd f0 (Int32.toNatClampNeg 19) (vp_nar .byte z101))))] := hD
  obtain ⟨f102, hf9⟩ : ∃ g : Nat → Int32, g = (upd f0 (Int32.toNatClampNeg 19) (vp_nar .byte z101)) := ⟨_, rfl⟩
  rw [← hf9] at hP hD
  have hy_f102 : ∀ j, fits .byte (.int (f102 j)) = true := by rw [hf9]; exact nm_by hy_f0
  refine lv_aload_n hx hb dX0_add_40 rfl (lv_at hl 0 rfl) ?_
  refine lv_dup hx hb dX0_add_41 rfl ?_
  refine va_get (D := D) (ci := 0) (v := .int 19) (C := RX0) (T := TX0) (N := 2) hx hb hts iw_X0 hown hM.1 hP 0 rfl rfl 1 (by decide) (hts _ q_43) (fun _ h9 => h9) rfl dX0_add_42 ?_
  refine lv_iconst (v := 1) hx hb dX0_add_45 (by decide) ?_
  refine lv_iadd hx hb dX0_add_46 ?_
  refine lv_topi (fun z103 e9 => ?_)
  obtain rfl : z103 = (20 : Int32) := e9.trans (by decide)
  refine va_put (D := D) (ci := 0) (v := .int 20) (ty := .int) (C := RX0) (T := TX0) (N := 2) hx hb hts iw_X0 tyX0 tyX0_ok nmX0 hown hM.1 hP hD hS 0 rfl rfl 1 (by decide) (hts _ q_43) (fun _ h9 => h9) rfl (by decide +kernel) rfl rfl (Nat.le_of_ble_eq_true rfl) dX0_add_47 (fun H locs hP hD hS => ?_)
  have hP : va_P D nm_cl [(a0, .inr (0, [.ref a1, .int 20])), (a1, .inl (cB, 32, .inl f102))] H := hP
  have hD : va_D A [(a0, .inr (0, [.ref a1, .int 20])), (a1, .inl (cB, 32, .inl f102))] := hD
  have hP9 := hP.sub (ws' := [(a0, .inr (0, [.ref a1, .int 20])), (a1, .inl (cB, 32, .inl f102))]) [0, 1] rfl
  have hD9 := hD.sub (ws' := [(a0, .inr (0, [.ref a1, .int 20])), (a1, .inl (cB, 32, .inl f102))]) [0, 1] (by decide) rfl
  exact W.vret hx hb hr (fun t ht hW => ⟨⟨f102, rfl, hy_f102, by rw [ht]; exact hP9, hD9⟩, hS.F ht⟩) hS.2.2 dX0_add_50
set_option maxHeartbeats 4000000 in
set_option maxRecDepth 100000 in
theorem c_X0_addFour_5 (l : Launch) (D : va_G) (cI cB cJ cS : ClassId) (sz : Nat) (a0 : Nat) (a1 : Nat) (x0 : Int32) (f0 : Nat → Int32) (hy_f0 : ∀ j, fits .byte (.int (f0 j)) = true) : Met l yX0_addFour (.code yX0_addFour cX0_addFour 2 none :: nm_big) ({ frames := 3, cells := 1, slots := 32, locals := 123 }) (nm_P D cI cB cJ cS [.ref a0, .int x0] sz [(a0, .inr (0, [.ref a1, .int 16])), (a1, .inl (cB, 16, .inl f0))]) ((fun A : Nat → Prop => va_Qv (S := Nat × (Nat → Int32)) (fun (z : Nat × (Nat → Int32)) => match z with | (q102, f112) => (∀ j, fits .byte (.int (f0 j)) = true) ∧ (∀ j, fits .byte (.int (f112 j)) = true)) (nm_B D (fun (z : Nat × (Nat → Int32)) => match z with | (q102, f112) => [(a1, .inl (cB, 16, .inl f0)), (a0, .inr (0, [.ref q102, .int 20])), (q102, .inl (cB, 32, .inl f112))]) A) A) (va_A [(a0, .inr (0, [.ref a1, .int 16])), (a1, .inl (cB, 16, .inl f0))] sz)) 1 32 (va_A [(a0, .inr (0, [.ref a1, .int 16])), (a1, .inl (cB, 16, .inl f0))] sz) := by
  refine nm_Met (Qc := fun A => va_Qv (S := Nat × (Nat → Int32)) (fun (z : Nat × (Nat → Int32)) => match z with | (q102, f112) => (∀ j, fits .byte (.int (f0 j)) = true) ∧ (∀ j, fits .byte (.int (f112 j)) = true)) (nm_B D (fun (z : Nat × (Nat → Int32)) => match z with | (q102, f112) => [(a1, .inl (cB, 16, .inl f0)), (a0, .inr (0, [.ref q102, .int 20])), (q102, .inl (cB, 32, .inl f112))]) A) A) ?_ ?_ ?_
  · decide +kernel
  · exact Nat.le_of_ble_eq_true rfl
  intro p e s m below meth c A ls hx hb hr hml hts hown hlocks hin hM hP hD hS hA hl
  have hl : lv_has ls 2 [(0, .ref a0), (1, .int x0)] := hl
  have hown : s.vm.findClass RX0 = some m.cls := hown
  refine lv_aload_n hx hb dX0_addFour_0 rfl (lv_at hl 0 rfl) ?_
  refine lv_iload_n hx hb dX0_addFour_1 rfl (lv_at hl 1 rfl) ?_
  refine lv_bipush (v := 24) hx hb dX0_addFour_2 (by decide) ?_
  obtain ⟨z101, e9⟩ : ∃ y : Int32, _ = y := ⟨_, rfl⟩
  refine lv_iushr hx hb dX0_addFour_4 e9 ?_
  refine nm_callv (Z := Nat × (Nat → Int32)) (wr := []) (k := 1) (n := 32) (va_runV (As := [.int z101]) (rest := []) ⟨hx, hb, hml, hown, hts⟩ (c_X0_add_17 l D cI cB cJ cS s.heap.size a0 a1 z101 f0 hy_f0) (cwV 1 hts (nm_gV q_444 q_445 q_446 q_2 q_447) rfl rfl rfl (by decide +kernel) ⟨(Nat.le_of_ble_eq_true rfl), (Nat.le_of_ble_eq_true rfl)⟩) (nm_preV (q := (RX0, TX0, 2)) (hP.sub [0, 1] rfl) (hD.sub [0, 1] (by decide) rfl) hM 0 rfl rfl) rfl rfl hl.1 rfl (lv_room (Nat.le_of_ble_eq_true rfl)) dX0_addFour_5 ⟨(Nat.le_of_ble_eq_true rfl), (Nat.le_of_ble_eq_true rfl)⟩) hP hD hS hA [0, 1] [] rfl rfl (by decide) (by decide) (Nat.le_of_ble_eq_true rfl) (Nat.le_of_ble_eq_true rfl) (fun u H locs hw hP hD hS => ?_)
  obtain ⟨q102, f103⟩ := u
  obtain ⟨h104, h105⟩ := hw
  have hP : va_P D nm_cl [(a0, .inr (0, [.ref q102, .int 17])), (a1, .inl (cB, 16, .inl f0)), (q102, .inl (cB, 32, .inl f103))] H := hP
  have hD : va_D A [(a0, .inr (0, [.ref q102, .int 17])), (a1, .inl (cB, 16, .inl f0)), (q102, .inl (cB, 32, .inl f103))] := hD
  refine lv_aload_n hx hb dX0_addFour_8 rfl (lv_at hl 0 rfl) ?_
  refine lv_iload_n hx hb dX0_addFour_9 rfl (lv_at hl 1 rfl) ?_
  refine lv_bipush (v := 16) hx hb dX0_addFour_10 (by decide) ?_
  obtain ⟨z106, e9⟩ : ∃ y : Int32, _ = y := ⟨_, rfl⟩
  refine lv_iushr hx hb dX0_addFour_12 e9 ?_
  refine nm_callv (Z := (Nat → Int32)) (wr := [(a1, .inl (cB, 16, .inl f0))]) (k := 1) (n := 32) (va_runV (As := [.int z106]) (rest := []) ⟨hx, hb, hml, hown, hts⟩ (c_X0_add_18 l D cI cB cJ cS H.size a0 q102 z106 f103 h105) (cwV 1 hts (nm_gV q_444 q_445 q_446 q_2 q_447) rfl rfl rfl (by decide +kernel) ⟨(Nat.le_of_ble_eq_true rfl), (Nat.le_of_ble_eq_true rfl)⟩) (nm_preV (q := (RX0, TX0, 2)) (hP.sub [0, 2] rfl) (hD.sub [0, 2] (by decide) rfl) hM 0 rfl rfl) rfl rfl hl.1 rfl (lv_room (Nat.le_of_ble_eq_true rfl)) dX0_addFour_13 ⟨(Nat.le_of_ble_eq_true rfl), (Nat.le_of_ble_eq_true rfl)⟩) hP hD hS hA [0, 2] [1] rfl rfl (by decide) (by decide) (Nat.le_of_ble_eq_true rfl) (Nat.le_of_ble_eq_true rfl) (fun u H locs hw hP hD hS => ?_)
  obtain ⟨f107, rfl⟩ : ∃ z, z = u := ⟨_, rfl⟩
  have h108 := hw
  have hP : va_P D nm_cl [(a1, .inl (cB, 16, .inl f0)), (a0, .inr (0, [.ref q102, .int 18])), (q102, .inl (cB, 32, .inl f107))] H := hP
  have hD : va_D A [(a1, .inl (cB, 16, .inl f0)), (a0, .inr (0, [.ref q102, .int 18])), (q102, .inl (cB, 32, .inl f107))] := hD
  refine lv_aload_n hx hb dX0_addFour_16 rfl (lv_at hl 0 rfl) ?_
  refine lv_iload_n hx hb dX0_addFour_17 rfl (lv_at hl 1 rfl) ?_
  refine lv_bipush (v := 8) hx hb dX0_addFour_18 (by decide) ?_
  obtain ⟨z109, e9⟩ : ∃ y : Int32, _ = y := ⟨_, rfl⟩
  refine lv_iushr hx hb dX0_addFour_20 e9 ?_
  refine nm_callv (Z := (Nat → Int32)) (wr := [(a1, .inl (cB, 16, .inl f0))]) (k := 1) (n := 32) (va_runV (As := [.int z109]) (rest := []) ⟨hx, hb, hml, hown, hts⟩ (c_X0_add_19 l D cI cB cJ cS H.size a0 q102 z109 f107 h108) (cwV 1 hts (nm_gV q_444 q_445 q_446 q_2 q_447) rfl rfl rfl (by decide +kernel) ⟨(Nat.le_of_ble_eq_true rfl), (Nat.le_of_ble_eq_true rfl)⟩) (nm_preV (q := (RX0, TX0, 2)) (hP.sub [1, 2] rfl) (hD.sub [1, 2] (by decide) rfl) hM 0 rfl rfl) rfl rfl hl.1 rfl (lv_room (Nat.le_of_ble_eq_true rfl)) dX0_addFour_21 ⟨(Nat.le_of_ble_eq_true rfl), (Nat.le_of_ble_eq_true rfl)⟩) hP hD hS hA [1, 2] [0] rfl rfl (by decide) (by decide) (Nat.le_of_ble_eq_true rfl) (Nat.le_of_ble_eq_true rfl) (fun u H locs hw hP hD hS => ?_)
  obtain ⟨f110, rfl⟩ : ∃ z, z = u := ⟨_, rfl⟩
  have h111 := hw
  have hP : va_P D nm_cl [(a1, .inl (cB, 16, .inl f0)), (a0, .inr (0, [.ref q102, .int 19])), (q102, .inl (cB, 32, .inl f110))] H := hP
  have hD : va_D A [(a1, .inl (cB, 16, .inl f0)), (a0, .inr (0, [.ref q102, .int 19])), (q102, .inl (cB, 32, .inl f110))] := hD
  refine lv_aload_n hx hb dX0_addFour_24 rfl (lv_at hl 0 rfl) ?_
  refine lv_iload_n hx hb dX0_addFour_25 rfl (lv_at hl 1 rfl) ?_
  refine nm_callv (Z := (Nat → Int32)) (wr := [(a1, .inl (cB, 16, .inl f0))]) (k := 1) (n := 32) (va_runV (As := [.int x0]) (rest := []) ⟨hx, hb, hml, hown, hts⟩ (c_X0_add_20 l D cI cB cJ cS H.size a0 q102 x0 f110 h111) (cwV 1 hts (nm_gV q_444 q_445 q_446 q_2 q_447) rfl rfl rfl (by decide +kernel) ⟨(Nat.le_of_ble_eq_true rfl), (Nat.le_of_ble_eq_true rfl)⟩) (nm_preV (q := (RX0, TX0, 2)) (hP.sub [1, 2] rfl) (hD.sub [1, 2] (by decide) rfl) hM 0 rfl rfl) rfl rfl hl.1 rfl (lv_room (Nat.le_of_ble_eq_true rfl)) dX0_addFour_26 ⟨(Nat.le_of_ble_eq_true rfl), (Nat.le_of_ble_eq_true rfl)⟩) hP hD hS hA [1, 2] [0] rfl rfl (by decide) (by decide) (Nat.le_of_ble_eq_true rfl) (Nat.le_of_ble_eq_true rfl) (fun u H locs hw hP hD hS => ?_)
  obtain ⟨f112, rfl⟩ : ∃ z, z = u := ⟨_, rfl⟩
  have h113 := hw
  have hP : va_P D nm_cl [(a1, .inl (cB, 16, .inl f0)), (a0, .inr (0, [.ref q102, .int 20])), (q102, .inl (cB, 32, .inl f112))] H := hP
  have hD : va_D A [(a1, .inl (cB, 16, .inl f0)), (a0, .inr (0, [.ref q102, .int 20])), (q102, .inl (cB, 32, .inl f112))] := hD
  have hP9 := hP.sub (ws' := [(a1, .inl (cB, 16, .inl f0)), (a0, .inr (0, [.ref q102, .int 20])), (q102, .inl (cB, 32, .inl f112))]) [0, 1, 2] rfl
  have hD9 := hD.sub (ws' := [(a1, .inl (cB, 16, .inl f0)), (a0, .inr (0, [.ref q102, .int 20])), (q102, .inl (cB, 32, .inl f112))]) [0, 1, 2] (by decide) rfl
  exact W.vret hx hb hr (fun t ht hW => ⟨⟨(q102, f112), rfl, ⟨h104, h113⟩, by rw [ht]; exact hP9, hD9⟩, hS.F ht⟩) hS.2.2 dX0_addFour_29
set_option maxHeartbeats 4000000 in
set_option maxRecDepth 100000 in
theorem c_X11_feed_1 (l : Launch) (D : va_G) (cI cB cJ cS : ClassId) (sz : Nat) (a0 : Nat) (a1 : Nat) (a2 : Nat) (x0 : Int32) (x1 : Int32) (x2 : Int32) (x3 : Int32) (x4 : Int32) (v0 : Value) (v1 : Value) (v2 : Value) (v3 : Value) (v4 : Value) (v5 : Value) (v6 : Value) (v7 : Value) (v8 : Value) (v9 : Value) (v10 : Value) (v11 : Value) (v12 : Value) (v13 : Value) (v14 : Value) (v15 : Value) (v16 : Value) (f17 : Nat → Int32) (hy_f17 : ∀ j, fits .byte (.int (f17 j)) = true) : Met l yX11_feed (.code yX11_feed cX11_feed 6 (some .int) :: nm_big) ({ frames := 4, cells := 1, slots := 32, locals := 144 }) (nm_P D cI cB cJ cS [.ref a0, .int x0, .int x1, .int x2, .int x3, .int x4] sz [(a0, .inr (10, [.ref a1, v0, v1, v2, v3, v4, v5, v6, v7, v8, v9, v10, v11, v12, v13, v14, v15, v16])), (a1, .inr (0, [.ref a2, .int 0])), (a2, .inl (cB, 16, .inl f17))]) ((fun A : Nat → Prop => va_Qi (S := Unit) (fun (r : Int32) => (fun (z : Unit) => r = 20)) (nm_B D (fun (z : Unit) => []) A) A) (va_A [(a0, .inr (10, [.ref a1, v0, v1, v2, v3, v4, v5, v6, v7, v8, v9, v10, v11, v12, v13, v14, v15, v16])), (a1, .inr (0, [.ref a2, .int 0])), (a2, .inl (cB, 16, .inl f17))] sz)) 1 32 (va_A [(a0, .inr (10, [.ref a1, v0, v1, v2, v3, v4, v5, v6, v7, v8, v9, v10, v11, v12, v13, v14, v15, v16])), (a1, .inr (0, [.ref a2, .int 0])), (a2, .inl (cB, 16, .inl f17))] sz) := by
  refine nm_Met (Qc := fun A => va_Qi (S := Unit) (fun (r : Int32) => (fun (z : Unit) => r = 20)) (nm_B D (fun (z : Unit) => []) A) A) ?_ ?_ ?_
  · decide +kernel
  · exact Nat.le_of_ble_eq_true rfl
  intro p e s m below meth c A ls hx hb hr hml hts hown hlocks hin hM hP hD hS hA hl
  have hl : lv_has ls 6 [(0, .ref a0), (1, .int x0), (2, .int x1), (3, .int x2), (4, .int x3), (5, .int x4)] := hl
  have hown : s.vm.findClass RX11 = some m.cls := hown
  refine lv_aload_n hx hb dX11_feed_0 rfl (lv_at hl 0 rfl) ?_
  refine va_get (D := D) (ci := 10) (v := .ref a1) (C := RX11) (T := TX11) (N := 18) hx hb hts iw_X11 hown hM.1 hP 0 rfl rfl 0 (by decide) (hts _ q_381) (fun _ h9 => h9) rfl dX11_feed_1 ?_
  refine va_get (D := D) (ci := 0) (v := .int 0) (C := RX0) (T := TX0) (N := 2) hx hb hts iw_X0 hown hM.1 hP 1 rfl rfl 1 (by decide) (hts _ q_44) (fun _ h9 => h9) rfl dX11_feed_4 ?_
  refine lv_bipush (v := 20) hx hb dX11_feed_7 (by decide) ?_
  refine lv_iadd hx hb dX11_feed_9 ?_
  refine lv_topi (fun z101 e9 => ?_)
  obtain rfl : z101 = (20 : Int32) := e9.trans (by decide)
  refine lv_sipush (v := 400) hx hb dX11_feed_10 (by decide) ?_
  refine lv_icmp_le (tgt := 18) hx hb dX11_feed_13 (by decide) (fun _ => ?_) (fun c9 => absurd (by decide) c9)
  refine lv_aload_n hx hb dX11_feed_18 rfl (lv_at hl 0 rfl) ?_
  refine va_get (D := D) (ci := 10) (v := .ref a1) (C := RX11) (T := TX11) (N := 18) hx hb hts iw_X11 hown hM.1 hP 0 rfl rfl 0 (by decide) (hts _ q_381) (fun _ h9 => h9) rfl dX11_feed_19 ?_
  refine lv_iload_n hx hb dX11_feed_22 rfl (lv_at hl 1 rfl) ?_
  refine nm_callv (Z := (Nat → Int32)) (wr := [(a0, .inr (10, [.ref a1, v0, v1, v2, v3, v4, v5, v6, v7, v8, v9, v10, v11, v12, v13, v14, v15, v16]))]) (k := 0) (n := 0) (va_runV (As := [.int x0]) (rest := []) ⟨hx, hb, hml, hown, hts⟩ (c_X0_addFour_1 l D cI cB cJ cS s.heap.size a1 a2 x0 f17 hy_f17) (cwV 1 hts (nm_gV q_440 q_441 q_442 q_2 q_443) rfl rfl rfl (by decide +kernel) ⟨(Nat.le_of_ble_eq_true rfl), (Nat.le_of_ble_eq_true rfl)⟩) (nm_preV (q := (RX0, TX0, 2)) (hP.sub [1, 2] rfl) (hD.sub [1, 2] (by decide) rfl) hM 0 rfl rfl) rfl rfl hl.1 rfl (lv_room (Nat.le_of_ble_eq_true rfl)) dX11_feed_23 ⟨(Nat.le_of_ble_eq_true rfl), (Nat.le_of_ble_eq_true rfl)⟩) hP hD hS hA [1, 2] [0] rfl rfl (by decide) (by decide) (Nat.le_of_ble_eq_true rfl) (Nat.le_of_ble_eq_true rfl) (fun u H locs hw hP hD hS => ?_)
  obtain ⟨f102, rfl⟩ : ∃ z, z = u := ⟨_, rfl⟩
  have h103 := hw
  have hP : va_P D nm_cl [(a0, .inr (10, [.ref a1, v0, v1, v2, v3, v4, v5, v6, v7, v8, v9, v10, v11, v12, v13, v14, v15, v16])), (a1, .inr (0, [.ref a2, .int 4])), (a2, .inl (cB, 16, .inl f102))] H := hP
  have hD : va_D A [(a0, .inr (10, [.ref a1, v0, v1, v2, v3, v4, v5, v6, v7, v8, v9, v10, v11, v12, v13, v14, v15, v16])), (a1, .inr (0, [.ref a2, .int 4])), (a2, .inl (cB, 16, .inl f102))] := hD
  refine lv_aload_n hx hb dX11_feed_26 rfl (lv_at hl 0 rfl) ?_
  refine va_get (D := D) (ci := 10) (v := .ref a1) (C := RX11) (T := TX11) (N := 18) hx hb hts iw_X11 hown hM.1 hP 0 rfl rfl 0 (by decide) (hts _ q_381) (fun _ h9 => h9) rfl dX11_feed_27 ?_
  refine lv_iload_n hx hb dX11_feed_30 rfl (lv_at hl 2 rfl) ?_
  refine nm_callv (Z := (Nat → Int32)) (wr := [(a0, .inr (10, [.ref a1, v0, v1, v2, v3, v4, v5, v6, v7, v8, v9, v10, v11, v12, v13, v14, v15, v16]))]) (k := 0) (n := 0) (va_runV (As := [.int x1]) (rest := []) ⟨hx, hb, hml, hown, hts⟩ (c_X0_addFour_2 l D cI cB cJ cS H.size a1 a2 x1 f102 h103) (cwV 1 hts (nm_gV q_440 q_441 q_442 q_2 q_443) rfl rfl rfl (by decide +kernel) ⟨(Nat.le_of_ble_eq_true rfl), (Nat.le_of_ble_eq_true rfl)⟩) (nm_preV (q := (RX0, TX0, 2)) (hP.sub [1, 2] rfl) (hD.sub [1, 2] (by decide) rfl) hM 0 rfl rfl) rfl rfl hl.1 rfl (lv_room (Nat.le_of_ble_eq_true rfl)) dX11_feed_31 ⟨(Nat.le_of_ble_eq_true rfl), (Nat.le_of_ble_eq_true rfl)⟩) hP hD hS hA [1, 2] [0] rfl rfl (by decide) (by decide) (Nat.le_of_ble_eq_true rfl) (Nat.le_of_ble_eq_true rfl) (fun u H locs hw hP hD hS => ?_)
  obtain ⟨f104, rfl⟩ : ∃ z, z = u := ⟨_, rfl⟩
  have h105 := hw
  have hP : va_P D nm_cl [(a0, .inr (10, [.ref a1, v0, v1, v2, v3, v4, v5, v6, v7, v8, v9, v10, v11, v12, v13, v14, v15, v16])), (a1, .inr (0, [.ref a2, .int 8])), (a2, .inl (cB, 16, .inl f104))] H := hP
  have hD : va_D A [(a0, .inr (10, [.ref a1, v0, v1, v2, v3, v4, v5, v6, v7, v8, v9, v10, v11, v12, v13, v14, v15, v16])), (a1, .inr (0, [.ref a2, .int 8])), (a2, .inl (cB, 16, .inl f104))] := hD
  refine lv_aload_n hx hb dX11_feed_34 rfl (lv_at hl 0 rfl) ?_
  refine va_get (D := D) (ci := 10) (v := .ref a1) (C := RX11) (T := TX11) (N := 18) hx hb hts iw_X11 hown hM.1 hP 0 rfl rfl 0 (by decide) (hts _ q_381) (fun _ h9 => h9) rfl dX11_feed_35 ?_
  refine lv_iload_n hx hb dX11_feed_38 rfl (lv_at hl 3 rfl) ?_
  refine nm_callv (Z := (Nat → Int32)) (wr := [(a0, .inr (10, [.ref a1, v0, v1, v2, v3, v4, v5, v6, v7, v8, v9, v10, v11, v12, v13, v14, v15, v16]))]) (k := 0) (n := 0) (va_runV (As := [.int x2]) (rest := []) ⟨hx, hb, hml, hown, hts⟩ (c_X0_addFour_3 l D cI cB cJ cS H.size a1 a2 x2 f104 h105) (cwV 1 hts (nm_gV q_440 q_441 q_442 q_2 q_443) rfl rfl rfl (by decide +kernel) ⟨(Nat.le_of_ble_eq_true rfl), (Nat.le_of_ble_eq_true rfl)⟩) (nm_preV (q := (RX0, TX0, 2)) (hP.sub [1, 2] rfl) (hD.sub [1, 2] (by decide) rfl) hM 0 rfl rfl) rfl rfl hl.1 rfl (lv_room (Nat.le_of_ble_eq_true rfl)) dX11_feed_39 ⟨(Nat.le_of_ble_eq_true rfl), (Nat.le_of_ble_eq_true rfl)⟩) hP hD hS hA [1, 2] [0] rfl rfl (by decide) (by decide) (Nat.le_of_ble_eq_true rfl) (Nat.le_of_ble_eq_true rfl) (fun u H locs hw hP hD hS => ?_)
  obtain ⟨f106, rfl⟩ : ∃ z, z = u := ⟨_, rfl⟩
  have h107 := hw
  have hP : va_P D nm_cl [(a0, .inr (10, [.ref a1, v0, v1, v2, v3, v4, v5, v6, v7, v8, v9, v10, v11, v12, v13, v14, v15, v16])), (a1, .inr (0, [.ref a2, .int 12])), (a2, .inl (cB, 16, .inl f106))] H := hP
  have hD : va_D A [(a0, .inr (10, [.ref a1, v0, v1, v2, v3, v4, v5, v6, v7, v8, v9, v10, v11, v12, v13, v14, v15, v16])), (a1, .inr (0, [.ref a2, .int 12])), (a2, .inl (cB, 16, .inl f106))] := hD
  refine lv_aload_n hx hb dX11_feed_42 rfl (lv_at hl 0 rfl) ?_
  refine va_get (D := D) (ci := 10) (v := .ref a1) (C := RX11) (T := TX11) (N := 18) hx hb hts iw_X11 hown hM.1 hP 0 rfl rfl 0 (by decide) (hts _ q_381) (fun _ h9 => h9) rfl dX11_feed_43 ?_
  refine lv_iload hx hb dX11_feed_46 (lv_at hl 4 rfl) ?_
  refine nm_callv (Z := (Nat → Int32)) (wr := [(a0, .inr (10, [.ref a1, v0, v1, v2, v3, v4, v5, v6, v7, v8, v9, v10, v11, v12, v13, v14, v15, v16]))]) (k := 0) (n := 0) (va_runV (As := [.int x3]) (rest := []) ⟨hx, hb, hml, hown, hts⟩ (c_X0_addFour_4 l D cI cB cJ cS H.size a1 a2 x3 f106 h107) (cwV 1 hts (nm_gV q_440 q_441 q_442 q_2 q_443) rfl rfl rfl (by decide +kernel) ⟨(Nat.le_of_ble_eq_true rfl), (Nat.le_of_ble_eq_true rfl)⟩) (nm_preV (q := (RX0, TX0, 2)) (hP.sub [1, 2] rfl) (hD.sub [1, 2] (by decide) rfl) hM 0 rfl rfl) rfl rfl hl.1 rfl (lv_room (Nat.le_of_ble_eq_true rfl)) dX11_feed_48 ⟨(Nat.le_of_ble_eq_true rfl), (Nat.le_of_ble_eq_true rfl)⟩) hP hD hS hA [1, 2] [0] rfl rfl (by decide) (by decide) (Nat.le_of_ble_eq_true rfl) (Nat.le_of_ble_eq_true rfl) (fun u H locs hw hP hD hS => ?_)
  obtain ⟨f108, rfl⟩ : ∃ z, z = u := ⟨_, rfl⟩
  have h109 := hw
  have hP : va_P D nm_cl [(a0, .inr (10, [.ref a1, v0, v1, v2, v3, v4, v5, v6, v7, v8, v9, v10, v11, v12, v13, v14, v15, v16])), (a1, .inr (0, [.ref a2, .int 16])), (a2, .inl (cB, 16, .inl f108))] H := hP
  have hD : va_D A [(a0, .inr (10, [.ref a1, v0, v1, v2, v3, v4, v5, v6, v7, v8, v9, v10, v11, v12, v13, v14, v15, v16])), (a1, .inr (0, [.ref a2, .int 16])), (a2, .inl (cB, 16, .inl f108))] := hD
  refine lv_aload_n hx hb dX11_feed_51 rfl (lv_at hl 0 rfl) ?_
  refine va_get (D := D) (ci := 10) (v := .ref a1) (C := RX11) (T := TX11) (N := 18) hx hb hts iw_X11 hown hM.1 hP 0 rfl rfl 0 (by decide) (hts _ q_381) (fun _ h9 => h9) rfl dX11_feed_52 ?_
  refine lv_iload hx hb dX11_feed_55 (lv_at hl 5 rfl) ?_
  refine nm_callv (Z := Nat × (Nat → Int32)) (wr := [(a0, .inr (10, [.ref a1, v0, v1, v2, v3, v4, v5, v6, v7, v8, v9, v10, v11, v12, v13, v14, v15, v16]))]) (k := 1) (n := 32) (va_runV (As := [.int x4]) (rest := []) ⟨hx, hb, hml, hown, hts⟩ (c_X0_addFour_5 l D cI cB cJ cS H.size a1 a2 x4 f108 h109) (cwV 1 hts (nm_gV q_440 q_441 q_442 q_2 q_443) rfl rfl rfl (by decide +kernel) ⟨(Nat.le_of_ble_eq_true rfl), (Nat.le_of_ble_eq_true rfl)⟩) (nm_preV (q := (RX0, TX0, 2)) (hP.sub [1, 2] rfl) (hD.sub [1, 2] (by decide) rfl) hM 0 rfl rfl) rfl rfl hl.1 rfl (lv_room (Nat.le_of_ble_eq_true rfl)) dX11_feed_57 ⟨(Nat.le_of_ble_eq_true rfl), (Nat.le_of_ble_eq_true rfl)⟩) hP hD hS hA [1, 2] [0] rfl rfl (by decide) (by decide) (Nat.le_of_ble_eq_true rfl) (Nat.le_of_ble_eq_true rfl) (fun u H locs hw hP hD hS => ?_)
  obtain ⟨q110, f111⟩ := u
  obtain ⟨h112, h113⟩ := hw
  have hP : va_P D nm_cl [(a0, .inr (10, [.ref a1, v0, v1, v2, v3, v4, v5, v6, v7, v8, v9, v10, v11, v12, v13, v14, v15, v16])), (a2, .inl (cB, 16, .inl f108)), (a1, .inr (0, [.ref q110, .int 20])), (q110, .inl (cB, 32, .inl f111))] H := hP
  have hD : va_D A [(a0, .inr (10, [.ref a1, v0, v1, v2, v3, v4, v5, v6, v7, v8, v9, v10, v11, v12, v13, v14, v15, v16])), (a2, .inl (cB, 16, .inl f108)), (a1, .inr (0, [.ref q110, .int 20])), (q110, .inl (cB, 32, .inl f111))] := hD
  refine lv_aload_n hx hb dX11_feed_60 rfl (lv_at hl 0 rfl) ?_
  refine va_get (D := D) (ci := 10) (v := .ref a1) (C := RX11) (T := TX11) (N := 18) hx hb hts iw_X11 hown hM.1 hP 0 rfl rfl 0 (by decide) (hts _ q_381) (fun _ h9 => h9) rfl dX11_feed_61 ?_
  refine va_get (D := D) (ci := 0) (v := .int 20) (C := RX0) (T := TX0) (N := 2) hx hb hts iw_X0 hown hM.1 hP 2 rfl rfl 1 (by decide) (hts _ q_44) (fun _ h9 => h9) rfl dX11_feed_64 ?_
  have hP9 := hP.sub (ws' := []) [] rfl
  have hD9 := hD.sub (ws' := []) [] (by decide) rfl
  exact W.iret (v := 20) hx hb hr (fun t ht hW => ⟨⟨20, (), rfl, rfl, by rw [ht]; exact hP9, hD9⟩, hS.F ht⟩) hS.2.2 dX11_feed_67
