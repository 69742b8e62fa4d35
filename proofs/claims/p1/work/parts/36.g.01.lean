set_option maxHeartbeats 4000000 in
set_option maxRecDepth 100000 in
theorem c_X12_feed_1 (l : Launch) (D : va_G) (cI cB cJ cS : ClassId) (sz : Nat) (a0 : Nat) (a1 : Nat) (x0 : Int32) (x1 : Int32) (x2 : Int32) (x3 : Int32) (x4 : Int32) (v0 : Value) (v1 : Value) (v2 : Value) (v3 : Value) (v4 : Value) (v5 : Value) (v6 : Value) (v7 : Value) (v8 : Value) (v9 : Value) (v10 : Value) (v11 : Value) (v12 : Value) (v13 : Value) (v14 : Value) (v15 : Value) (v16 : Value) (v17 : Value) (v18 : Value) (v19 : Value) (v20 : Value) (v21 : Value) (v22 : Value) (v23 : Value) (v24 : Value) (v25 : Value) (v26 : Value) (v27 : Value) (v28 : Value) (v29 : Value) (v30 : Value) (v31 : Value) (v32 : Value) (v33 : Value) (v34 : Value) (v35 : Value) (v36 : Value) (v37 : Value) (v38 : Value) (v39 : Value) (v40 : Value) (v41 : Value) (v42 : Value) (v43 : Value) (v44 : Value) (v45 : Value) (v46 : Value) (v47 : Value) (v48 : Value) (v49 : Value) (v50 : Value) (v51 : Value) (v52 : Value) (v53 : Value) (v54 : Value) (v55 : Value) (v56 : Value) (v57 : Value) (v58 : Value) (v59 : Value) (f60 : Nat → Int32) (hy_f60 : ∀ j, fits .byte (.int (f60 j)) = true) : Met l yX12_feed (.code yX12_feed cX12_feed 8 (some .int) :: nm_big) ({ frames := 0, cells := 0, slots := 0, locals := 0 }) (nm_P D cI cB cJ cS [.ref a0, .int x0, .int x1, .int x2, .int x3, .int x4] sz [(a0, .inr (11, [v0, v1, .int 0, .ref a1, v2, v3, v4, v5, v6, v7, v8, v9, v10, v11, v12, v13, v14, v15, v16, v17, v18, v19, v20, v21, v22, v23, v24, v25, v26, v27, v28, v29, v30, v31, v32, v33, v34, v35, v36, v37, v38, v39, v40, v41, v42, v43, v44, v45, v46, v47, v48, v49, v50, v51, v52, v53, v54, v55, v56, v57, v58, v59])), (a1, .inl (cB, 400, .inl f60))]) ((fun A : Nat → Prop => va_Qi (S := Unit) (fun (r : Int32) => (fun (z : Unit) => r = 20)) (nm_B D (fun (z : Unit) => [(a0, .inr (11, [.int 0, v1, .int 20, .ref a1, v2, v3, v4, v5, v6, v7, v8, v9, v10, v11, v12, v13, v14, v15, v16, v17, v18, v19, v20, v21, v22, v23, v24, v25, v26, v27, v28, v29, v30, v31, v32, v33, v34, v35, v36, v37, v38, v39, v40, v41, v42, v43, v44, v45, v46, v47, v48, v49, v50, v51, v52, v53, v54, v55, v56, v57, v58, v59]))]) A) A) (va_A [(a0, .inr (11, [v0, v1, .int 0, .ref a1, v2, v3, v4, v5, v6, v7, v8, v9, v10, v11, v12, v13, v14, v15, v16, v17, v18, v19, v20, v21, v22, v23, v24, v25, v26, v27, v28, v29, v30, v31, v32, v33, v34, v35, v36, v37, v38, v39, v40, v41, v42, v43, v44, v45, v46, v47, v48, v49, v50, v51, v52, v53, v54, v55, v56, v57, v58, v59])), (a1, .inl (cB, 400, .inl f60))] sz)) 0 0 (va_A [(a0, .inr (11, [v0, v1, .int 0, .ref a1, v2, v3, v4, v5, v6, v7, v8, v9, v10, v11, v12, v13, v14, v15, v16, v17, v18, v19, v20, v21, v22, v23, v24, v25, v26, v27, v28, v29, v30, v31, v32, v33, v34, v35, v36, v37, v38, v39, v40, v41, v42, v43, v44, v45, v46, v47, v48, v49, v50, v51, v52, v53, v54, v55, v56, v57, v58, v59])), (a1, .inl (cB, 400, .inl f60))] sz) := by
  refine nm_Met (Qc := fun A => va_Qi (S := Unit) (fun (r : Int32) => (fun (z : Unit) => r = 20)) (nm_B D (fun (z : Unit) => [(a0, .inr (11, [.int 0, v1, .int 20, .ref a1, v2, v3, v4, v5, v6, v7, v8, v9, v10, v11, v12, v13, v14, v15, v16, v17, v18, v19, v20, v21, v22, v23, v24, v25, v26, v27, v28, v29, v30, v31, v32, v33, v34, v35, v36, v37, v38, v39, v40, v41, v42, v43, v44, v45, v46, v47, v48, v49, v50, v51, v52, v53, v54, v55, v56, v57, v58, v59]))]) A) A) ?_ ?_ ?_
  · decide +kernel
  · exact Nat.le_of_ble_eq_true rfl
  intro p e s m below meth c A ls hx hb hr hml hts hown hlocks hin hM hP hD hS hA hl
  have hl : lv_has ls 8 [(0, .ref a0), (1, .int x0), (2, .int x1), (3, .int x2), (4, .int x3), (5, .int x4)] := hl
  have hown : s.vm.findClass RX12 = some m.cls := hown
  refine lv_aload_n hx hb dX12_feed_0 rfl (lv_at hl 0 rfl) ?_
  refine lv_iconst (v := 0) hx hb dX12_feed_1 (by decide) ?_
  refine va_put (D := D) (ci := 11) (v := .int 0) (ty := .int) (C := RX12) (T := TX12) (N := 62) hx hb hts iw_X12 tyX12 tyX12_ok nmX12 hown hM.1 hP hD hS 0 rfl rfl 0 (by decide) (hts _ q_1495) (fun _ h9 => h9) rfl (by decide +kernel) rfl rfl (Nat.le_of_ble_eq_true rfl) dX12_feed_2 (fun H locs hP hD hS => ?_)
  have hP : va_P D nm_cl [(a0, .inr (11, [.int 0, v1, .int 0, .ref a1, v2, v3, v4, v5, v6, v7, v8, v9, v10, v11, v12, v13, v14, v15, v16, v17, v18, v19, v20, v21, v22, v23, v24, v25, v26, v27, v28, v29, v30, v31, v32, v33, v34, v35, v36, v37, v38, v39, v40, v41, v42, v43, v44, v45, v46, v47, v48, v49, v50, v51, v52, v53, v54, v55, v56, v57, v58, v59])), (a1, .inl (cB, 400, .inl f60))] H := hP
  have hD : va_D A [(a0, .inr (11, [.int 0, v1, .int 0, .ref a1, v2, v3, v4, v5, v6, v7, v8, v9, v10, v11, v12, v13, v14, v15, v16, v17, v18, v19, v20, v21, v22, v23, v24, v25, v26, v27, v28, v29, v30, v31, v32, v33, v34, v35, v36, v37, v38, v39, v40, v41, v42, v43, v44, v45, v46, v47, v48, v49, v50, v51, v52, v53, v54, v55, v56, v57, v58, v59])), (a1, .inl (cB, 400, .inl f60))] := hD
  refine lv_aload_n hx hb dX12_feed_5 rfl (lv_at hl 0 rfl) ?_
  refine va_get (D := D) (ci := 11) (v := .int 0) (C := RX12) (T := TX12) (N := 62) hx hb hts iw_X12 hown hM.1 hP 0 rfl rfl 2 (by decide) (hts _ q_1497) (fun _ h9 => h9) rfl dX12_feed_6 ?_
  refine lv_bipush (v := 20) hx hb dX12_feed_9 (by decide) ?_
  refine lv_iadd hx hb dX12_feed_11 ?_
  refine lv_topi (fun z101 e9 => ?_)
  obtain rfl : z101 = (20 : Int32) := e9.trans (by decide)
  refine lv_sipush (v := 400) hx hb dX12_feed_12 (by decide) ?_
  refine lv_icmp_le (tgt := 20) hx hb dX12_feed_15 (by decide) (fun _ => ?_) (fun c9 => absurd (by decide) c9)
  refine lv_iconst (v := 0) hx hb dX12_feed_20 (by decide) ?_
  refine lv_istore (lv' := [(6, .int 0), (0, .ref a0), (1, .int x0), (2, .int x1), (3, .int x2), (4, .int x3), (5, .int x4)]) hx hb dX12_feed_21 hl (by decide) rfl (fun ls hl => ?_)
  refine lv_iload hx hb dX12_feed_23 (lv_at hl 0 rfl) ?_
  refine lv_bipush (v := 20) hx hb dX12_feed_25 (by decide) ?_
  refine lv_icmp_ge (tgt := 117) hx hb dX12_feed_27 (by decide) (fun c9 => absurd c9 (by decide)) (fun _ => ?_)
  refine lv_iload hx hb dX12_feed_30 (lv_at hl 0 rfl) ?_
  refine lv_iconst (v := 4) hx hb dX12_feed_32 (by decide) ?_
  refine lv_icmp_ge (tgt := 40) hx hb dX12_feed_33 (by decide) (fun c9 => absurd c9 (by decide)) (fun _ => ?_)
  refine lv_iload_n hx hb dX12_feed_36 rfl (lv_at hl 2 rfl) ?_
  refine lv_goto (tgt := 76) hx hb dX12_feed_37 (by decide) ?_
  refine lv_istore (lv' := [(7, .int x0), (6, .int 0), (0, .ref a0), (1, .int x0), (2, .int x1), (3, .int x2), (4, .int x3), (5, .int x4)]) hx hb dX12_feed_76 hl (by decide) rfl (fun ls hl => ?_)
  refine lv_aload_n hx hb dX12_feed_78 rfl (lv_at hl 2 rfl) ?_
  refine va_get (D := D) (ci := 11) (v := .ref a1) (C := RX12) (T := TX12) (N := 62) hx hb hts iw_X12 hown hM.1 hP 0 rfl rfl 3 (by decide) (hts _ q_1498) (fun _ h9 => h9) rfl dX12_feed_79 ?_
  refine lv_aload_n hx hb dX12_feed_82 rfl (lv_at hl 2 rfl) ?_
  refine va_get (D := D) (ci := 11) (v := .int 0) (C := RX12) (T := TX12) (N := 62) hx hb hts iw_X12 hown hM.1 hP 0 rfl rfl 2 (by decide) (hts _ q_1497) (fun _ h9 => h9) rfl dX12_feed_83 ?_
  refine lv_iload hx hb dX12_feed_86 (lv_at hl 0 rfl) ?_
  refine lv_bipush (v := 24) hx hb dX12_feed_88 (by decide) ?_
  refine lv_bipush (v := 8) hx hb dX12_feed_90 (by decide) ?_
  refine lv_iload hx hb dX12_feed_92 (lv_at hl 1 rfl) ?_
  refine lv_iconst (v := 4) hx hb dX12_feed_94 (by decide) ?_
  refine lv_irem hx hb dX12_feed_95 (by decide) ?_
  refine lv_topi (fun z102 e9 => ?_)
  obtain rfl : z102 = (0 : Int32) := e9.trans (by decide)
  refine lv_imul hx hb dX12_feed_96 ?_
  refine lv_topi (fun z103 e9 => ?_)
  obtain rfl : z103 = (0 : Int32) := e9.trans (by decide)
  refine lv_isub hx hb dX12_feed_97 ?_
  refine lv_topi (fun z104 e9 => ?_)
  obtain rfl : z104 = (24 : Int32) := e9.trans (by decide)
  refine lv_ishr hx hb dX12_feed_98 ?_
  refine lv_topi (fun z105 e9 => ?_)
  obtain ⟨z106, e9⟩ : ∃ y : Int32, Int8.toInt32 (Int32.toInt8 z105) = y := ⟨_, rfl⟩
  refine lv_i2b hx hb dX12_feed_99 e9 ?_
  refine va_bast hx hb hM.1 hP hD hS 1 1 rfl rfl (nm_vin (by decide)) dX12_feed_100 (fun H locs hP hD hS => ?_)
  have hP : va_P D nm_cl [(a0, .inr (11, [.int 0, v1, .int 0, .ref a1, v2, v3, v4, v5, v6, v7, v8, v9, v10, v11, v12, v13, v14, v15, v16, v17, v18, v19, v20, v21, v22, v23, v24, v25, v26, v27, v28, v29, v30, v31, v32, v33, v34, v35, v36, v37, v38, v39, v40, v41, v42, v43, v44, v45, v46, v47, v48, v49, v50, v51, v52, v53, v54, v55, v56, v57, v58, v59])), (a1, .inl (cB, 400, .inl (upd f60 (Int32.toNatClampNeg 0) (vp_nar .byte z106))))] H := hP
  have hD : va_D A [(a0, .inr (11, [.int 0, v1, .int 0, .ref a1, v2, v3, v4, v5, v6, v7, v8, v9, v10, v11, v12, v13, v14, v15, v16, v17, v18, v19, v20, v21, v22, v23, v24, v25, v26, v27, v28, v29, v30, v31, v32, v33, v34, v35, v36, v37, v38, v39, v40, v41, v42, v43, v44, v45, v46, v47, v48, v49, v50, v51, v52, v53, v54, v55, v56, v57, v58, v59])), (a1, .inl (cB, 400, .inl (upd f60 (Int32.toNatClampNeg 0) (vp_nar .byte z106))))] := hD
  obtain ⟨f107, hf9⟩ : ∃ g : Nat → Int32, g = (upd f60 (Int32.toNatClampNeg 0) (vp_nar .byte z106)) := ⟨_, rfl⟩
  rw [← hf9] at hP hD
  have hy_f107 : ∀ j, fits .byte (.int (f107 j)) = true := by rw [hf9]; exact nm_by hy_f60
  refine lv_aload_n hx hb dX12_feed_101 rfl (lv_at hl 2 rfl) ?_
  refine lv_dup hx hb dX12_feed_102 rfl ?_
  refine va_get (D := D) (ci := 11) (v := .int 0) (C := RX12) (T := TX12) (N := 62) hx hb hts iw_X12 hown hM.1 hP 0 rfl rfl 2 (by decide) (hts _ q_1497) (fun _ h9 => h9) rfl dX12_feed_103 ?_
  refine lv_iconst (v := 1) hx hb dX12_feed_106 (by decide) ?_
  refine lv_iadd hx hb dX12_feed_107 ?_
  refine lv_topi (fun z108 e9 => ?_)
  obtain rfl : z108 = (1 : Int32) := e9.trans (by decide)
  refine va_put (D := D) (ci := 11) (v := .int 1) (ty := .int) (C := RX12) (T := TX12) (N := 62) hx hb hts iw_X12 tyX12 tyX12_ok nmX12 hown hM.1 hP hD hS 0 rfl rfl 2 (by decide) (hts _ q_1497) (fun _ h9 => h9) rfl (by decide +kernel) rfl rfl (Nat.le_of_ble_eq_true rfl) dX12_feed_108 (fun H locs hP hD hS => ?_)
  have hP : va_P D nm_cl [(a0, .inr (11, [.int 0, v1, .int 1, .ref a1, v2, v3, v4, v5, v6, v7, v8, v9, v10, v11, v12, v13, v14, v15, v16, v17, v18, v19, v20, v21, v22, v23, v24, v25, v26, v27, v28, v29, v30, v31, v32, v33, v34, v35, v36, v37, v38, v39, v40, v41, v42, v43, v44, v45, v46, v47, v48, v49, v50, v51, v52, v53, v54, v55, v56, v57, v58, v59])), (a1, .inl (cB, 400, .inl f107))] H := hP
  have hD : va_D A [(a0, .inr (11, [.int 0, v1, .int 1, .ref a1, v2, v3, v4, v5, v6, v7, v8, v9, v10, v11, v12, v13, v14, v15, v16, v17, v18, v19, v20, v21, v22, v23, v24, v25, v26, v27, v28, v29, v30, v31, v32, v33, v34, v35, v36, v37, v38, v39, v40, v41, v42, v43, v44, v45, v46, v47, v48, v49, v50, v51, v52, v53, v54, v55, v56, v57, v58, v59])), (a1, .inl (cB, 400, .inl f107))] := hD
  refine lv_iinc (v := 1) (lv' := [(6, .int 1), (7, .int x0), (0, .ref a0), (1, .int x0), (2, .int x1), (3, .int x2), (4, .int x3), (5, .int x4)]) hx hb dX12_feed_111 hl (k := 1) rfl (by decide) (by decide) rfl (fun ls hl => ?_)
  refine lv_goto (tgt := 23) hx hb dX12_feed_114 (by decide) ?_
  refine lv_iload hx hb dX12_feed_23 (lv_at hl 0 rfl) ?_
  refine lv_bipush (v := 20) hx hb dX12_feed_25 (by decide) ?_
  refine lv_icmp_ge (tgt := 117) hx hb dX12_feed_27 (by decide) (fun c9 => absurd c9 (by decide)) (fun _ => ?_)
  refine lv_iload hx hb dX12_feed_30 (lv_at hl 0 rfl) ?_
  refine lv_iconst (v := 4) hx hb dX12_feed_32 (by decide) ?_
  refine lv_icmp_ge (tgt := 40) hx hb dX12_feed_33 (by decide) (fun c9 => absurd c9 (by decide)) (fun _ => ?_)
  refine lv_iload_n hx hb dX12_feed_36 rfl (lv_at hl 3 rfl) ?_
  refine lv_goto (tgt := 76) hx hb dX12_feed_37 (by decide) ?_
  refine lv_istore (lv' := [(7, .int x0), (6, .int 1), (0, .ref a0), (1, .int x0), (2, .int x1), (3, .int x2), (4, .int x3), (5, .int x4)]) hx hb dX12_feed_76 hl (by decide) rfl (fun ls hl => ?_)
  refine lv_aload_n hx hb dX12_feed_78 rfl (lv_at hl 2 rfl) ?_
  refine va_get (D := D) (ci := 11) (v := .ref a1) (C := RX12) (T := TX12) (N := 62) hx hb hts iw_X12 hown hM.1 hP 0 rfl rfl 3 (by decide) (hts _ q_1498) (fun _ h9 => h9) rfl dX12_feed_79 ?_
  refine lv_aload_n hx hb dX12_feed_82 rfl (lv_at hl 2 rfl) ?_
  refine va_get (D := D) (ci := 11) (v := .int 1) (C := RX12) (T := TX12) (N := 62) hx hb hts iw_X12 hown hM.1 hP 0 rfl rfl 2 (by decide) (hts _ q_1497) (fun _ h9 => h9) rfl dX12_feed_83 ?_
  refine lv_iload hx hb dX12_feed_86 (lv_at hl 0 rfl) ?_
  refine lv_bipush (v := 24) hx hb dX12_feed_88 (by decide) ?_
  refine lv_bipush (v := 8) hx hb dX12_feed_90 (by decide) ?_
  refine lv_iload hx hb dX12_feed_92 (lv_at hl 1 rfl) ?_
  refine lv_iconst (v := 4) hx hb dX12_feed_94 (by decide) ?_
  refine lv_irem hx hb dX12_feed_95 (by decide) ?_
  refine lv_topi (fun z109 e9 => ?_)
  obtain rfl : z109 = (1 : Int32) := e9.trans (by decide)
  refine lv_imul hx hb dX12_feed_96 ?_
  refine lv_topi (fun z110 e9 => ?_)
  obtain rfl : z110 = (8 : Int32) := e9.trans (by decide)
  refine lv_isub hx hb dX12_feed_97 ?_
  refine lv_topi (fun z111 e9 => ?_)
  obtain rfl : z111 = (16 : Int32) := e9.trans (by decide)
  refine lv_ishr hx hb dX12_feed_98 ?_
  refine lv_topi (fun z112 e9 => ?_)
  obtain ⟨z113, e9⟩ : ∃ y : Int32, Int8.toInt32 (Int32.toInt8 z112) = y := ⟨_, rfl⟩
  refine lv_i2b hx hb dX12_feed_99 e9 ?_
  refine va_bast hx hb hM.1 hP hD hS 1 1 rfl rfl (nm_vin (by decide)) dX12_feed_100 (fun H locs hP hD hS => ?_)
  have hP : va_P D nm_cl [(a0, .inr (11, [.int 0, v1, .int 1, .ref a1, v2, v3, v4, v5, v6, v7, v8, v9, v10, v11, v12, v13, v14, v15, v16, v17, v18, v19, v20, v21, v22, v23, v24, v25, v26, v27, v28, v29, v30, v31, v32, v33, v34, v35, v36, v37, v38, v39, v40, v41, v42, v43, v44, v45, v46, v47, v48, v49, v50, v51, v52, v53, v54, v55, v56, v57, v58, v59])), (a1, .inl (cB, 400, .inl (upd f107 (Int32.toNatClampNeg 1) (vp_nar .byte z113))))] H := hP
  have hD : va_D A [(a0, .inr (11, [.int 0, v1, .int 1, .ref a1, v2, v3, v4, v5, v6, v7, v8, v9, v10, v11, v12, v13, v14, v15, v16, v17, v18, v19, v20, v21, v22, v23, v24, v25, v26, v27, v28, v29, v30, v31, v32, v33, v34, v35, v36, v37, v38, v39, v40, v41, v42, v43, v44, v45, v46, v47, v48, v49, v50, v51, v52, v53, v54, v55, v56, v57, v58, v59])), (a1, .inl (cB, 400, .inl (upd f107 (Int32.toNatClampNeg 1) (vp_nar .byte z113))))] := hD
  obtain ⟨f114, hf9⟩ : ∃ g : Nat → Int32, g = (upd f107 (Int32.toNatClampNeg 1) (vp_nar .byte z113)) := ⟨_, rfl⟩
  rw [← hf9] at hP hD
  have hy_f114 : ∀ j, fits .byte (.int (f114 j)) = true := by rw [hf9]; exact nm_by hy_f107
  refine lv_aload_n hx hb dX12_feed_101 rfl (lv_at hl 2 rfl) ?_
  refine lv_dup hx hb dX12_feed_102 rfl ?_
  refine va_get (D := D) (ci := 11) (v := .int 1) (C := RX12) (T := TX12) (N := 62) hx hb hts iw_X12 hown hM.1 hP 0 rfl rfl 2 (by decide) (hts _ q_1497) (fun _ h9 => h9) rfl dX12_feed_103 ?_
  refine lv_iconst (v := 1) hx hb dX12_feed_106 (by decide) ?_
  refine lv_iadd hx hb dX12_feed_107 ?_
  refine lv_topi (fun z115 e9 => ?_)
  obtain rfl : z115 = (2 : Int32) := e9.trans (by decide)
  refine va_put (D := D) (ci := 11) (v := .int 2) (ty := .int) (C := RX12) (T := TX12) (N := 62) hx hb hts iw_X12 tyX12 tyX12_ok nmX12 hown hM.1 hP hD hS 0 rfl rfl 2 (by decide) (hts _ q_1497) (fun _ h9 => h9) rfl (by decide +kernel) rfl rfl (Nat.le_of_ble_eq_true rfl) dX12_feed_108 (fun H locs hP hD hS => ?_)
  have hP : va_P D nm_cl [(a0, .inr (11, [.int 0, v1, .int 2, .ref a1, v2, v3, v4, v5, v6, v7, v8, v9, v10, v11, v12, v13, v14, v15, v16, v17, v18, v19, v20, v21, v22, v23, v24, v25, v26, v27, v28, v29, v30, v31, v32, v33, v34, v35, v36, v37, v38, v39, v40, v41, v42, v43, v44, v45, v46, v47, v48, v49, v50, v51, v52, v53, v54, v55, v56, v57, v58, v59])), (a1, .inl (cB, 400, .inl f114))] H := hP
  have hD : va_D A [(a0, .inr (11, [.int 0, v1, .int 2, .ref a1, v2, v3, v4, v5, v6, v7, v8, v9, v10, v11, v12, v13, v14, v15, v16, v17, v18, v19, v20, v21, v22, v23, v24, v25, v26, v27, v28, v29, v30, v31, v32, v33, v34, v35, v36, v37, v38, v39, v40, v41, v42, v43, v44, v45, v46, v47, v48, v49, v50, v51, v52, v53, v54, v55, v56, v57, v58, v59])), (a1, .inl (cB, 400, .inl f114))] := hD
  refine lv_iinc (v := 2) (lv' := [(6, .int 2), (7, .int x0), (0, .ref a0), (1, .int x0), (2, .int x1), (3, .int x2), (4, .int x3), (5, .int x4)]) hx hb dX12_feed_111 hl (k := 1) rfl (by decide) (by decide) rfl (fun ls hl => ?_)
  refine lv_goto (tgt := 23) hx hb dX12_feed_114 (by decide) ?_
  refine lv_iload hx hb dX12_feed_23 (lv_at hl 0 rfl) ?_
  refine lv_bipush (v := 20) hx hb dX12_feed_25 (by decide) ?_
  refine lv_icmp_ge (tgt := 117) hx hb dX12_feed_27 (by decide) (fun c9 => absurd c9 (by decide)) (fun _ => ?_)
  refine lv_iload hx hb dX12_feed_30 (lv_at hl 0 rfl) ?_
  refine lv_iconst (v := 4) hx hb dX12_feed_32 (by decide) ?_
  refine lv_icmp_ge (tgt := 40) hx hb dX12_feed_33 (by decide) (fun c9 => absurd c9 (by decide)) (fun _ => ?_)
  refine lv_iload_n hx hb dX12_feed_36 rfl (lv_at hl 3 rfl) ?_
  refine lv_goto (tgt := 76) hx hb dX12_feed_37 (by decide) ?_
  refine lv_istore (lv' := [(7, .int x0), (6, .int 2), (0, .ref a0), (1, .int x0), (2, .int x1), (3, .int x2), (4, .int x3), (5, .int x4)]) hx hb dX12_feed_76 hl (by decide) rfl (fun ls hl => ?_)
  refine lv_aload_n hx hb dX12_feed_78 rfl (lv_at hl 2 rfl) ?_
  refine va_get (D := D) (ci := 11) (v := .ref a1) (C := RX12) (T := TX12) (N := 62) hx hb hts iw_X12 hown hM.1 hP 0 rfl rfl 3 (by decide) (hts _ q_1498) (fun _ h9 => h9) rfl dX12_feed_79 ?_
  refine lv_aload_n hx hb dX12_feed_82 rfl (lv_at hl 2 rfl) ?_
  refine va_get (D := D) (ci := 11) (v := .int 2) (C := RX12) (T := TX12) (N := 62) hx hb hts iw_X12 hown hM.1 hP 0 rfl rfl 2 (by decide) (hts _ q_1497) (fun _ h9 => h9) rfl dX12_feed_83 ?_
  refine lv_iload hx hb dX12_feed_86 (lv_at hl 0 rfl) ?_
  refine lv_bipush (v := 24) hx hb dX12_feed_88 (by decide) ?_
  refine lv_bipush (v := 8) hx hb dX12_feed_90 (by decide) ?_
  refine lv_iload hx hb dX12_feed_92 (lv_at hl 1 rfl) ?_
  refine lv_iconst (v := 4) hx hb dX12_feed_94 (by decide) ?_
  refine lv_irem hx hb dX12_feed_95 (by decide) ?_
  refine lv_topi (fun z116 e9 => ?_)
  obtain rfl : z116 = (2 : Int32) := e9.trans (by decide)
  refine lv_imul hx hb dX12_feed_96 ?_
  refine lv_topi (fun z117 e9 => ?_)
  obtain rfl : z117 = (16 : Int32) := e9.trans (by decide)
  refine lv_isub hx hb dX12_feed_97 ?_
  refine lv_topi (fun z118 e9 => ?_)
  obtain rfl : z118 = (8 : Int32) := e9.trans (by decide)
  refine lv_ishr hx hb dX12_feed_98 ?_
  refine lv_topi (fun z119 e9 => ?_)
  obtain ⟨z120, e9⟩ : ∃ y : Int32, Int8.toInt32 (Int32.toInt8 z119) = y := ⟨_, rfl⟩
  refine lv_i2b hx hb dX12_feed_99 e9 ?_
  refine va_bast hx hb hM.1 hP hD hS 1 1 rfl rfl (nm_vin (by decide)) dX12_feed_100 (fun H locs hP hD hS => ?_)
  have hP : va_P D nm_cl [(a0, .inr (11, [.int 0, v1, .int 2, .ref a1, v2, v3, v4, v5, v6, v7, v8, v9, v10, v11, v12, v13, v14, v15, v16, v17, v18, v19, v20, v21, v22, v23, v24, v25, v26, v27, v28, v29, v30, v31, v32, v33, v34, v35, v36, v37, v38, v39, v40, v41, v42, v43, v44, v45, v46, v47, v48, v49, v50, v51, v52, v53, v54, v55, v56, v57, v58, v59])), (a1, .inl (cB, 400, .inl (upd f114 (Int32.toNatClampNeg 2) (vp_nar .byte z120))))] H := hP
  have hD : va_D A [(a0, .inr (11, [.int 0, v1, .int 2, .ref a1, v2, v3, v4, v5, v6, v7, v8, v9, v10, v11, v12, v13, v14, v15, v16, v17, v18, v19, v20, v21, v22, v23, v24, v25, v26, v27, v28, v29, v30, v31, v32, v33, v34, v35, v36, v37, v38, v39, v40, v41, v42, v43, v44, v45, v46, v47, v48, v49, v50, v51, v52, v53, v54, v55, v56, v57, v58, v59])), (a1, .inl (cB, 400, .inl (upd f114 (Int32.toNatClampNeg 2) (vp_nar .byte z120))))] := hD
  obtain ⟨f121, hf9⟩ : ∃ g : Nat → Int32, g = (upd f114 (Int32.toNatClampNeg 2) (vp_nar .byte z120)) := ⟨_, rfl⟩
  rw [← hf9] at hP hD
  have hy_f121 : ∀ j, fits .byte (.int (f121 j)) = true := by rw [hf9]; exact nm_by hy_f114
  refine lv_aload_n hx hb dX12_feed_101 rfl (lv_at hl 2 rfl) ?_
  refine lv_dup hx hb dX12_feed_102 rfl ?_
  refine va_get (D := D) (ci := 11) (v := .int 2) (C := RX12) (T := TX12) (N := 62) hx hb hts iw_X12 hown hM.1 hP 0 rfl rfl 2 (by decide) (hts _ q_1497) (fun _ h9 => h9) rfl dX12_feed_103 ?_
  refine lv_iconst (v := 1) hx hb dX12_feed_106 (by decide) ?_
  refine lv_iadd hx hb dX12_feed_107 ?_
  refine lv_topi (fun z122 e9 => ?_)
  obtain rfl : z122 = (3 : Int32) := e9.trans (by decide)
  refine va_put (D := D) (ci := 11) (v := .int 3) (ty := .int) (C := RX12) (T := TX12) (N := 62) hx hb hts iw_X12 tyX12 tyX12_ok nmX12 hown hM.1 hP hD hS 0 rfl rfl 2 (by decide) (hts _ q_1497) (fun _ h9 => h9) rfl (by decide +kernel) rfl rfl (Nat.le_of_ble_eq_true rfl) dX12_feed_108 (fun H locs hP hD hS => ?_)
  have hP : va_P D nm_cl [(a0, .inr (11, [.int 0, v1, .int 3, .ref a1, v2, v3, v4, v5, v6, v7, v8, v9, v10, v11, v12, v13, v14, v15, v16, v17, v18, v19, v20, v21, v22, v23, v24, v25, v26, v27, v28, v29, v30, v31, v32, v33, v34, v35, v36, v37, v38, v39, v40, v41, v42, v43, v44, v45, v46, v47, v48, v49, v50, v51, v52, v53, v54, v55, v56, v57, v58, v59])), (a1, .inl (cB, 400, .inl f121))] H := hP
  have hD : va_D A [(a0, .inr (11, [.int 0, v1, .int 3, .ref a1, v2, v3, v4, v5, v6, v7, v8, v9, v10, v11, v12, v13, v14, v15, v16, v17, v18, v19, v20, v21, v22, v23, v24, v25, v26, v27, v28, v29, v30, v31, v32, v33, v34, v35, v36, v37, v38, v39, v40, v41, v42, v43, v44, v45, v46, v47, v48, v49, v50, v51, v52, v53, v54, v55, v56, v57, v58, v59])), (a1, .inl (cB, 400, .inl f121))] := hD
  refine lv_iinc (v := 3) (lv' := [(6, .int 3), (7, .int x0), (0, .ref a0), (1, .int x0), (2, .int x1), (3, .int x2), (4, .int x3), (5, .int x4)]) hx hb dX12_feed_111 hl (k := 1) rfl (by decide) (by decide) rfl (fun ls hl => ?_)
  refine lv_goto (tgt := 23) hx hb dX12_feed_114 (by decide) ?_
  refine lv_iload hx hb dX12_feed_23 (lv_at hl 0 rfl) ?_
  refine lv_bipush (v := 20) hx hb dX12_feed_25 (by decide) ?_
  refine lv_icmp_ge (tgt := 117) hx hb dX12_feed_27 (by decide) (fun c9 => absurd c9 (by decide)) (fun _ => ?_)
  refine lv_iload hx hb dX12_feed_30 (lv_at hl 0 rfl) ?_
  refine lv_iconst (v := 4) hx hb dX12_feed_32 (by decide) ?_
  refine lv_icmp_ge (tgt := 40) hx hb dX12_feed_33 (by decide) (fun c9 => absurd c9 (by decide)) (fun _ => ?_)
  refine lv_iload_n hx hb dX12_feed_36 rfl (lv_at hl 3 rfl) ?_
  refine lv_goto (tgt := 76) hx hb dX12_feed_37 (by decide) ?_
  refine lv_istore (lv' := [(7, .int x0), (6, .int 3), (0, .ref a0), (1, .int x0), (2, .int x1), (3, .int x2), (4, .int x3), (5, .int x4)]) hx hb dX12_feed_76 hl (by decide) rfl (fun ls hl => ?_)
  refine lv_aload_n hx hb dX12_feed_78 rfl (lv_at hl 2 rfl) ?_
  refine va_get (D := D) (ci := 11) (v := .ref a1) (C := RX12) (T := TX12) (N := 62) hx hb hts iw_X12 hown hM.1 hP 0 rfl rfl 3 (by decide) (hts _ q_1498) (fun _ h9 => h9) rfl dX12_feed_79 ?_
  refine lv_aload_n hx hb dX12_feed_82 rfl (lv_at hl 2 rfl) ?_
  refine va_get (D := D) (ci := 11) (v := .int 3) (C := RX12) (T := TX12) (N := 62) hx hb hts iw_X12 hown hM.1 hP 0 rfl rfl 2 (by decide) (hts _ q_1497) (fun _ h9 => h9) rfl dX12_feed_83 ?_
  refine lv_iload hx hb dX12_feed_86 (lv_at hl 0 rfl) ?_
  refine lv_bipush (v := 24) hx hb dX12_feed_88 (by decide) ?_
  refine lv_bipush (v := 8) hx hb dX12_feed_90 (by decide) ?_
  refine lv_iload hx hb dX12_feed_92 (lv_at hl 1 rfl) ?_
  refine lv_iconst (v := 4) hx hb dX12_feed_94 (by decide) ?_
  refine lv_irem hx hb dX12_feed_95 (by decide) ?_
  refine lv_topi (fun z123 e9 => ?_)
  obtain rfl : z123 = (3 : Int32) := e9.trans (by decide)
  refine lv_imul hx hb dX12_feed_96 ?_
  refine lv_topi (fun z124 e9 => ?_)
  obtain rfl : z124 = (24 : Int32) := e9.trans (by decide)
  refine lv_isub hx hb dX12_feed_97 ?_
  refine lv_topi (fun z125 e9 => ?_)
  obtain rfl : z125 = (0 : Int32) := e9.trans (by decide)
  refine lv_ishr hx hb dX12_feed_98 ?_
  refine lv_topi (fun z126 e9 => ?_)
  obtain ⟨z127, e9⟩ : ∃ y : Int32, Int8.toInt32 (Int32.toInt8 z126) = y := ⟨_, rfl⟩
  refine lv_i2b hx hb dX12_feed_99 e9 ?_
  refine va_bast hx hb hM.1 hP hD hS 1 1 rfl rfl (nm_vin (by decide)) dX12_feed_100 (fun H locs hP hD hS => ?_)
  have hP : va_P D nm_cl [(a0, .inr (11, [.int 0, v1, .int 3, .ref a1, v2, v3, v4, v5, v6, v7, v8, v9, v10, v11, v12, v13, v14, v15, v16, v17, v18, v19, v20, v21, v22, v23, v24, v25, v26, v27, v28, v29, v30, v31, v32, v33, v34, v35, v36, v37, v38, v39, v40, v41, v42, v43, v44, v45, v46, v47, v48, v49, v50, v51, v52, v53, v54, v55, v56, v57, v58, v59])), (a1, .inl (cB, 400, .inl (upd f121 (Int32.toNatClampNeg 3) (vp_nar .byte z127))))] H := hP
  have hD : va_D A [(a0, .inr (11, [.int 0, v1, .int 3, .ref a1, v2, v3, v4, v5, v6, v7, v8, v9, v10, v11, v12, v13, v14, v15, v16, v17, v18, v19, v20, v21, v22, v23, v24, v25, v26, v27, v28, v29, v30, v31, v32, v33, v34, v35, v36, v37, v38, v39, v40, v41, v42, v43, v44, v45, v46, v47, v48, v49, v50, v51, v52, v53, v54, v55, v56, v57, v58, v59])), (a1, .inl (cB, 400, .inl (upd f121 (Int32.toNatClampNeg 3) (vp_nar .byte z127))))] := hD
  obtain ⟨f128, hf9⟩ : ∃ g : Nat → Int32, g = (upd f121 (Int32.toNatClampNeg 3) (vp_nar .byte z127)) := ⟨_, rfl⟩
  rw [← hf9] at hP hD
  have hy_f128 : ∀ j, fits .byte (.int (f128 j)) = true := by rw [hf9]; exact nm_by hy_f121
  refine lv_aload_n hx hb dX12_feed_101 rfl (lv_at hl 2 rfl) ?_
  refine lv_dup hx hb dX12_feed_102 rfl ?_
  refine va_get (D := D) (ci := 11) (v := .int 3) (C := RX12) (T := TX12) (N := 62) hx hb hts iw_X12 hown hM.1 hP 0 rfl rfl 2 (by decide) (hts _ q_1497) (fun _ h9 => h9) rfl dX12_feed_103 ?_
  refine lv_iconst (v := 1) hx hb dX12_feed_106 (by decide) ?_
  refine lv_iadd hx hb dX12_feed_107 ?_
  refine lv_topi (fun z129 e9 => ?_)
  obtain rfl : z129 = (4 : Int32) := e9.trans (by decide)
  refine va_put (D := D) (ci := 11) (v := .int 4) (ty := .int) (C := RX12) (T := TX12) (N := 62) hx hb hts iw_X12 tyX12 tyX12_ok nmX12 hown hM.1 hP hD hS 0 rfl rfl 2 (by decide) (hts _ q_1497) (fun _ h9 => h9) rfl (by decide +kernel) rfl rfl (Nat.le_of_ble_eq_true rfl) dX12_feed_108 (fun H locs hP hD hS => ?_)
  have hP : va_P D nm_cl [(a0, .inr (11, [.int 0, v1, .int 4, .ref a1, v2, v3, v4, v5, v6, v7, v8, v9, v10, v11, v12, v13, v14, v15, v16, v17, v18, v19, v20, v21, v22, v23, v24, v25, v26, v27, v28, v29, v30, v31, v32, v33, v34, v35, v36, v37, v38, v39, v40, v41, v42, v43, v44, v45, v46, v47, v48, v49, v50, v51, v52, v53, v54, v55, v56, v57, v58, v59])), (a1, .inl (cB, 400, .inl f128))] H := hP
  have hD : va_D A [(a0, .inr (11, [.int 0, v1, .int 4, .ref a1, v2, v3, v4, v5, v6, v7, v8, v9, v10, v11, v12, v13, v14, v15, v16, v17, v18, v19, v20, v21, v22, v23, v24, v25, v26, v27, v28, v29, v30, v31, v32, v33, v34, v35, v36, v37, v38, v39, v40, v41, v42, v43, v44, v45, v46, v47, v48, v49, v50, v51, v52, v53, v54, v55, v56, v57, v58, v59])), (a1, .inl (cB, 400, .inl f128))] := hD
  refine lv_iinc (v := 4) (lv' := [(6, .int 4), (7, .int x0), (0, .ref a0), (1, .int x0), (2, .int x1), (3, .int x2), (4, .int x3), (5, .int x4)]) hx hb dX12_feed_111 hl (k := 1) rfl (by decide) (by decide) rfl (fun ls hl => ?_)
  refine lv_goto (tgt := 23) hx hb dX12_feed_114 (by decide) ?_
  refine lv_iload hx hb dX12_feed_23 (lv_at hl 0 rfl) ?_
  refine lv_bipush (v := 20) hx hb dX12_feed_25 (by decide) ?_
  refine lv_icmp_ge (tgt := 117) hx hb dX12_feed_27 (by decide) (fun c9 => absurd c9 (by decide)) (fun _ => ?_)
  refine lv_iload hx hb dX12_feed_30 (lv_at hl 0 rfl) ?_
  refine lv_iconst (v := 4) hx hb dX12_feed_32 (by decide) ?_
  refine lv_icmp_ge (tgt := 40) hx hb dX12_feed_33 (by decide) (fun _ => ?_) (fun c9 => absurd (by decide) c9)
  refine lv_iload hx hb dX12_feed_40 (lv_at hl 0 rfl) ?_
  refine lv_bipush (v := 8) hx hb dX12_feed_42 (by decide) ?_
  refine lv_icmp_ge (tgt := 51) hx hb dX12_feed_44 (by decide) (fun c9 => absurd c9 (by decide)) (fun _ => ?_)
  refine lv_iload_n hx hb dX12_feed_47 rfl (lv_at hl 4 rfl) ?_
  refine lv_goto (tgt := 76) hx hb dX12_feed_48 (by decide) ?_
  refine lv_istore (lv' := [(7, .int x1), (6, .int 4), (0, .ref a0), (1, .int x0), (2, .int x1), (3, .int x2), (4, .int x3), (5, .int x4)]) hx hb dX12_feed_76 hl (by decide) rfl (fun ls hl => ?_)
  refine lv_aload_n hx hb dX12_feed_78 rfl (lv_at hl 2 rfl) ?_
  refine va_get (D := D) (ci := 11) (v := .ref a1) (C := RX12) (T := TX12) (N := 62) hx hb hts iw_X12 hown hM.1 hP 0 rfl rfl 3 (by decide) (hts _ q_1498) (fun _ h9 => h9) rfl dX12_feed_79 ?_
  refine lv_aload_n hx hb dX12_feed_82 rfl (lv_at hl 2 rfl) ?_
  refine va_get (D := D) (ci := 11) (v := .int 4) (C := RX12) (T := TX12) (N := 62) hx hb hts iw_X12 hown hM.1 hP 0 rfl rfl 2 (by decide) (hts _ q_1497) (fun _ h9 => h9) rfl dX12_feed_83 ?_
  refine lv_iload hx hb dX12_feed_86 (lv_at hl 0 rfl) ?_
  refine lv_bipush (v := 24) hx hb dX12_feed_88 (by decide) ?_
  refine lv_bipush (v := 8) hx hb dX12_feed_90 (by decide) ?_
  refine lv_iload hx hb dX12_feed_92 (lv_at hl 1 rfl) ?_
  refine lv_iconst (v := 4) hx hb dX12_feed_94 (by decide) ?_
  refine lv_irem hx hb dX12_feed_95 (by decide) ?_
  refine lv_topi (fun z130 e9 => ?_)
  obtain rfl : z130 = (0 : Int32) := e9.trans (by decide)
  refine lv_imul hx hb dX12_feed_96 ?_
  refine lv_topi (fun z131 e9 => ?_)
  obtain rfl : z131 = (0 : Int32) := e9.trans (by decide)
  refine lv_isub hx hb dX12_feed_97 ?_
  refine lv_topi (fun z132 e9 => ?_)
  obtain rfl : z132 = (24 : Int32) := e9.trans (by decide)
  refine lv_ishr hx hb dX12_feed_98 ?_
  refine lv_topi (fun z133 e9 => ?_)
  obtain ⟨z134, e9⟩ : ∃ y : Int32, Int8.toInt32 (Int32.toInt8 z133) = y := ⟨_, rfl⟩
  refine lv_i2b hx hb dX12_feed_99 e9 ?_
  refine va_bast hx hb hM.1 hP hD hS 1 1 rfl rfl (nm_vin (by decide)) dX12_feed_100 (fun H locs hP hD hS => ?_)
  have hP : va_P D nm_cl [(a0, .inr (11, [.int 0, v1, .int 4, .ref a1, v2, v3, v4, v5, v6, v7, v8, v9, v10, v11, v12, v13, v14, v15, v16, v17, v18, v19, v20, v21, v22, v23, v24, v25, v26, v27, v28, v29, v30, v31, v32, v33, v34, v35, v36, v37, v38, v39, v40, v41, v42, v43, v44, v45, v46, v47, v48, v49, v50, v51, v52, v53, v54, v55, v56, v57, v58, v59])), (a1, .inl (cB, 400, .inl (upd f128 (Int32.toNatClampNeg 4) (vp_nar .byte z134))))] H := hP
  have hD : va_D A [(a0, .inr (11, [.int 0, v1, .int 4, .ref a1, v2, v3, v4, v5, v6, v7, v8, v9, v10, v11, v12, v13, v14, v15, v16, v17, v18, v19, v20, v21, v22, v23, v24, v25, v26, v27, v28, v29, v30, v31, v32, v33, v34, v35, v36, v37, v38, v39, v40, v41, v42, v43, v44, v45, v46, v47, v48, v49, v50, v51, v52, v53, v54, v55, v56, v57, v58, v59])), (a1, .inl (cB, 400, .inl (upd f128 (Int32.toNatClampNeg 4) (vp_nar .byte z134))))] := hD
  obtain ⟨f135, hf9⟩ : ∃ g : Nat → Int32, g = (upd f128 (Int32.toNatClampNeg 4) (vp_nar .byte z134)) := ⟨_, rfl⟩
  rw [← hf9] at hP hD
  have hy_f135 : ∀ j, fits .byte (.int (f135 j)) = true := by rw [hf9]; exact nm_by hy_f128
  refine lv_aload_n hx hb dX12_feed_101 rfl (lv_at hl 2 rfl) ?_
  refine lv_dup hx hb dX12_feed_102 rfl ?_
  refine va_get (D := D) (ci := 11) (v := .int 4) (C := RX12) (T := TX12) (N := 62) hx hb hts iw_X12 hown hM.1 hP 0 rfl rfl 2 (by decide) (hts _ q_1497) (fun _ h9 => h9) rfl dX12_feed_103 ?_
  refine lv_iconst (v := 1) hx hb dX12_feed_106 (by decide) ?_
  refine lv_iadd hx hb dX12_feed_107 ?_
  refine lv_topi (fun z136 e9 => ?_)
  obtain rfl : z136 = (5 : Int32) := e9.trans (by decide)
  refine va_put (D := D) (ci := 11) (v := .int 5) (ty := .int) (C := RX12) (T := TX12) (N := 62) hx hb hts iw_X12 tyX12 tyX12_ok nmX12 hown hM.1 hP hD hS 0 rfl rfl 2 (by decide) (hts _ q_1497) (fun _ h9 => h9) rfl (by decide +kernel) rfl rfl (Nat.le_of_ble_eq_true rfl) dX12_feed_108 (fun H locs hP hD hS => ?_)
  have hP : va_P D nm_cl [(a0, .inr (11, [.int 0, v1, .int 5, .ref a1, v2, v3, v4, v5, v6, v7, v8, v9, v10, v11, v12, v13, v14, v15, v16, v17, v18, v19, v20, v21, v22, v23, v24, v25, v26, v27, v28, v29, v30, v31, v32, v33, v34, v35, v36, v37, v38, v39, v40, v41, v42, v43, v44, v45, v46, v47, v48, v49, v50, v51, v52, v53, v54, v55, v56, v57, v58, v59])), (a1, .inl (cB, 400, .inl f135))] H := hP
  have hD : va_D A [(a0, .inr (11, [.int 0, v1, .int 5, .ref a1, v2, v3, v4, v5, v6, v7, v8, v9, v10, v11, v12, v13, v14, v15, v16, v17, v18, v19, v20, v21, v22, v23, v24, v25, v26, v27, v28, v29, v30, v31, v32, v33, v34, v35, v36, v37, v38, v39, v40, v41, v42, v43, v44, v45, v46, v47, v48, v49, v50, v51, v52, v53, v54, v55, v56, v57, v58, v59])), (a1, .inl (cB, 400, .inl f135))] := hD
  refine lv_iinc (v := 5) (lv' := [(6, .int 5), (7, .int x1), (0, .ref a0), (1, .int x0), (2, .int x1), (3, .int x2), (4, .int x3), (5, .int x4)]) hx hb dX12_feed_111 hl (k := 1) rfl (by decide) (by decide) rfl (fun ls hl => ?_)
  refine lv_goto (tgt := 23) hx hb dX12_feed_114 (by decide) ?_
  refine lv_iload hx hb dX12_feed_23 (lv_at hl 0 rfl) ?_
  refine lv_bipush (v := 20) hx hb dX12_feed_25 (by decide) ?_
  refine lv_icmp_ge (tgt := 117) hx hb dX12_feed_27 (by decide) (fun c9 => absurd c9 (by decide)) (fun _ => ?_)
  refine lv_iload hx hb dX12_feed_30 (lv_at hl 0 rfl) ?_
  refine lv_iconst (v := 4) hx hb dX12_feed_32 (by decide) ?_
  refine lv_icmp_ge (tgt := 40) hx hb dX12_feed_33 (by decide) (fun _ => ?_) (fun c9 => absurd (by decide) c9)
  refine lv_iload hx hb dX12_feed_40 (lv_at hl 0 rfl) ?_
  refine lv_bipush (v := 8) hx hb dX12_feed_42 (by decide) ?_
  refine lv_icmp_ge (tgt := 51) hx hb dX12_feed_44 (by decide) (fun c9 => absurd c9 (by decide)) (fun _ => ?_)
  refine lv_iload_n hx hb dX12_feed_47 rfl (lv_at hl 4 rfl) ?_
  refine lv_goto (tgt := 76) hx hb dX12_feed_48 (by decide) ?_
  refine lv_istore (lv' := [(7, .int x1), (6, .int 5), (0, .ref a0), (1, .int x0), (2, .int x1), (3, .int x2), (4, .int x3), (5, .int x4)]) hx hb dX12_feed_76 hl (by decide) rfl (fun ls hl => ?_)
  refine lv_aload_n hx hb dX12_feed_78 rfl (lv_at hl 2 rfl) ?_
  refine va_get (D := D) (ci := 11) (v := .ref a1) (C := RX12) (T := TX12) (N := 62) hx hb hts iw_X12 hown hM.1 hP 0 rfl rfl 3 (by decide) (hts _ q_1498) (fun _ h9 => h9) rfl dX12_feed_79 ?_
  refine lv_aload_n hx hb dX12_feed_82 rfl (lv_at hl 2 rfl) ?_
  refine va_get (D := D) (ci := 11) (v := .int 5) (C := RX12) (T := TX12) (N := 62) hx hb hts iw_X12 hown hM.1 hP 0 rfl rfl 2 (by decide) (hts _ q_1497) (fun _ h9 => h9) rfl dX12_feed_83 ?_
  refine lv_iload hx hb dX12_feed_86 (lv_at hl 0 rfl) ?_
  refine lv_bipush (v := 24) hx hb dX12_feed_88 (by decide) ?_
  refine lv_bipush (v := 8) hx hb dX12_feed_90 (by decide) ?_
  refine lv_iload hx hb dX12_feed_92 (lv_at hl 1 rfl) ?_
  refine lv_iconst (v := 4) hx hb dX12_feed_94 (by decide) ?_
  refine lv_irem hx hb dX12_feed_95 (by decide) ?_
  refine lv_topi (fun z137 e9 => ?_)
  obtain rfl : z137 = (1 : Int32) := e9.trans (by decide)
  refine lv_imul hx hb dX12_feed_96 ?_
  refine lv_topi (fun z138 e9 => ?_)
  obtain rfl : z138 = (8 : Int32) := e9.trans (by decide)
  refine lv_isub hx hb dX12_feed_97 ?_
  refine lv_topi (fun z139 e9 => ?_)
  obtain rfl : z139 = (16 : Int32) := e9.trans (by decide)
  refine lv_ishr hx hb dX12_feed_98 ?_
  refine lv_topi (fun z140 e9 => ?_)
  obtain ⟨z141, e9⟩ : ∃ y : Int32, Int8.toInt32 (Int32.toInt8 z140) = y := ⟨_, rfl⟩
  refine lv_i2b hx hb dX12_feed_99 e9 ?_
  refine va_bast hx hb hM.1 hP hD hS 1 1 rfl rfl (nm_vin (by decide)) dX12_feed_100 (fun H locs hP hD hS => ?_)
  have hP : va_P D nm_cl [(a0, .inr (11, [.int 0, v1, .int 5, .ref a1, v2, v3, v4, v5, v6, v7, v8, v9, v10, v11, v12, v13, v14, v15, v16, v17, v18, v19, v20, v21, v22, v23, v24, v25, v26, v27, v28, v29, v30, v31, v32, v33, v34, v35, v36, v37, v38, v39, v40, v41, v42, v43, v44, v45, v46, v47, v48, v49, v50, v51, v52, v53, v54, v55, v56, v57, v58, v59])), (a1, .inl (cB, 400, .inl (upd f135 (Int32.toNatClampNeg 5) (vp_nar .byte z141))))] H := hP
  have hD : va_D A [(a0, .inr (11, [.int 0, v1, .int 5, .ref a1, v2, v3, v4, v5, v6, v7, v8, v9, v10, v11, v12, v13, v14, v15, v16, v17, v18, v19, v20, v21, v22, v23, v24, v25, v26, v27, v28, v29, v30, v31, v32, v33, v34, v35, v36, v37, v38, v39, v40, v41, v42, v43, v44, v45, v46, v47, v48, v49, v50, v51, v52, v53, v54, v55, v56, v57, v58, v59])), (a1, .inl (cB, 400, .inl (upd f135 (Int32.toNatClampNeg 5) (vp_nar .byte z141))))] := hD
  obtain ⟨f142, hf9⟩ : ∃ g : Nat → Int32, g = (upd f135 (Int32.toNatClampNeg 5) (vp_nar .byte z141)) := ⟨_, rfl⟩
  rw [← hf9] at hP hD
  have hy_f142 : ∀ j, fits .byte (.int (f142 j)) = true := by rw [hf9]; exact nm_by hy_f135
  refine lv_aload_n hx hb dX12_feed_101 rfl (lv_at hl 2 rfl) ?_
  refine lv_dup hx hb dX12_feed_102 rfl ?_
  refine va_get (D := D) (ci := 11) (v := .int 5) (C := RX12) (T := TX12) (N := 62) hx hb hts iw_X12 hown hM.1 hP 0 rfl rfl 2 (by decide) (hts _ q_1497) (fun _ h9 => h9) rfl dX12_feed_103 ?_
  refine lv_iconst (v := 1) hx hb dX12_feed_106 (by decide) ?_
  refine lv_iadd hx hb dX12_feed_107 ?_
  refine lv_topi (fun z143 e9 => ?_)
  obtain rfl : z143 = (6 : Int32) := e9.trans (by decide)
  refine va_put (D := D) (ci := 11) (v := .int 6) (ty := .int) (C := RX12) (T := TX12) (N := 62) hx hb hts iw_X12 tyX12 tyX12_ok nmX12 hown hM.1 hP hD hS 0 rfl rfl 2 (by decide) (hts _ q_1497) (fun _ h9 => h9) rfl (by decide +kernel) rfl rfl (Nat.le_of_ble_eq_true rfl) dX12_feed_108 (fun H locs hP hD hS => ?_)
  have hP : va_P D nm_cl [(a0, .inr (11, [.int 0, v1, .int 6, .ref a1, v2, v3, v4, v5, v6, v7, v8, v9, v10, v11, v12, v13, v14, v15, v16, v17, v18, v19, v20, v21, v22, v23, v24, v25, v26, v27, v28, v29, v30, v31, v32, v33, v34, v35, v36, v37, v38, v39, v40, v41, v42, v43, v44, v45, v46, v47, v48, v49, v50, v51, v52, v53, v54, v55, v56, v57, v58, v59])), (a1, .inl (cB, 400, .inl f142))] H := hP
  have hD : va_D A [(a0, .inr (11, [.int 0, v1, .int 6, .ref a1, v2, v3, v4, v5, v6, v7, v8, v9, v10, v11, v12, v13, v14, v15, v16, v17, v18, v19, v20, v21, v22, v23, v24, v25, v26, v27, v28, v29, v30, v31, v32, v33, v34, v35, v36, v37, v38, v39, v40, v41, v42, v43, v44, v45, v46, v47, v48, v49, v50, v51, v52, v53, v54, v55, v56, v57, v58, v59])), (a1, .inl (cB, 400, .inl f142))] := hD
  refine lv_iinc (v := 6) (lv' := [(6, .int 6), (7, .int x1), (0, .ref a0), (1, .int x0), (2, .int x1), (3, .int x2), (4, .int x3), (5, .int x4)]) hx hb dX12_feed_111 hl (k := 1) rfl (by decide) (by decide) rfl (fun ls hl => ?_)
  refine lv_goto (tgt := 23) hx hb dX12_feed_114 (by decide) ?_
  refine lv_iload hx hb dX12_feed_23 (lv_at hl 0 rfl) ?_
  refine lv_bipush (v := 20) hx hb dX12_feed_25 (by decide) ?_
  refine lv_icmp_ge (tgt := 117) hx hb dX12_feed_27 (by decide) (fun c9 => absurd c9 (by decide)) (fun _ => ?_)
  refine lv_iload hx hb dX12_feed_30 (lv_at hl 0 rfl) ?_
  refine lv_iconst (v := 4) hx hb dX12_feed_32 (by decide) ?_
  refine lv_icmp_ge (tgt := 40) hx hb dX12_feed_33 (by decide) (fun _ => ?_) (fun c9 => absurd (by decide) c9)
  refine lv_iload hx hb dX12_feed_40 (lv_at hl 0 rfl) ?_
  refine lv_bipush (v := 8) hx hb dX12_feed_42 (by decide) ?_
  refine lv_icmp_ge (tgt := 51) hx hb dX12_feed_44 (by decide) (fun c9 => absurd c9 (by decide)) (fun _ => ?_)
  refine lv_iload_n hx hb dX12_feed_47 rfl (lv_at hl 4 rfl) ?_
  refine lv_goto (tgt := 76) hx hb dX12_feed_48 (by decide) ?_
  refine lv_istore (lv' := [(7, .int x1), (6, .int 6), (0, .ref a0), (1, .int x0), (2, .int x1), (3, .int x2), (4, .int x3), (5, .int x4)]) hx hb dX12_feed_76 hl (by decide) rfl (fun ls hl => ?_)
  refine lv_aload_n hx hb dX12_feed_78 rfl (lv_at hl 2 rfl) ?_
  refine va_get (D := D) (ci := 11) (v := .ref a1) (C := RX12) (T := TX12) (N := 62) hx hb hts iw_X12 hown hM.1 hP 0 rfl rfl 3 (by decide) (hts _ q_1498) (fun _ h9 => h9) rfl dX12_feed_79 ?_
  refine lv_aload_n hx hb dX12_feed_82 rfl (lv_at hl 2 rfl) ?_
  refine va_get (D := D) (ci := 11) (v := .int 6) (C := RX12) (T := TX12) (N := 62) hx hb hts iw_X12 hown hM.1 hP 0 rfl rfl 2 (by decide) (hts _ q_1497) (fun _ h9 => h9) rfl dX12_feed_83 ?_
  refine lv_iload hx hb dX12_feed_86 (lv_at hl 0 rfl) ?_
  refine lv_bipush (v := 24) hx hb dX12_feed_88 (by decide) ?_
  refine lv_bipush (v := 8) hx hb dX12_feed_90 (by decide) ?_
  refine lv_iload hx hb dX12_feed_92 (lv_at hl 1 rfl) ?_
  refine lv_iconst (v := 4) hx hb dX12_feed_94 (by decide) ?_
  refine lv_irem hx hb dX12_feed_95 (by decide) ?_
  refine lv_topi (fun z144 e9 => ?_)
  obtain rfl : z144 = (2 : Int32) := e9.trans (by decide)
  refine lv_imul hx hb dX12_feed_96 ?_
  refine lv_topi (fun z145 e9 => ?_)
  obtain rfl : z145 = (16 : Int32) := e9.trans (by decide)
  refine lv_isub hx hb dX12_feed_97 ?_
  refine lv_topi (fun z146 e9 => ?_)
  obtain rfl : z146 = (8 : Int32) := e9.trans (by decide)
  refine lv_ishr hx hb dX12_feed_98 ?_
  refine lv_topi (fun z147 e9 => ?_)
  obtain ⟨z148, e9⟩ : ∃ y : Int32, Int8.toInt32 (Int32.toInt8 z147) = y := ⟨_, rfl⟩
  refine lv_i2b hx hb dX12_feed_99 e9 ?_
  refine va_bast hx hb hM.1 hP hD hS 1 1 rfl rfl (nm_vin (by decide)) dX12_feed_100 (fun H locs hP hD hS => ?_)
  have hP : va_P D nm_cl [(a0, .inr (11, [.int 0, v1, .int 6, .ref a1, v2, v3, v4, v5, v6, v7, v8, v9, v10, v11, v12, v13, v14, v15, v16, v17, v18, v19, v20, v21, v22, v23, v24, v25, v26, v27, v28, v29, v30, v31, v32, v33, v34, v35, v36, v37, v38, v39, v40, v41, v42, v43, v44, v45, v46, v47, v48, v49, v50, v51, v52, v53, v54, v55, v56, v57, v58, v59])), (a1, .inl (cB, 400, .inl (upd f142 (Int32.toNatClampNeg 6) (vp_nar .byte z148))))] H := hP
  have hD : va_D A [(a0, .inr (11, [.int 0, v1, .int 6, .ref a1, v2, v3, v4, v5, v6, v7, v8, v9, v10, v11, v12, v13, v14, v15, v16, v17, v18, v19, v20, v21, v22, v23, v24, v25, v26, v27, v28, v29, v30, v31, v32, v33, v34, v35, v36, v37, v38, v39, v40, v41, v42, v43, v44, v45, v46, v47, v48, v49, v50, v51, v52, v53, v54, v55, v56, v57, v58, v59])), (a1, .inl (cB, 400, .inl (upd f142 (Int32.toNatClampNeg 6) (vp_nar .byte z148))))] := hD
  obtain ⟨f149, hf9⟩ : ∃ g : Nat → Int32, g = (upd f142 (Int32.toNatClampNeg 6) (vp_nar .byte z148)) := ⟨_, rfl⟩
  rw [← hf9] at hP hD
  have hy_f149 : ∀ j, fits .byte (.int (f149 j)) = true := by rw [hf9]; exact nm_by hy_f142
  refine lv_aload_n hx hb dX12_feed_101 rfl (lv_at hl 2 rfl) ?_
  refine lv_dup hx hb dX12_feed_102 rfl ?_
  refine va_get (D := D) (ci := 11) (v := .int 6) (C := RX12) (T := TX12) (N := 62) hx hb hts iw_X12 hown hM.1 hP 0 rfl rfl 2 (by decide) (hts _ q_1497) (fun _ h9 => h9) rfl dX12_feed_103 ?_
  refine lv_iconst (v := 1) hx hb dX12_feed_106 (by decide) ?_
  refine lv_iadd hx hb dX12_feed_107 ?_
  refine lv_topi (fun z150 e9 => ?_)
  obtain rfl : z150 = (7 : Int32) := e9.trans (by decide)
  refine va_put (D := D) (ci := 11) (v := .int 7) (ty := .int) (C := RX12) (T := TX12) (N := 62) hx hb hts iw_X12 tyX12 tyX12_ok nmX12 hown hM.1 hP hD hS 0 rfl rfl 2 (by decide) (hts _ q_1497) (fun _ h9 => h9) rfl (by decide +kernel) rfl rfl (Nat.le_of_ble_eq_true rfl) dX12_feed_108 (fun H locs hP hD hS => ?_)
  have hP : va_P D nm_cl [(a0, .inr (11, [.int 0, v1, .int 7, .ref a1, v2, v3, v4, v5, v6, v7, v8, v9, v10, v11, v12, v13, v14, v15, v16, v17, v18, v19, v20, v21, v22, v23, v24, v25, v26, v27, v28, v29, v30, v31, v32, v33, v34, v35, v36, v37, v38, v39, v40, v41, v42, v43, v44, v45, v46, v47, v48, v49, v50, v51, v52, v53, v54, v55, v56, v57, v58, v59])), (a1, .inl (cB, 400, .inl f149))] H := hP
  have hD : va_D A [(a0, .inr (11, [.int 0, v1, .int 7, .ref a1, v2, v3, v4, v5, v6, v7, v8, v9, v10, v11, v12, v13, v14, v15, v16, v17, v18, v19, v20, v21, v22, v23, v24, v25, v26, v27, v28, v29, v30, v31, v32, v33, v34, v35, v36, v37, v38, v39, v40, v41, v42, v43, v44, v45, v46, v47, v48, v49, v50, v51, v52, v53, v54, v55, v56, v57, v58, v59])), (a1, .inl (cB, 400, .inl f149))] := hD
  refine lv_iinc (v := 7) (lv' := [(6, .int 7), (7, .int x1), (0, .ref a0), (1, .int x0), (2, .int x1), (3, .int x2), (4, .int x3), (5, .int x4)]) hx hb dX12_feed_111 hl (k := 1) rfl (by decide) (by decide) rfl (fun ls hl => ?_)
  refine lv_goto (tgt := 23) hx hb dX12_feed_114 (by decide) ?_
  refine lv_iload hx hb dX12_feed_23 (lv_at hl 0 rfl) ?_
  refine lv_bipush (v := 20) hx hb dX12_feed_25 (by decide) ?_
  refine lv_icmp_ge (tgt := 117) hx hb dX12_feed_27 (by decide) (fun c9 => absurd c9 (by decide)) (fun _ => ?_)
  refine lv_iload hx hb dX12_feed_30 (lv_at hl 0 rfl) ?_
  refine lv_iconst (v := 4) hx hb dX12_feed_32 (by decide) ?_
  refine lv_icmp_ge (tgt := 40) hx hb dX12_feed_33 (by decide) (fun _ => ?_) (fun c9 => absurd (by decide) c9)
  refine lv_iload hx hb dX12_feed_40 (lv_at hl 0 rfl) ?_
  refine lv_bipush (v := 8) hx hb dX12_feed_42 (by decide) ?_
  refine lv_icmp_ge (tgt := 51) hx hb dX12_feed_44 (by decide) (fun c9 => absurd c9 (by decide)) (fun _ => ?_)
  refine lv_iload_n hx hb dX12_feed_47 rfl (lv_at hl 4 rfl) ?_
  refine lv_goto (tgt := 76) hx hb dX12_feed_48 (by decide) ?_
  refine lv_istore (lv' := [(7, .int x1), (6, .int 7), (0, .ref a0), (1, .int x0), (2, .int x1), (3, .int x2), (4, .int x3), (5, .int x4)]) hx hb dX12_feed_76 hl (by decide) rfl (fun ls hl => ?_)
  refine lv_aload_n hx hb dX12_feed_78 rfl (lv_at hl 2 rfl) ?_
  refine va_get (D := D) (ci := 11) (v := .ref a1) (C := RX12) (T := TX12) (N := 62) hx hb hts iw_X12 hown hM.1 hP 0 rfl rfl 3 (by decide) (hts _ q_1498) (fun _ h9 => h9) rfl dX12_feed_79 ?_
  refine lv_aload_n hx hb dX12_feed_82 rfl (lv_at hl 2 rfl) ?_
  refine va_get (D := D) (ci := 11) (v := .int 7) (C := RX12) (T := TX12) (N := 62) hx hb hts iw_X12 hown hM.1 hP 0 rfl rfl 2 (by decide) (hts _ q_1497) (fun _ h9 => h9) rfl dX12_feed_83 ?_
  refine lv_iload hx hb dX12_feed_86 (lv_at hl 0 rfl) ?_
  refine lv_bipush (v := 24) hx hb dX12_feed_88 (by decide) ?_
  refine lv_bipush (v := 8) hx hb dX12_feed_90 (by decide) ?_
  refine lv_iload hx hb dX12_feed_92 (lv_at hl 1 rfl) ?_
  refine lv_iconst (v := 4) hx hb dX12_feed_94 (by decide) ?_
  refine lv_irem hx hb dX12_feed_95 (by decide) ?_
  refine lv_topi (fun z151 e9 => ?_)
  obtain rfl : z151 = (3 : Int32) := e9.trans (by decide)
  refine lv_imul hx hb dX12_feed_96 ?_
  refine lv_topi (fun z152 e9 => ?_)
  obtain rfl : z152 = (24 : Int32) := e9.trans (by decide)
  refine lv_isub hx hb dX12_feed_97 ?_
  refine lv_topi (fun z153 e9 => ?_)
  obtain rfl : z153 = (0 : Int32) := e9.trans (by decide)
  refine lv_ishr hx hb dX12_feed_98 ?_
  refine lv_topi (fun z154 e9 => ?_)
  obtain ⟨z155, e9⟩ : ∃ y : Int32, Int8.toInt32 (Int32.toInt8 z154) = y := ⟨_, rfl⟩
  refine lv_i2b hx hb dX12_feed_99 e9 ?_
  refine va_bast hx hb hM.1 hP hD hS 1 1 rfl rfl (nm_vin (by decide)) dX12_feed_100 (fun H locs hP hD hS => ?_)
  have hP : va_P D nm_cl [(a0, .inr (11, [.int 0, v1, .int 7, .ref a1, v2, v3, v4, v5, v6, v7, v8, v9, v10, v11, v12, v13, v14, v15, v16, v17, v18, v19, v20, v21, v22, v23, v24, v25, v26, v27, v28, v29, v30, v31, v32, v33, v34, v35, v36, v37, v38, v39, v40, v41, v42, v43, v44, v45, v46, v47, v48, v49, v50, v51, v52, v53, v54, v55, v56, v57, v58, v59])), (a1, .inl (cB, 400, .inl (upd f149 (Int32.toNatClampNeg 7) (vp_nar .byte z155))))] H := hP
  have hD : va_D A [(a0, .inr (11, [.int 0, v1, .int 7, .ref a1, v2, v3, v4, v5, v6, v7, v8, v9, v10, v11, v12, v13, v14, v15, v16, v17, v18, v19, v20, v21, v22, v23, v24, v25, v26, v27, v28, v29, v30, v31, v32, v33, v34, v35, v36, v37, v38, v39, v40, v41, v42, v43, v44, v45, v46, v47, v48, v49, v50, v51, v52, v53, v54, v55, v56, v57, v58, v59])), (a1, .inl (cB, 400, .inl (upd f149 (Int32.toNatClampNeg 7) (vp_nar .byte z155))))] := hD
  obtain ⟨f156, hf9⟩ : ∃ g : Nat → Int32, g = (upd f149 (Int32.toNatClampNeg 7) (vp_nar .byte z155)) := ⟨_, rfl⟩
  rw [← hf9] at hP hD
  have hy_f156 : ∀ j, fits .byte (.int (f156 j)) = true := by rw [hf9]; exact nm_by hy_f149
  refine lv_aload_n hx hb dX12_feed_101 rfl (lv_at hl 2 rfl) ?_
  refine lv_dup hx hb dX12_feed_102 rfl ?_
  refine va_get (D := D) (ci := 11) (v := .int 7) (C := RX12) (T := TX12) (N := 62) hx hb hts iw_X12 hown hM.1 hP 0 rfl rfl 2 (by decide) (hts _ q_1497) (fun _ h9 => h9) rfl dX12_feed_103 ?_
  refine lv_iconst (v := 1) hx hb dX12_feed_106 (by decide) ?_
  refine lv_iadd hx hb dX12_feed_107 ?_
  refine lv_topi (fun z157 e9 => ?_)
  obtain rfl : z157 = (8 : Int32) := e9.trans (by decide)
  refine va_put (D := D) (ci := 11) (v := .int 8) (ty := .int) (C := RX12) (T := TX12) (N := 62) hx hb hts iw_X12 tyX12 tyX12_ok nmX12 hown hM.1 hP hD hS 0 rfl rfl 2 (by decide) (hts _ q_1497) (fun _ h9 => h9) rfl (by decide +kernel) rfl rfl (Nat.le_of_ble_eq_true rfl) dX12_feed_108 (fun H locs hP hD hS => ?_)
  have hP : va_P D nm_cl [(a0, .inr (11, [.int 0, v1, .int 8, .ref a1, v2, v3, v4, v5, v6, v7, v8, v9, v10, v11, v12, v13, v14, v15, v16, v17, v18, v19, v20, v21, v22, v23, v24, v25, v26, v27, v28, v29, v30, v31, v32, v33, v34, v35, v36, v37, v38, v39, v40, v41, v42, v43, v44, v45, v46, v47, v48, v49, v50, v51, v52, v53, v54, v55, v56, v57, v58, v59])), (a1, .inl (cB, 400, .inl f156))] H := hP
  have hD : va_D A [(a0, .inr (11, [.int 0, v1, .int 8, .ref a1, v2, v3, v4, v5, v6, v7, v8, v9, v10, v11, v12, v13, v14, v15, v16, v17, v18, v19, v20, v21, v22, v23, v24, v25, v26, v27, v28, v29, v30, v31, v32, v33, v34, v35, v36, v37, v38, v39, v40, v41, v42, v43, v44, v45, v46, v47, v48, v49, v50, v51, v52, v53, v54, v55, v56, v57, v58, v59])), (a1, .inl (cB, 400, .inl f156))] := hD
  refine lv_iinc (v := 8) (lv' := [(6, .int 8), (7, .int x1), (0, .ref a0), (1, .int x0), (2, .int x1), (3, .int x2), (4, .int x3), (5, .int x4)]) hx hb dX12_feed_111 hl (k := 1) rfl (by decide) (by decide) rfl (fun ls hl => ?_)
  refine lv_goto (tgt := 23) hx hb dX12_feed_114 (by decide) ?_
  refine lv_iload hx hb dX12_feed_23 (lv_at hl 0 rfl) ?_
  refine lv_bipush (v := 20) hx hb dX12_feed_25 (by decide) ?_
  refine lv_icmp_ge (tgt := 117) hx hb dX12_feed_27 (by decide) (fun c9 => absurd c9 (by decide)) (fun _ => ?_)
  refine lv_iload hx hb dX12_feed_30 (lv_at hl 0 rfl) ?_
  refine lv_iconst (v := 4) hx hb dX12_feed_32 (by decide) ?_
  refine lv_icmp_ge (tgt := 40) hx hb dX12_feed_33 (by decide) (fun _ => ?_) (fun c9 => absurd (by decide) c9)
  refine lv_iload hx hb dX12_feed_40 (lv_at hl 0 rfl) ?_
  refine lv_bipush (v := 8) hx hb dX12_feed_42 (by decide) ?_
  refine lv_icmp_ge (tgt := 51) hx hb dX12_feed_44 (by decide) (fun _ => ?_) (fun c9 => absurd (by decide) c9)
  refine lv_iload hx hb dX12_feed_51 (lv_at hl 0 rfl) ?_
  refine lv_bipush (v := 12) hx hb dX12_feed_53 (by decide) ?_
  refine lv_icmp_ge (tgt := 62) hx hb dX12_feed_55 (by decide) (fun c9 => absurd c9 (by decide)) (fun _ => ?_)
  refine lv_iload_n hx hb dX12_feed_58 rfl (lv_at hl 5 rfl) ?_
  refine lv_goto (tgt := 76) hx hb dX12_feed_59 (by decide) ?_
  refine lv_istore (lv' := [(7, .int x2), (6, .int 8), (0, .ref a0), (1, .int x0), (2, .int x1), (3, .int x2), (4, .int x3), (5, .int x4)]) hx hb dX12_feed_76 hl (by decide) rfl (fun ls hl => ?_)
  refine lv_aload_n hx hb dX12_feed_78 rfl (lv_at hl 2 rfl) ?_
  refine va_get (D := D) (ci := 11) (v := .ref a1) (C := RX12) (T := TX12) (N := 62) hx hb hts iw_X12 hown hM.1 hP 0 rfl rfl 3 (by decide) (hts _ q_1498) (fun _ h9 => h9) rfl dX12_feed_79 ?_
  refine lv_aload_n hx hb dX12_feed_82 rfl (lv_at hl 2 rfl) ?_
  refine va_get (D := D) (ci := 11) (v := .int 8) (C := RX12) (T := TX12) (N := 62) hx hb hts iw_X12 hown hM.1 hP 0 rfl rfl 2 (by decide) (hts _ q_1497) (fun _ h9 => h9) rfl dX12_feed_83 ?_
  refine lv_iload hx hb dX12_feed_86 (lv_at hl 0 rfl) ?_
  refine lv_bipush (v := 24) hx hb dX12_feed_88 (by decide) ?_
  refine lv_bipush (v := 8) hx hb dX12_feed_90 (by decide) ?_
  refine lv_iload hx hb dX12_feed_92 (lv_at hl 1 rfl) ?_
  refine lv_iconst (v := 4) hx hb dX12_feed_94 (by decide) ?_
  refine lv_irem hx hb dX12_feed_95 (by decide) ?_
  refine lv_topi (fun z158 e9 => ?_)
  obtain rfl : z158 = (0 : Int32) := e9.trans (by decide)
  refine lv_imul hx hb dX12_feed_96 ?_
  refine lv_topi (fun z159 e9 => ?_)
  obtain rfl : z159 = (0 : Int32) := e9.trans (by decide)
  refine lv_isub hx hb dX12_feed_97 ?_
  refine lv_topi (fun z160 e9 => ?_)
  obtain rfl : z160 = (24 : Int32) := e9.trans (by decide)
  refine lv_ishr hx hb dX12_feed_98 ?_
  refine lv_topi (fun z161 e9 => ?_)
  obtain ⟨z162, e9⟩ : ∃ y : Int32, Int8.toInt32 (Int32.toInt8 z161) = y := ⟨_, rfl⟩
  refine lv_i2b hx hb dX12_feed_99 e9 ?_
  refine va_bast hx hb hM.1 hP hD hS 1 1 rfl rfl (nm_vin (by decide)) dX12_feed_100 (fun H locs hP hD hS => ?_)
  have hP : va_P D nm_cl [(a0, .inr (11, [.int 0, v1, .int 8, .ref a1, v2, v3, v4, v5, v6, v7, v8, v9, v10, v11, v12, v13, v14, v15, v16, v17, v18, v19, v20, v21, v22, v23, v24, v25, v26, v27, v28, v29, v30, v31, v32, v33, v34, v35, v36, v37, v38, v39, v40, v41, v42, v43, v44, v45, v46, v47, v48, v49, v50, v51, v52, v53, v54, v55, v56, v57, v58, v59])), (a1, .inl (cB, 400, .inl (upd f156 (Int32.toNatClampNeg 8) (vp_nar .byte z162))))] H := hP
  have hD : va_D A [(a0, .inr (11, [.int 0, v1, .int 8, .ref a1, v2, v3, v4, v5, v6, v7, v8, v9, v10, v11, v12, v13, v14, v15, v16, v17, v18, v19, v20, v21, v22, v23, v24, v25, v26, v27, v28, v29, v30, v31, v32, v33, v34, v35, v36, v37, v38, v39, v40, v41, v42, v43, v44, v45, v46, v47, v48, v49, v50, v51, v52, v53, v54, v55, v56, v57, v58, v59])), (a1, .inl (cB, 400, .inl (upd f156 (Int32.toNatClampNeg 8) (vp_nar .byte z162))))] := hD
  obtain ⟨f163, hf9⟩ : ∃ g : Nat → Int32, g = (upd f156 (Int32.toNatClampNeg 8) (vp_nar .byte z162)) := ⟨_, rfl⟩
  rw [← hf9] at hP hD
  have hy_f163 : ∀ j, fits .byte (.int (f163 j)) = true := by rw [hf9]; exact nm_by hy_f156
  refine lv_aload_n hx hb dX12_feed_101 rfl (lv_at hl 2 rfl) ?_
  refine lv_dup hx hb dX12_feed_102 rfl ?_
  refine va_get (D := D) (ci := 11) (v := .int 8) (C := RX12) (T := TX12) (N := 62) hx hb hts iw_X12 hown hM.1 hP 0 rfl rfl 2 (by decide) (hts _ q_1497) (fun _ h9 => h9) rfl dX12_feed_103 ?_
  refine lv_iconst (v := 1) hx hb dX12_feed_106 (by decide) ?_
  refine lv_iadd hx hb dX12_feed_107 ?_
  refine lv_topi (fun z164 e9 => ?_)
  obtain rfl : z164 = (9 : Int32) := e9.trans (by decide)
  refine va_put (D := D) (ci := 11) (v := .int 9) (ty := .int) (C := RX12) (T := TX12) (N := 62) hx hb hts iw_X12 tyX12 tyX12_ok nmX12 hown hM.1 hP hD hS 0 rfl rfl 2 (by decide) (hts _ q_1497) (fun _ h9 => h9) rfl (by decide +kernel) rfl rfl (Nat.le_of_ble_eq_true rfl) dX12_feed_108 (fun H locs hP hD hS => ?_)
  have hP : va_P D nm_cl [(a0, .inr (11, [.int 0, v1, .int 9, .ref a1, v2, v3, v4, v5, v6, v7, v8, v9, v10, v11, v12, v13, v14, v15, v16, v17, v18, v19, v20, v21, v22, v23, v24, v25, v26, v27, v28, v29, v30, v31, v32, v33, v34, v35, v36, v37, v38, v39, v40, v41, v42, v43, v44, v45, v46, v47, v48, v49, v50, v51, v52, v53, v54, v55, v56, v57, v58, v59])), (a1, .inl (cB, 400, .inl f163))] H := hP
  have hD : va_D A [(a0, .inr (11, [.int 0, v1, .int 9, .ref a1, v2, v3, v4, v5, v6, v7, v8, v9, v10, v11, v12, v13, v14, v15, v16, v17, v18, v19, v20, v21, v22, v23, v24, v25, v26, v27, v28, v29, v30, v31, v32, v33, v34, v35, v36, v37, v38, v39, v40, v41, v42, v43, v44, v45, v46, v47, v48, v49, v50, v51, v52, v53, v54, v55, v56, v57, v58, v59])), (a1, .inl (cB, 400, .inl f163))] := hD
  refine lv_iinc (v := 9) (lv' := [(6, .int 9), (7, .int x2), (0, .ref a0), (1, .int x0), (2, .int x1), (3, .int x2), (4, .int x3), (5, .int x4)]) hx hb dX12_feed_111 hl (k := 1) rfl (by decide) (by decide) rfl (fun ls hl => ?_)
  refine lv_goto (tgt := 23) hx hb dX12_feed_114 (by decide) ?_
  refine lv_iload hx hb dX12_feed_23 (lv_at hl 0 rfl) ?_
  refine lv_bipush (v := 20) hx hb dX12_feed_25 (by decide) ?_
  refine lv_icmp_ge (tgt := 117) hx hb dX12_feed_27 (by decide) (fun c9 => absurd c9 (by decide)) (fun _ => ?_)
  refine lv_iload hx hb dX12_feed_30 (lv_at hl 0 rfl) ?_
  refine lv_iconst (v := 4) hx hb dX12_feed_32 (by decide) ?_
  refine lv_icmp_ge (tgt := 40) hx hb dX12_feed_33 (by decide) (fun _ => ?_) (fun c9 => absurd (by decide) c9)
  refine lv_iload hx hb dX12_feed_40 (lv_at hl 0 rfl) ?_
  refine lv_bipush (v := 8) hx hb dX12_feed_42 (by decide) ?_
  refine lv_icmp_ge (tgt := 51) hx hb dX12_feed_44 (by decide) (fun _ => ?_) (fun c9 => absurd (by decide) c9)
  refine lv_iload hx hb dX12_feed_51 (lv_at hl 0 rfl) ?_
  refine lv_bipush (v := 12) hx hb dX12_feed_53 (by decide) ?_
  refine lv_icmp_ge (tgt := 62) hx hb dX12_feed_55 (by decide) (fun c9 => absurd c9 (by decide)) (fun _ => ?_)
  refine lv_iload_n hx hb dX12_feed_58 rfl (lv_at hl 5 rfl) ?_
  refine lv_goto (tgt := 76) hx hb dX12_feed_59 (by decide) ?_
  refine lv_istore (lv' := [(7, .int x2), (6, .int 9), (0, .ref a0), (1, .int x0), (2, .int x1), (3, .int x2), (4, .int x3), (5, .int x4)]) hx hb dX12_feed_76 hl (by decide) rfl (fun ls hl => ?_)
  refine lv_aload_n hx hb dX12_feed_78 rfl (lv_at hl 2 rfl) ?_
  refine va_get (D := D) (ci := 11) (v := .ref a1) (C := RX12) (T := TX12) (N := 62) hx hb hts iw_X12 hown hM.1 hP 0 rfl rfl 3 (by decide) (hts _ q_1498) (fun _ h9 => h9) rfl dX12_feed_79 ?_
  refine lv_aload_n hx hb dX12_feed_82 rfl (lv_at hl 2 rfl) ?_
  refine va_get (D := D) (ci := 11) (v := .int 9) (C := RX12) (T := TX12) (N := 62) hx hb hts iw_X12 hown hM.1 hP 0 rfl rfl 2 (by decide) (hts _ q_1497) (fun _ h9 => h9) rfl dX12_feed_83 ?_
  refine lv_iload hx hb dX12_feed_86 (lv_at hl 0 rfl) ?_
  refine lv_bipush (v := 24) hx hb dX12_feed_88 (by decide) ?_
  refine lv_bipush (v := 8) hx hb dX12_feed_90 (by decide) ?_
  refine lv_iload hx hb dX12_feed_92 (lv_at hl 1 rfl) ?_
  refine lv_iconst (v := 4) hx hb dX12_feed_94 (by decide) ?_
  refine lv_irem hx hb dX12_feed_95 (by decide) ?_
  refine lv_topi (fun z165 e9 => ?_)
  obtain rfl : z165 = (1 : Int32) := e9.trans (by decide)
  refine lv_imul hx hb dX12_feed_96 ?_
  refine lv_topi (fun z166 e9 => ?_)
  obtain rfl : z166 = (8 : Int32) := e9.trans (by decide)
  refine lv_isub hx hb dX12_feed_97 ?_
  refine lv_topi (fun z167 e9 => ?_)
  obtain rfl : z167 = (16 : Int32) := e9.trans (by decide)
  refine lv_ishr hx hb dX12_feed_98 ?_
  refine lv_topi (fun z168 e9 => ?_)
  obtain ⟨z169, e9⟩ : ∃ y : Int32, Int8.toInt32 (Int32.toInt8 z168) = y := ⟨_, rfl⟩
  refine lv_i2b hx hb dX12_feed_99 e9 ?_
  refine va_bast hx hb hM.1 hP hD hS 1 1 rfl rfl (nm_vin (by decide)) dX12_feed_100 (fun H locs hP hD hS => ?_)
  have hP : va_P D nm_cl [(a0, .inr (11, [.int 0, v1, .int 9, .ref a1, v2, v3, v4, v5, v6, v7, v8, v9, v10, v11, v12, v13, v14, v15, v16, v17, v18, v19, v20, v21, v22, v23, v24, v25, v26, v27, v28, v29, v30, v31, v32, v33, v34, v35, v36, v37, v38, v39, v40, v41, v42, v43, v44, v45, v46, v47, v48, v49, v50, v51, v52, v53, v54, v55, v56, v57, v58, v59])), (a1, .inl (cB, 400, .inl (upd f163 (Int32.toNatClampNeg 9) (vp_nar .byte z169))))] H := hP
  have hD : va_D A [(a0, .inr (11, [.int 0, v1, .int 9, .ref a1, v2, v3, v4, v5, v6, v7, v8, v9, v10, v11, v12, v13, v14, v15, v16, v17, v18, v19, v20, v21, v22, v23, v24, v25, v26, v27, v28, v29, v30, v31, v32, v33, v34, v35, v36, v37, v38, v39, v40, v41, v42, v43, v44, v45, v46, v47, v48, v49, v50, v51, v52, v53, v54, v55, v56, v57, v58, v59])), (a1, .inl (cB, 400, .inl (upd f163 (Int32.toNatClampNeg 9) (vp_nar .byte z169))))] := hD
  obtain ⟨f170, hf9⟩ : ∃ g : Nat → Int32, g = (upd f163 (Int32.toNatClampNeg 9) (vp_nar .byte z169)) := ⟨_, rfl⟩
  rw [← hf9] at hP hD
  have hy_f170 : ∀ j, fits .byte (.int (f170 j)) = true := by rw [hf9]; exact nm_by hy_f163
  refine lv_aload_n hx hb dX12_feed_101 rfl (lv_at hl 2 rfl) ?_
  refine lv_dup hx hb dX12_feed_102 rfl ?_
  refine va_get (D := D) (ci := 11) (v := .int 9) (C := RX12) (T := TX12) (N := 62) hx hb hts iw_X12 hown hM.1 hP 0 rfl rfl 2 (by decide) (hts _ q_1497) (fun _ h9 => h9) rfl dX12_feed_103 ?_
  refine lv_iconst (v := 1) hx hb dX12_feed_106 (by decide) ?_
  refine lv_iadd hx hb dX12_feed_107 ?_
  refine lv_topi (fun z171 e9 => ?_)
  obtain rfl : z171 = (10 : Int32) := e9.trans (by decide)
  refine va_put (D := D) (ci := 11) (v := .int 10) (ty := .int) (C := RX12) (T := TX12) (N := 62) hx hb hts iw_X12 tyX12 tyX12_ok nmX12 hown hM.1 hP hD hS 0 rfl rfl 2 (by decide) (hts _ q_1497) (fun _ h9 => h9) rfl (by decide +kernel) rfl rfl (Nat.le_of_ble_eq_true rfl) dX12_feed_108 (fun H locs hP hD hS => ?_)
  have hP : va_P D nm_cl [(a0, .inr (11, [.int 0, v1, .int 10, .ref a1, v2, v3, v4, v5, v6, v7, v8, v9, v10, v11, v12, v13, v14, v15, v16, v17, v18, v19, v20, v21, v22, v23, v24, v25, v26, v27, v28, v29, v30, v31, v32, v33, v34, v35, v36, v37, v38, v39, v40, v41, v42, v43, v44, v45, v46, v47, v48, v49, v50, v51, v52, v53, v54, v55, v56, v57, v58, v59])), (a1, .inl (cB, 400, .inl f170))] H := hP
  have hD : va_D A [(a0, .inr (11, [.int 0, v1, .int 10, .ref a1, v2, v3, v4, v5, v6, v7, v8, v9, v10, v11, v12, v13, v14, v15, v16, v17, v18, v19, v20, v21, v22, v23, v24, v25, v26, v27, v28, v29, v30, v31, v32, v33, v34, v35, v36, v37, v38, v39, v40, v41, v42, v43, v44, v45, v46, v47, v48, v49, v50, v51, v52, v53, v54, v55, v56, v57, v58, v59])), (a1, .inl (cB, 400, .inl f170))] := hD
  refine lv_iinc (v := 10) (lv' := [(6, .int 10), (7, .int x2), (0, .ref a0), (1, .int x0), (2, .int x1), (3, .int x2), (4, .int x3), (5, .int x4)]) hx hb dX12_feed_111 hl (k := 1) rfl (by decide) (by decide) rfl (fun ls hl => ?_)
  refine lv_goto (tgt := 23) hx hb dX12_feed_114 (by decide) ?_
  refine lv_iload hx hb dX12_feed_23 (lv_at hl 0 rfl) ?_
  refine lv_bipush (v := 20) hx hb dX12_feed_25 (by decide) ?_
  refine lv_icmp_ge (tgt := 117) hx hb dX12_feed_27 (by decide) (fun c9 => absurd c9 (by decide)) (fun _ => ?_)
  refine lv_iload hx hb dX12_feed_30 (lv_at hl 0 rfl) ?_
  refine lv_iconst (v := 4) hx hb dX12_feed_32 (by decide) ?_
  refine lv_icmp_ge (tgt := 40) hx hb dX12_feed_33 (by decide) (fun _ => ?_) (fun c9 => absurd (by decide) c9)
  refine lv_iload hx hb dX12_feed_40 (lv_at hl 0 rfl) ?_
  refine lv_bipush (v := 8) hx hb dX12_feed_42 (by decide) ?_
  refine lv_icmp_ge (tgt := 51) hx hb dX12_feed_44 (by decide) (fun _ => ?_) (fun c9 => absurd (by decide) c9)
  refine lv_iload hx hb dX12_feed_51 (lv_at hl 0 rfl) ?_
  refine lv_bipush (v := 12) hx hb dX12_feed_53 (by decide) ?_
  refine lv_icmp_ge (tgt := 62) hx hb dX12_feed_55 (by decide) (fun c9 => absurd c9 (by decide)) (fun _ => ?_)
  refine lv_iload_n hx hb dX12_feed_58 rfl (lv_at hl 5 rfl) ?_
  refine lv_goto (tgt := 76) hx hb dX12_feed_59 (by decide) ?_
  refine lv_istore (lv' := [(7, .int x2), (6, .int 10), (0, .ref a0), (1, .int x0), (2, .int x1), (3, .int x2), (4, .int x3), (5, .int x4)]) hx hb dX12_feed_76 hl (by decide) rfl (fun ls hl => ?_)
  refine lv_aload_n hx hb dX12_feed_78 rfl (lv_at hl 2 rfl) ?_
  refine va_get (D := D) (ci := 11) (v := .ref a1) (C := RX12) (T := TX12) (N := 62) hx hb hts iw_X12 hown hM.1 hP 0 rfl rfl 3 (by decide) (hts _ q_1498) (fun _ h9 => h9) rfl dX12_feed_79 ?_
  refine lv_aload_n hx hb dX12_feed_82 rfl (lv_at hl 2 rfl) ?_
  refine va_get (D := D) (ci := 11) (v := .int 10) (C := RX12) (T := TX12) (N := 62) hx hb hts iw_X12 hown hM.1 hP 0 rfl rfl 2 (by decide) (hts _ q_1497) (fun _ h9 => h9) rfl dX12_feed_83 ?_
  refine lv_iload hx hb dX12_feed_86 (lv_at hl 0 rfl) ?_
  refine lv_bipush (v := 24) hx hb dX12_feed_88 (by decide) ?_
  refine lv_bipush (v := 8) hx hb dX12_feed_90 (by decide) ?_
  refine lv_iload hx hb dX12_feed_92 (lv_at hl 1 rfl) ?_
  refine lv_iconst (v := 4) hx hb dX12_feed_94 (by decide) ?_
  refine lv_irem hx hb dX12_feed_95 (by decide) ?_
  refine lv_topi (fun z172 e9 => ?_)
  obtain rfl : z172 = (2 : Int32) := e9.trans (by decide)
  refine lv_imul hx hb dX12_feed_96 ?_
  refine lv_topi (fun z173 e9 => ?_)
  obtain rfl : z173 = (16 : Int32) := e9.trans (by decide)
  refine lv_isub hx hb dX12_feed_97 ?_
  refine lv_topi (fun z174 e9 => ?_)
  obtain rfl : z174 = (8 : Int32) := e9.trans (by decide)
  refine lv_ishr hx hb dX12_feed_98 ?_
  refine lv_topi (fun z175 e9 => ?_)
  obtain ⟨z176, e9⟩ : ∃ y : Int32, Int8.toInt32 (Int32.toInt8 z175) = y := ⟨_, rfl⟩
  refine lv_i2b hx hb dX12_feed_99 e9 ?_
  refine va_bast hx hb hM.1 hP hD hS 1 1 rfl rfl (nm_vin (by decide)) dX12_feed_100 (fun H locs hP hD hS => ?_)
  have hP : va_P D nm_cl [(a0, .inr (11, [.int 0, v1, .int 10, .ref a1, v2, v3, v4, v5, v6, v7, v8, v9, v10, v11, v12, v13, v14, v15, v16, v17, v18, v19, v20, v21, v22, v23, v24, v25, v26, v27, v28, v29, v30, v31, v32, v33, v34, v35, v36, v37, v38, v39, v40, v41, v42, v43, v44, v45, v46, v47, v48, v49, v50, v51, v52, v53, v54, v55, v56, v57, v58, v59])), (a1, .inl (cB, 400, .inl (upd f170 (Int32.toNatClampNeg 10) (vp_nar .byte z176))))] H := hP
  have hD : va_D A [(a0, .inr (11, [.int 0, v1, .int 10, .ref a1, v2, v3, v4, v5, v6, v7, v8, v9, v10, v11, v12, v13, v14, v15, v16, v17, v18, v19, v20, v21, v22, v23, v24, v25, v26, v27, v28, v29, v30, v31, v32, v33, v34, v35, v36, v37, v38, v39, v40, v41, v42, v43, v44, v45, v46, v47, v48, v49, v50, v51, v52, v53, v54, v55, v56, v57, v58, v59])), (a1, .inl (cB, 400, .inl (upd f170 (Int32.toNatClampNeg 10) (vp_nar .byte z176))))] := hD
  obtain ⟨f177, hf9⟩ : ∃ g : Nat → Int32, g = (upd f170 (Int32.toNatClampNeg 10) (vp_nar .byte z176)) := ⟨_, rfl⟩
  rw [← hf9] at hP hD
  have hy_f177 : ∀ j, fits .byte (.int (f177 j)) = true := by rw [hf9]; exact nm_by hy_f170
  refine lv_aload_n hx hb dX12_feed_101 rfl (lv_at hl 2 rfl) ?_
  refine lv_dup hx hb dX12_feed_102 rfl ?_
  refine va_get (D := D) (ci := 11) (v := .int 10) (C := RX12) (T := TX12) (N := 62) hx hb hts iw_X12 hown hM.1 hP 0 rfl rfl 2 (by decide) (hts _ q_1497) (fun _ h9 => h9) rfl dX12_feed_103 ?_
  refine lv_iconst (v := 1) hx hb dX12_feed_106 (by decide) ?_
  refine lv_iadd hx hb dX12_feed_107 ?_
  refine lv_topi (fun z178 e9 => ?_)
  obtain rfl : z178 = (11 : Int32) := e9.trans (by decide)
  refine va_put (D := D) (ci := 11) (v := .int 11) (ty := .int) (C := RX12) (T := TX12) (N := 62) hx hb hts iw_X12 tyX12 tyX12_ok nmX12 hown hM.1 hP hD hS 0 rfl rfl 2 (by decide) (hts _ q_1497) (fun _ h9 => h9) rfl (by decide +kernel) rfl rfl (Nat.le_of_ble_eq_true rfl) dX12_feed_108 (fun H locs hP hD hS => ?_)
  have hP : va_P D nm_cl [(a0, .inr (11, [.int 0, v1, .int 11, .ref a1, v2, v3, v4, v5, v6, v7, v8, v9, v10, v11, v12, v13, v14, v15, v16, v17, v18, v19, v20, v21, v22, v23, v24, v25, v26, v27, v28, v29, v30, v31, v32, v33, v34, v35, v36, v37, v38, v39, v40, v41, v42, v43, v44, v45, v46, v47, v48, v49, v50, v51, v52, v53, v54, v55, v56, v57, v58, v59])), (a1, .inl (cB, 400, .inl f177))] H := hP
  have hD : va_D A [(a0, .inr (11, [.int 0, v1, .int 11, .ref a1, v2, v3, v4, v5, v6, v7, v8, v9, v10, v11, v12, v13, v14, v15, v16, v17, v18, v19, v20, v21, v22, v23, v24, v25, v26, v27, v28, v29, v30, v31, v32, v33, v34, v35, v36, v37, v38, v39, v40, v41, v42, v43, v44, v45, v46, v47, v48, v49, v50, v51, v52, v53, v54, v55, v56, v57, v58, v59])), (a1, .inl (cB, 400, .inl f177))] := hD
  refine lv_iinc (v := 11) (lv' := [(6, .int 11), (7, .int x2), (0, .ref a0), (1, .int x0), (2, .int x1), (3, .int x2), (4, .int x3), (5, .int x4)]) hx hb dX12_feed_111 hl (k := 1) rfl (by decide) (by decide) rfl (fun ls hl => ?_)
  refine lv_goto (tgt := 23) hx hb dX12_feed_114 (by decide) ?_
  refine lv_iload hx hb dX12_feed_23 (lv_at hl 0 rfl) ?_
  refine lv_bipush (v := 20) hx hb dX12_feed_25 (by decide) ?_
  refine lv_icmp_ge (tgt := 117) hx hb dX12_feed_27 (by decide) (fun c9 => absurd c9 (by decide)) (fun _ => ?_)
  refine lv_iload hx hb dX12_feed_30 (lv_at hl 0 rfl) ?_
  refine lv_iconst (v := 4) hx hb dX12_feed_32 (by decide) ?_
  refine lv_icmp_ge (tgt := 40) hx hb dX12_feed_33 (by decide) (fun _ => ?_) (fun c9 => absurd (by decide) c9)
  refine lv_iload hx hb dX12_feed_40 (lv_at hl 0 rfl) ?_
  refine lv_bipush (v := 8) hx hb dX12_feed_42 (by decide) ?_
  refine lv_icmp_ge (tgt := 51) hx hb dX12_feed_44 (by decide) (fun _ => ?_) (fun c9 => absurd (by decide) c9)
  refine lv_iload hx hb dX12_feed_51 (lv_at hl 0 rfl) ?_
  refine lv_bipush (v := 12) hx hb dX12_feed_53 (by decide) ?_
  refine lv_icmp_ge (tgt := 62) hx hb dX12_feed_55 (by decide) (fun c9 => absurd c9 (by decide)) (fun _ => ?_)
  refine lv_iload_n hx hb dX12_feed_58 rfl (lv_at hl 5 rfl) ?_
  refine lv_goto (tgt := 76) hx hb dX12_feed_59 (by decide) ?_
  refine lv_istore (lv' := [(7, .int x2), (6, .int 11), (0, .ref a0), (1, .int x0), (2, .int x1), (3, .int x2), (4, .int x3), (5, .int x4)]) hx hb dX12_feed_76 hl (by decide) rfl (fun ls hl => ?_)
  refine lv_aload_n hx hb dX12_feed_78 rfl (lv_at hl 2 rfl) ?_
  refine va_get (D := D) (ci := 11) (v := .ref a1) (C := RX12) (T := TX12) (N := 62) hx hb hts iw_X12 hown hM.1 hP 0 rfl rfl 3 (by decide) (hts _ q_1498) (fun _ h9 => h9) rfl dX12_feed_79 ?_
  refine lv_aload_n hx hb dX12_feed_82 rfl (lv_at hl 2 rfl) ?_
  refine va_get (D := D) (ci := 11) (v := .int 11) (C := RX12) (T := TX12) (N := 62) hx hb hts iw_X12 hown hM.1 hP 0 rfl rfl 2 (by decide) (hts _ q_1497) (fun _ h9 => h9) rfl dX12_feed_83 ?_
  refine lv_iload hx hb dX12_feed_86 (lv_at hl 0 rfl) ?_
  refine lv_bipush (v := 24) hx hb dX12_feed_88 (by decide) ?_
  refine lv_bipush (v := 8) hx hb dX12_feed_90 (by decide) ?_
  refine lv_iload hx hb dX12_feed_92 (lv_at hl 1 rfl) ?_
  refine lv_iconst (v := 4) hx hb dX12_feed_94 (by decide) ?_
  refine lv_irem hx hb dX12_feed_95 (by decide) ?_
  refine lv_topi (fun z179 e9 => ?_)
  obtain rfl : z179 = (3 : Int32) := e9.trans (by decide)
  refine lv_imul hx hb dX12_feed_96 ?_
  refine lv_topi (fun z180 e9 => ?_)
  obtain rfl : z180 = (24 : Int32) := e9.trans (by decide)
  refine lv_isub hx hb dX12_feed_97 ?_
  refine lv_topi (fun z181 e9 => ?_)
  obtain rfl : z181 = (0 : Int32) := e9.trans (by decide)
  refine lv_ishr hx hb dX12_feed_98 ?_
  refine lv_topi (fun z182 e9 => ?_)
  obtain ⟨z183, e9⟩ : ∃ y : Int32, Int8.toInt32 (Int32.toInt8 z182) = y := ⟨_, rfl⟩
  refine lv_i2b hx hb dX12_feed_99 e9 ?_
  refine va_bast hx hb hM.1 hP hD hS 1 1 rfl rfl (nm_vin (by decide)) dX12_feed_100 (fun H locs hP hD hS => ?_)
  have hP : va_P D nm_cl [(a0, .inr (11, [.int 0, v1, .int 11, .ref a1, v2, v3, v4, v5, v6, v7, v8, v9, v10, v11, v12, v13, v14, v15, v16, v17, v18, v19, v20, v21, v22, v23, v24, v25, v26, v27, v28, v29, v30, v31, v32, v33, v34, v35, v36, v37, v38, v39, v40, v41, v42, v43, v44, v45, v46, v47, v48, v49, v50, v51, v52, v53, v54, v55, v56, v57, v58, v59])), (a1, .inl (cB, 400, .inl (upd f177 (Int32.toNatClampNeg 11) (vp_nar .byte z183))))] H := hP
  have hD : va_D A [(a0, .inr (11, [.int 0, v1, .int 11, .ref a1, v2, v3, v4, v5, v6, v7, v8, v9, v10, v11, v12, v13, v14, v15, v16, v17, v18, v19, v20, v21, v22, v23, v24, v25, v26, v27, v28, v29, v30, v31, v32, v33, v34, v35, v36, v37, v38, v39, v40, v41, v42, v43, v44, v45, v46, v47, v48, v49, v50, v51, v52, v53, v54, v55, v56, v57, v58, v59])), (a1, .inl (cB, 400, .inl (upd f177 (Int32.toNatClampNeg 11) (vp_nar .byte z183))))] := hD
  obtain ⟨f184, hf9⟩ : ∃ g : Nat → Int32, g = (upd f177 (Int32.toNatClampNeg 11) (vp_nar .byte z183)) := ⟨_, rfl⟩
  rw [← hf9] at hP hD
  have hy_f184 : ∀ j, fits .byte (.int (f184 j)) = true := by rw [hf9]; exact nm_by hy_f177
  refine lv_aload_n hx hb dX12_feed_101 rfl (lv_at hl 2 rfl) ?_
  refine lv_dup hx hb dX12_feed_102 rfl ?_
  refine va_get (D := D) (ci := 11) (v := .int 11) (C := RX12) (T := TX12) (N := 62) hx hb hts iw_X12 hown hM.1 hP 0 rfl rfl 2 (by decide) (hts _ q_1497) (fun _ h9 => h9) rfl dX12_feed_103 ?_
  refine lv_iconst (v := 1) hx hb dX12_feed_106 (by decide) ?_
  refine lv_iadd hx hb dX12_feed_107 ?_
  refine lv_topi (fun z185 e9 => ?_)
  obtain rfl : z185 = (12 : Int32) := e9.trans (by decide)
  refine va_put (D := D) (ci := 11) (v := .int 12) (ty := .int) (C := RX12) (T := TX12) (N := 62) hx hb hts iw_X12 tyX12 tyX12_ok nmX12 hown hM.1 hP hD hS 0 rfl rfl 2 (by decide) (hts _ q_1497) (fun _ h9 => h9) rfl (by decide +kernel) rfl rfl (Nat.le_of_ble_eq_true rfl) dX12_feed_108 (fun H locs hP hD hS => ?_)
  have hP : va_P D nm_cl [(a0, .inr (11, [.int 0, v1, .int 12, .ref a1, v2, v3, v4, v5, v6, v7, v8, v9, v10, v11, v12, v13, v14, v15, v16, v17, v18, v19, v20, v21, v22, v23, v24, v25, v26, v27, v28, v29, v30, v31, v32, v33, v34, v35, v36, v37, v38, v39, v40, v41, v42, v43, v44, v45, v46, v47, v48, v49, v50, v51, v52, v53, v54, v55, v56, v57, v58, v59])), (a1, .inl (cB, 400, .inl f184))] H := hP
  have hD : va_D A [(a0, .inr (11, [.int 0, v1, .int 12, .ref a1, v2, v3, v4, v5, v6, v7, v8, v9, v10, v11, v12, v13, v14, v15, v16, v17, v18, v19, v20, v21, v22, v23, v24, v25, v26, v27, v28, v29, v30, v31, v32, v33, v34, v35, v36, v37, v38, v39, v40, v41, v42, v43, v44, v45, v46, v47, v48, v49, v50, v51, v52, v53, v54, v55, v56, v57, v58, v59])), (a1, .inl (cB, 400, .inl f184))] := hD
  refine lv_iinc (v := 12) (lv' := [(6, .int 12), (7, .int x2), (0, .ref a0), (1, .int x0), (2, .int x1), (3, .int x2), (4, .int x3), (5, .int x4)]) hx hb dX12_feed_111 hl (k := 1) rfl (by decide) (by decide) rfl (fun ls hl => ?_)
  refine lv_goto (tgt := 23) hx hb dX12_feed_114 (by decide) ?_
  refine lv_iload hx hb dX12_feed_23 (lv_at hl 0 rfl) ?_
  refine lv_bipush (v := 20) hx hb dX12_feed_25 (by decide) ?_
  refine lv_icmp_ge (tgt := 117) hx hb dX12_feed_27 (by decide) (fun c9 => absurd c9 (by decide)) (fun _ => ?_)
  refine lv_iload hx hb dX12_feed_30 (lv_at hl 0 rfl) ?_
  refine lv_iconst (v := 4) hx hb dX12_feed_32 (by decide) ?_
  refine lv_icmp_ge (tgt := 40) hx hb dX12_feed_33 (by decide) (fun _ => ?_) (fun c9 => absurd (by decide) c9)
  refine lv_iload hx hb dX12_feed_40 (lv_at hl 0 rfl) ?_
  refine lv_bipush (v := 8) hx hb dX12_feed_42 (by decide) ?_
  refine lv_icmp_ge (tgt := 51) hx hb dX12_feed_44 (by decide) (fun _ => ?_) (fun c9 => absurd (by decide) c9)
  refine lv_iload hx hb dX12_feed_51 (lv_at hl 0 rfl) ?_
  refine lv_bipush (v := 12) hx hb dX12_feed_53 (by decide) ?_
  refine lv_icmp_ge (tgt := 62) hx hb dX12_feed_55 (by decide) (fun _ => ?_) (fun c9 => absurd (by decide) c9)
  refine lv_iload hx hb dX12_feed_62 (lv_at hl 0 rfl) ?_
  refine lv_bipush (v := 16) hx hb dX12_feed_64 (by decide) ?_
  refine lv_icmp_ge (tgt := 74) hx hb dX12_feed_66 (by decide) (fun c9 => absurd c9 (by decide)) (fun _ => ?_)
  refine lv_iload hx hb dX12_feed_69 (lv_at hl 6 rfl) ?_
  refine lv_goto (tgt := 76) hx hb dX12_feed_71 (by decide) ?_
  refine lv_istore (lv' := [(7, .int x3), (6, .int 12), (0, .ref a0), (1, .int x0), (2, .int x1), (3, .int x2), (4, .int x3), (5, .int x4)]) hx hb dX12_feed_76 hl (by decide) rfl (fun ls hl => ?_)
  refine lv_aload_n hx hb dX12_feed_78 rfl (lv_at hl 2 rfl) ?_
  refine va_get (D := D) (ci := 11) (v := .ref a1) (C := RX12) (T := TX12) (N := 62) hx hb hts iw_X12 hown hM.1 hP 0 rfl rfl 3 (by decide) (hts _ q_1498) (fun _ h9 => h9) rfl dX12_feed_79 ?_
  refine lv_aload_n hx hb dX12_feed_82 rfl (lv_at hl 2 rfl) ?_
  refine va_get (D := D) (ci := 11) (v := .int 12) (C := RX12) (T := TX12) (N := 62) hx hb hts iw_X12 hown hM.1 hP 0 rfl rfl 2 (by decide) (hts _ q_1497) (fun _ h9 => h9) rfl dX12_feed_83 ?_
  refine lv_iload hx hb dX12_feed_86 (lv_at hl 0 rfl) ?_
  refine lv_bipush (v := 24) hx hb dX12_feed_88 (by decide) ?_
  refine lv_bipush (v := 8) hx hb dX12_feed_90 (by decide) ?_
  refine lv_iload hx hb dX12_feed_92 (lv_at hl 1 rfl) ?_
  refine lv_iconst (v := 4) hx hb dX12_feed_94 (by decide) ?_
  refine lv_irem hx hb dX12_feed_95 (by decide) ?_
  refine lv_topi (fun z186 e9 => ?_)
  obtain rfl : z186 = (0 : Int32) := e9.trans (by decide)
  refine lv_imul hx hb dX12_feed_96 ?_
  refine lv_topi (fun z187 e9 => ?_)
  obtain rfl : z187 = (0 : Int32) := e9.trans (by decide)
  refine lv_isub hx hb dX12_feed_97 ?_
  refine lv_topi (fun z188 e9 => ?_)
  obtain rfl : z188 = (24 : Int32) := e9.trans (by decide)
  refine lv_ishr hx hb dX12_feed_98 ?_
  refine lv_topi (fun z189 e9 => ?_)
  obtain ⟨z190, e9⟩ : ∃ y : Int32, Int8.toInt32 (Int32.toInt8 z189) = y := ⟨_, rfl⟩
  refine lv_i2b hx hb dX12_feed_99 e9 ?_
  refine va_bast hx hb hM.1 hP hD hS 1 1 rfl rfl (nm_vin (by decide)) dX12_feed_100 (fun H locs hP hD hS => ?_)
  have hP : va_P D nm_cl [(a0, .inr (11, [.int 0, v1, .int 12, .ref a1, v2, v3, v4, v5, v6, v7, v8, v9, v10, v11, v12, v13, v14, v15, v16, v17, v18, v19, v20, v21, v22, v23, v24, v25, v26, v27, v28, v29, v30, v31, v32, v33, v34, v35, v36, v37, v38, v39, v40, v41, v42, v43, v44, v45, v46, v47, v48, v49, v50, v51, v52, v53, v54, v55, v56, v57, v58, v59])), (a1, .inl (cB, 400, .inl (upd f184 (Int32.toNatClampNeg 12) (vp_nar .byte z190))))] H := hP
  have hD : va_D A [(a0, .inr (11, [.int 0, v1, .int 12, .ref a1, v2, v3, v4, v5, v6, v7, v8, v9, v10, v11, v12, v13, v14, v15, v16, v17, v18, v19, v20, v21, v22, v23, v24, v25, v26, v27, v28, v29, v30, v31, v32, v33, v34, v35, v36, v37, v38, v39, v40, v41, v42, v43, v44, v45, v46, v47, v48, v49, v50, v51, v52, v53, v54, v55, v56, v57, v58, v59])), (a1, .inl (cB, 400, .inl (upd f184 (Int32.toNatClampNeg 12) (vp_nar .byte z190))))] := hD
  obtain ⟨f191, hf9⟩ : ∃ g : Nat → Int32, g = (upd f184 (Int32.toNatClampNeg 12) (vp_nar .byte z190)) := ⟨_, rfl⟩
  rw [← hf9] at hP hD
  have hy_f191 : ∀ j, fits .byte (.int (f191 j)) = true := by rw [hf9]; exact nm_by hy_f184
  refine lv_aload_n hx hb dX12_feed_101 rfl (lv_at hl 2 rfl) ?_
  refine lv_dup hx hb dX12_feed_102 rfl ?_
  refine va_get (D := D) (ci := 11) (v := .int 12) (C := RX12) (T := TX12) (N := 62) hx hb hts iw_X12 hown hM.1 hP 0 rfl rfl 2 (by decide) (hts _ q_1497) (fun _ h9 => h9) rfl dX12_feed_103 ?_
  refine lv_iconst (v := 1) hx hb dX12_feed_106 (by decide) ?_
  refine lv_iadd hx hb dX12_feed_107 ?_
  refine lv_topi (fun z192 e9 => ?_)
  obtain rfl : z192 = (13 : Int32) := e9.trans (by decide)
  refine va_put (D := D) (ci := 11) (v := .int 13) (ty := .int) (C := RX12) (T := TX12) (N := 62) hx hb hts iw_X12 tyX12 tyX12_ok nmX12 hown hM.1 hP hD hS 0 rfl rfl 2 (by decide) (hts _ q_1497) (fun _ h9 => h9) rfl (by decide +kernel) rfl rfl (Nat.le_of_ble_eq_true rfl) dX12_feed_108 (fun H locs hP hD hS => ?_)
  have hP : va_P D nm_cl [(a0, .inr (11, [.int 0, v1, .int 13, .ref a1, v2, v3, v4, v5, v6, v7, v8, v9, v10, v11, v12, v13, v14, v15, v16, v17, v18, v19, v20, v21, v22, v23, v24, v25, v26, v27, v28, v29, v30, v31, v32, v33, v34, v35, v36, v37, v38, v39, v40, v41, v42, v43, v44, v45, v46, v47, v48, v49, v50, v51, v52, v53, v54, v55, v56, v57, v58, v59])), (a1, .inl (cB, 400, .inl f191))] H := hP
  have hD : va_D A [(a0, .inr (11, [.int 0, v1, .int 13, .ref a1, v2, v3, v4, v5, v6, v7, v8, v9, v10, v11, v12, v13, v14, v15, v16, v17, v18, v19, v20, v21, v22, v23, v24, v25, v26, v27, v28, v29, v30, v31, v32, v33, v34, v35, v36, v37, v38, v39, v40, v41, v42, v43, v44, v45, v46, v47, v48, v49, v50, v51, v52, v53, v54, v55, v56, v57, v58, v59])), (a1, .inl (cB, 400, .inl f191))] := hD
  refine lv_iinc (v := 13) (lv' := [(6, .int 13), (7, .int x3), (0, .ref a0), (1, .int x0), (2, .int x1), (3, .int x2), (4, .int x3), (5, .int x4)]) hx hb dX12_feed_111 hl (k := 1) rfl (by decide) (by decide) rfl (fun ls hl => ?_)
  refine lv_goto (tgt := 23) hx hb dX12_feed_114 (by decide) ?_
  refine lv_iload hx hb dX12_feed_23 (lv_at hl 0 rfl) ?_
  refine lv_bipush (v := 20) hx hb dX12_feed_25 (by decide) ?_
  refine lv_icmp_ge (tgt := 117) hx hb dX12_feed_27 (by decide) (fun c9 => absurd c9 (by decide)) (fun _ => ?_)
  refine lv_iload hx hb dX12_feed_30 (lv_at hl 0 rfl) ?_
  refine lv_iconst (v := 4) hx hb dX12_feed_32 (by decide) ?_
  refine lv_icmp_ge (tgt := 40) hx hb dX12_feed_33 (by decide) (fun _ => ?_) (fun c9 => absurd (by decide) c9)
  refine lv_iload hx hb dX12_feed_40 (lv_at hl 0 rfl) ?_
  refine lv_bipush (v := 8) hx hb dX12_feed_42 (by decide) ?_
  refine lv_icmp_ge (tgt := 51) hx hb dX12_feed_44 (by decide) (fun _ => ?_) (fun c9 => absurd (by decide) c9)
  refine lv_iload hx hb dX12_feed_51 (lv_at hl 0 rfl) ?_
  refine lv_bipush (v := 12) hx hb dX12_feed_53 (by decide) ?_
  refine lv_icmp_ge (tgt := 62) hx hb dX12_feed_55 (by decide) (fun _ => ?_) (fun c9 => absurd (by decide) c9)
  refine lv_iload hx hb dX12_feed_62 (lv_at hl 0 rfl) ?_
  refine lv_bipush (v := 16) hx hb dX12_feed_64 (by decide) ?_
  refine lv_icmp_ge (tgt := 74) hx hb dX12_feed_66 (by decide) (fun c9 => absurd c9 (by decide)) (fun _ => ?_)
  refine lv_iload hx hb dX12_feed_69 (lv_at hl 6 rfl) ?_
  refine lv_goto (tgt := 76) hx hb dX12_feed_71 (by decide) ?_
  refine lv_istore (lv' := [(7, .int x3), (6, .int 13), (0, .ref a0), (1, .int x0), (2, .int x1), (3, .int x2), (4, .int x3), (5, .int x4)]) hx hb dX12_feed_76 hl (by decide) rfl (fun ls hl => ?_)
  refine lv_aload_n hx hb dX12_feed_78 rfl (lv_at hl 2 rfl) ?_
  refine va_get (D := D) (ci := 11) (v := .ref a1) (C := RX12) (T := TX12) (N := 62) hx hb hts iw_X12 hown hM.1 hP 0 rfl rfl 3 (by decide) (hts _ q_1498) (fun _ h9 => h9) rfl dX12_feed_79 ?_
  refine lv_aload_n hx hb dX12_feed_82 rfl (lv_at hl 2 rfl) ?_
  refine va_get (D := D) (ci := 11) (v := .int 13) (C := RX12) (T := TX12) (N := 62) hx hb hts iw_X12 hown hM.1 hP 0 rfl rfl 2 (by decide) (hts _ q_1497) (fun _ h9 => h9) rfl dX12_feed_83 ?_
  refine lv_iload hx hb dX12_feed_86 (lv_at hl 0 rfl) ?_
  refine lv_bipush (v := 24) hx hb dX12_feed_88 (by decide) ?_
  refine lv_bipush (v := 8) hx hb dX12_feed_90 (by decide) ?_
  refine lv_iload hx hb dX12_feed_92 (lv_at hl 1 rfl) ?_
  refine lv_iconst (v := 4) hx hb dX12_feed_94 (by decide) ?_
  refine lv_irem hx hb dX12_feed_95 (by decide) ?_
  refine lv_topi (fun z193 e9 => ?_)
  obtain rfl : z193 = (1 : Int32) := e9.trans (by decide)
  refine lv_imul hx hb dX12_feed_96 ?_
  refine lv_topi (fun z194 e9 => ?_)
  obtain rfl : z194 = (8 : Int32) := e9.trans (by decide)
  refine lv_isub hx hb dX12_feed_97 ?_
  refine lv_topi (fun z195 e9 => ?_)
  obtain rfl : z195 = (16 : Int32) := e9.trans (by decide)
  refine lv_ishr hx hb dX12_feed_98 ?_
  refine lv_topi (fun z196 e9 => ?_)
  obtain ⟨z197, e9⟩ : ∃ y : Int32, Int8.toInt32 (Int32.toInt8 z196) = y := ⟨_, rfl⟩
  refine lv_i2b hx hb dX12_feed_99 e9 ?_
  refine va_bast hx hb hM.1 hP hD hS 1 1 rfl rfl (nm_vin (by decide)) dX12_feed_100 (fun H locs hP hD hS => ?_)
  have hP : va_P D nm_cl [(a0, .inr (11, [.int 0, v1, .int 13, .ref a1, v2, v3, v4, v5, v6, v7, v8, v9, v10, v11, v12, v13, v14, v15, v16, v17, v18, v19, v20, v21, v22, v23, v24, v25, v26, v27, v28, v29, v30, v31, v32, v33, v34, v35, v36, v37, v38, v39, v40, v41, v42, v43, v44, v45, v46, v47, v48, v49, v50, v51, v52, v53, v54, v55, v56, v57, v58, v59])), (a1, .inl (cB, 400, .inl (upd f191 (Int32.toNatClampNeg 13) (vp_nar .byte z197))))] H := hP
  have hD : va_D A [(a0, .inr (11, [.int 0, v1, .int 13, .ref a1, v2, v3, v4, v5, v6, v7, v8, v9, v10, v11, v12, v13, v14, v15, v16, v17, v18, v19, v20, v21, v22, v23, v24, v25, v26, v27, v28, v29, v30, v31, v32, v33, v34, v35, v36, v37, v38, v39, v40, v41, v42, v43, v44, v45, v46, v47, v48, v49, v50, v51, v52, v53, v54, v55, v56, v57, v58, v59])), (a1, .inl (cB, 400, .inl (upd f191 (Int32.toNatClampNeg 13) (vp_nar .byte z197))))] := hD
  obtain ⟨f198, hf9⟩ : ∃ g : Nat → Int32, g = (upd f191 (Int32.toNatClampNeg 13) (vp_nar .byte z197)) := ⟨_, rfl⟩
  rw [← hf9] at hP hD
  have hy_f198 : ∀ j, fits .byte (.int (f198 j)) = true := by rw [hf9]; exact nm_by hy_f191
  refine lv_aload_n hx hb dX12_feed_101 rfl (lv_at hl 2 rfl) ?_
  refine lv_dup hx hb dX12_feed_102 rfl ?_
  refine va_get (D := D) (ci := 11) (v := .int 13) (C := RX12) (T := TX12) (N := 62) hx hb hts iw_X12 hown hM.1 hP 0 rfl rfl 2 (by decide) (hts _ q_1497) (fun _ h9 => h9) rfl dX12_feed_103 ?_
  refine lv_iconst (v := 1) hx hb dX12_feed_106 (by decide) ?_
  refine lv_iadd hx hb dX12_feed_107 ?_
  refine lv_topi (fun z199 e9 => ?_)
  obtain rfl : z199 = (14 : Int32) := e9.trans (by decide)
  refine va_put (D := D) (ci := 11) (v := .int 14) (ty := .int) (C := RX12) (T := TX12) (N := 62) hx hb hts iw_X12 tyX12 tyX12_ok nmX12 hown hM.1 hP hD hS 0 rfl rfl 2 (by decide) (hts _ q_1497) (fun _ h9 => h9) rfl (by decide +kernel) rfl rfl (Nat.le_of_ble_eq_true rfl) dX12_feed_108 (fun H locs hP hD hS => ?_)
  have hP : va_P D nm_cl [(a0, .inr (11, [.int 0, v1, .int 14, .ref a1, v2, v3, v4, v5, v6, v7, v8, v9, v10, v11, v12, v13, v14, v15, v16, v17, v18, v19, v20, v21, v22, v23, v24, v25, v26, v27, v28, v29, v30, v31, v32, v33, v34, v35, v36, v37, v38, v39, v40, v41, v42, v43, v44, v45, v46, v47, v48, v49, v50, v51, v52, v53, v54, v55, v56, v57, v58, v59])), (a1, .inl (cB, 400, .inl f198))] H := hP
  have hD : va_D A [(a0, .inr (11, [.int 0, v1, .int 14, .ref a1, v2, v3, v4, v5, v6, v7, v8, v9, v10, v11, v12, v13, v14, v15, v16, v17, v18, v19, v20, v21, v22, v23, v24, v25, v26, v27, v28, v29, v30, v31, v32, v33, v34, v35, v36, v37, v38, v39, v40, v41, v42, v43, v44, v45, v46, v47, v48, v49, v50, v51, v52, v53, v54, v55, v56, v57, v58, v59])), (a1, .inl (cB, 400, .inl f198))] := hD
  refine lv_iinc (v := 14) (lv' := [(6, .int 14), (7, .int x3), (0, .ref a0), (1, .int x0), (2, .int x1), (3, .int x2), (4, .int x3), (5, .int x4)]) hx hb dX12_feed_111 hl (k := 1) rfl (by decide) (by decide) rfl (fun ls hl => ?_)
  refine lv_goto (tgt := 23) hx hb dX12_feed_114 (by decide) ?_
  refine lv_iload hx hb dX12_feed_23 (lv_at hl 0 rfl) ?_
  refine lv_bipush (v := 20) hx hb dX12_feed_25 (by decide) ?_
  refine lv_icmp_ge (tgt := 117) hx hb dX12_feed_27 (by decide) (fun c9 => absurd c9 (by decide)) (fun _ => ?_)
  refine lv_iload hx hb dX12_feed_30 (lv_at hl 0 rfl) ?_
  refine lv_iconst (v := 4) hx hb dX12_feed_32 (by decide) ?_
  refine lv_icmp_ge (tgt := 40) hx hb dX12_feed_33 (by decide) (fun _ => ?_) (fun c9 => absurd (by decide) c9)
  refine lv_iload hx hb dX12_feed_40 (lv_at hl 0 rfl) ?_
  refine lv_bipush (v := 8) hx hb dX12_feed_42 (by decide) ?_
  refine lv_icmp_ge (tgt := 51) hx hb dX12_feed_44 (by decide) (fun _ => ?_) (fun c9 => absurd (by decide) c9)
  refine lv_iload hx hb dX12_feed_51 (lv_at hl 0 rfl) ?_
  refine lv_bipush (v := 12) hx hb dX12_feed_53 (by decide) ?_
  refine lv_icmp_ge (tgt := 62) hx hb dX12_feed_55 (by decide) (fun _ => ?_) (fun c9 => absurd (by decide) c9)
  refine lv_iload hx hb dX12_feed_62 (lv_at hl 0 rfl) ?_
  refine lv_bipush (v := 16) hx hb dX12_feed_64 (by decide) ?_
  refine lv_icmp_ge (tgt := 74) hx hb dX12_feed_66 (by decide) (fun c9 => absurd c9 (by decide)) (fun _ => ?_)
  refine lv_iload hx hb dX12_feed_69 (lv_at hl 6 rfl) ?_
  refine lv_goto (tgt := 76) hx hb dX12_feed_71 (by decide) ?_
  refine lv_istore (lv' := [(7, .int x3), (6, .int 14), (0, .ref a0), (1, .int x0), (2, .int x1), (3, .int x2), (4, .int x3), (5, .int x4)]) hx hb dX12_feed_76 hl (by decide) rfl (fun ls hl => ?_)
  refine lv_aload_n hx hb dX12_feed_78 rfl (lv_at hl 2 rfl) ?_
  refine va_get (D := D) (ci := 11) (v := .ref a1) (C := RX12) (T := TX12) (N := 62) hx hb hts iw_X12 hown hM.1 hP 0 rfl rfl 3 (by decide) (hts _ q_1498) (fun _ h9 => h9) rfl dX12_feed_79 ?_
  refine lv_aload_n hx hb dX12_feed_82 rfl (lv_at hl 2 rfl) ?_
  refine va_get (D := D) (ci := 11) (v := .int 14) (C := RX12) (T := TX12) (N := 62) hx hb hts iw_X12 hown hM.1 hP 0 rfl rfl 2 (by decide) (hts _ q_1497) (fun _ h9 => h9) rfl dX12_feed_83 ?_
  refine lv_iload hx hb dX12_feed_86 (lv_at hl 0 rfl) ?_
  refine lv_bipush (v := 24) hx hb dX12_feed_88 (by decide) ?_
  refine lv_bipush (v := 8) hx hb dX12_feed_90 (by decide) ?_
  refine lv_iload hx hb dX12_feed_92 (lv_at hl 1 rfl) ?_
  refine lv_iconst (v := 4) hx hb dX12_feed_94 (by decide) ?_
  refine lv_irem hx hb dX12_feed_95 (by decide) ?_
  refine lv_topi (fun z200 e9 => ?_)
  obtain rfl : z200 = (2 : Int32) := e9.trans (by decide)
  refine lv_imul hx hb dX12_feed_96 ?_
  refine lv_topi (fun z201 e9 => ?_)
  obtain rfl : z201 = (16 : Int32) := e9.trans (by decide)
  refine lv_isub hx hb dX12_feed_97 ?_
  refine lv_topi (fun z202 e9 => ?_)
  obtain rfl : z202 = (8 : Int32) := e9.trans (by decide)
  refine lv_ishr hx hb dX12_feed_98 ?_
  refine lv_topi (fun z203 e9 => ?_)
  obtain ⟨z204, e9⟩ : ∃ y : Int32, Int8.toInt32 (Int32.toInt8 z203) = y := ⟨_, rfl⟩
  refine lv_i2b hx hb dX12_feed_99 e9 ?_
  refine va_bast hx hb hM.1 hP hD hS 1 1 rfl rfl (nm_vin (by decide)) dX12_feed_100 (fun H locs hP hD hS => ?_)
  have hP : va_P D nm_cl [(a0, .inr (11, [.int 0, v1, .int 14, .ref a1, v2, v3, v4, v5, v6, v7, v8, v9, v10, v11, v12, v13, v14, v15, v16, v17, v18, v19, v20, v21, v22, v23, v24, v25, v26, v27, v28, v29, v30, v31, v32, v33, v34, v35, v36, v37, v38, v39, v40, v41, v42, v43, v44, v45, v46, v47, v48, v49, v50, v51, v52, v53, v54, v55, v56, v57, v58, v59])), (a1, .inl (cB, 400, .inl (upd f198 (Int32.toNatClampNeg 14) (vp_nar .byte z204))))] H := hP
  have hD : va_D A [(a0, .inr (11, [.int 0, v1, .int 14, .ref a1, v2, v3, v4, v5, v6, v7, v8, v9, v10, v11, v12, v13, v14, v15, v16, v17, v18, v19, v20, v21, v22, v23, v24, v25, v26, v27, v28, v29, v30, v31, v32, v33, v34, v35, v36, v37, v38, v39, v40, v41, v42, v43, v44, v45, v46, v47, v48, v49, v50, v51, v52, v53, v54, v55, v56, v57, v58, v59])), (a1, .inl (cB, 400, .inl (upd f198 (Int32.toNatClampNeg 14) (vp_nar .byte z204))))] := hD
  obtain ⟨f205, hf9⟩ : ∃ g : Nat → Int32, g = (upd f198 (Int32.toNatClampNeg 14) (vp_nar .byte z204)) := ⟨_, rfl⟩
  rw [← hf9] at hP hD
  have hy_f205 : ∀ j, fits .byte (.int (f205 j)) = true := by rw [hf9]; exact nm_by hy_f198
  refine lv_aload_n hx hb dX12_feed_101 rfl (lv_at hl 2 rfl) ?_
  refine lv_dup hx hb dX12_feed_102 rfl ?_
  refine va_get (D := D) (ci := 11) (v := .int 14) (C := RX12) (T := TX12) (N := 62) hx hb hts iw_X12 hown hM.1 hP 0 rfl rfl 2 (by decide) (hts _ q_1497) (fun _ h9 => h9) rfl dX12_feed_103 ?_
  refine lv_iconst (v := 1) hx hb dX12_feed_106 (by decide) ?_
  refine lv_iadd hx hb dX12_feed_107 ?_
  refine lv_topi (fun z206 e9 => ?_)
  obtain rfl : z206 = (15 : Int32) := e9.trans (by decide)
  refine va_put (D := D) (ci := 11) (v := .int 15) (ty := .int) (C := RX12) (T := TX12) (N := 62) hx hb hts iw_X12 tyX12 tyX12_ok nmX12 hown hM.1 hP hD hS 0 rfl rfl 2 (by decide) (hts _ q_1497) (fun _ h9 => h9) rfl (by decide +kernel) rfl rfl (Nat.le_of_ble_eq_true rfl) dX12_feed_108 (fun H locs hP hD hS => ?_)
  have hP : va_P D nm_cl [(a0, .inr (11, [.int 0, v1, .int 15, .ref a1, v2, v3, v4, v5, v6, v7, v8, v9, v10, v11, v12, v13, v14, v15, v16, v17, v18, v19, v20, v21, v22, v23, v24, v25, v26, v27, v28, v29, v30, v31, v32, v33, v34, v35, v36, v37, v38, v39, v40, v41, v42, v43, v44, v45, v46, v47, v48, v49, v50, v51, v52, v53, v54, v55, v56, v57, v58, v59])), (a1, .inl (cB, 400, .inl f205))] H := hP
  have hD : va_D A [(a0, .inr (11, [.int 0, v1, .int 15, .ref a1, v2, v3, v4, v5, v6, v7, v8, v9, v10, v11, v12, v13, v14, v15, v16, v17, v18, v19, v20, v21, v22, v23, v24, v25, v26, v27, v28, v29, v30, v31, v32, v33, v34, v35, v36, v37, v38, v39, v40, v41, v42, v43, v44, v45, v46, v47, v48, v49, v50, v51, v52, v53, v54, v55, v56, v57, v58, v59])), (a1, .inl (cB, 400, .inl f205))] := hD
  refine lv_iinc (v := 15) (lv' := [(6, .int 15), (7, .int x3), (0, .ref a0), (1, .int x0), (2, .int x1), (3, .int x2), (4, .int x3), (5, .int x4)]) hx hb dX12_feed_111 hl (k := 1) rfl (by decide) (by decide) rfl (fun ls hl => ?_)
  refine lv_goto (tgt := 23) hx hb dX12_feed_114 (by decide) ?_
  refine lv_iload hx hb dX12_feed_23 (lv_at hl 0 rfl) ?_
  refine lv_bipush (v := 20) hx hb dX12_feed_25 (by decide) ?_
  refine lv_icmp_ge (tgt := 117) hx hb dX12_feed_27 (by decide) (fun c9 => absurd c9 (by decide)) (fun _ => ?_)
  refine lv_iload hx hb dX12_feed_30 (lv_at hl 0 rfl) ?_
  refine lv_iconst (v := 4) hx hb dX12_feed_32 (by decide) ?_
  refine lv_icmp_ge (tgt := 40) hx hb dX12_feed_33 (by decide) (fun _ => ?_) (fun c9 => absurd (by decide) c9)
  refine lv_iload hx hb dX12_feed_40 (lv_at hl 0 rfl) ?_
  refine lv_bipush (v := 8) hx hb dX12_feed_42 (by decide) ?_
  refine lv_icmp_ge (tgt := 51) hx hb dX12_feed_44 (by decide) (fun _ => ?_) (fun c9 => absurd (by decide) c9)
  refine lv_iload hx hb dX12_feed_51 (lv_at hl 0 rfl) ?_
  refine lv_bipush (v := 12) hx hb dX12_feed_53 (by decide) ?_
  refine lv_icmp_ge (tgt := 62) hx hb dX12_feed_55 (by decide) (fun _ => ?_) (fun c9 => absurd (by decide) c9)
  refine lv_iload hx hb dX12_feed_62 (lv_at hl 0 rfl) ?_
  refine lv_bipush (v := 16) hx hb dX12_feed_64 (by decide) ?_
  refine lv_icmp_ge (tgt := 74) hx hb dX12_feed_66 (by decide) (fun c9 => absurd c9 (by decide)) (fun _ => ?_)
  refine lv_iload hx hb dX12_feed_69 (lv_at hl 6 rfl) ?_
  refine lv_goto (tgt := 76) hx hb dX12_feed_71 (by decide) ?_
  refine lv_istore (lv' := [(7, .int x3), (6, .int 15), (0, .ref a0), (1, .int x0), (2, .int x1), (3, .int x2), (4, .int x3), (5, .int x4)]) hx hb dX12_feed_76 hl (by decide) rfl (fun ls hl => ?_)
  refine lv_aload_n hx hb dX12_feed_78 rfl (lv_at hl 2 rfl) ?_
  refine va_get (D := D) (ci := 11) (v := .ref a1) (C := RX12) (T := TX12) (N := 62) hx hb hts iw_X12 hown hM.1 hP 0 rfl rfl 3 (by decide) (hts _ q_1498) (fun _ h9 => h9) rfl dX12_feed_79 ?_
  refine lv_aload_n hx hb dX12_feed_82 rfl (lv_at hl 2 rfl) ?_
  refine va_get (D := D) (ci := 11) (v := .int 15) (C := RX12) (T := TX12) (N := 62) hx hb hts iw_X12 hown hM.1 hP 0 rfl rfl 2 (by decide) (hts _ q_1497) (fun _ h9 => h9) rfl dX12_feed_83 ?_
  refine lv_iload hx hb dX12_feed_86 (lv_at hl 0 rfl) ?_
  refine lv_bipush (v := 24) hx hb dX12_feed_88 (by decide) ?_
  refine lv_bipush (v := 8) hx hb dX12_feed_90 (by decide) ?_
  refine lv_iload hx hb dX12_feed_92 (lv_at hl 1 rfl) ?_
  refine lv_iconst (v := 4) hx hb dX12_feed_94 (by decide) ?_
  refine lv_irem hx hb dX12_feed_95 (by decide) ?_
  refine lv_topi (fun z207 e9 => ?_)
  obtain rfl : z207 = (3 : Int32) := e9.trans (by decide)
  refine lv_imul hx hb dX12_feed_96 ?_
  refine lv_topi (fun z208 e9 => ?_)
  obtain rfl : z208 = (24 : Int32) := e9.trans (by decide)
  refine lv_isub hx hb dX12_feed_97 ?_
  refine lv_topi (fun z209 e9 => ?_)
  obtain rfl : z209 = (0 : Int32) := e9.trans (by decide)
  refine lv_ishr hx hb dX12_feed_98 ?_
  refine lv_topi (fun z210 e9 => ?_)
  obtain ⟨z211, e9⟩ : ∃ y : Int32, Int8.toInt32 (Int32.toInt8 z210) = y := ⟨_, rfl⟩
  refine lv_i2b hx hb dX12_feed_99 e9 ?_
  refine va_bast hx hb hM.1 hP hD hS 1 1 rfl rfl (nm_vin (by decide)) dX12_feed_100 (fun H locs hP hD hS => ?_)
  have hP : va_P D nm_cl [(a0, .inr (11, [.int 0, v1, .int 15, .ref a1, v2, v3, v4, v5, v6, v7, v8, v9, v10, v11, v12, v13, v14, v15, v16, v17, v18, v19, v20, v21, v22, v23, v24, v25, v26, v27, v28, v29, v30, v31, v32, v33, v34, v35, v36, v37, v38, v39, v40, v41, v42, v43, v44, v45, v46, v47, v48, v49, v50, v51, v52, v53, v54, v55, v56, v57, v58, v59])), (a1, .inl (cB, 400, .inl (upd f205 (Int32.toNatClampNeg 15) (vp_nar .byte z211))))] H := hP
  have hD : va_D A [(a0, .inr (11, [.int 0, v1, .int 15, .ref a1, v2, v3, v4, v5, v6, v7, v8, v9, v10, v11, v12, v13, v14, v15, v16, v17, v18, v19, v20, v21, v22, v23, v24, v25, v26, v27, v28, v29, v30, v31, v32, v33, v34, v35, v36, v37, v38, v39, v40, v41, v42, v43, v44, v45, v46, v47, v48, v49, v50, v51, v52, v53, v54, v55, v56, v57, v58, v59])), (a1, .inl (cB, 400, .inl (upd f205 (Int32.toNatClampNeg 15) (vp_nar .byte z211))))] := hD
  obtain ⟨f212, hf9⟩ : ∃ g : Nat → Int32, g = (upd f205 (Int32.toNatClampNeg 15) (vp_nar .byte z211)) := ⟨_, rfl⟩
  rw [← hf9] at hP hD
  have hy_f212 : ∀ j, fits .byte (.int (f212 j)) = true := by rw [hf9]; exact nm_by hy_f205
  refine lv_aload_n hx hb dX12_feed_101 rfl (lv_at hl 2 rfl) ?_
  refine lv_dup hx hb dX12_feed_102 rfl ?_
  refine va_get (D := D) (ci := 11) (v := .int 15) (C := RX12) (T := TX12) (N := 62) hx hb hts iw_X12 hown hM.1 hP 0 rfl rfl 2 (by decide) (hts _ q_1497) (fun _ h9 => h9) rfl dX12_feed_103 ?_
  refine lv_iconst (v := 1) hx hb dX12_feed_106 (by decide) ?_
  refine lv_iadd hx hb dX12_feed_107 ?_
  refine lv_topi (fun z213 e9 => ?_)
  obtain rfl : z213 = (16 : Int32) := e9.trans (by decide)
  refine va_put (D := D) (ci := 11) (v := .int 16) (ty := .int) (C := RX12) (T := TX12) (N := 62) hx hb hts iw_X12 tyX12 tyX12_ok nmX12 hown hM.1 hP hD hS 0 rfl rfl 2 (by decide) (hts _ q_1497) (fun _ h9 => h9) rfl (by decide +kernel) rfl rfl (Nat.le_of_ble_eq_true rfl) dX12_feed_108 (fun H locs hP hD hS => ?_)
  have hP : va_P D nm_cl [(a0, .inr (11, [.int 0, v1, .int 16, .ref a1, v2, v3, v4, v5, v6, v7, v8, v9, v10, v11, v12, v13, v14, v15, v16, v17, v18, v19, v20, v21, v22, v23, v24, v25, v26, v27, v28, v29, v30, v31, v32, v33, v34, v35, v36, v37, v38, v39, v40, v41, v42, v43, v44, v45, v46, v47, v48, v49, v50, v51, v52, v53, v54, v55, v56, v57, v58, v59])), (a1, .inl (cB, 400, .inl f212))] H := hP
  have hD : va_D A [(a0, .inr (11, [.int 0, v1, .int 16, .ref a1, v2, v3, v4, v5, v6, v7, v8, v9, v10, v11, v12, v13, v14, v15, v16, v17, v18, v19, v20, v21, v22, v23, v24, v25, v26, v27, v28, v29, v30, v31, v32, v33, v34, v35, v36, v37, v38, v39, v40, v41, v42, v43, v44, v45, v46, v47, v48, v49, v50, v51, v52, v53, v54, v55, v56, v57, v58, v59])), (a1, .inl (cB, 400, .inl f212))] := hD
  refine lv_iinc (v := 16) (lv' := [(6, .int 16), (7, .int x3), (0, .ref a0), (1, .int x0), (2, .int x1), (3, .int x2), (4, .int x3), (5, .int x4)]) hx hb dX12_feed_111 hl (k := 1) rfl (by decide) (by decide) rfl (fun ls hl => ?_)
  refine lv_goto (tgt := 23) hx hb dX12_feed_114 (by decide) ?_
  refine lv_iload hx hb dX12_feed_23 (lv_at hl 0 rfl) ?_
  refine lv_bipush (v := 20) hx hb dX12_feed_25 (by decide) ?_
  refine lv_icmp_ge (tgt := 117) hx hb dX12_feed_27 (by decide) (fun c9 => absurd c9 (by decide)) (fun _ => ?_)
  refine lv_iload hx hb dX12_feed_30 (lv_at hl 0 rfl) ?_
  refine lv_iconst (v := 4) hx hb dX12_feed_32 (by decide) ?_
  refine lv_icmp_ge (tgt := 40) hx hb dX12_feed_33 (by decide) (fun _ => ?_) (fun c9 => absurd (by decide) c9)
  refine lv_iload hx hb dX12_feed_40 (lv_at hl 0 rfl) ?_
  refine lv_bipush (v := 8) hx hb dX12_feed_42 (by decide) ?_
  refine lv_icmp_ge (tgt := 51) hx hb dX12_feed_44 (by decide) (fun _ => ?_) (fun c9 => absurd (by decide) c9)
  refine lv_iload hx hb dX12_feed_51 (lv_at hl 0 rfl) ?_
  refine lv_bipush (v := 12) hx hb dX12_feed_53 (by decide) ?_
  refine lv_icmp_ge (tgt := 62) hx hb dX12_feed_55 (by decide) (fun _ => ?_) (fun c9 => absurd (by decide) c9)
  refine lv_iload hx hb dX12_feed_62 (lv_at hl 0 rfl) ?_
  refine lv_bipush (v := 16) hx hb dX12_feed_64 (by decide) ?_
  refine lv_icmp_ge (tgt := 74) hx hb dX12_feed_66 (by decide) (fun _ => ?_) (fun c9 => absurd (by decide) c9)
  refine lv_iload hx hb dX12_feed_74 (lv_at hl 7 rfl) ?_
  refine lv_istore (lv' := [(7, .int x4), (6, .int 16), (0, .ref a0), (1, .int x0), (2, .int x1), (3, .int x2), (4, .int x3), (5, .int x4)]) hx hb dX12_feed_76 hl (by decide) rfl (fun ls hl => ?_)
  refine lv_aload_n hx hb dX12_feed_78 rfl (lv_at hl 2 rfl) ?_
  refine va_get (D := D) (ci := 11) (v := .ref a1) (C := RX12) (T := TX12) (N := 62) hx hb hts iw_X12 hown hM.1 hP 0 rfl rfl 3 (by decide) (hts _ q_1498) (fun _ h9 => h9) rfl dX12_feed_79 ?_
  refine lv_aload_n hx hb dX12_feed_82 rfl (lv_at hl 2 rfl) ?_
  refine va_get (D := D) (ci := 11) (v := .int 16) (C := RX12) (T := TX12) (N := 62) hx hb hts iw_X12 hown hM.1 hP 0 rfl rfl 2 (by decide) (hts _ q_1497) (fun _ h9 => h9) rfl dX12_feed_83 ?_
  refine lv_iload hx hb dX12_feed_86 (lv_at hl 0 rfl) ?_
  refine lv_bipush (v := 24) hx hb dX12_feed_88 (by decide) ?_
  refine lv_bipush (v := 8) hx hb dX12_feed_90 (by decide) ?_
  refine lv_iload hx hb dX12_feed_92 (lv_at hl 1 rfl) ?_
  refine lv_iconst (v := 4) hx hb dX12_feed_94 (by decide) ?_
  refine lv_irem hx hb dX12_feed_95 (by decide) ?_
  refine lv_topi (fun z214 e9 => ?_)
  obtain rfl : z214 = (0 : Int32) := e9.trans (by decide)
  refine lv_imul hx hb dX12_feed_96 ?_
  refine lv_topi (fun z215 e9 => ?_)
  obtain rfl : z215 = (0 : Int32) := e9.trans (by decide)
  refine lv_isub hx hb dX12_feed_97 ?_
  refine lv_topi (fun z216 e9 => ?_)
  obtain rfl : z216 = (24 : Int32) := e9.trans (by decide)
  refine lv_ishr hx hb dX12_feed_98 ?_
  refine lv_topi (fun z217 e9 => ?_)
  obtain ⟨z218, e9⟩ : ∃ y : Int32, Int8.toInt32 (Int32.toInt8 z217) = y := ⟨_, rfl⟩
  refine lv_i2b hx hb dX12_feed_99 e9 ?_
  refine va_bast hx hb hM.1 hP hD hS 1 1 rfl rfl (nm_vin (by decide)) dX12_feed_100 (fun H locs hP hD hS => ?_)
  have hP : va_P D nm_cl [(a0, .inr (11, [.int 0, v1, .int 16, .ref a1, v2, v3, v4, v5, v6, v7, v8, v9, v10, v11, v12, v13, v14, v15, v16, v17, v18, v19, v20, v21, v22, v23, v24, v25, v26, v27, v28, v29, v30, v31, v32, v33, v34, v35, v36, v37, v38, v39, v40, v41, v42, v43, v44, v45, v46, v47, v48, v49, v50, v51, v52, v53, v54, v55, v56, v57, v58, v59])), (a1, .inl (cB, 400, .inl (upd f212 (Int32.toNatClampNeg 16) (vp_nar .byte z218))))] H := hP
  have hD : va_D A [(a0, .inr (11, [.int 0, v1, .int 16, .ref a1, v2, v3, v4, v5, v6, v7, v8, v9, v10, v11, v12, v13, v14, v15, v16, v17, v18, v19, v20, v21, v22, v23, v24, v25, v26, v27, v28, v29, v30, v31, v32, v33, v34, v35, v36, v37, v38, v39, v40, v41, v42, v43, v44, v45, v46, v47, v48, v49, v50, v51, v52, v53, v54, v55, v56, v57, v58, v59])), (a1, .inl (cB, 400, .inl (upd f212 (Int32.toNatClampNeg 16) (vp_nar .byte z218))))] := hD
  obtain ⟨f219, hf9⟩ : ∃ g : Nat → Int32, g = (upd f212 (Int32.toNatClampNeg 16) (vp_nar .byte z218)) := ⟨_, rfl⟩
  rw [← hf9] at hP hD
  have hy_f219 : ∀ j, fits .byte (.int (f219 j)) = true := by rw [hf9]; exact nm_by hy_f212
  refine lv_aload_n hx hb dX12_feed_101 rfl (lv_at hl 2 rfl) ?_
  refine lv_dup hx hb dX12_feed_102 rfl ?_
  refine va_get (D := D) (ci := 11) (v := .int 16) (C := RX12) (T := TX12) (N := 62) hx hb hts iw_X12 hown hM.1 hP 0 rfl rfl 2 (by decide) (hts _ q_1497) (fun _ h9 => h9) rfl dX12_feed_103 ?_
  refine lv_iconst (v := 1) hx hb dX12_feed_106 (by decide) ?_
  refine lv_iadd hx hb dX12_feed_107 ?_
  refine lv_topi (fun z220 e9 => ?_)
  obtain rfl : z220 = (17 : Int32) := e9.trans (by decide)
  refine va_put (D := D) (ci := 11) (v := .int 17) (ty := .int) (C := RX12) (T := TX12) (N := 62) hx hb hts iw_X12 tyX12 tyX12_ok nmX12 hown hM.1 hP hD hS 0 rfl rfl 2 (by decide) (hts _ q_1497) (fun _ h9 => h9) rfl (by decide +kernel) rfl rfl (Nat.le_of_ble_eq_true rfl) dX12_feed_108 (fun H locs hP hD hS => ?_)
  have hP : va_P D nm_cl [(a0, .inr (11, [.int 0, v1, .int 17, .ref a1, v2, v3, v4, v5, v6, v7, v8, v9, v10, v11, v12, v13, v14, v15, v16, v17, v18, v19, v20, v21, v22, v23, v24, v25, v26, v27, v28, v29, v30, v31, v32, v33, v34, v35, v36, v37, v38, v39, v40, v41, v42, v43, v44, v45, v46, v47, v48, v49, v50, v51, v52, v53, v54, v55, v56, v57, v58, v59])), (a1, .inl (cB, 400, .inl f219))] H := hP
  have hD : va_D A [(a0, .inr (11, [.int 0, v1, .int 17, .ref a1, v2, v3, v4, v5, v6, v7, v8, v9, v10, v11, v12, v13, v14, v15, v16, v17, v18, v19, v20, v21, v22, v23, v24, v25, v26, v27, v28, v29, v30, v31, v32, v33, v34, v35, v36, v37, v38, v39, v40, v41, v42, v43, v44, v45, v46, v47, v48, v49, v50, v51, v52, v53, v54, v55, v56, v57, v58, v59])), (a1, .inl (cB, 400, .inl f219))] := hD
  refine lv_iinc (v := 17) (lv' := [(6, .int 17), (7, .int x4), (0, .ref a0), (1, .int x0), (2, .int x1), (3, .int x2), (4, .int x3), (5, .int x4)]) hx hb dX12_feed_111 hl (k := 1) rfl (by decide) (by decide) rfl (fun ls hl => ?_)
  refine lv_goto (tgt := 23) hx hb dX12_feed_114 (by decide) ?_
  refine lv_iload hx hb dX12_feed_23 (lv_at hl 0 rfl) ?_
  refine lv_bipush (v := 20) hx hb dX12_feed_25 (by decide) ?_
  refine lv_icmp_ge (tgt := 117) hx hb dX12_feed_27 (by decide) (fun c9 => absurd c9 (by decide)) (fun _ => ?_)
  refine lv_iload hx hb dX12_feed_30 (lv_at hl 0 rfl) ?_
  refine lv_iconst (v := 4) hx hb dX12_feed_32 (by decide) ?_
  refine lv_icmp_ge (tgt := 40) hx hb dX12_feed_33 (by decide) (fun _ => ?_) (fun c9 => absurd (by decide) c9)
  refine lv_iload hx hb dX12_feed_40 (lv_at hl 0 rfl) ?_
  refine lv_bipush (v := 8) hx hb dX12_feed_42 (by decide) ?_
  refine lv_icmp_ge (tgt := 51) hx hb dX12_feed_44 (by decide) (fun _ => ?_) (fun c9 => absurd (by decide) c9)
  refine lv_iload hx hb dX12_feed_51 (lv_at hl 0 rfl) ?_
  refine lv_bipush (v := 12) hx hb dX12_feed_53 (by decide) ?_
  refine lv_icmp_ge (tgt := 62) hx hb dX12_feed_55 (by decide) (fun _ => ?_) (fun c9 => absurd (by decide) c9)
  refine lv_iload hx hb dX12_feed_62 (lv_at hl 0 rfl) ?_
  refine lv_bipush (v := 16) hx hb dX12_feed_64 (by decide) ?_
  refine lv_icmp_ge (tgt := 74) hx hb dX12_feed_66 (by decide) (fun _ => ?_) (fun c9 => absurd (by decide) c9)
  refine lv_iload hx hb dX12_feed_74 (lv_at hl 7 rfl) ?_
  refine lv_istore (lv' := [(7, .int x4), (6, .int 17), (0, .ref a0), (1, .int x0), (2, .int x1), (3, .int x2), (4, .int x3), (5, .int x4)]) hx hb dX12_feed_76 hl (by decide) rfl (fun ls hl => ?_)
  refine lv_aload_n hx hb dX12_feed_78 rfl (lv_at hl 2 rfl) ?_
  refine va_get (D := D) (ci := 11) (v := .ref a1) (C := RX12) (T := TX12) (N := 62) hx hb hts iw_X12 hown hM.1 hP 0 rfl rfl 3 (by decide) (hts _ q_1498) (fun _ h9 => h9) rfl dX12_feed_79 ?_
  refine lv_aload_n hx hb dX12_feed_82 rfl (lv_at hl 2 rfl) ?_
  refine va_get (D := D) (ci := 11) (v := .int 17) (C := RX12) (T := TX12) (N := 62) hx hb hts iw_X12 hown hM.1 hP 0 rfl rfl 2 (by decide) (hts _ q_1497) (fun _ h9 => h9) rfl dX12_feed_83 ?_
  refine lv_iload hx hb dX12_feed_86 (lv_at hl 0 rfl) ?_
  refine lv_bipush (v := 24) hx hb dX12_feed_88 (by decide) ?_
  refine lv_bipush (v := 8) hx hb dX12_feed_90 (by decide) ?_
  refine lv_iload hx hb dX12_feed_92 (lv_at hl 1 rfl) ?_
  refine lv_iconst (v := 4) hx hb dX12_feed_94 (by decide) ?_
  refine lv_irem hx hb dX12_feed_95 (by decide) ?_
  refine lv_topi (fun z221 e9 => ?_)
  obtain rfl : z221 = (1 : Int32) := e9.trans (by decide)
  refine lv_imul hx hb dX12_feed_96 ?_
  refine lv_topi (fun z222 e9 => ?_)
  obtain rfl : z222 = (8 : Int32) := e9.trans (by decide)
  refine lv_isub hx hb dX12_feed_97 ?_
  refine lv_topi (fun z223 e9 => ?_)
  obtain rfl : z223 = (16 : Int32) := e9.trans (by decide)
  refine lv_ishr hx hb dX12_feed_98 ?_
  refine lv_topi (fun z224 e9 => ?_)
  obtain ⟨z225, e9⟩ : ∃ y : Int32, Int8.toInt32 (Int32.toInt8 z224) = y := ⟨_, rfl⟩
  refine lv_i2b hx hb dX12_feed_99 e9 ?_
  refine va_bast hx hb hM.1 hP hD hS 1 1 rfl rfl (nm_vin (by decide)) dX12_feed_100 (fun H locs hP hD hS => ?_)
  have hP : va_P D nm_cl [(a0, .inr (11, [.int 0, v1, .int 17, .ref a1, v2, v3, v4, v5, v6, v7, v8, v9, v10, v11, v12, v13, v14, v15, v16, v17, v18, v19, v20, v21, v22, v23, v24, v25, v26, v27, v28, v29, v30, v31, v32, v33, v34, v35, v36, v37, v38, v39, v40, v41, v42, v43, v44, v45, v46, v47, v48, v49, v50, v51, v52, v53, v54, v55, v56, v57, v58, v59])), (a1, .inl (cB, 400, .inl (upd f219 (Int32.toNatClampNeg 17) (vp_nar .byte z225))))] H := hP
  have hD : va_D A [(a0, .inr (11, [.int 0, v1, .int 17, .ref a1, v2, v3, v4, v5, v6, v7, v8, v9, v10, v11, v12, v13, v14, v15, v16, v17, v18, v19, v20, v21, v22, v23, v24, v25, v26, v27, v28, v29, v30, v31, v32, v33, v34, v35, v36, v37, v38, v39, v40, v41, v42, v43, v44, v45, v46, v47, v48, v49, v50, v51, v52, v53, v54, v55, v56, v57, v58, v59])), (a1, .inl (cB, 400, .inl (upd f219 (Int32.toNatClampNeg 17) (vp_nar .byte z225))))] := hD
  obtain ⟨f226, hf9⟩ : ∃ g : Nat → Int32, g = (upd f219 (Int32.toNatClampNeg 17) (vp_nar .byte z225)) := ⟨_, rfl⟩
  rw [← hf9] at hP hD
  have hy_f226 : ∀ j, fits .byte (.int (f226 j)) = true := by rw [hf9]; exact nm_by hy_f219
  refine lv_aload_n hx hb dX12_feed_101 rfl (lv_at hl 2 rfl) ?_
  refine lv_dup hx hb dX12_feed_102 rfl ?_
  refine va_get (D := D) (ci := 11) (v := .int 17) (C := RX12) (T := TX12) (N := 62) hx hb hts iw_X12 hown hM.1 hP 0 rfl rfl 2 (by decide) (hts _ q_1497) (fun _ h9 => h9) rfl dX12_feed_103 ?_
  refine lv_iconst (v := 1) hx hb dX12_feed_106 (by decide) ?_
  refine lv_iadd hx hb dX12_feed_107 ?_
  refine lv_topi (fun z227 e9 => ?_)
  obtain rfl : z227 = (18 : Int32) := e9.trans (by decide)
  refine va_put (D := D) (ci := 11) (v := .int 18) (ty := .int) (C := RX12) (T := TX12) (N := 62) hx hb hts iw_X12 tyX12 tyX12_ok nmX12 hown hM.1 hP hD hS 0 rfl rfl 2 (by decide) (hts _ q_1497) (fun _ h9 => h9) rfl (by decide +kernel) rfl rfl (Nat.le_of_ble_eq_true rfl) dX12_feed_108 (fun H locs hP hD hS => ?_)
  have hP : va_P D nm_cl [(a0, .inr (11, [.int 0, v1, .int 18, .ref a1, v2, v3, v4, v5, v6, v7, v8, v9, v10, v11, v12, v13, v14, v15, v16, v17, v18, v19, v20, v21, v22, v23, v24, v25, v26, v27, v28, v29, v30, v31, v32, v33, v34, v35, v36, v37, v38, v39, v40, v41, v42, v43, v44, v45, v46, v47, v48, v49, v50, v51, v52, v53, v54, v55, v56, v57, v58, v59])), (a1, .inl (cB, 400, .inl f226))] H := hP
  have hD : va_D A [(a0, .inr (11, [.int 0, v1, .int 18, .ref a1, v2, v3, v4, v5, v6, v7, v8, v9, v10, v11, v12, v13, v14, v15, v16, v17, v18, v19, v20, v21, v22, v23, v24, v25, v26, v27, v28, v29, v30, v31, v32, v33, v34, v35, v36, v37, v38, v39, v40, v41, v42, v43, v44, v45, v46, v47, v48, v49, v50, v51, v52, v53, v54, v55, v56, v57, v58, v59])), (a1, .inl (cB, 400, .inl f226))] := hD
  refine lv_iinc (v := 18) (lv' := [(6, .int 18), (7, .int x4), (0, .ref a0), (1, .int x0), (2, .int x1), (3, .int x2), (4, .int x3), (5, .int x4)]) hx hb dX12_feed_111 hl (k := 1) rfl (by decide) (by decide) rfl (fun ls hl => ?_)
  refine lv_goto (tgt := 23) hx hb dX12_feed_114 (by decide) ?_
  refine lv_iload hx hb dX12_feed_23 (lv_at hl 0 rfl) ?_
  refine lv_bipush (v := 20) hx hb dX12_feed_25 (by decide) ?_
  refine lv_icmp_ge (tgt := 117) hx hb dX12_feed_27 (by decide) (fun c9 => absurd c9 (by decide)) (fun _ => ?_)
  refine lv_iload hx hb dX12_feed_30 (lv_at hl 0 rfl) ?_
  refine lv_iconst (v := 4) hx hb dX12_feed_32 (by decide) ?_
  refine lv_icmp_ge (tgt := 40) hx hb dX12_feed_33 (by decide) (fun _ => ?_) (fun c9 => absurd (by decide) c9)
  refine lv_iload hx hb dX12_feed_40 (lv_at hl 0 rfl) ?_
  refine lv_bipush (v := 8) hx hb dX12_feed_42 (by decide) ?_
  refine lv_icmp_ge (tgt := 51) hx hb dX12_feed_44 (by decide) (fun _ => ?_) (fun c9 => absurd (by decide) c9)
  refine lv_iload hx hb dX12_feed_51 (lv_at hl 0 rfl) ?_
  refine lv_bipush (v := 12) hx hb dX12_feed_53 (by decide) ?_
  refine lv_icmp_ge (tgt := 62) hx hb dX12_feed_55 (by decide) (fun _ => ?_) (fun c9 => absurd (by decide) c9)
  refine lv_iload hx hb dX12_feed_62 (lv_at hl 0 rfl) ?_
  refine lv_bipush (v := 16) hx hb dX12_feed_64 (by decide) ?_
  refine lv_icmp_ge (tgt := 74) hx hb dX12_feed_66 (by decide) (fun _ => ?_) (fun c9 => absurd (by decide) c9)
  refine lv_iload hx hb dX12_feed_74 (lv_at hl 7 rfl) ?_
  refine lv_istore (lv' := [(7, .int x4), (6, .int 18), (0, .ref a0), (1, .int x0), (2, .int x1), (3, .int x2), (4, .int x3), (5, .int x4)]) hx hb dX12_feed_76 hl (by decide) rfl (fun ls hl => ?_)
  refine lv_aload_n hx hb dX12_feed_78 rfl (lv_at hl 2 rfl) ?_
  refine va_get (D := D) (ci := 11) (v := .ref a1) (C := RX12) (T := TX12) (N := 62) hx hb hts iw_X12 hown hM.1 hP 0 rfl rfl 3 (by decide) (hts _ q_1498) (fun _ h9 => h9) rfl dX12_feed_79 ?_
  refine lv_aload_n hx hb dX12_feed_82 rfl (lv_at hl 2 rfl) ?_
  refine va_get (D := D) (ci := 11) (v := .int 18) (C := RX12) (T := TX12) (N := 62) hx hb hts iw_X12 hown hM.1 hP 0 rfl rfl 2 (by decide) (hts _ q_1497) (fun _ h9 => h9) rfl dX12_feed_83 ?_
  refine lv_iload hx hb dX12_feed_86 (lv_at hl 0 rfl) ?_
  refine lv_bipush (v := 24) hx hb dX12_feed_88 (by decide) ?_
  refine lv_bipush (v := 8) hx hb dX12_feed_90 (by decide) ?_
  refine lv_iload hx hb dX12_feed_92 (lv_at hl 1 rfl) ?_
  refine lv_iconst (v := 4) hx hb dX12_feed_94 (by decide) ?_
  refine lv_irem hx hb dX12_feed_95 (by decide) ?_
  refine lv_topi (fun z228 e9 => ?_)
  obtain rfl : z228 = (2 : Int32) := e9.trans (by decide)
  refine lv_imul hx hb dX12_feed_96 ?_
  refine lv_topi (fun z229 e9 => ?_)
  obtain rfl : z229 = (16 : Int32) := e9.trans (by decide)
  refine lv_isub hx hb dX12_feed_97 ?_
  refine lv_topi (fun z230 e9 => ?_)
  obtain rfl : z230 = (8 : Int32) := e9.trans (by decide)
  refine lv_ishr hx hb dX12_feed_98 ?_
  refine lv_topi (fun z231 e9 => ?_)
  obtain ⟨z232, e9⟩ : ∃ y : Int32, Int8.toInt32 (Int32.toInt8 z231) = y := ⟨_, rfl⟩
  refine lv_i2b hx hb dX12_feed_99 e9 ?_
  refine va_bast hx hb hM.1 hP hD hS 1 1 rfl rfl (nm_vin (by decide)) dX12_feed_100 (fun H locs hP hD hS => ?_)
  have hP : va_P D nm_cl [(a0, .inr (11, [.int 0, v1, .int 18, .ref a1, v2, v3, v4, v5, v6, v7, v8, v9, v10, v11, v12, v13, v14, v15, v16, v17, v18, v19, v20, v21, v22, v23, v24, v25, v26, v27, v28, v29, v30, v31, v32, v33, v34, v35, v36, v37, v38, v39, v40, v41, v42, v43, v44, v45, v46, v47, v48, v49, v50, v51, v52, v53, v54, v55, v56, v57, v58, v59])), (a1, .inl (cB, 400, .inl (upd f226 (Int32.toNatClampNeg 18) (vp_nar .byte z232))))] H := hP
  have hD : va_D A [(a0, .inr (11, [.int 0, v1, .int 18, .ref a1, v2, v3, v4, v5, v6, v7, v8, v9, v10, v11, v12, v13, v14, v15, v16, v17, v18, v19, v20, v21, v22, v23, v24, v25, v26, v27, v28, v29, v30, v31, v32, v33, v34, v35, v36, v37, v38, v39, v40, v41, v42, v43, v44, v45, v46, v47, v48, v49, v50, v51, v52, v53, v54, v55, v56, v57, v58, v59])), (a1, .inl (cB, 400, .inl (upd f226 (Int32.toNatClampNeg 18) (vp_nar .byte z232))))] := hD
  obtain ⟨f233, hf9⟩ : ∃ g : Nat → Int32, g = (upd f226 (Int32.toNatClampNeg 18) (vp_nar .byte z232)) := ⟨_, rfl⟩
  rw [← hf9] at hP hD
  have hy_f233 : ∀ j, fits .byte (.int (f233 j)) = true := by rw [hf9]; exact nm_by hy_f226
  refine lv_aload_n hx hb dX12_feed_101 rfl (lv_at hl 2 rfl) ?_
  refine lv_dup hx hb dX12_feed_102 rfl ?_
  refine va_get (D := D) (ci := 11) (v := .int 18) (C := RX12) (T := TX12) (N := 62) hx hb hts iw_X12 hown hM.1 hP 0 rfl rfl 2 (by decide) (hts _ q_1497) (fun _ h9 => h9) rfl dX12_feed_103 ?_
  refine lv_iconst (v := 1) hx hb dX12_feed_106 (by decide) ?_
  refine lv_iadd hx hb dX12_feed_107 ?_
  refine lv_topi (fun z234 e9 => ?_)
  obtain rfl : z234 = (19 : Int32) := e9.trans (by decide)
  refine va_put (D := D) (ci := 11) (v := .int 19) (ty := .int) (C := RX12) (T := TX12) (N := 62) hx hb hts iw_X12 tyX12 tyX12_ok nmX12 hown hM.1 hP hD hS 0 rfl rfl 2 (by decide) (hts _ q_1497) (fun _ h9 => h9) rfl (by decide +kernel) rfl rfl (Nat.le_of_ble_eq_true rfl) dX12_feed_108 (fun H locs hP hD hS => ?_)
  have hP : va_P D nm_cl [(a0, .inr (11, [.int 0, v1, .int 19, .ref a1, v2, v3, v4, v5, v6, v7, v8, v9, v10, v11, v12, v13, v14, v15, v16, v17, v18, v19, v20, v21, v22, v23, v24, v25, v26, v27, v28, v29, v30, v31, v32, v33, v34, v35, v36, v37, v38, v39, v40, v41, v42, v43, v44, v45, v46, v47, v48, v49, v50, v51, v52, v53, v54, v55, v56, v57, v58, v59])), (a1, .inl (cB, 400, .inl f233))] H := hP
  have hD : va_D A [(a0, .inr (11, [.int 0, v1, .int 19, .ref a1, v2, v3, v4, v5, v6, v7, v8, v9, v10, v11, v12, v13, v14, v15, v16, v17, v18, v19, v20, v21, v22, v23, v24, v25, v26, v27, v28, v29, v30, v31, v32, v33, v34, v35, v36, v37, v38, v39, v40, v41, v42, v43, v44, v45, v46, v47, v48, v49, v50, v51, v52, v53, v54, v55, v56, v57, v58, v59])), (a1, .inl (cB, 400, .inl f233))] := hD
  refine lv_iinc (v := 19) (lv' := [(6, .int 19), (7, .int x4), (0, .ref a0), (1, .int x0), (2, .int x1), (3, .int x2), (4, .int x3), (5, .int x4)]) hx hb dX12_feed_111 hl (k := 1) rfl (by decide) (by decide) rfl (fun ls hl => ?_)
  refine lv_goto (tgt := 23) hx hb dX12_feed_114 (by decide) ?_
  refine lv_iload hx hb dX12_feed_23 (lv_at hl 0 rfl) ?_
  refine lv_bipush (v := 20) hx hb dX12_feed_25 (by decide) ?_
  refine lv_icmp_ge (tgt := 117) hx hb dX12_feed_27 (by decide) (fun c9 => absurd c9 (by decide)) (fun _ => ?_)
  refine lv_iload hx hb dX12_feed_30 (lv_at hl 0 rfl) ?_
  refine lv_iconst (v := 4) hx hb dX12_feed_32 (by decide) ?_
  refine lv_icmp_ge (tgt := 40) hx hb dX12_feed_33 (by decide) (fun _ => ?_) (fun c9 => absurd (by decide) c9)
  refine lv_iload hx hb dX12_feed_40 (lv_at hl 0 rfl) ?_
  refine lv_bipush (v := 8) hx hb dX12_feed_42 (by decide) ?_
  refine lv_icmp_ge (tgt := 51) hx hb dX12_feed_44 (by decide) (fun _ => ?_) (fun c9 => absurd (by decide) c9)
  refine lv_iload hx hb dX12_feed_51 (lv_at hl 0 rfl) ?_
  refine lv_bipush (v := 12) hx hb dX12_feed_53 (by decide) ?_
  refine lv_icmp_ge (tgt := 62) hx hb dX12_feed_55 (by decide) (fun _ => ?_) (fun c9 => absurd (by decide) c9)
  refine lv_iload hx hb dX12_feed_62 (lv_at hl 0 rfl) ?_
  refine lv_bipush (v := 16) hx hb dX12_feed_64 (by decide) ?_
  refine lv_icmp_ge (tgt := 74) hx hb dX12_feed_66 (by decide) (fun _ => ?_) (fun c9 => absurd (by decide) c9)
  refine lv_iload hx hb dX12_feed_74 (lv_at hl 7 rfl) ?_
  refine lv_istore (lv' := [(7, .int x4), (6, .int 19), (0, .ref a0), (1, .int x0), (2, .int x1), (3, .int x2), (4, .int x3), (5, .int x4)]) hx hb dX12_feed_76 hl (by decide) rfl (fun ls hl => ?_)
  refine lv_aload_n hx hb dX12_feed_78 rfl (lv_at hl 2 rfl) ?_
  refine va_get (D := D) (ci := 11) (v := .ref a1) (C := RX12) (T := TX12) (N := 62) hx hb hts iw_X12 hown hM.1 hP 0 rfl rfl 3 (by decide) (hts _ q_1498) (fun _ h9 => h9) rfl dX12_feed_79 ?_
  refine lv_aload_n hx hb dX12_feed_82 rfl (lv_at hl 2 rfl) ?_
  refine va_get (D := D) (ci := 11) (v := .int 19) (C := RX12) (T := TX12) (N := 62) hx hb hts iw_X12 hown hM.1 hP 0 rfl rfl 2 (by decide) (hts _ q_1497) (fun _ h9 => h9) rfl dX12_feed_83 ?_
  refine lv_iload hx hb dX12_feed_86 (lv_at hl 0 rfl) ?_
  refine lv_bipush (v := 24) hx hb dX12_feed_88 (by decide) ?_
  refine lv_bipush (v := 8) hx hb dX12_feed_90 (by decide) ?_
  refine lv_iload hx hb dX12_feed_92 (lv_at hl 1 rfl) ?_
  refine lv_iconst (v := 4) hx hb dX12_feed_94 (by decide) ?_
  refine lv_irem hx hb dX12_feed_95 (by decide) ?_
  refine lv_topi (fun z235 e9 => ?_)
  obtain rfl : z235 = (3 : Int32) := e9.trans (by decide)
  refine lv_imul hx hb dX12_feed_96 ?_
  refine lv_topi (fun z236 e9 => ?_)
  obtain rfl : z236 = (24 : Int32) := e9.trans (by decide)
  refine lv_isub hx hb dX12_feed_97 ?_
  refine lv_topi (fun z237 e9 => ?_)
  obtain rfl : z237 = (0 : Int32) := e9.trans (by decide)
  refine lv_ishr hx hb dX12_feed_98 ?_
  refine lv_topi (fun z238 e9 => ?_)
  obtain ⟨z239, e9⟩ : ∃ y : Int32, Int8.toInt32 (Int32.toInt8 z238) = y := ⟨_, rfl⟩
  refine lv_i2b hx hb dX12_feed_99 e9 ?_
  refine va_bast hx hb hM.1 hP hD hS 1 1 rfl rfl (nm_vin (by decide)) dX12_feed_100 (fun H locs hP hD hS => ?_)
  have hP : va_P D nm_cl [(a0, .inr (11, [.int 0, v1, .int 19, .ref a1, v2, v3, v4, v5, v6, v7, v8, v9, v10, v11, v12, v13, v14, v15, v16, v17, v18, v19, v20, v21, v22, v23, v24, v25, v26, v27, v28, v29, v30, v31, v32, v33, v34, v35, v36, v37, v38, v39, v40, v41, v42, v43, v44, v45, v46, v47, v48, v49, v50, v51, v52, v53, v54, v55, v56, v57, v58, v59])), (a1, .inl (cB, 400, .inl (upd f233 (Int32.toNatClampNeg 19) (vp_nar .byte z239))))] H := hP
  have hD : va_D A [(a0, .inr (11, [.int 0, v1, .int 19, .ref a1, v2, v3, v4, v5, v6, v7, v8, v9, v10, v11, v12, v13, v14, v15, v16, v17, v18, v19, v20, v21, v22, v23, v24, v25, v26, v27, v28, v29, v30, v31, v32, v33, v34, v35, v36, v37, v38, v39, v40, v41, v42, v43, v44, v45, v46, v47, v48, v49, v50, v51, v52, v53, v54, v55, v56, v57, v58, v59])), (a1, .inl (cB, 400, .inl (upd f233 (Int32.toNatClampNeg 19) (vp_nar .byte z239))))] := hD
  obtain ⟨f240, hf9⟩ : ∃ g : Nat → Int32, g = (upd f233 (Int32.toNatClampNeg 19) (vp_nar .byte z239)) := ⟨_, rfl⟩
  rw [← hf9] at hP hD
  have hy_f240 : ∀ j, fits .byte (.int (f240 j)) = true := by rw [hf9]; exact nm_by hy_f233
  refine lv_aload_n hx hb dX12_feed_101 rfl (lv_at hl 2 rfl) ?_
  refine lv_dup hx hb dX12_feed_102 rfl ?_
  refine va_get (D := D) (ci := 11) (v := .int 19) (C := RX12) (T := TX12) (N := 62) hx hb hts iw_X12 hown hM.1 hP 0 rfl rfl 2 (by decide) (hts _ q_1497) (fun _ h9 => h9) rfl dX12_feed_103 ?_
  refine lv_iconst (v := 1) hx hb dX12_feed_106 (by decide) ?_
  refine lv_iadd hx hb dX12_feed_107 ?_
  refine lv_topi (fun z241 e9 => ?_)
  obtain rfl : z241 = (20 : Int32) := e9.trans (by decide)
  refine va_put (D := D) (ci := 11) (v := .int 20) (ty := .int) (C := RX12) (T := TX12) (N := 62) hx hb hts iw_X12 tyX12 tyX12_ok nmX12 hown hM.1 hP hD hS 0 rfl rfl 2 (by decide) (hts _ q_1497) (fun _ h9 => h9) rfl (by decide +kernel) rfl rfl (Nat.le_of_ble_eq_true rfl) dX12_feed_108 (fun H locs hP hD hS => ?_)
  have hP : va_P D nm_cl [(a0, .inr (11, [.int 0, v1, .int 20, .ref a1, v2, v3, v4, v5, v6, v7, v8, v9, v10, v11, v12, v13, v14, v15, v16, v17, v18, v19, v20, v21, v22, v23, v24, v25, v26, v27, v28, v29, v30, v31, v32, v33, v34, v35, v36, v37, v38, v39, v40, v41, v42, v43, v44, v45, v46, v47, v48, v49, v50, v51, v52, v53, v54, v55, v56, v57, v58, v59])), (a1, .inl (cB, 400, .inl f240))] H := hP
  have hD : va_D A [(a0, .inr (11, [.int 0, v1, .int 20, .ref a1, v2, v3, v4, v5, v6, v7, v8, v9, v10, v11, v12, v13, v14, v15, v16, v17, v18, v19, v20, v21, v22, v23, v24, v25, v26, v27, v28, v29, v30, v31, v32, v33, v34, v35, v36, v37, v38, v39, v40, v41, v42, v43, v44, v45, v46, v47, v48, v49, v50, v51, v52, v53, v54, v55, v56, v57, v58, v59])), (a1, .inl (cB, 400, .inl f240))] := hD
  refine lv_iinc (v := 20) (lv' := [(6, .int 20), (7, .int x4), (0, .ref a0), (1, .int x0), (2, .int x1), (3, .int x2), (4, .int x3), (5, .int x4)]) hx hb dX12_feed_111 hl (k := 1) rfl (by decide) (by decide) rfl (fun ls hl => ?_)
  refine lv_goto (tgt := 23) hx hb dX12_feed_114 (by decide) ?_
  refine lv_iload hx hb dX12_feed_23 (lv_at hl 0 rfl) ?_
  refine lv_bipush (v := 20) hx hb dX12_feed_25 (by decide) ?_
  refine lv_icmp_ge (tgt := 117) hx hb dX12_feed_27 (by decide) (fun _ => ?_) (fun c9 => absurd (by decide) c9)
  refine lv_aload_n hx hb dX12_feed_117 rfl (lv_at hl 2 rfl) ?_
  refine va_get (D := D) (ci := 11) (v := .int 20) (C := RX12) (T := TX12) (N := 62) hx hb hts iw_X12 hown hM.1 hP 0 rfl rfl 2 (by decide) (hts _ q_1497) (fun _ h9 => h9) rfl dX12_feed_118 ?_
  have hP9 := hP.sub (ws' := [(a0, .inr (11, [.int 0, v1, .int 20, .ref a1, v2, v3, v4, v5, v6, v7, v8, v9, v10, v11, v12, v13, v14, v15, v16, v17, v18, v19, v20, v21, v22, v23, v24, v25, v26, v27, v28, v29, v30, v31, v32, v33, v34, v35, v36, v37, v38, v39, v40, v41, v42, v43, v44, v45, v46, v47, v48, v49, v50, v51, v52, v53, v54, v55, v56, v57, v58, v59]))]) [0] rfl
  have hD9 := hD.sub (ws' := [(a0, .inr (11, [.int 0, v1, .int 20, .ref a1, v2, v3, v4, v5, v6, v7, v8, v9, v10, v11, v12, v13, v14, v15, v16, v17, v18, v19, v20, v21, v22, v23, v24, v25, v26, v27, v28, v29, v30, v31, v32, v33, v34, v35, v36, v37, v38, v39, v40, v41, v42, v43, v44, v45, v46, v47, v48, v49, v50, v51, v52, v53, v54, v55, v56, v57, v58, v59]))]) [0] (by decide) rfl
  exact W.iret (v := 20) hx hb hr (fun t ht hW => ⟨⟨20, (), rfl, rfl, by rw [ht]; exact hP9, hD9⟩, hS.F ht⟩) hS.2.2 dX12_feed_121
