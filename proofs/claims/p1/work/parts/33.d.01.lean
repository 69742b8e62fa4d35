set_option maxHeartbeats 4000000 in
set_option maxRecDepth 100000 in
theorem c_J7_fill_53178_1 (l : Launch) (D : va_G) (cI cB cJ cS : ClassId) (sz : Nat) (a0 : Nat) (f0 : Nat → Int32)  : Met l yJ7_fill_53178 (.code yJ7_fill_53178 cJ7_fill_53178 4 none :: nm_big) ({ frames := 0, cells := 0, slots := 0, locals := 0 }) (nm_P D cI cB cJ cS [.ref a0, .int 0] sz [(a0, .inl (cI, 64, .inl f0))]) ((fun A : Nat → Prop => va_Qv (S := (Nat → Int32)) (fun (f164 : (Nat → Int32)) => True) (nm_B D (fun (f164 : (Nat → Int32)) => [(a0, .inl (cI, 64, .inl f164))]) A) A) (va_A [(a0, .inl (cI, 64, .inl f0))] sz)) 0 0 (va_A [(a0, .inl (cI, 64, .inl f0))] sz) := by
  refine nm_Met (Qc := fun A => va_Qv (S := (Nat → Int32)) (fun (f164 : (Nat → Int32)) => True) (nm_B D (fun (f164 : (Nat → Int32)) => [(a0, .inl (cI, 64, .inl f164))]) A) A) ?_ ?_ ?_
  · decide +kernel
  · exact Nat.le_of_ble_eq_true rfl
  intro p e s m below meth c A ls hx hb hr hml hts hown hlocks hin hM hP hD hS hA hl
  have hl : lv_has ls 4 [(0, .ref a0), (1, .int 0)] := hl
  have hown : s.vm.findClass RJ7 = some m.cls := hown
  refine lv_iconst (v := 0) hx hb dJ7_fill_53178_0 (by decide) ?_
  refine lv_istore_n (lv' := [(2, .int 0), (0, .ref a0), (1, .int 0)]) hx hb dJ7_fill_53178_1 rfl hl (by decide) rfl (fun ls hl => ?_)
  refine lv_aload_n hx hb dJ7_fill_53178_2 rfl (lv_at hl 1 rfl) ?_
  refine va_alen (v := 64) hx hb hM.1 hP 0 0 rfl rfl rfl dJ7_fill_53178_3 ?_
  refine lv_istore_n (lv' := [(3, .int 64), (2, .int 0), (0, .ref a0), (1, .int 0)]) hx hb dJ7_fill_53178_4 rfl hl (by decide) rfl (fun ls hl => ?_)
  refine lv_iload_n hx hb dJ7_fill_53178_5 rfl (lv_at hl 1 rfl) ?_
  refine lv_iload_n hx hb dJ7_fill_53178_6 rfl (lv_at hl 0 rfl) ?_
  refine lv_icmp_ge (tgt := 20) hx hb dJ7_fill_53178_7 (by decide) (fun c9 => absurd c9 (by decide)) (fun _ => ?_)
  refine lv_aload_n hx hb dJ7_fill_53178_10 rfl (lv_at hl 2 rfl) ?_
  refine lv_iload_n hx hb dJ7_fill_53178_11 rfl (lv_at hl 1 rfl) ?_
  refine lv_iload_n hx hb dJ7_fill_53178_12 rfl (lv_at hl 3 rfl) ?_
  refine va_iast hx hb hM.1 hP hD hS 0 0 rfl rfl (nm_vin (by decide)) dJ7_fill_53178_13 (fun H locs hP hD hS => ?_)
  have hP : va_P D nm_cl [(a0, .inl (cI, 64, .inl (upd f0 (Int32.toNatClampNeg 0) 0)))] H := hP
  have hD : va_D A [(a0, .inl (cI, 64, .inl (upd f0 (Int32.toNatClampNeg 0) 0)))] := hD
  obtain ⟨f101, hf9⟩ : ∃ g : Nat → Int32, g = (upd f0 (Int32.toNatClampNeg 0) 0) := ⟨_, rfl⟩
  rw [← hf9] at hP hD
  refine lv_iinc (v := 1) (lv' := [(2, .int 1), (3, .int 64), (0, .ref a0), (1, .int 0)]) hx hb dJ7_fill_53178_14 hl (k := 1) rfl (by decide) (by decide) rfl (fun ls hl => ?_)
  refine lv_goto (tgt := 5) hx hb dJ7_fill_53178_17 (by decide) ?_
  refine lv_iload_n hx hb dJ7_fill_53178_5 rfl (lv_at hl 0 rfl) ?_
  refine lv_iload_n hx hb dJ7_fill_53178_6 rfl (lv_at hl 1 rfl) ?_
  refine lv_icmp_ge (tgt := 20) hx hb dJ7_fill_53178_7 (by decide) (fun c9 => absurd c9 (by decide)) (fun _ => ?_)
  refine lv_aload_n hx hb dJ7_fill_53178_10 rfl (lv_at hl 2 rfl) ?_
  refine lv_iload_n hx hb dJ7_fill_53178_11 rfl (lv_at hl 0 rfl) ?_
  refine lv_iload_n hx hb dJ7_fill_53178_12 rfl (lv_at hl 3 rfl) ?_
  refine va_iast hx hb hM.1 hP hD hS 0 0 rfl rfl (nm_vin (by decide)) dJ7_fill_53178_13 (fun H locs hP hD hS => ?_)
  have hP : va_P D nm_cl [(a0, .inl (cI, 64, .inl (upd f101 (Int32.toNatClampNeg 1) 0)))] H := hP
  have hD : va_D A [(a0, .inl (cI, 64, .inl (upd f101 (Int32.toNatClampNeg 1) 0)))] := hD
  obtain ⟨f102, hf9⟩ : ∃ g : Nat → Int32, g = (upd f101 (Int32.toNatClampNeg 1) 0) := ⟨_, rfl⟩
  rw [← hf9] at hP hD
  refine lv_iinc (v := 2) (lv' := [(2, .int 2), (3, .int 64), (0, .ref a0), (1, .int 0)]) hx hb dJ7_fill_53178_14 hl (k := 0) rfl (by decide) (by decide) rfl (fun ls hl => ?_)
  refine lv_goto (tgt := 5) hx hb dJ7_fill_53178_17 (by decide) ?_
  refine lv_iload_n hx hb dJ7_fill_53178_5 rfl (lv_at hl 0 rfl) ?_
  refine lv_iload_n hx hb dJ7_fill_53178_6 rfl (lv_at hl 1 rfl) ?_
  refine lv_icmp_ge (tgt := 20) hx hb dJ7_fill_53178_7 (by decide) (fun c9 => absurd c9 (by decide)) (fun _ => ?_)
  refine lv_aload_n hx hb dJ7_fill_53178_10 rfl (lv_at hl 2 rfl) ?_
  refine lv_iload_n hx hb dJ7_fill_53178_11 rfl (lv_at hl 0 rfl) ?_
  refine lv_iload_n hx hb dJ7_fill_53178_12 rfl (lv_at hl 3 rfl) ?_
  refine va_iast hx hb hM.1 hP hD hS 0 0 rfl rfl (nm_vin (by decide)) dJ7_fill_53178_13 (fun H locs hP hD hS => ?_)
  have hP : va_P D nm_cl [(a0, .inl (cI, 64, .inl (upd f102 (Int32.toNatClampNeg 2) 0)))] H := hP
  have hD : va_D A [(a0, .inl (cI, 64, .inl (upd f102 (Int32.toNatClampNeg 2) 0)))] := hD
  obtain ⟨f103, hf9⟩ : ∃ g : Nat → Int32, g = (upd f102 (Int32.toNatClampNeg 2) 0) := ⟨_, rfl⟩
  rw [← hf9] at hP hD
  refine lv_iinc (v := 3) (lv' := [(2, .int 3), (3, .int 64), (0, .ref a0), (1, .int 0)]) hx hb dJ7_fill_53178_14 hl (k := 0) rfl (by decide) (by decide) rfl (fun ls hl => ?_)
  refine lv_goto (tgt := 5) hx hb dJ7_fill_53178_17 (by decide) ?_
  refine lv_iload_n hx hb dJ7_fill_53178_5 rfl (lv_at hl 0 rfl) ?_
  refine lv_iload_n hx hb dJ7_fill_53178_6 rfl (lv_at hl 1 rfl) ?_
  refine lv_icmp_ge (tgt := 20) hx hb dJ7_fill_53178_7 (by decide) (fun c9 => absurd c9 (by decide)) (fun _ => ?_)
  refine lv_aload_n hx hb dJ7_fill_53178_10 rfl (lv_at hl 2 rfl) ?_
  refine lv_iload_n hx hb dJ7_fill_53178_11 rfl (lv_at hl 0 rfl) ?_
  refine lv_iload_n hx hb dJ7_fill_53178_12 rfl (lv_at hl 3 rfl) ?_
  refine va_iast hx hb hM.1 hP hD hS 0 0 rfl rfl (nm_vin (by decide)) dJ7_fill_53178_13 (fun H locs hP hD hS => ?_)
  have hP : va_P D nm_cl [(a0, .inl (cI, 64, .inl (upd f103 (Int32.toNatClampNeg 3) 0)))] H := hP
  have hD : va_D A [(a0, .inl (cI, 64, .inl (upd f103 (Int32.toNatClampNeg 3) 0)))] := hD
  obtain ⟨f104, hf9⟩ : ∃ g : Nat → Int32, g = (upd f103 (Int32.toNatClampNeg 3) 0) := ⟨_, rfl⟩
  rw [← hf9] at hP hD
  refine lv_iinc (v := 4) (lv' := [(2, .int 4), (3, .int 64), (0, .ref a0), (1, .int 0)]) hx hb dJ7_fill_53178_14 hl (k := 0) rfl (by decide) (by decide) rfl (fun ls hl => ?_)
  refine lv_goto (tgt := 5) hx hb dJ7_fill_53178_17 (by decide) ?_
  refine lv_iload_n hx hb dJ7_fill_53178_5 rfl (lv_at hl 0 rfl) ?_
  refine lv_iload_n hx hb dJ7_fill_53178_6 rfl (lv_at hl 1 rfl) ?_
  refine lv_icmp_ge (tgt := 20) hx hb dJ7_fill_53178_7 (by decide) (fun c9 => absurd c9 (by decide)) (fun _ => ?_)
  refine lv_aload_n hx hb dJ7_fill_53178_10 rfl (lv_at hl 2 rfl) ?_
  refine lv_iload_n hx hb dJ7_fill_53178_11 rfl (lv_at hl 0 rfl) ?_
  refine lv_iload_n hx hb dJ7_fill_53178_12 rfl (lv_at hl 3 rfl) ?_
  refine va_iast hx hb hM.1 hP hD hS 0 0 rfl rfl (nm_vin (by decide)) dJ7_fill_53178_13 (fun H locs hP hD hS => ?_)
  have hP : va_P D nm_cl [(a0, .inl (cI, 64, .inl (upd f104 (Int32.toNatClampNeg 4) 0)))] H := hP
  have hD : va_D A [(a0, .inl (cI, 64, .inl (upd f104 (Int32.toNatClampNeg 4) 0)))] := hD
  obtain ⟨f105, hf9⟩ : ∃ g : Nat → Int32, g = (upd f104 (Int32.toNatClampNeg 4) 0) := ⟨_, rfl⟩
  rw [← hf9] at hP hD
  refine lv_iinc (v := 5) (lv' := [(2, .int 5), (3, .int 64), (0, .ref a0), (1, .int 0)]) hx hb dJ7_fill_53178_14 hl (k := 0) rfl (by decide) (by decide) rfl (fun ls hl => ?_)
  refine lv_goto (tgt := 5) hx hb dJ7_fill_53178_17 (by decide) ?_
  refine lv_iload_n hx hb dJ7_fill_53178_5 rfl (lv_at hl 0 rfl) ?_
  refine lv_iload_n hx hb dJ7_fill_53178_6 rfl (lv_at hl 1 rfl) ?_
  refine lv_icmp_ge (tgt := 20) hx hb dJ7_fill_53178_7 (by decide) (fun c9 => absurd c9 (by decide)) (fun _ => ?_)
  refine lv_aload_n hx hb dJ7_fill_53178_10 rfl (lv_at hl 2 rfl) ?_
  refine lv_iload_n hx hb dJ7_fill_53178_11 rfl (lv_at hl 0 rfl) ?_
  refine lv_iload_n hx hb dJ7_fill_53178_12 rfl (lv_at hl 3 rfl) ?_
  refine va_iast hx hb hM.1 hP hD hS 0 0 rfl rfl (nm_vin (by decide)) dJ7_fill_53178_13 (fun H locs hP hD hS => ?_)
  have hP : va_P D nm_cl [(a0, .inl (cI, 64, .inl (upd f105 (Int32.toNatClampNeg 5) 0)))] H := hP
  have hD : va_D A [(a0, .inl (cI, 64, .inl (upd f105 (Int32.toNatClampNeg 5) 0)))] := hD
  obtain ⟨f106, hf9⟩ : ∃ g : Nat → Int32, g = (upd f105 (Int32.toNatClampNeg 5) 0) := ⟨_, rfl⟩
  rw [← hf9] at hP hD
  refine lv_iinc (v := 6) (lv' := [(2, .int 6), (3, .int 64), (0, .ref a0), (1, .int 0)]) hx hb dJ7_fill_53178_14 hl (k := 0) rfl (by decide) (by decide) rfl (fun ls hl => ?_)
  refine lv_goto (tgt := 5) hx hb dJ7_fill_53178_17 (by decide) ?_
  refine lv_iload_n hx hb dJ7_fill_53178_5 rfl (lv_at hl 0 rfl) ?_
  refine lv_iload_n hx hb dJ7_fill_53178_6 rfl (lv_at hl 1 rfl) ?_
  refine lv_icmp_ge (tgt := 20) hx hb dJ7_fill_53178_7 (by decide) (fun c9 => absurd c9 (by decide)) (fun _ => ?_)
  refine lv_aload_n hx hb dJ7_fill_53178_10 rfl (lv_at hl 2 rfl) ?_
  refine lv_iload_n hx hb dJ7_fill_53178_11 rfl (lv_at hl 0 rfl) ?_
  refine lv_iload_n hx hb dJ7_fill_53178_12 rfl (lv_at hl 3 rfl) ?_
  refine va_iast hx hb hM.1 hP hD hS 0 0 rfl rfl (nm_vin (by decide)) dJ7_fill_53178_13 (fun H locs hP hD hS => ?_)
  have hP : va_P D nm_cl [(a0, .inl (cI, 64, .inl (upd f106 (Int32.toNatClampNeg 6) 0)))] H := hP
  have hD : va_D A [(a0, .inl (cI, 64, .inl (upd f106 (Int32.toNatClampNeg 6) 0)))] := hD
  obtain ⟨f107, hf9⟩ : ∃ g : Nat → Int32, g = (upd f106 (Int32.toNatClampNeg 6) 0) := ⟨_, rfl⟩
  rw [← hf9] at hP hD
  refine lv_iinc (v := 7) (lv' := [(2, .int 7), (3, .int 64), (0, .ref a0), (1, .int 0)]) hx hb dJ7_fill_53178_14 hl (k := 0) rfl (by decide) (by decide) rfl (fun ls hl => ?_)
  refine lv_goto (tgt := 5) hx hb dJ7_fill_53178_17 (by decide) ?_
  refine lv_iload_n hx hb dJ7_fill_53178_5 rfl (lv_at hl 0 rfl) ?_
  refine lv_iload_n hx hb dJ7_fill_53178_6 rfl (lv_at hl 1 rfl) ?_
  refine lv_icmp_ge (tgt := 20) hx hb dJ7_fill_53178_7 (by decide) (fun c9 => absurd c9 (by decide)) (fun _ => ?_)
  refine lv_aload_n hx hb dJ7_fill_53178_10 rfl (lv_at hl 2 rfl) ?_
  refine lv_iload_n hx hb dJ7_fill_53178_11 rfl (lv_at hl 0 rfl) ?_
  refine lv_iload_n hx hb dJ7_fill_53178_12 rfl (lv_at hl 3 rfl) ?_
  refine va_iast hx hb hM.1 hP hD hS 0 0 rfl rfl (nm_vin (by decide)) dJ7_fill_53178_13 (fun H locs hP hD hS => ?_)
  have hP : va_P D nm_cl [(a0, .inl (cI, 64, .inl (upd f107 (Int32.toNatClampNeg 7) 0)))] H := hP
  have hD : va_D A [(a0, .inl (cI, 64, .inl (upd f107 (Int32.toNatClampNeg 7) 0)))] := hD
  obtain ⟨f108, hf9⟩ : ∃ g : Nat → Int32, g = (upd f107 (Int32.toNatClampNeg 7) 0) := ⟨_, rfl⟩
  rw [← hf9] at hP hD
  refine lv_iinc (v := 8) (lv' := [(2, .int 8), (3, .int 64), (0, .ref a0), (1, .int 0)]) hx hb dJ7_fill_53178_14 hl (k := 0) rfl (by decide) (by decide) rfl (fun ls hl => ?_)
  refine lv_goto (tgt := 5) hx hb dJ7_fill_53178_17 (by decide) ?_
  refine lv_iload_n hx hb dJ7_fill_53178_5 rfl (lv_at hl 0 rfl) ?_
  refine lv_iload_n hx hb dJ7_fill_53178_6 rfl (lv_at hl 1 rfl) ?_
  refine lv_icmp_ge (tgt := 20) hx hb dJ7_fill_53178_7 (by decide) (fun c9 => absurd c9 (by decide)) (fun _ => ?_)
  refine lv_aload_n hx hb dJ7_fill_53178_10 rfl (lv_at hl 2 rfl) ?_
  refine lv_iload_n hx hb dJ7_fill_53178_11 rfl (lv_at hl 0 rfl) ?_
  refine lv_iload_n hx hb dJ7_fill_53178_12 rfl (lv_at hl 3 rfl) ?_
  refine va_iast hx hb hM.1 hP hD hS 0 0 rfl rfl (nm_vin (by decide)) dJ7_fill_53178_13 (fun H locs hP hD hS => ?_)
  have hP : va_P D nm_cl [(a0, .inl (cI, 64, .inl (upd f108 (Int32.toNatClampNeg 8) 0)))] H := hP
  have hD : va_D A [(a0, .inl (cI, 64, .inl (upd f108 (Int32.toNatClampNeg 8) 0)))] := hD
  obtain ⟨f109, hf9⟩ : ∃ g : Nat → Int32, g = (upd f108 (Int32.toNatClampNeg 8) 0) := ⟨_, rfl⟩
  rw [← hf9] at hP hD
  refine lv_iinc (v := 9) (lv' := [(2, .int 9), (3, .int 64), (0, .ref a0), (1, .int 0)]) hx hb dJ7_fill_53178_14 hl (k := 0) rfl (by decide) (by decide) rfl (fun ls hl => ?_)
  refine lv_goto (tgt := 5) hx hb dJ7_fill_53178_17 (by decide) ?_
  refine lv_iload_n hx hb dJ7_fill_53178_5 rfl (lv_at hl 0 rfl) ?_
  refine lv_iload_n hx hb dJ7_fill_53178_6 rfl (lv_at hl 1 rfl) ?_
  refine lv_icmp_ge (tgt := 20) hx hb dJ7_fill_53178_7 (by decide) (fun c9 => absurd c9 (by decide)) (fun _ => ?_)
  refine lv_aload_n hx hb dJ7_fill_53178_10 rfl (lv_at hl 2 rfl) ?_
  refine lv_iload_n hx hb dJ7_fill_53178_11 rfl (lv_at hl 0 rfl) ?_
  refine lv_iload_n hx hb dJ7_fill_53178_12 rfl (lv_at hl 3 rfl) ?_
  refine va_iast hx hb hM.1 hP hD hS 0 0 rfl rfl (nm_vin (by decide)) dJ7_fill_53178_13 (fun H locs hP hD hS => ?_)
  have hP : va_P D nm_cl [(a0, .inl (cI, 64, .inl (upd f109 (Int32.toNatClampNeg 9) 0)))] H := hP
  have hD : va_D A [(a0, .inl (cI, 64, .inl (upd f109 (Int32.toNatClampNeg 9) 0)))] := hD
  obtain ⟨f110, hf9⟩ : ∃ g : Nat → Int32, g = (upd f109 (Int32.toNatClampNeg 9) 0) := ⟨_, rfl⟩
  rw [← hf9] at hP hD
  refine lv_iinc (v := 10) (lv' := [(2, .int 10), (3, .int 64), (0, .ref a0), (1, .int 0)]) hx hb dJ7_fill_53178_14 hl (k := 0) rfl (by decide) (by decide) rfl (fun ls hl => ?_)
  refine lv_goto (tgt := 5) hx hb dJ7_fill_53178_17 (by decide) ?_
  refine lv_iload_n hx hb dJ7_fill_53178_5 rfl (lv_at hl 0 rfl) ?_
  refine lv_iload_n hx hb dJ7_fill_53178_6 rfl (lv_at hl 1 rfl) ?_
  refine lv_icmp_ge (tgt := 20) hx hb dJ7_fill_53178_7 (by decide) (fun c9 => absurd c9 (by decide)) (fun _ => ?_)
  refine lv_aload_n hx hb dJ7_fill_53178_10 rfl (lv_at hl 2 rfl) ?_
  refine lv_iload_n hx hb dJ7_fill_53178_11 rfl (lv_at hl 0 rfl) ?_
  refine lv_iload_n hx hb dJ7_fill_53178_12 rfl (lv_at hl 3 rfl) ?_
  refine va_iast hx hb hM.1 hP hD hS 0 0 rfl rfl (nm_vin (by decide)) dJ7_fill_53178_13 (fun H locs hP hD hS => ?_)
  have hP : va_P D nm_cl [(a0, .inl (cI, 64, .inl (upd f110 (Int32.toNatClampNeg 10) 0)))] H := hP
  have hD : va_D A [(a0, .inl (cI, 64, .inl (upd f110 (Int32.toNatClampNeg 10) 0)))] := hD
  obtain ⟨f111, hf9⟩ : ∃ g : Nat → Int32, g = (upd f110 (Int32.toNatClampNeg 10) 0) := ⟨_, rfl⟩
  rw [← hf9] at hP hD
  refine lv_iinc (v := 11) (lv' := [(2, .int 11), (3, .int 64), (0, .ref a0), (1, .int 0)]) hx hb dJ7_fill_53178_14 hl (k := 0) rfl (by decide) (by decide) rfl (fun ls hl => ?_)
  refine lv_goto (tgt := 5) hx hb dJ7_fill_53178_17 (by decide) ?_
  refine lv_iload_n hx hb dJ7_fill_53178_5 rfl (lv_at hl 0 rfl) ?_
  refine lv_iload_n hx hb dJ7_fill_53178_6 rfl (lv_at hl 1 rfl) ?_
  refine lv_icmp_ge (tgt := 20) hx hb dJ7_fill_53178_7 (by decide) (fun c9 => absurd c9 (by decide)) (fun _ => ?_)
  refine lv_aload_n hx hb dJ7_fill_53178_10 rfl (lv_at hl 2 rfl) ?_
  refine lv_iload_n hx hb dJ7_fill_53178_11 rfl (lv_at hl 0 rfl) ?_
  refine lv_iload_n hx hb dJ7_fill_53178_12 rfl (lv_at hl 3 rfl) ?_
  refine va_iast hx hb hM.1 hP hD hS 0 0 rfl rfl (nm_vin (by decide)) dJ7_fill_53178_13 (fun H locs hP hD hS => ?_)
  have hP : va_P D nm_cl [(a0, .inl (cI, 64, .inl (upd f111 (Int32.toNatClampNeg 11) 0)))] H := hP
  have hD : va_D A [(a0, .inl (cI, 64, .inl (upd f111 (Int32.toNatClampNeg 11) 0)))] := hD
  obtain ⟨f112, hf9⟩ : ∃ g : Nat → Int32, g = (upd f111 (Int32.toNatClampNeg 11) 0) := ⟨_, rfl⟩
  rw [← hf9] at hP hD
  refine lv_iinc (v := 12) (lv' := [(2, .int 12), (3, .int 64), (0, .ref a0), (1, .int 0)]) hx hb dJ7_fill_53178_14 hl (k := 0) rfl (by decide) (by decide) rfl (fun ls hl => ?_)
  refine lv_goto (tgt := 5) hx hb dJ7_fill_53178_17 (by decide) ?_
  refine lv_iload_n hx hb dJ7_fill_53178_5 rfl (lv_at hl 0 rfl) ?_
  refine lv_iload_n hx hb dJ7_fill_53178_6 rfl (lv_at hl 1 rfl) ?_
  refine lv_icmp_ge (tgt := 20) hx hb dJ7_fill_53178_7 (by decide) (fun c9 => absurd c9 (by decide)) (fun _ => ?_)
  refine lv_aload_n hx hb dJ7_fill_53178_10 rfl (lv_at hl 2 rfl) ?_
  refine lv_iload_n hx hb dJ7_fill_53178_11 rfl (lv_at hl 0 rfl) ?_
  refine lv_iload_n hx hb dJ7_fill_53178_12 rfl (lv_at hl 3 rfl) ?_
  refine va_iast hx hb hM.1 hP hD hS 0 0 rfl rfl (nm_vin (by decide)) dJ7_fill_53178_13 (fun H locs hP hD hS => ?_)
  have hP : va_P D nm_cl [(a0, .inl (cI, 64, .inl (upd f112 (Int32.toNatClampNeg 12) 0)))] H := hP
  have hD : va_D A [(a0, .inl (cI, 64, .inl (upd f112 (Int32.toNatClampNeg 12) 0)))] := hD
  obtain ⟨f113, hf9⟩ : ∃ g : Nat → Int32, g = (upd f112 (Int32.toNatClampNeg 12) 0) := ⟨_, rfl⟩
  rw [← hf9] at hP hD
  refine lv_iinc (v := 13) (lv' := [(2, .int 13), (3, .int 64), (0, .ref a0), (1, .int 0)]) hx hb dJ7_fill_53178_14 hl (k := 0) rfl (by decide) (by decide) rfl (fun ls hl => ?_)
  refine lv_goto (tgt := 5) hx hb dJ7_fill_53178_17 (by decide) ?_
  refine lv_iload_n hx hb dJ7_fill_53178_5 rfl (lv_at hl 0 rfl) ?_
  refine lv_iload_n hx hb dJ7_fill_53178_6 rfl (lv_at hl 1 rfl) ?_
  refine lv_icmp_ge (tgt := 20) hx hb dJ7_fill_53178_7 (by decide) (fun c9 => absurd c9 (by decide)) (fun _ => ?_)
  refine lv_aload_n hx hb dJ7_fill_53178_10 rfl (lv_at hl 2 rfl) ?_
  refine lv_iload_n hx hb dJ7_fill_53178_11 rfl (lv_at hl 0 rfl) ?_
  refine lv_iload_n hx hb dJ7_fill_53178_12 rfl (lv_at hl 3 rfl) ?_
  refine va_iast hx hb hM.1 hP hD hS 0 0 rfl rfl (nm_vin (by decide)) dJ7_fill_53178_13 (fun H locs hP hD hS => ?_)
  have hP : va_P D nm_cl [(a0, .inl (cI, 64, .inl (upd f113 (Int32.toNatClampNeg 13) 0)))] H := hP
  have hD : va_D A [(a0, .inl (cI, 64, .inl (upd f113 (Int32.toNatClampNeg 13) 0)))] := hD
  obtain ⟨f114, hf9⟩ : ∃ g : Nat → Int32, g = (upd f113 (Int32.toNatClampNeg 13) 0) := ⟨_, rfl⟩
  rw [← hf9] at hP hD
  refine lv_iinc (v := 14) (lv' := [(2, .int 14), (3, .int 64), (0, .ref a0), (1, .int 0)]) hx hb dJ7_fill_53178_14 hl (k := 0) rfl (by decide) (by decide) rfl (fun ls hl => ?_)
  refine lv_goto (tgt := 5) hx hb dJ7_fill_53178_17 (by decide) ?_
  refine lv_iload_n hx hb dJ7_fill_53178_5 rfl (lv_at hl 0 rfl) ?_
  refine lv_iload_n hx hb dJ7_fill_53178_6 rfl (lv_at hl 1 rfl) ?_
  refine lv_icmp_ge (tgt := 20) hx hb dJ7_fill_53178_7 (by decide) (fun c9 => absurd c9 (by decide)) (fun _ => ?_)
  refine lv_aload_n hx hb dJ7_fill_53178_10 rfl (lv_at hl 2 rfl) ?_
  refine lv_iload_n hx hb dJ7_fill_53178_11 rfl (lv_at hl 0 rfl) ?_
  refine lv_iload_n hx hb dJ7_fill_53178_12 rfl (lv_at hl 3 rfl) ?_
  refine va_iast hx hb hM.1 hP hD hS 0 0 rfl rfl (nm_vin (by decide)) dJ7_fill_53178_13 (fun H locs hP hD hS => ?_)
  have hP : va_P D nm_cl [(a0, .inl (cI, 64, .inl (upd f114 (Int32.toNatClampNeg 14) 0)))] H := hP
  have hD : va_D A [(a0, .inl (cI, 64, .inl (upd f114 (Int32.toNatClampNeg 14) 0)))] := hD
  obtain ⟨f115, hf9⟩ : ∃ g : Nat → Int32, g = (upd f114 (Int32.toNatClampNeg 14) 0) := ⟨_, rfl⟩
  rw [← hf9] at hP hD
  refine lv_iinc (v := 15) (lv' := [(2, .int 15), (3, .int 64), (0, .ref a0), (1, .int 0)]) hx hb dJ7_fill_53178_14 hl (k := 0) rfl (by decide) (by decide) rfl (fun ls hl => ?_)
  refine lv_goto (tgt := 5) hx hb dJ7_fill_53178_17 (by decide) ?_
  refine lv_iload_n hx hb dJ7_fill_53178_5 rfl (lv_at hl 0 rfl) ?_
  refine lv_iload_n hx hb dJ7_fill_53178_6 rfl (lv_at hl 1 rfl) ?_
  refine lv_icmp_ge (tgt := 20) hx hb dJ7_fill_53178_7 (by decide) (fun c9 => absurd c9 (by decide)) (fun _ => ?_)
  refine lv_aload_n hx hb dJ7_fill_53178_10 rfl (lv_at hl 2 rfl) ?_
  refine lv_iload_n hx hb dJ7_fill_53178_11 rfl (lv_at hl 0 rfl) ?_
  refine lv_iload_n hx hb dJ7_fill_53178_12 rfl (lv_at hl 3 rfl) ?_
  refine va_iast hx hb hM.1 hP hD hS 0 0 rfl rfl (nm_vin (by decide)) dJ7_fill_53178_13 (fun H locs hP hD hS => ?_)
  have hP : va_P D nm_cl [(a0, .inl (cI, 64, .inl (upd f115 (Int32.toNatClampNeg 15) 0)))] H := hP
  have hD : va_D A [(a0, .inl (cI, 64, .inl (upd f115 (Int32.toNatClampNeg 15) 0)))] := hD
  obtain ⟨f116, hf9⟩ : ∃ g : Nat → Int32, g = (upd f115 (Int32.toNatClampNeg 15) 0) := ⟨_, rfl⟩
  rw [← hf9] at hP hD
  refine lv_iinc (v := 16) (lv' := [(2, .int 16), (3, .int 64), (0, .ref a0), (1, .int 0)]) hx hb dJ7_fill_53178_14 hl (k := 0) rfl (by decide) (by decide) rfl (fun ls hl => ?_)
  refine lv_goto (tgt := 5) hx hb dJ7_fill_53178_17 (by decide) ?_
  refine lv_iload_n hx hb dJ7_fill_53178_5 rfl (lv_at hl 0 rfl) ?_
  refine lv_iload_n hx hb dJ7_fill_53178_6 rfl (lv_at hl 1 rfl) ?_
  refine lv_icmp_ge (tgt := 20) hx hb dJ7_fill_53178_7 (by decide) (fun c9 => absurd c9 (by decide)) (fun _ => ?_)
  refine lv_aload_n hx hb dJ7_fill_53178_10 rfl (lv_at hl 2 rfl) ?_
  refine lv_iload_n hx hb dJ7_fill_53178_11 rfl (lv_at hl 0 rfl) ?_
  refine lv_iload_n hx hb dJ7_fill_53178_12 rfl (lv_at hl 3 rfl) ?_
  refine va_iast hx hb hM.1 hP hD hS 0 0 rfl rfl (nm_vin (by decide)) dJ7_fill_53178_13 (fun H locs hP hD hS => ?_)
  have hP : va_P D nm_cl [(a0, .inl (cI, 64, .inl (upd f116 (Int32.toNatClampNeg 16) 0)))] H := hP
  have hD : va_D A [(a0, .inl (cI, 64, .inl (upd f116 (Int32.toNatClampNeg 16) 0)))] := hD
  obtain ⟨f117, hf9⟩ : ∃ g : Nat → Int32, g = (upd f116 (Int32.toNatClampNeg 16) 0) := ⟨_, rfl⟩
  rw [← hf9] at hP hD
  refine lv_iinc (v := 17) (lv' := [(2, .int 17), (3, .int 64), (0, .ref a0), (1, .int 0)]) hx hb dJ7_fill_53178_14 hl (k := 0) rfl (by decide) (by decide) rfl (fun ls hl => ?_)
  refine lv_goto (tgt := 5) hx hb dJ7_fill_53178_17 (by decide) ?_
  refine lv_iload_n hx hb dJ7_fill_53178_5 rfl (lv_at hl 0 rfl) ?_
  refine lv_iload_n hx hb dJ7_fill_53178_6 rfl (lv_at hl 1 rfl) ?_
  refine lv_icmp_ge (tgt := 20) hx hb dJ7_fill_53178_7 (by decide) (fun c9 => absurd c9 (by decide)) (fun _ => ?_)
  refine lv_aload_n hx hb dJ7_fill_53178_10 rfl (lv_at hl 2 rfl) ?_
  refine lv_iload_n hx hb dJ7_fill_53178_11 rfl (lv_at hl 0 rfl) ?_
  refine lv_iload_n hx hb dJ7_fill_53178_12 rfl (lv_at hl 3 rfl) ?_
  refine va_iast hx hb hM.1 hP hD hS 0 0 rfl rfl (nm_vin (by decide)) dJ7_fill_53178_13 (fun H locs hP hD hS => ?_)
  have hP : va_P D nm_cl [(a0, .inl (cI, 64, .inl (upd f117 (Int32.toNatClampNeg 17) 0)))] H := hP
  have hD : va_D A [(a0, .inl (cI, 64, .inl (upd f117 (Int32.toNatClampNeg 17) 0)))] := hD
  obtain ⟨f118, hf9⟩ : ∃ g : Nat → Int32, g = (upd f117 (Int32.toNatClampNeg 17) 0) := ⟨_, rfl⟩
  rw [← hf9] at hP hD
  refine lv_iinc (v := 18) (lv' := [(2, .int 18), (3, .int 64), (0, .ref a0), (1, .int 0)]) hx hb dJ7_fill_53178_14 hl (k := 0) rfl (by decide) (by decide) rfl (fun ls hl => ?_)
  refine lv_goto (tgt := 5) hx hb dJ7_fill_53178_17 (by decide) ?_
  refine lv_iload_n hx hb dJ7_fill_53178_5 rfl (lv_at hl 0 rfl) ?_
  refine lv_iload_n hx hb dJ7_fill_53178_6 rfl (lv_at hl 1 rfl) ?_
  refine lv_icmp_ge (tgt := 20) hx hb dJ7_fill_53178_7 (by decide) (fun c9 => absurd c9 (by decide)) (fun _ => ?_)
  refine lv_aload_n hx hb dJ7_fill_53178_10 rfl (lv_at hl 2 rfl) ?_
  refine lv_iload_n hx hb dJ7_fill_53178_11 rfl (lv_at hl 0 rfl) ?_
  refine lv_iload_n hx hb dJ7_fill_53178_12 rfl (lv_at hl 3 rfl) ?_
  refine va_iast hx hb hM.1 hP hD hS 0 0 rfl rfl (nm_vin (by decide)) dJ7_fill_53178_13 (fun H locs hP hD hS => ?_)
  have hP : va_P D nm_cl [(a0, .inl (cI, 64, .inl (upd f118 (Int32.toNatClampNeg 18) 0)))] H := hP
  have hD : va_D A [(a0, .inl (cI, 64, .inl (upd f118 (Int32.toNatClampNeg 18) 0)))] := hD
  obtain ⟨f119, hf9⟩ : ∃ g : Nat → Int32, g = (upd f118 (Int32.toNatClampNeg 18) 0) := ⟨_, rfl⟩
  rw [← hf9] at hP hD
  refine lv_iinc (v := 19) (lv' := [(2, .int 19), (3, .int 64), (0, .ref a0), (1, .int 0)]) hx hb dJ7_fill_53178_14 hl (k := 0) rfl (by decide) (by decide) rfl (fun ls hl => ?_)
  refine lv_goto (tgt := 5) hx hb dJ7_fill_53178_17 (by decide) ?_
  refine lv_iload_n hx hb dJ7_fill_53178_5 rfl (lv_at hl 0 rfl) ?_
  refine lv_iload_n hx hb dJ7_fill_53178_6 rfl (lv_at hl 1 rfl) ?_
  refine lv_icmp_ge (tgt := 20) hx hb dJ7_fill_53178_7 (by decide) (fun c9 => absurd c9 (by decide)) (fun _ => ?_)
  refine lv_aload_n hx hb dJ7_fill_53178_10 rfl (lv_at hl 2 rfl) ?_
  refine lv_iload_n hx hb dJ7_fill_53178_11 rfl (lv_at hl 0 rfl) ?_
  refine lv_iload_n hx hb dJ7_fill_53178_12 rfl (lv_at hl 3 rfl) ?_
  refine va_iast hx hb hM.1 hP hD hS 0 0 rfl rfl (nm_vin (by decide)) dJ7_fill_53178_13 (fun H locs hP hD hS => ?_)
  have hP : va_P D nm_cl [(a0, .inl (cI, 64, .inl (upd f119 (Int32.toNatClampNeg 19) 0)))] H := hP
  have hD : va_D A [(a0, .inl (cI, 64, .inl (upd f119 (Int32.toNatClampNeg 19) 0)))] := hD
  obtain ⟨f120, hf9⟩ : ∃ g : Nat → Int32, g = (upd f119 (Int32.toNatClampNeg 19) 0) := ⟨_, rfl⟩
  rw [← hf9] at hP hD
  refine lv_iinc (v := 20) (lv' := [(2, .int 20), (3, .int 64), (0, .ref a0), (1, .int 0)]) hx hb dJ7_fill_53178_14 hl (k := 0) rfl (by decide) (by decide) rfl (fun ls hl => ?_)
  refine lv_goto (tgt := 5) hx hb dJ7_fill_53178_17 (by decide) ?_
  refine lv_iload_n hx hb dJ7_fill_53178_5 rfl (lv_at hl 0 rfl) ?_
  refine lv_iload_n hx hb dJ7_fill_53178_6 rfl (lv_at hl 1 rfl) ?_
  refine lv_icmp_ge (tgt := 20) hx hb dJ7_fill_53178_7 (by decide) (fun c9 => absurd c9 (by decide)) (fun _ => ?_)
  refine lv_aload_n hx hb dJ7_fill_53178_10 rfl (lv_at hl 2 rfl) ?_
  refine lv_iload_n hx hb dJ7_fill_53178_11 rfl (lv_at hl 0 rfl) ?_
  refine lv_iload_n hx hb dJ7_fill_53178_12 rfl (lv_at hl 3 rfl) ?_
  refine va_iast hx hb hM.1 hP hD hS 0 0 rfl rfl (nm_vin (by decide)) dJ7_fill_53178_13 (fun H locs hP hD hS => ?_)
  have hP : va_P D nm_cl [(a0, .inl (cI, 64, .inl (upd f120 (Int32.toNatClampNeg 20) 0)))] H := hP
  have hD : va_D A [(a0, .inl (cI, 64, .inl (upd f120 (Int32.toNatClampNeg 20) 0)))] := hD
  obtain ⟨f121, hf9⟩ : ∃ g : Nat → Int32, g = (upd f120 (Int32.toNatClampNeg 20) 0) := ⟨_, rfl⟩
  rw [← hf9] at hP hD
  refine lv_iinc (v := 21) (lv' := [(2, .int 21), (3, .int 64), (0, .ref a0), (1, .int 0)]) hx hb dJ7_fill_53178_14 hl (k := 0) rfl (by decide) (by decide) rfl (fun ls hl => ?_)
  refine lv_goto (tgt := 5) hx hb dJ7_fill_53178_17 (by decide) ?_
  refine lv_iload_n hx hb dJ7_fill_53178_5 rfl (lv_at hl 0 rfl) ?_
  refine lv_iload_n hx hb dJ7_fill_53178_6 rfl (lv_at hl 1 rfl) ?_
  refine lv_icmp_ge (tgt := 20) hx hb dJ7_fill_53178_7 (by decide) (fun c9 => absurd c9 (by decide)) (fun _ => ?_)
  refine lv_aload_n hx hb dJ7_fill_53178_10 rfl (lv_at hl 2 rfl) ?_
  refine lv_iload_n hx hb dJ7_fill_53178_11 rfl (lv_at hl 0 rfl) ?_
  refine lv_iload_n hx hb dJ7_fill_53178_12 rfl (lv_at hl 3 rfl) ?_
  refine va_iast hx hb hM.1 hP hD hS 0 0 rfl rfl (nm_vin (by decide)) dJ7_fill_53178_13 (fun H locs hP hD hS => ?_)
  have hP : va_P D nm_cl [(a0, .inl (cI, 64, .inl (upd f121 (Int32.toNatClampNeg 21) 0)))] H := hP
  have hD : va_D A [(a0, .inl (cI, 64, .inl (upd f121 (Int32.toNatClampNeg 21) 0)))] := hD
  obtain ⟨f122, hf9⟩ : ∃ g : Nat → Int32, g = (upd f121 (Int32.toNatClampNeg 21) 0) := ⟨_, rfl⟩
  rw [← hf9] at hP hD
  refine lv_iinc (v := 22) (lv' := [(2, .int 22), (3, .int 64), (0, .ref a0), (1, .int 0)]) hx hb dJ7_fill_53178_14 hl (k := 0) rfl (by decide) (by decide) rfl (fun ls hl => ?_)
  refine lv_goto (tgt := 5) hx hb dJ7_fill_53178_17 (by decide) ?_
  refine lv_iload_n hx hb dJ7_fill_53178_5 rfl (lv_at hl 0 rfl) ?_
  refine lv_iload_n hx hb dJ7_fill_53178_6 rfl (lv_at hl 1 rfl) ?_
  refine lv_icmp_ge (tgt := 20) hx hb dJ7_fill_53178_7 (by decide) (fun c9 => absurd c9 (by decide)) (fun _ => ?_)
  refine lv_aload_n hx hb dJ7_fill_53178_10 rfl (lv_at hl 2 rfl) ?_
  refine lv_iload_n hx hb dJ7_fill_53178_11 rfl (lv_at hl 0 rfl) ?_
  refine lv_iload_n hx hb dJ7_fill_53178_12 rfl (lv_at hl 3 rfl) ?_
  refine va_iast hx hb hM.1 hP hD hS 0 0 rfl rfl (nm_vin (by decide)) dJ7_fill_53178_13 (fun H locs hP hD hS => ?_)
  have hP : va_P D nm_cl [(a0, .inl (cI, 64, .inl (upd f122 (Int32.toNatClampNeg 22) 0)))] H := hP
  have hD : va_D A [(a0, .inl (cI, 64, .inl (upd f122 (Int32.toNatClampNeg 22) 0)))] := hD
  obtain ⟨f123, hf9⟩ : ∃ g : Nat → Int32, g = (upd f122 (Int32.toNatClampNeg 22) 0) := ⟨_, rfl⟩
  rw [← hf9] at hP hD
  refine lv_iinc (v := 23) (lv' := [(2, .int 23), (3, .int 64), (0, .ref a0), (1, .int 0)]) hx hb dJ7_fill_53178_14 hl (k := 0) rfl (by decide) (by decide) rfl (fun ls hl => ?_)
  refine lv_goto (tgt := 5) hx hb dJ7_fill_53178_17 (by decide) ?_
  refine lv_iload_n hx hb dJ7_fill_53178_5 rfl (lv_at hl 0 rfl) ?_
  refine lv_iload_n hx hb dJ7_fill_53178_6 rfl (lv_at hl 1 rfl) ?_
  refine lv_icmp_ge (tgt := 20) hx hb dJ7_fill_53178_7 (by decide) (fun c9 => absurd c9 (by decide)) (fun _ => ?_)
  refine lv_aload_n hx hb dJ7_fill_53178_10 rfl (lv_at hl 2 rfl) ?_
  refine lv_iload_n hx hb dJ7_fill_53178_11 rfl (lv_at hl 0 rfl) ?_
  refine lv_iload_n hx hb dJ7_fill_53178_12 rfl (lv_at hl 3 rfl) ?_
  refine va_iast hx hb hM.1 hP hD hS 0 0 rfl rfl (nm_vin (by decide)) dJ7_fill_53178_13 (fun H locs hP hD hS => ?_)
  have hP : va_P D nm_cl [(a0, .inl (cI, 64, .inl (upd f123 (Int32.toNatClampNeg 23) 0)))] H := hP
  have hD : va_D A [(a0, .inl (cI, 64, .inl (upd f123 (Int32.toNatClampNeg 23) 0)))] := hD
  obtain ⟨f124, hf9⟩ : ∃ g : Nat → Int32, g = (upd f123 (Int32.toNatClampNeg 23) 0) := ⟨_, rfl⟩
  rw [← hf9] at hP hD
  refine lv_iinc (v := 24) (lv' := [(2, .int 24), (3, .int 64), (0, .ref a0), (1, .int 0)]) hx hb dJ7_fill_53178_14 hl (k := 0) rfl (by decide) (by decide) rfl (fun ls hl => ?_)
  refine lv_goto (tgt := 5) hx hb dJ7_fill_53178_17 (by decide) ?_
  refine lv_iload_n hx hb dJ7_fill_53178_5 rfl (lv_at hl 0 rfl) ?_
  refine lv_iload_n hx hb dJ7_fill_53178_6 rfl (lv_at hl 1 rfl) ?_
  refine lv_icmp_ge (tgt := 20) hx hb dJ7_fill_53178_7 (by decide) (fun c9 => absurd c9 (by decide)) (fun _ => ?_)
  refine lv_aload_n hx hb dJ7_fill_53178_10 rfl (lv_at hl 2 rfl) ?_
  refine lv_iload_n hx hb dJ7_fill_53178_11 rfl (lv_at hl 0 rfl) ?_
  refine lv_iload_n hx hb dJ7_fill_53178_12 rfl (lv_at hl 3 rfl) ?_
  refine va_iast hx hb hM.1 hP hD hS 0 0 rfl rfl (nm_vin (by decide)) dJ7_fill_53178_13 (fun H locs hP hD hS => ?_)
  have hP : va_P D nm_cl [(a0, .inl (cI, 64, .inl (upd f124 (Int32.toNatClampNeg 24) 0)))] H := hP
  have hD : va_D A [(a0, .inl (cI, 64, .inl (upd f124 (Int32.toNatClampNeg 24) 0)))] := hD
  obtain ⟨f125, hf9⟩ : ∃ g : Nat → Int32, g = (upd f124 (Int32.toNatClampNeg 24) 0) := ⟨_, rfl⟩
  rw [← hf9] at hP hD
  refine lv_iinc (v := 25) (lv' := [(2, .int 25), (3, .int 64), (0, .ref a0), (1, .int 0)]) hx hb dJ7_fill_53178_14 hl (k := 0) rfl (by decide) (by decide) rfl (fun ls hl => ?_)
  refine lv_goto (tgt := 5) hx hb dJ7_fill_53178_17 (by decide) ?_
  refine lv_iload_n hx hb dJ7_fill_53178_5 rfl (lv_at hl 0 rfl) ?_
  refine lv_iload_n hx hb dJ7_fill_53178_6 rfl (lv_at hl 1 rfl) ?_
  refine lv_icmp_ge (tgt := 20) hx hb dJ7_fill_53178_7 (by decide) (fun c9 => absurd c9 (by decide)) (fun _ => ?_)
  refine lv_aload_n hx hb dJ7_fill_53178_10 rfl (lv_at hl 2 rfl) ?_
  refine lv_iload_n hx hb dJ7_fill_53178_11 rfl (lv_at hl 0 rfl) ?_
  refine lv_iload_n hx hb dJ7_fill_53178_12 rfl (lv_at hl 3 rfl) ?_
  refine va_iast hx hb hM.1 hP hD hS 0 0 rfl rfl (nm_vin (by decide)) dJ7_fill_53178_13 (fun H locs hP hD hS => ?_)
  have hP : va_P D nm_cl [(a0, .inl (cI, 64, .inl (upd f125 (Int32.toNatClampNeg 25) 0)))] H := hP
  have hD : va_D A [(a0, .inl (cI, 64, .inl (upd f125 (Int32.toNatClampNeg 25) 0)))] := hD
  obtain ⟨f126, hf9⟩ : ∃ g : Nat → Int32, g = (upd f125 (Int32.toNatClampNeg 25) 0) := ⟨_, rfl⟩
  rw [← hf9] at hP hD
  refine lv_iinc (v := 26) (lv' := [(2, .int 26), (3, .int 64), (0, .ref a0), (1, .int 0)]) hx hb dJ7_fill_53178_14 hl (k := 0) rfl (by decide) (by decide) rfl (fun ls hl => ?_)
  refine lv_goto (tgt := 5) hx hb dJ7_fill_53178_17 (by decide) ?_
  refine lv_iload_n hx hb dJ7_fill_53178_5 rfl (lv_at hl 0 rfl) ?_
  refine lv_iload_n hx hb dJ7_fill_53178_6 rfl (lv_at hl 1 rfl) ?_
  refine lv_icmp_ge (tgt := 20) hx hb dJ7_fill_53178_7 (by decide) (fun c9 => absurd c9 (by decide)) (fun _ => ?_)
  refine lv_aload_n hx hb dJ7_fill_53178_10 rfl (lv_at hl 2 rfl) ?_
  refine lv_iload_n hx hb dJ7_fill_53178_11 rfl (lv_at hl 0 rfl) ?_
  refine lv_iload_n hx hb dJ7_fill_53178_12 rfl (lv_at hl 3 rfl) ?_
  refine va_iast hx hb hM.1 hP hD hS 0 0 rfl rfl (nm_vin (by decide)) dJ7_fill_53178_13 (fun H locs hP hD hS => ?_)
  have hP : va_P D nm_cl [(a0, .inl (cI, 64, .inl (upd f126 (Int32.toNatClampNeg 26) 0)))] H := hP
  have hD : va_D A [(a0, .inl (cI, 64, .inl (upd f126 (Int32.toNatClampNeg 26) 0)))] := hD
  obtain ⟨f127, hf9⟩ : ∃ g : Nat → Int32, g = (upd f126 (Int32.toNatClampNeg 26) 0) := ⟨_, rfl⟩
  rw [← hf9] at hP hD
  refine lv_iinc (v := 27) (lv' := [(2, .int 27), (3, .int 64), (0, .ref a0), (1, .int 0)]) hx hb dJ7_fill_53178_14 hl (k := 0) rfl (by decide) (by decide) rfl (fun ls hl => ?_)
  refine lv_goto (tgt := 5) hx hb dJ7_fill_53178_17 (by decide) ?_
  refine lv_iload_n hx hb dJ7_fill_53178_5 rfl (lv_at hl 0 rfl) ?_
  refine lv_iload_n hx hb dJ7_fill_53178_6 rfl (lv_at hl 1 rfl) ?_
  refine lv_icmp_ge (tgt := 20) hx hb dJ7_fill_53178_7 (by decide) (fun c9 => absurd c9 (by decide)) (fun _ => ?_)
  refine lv_aload_n hx hb dJ7_fill_53178_10 rfl (lv_at hl 2 rfl) ?_
  refine lv_iload_n hx hb dJ7_fill_53178_11 rfl (lv_at hl 0 rfl) ?_
  refine lv_iload_n hx hb dJ7_fill_53178_12 rfl (lv_at hl 3 rfl) ?_
  refine va_iast hx hb hM.1 hP hD hS 0 0 rfl rfl (nm_vin (by decide)) dJ7_fill_53178_13 (fun H locs hP hD hS => ?_)
  have hP : va_P D nm_cl [(a0, .inl (cI, 64, .inl (upd f127 (Int32.toNatClampNeg 27) 0)))] H := hP
  have hD : va_D A [(a0, .inl (cI, 64, .inl (upd f127 (Int32.toNatClampNeg 27) 0)))] := hD
  obtain ⟨f128, hf9⟩ : ∃ g : Nat → Int32, g = (upd f127 (Int32.toNatClampNeg 27) 0) := ⟨_, rfl⟩
  rw [← hf9] at hP hD
  refine lv_iinc (v := 28) (lv' := [(2, .int 28), (3, .int 64), (0, .ref a0), (1, .int 0)]) hx hb dJ7_fill_53178_14 hl (k := 0) rfl (by decide) (by decide) rfl (fun ls hl => ?_)
  refine lv_goto (tgt := 5) hx hb dJ7_fill_53178_17 (by decide) ?_
  refine lv_iload_n hx hb dJ7_fill_53178_5 rfl (lv_at hl 0 rfl) ?_
  refine lv_iload_n hx hb dJ7_fill_53178_6 rfl (lv_at hl 1 rfl) ?_
  refine lv_icmp_ge (tgt := 20) hx hb dJ7_fill_53178_7 (by decide) (fun c9 => absurd c9 (by decide)) (fun _ => ?_)
  refine lv_aload_n hx hb dJ7_fill_53178_10 rfl (lv_at hl 2 rfl) ?_
  refine lv_iload_n hx hb dJ7_fill_53178_11 rfl (lv_at hl 0 rfl) ?_
  refine lv_iload_n hx hb dJ7_fill_53178_12 rfl (lv_at hl 3 rfl) ?_
  refine va_iast hx hb hM.1 hP hD hS 0 0 rfl rfl (nm_vin (by decide)) dJ7_fill_53178_13 (fun H locs hP hD hS => ?_)
  have hP : va_P D nm_cl [(a0, .inl (cI, 64, .inl (upd f128 (Int32.toNatClampNeg 28) 0)))] H := hP
  have hD : va_D A [(a0, .inl (cI, 64, .inl (upd f128 (Int32.toNatClampNeg 28) 0)))] := hD
  obtain ⟨f129, hf9⟩ : ∃ g : Nat → Int32, g = (upd f128 (Int32.toNatClampNeg 28) 0) := ⟨_, rfl⟩
  rw [← hf9] at hP hD
  refine lv_iinc (v := 29) (lv' := [(2, .int 29), (3, .int 64), (0, .ref a0), (1, .int 0)]) hx hb dJ7_fill_53178_14 hl (k := 0) rfl (by decide) (by decide) rfl (fun ls hl => ?_)
  refine lv_goto (tgt := 5) hx hb dJ7_fill_53178_17 (by decide) ?_
  refine lv_iload_n hx hb dJ7_fill_53178_5 rfl (lv_at hl 0 rfl) ?_
  refine lv_iload_n hx hb dJ7_fill_53178_6 rfl (lv_at hl 1 rfl) ?_
  refine lv_icmp_ge (tgt := 20) hx hb dJ7_fill_53178_7 (by decide) (fun c9 => absurd c9 (by decide)) (fun _ => ?_)
  refine lv_aload_n hx hb dJ7_fill_53178_10 rfl (lv_at hl 2 rfl) ?_
  refine lv_iload_n hx hb dJ7_fill_53178_11 rfl (lv_at hl 0 rfl) ?_
  refine lv_iload_n hx hb dJ7_fill_53178_12 rfl (lv_at hl 3 rfl) ?_
  refine va_iast hx hb hM.1 hP hD hS 0 0 rfl rfl (nm_vin (by decide)) dJ7_fill_53178_13 (fun H locs hP hD hS => ?_)
  have hP : va_P D nm_cl [(a0, .inl (cI, 64, .inl (upd f129 (Int32.toNatClampNeg 29) 0)))] H := hP
  have hD : va_D A [(a0, .inl (cI, 64, .inl (upd f129 (Int32.toNatClampNeg 29) 0)))] := hD
  obtain ⟨f130, hf9⟩ : ∃ g : Nat → Int32, g = (upd f129 (Int32.toNatClampNeg 29) 0) := ⟨_, rfl⟩
  rw [← hf9] at hP hD
  refine lv_iinc (v := 30) (lv' := [(2, .int 30), (3, .int 64), (0, .ref a0), (1, .int 0)]) hx hb dJ7_fill_53178_14 hl (k := 0) rfl (by decide) (by decide) rfl (fun ls hl => ?_)
  refine lv_goto (tgt := 5) hx hb dJ7_fill_53178_17 (by decide) ?_
  refine lv_iload_n hx hb dJ7_fill_53178_5 rfl (lv_at hl 0 rfl) ?_
  refine lv_iload_n hx hb dJ7_fill_53178_6 rfl (lv_at hl 1 rfl) ?_
  refine lv_icmp_ge (tgt := 20) hx hb dJ7_fill_53178_7 (by decide) (fun c9 => absurd c9 (by decide)) (fun _ => ?_)
  refine lv_aload_n hx hb dJ7_fill_53178_10 rfl (lv_at hl 2 rfl) ?_
  refine lv_iload_n hx hb dJ7_fill_53178_11 rfl (lv_at hl 0 rfl) ?_
  refine lv_iload_n hx hb dJ7_fill_53178_12 rfl (lv_at hl 3 rfl) ?_
  refine va_iast hx hb hM.1 hP hD hS 0 0 rfl rfl (nm_vin (by decide)) dJ7_fill_53178_13 (fun H locs hP hD hS => ?_)
  have hP : va_P D nm_cl [(a0, .inl (cI, 64, .inl (upd f130 (Int32.toNatClampNeg 30) 0)))] H := hP
  have hD : va_D A [(a0, .inl (cI, 64, .inl (upd f130 (Int32.toNatClampNeg 30) 0)))] := hD
  obtain ⟨f131, hf9⟩ : ∃ g : Nat → Int32, g = (upd f130 (Int32.toNatClampNeg 30) 0) := ⟨_, rfl⟩
  rw [← hf9] at hP hD
  refine lv_iinc (v := 31) (lv' := [(2, .int 31), (3, .int 64), (0, .ref a0), (1, .int 0)]) hx hb dJ7_fill_53178_14 hl (k := 0) rfl (by decide) (by decide) rfl (fun ls hl => ?_)
  refine lv_goto (tgt := 5) hx hb dJ7_fill_53178_17 (by decide) ?_
  refine lv_iload_n hx hb dJ7_fill_53178_5 rfl (lv_at hl 0 rfl) ?_
  refine lv_iload_n hx hb dJ7_fill_53178_6 rfl (lv_at hl 1 rfl) ?_
  refine lv_icmp_ge (tgt := 20) hx hb dJ7_fill_53178_7 (by decide) (fun c9 => absurd c9 (by decide)) (fun _ => ?_)
  refine lv_aload_n hx hb dJ7_fill_53178_10 rfl (lv_at hl 2 rfl) ?_
  refine lv_iload_n hx hb dJ7_fill_53178_11 rfl (lv_at hl 0 rfl) ?_
  refine lv_iload_n hx hb dJ7_fill_53178_12 rfl (lv_at hl 3 rfl) ?_
  refine va_iast hx hb hM.1 hP hD hS 0 0 rfl rfl (nm_vin (by decide)) dJ7_fill_53178_13 (fun H locs hP hD hS => ?_)
  have hP : va_P D nm_cl [(a0, .inl (cI, 64, .inl (upd f131 (Int32.toNatClampNeg 31) 0)))] H := hP
  have hD : va_D A [(a0, .inl (cI, 64, .inl (upd f131 (Int32.toNatClampNeg 31) 0)))] := hD
  obtain ⟨f132, hf9⟩ : ∃ g : Nat → Int32, g = (upd f131 (Int32.toNatClampNeg 31) 0) := ⟨_, rfl⟩
  rw [← hf9] at hP hD
  refine lv_iinc (v := 32) (lv' := [(2, .int 32), (3, .int 64), (0, .ref a0), (1, .int 0)]) hx hb dJ7_fill_53178_14 hl (k := 0) rfl (by decide) (by decide) rfl (fun ls hl => ?_)
  refine lv_goto (tgt := 5) hx hb dJ7_fill_53178_17 (by decide) ?_
  refine lv_iload_n hx hb dJ7_fill_53178_5 rfl (lv_at hl 0 rfl) ?_
  refine lv_iload_n hx hb dJ7_fill_53178_6 rfl (lv_at hl 1 rfl) ?_
  refine lv_icmp_ge (tgt := 20) hx hb dJ7_fill_53178_7 (by decide) (fun c9 => absurd c9 (by decide)) (fun _ => ?_)
  refine lv_aload_n hx hb dJ7_fill_53178_10 rfl (lv_at hl 2 rfl) ?_
  refine lv_iload_n hx hb dJ7_fill_53178_11 rfl (lv_at hl 0 rfl) ?_
  refine lv_iload_n hx hb dJ7_fill_53178_12 rfl (lv_at hl 3 rfl) ?_
  refine va_iast hx hb hM.1 hP hD hS 0 0 rfl rfl (nm_vin (by decide)) dJ7_fill_53178_13 (fun H locs hP hD hS => ?_)
  have hP : va_P D nm_cl [(a0, .inl (cI, 64, .inl (upd f132 (Int32.toNatClampNeg 32) 0)))] H := hP
  have hD : va_D A [(a0, .inl (cI, 64, .inl (upd f132 (Int32.toNatClampNeg 32) 0)))] := hD
  obtain ⟨f133, hf9⟩ : ∃ g : Nat → Int32, g = (upd f132 (Int32.toNatClampNeg 32) 0) := ⟨_, rfl⟩
  rw [← hf9] at hP hD
  refine lv_iinc (v := 33) (lv' := [(2, .int 33), (3, .int 64), (0, .ref a0), (1, .int 0)]) hx hb dJ7_fill_53178_14 hl (k := 0) rfl (by decide) (by decide) rfl (fun ls hl => ?_)
  refine lv_goto (tgt := 5) hx hb dJ7_fill_53178_17 (by decide) ?_
  refine lv_iload_n hx hb dJ7_fill_53178_5 rfl (lv_at hl 0 rfl) ?_
  refine lv_iload_n hx hb dJ7_fill_53178_6 rfl (lv_at hl 1 rfl) ?_
  refine lv_icmp_ge (tgt := 20) hx hb dJ7_fill_53178_7 (by decide) (fun c9 => absurd c9 (by decide)) (fun _ => ?_)
  refine lv_aload_n hx hb dJ7_fill_53178_10 rfl (lv_at hl 2 rfl) ?_
  refine lv_iload_n hx hb dJ7_fill_53178_11 rfl (lv_at hl 0 rfl) ?_
  refine lv_iload_n hx hb dJ7_fill_53178_12 rfl (lv_at hl 3 rfl) ?_
  refine va_iast hx hb hM.1 hP hD hS 0 0 rfl rfl (nm_vin (by decide)) dJ7_fill_53178_13 (fun H locs hP hD hS => ?_)
  have hP : va_P D nm_cl [(a0, .inl (cI, 64, .inl (upd f133 (Int32.toNatClampNeg 33) 0)))] H := hP
  have hD : va_D A [(a0, .inl (cI, 64, .inl (upd f133 (Int32.toNatClampNeg 33) 0)))] := hD
  obtain ⟨f134, hf9⟩ : ∃ g : Nat → Int32, g = (upd f133 (Int32.toNatClampNeg 33) 0) := ⟨_, rfl⟩
  rw [← hf9] at hP hD
  refine lv_iinc (v := 34) (lv' := [(2, .int 34), (3, .int 64), (0, .ref a0), (1, .int 0)]) hx hb dJ7_fill_53178_14 hl (k := 0) rfl (by decide) (by decide) rfl (fun ls hl => ?_)
  refine lv_goto (tgt := 5) hx hb dJ7_fill_53178_17 (by decide) ?_
  refine lv_iload_n hx hb dJ7_fill_53178_5 rfl (lv_at hl 0 rfl) ?_
  refine lv_iload_n hx hb dJ7_fill_53178_6 rfl (lv_at hl 1 rfl) ?_
  refine lv_icmp_ge (tgt := 20) hx hb dJ7_fill_53178_7 (by decide) (fun c9 => absurd c9 (by decide)) (fun _ => ?_)
  refine lv_aload_n hx hb dJ7_fill_53178_10 rfl (lv_at hl 2 rfl) ?_
  refine lv_iload_n hx hb dJ7_fill_53178_11 rfl (lv_at hl 0 rfl) ?_
  refine lv_iload_n hx hb dJ7_fill_53178_12 rfl (lv_at hl 3 rfl) ?_
  refine va_iast hx hb hM.1 hP hD hS 0 0 rfl rfl (nm_vin (by decide)) dJ7_fill_53178_13 (fun H locs hP hD hS => ?_)
  have hP : va_P D nm_cl [(a0, .inl (cI, 64, .inl (upd f134 (Int32.toNatClampNeg 34) 0)))] H := hP
  have hD : va_D A [(a0, .inl (cI, 64, .inl (upd f134 (Int32.toNatClampNeg 34) 0)))] := hD
  obtain ⟨f135, hf9⟩ : ∃ g : Nat → Int32, g = (upd f134 (Int32.toNatClampNeg 34) 0) := ⟨_, rfl⟩
  rw [← hf9] at hP hD
  refine lv_iinc (v := 35) (lv' := [(2, .int 35), (3, .int 64), (0, .ref a0), (1, .int 0)]) hx hb dJ7_fill_53178_14 hl (k := 0) rfl (by decide) (by decide) rfl (fun ls hl => ?_)
  refine lv_goto (tgt := 5) hx hb dJ7_fill_53178_17 (by decide) ?_
  refine lv_iload_n hx hb dJ7_fill_53178_5 rfl (lv_at hl 0 rfl) ?_
  refine lv_iload_n hx hb dJ7_fill_53178_6 rfl (lv_at hl 1 rfl) ?_
  refine lv_icmp_ge (tgt := 20) hx hb dJ7_fill_53178_7 (by decide) (fun c9 => absurd c9 (by decide)) (fun _ => ?_)
  refine lv_aload_n hx hb dJ7_fill_53178_10 rfl (lv_at hl 2 rfl) ?_
  refine lv_iload_n hx hb dJ7_fill_53178_11 rfl (lv_at hl 0 rfl) ?_
  refine lv_iload_n hx hb dJ7_fill_53178_12 rfl (lv_at hl 3 rfl) ?_
  refine va_iast hx hb hM.1 hP hD hS 0 0 rfl rfl (nm_vin (by decide)) dJ7_fill_53178_13 (fun H locs hP hD hS => ?_)
  have hP : va_P D nm_cl [(a0, .inl (cI, 64, .inl (upd f135 (Int32.toNatClampNeg 35) 0)))] H := hP
  have hD : va_D A [(a0, .inl (cI, 64, .inl (upd f135 (Int32.toNatClampNeg 35) 0)))] := hD
  obtain ⟨f136, hf9⟩ : ∃ g : Nat → Int32, g = (upd f135 (Int32.toNatClampNeg 35) 0) := ⟨_, rfl⟩
  rw [← hf9] at hP hD
  refine lv_iinc (v := 36) (lv' := [(2, .int 36), (3, .int 64), (0, .ref a0), (1, .int 0)]) hx hb dJ7_fill_53178_14 hl (k := 0) rfl (by decide) (by decide) rfl (fun ls hl => ?_)
  refine lv_goto (tgt := 5) hx hb dJ7_fill_53178_17 (by decide) ?_
  refine lv_iload_n hx hb dJ7_fill_53178_5 rfl (lv_at hl 0 rfl) ?_
  refine lv_iload_n hx hb dJ7_fill_53178_6 rfl (lv_at hl 1 rfl) ?_
  refine lv_icmp_ge (tgt := 20) hx hb dJ7_fill_53178_7 (by decide) (fun c9 => absurd c9 (by decide)) (fun _ => ?_)
  refine lv_aload_n hx hb dJ7_fill_53178_10 rfl (lv_at hl 2 rfl) ?_
  refine lv_iload_n hx hb dJ7_fill_53178_11 rfl (lv_at hl 0 rfl) ?_
  refine lv_iload_n hx hb dJ7_fill_53178_12 rfl (lv_at hl 3 rfl) ?_
  refine va_iast hx hb hM.1 hP hD hS 0 0 rfl rfl (nm_vin (by decide)) dJ7_fill_53178_13 (fun H locs hP hD hS => ?_)
  have hP : va_P D nm_cl [(a0, .inl (cI, 64, .inl (upd f136 (Int32.toNatClampNeg 36) 0)))] H := hP
  have hD : va_D A [(a0, .inl (cI, 64, .inl (upd f136 (Int32.toNatClampNeg 36) 0)))] := hD
  obtain ⟨f137, hf9⟩ : ∃ g : Nat → Int32, g = (upd f136 (Int32.toNatClampNeg 36) 0) := ⟨_, rfl⟩
  rw [← hf9] at hP hD
  refine lv_iinc (v := 37) (lv' := [(2, .int 37), (3, .int 64), (0, .ref a0), (1, .int 0)]) hx hb dJ7_fill_53178_14 hl (k := 0) rfl (by decide) (by decide) rfl (fun ls hl => ?_)
  refine lv_goto (tgt := 5) hx hb dJ7_fill_53178_17 (by decide) ?_
  refine lv_iload_n hx hb dJ7_fill_53178_5 rfl (lv_at hl 0 rfl) ?_
  refine lv_iload_n hx hb dJ7_fill_53178_6 rfl (lv_at hl 1 rfl) ?_
  refine lv_icmp_ge (tgt := 20) hx hb dJ7_fill_53178_7 (by decide) (fun c9 => absurd c9 (by decide)) (fun _ => ?_)
  refine lv_aload_n hx hb dJ7_fill_53178_10 rfl (lv_at hl 2 rfl) ?_
  refine lv_iload_n hx hb dJ7_fill_53178_11 rfl (lv_at hl 0 rfl) ?_
  refine lv_iload_n hx hb dJ7_fill_53178_12 rfl (lv_at hl 3 rfl) ?_
  refine va_iast hx hb hM.1 hP hD hS 0 0 rfl rfl (nm_vin (by decide)) dJ7_fill_53178_13 (fun H locs hP hD hS => ?_)
  have hP : va_P D nm_cl [(a0, .inl (cI, 64, .inl (upd f137 (Int32.toNatClampNeg 37) 0)))] H := hP
  have hD : va_D A [(a0, .inl (cI, 64, .inl (upd f137 (Int32.toNatClampNeg 37) 0)))] := hD
  obtain ⟨f138, hf9⟩ : ∃ g : Nat → Int32, g = (upd f137 (Int32.toNatClampNeg 37) 0) := ⟨_, rfl⟩
  rw [← hf9] at hP hD
  refine lv_iinc (v := 38) (lv' := [(2, .int 38), (3, .int 64), (0, .ref a0), (1, .int 0)]) hx hb dJ7_fill_53178_14 hl (k := 0) rfl (by decide) (by decide) rfl (fun ls hl => ?_)
  refine lv_goto (tgt := 5) hx hb dJ7_fill_53178_17 (by decide) ?_
  refine lv_iload_n hx hb dJ7_fill_53178_5 rfl (lv_at hl 0 rfl) ?_
  refine lv_iload_n hx hb dJ7_fill_53178_6 rfl (lv_at hl 1 rfl) ?_
  refine lv_icmp_ge (tgt := 20) hx hb dJ7_fill_53178_7 (by decide) (fun c9 => absurd c9 (by decide)) (fun _ => ?_)
  refine lv_aload_n hx hb dJ7_fill_53178_10 rfl (lv_at hl 2 rfl) ?_
  refine lv_iload_n hx hb dJ7_fill_53178_11 rfl (lv_at hl 0 rfl) ?_
  refine lv_iload_n hx hb dJ7_fill_53178_12 rfl (lv_at hl 3 rfl) ?_
  refine va_iast hx hb hM.1 hP hD hS 0 0 rfl rfl (nm_vin (by decide)) dJ7_fill_53178_13 (fun H locs hP hD hS => ?_)
  have hP : va_P D nm_cl [(a0, .inl (cI, 64, .inl (upd f138 (Int32.toNatClampNeg 38) 0)))] H := hP
  have hD : va_D A [(a0, .inl (cI, 64, .inl (upd f138 (Int32.toNatClampNeg 38) 0)))] := hD
  obtain ⟨f139, hf9⟩ : ∃ g : Nat → Int32, g = (upd f138 (Int32.toNatClampNeg 38) 0) := ⟨_, rfl⟩
  rw [← hf9] at hP hD
  refine lv_iinc (v := 39) (lv' := [(2, .int 39), (3, .int 64), (0, .ref a0), (1, .int 0)]) hx hb dJ7_fill_53178_14 hl (k := 0) rfl (by decide) (by decide) rfl (fun ls hl => ?_)
  refine lv_goto (tgt := 5) hx hb dJ7_fill_53178_17 (by decide) ?_
  refine lv_iload_n hx hb dJ7_fill_53178_5 rfl (lv_at hl 0 rfl) ?_
  refine lv_iload_n hx hb dJ7_fill_53178_6 rfl (lv_at hl 1 rfl) ?_
  refine lv_icmp_ge (tgt := 20) hx hb dJ7_fill_53178_7 (by decide) (fun c9 => absurd c9 (by decide)) (fun _ => ?_)
  refine lv_aload_n hx hb dJ7_fill_53178_10 rfl (lv_at hl 2 rfl) ?_
  refine lv_iload_n hx hb dJ7_fill_53178_11 rfl (lv_at hl 0 rfl) ?_
  refine lv_iload_n hx hb dJ7_fill_53178_12 rfl (lv_at hl 3 rfl) ?_
  refine va_iast hx hb hM.1 hP hD hS 0 0 rfl rfl (nm_vin (by decide)) dJ7_fill_53178_13 (fun H locs hP hD hS => ?_)
  have hP : va_P D nm_cl [(a0, .inl (cI, 64, .inl (upd f139 (Int32.toNatClampNeg 39) 0)))] H := hP
  have hD : va_D A [(a0, .inl (cI, 64, .inl (upd f139 (Int32.toNatClampNeg 39) 0)))] := hD
  obtain ⟨f140, hf9⟩ : ∃ g : Nat → Int32, g = (upd f139 (Int32.toNatClampNeg 39) 0) := ⟨_, rfl⟩
  rw [← hf9] at hP hD
  refine lv_iinc (v := 40) (lv' := [(2, .int 40), (3, .int 64), (0, .ref a0), (1, .int 0)]) hx hb dJ7_fill_53178_14 hl (k := 0) rfl (by decide) (by decide) rfl (fun ls hl => ?_)
  refine lv_goto (tgt := 5) hx hb dJ7_fill_53178_17 (by decide) ?_
  refine lv_iload_n hx hb dJ7_fill_53178_5 rfl (lv_at hl 0 rfl) ?_
  refine lv_iload_n hx hb dJ7_fill_53178_6 rfl (lv_at hl 1 rfl) ?_
  refine lv_icmp_ge (tgt := 20) hx hb dJ7_fill_53178_7 (by decide) (fun c9 => absurd c9 (by decide)) (fun _ => ?_)
  refine lv_aload_n hx hb dJ7_fill_53178_10 rfl (lv_at hl 2 rfl) ?_
  refine lv_iload_n hx hb dJ7_fill_53178_11 rfl (lv_at hl 0 rfl) ?_
  refine lv_iload_n hx hb dJ7_fill_53178_12 rfl (lv_at hl 3 rfl) ?_
  refine va_iast hx hb hM.1 hP hD hS 0 0 rfl rfl (nm_vin (by decide)) dJ7_fill_53178_13 (fun H locs hP hD hS => ?_)
  have hP : va_P D nm_cl [(a0, .inl (cI, 64, .inl (upd f140 (Int32.toNatClampNeg 40) 0)))] H := hP
  have hD : va_D A [(a0, .inl (cI, 64, .inl (upd f140 (Int32.toNatClampNeg 40) 0)))] := hD
  obtain ⟨f141, hf9⟩ : ∃ g : Nat → Int32, g = (upd f140 (Int32.toNatClampNeg 40) 0) := ⟨_, rfl⟩
  rw [← hf9] at hP hD
  refine lv_iinc (v := 41) (lv' := [(2, .int 41), (3, .int 64), (0, .ref a0), (1, .int 0)]) hx hb dJ7_fill_53178_14 hl (k := 0) rfl (by decide) (by decide) rfl (fun ls hl => ?_)
  refine lv_goto (tgt := 5) hx hb dJ7_fill_53178_17 (by decide) ?_
  refine lv_iload_n hx hb dJ7_fill_53178_5 rfl (lv_at hl 0 rfl) ?_
  refine lv_iload_n hx hb dJ7_fill_53178_6 rfl (lv_at hl 1 rfl) ?_
  refine lv_icmp_ge (tgt := 20) hx hb dJ7_fill_53178_7 (by decide) (fun c9 => absurd c9 (by decide)) (fun _ => ?_)
  refine lv_aload_n hx hb dJ7_fill_53178_10 rfl (lv_at hl 2 rfl) ?_
  refine lv_iload_n hx hb dJ7_fill_53178_11 rfl (lv_at hl 0 rfl) ?_
  refine lv_iload_n hx hb dJ7_fill_53178_12 rfl (lv_at hl 3 rfl) ?_
  refine va_iast hx hb hM.1 hP hD hS 0 0 rfl rfl (nm_vin (by decide)) dJ7_fill_53178_13 (fun H locs hP hD hS => ?_)
  have hP : va_P D nm_cl [(a0, .inl (cI, 64, .inl (upd f141 (Int32.toNatClampNeg 41) 0)))] H := hP
  have hD : va_D A [(a0, .inl (cI, 64, .inl (upd f141 (Int32.toNatClampNeg 41) 0)))] := hD
  obtain ⟨f142, hf9⟩ : ∃ g : Nat → Int32, g = (upd f141 (Int32.toNatClampNeg 41) 0) := ⟨_, rfl⟩
  rw [← hf9] at hP hD
  refine lv_iinc (v := 42) (lv' := [(2, .int 42), (3, .int 64), (0, .ref a0), (1, .int 0)]) hx hb dJ7_fill_53178_14 hl (k := 0) rfl (by decide) (by decide) rfl (fun ls hl => ?_)
  refine lv_goto (tgt := 5) hx hb dJ7_fill_53178_17 (by decide) ?_
  refine lv_iload_n hx hb dJ7_fill_53178_5 rfl (lv_at hl 0 rfl) ?_
  refine lv_iload_n hx hb dJ7_fill_53178_6 rfl (lv_at hl 1 rfl) ?_
  refine lv_icmp_ge (tgt := 20) hx hb dJ7_fill_53178_7 (by decide) (fun c9 => absurd c9 (by decide)) (fun _ => ?_)
  refine lv_aload_n hx hb dJ7_fill_53178_10 rfl (lv_at hl 2 rfl) ?_
  refine lv_iload_n hx hb dJ7_fill_53178_11 rfl (lv_at hl 0 rfl) ?_
  refine lv_iload_n hx hb dJ7_fill_53178_12 rfl (lv_at hl 3 rfl) ?_
  refine va_iast hx hb hM.1 hP hD hS 0 0 rfl rfl (nm_vin (by decide)) dJ7_fill_53178_13 (fun H locs hP hD hS => ?_)
  have hP : va_P D nm_cl [(a0, .inl (cI, 64, .inl (upd f142 (Int32.toNatClampNeg 42) 0)))] H := hP
  have hD : va_D A [(a0, .inl (cI, 64, .inl (upd f142 (Int32.toNatClampNeg 42) 0)))] := hD
  obtain ⟨f143, hf9⟩ : ∃ g : Nat → Int32, g = (upd f142 (Int32.toNatClampNeg 42) 0) := ⟨_, rfl⟩
  rw [← hf9] at hP hD
  refine lv_iinc (v := 43) (lv' := [(2, .int 43), (3, .int 64), (0, .ref a0), (1, .int 0)]) hx hb dJ7_fill_53178_14 hl (k := 0) rfl (by decide) (by decide) rfl (fun ls hl => ?_)
  refine lv_goto (tgt := 5) hx hb dJ7_fill_53178_17 (by decide) ?_
  refine lv_iload_n hx hb dJ7_fill_53178_5 rfl (lv_at hl 0 rfl) ?_
  refine lv_iload_n hx hb dJ7_fill_53178_6 rfl (lv_at hl 1 rfl) ?_
  refine lv_icmp_ge (tgt := 20) hx hb dJ7_fill_53178_7 (by decide) (fun c9 => absurd c9 (by decide)) (fun _ => ?_)
  refine lv_aload_n hx hb dJ7_fill_53178_10 rfl (lv_at hl 2 rfl) ?_
  refine lv_iload_n hx hb dJ7_fill_53178_11 rfl (lv_at hl 0 rfl) ?_
  refine lv_iload_n hx hb dJ7_fill_53178_12 rfl (lv_at hl 3 rfl) ?_
  refine va_iast hx hb hM.1 hP hD hS 0 0 rfl rfl (nm_vin (by decide)) dJ7_fill_53178_13 (fun H locs hP hD hS => ?_)
  have hP : va_P D nm_cl [(a0, .inl (cI, 64, .inl (upd f143 (Int32.toNatClampNeg 43) 0)))] H := hP
  have hD : va_D A [(a0, .inl (cI, 64, .inl (upd f143 (Int32.toNatClampNeg 43) 0)))] := hD
  obtain ⟨f144, hf9⟩ : ∃ g : Nat → Int32, g = (upd f143 (Int32.toNatClampNeg 43) 0) := ⟨_, rfl⟩
  rw [← hf9] at hP hD
  refine lv_iinc (v := 44) (lv' := [(2, .int 44), (3, .int 64), (0, .ref a0), (1, .int 0)]) hx hb dJ7_fill_53178_14 hl (k := 0) rfl (by decide) (by decide) rfl (fun ls hl => ?_)
  refine lv_goto (tgt := 5) hx hb dJ7_fill_53178_17 (by decide) ?_
  refine lv_iload_n hx hb dJ7_fill_53178_5 rfl (lv_at hl 0 rfl) ?_
  refine lv_iload_n hx hb dJ7_fill_53178_6 rfl (lv_at hl 1 rfl) ?_
  refine lv_icmp_ge (tgt := 20) hx hb dJ7_fill_53178_7 (by decide) (fun c9 => absurd c9 (by decide)) (fun _ => ?_)
  refine lv_aload_n hx hb dJ7_fill_53178_10 rfl (lv_at hl 2 rfl) ?_
  refine lv_iload_n hx hb dJ7_fill_53178_11 rfl (lv_at hl 0 rfl) ?_
  refine lv_iload_n hx hb dJ7_fill_53178_12 rfl (lv_at hl 3 rfl) ?_
  refine va_iast hx hb hM.1 hP hD hS 0 0 rfl rfl (nm_vin (by decide)) dJ7_fill_53178_13 (fun H locs hP hD hS => ?_)
  have hP : va_P D nm_cl [(a0, .inl (cI, 64, .inl (upd f144 (Int32.toNatClampNeg 44) 0)))] H := hP
  have hD : va_D A [(a0, .inl (cI, 64, .inl (upd f144 (Int32.toNatClampNeg 44) 0)))] := hD
  obtain ⟨f145, hf9⟩ : ∃ g : Nat → Int32, g = (upd f144 (Int32.toNatClampNeg 44) 0) := ⟨_, rfl⟩
  rw [← hf9] at hP hD
  refine lv_iinc (v := 45) (lv' := [(2, .int 45), (3, .int 64), (0, .ref a0), (1, .int 0)]) hx hb dJ7_fill_53178_14 hl (k := 0) rfl (by decide) (by decide) rfl (fun ls hl => ?_)
  refine lv_goto (tgt := 5) hx hb dJ7_fill_53178_17 (by decide) ?_
  refine lv_iload_n hx hb dJ7_fill_53178_5 rfl (lv_at hl 0 rfl) ?_
  refine lv_iload_n hx hb dJ7_fill_53178_6 rfl (lv_at hl 1 rfl) ?_
  refine lv_icmp_ge (tgt := 20) hx hb dJ7_fill_53178_7 (by decide) (fun c9 => absurd c9 (by decide)) (fun _ => ?_)
  refine lv_aload_n hx hb dJ7_fill_53178_10 rfl (lv_at hl 2 rfl) ?_
  refine lv_iload_n hx hb dJ7_fill_53178_11 rfl (lv_at hl 0 rfl) ?_
  refine lv_iload_n hx hb dJ7_fill_53178_12 rfl (lv_at hl 3 rfl) ?_
  refine va_iast hx hb hM.1 hP hD hS 0 0 rfl rfl (nm_vin (by decide)) dJ7_fill_53178_13 (fun H locs hP hD hS => ?_)
  have hP : va_P D nm_cl [(a0, .inl (cI, 64, .inl (upd f145 (Int32.toNatClampNeg 45) 0)))] H := hP
  have hD : va_D A [(a0, .inl (cI, 64, .inl (upd f145 (Int32.toNatClampNeg 45) 0)))] := hD
  obtain ⟨f146, hf9⟩ : ∃ g : Nat → Int32, g = (upd f145 (Int32.toNatClampNeg 45) 0) := ⟨_, rfl⟩
  rw [← hf9] at hP hD
  refine lv_iinc (v := 46) (lv' := [(2, .int 46), (3, .int 64), (0, .ref a0), (1, .int 0)]) hx hb dJ7_fill_53178_14 hl (k := 0) rfl (by decide) (by decide) rfl (fun ls hl => ?_)
  refine lv_goto (tgt := 5) hx hb dJ7_fill_53178_17 (by decide) ?_
  refine lv_iload_n hx hb dJ7_fill_53178_5 rfl (lv_at hl 0 rfl) ?_
  refine lv_iload_n hx hb dJ7_fill_53178_6 rfl (lv_at hl 1 rfl) ?_
  refine lv_icmp_ge (tgt := 20) hx hb dJ7_fill_53178_7 (by decide) (fun c9 => absurd c9 (by decide)) (fun _ => ?_)
  refine lv_aload_n hx hb dJ7_fill_53178_10 rfl (lv_at hl 2 rfl) ?_
  refine lv_iload_n hx hb dJ7_fill_53178_11 rfl (lv_at hl 0 rfl) ?_
  refine lv_iload_n hx hb dJ7_fill_53178_12 rfl (lv_at hl 3 rfl) ?_
  refine va_iast hx hb hM.1 hP hD hS 0 0 rfl rfl (nm_vin (by decide)) dJ7_fill_53178_13 (fun H locs hP hD hS => ?_)
  have hP : va_P D nm_cl [(a0, .inl (cI, 64, .inl (upd f146 (Int32.toNatClampNeg 46) 0)))] H := hP
  have hD : va_D A [(a0, .inl (cI, 64, .inl (upd f146 (Int32.toNatClampNeg 46) 0)))] := hD
  obtain ⟨f147, hf9⟩ : ∃ g : Nat → Int32, g = (upd f146 (Int32.toNatClampNeg 46) 0) := ⟨_, rfl⟩
  rw [← hf9] at hP hD
  refine lv_iinc (v := 47) (lv' := [(2, .int 47), (3, .int 64), (0, .ref a0), (1, .int 0)]) hx hb dJ7_fill_53178_14 hl (k := 0) rfl (by decide) (by decide) rfl (fun ls hl => ?_)
  refine lv_goto (tgt := 5) hx hb dJ7_fill_53178_17 (by decide) ?_
  refine lv_iload_n hx hb dJ7_fill_53178_5 rfl (lv_at hl 0 rfl) ?_
  refine lv_iload_n hx hb dJ7_fill_53178_6 rfl (lv_at hl 1 rfl) ?_
  refine lv_icmp_ge (tgt := 20) hx hb dJ7_fill_53178_7 (by decide) (fun c9 => absurd c9 (by decide)) (fun _ => ?_)
  refine lv_aload_n hx hb dJ7_fill_53178_10 rfl (lv_at hl 2 rfl) ?_
  refine lv_iload_n hx hb dJ7_fill_53178_11 rfl (lv_at hl 0 rfl) ?_
  refine lv_iload_n hx hb dJ7_fill_53178_12 rfl (lv_at hl 3 rfl) ?_
  refine va_iast hx hb hM.1 hP hD hS 0 0 rfl rfl (nm_vin (by decide)) dJ7_fill_53178_13 (fun H locs hP hD hS => ?_)
  have hP : va_P D nm_cl [(a0, .inl (cI, 64, .inl (upd f147 (Int32.toNatClampNeg 47) 0)))] H := hP
  have hD : va_D A [(a0, .inl (cI, 64, .inl (upd f147 (Int32.toNatClampNeg 47) 0)))] := hD
  obtain ⟨f148, hf9⟩ : ∃ g : Nat → Int32, g = (upd f147 (Int32.toNatClampNeg 47) 0) := ⟨_, rfl⟩
  rw [← hf9] at hP hD
  refine lv_iinc (v := 48) (lv' := [(2, .int 48), (3, .int 64), (0, .ref a0), (1, .int 0)]) hx hb dJ7_fill_53178_14 hl (k := 0) rfl (by decide) (by decide) rfl (fun ls hl => ?_)
  refine lv_goto (tgt := 5) hx hb dJ7_fill_53178_17 (by decide) ?_
  refine lv_iload_n hx hb dJ7_fill_53178_5 rfl (lv_at hl 0 rfl) ?_
  refine lv_iload_n hx hb dJ7_fill_53178_6 rfl (lv_at hl 1 rfl) ?_
  refine lv_icmp_ge (tgt := 20) hx hb dJ7_fill_53178_7 (by decide) (fun c9 => absurd c9 (by decide)) (fun _ => ?_)
  refine lv_aload_n hx hb dJ7_fill_53178_10 rfl (lv_at hl 2 rfl) ?_
  refine lv_iload_n hx hb dJ7_fill_53178_11 rfl (lv_at hl 0 rfl) ?_
  refine lv_iload_n hx hb dJ7_fill_53178_12 rfl (lv_at hl 3 rfl) ?_
  refine va_iast hx hb hM.1 hP hD hS 0 0 rfl rfl (nm_vin (by decide)) dJ7_fill_53178_13 (fun H locs hP hD hS => ?_)
  have hP : va_P D nm_cl [(a0, .inl (cI, 64, .inl (upd f148 (Int32.toNatClampNeg 48) 0)))] H := hP
  have hD : va_D A [(a0, .inl (cI, 64, .inl (upd f148 (Int32.toNatClampNeg 48) 0)))] := hD
  obtain ⟨f149, hf9⟩ : ∃ g : Nat → Int32, g = (upd f148 (Int32.toNatClampNeg 48) 0) := ⟨_, rfl⟩
  rw [← hf9] at hP hD
  refine lv_iinc (v := 49) (lv' := [(2, .int 49), (3, .int 64), (0, .ref a0), (1, .int 0)]) hx hb dJ7_fill_53178_14 hl (k := 0) rfl (by decide) (by decide) rfl (fun ls hl => ?_)
  refine lv_goto (tgt := 5) hx hb dJ7_fill_53178_17 (by decide) ?_
  refine lv_iload_n hx hb dJ7_fill_53178_5 rfl (lv_at hl 0 rfl) ?_
  refine lv_iload_n hx hb dJ7_fill_53178_6 rfl (lv_at hl 1 rfl) ?_
  refine lv_icmp_ge (tgt := 20) hx hb dJ7_fill_53178_7 (by decide) (fun c9 => absurd c9 (by decide)) (fun _ => ?_)
  refine lv_aload_n hx hb dJ7_fill_53178_10 rfl (lv_at hl 2 rfl) ?_
  refine lv_iload_n hx hb dJ7_fill_53178_11 rfl (lv_at hl 0 rfl) ?_
  refine lv_iload_n hx hb dJ7_fill_53178_12 rfl (lv_at hl 3 rfl) ?_
  refine va_iast hx hb hM.1 hP hD hS 0 0 rfl rfl (nm_vin (by decide)) dJ7_fill_53178_13 (fun H locs hP hD hS => ?_)
  have hP : va_P D nm_cl [(a0, .inl (cI, 64, .inl (upd f149 (Int32.toNatClampNeg 49) 0)))] H := hP
  have hD : va_D A [(a0, .inl (cI, 64, .inl (upd f149 (Int32.toNatClampNeg 49) 0)))] := hD
  obtain ⟨f150, hf9⟩ : ∃ g : Nat → Int32, g = (upd f149 (Int32.toNatClampNeg 49) 0) := ⟨_, rfl⟩
  rw [← hf9] at hP hD
  refine lv_iinc (v := 50) (lv' := [(2, .int 50), (3, .int 64), (0, .ref a0), (1, .int 0)]) hx hb dJ7_fill_53178_14 hl (k := 0) rfl (by decide) (by decide) rfl (fun ls hl => ?_)
  refine lv_goto (tgt := 5) hx hb dJ7_fill_53178_17 (by decide) ?_
  refine lv_iload_n hx hb dJ7_fill_53178_5 rfl (lv_at hl 0 rfl) ?_
  refine lv_iload_n hx hb dJ7_fill_53178_6 rfl (lv_at hl 1 rfl) ?_
  refine lv_icmp_ge (tgt := 20) hx hb dJ7_fill_53178_7 (by decide) (fun c9 => absurd c9 (by decide)) (fun _ => ?_)
  refine lv_aload_n hx hb dJ7_fill_53178_10 rfl (lv_at hl 2 rfl) ?_
  refine lv_iload_n hx hb dJ7_fill_53178_11 rfl (lv_at hl 0 rfl) ?_
  refine lv_iload_n hx hb dJ7_fill_53178_12 rfl (lv_at hl 3 rfl) ?_
  refine va_iast hx hb hM.1 hP hD hS 0 0 rfl rfl (nm_vin (by decide)) dJ7_fill_53178_13 (fun H locs hP hD hS => ?_)
  have hP : va_P D nm_cl [(a0, .inl (cI, 64, .inl (upd f150 (Int32.toNatClampNeg 50) 0)))] H := hP
  have hD : va_D A [(a0, .inl (cI, 64, .inl (upd f150 (Int32.toNatClampNeg 50) 0)))] := hD
  obtain ⟨f151, hf9⟩ : ∃ g : Nat → Int32, g = (upd f150 (Int32.toNatClampNeg 50) 0) := ⟨_, rfl⟩
  rw [← hf9] at hP hD
  refine lv_iinc (v := 51) (lv' := [(2, .int 51), (3, .int 64), (0, .ref a0), (1, .int 0)]) hx hb dJ7_fill_53178_14 hl (k := 0) rfl (by decide) (by decide) rfl (fun ls hl => ?_)
  refine lv_goto (tgt := 5) hx hb dJ7_fill_53178_17 (by decide) ?_
  refine lv_iload_n hx hb dJ7_fill_53178_5 rfl (lv_at hl 0 rfl) ?_
  refine lv_iload_n hx hb dJ7_fill_53178_6 rfl (lv_at hl 1 rfl) ?_
  refine lv_icmp_ge (tgt := 20) hx hb dJ7_fill_53178_7 (by decide) (fun c9 => absurd c9 (by decide)) (fun _ => ?_)
  refine lv_aload_n hx hb dJ7_fill_53178_10 rfl (lv_at hl 2 rfl) ?_
  refine lv_iload_n hx hb dJ7_fill_53178_11 rfl (lv_at hl 0 rfl) ?_
  refine lv_iload_n hx hb dJ7_fill_53178_12 rfl (lv_at hl 3 rfl) ?_
  refine va_iast hx hb hM.1 hP hD hS 0 0 rfl rfl (nm_vin (by decide)) dJ7_fill_53178_13 (fun H locs hP hD hS => ?_)
  have hP : va_P D nm_cl [(a0, .inl (cI, 64, .inl (upd f151 (Int32.toNatClampNeg 51) 0)))] H := hP
  have hD : va_D A [(a0, .inl (cI, 64, .inl (upd f151 (Int32.toNatClampNeg 51) 0)))] := hD
  obtain ⟨f152, hf9⟩ : ∃ g : Nat → Int32, g = (upd f151 (Int32.toNatClampNeg 51) 0) := ⟨_, rfl⟩
  rw [← hf9] at hP hD
  refine lv_iinc (v := 52) (lv' := [(2, .int 52), (3, .int 64), (0, .ref a0), (1, .int 0)]) hx hb dJ7_fill_53178_14 hl (k := 0) rfl (by decide) (by decide) rfl (fun ls hl => ?_)
  refine lv_goto (tgt := 5) hx hb dJ7_fill_53178_17 (by decide) ?_
  refine lv_iload_n hx hb dJ7_fill_53178_5 rfl (lv_at hl 0 rfl) ?_
  refine lv_iload_n hx hb dJ7_fill_53178_6 rfl (lv_at hl 1 rfl) ?_
  refine lv_icmp_ge (tgt := 20) hx hb dJ7_fill_53178_7 (by decide) (fun c9 => absurd c9 (by decide)) (fun _ => ?_)
  refine lv_aload_n hx hb dJ7_fill_53178_10 rfl (lv_at hl 2 rfl) ?_
  refine lv_iload_n hx hb dJ7_fill_53178_11 rfl (lv_at hl 0 rfl) ?_
  refine lv_iload_n hx hb dJ7_fill_53178_12 rfl (lv_at hl 3 rfl) ?_
  refine va_iast hx hb hM.1 hP hD hS 0 0 rfl rfl (nm_vin (by decide)) dJ7_fill_53178_13 (fun H locs hP hD hS => ?_)
  have hP : va_P D nm_cl [(a0, .inl (cI, 64, .inl (upd f152 (Int32.toNatClampNeg 52) 0)))] H := hP
  have hD : va_D A [(a0, .inl (cI, 64, .inl (upd f152 (Int32.toNatClampNeg 52) 0)))] := hD
  obtain ⟨f153, hf9⟩ : ∃ g : Nat → Int32, g = (upd f152 (Int32.toNatClampNeg 52) 0) := ⟨_, rfl⟩
  rw [← hf9] at hP hD
  refine lv_iinc (v := 53) (lv' := [(2, .int 53), (3, .int 64), (0, .ref a0), (1, .int 0)]) hx hb dJ7_fill_53178_14 hl (k := 0) rfl (by decide) (by decide) rfl (fun ls hl => ?_)
  refine lv_goto (tgt := 5) hx hb dJ7_fill_53178_17 (by decide) ?_
  refine lv_iload_n hx hb dJ7_fill_53178_5 rfl (lv_at hl 0 rfl) ?_
  refine lv_iload_n hx hb dJ7_fill_53178_6 rfl (lv_at hl 1 rfl) ?_
  refine lv_icmp_ge (tgt := 20) hx hb dJ7_fill_53178_7 (by decide) (fun c9 => absurd c9 (by decide)) (fun _ => ?_)
  refine lv_aload_n hx hb dJ7_fill_53178_10 rfl (lv_at hl 2 rfl) ?_
  refine lv_iload_n hx hb dJ7_fill_53178_11 rfl (lv_at hl 0 rfl) ?_
  refine lv_iload_n hx hb dJ7_fill_53178_12 rfl (lv_at hl 3 rfl) ?_
  refine va_iast hx hb hM.1 hP hD hS 0 0 rfl rfl (nm_vin (by decide)) dJ7_fill_53178_13 (fun H locs hP hD hS => ?_)
  have hP : va_P D nm_cl [(a0, .inl (cI, 64, .inl (upd f153 (Int32.toNatClampNeg 53) 0)))] H := hP
  have hD : va_D A [(a0, .inl (cI, 64, .inl (upd f153 (Int32.toNatClampNeg 53) 0)))] := hD
  obtain ⟨f154, hf9⟩ : ∃ g : Nat → Int32, g = (upd f153 (Int32.toNatClampNeg 53) 0) := ⟨_, rfl⟩
  rw [← hf9] at hP hD
  refine lv_iinc (v := 54) (lv' := [(2, .int 54), (3, .int 64), (0, .ref a0), (1, .int 0)]) hx hb dJ7_fill_53178_14 hl (k := 0) rfl (by decide) (by decide) rfl (fun ls hl => ?_)
  refine lv_goto (tgt := 5) hx hb dJ7_fill_53178_17 (by decide) ?_
  refine lv_iload_n hx hb dJ7_fill_53178_5 rfl (lv_at hl 0 rfl) ?_
  refine lv_iload_n hx hb dJ7_fill_53178_6 rfl (lv_at hl 1 rfl) ?_
  refine lv_icmp_ge (tgt := 20) hx hb dJ7_fill_53178_7 (by decide) (fun c9 => absurd c9 (by decide)) (fun _ => ?_)
  refine lv_aload_n hx hb dJ7_fill_53178_10 rfl (lv_at hl 2 rfl) ?_
  refine lv_iload_n hx hb dJ7_fill_53178_11 rfl (lv_at hl 0 rfl) ?_
  refine lv_iload_n hx hb dJ7_fill_53178_12 rfl (lv_at hl 3 rfl) ?_
  refine va_iast hx hb hM.1 hP hD hS 0 0 rfl rfl (nm_vin (by decide)) dJ7_fill_53178_13 (fun H locs hP hD hS => ?_)
  have hP : va_P D nm_cl [(a0, .inl (cI, 64, .inl (upd f154 (Int32.toNatClampNeg 54) 0)))] H := hP
  have hD : va_D A [(a0, .inl (cI, 64, .inl (upd f154 (Int32.toNatClampNeg 54) 0)))] := hD
  obtain ⟨f155, hf9⟩ : ∃ g : Nat → Int32, g = (upd f154 (Int32.toNatClampNeg 54) 0) := ⟨_, rfl⟩
  rw [← hf9] at hP hD
  refine lv_iinc (v := 55) (lv' := [(2, .int 55), (3, .int 64), (0, .ref a0), (1, .int 0)]) hx hb dJ7_fill_53178_14 hl (k := 0) rfl (by decide) (by decide) rfl (fun ls hl => ?_)
  refine lv_goto (tgt := 5) hx hb dJ7_fill_53178_17 (by decide) ?_
  refine lv_iload_n hx hb dJ7_fill_53178_5 rfl (lv_at hl 0 rfl) ?_
  refine lv_iload_n hx hb dJ7_fill_53178_6 rfl (lv_at hl 1 rfl) ?_
  refine lv_icmp_ge (tgt := 20) hx hb dJ7_fill_53178_7 (by decide) (fun c9 => absurd c9 (by decide)) (fun _ => ?_)
  refine lv_aload_n hx hb dJ7_fill_53178_10 rfl (lv_at hl 2 rfl) ?_
  refine lv_iload_n hx hb dJ7_fill_53178_11 rfl (lv_at hl 0 rfl) ?_
  refine lv_iload_n hx hb dJ7_fill_53178_12 rfl (lv_at hl 3 rfl) ?_
  refine va_iast hx hb hM.1 hP hD hS 0 0 rfl rfl (nm_vin (by decide)) dJ7_fill_53178_13 (fun H locs hP hD hS => ?_)
  have hP : va_P D nm_cl [(a0, .inl (cI, 64, .inl (upd f155 (Int32.toNatClampNeg 55) 0)))] H := hP
  have hD : va_D A [(a0, .inl (cI, 64, .inl (upd f155 (Int32.toNatClampNeg 55) 0)))] := hD
  obtain ⟨f156, hf9⟩ : ∃ g : Nat → Int32, g = (upd f155 (Int32.toNatClampNeg 55) 0) := ⟨_, rfl⟩
  rw [← hf9] at hP hD
  refine lv_iinc (v := 56) (lv' := [(2, .int 56), (3, .int 64), (0, .ref a0), (1, .int 0)]) hx hb dJ7_fill_53178_14 hl (k := 0) rfl (by decide) (by decide) rfl (fun ls hl => ?_)
  refine lv_goto (tgt := 5) hx hb dJ7_fill_53178_17 (by decide) ?_
  refine lv_iload_n hx hb dJ7_fill_53178_5 rfl (lv_at hl 0 rfl) ?_
  refine lv_iload_n hx hb dJ7_fill_53178_6 rfl (lv_at hl 1 rfl) ?_
  refine lv_icmp_ge (tgt := 20) hx hb dJ7_fill_53178_7 (by decide) (fun c9 => absurd c9 (by decide)) (fun _ => ?_)
  refine lv_aload_n hx hb dJ7_fill_53178_10 rfl (lv_at hl 2 rfl) ?_
  refine lv_iload_n hx hb dJ7_fill_53178_11 rfl (lv_at hl 0 rfl) ?_
  refine lv_iload_n hx hb dJ7_fill_53178_12 rfl (lv_at hl 3 rfl) ?_
  refine va_iast hx hb hM.1 hP hD hS 0 0 rfl rfl (nm_vin (by decide)) dJ7_fill_53178_13 (fun H locs hP hD hS => ?_)
  have hP : va_P D nm_cl [(a0, .inl (cI, 64, .inl (upd f156 (Int32.toNatClampNeg 56) 0)))] H := hP
  have hD : va_D A [(a0, .inl (cI, 64, .inl (upd f156 (Int32.toNatClampNeg 56) 0)))] := hD
  obtain ⟨f157, hf9⟩ : ∃ g : Nat → Int32, g = (upd f156 (Int32.toNatClampNeg 56) 0) := ⟨_, rfl⟩
  rw [← hf9] at hP hD
  refine lv_iinc (v := 57) (lv' := [(2, .int 57), (3, .int 64), (0, .ref a0), (1, .int 0)]) hx hb dJ7_fill_53178_14 hl (k := 0) rfl (by decide) (by decide) rfl (fun ls hl => ?_)
  refine lv_goto (tgt := 5) hx hb dJ7_fill_53178_17 (by decide) ?_
  refine lv_iload_n hx hb dJ7_fill_53178_5 rfl (lv_at hl 0 rfl) ?_
  refine lv_iload_n hx hb dJ7_fill_53178_6 rfl (lv_at hl 1 rfl) ?_
  refine lv_icmp_ge (tgt := 20) hx hb dJ7_fill_53178_7 (by decide) (fun c9 => absurd c9 (by decide)) (fun _ => ?_)
  refine lv_aload_n hx hb dJ7_fill_53178_10 rfl (lv_at hl 2 rfl) ?_
  refine lv_iload_n hx hb dJ7_fill_53178_11 rfl (lv_at hl 0 rfl) ?_
  refine lv_iload_n hx hb dJ7_fill_53178_12 rfl (lv_at hl 3 rfl) ?_
  refine va_iast hx hb hM.1 hP hD hS 0 0 rfl rfl (nm_vin (by decide)) dJ7_fill_53178_13 (fun H locs hP hD hS => ?_)
  have hP : va_P D nm_cl [(a0, .inl (cI, 64, .inl (upd f157 (Int32.toNatClampNeg 57) 0)))] H := hP
  have hD : va_D A [(a0, .inl (cI, 64, .inl (upd f157 (Int32.toNatClampNeg 57) 0)))] := hD
  obtain ⟨f158, hf9⟩ : ∃ g : Nat → Int32, g = (upd f157 (Int32.toNatClampNeg 57) 0) := ⟨_, rfl⟩
  rw [← hf9] at hP hD
  refine lv_iinc (v := 58) (lv' := [(2, .int 58), (3, .int 64), (0, .ref a0), (1, .int 0)]) hx hb dJ7_fill_53178_14 hl (k := 0) rfl (by decide) (by decide) rfl (fun ls hl => ?_)
  refine lv_goto (tgt := 5) hx hb dJ7_fill_53178_17 (by decide) ?_
  refine lv_iload_n hx hb dJ7_fill_53178_5 rfl (lv_at hl 0 rfl) ?_
  refine lv_iload_n hx hb dJ7_fill_53178_6 rfl (lv_at hl 1 rfl) ?_
  refine lv_icmp_ge (tgt := 20) hx hb dJ7_fill_53178_7 (by decide) (fun c9 => absurd c9 (by decide)) (fun _ => ?_)
  refine lv_aload_n hx hb dJ7_fill_53178_10 rfl (lv_at hl 2 rfl) ?_
  refine lv_iload_n hx hb dJ7_fill_53178_11 rfl (lv_at hl 0 rfl) ?_
  refine lv_iload_n hx hb dJ7_fill_53178_12 rfl (lv_at hl 3 rfl) ?_
  refine va_iast hx hb hM.1 hP hD hS 0 0 rfl rfl (nm_vin (by decide)) dJ7_fill_53178_13 (fun H locs hP hD hS => ?_)
  have hP : va_P D nm_cl [(a0, .inl (cI, 64, .inl (upd f158 (Int32.toNatClampNeg 58) 0)))] H := hP
  have hD : va_D A [(a0, .inl (cI, 64, .inl (upd f158 (Int32.toNatClampNeg 58) 0)))] := hD
  obtain ⟨f159, hf9⟩ : ∃ g : Nat → Int32, g = (upd f158 (Int32.toNatClampNeg 58) 0) := ⟨_, rfl⟩
  rw [← hf9] at hP hD
  refine lv_iinc (v := 59) (lv' := [(2, .int 59), (3, .int 64), (0, .ref a0), (1, .int 0)]) hx hb dJ7_fill_53178_14 hl (k := 0) rfl (by decide) (by decide) rfl (fun ls hl => ?_)
  refine lv_goto (tgt := 5) hx hb dJ7_fill_53178_17 (by decide) ?_
  refine lv_iload_n hx hb dJ7_fill_53178_5 rfl (lv_at hl 0 rfl) ?_
  refine lv_iload_n hx hb dJ7_fill_53178_6 rfl (lv_at hl 1 rfl) ?_
  refine lv_icmp_ge (tgt := 20) hx hb dJ7_fill_53178_7 (by decide) (fun c9 => absurd c9 (by decide)) (fun _ => ?_)
  refine lv_aload_n hx hb dJ7_fill_53178_10 rfl (lv_at hl 2 rfl) ?_
  refine lv_iload_n hx hb dJ7_fill_53178_11 rfl (lv_at hl 0 rfl) ?_
  refine lv_iload_n hx hb dJ7_fill_53178_12 rfl (lv_at hl 3 rfl) ?_
  refine va_iast hx hb hM.1 hP hD hS 0 0 rfl rfl (nm_vin (by decide)) dJ7_fill_53178_13 (fun H locs hP hD hS => ?_)
  have hP : va_P D nm_cl [(a0, .inl (cI, 64, .inl (upd f159 (Int32.toNatClampNeg 59) 0)))] H := hP
  have hD : va_D A [(a0, .inl (cI, 64, .inl (upd f159 (Int32.toNatClampNeg 59) 0)))] := hD
  obtain ⟨f160, hf9⟩ : ∃ g : Nat → Int32, g = (upd f159 (Int32.toNatClampNeg 59) 0) := ⟨_, rfl⟩
  rw [← hf9] at hP hD
  refine lv_iinc (v := 60) (lv' := [(2, .int 60), (3, .int 64), (0, .ref a0), (1, .int 0)]) hx hb dJ7_fill_53178_14 hl (k := 0) rfl (by decide) (by decide) rfl (fun ls hl => ?_)
  refine lv_goto (tgt := 5) hx hb dJ7_fill_53178_17 (by decide) ?_
  refine lv_iload_n hx hb dJ7_fill_53178_5 rfl (lv_at hl 0 rfl) ?_
  refine lv_iload_n hx hb dJ7_fill_53178_6 rfl (lv_at hl 1 rfl) ?_
  refine lv_icmp_ge (tgt := 20) hx hb dJ7_fill_53178_7 (by decide) (fun c9 => absurd c9 (by decide)) (fun _ => ?_)
  refine lv_aload_n hx hb dJ7_fill_53178_10 rfl (lv_at hl 2 rfl) ?_
  refine lv_iload_n hx hb dJ7_fill_53178_11 rfl (lv_at hl 0 rfl) ?_
  refine lv_iload_n hx hb dJ7_fill_53178_12 rfl (lv_at hl 3 rfl) ?_
  refine va_iast hx hb hM.1 hP hD hS 0 0 rfl rfl (nm_vin (by decide)) dJ7_fill_53178_13 (fun H locs hP hD hS => ?_)
  have hP : va_P D nm_cl [(a0, .inl (cI, 64, .inl (upd f160 (Int32.toNatClampNeg 60) 0)))] H := hP
  have hD : va_D A [(a0, .inl (cI, 64, .inl (upd f160 (Int32.toNatClampNeg 60) 0)))] := hD
  obtain ⟨f161, hf9⟩ : ∃ g : Nat → Int32, g = (upd f160 (Int32.toNatClampNeg 60) 0) := ⟨_, rfl⟩
  rw [← hf9] at hP hD
  refine lv_iinc (v := 61) (lv' := [(2, .int 61), (3, .int 64), (0, .ref a0), (1, .int 0)]) hx hb dJ7_fill_53178_14 hl (k := 0) rfl (by decide) (by decide) rfl (fun ls hl => ?_)
  refine lv_goto (tgt := 5) hx hb dJ7_fill_53178_17 (by decide) ?_
  refine lv_iload_n hx hb dJ7_fill_53178_5 rfl (lv_at hl 0 rfl) ?_
  refine lv_iload_n hx hb dJ7_fill_53178_6 rfl (lv_at hl 1 rfl) ?_
  refine lv_icmp_ge (tgt := 20) hx hb dJ7_fill_53178_7 (by decide) (fun c9 => absurd c9 (by decide)) (fun _ => ?_)
  refine lv_aload_n hx hb dJ7_fill_53178_10 rfl (lv_at hl 2 rfl) ?_
  refine lv_iload_n hx hb dJ7_fill_53178_11 rfl (lv_at hl 0 rfl) ?_
  refine lv_iload_n hx hb dJ7_fill_53178_12 rfl (lv_at hl 3 rfl) ?_
  refine va_iast hx hb hM.1 hP hD hS 0 0 rfl rfl (nm_vin (by decide)) dJ7_fill_53178_13 (fun H locs hP hD hS => ?_)
  have hP : va_P D nm_cl [(a0, .inl (cI, 64, .inl (upd f161 (Int32.toNatClampNeg 61) 0)))] H := hP
  have hD : va_D A [(a0, .inl (cI, 64, .inl (upd f161 (Int32.toNatClampNeg 61) 0)))] := hD
  obtain ⟨f162, hf9⟩ : ∃ g : Nat → Int32, g = (upd f161 (Int32.toNatClampNeg 61) 0) := ⟨_, rfl⟩
  rw [← hf9] at hP hD
  refine lv_iinc (v := 62) (lv' := [(2, .int 62), (3, .int 64), (0, .ref a0), (1, .int 0)]) hx hb dJ7_fill_53178_14 hl (k := 0) rfl (by decide) (by decide) rfl (fun ls hl => ?_)
  refine lv_goto (tgt := 5) hx hb dJ7_fill_53178_17 (by decide) ?_
  refine lv_iload_n hx hb dJ7_fill_53178_5 rfl (lv_at hl 0 rfl) ?_
  refine lv_iload_n hx hb dJ7_fill_53178_6 rfl (lv_at hl 1 rfl) ?_
  refine lv_icmp_ge (tgt := 20) hx hb dJ7_fill_53178_7 (by decide) (fun c9 => absurd c9 (by decide)) (fun _ => ?_)
  refine lv_aload_n hx hb dJ7_fill_53178_10 rfl (lv_at hl 2 rfl) ?_
  refine lv_iload_n hx hb dJ7_fill_53178_11 rfl (lv_at hl 0 rfl) ?_
  refine lv_iload_n hx hb dJ7_fill_53178_12 rfl (lv_at hl 3 rfl) ?_
  refine va_iast hx hb hM.1 hP hD hS 0 0 rfl rfl (nm_vin (by decide)) dJ7_fill_53178_13 (fun H locs hP hD hS => ?_)
  have hP : va_P D nm_cl [(a0, .inl (cI, 64, .inl (upd f162 (Int32.toNatClampNeg 62) 0)))] H := hP
  have hD : va_D A [(a0, .inl (cI, 64, .inl (upd f162 (Int32.toNatClampNeg 62) 0)))] := hD
  obtain ⟨f163, hf9⟩ : ∃ g : Nat → Int32, g = (upd f162 (Int32.toNatClampNeg 62) 0) := ⟨_, rfl⟩
  rw [← hf9] at hP hD
  refine lv_iinc (v := 63) (lv' := [(2, .int 63), (3, .int 64), (0, .ref a0), (1, .int 0)]) hx hb dJ7_fill_53178_14 hl (k := 0) rfl (by decide) (by decide) rfl (fun ls hl => ?_)
  refine lv_goto (tgt := 5) hx hb dJ7_fill_53178_17 (by decide) ?_
  refine lv_iload_n hx hb dJ7_fill_53178_5 rfl (lv_at hl 0 rfl) ?_
  refine lv_iload_n hx hb dJ7_fill_53178_6 rfl (lv_at hl 1 rfl) ?_
  refine lv_icmp_ge (tgt := 20) hx hb dJ7_fill_53178_7 (by decide) (fun c9 => absurd c9 (by decide)) (fun _ => ?_)
  refine lv_aload_n hx hb dJ7_fill_53178_10 rfl (lv_at hl 2 rfl) ?_
  refine lv_iload_n hx hb dJ7_fill_53178_11 rfl (lv_at hl 0 rfl) ?_
  refine lv_iload_n hx hb dJ7_fill_53178_12 rfl (lv_at hl 3 rfl) ?_
  refine va_iast hx hb hM.1 hP hD hS 0 0 rfl rfl (nm_vin (by decide)) dJ7_fill_53178_13 (fun H locs hP hD hS => ?_)
  have hP : va_P D nm_cl [(a0, .inl (cI, 64, .inl (upd f163 (Int32.toNatClampNeg 63) 0)))] H := hP
  have hD : va_D A [(a0, .inl (cI, 64, .inl (upd f163 (Int32.toNatClampNeg 63) 0)))] := hD
  obtain ⟨f164, hf9⟩ : ∃ g : Nat → Int32, g = (upd f163 (Int32.toNatClampNeg 63) 0) := ⟨_, rfl⟩
  rw [← hf9] at hP hD
  refine lv_iinc (v := 64) (lv' := [(2, .int 64), (3, .int 64), (0, .ref a0), (1, .int 0)]) hx hb dJ7_fill_53178_14 hl (k := 0) rfl (by decide) (by decide) rfl (fun ls hl => ?_)
  refine lv_goto (tgt := 5) hx hb dJ7_fill_53178_17 (by decide) ?_
  refine lv_iload_n hx hb dJ7_fill_53178_5 rfl (lv_at hl 0 rfl) ?_
  refine lv_iload_n hx hb dJ7_fill_53178_6 rfl (lv_at hl 1 rfl) ?_
  refine lv_icmp_ge (tgt := 20) hx hb dJ7_fill_53178_7 (by decide) (fun _ => ?_) (fun c9 => absurd (by decide) c9)
  have hP9 := hP.sub (ws' := [(a0, .inl (cI, 64, .inl f164))]) [0] rfl
  have hD9 := hD.sub (ws' := [(a0, .inl (cI, 64, .inl f164))]) [0] (by decide) rfl
  exact W.vret hx hb hr (fun t ht hW => ⟨⟨f164, rfl, trivial, by rw [ht]; exact hP9, hD9⟩, hS.F ht⟩) hS.2.2 dJ7_fill_53178_20
