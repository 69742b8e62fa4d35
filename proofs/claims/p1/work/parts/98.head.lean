set_option maxHeartbeats 8000000 in
set_option maxRecDepth 100000 in
theorem lw_head {p : Program} {e : Env} {s : State} {m : MethodId} {below : List Frame} {meth : Method} {c : Code} (l : Launch) (hl0 : l.stackTraces = false) {b L : Nat} {xs : Nat → Int32} (C0 : lw_At p s m meth c b L xs) {A : Nat → Prop} (hAd : A = fun q : Nat => s.heap.size ≤ q) (D : va_G) (cI cB cJ cS : ClassId) (hM : nm_Amb D cI cB cJ cS s) (hTh : nm_Th A s) (hL : L ≤ 6) (q101 : Nat) (q102 : Nat) (q103 : Nat) (q104 : Nat) (q105 : Nat) (q106 : Nat) (q107 : Nat) (q108 : Nat) (q109 : Nat) (q110 : Nat) (q111 : Nat) (q112 : Nat) (q113 : Nat) (q114 : Nat) (q115 : Nat) (q116 : Nat) (g117 : Nat → Option Nat) (q118 : Nat) (q119 : Nat) (q120 : Nat) (q121 : Nat) (q122 : Nat) (q123 : Nat) (q124 : Nat) (q125 : Nat) (q126 : Nat) (q127 : Nat) (q128 : Nat) (q129 : Nat) (q130 : Nat) (q131 : Nat) (q132 : Nat) (q133 : Nat) (q134 : Nat) (q135 : Nat) (q136 : Nat) (q137 : Nat) (q138 : Nat) (q139 : Nat) (q140 : Nat) (q141 : Nat) (q142 : Nat) (q143 : Nat) (q144 : Nat) (q145 : Nat) (q146 : Nat) (q147 : Nat) (q148 : Nat) (q149 : Nat) (q150 : Nat) (q151 : Nat) (q152 : Nat) (q153 : Nat) (q154 : Nat) (q155 : Nat) (q156 : Nat) (q157 : Nat) (q158 : Nat) (q159 : Nat) (q160 : Nat) (q161 : Nat) (q162 : Nat) (q163 : Nat) (q164 : Nat) (q165 : Nat) (q166 : Nat) (q167 : Nat) (q168 : Nat) (q169 : Nat) (q170 : Nat) (q171 : Nat) (q172 : Nat) (q173 : Nat) (q175 : Nat) (q176 : Nat) (q177 : Nat) (q178 : Nat) (q179 : Nat) (q180 : Nat) (q181 : Nat) (q182 : Nat) (q183 : Nat) (q184 : Nat) (q185 : Nat) (q186 : Nat) (q187 : Nat) (q188 : Nat) (q189 : Nat) (q190 : Nat) (q191 : Nat) (q192 : Nat) (q193 : Nat) (q194 : Nat) (q195 : Nat) (q196 : Nat) (q197 : Nat) (q198 : Nat) (q199 : Nat) (q200 : Nat) (q201 : Nat) (q202 : Nat) (q203 : Nat) (q204 : Nat) (q205 : Nat) (q206 : Nat) (q207 : Nat) (q208 : Nat) (q209 : Nat) (h174 : g117 0 = some q171) {H : Heap} {locs : List Loc} (hP : va_P D nm_cl [(q101, .inr (10, [.ref q102, .ref q103, .int 0, .int 0, .int (-1), .ref q104, .ref q105, .ref q106, .ref q107, .ref q108, .ref q109, .ref q110, .ref q111, .ref q112, .ref q113, .ref q114, .ref q115, .int (-1)])), (q102, .inr (0, [.ref q116, .int 0])), (q116, .inl (cB, 16, .inl (fun _ => 0))), (q103, .inl (cS, 10, .inr (.inr (.inr (.inr g117))))), (q104, .inl (cI, 3, .inl (fun _ => 0))), (q105, .inr (5, [.ref q118, .ref q119, .ref q120, .ref q121, .ref q122, .ref q123, .ref q124, .ref q125, .ref q126, .ref q127, .ref q128, .ref q129, .ref q130, .ref q131, .ref q132, .ref q133, .ref q134, .ref q135])), (q118, .inr (1, [.ref q136, .int 0])), (q119, .inr (1, [.ref q137, .int 0])), (q120, .inr (1, [.ref q138, .int 0])), (q121, .inr (1, [.ref q139, .int 0])), (q122, .inr (1, [.ref q140, .int 0])), (q123, .inr (1, [.ref q141, .int 0])), (q124, .inr (1, [.ref q142, .int 0])), (q125, .inl (cI, 64, .inl (fun _ => 0))), (q126, .inr (1, [.ref q143, .int 0])), (q127, .inr (1, [.ref q144, .int 0])), (q128, .inr (1, [.ref q145, .int 0])), (q129, .inr (1, [.ref q146, .int 0])), (q130, .inr (1, [.ref q147, .int 0])), (q132, .inr (1, [.ref q148, .int 0])), (q133, .inr (1, [.ref q149, .int 0])), (q134, .inr (1, [.ref q150, .int 0])), (q135, .inr (0, [.ref q151, .int 0])), (q106, .inr (6, [.ref q105, .ref q152, .ref q153, .int (-1), .int 0])), (q152, .inr (7, [.ref q154, .ref q155, .ref q156, .ref q157, .ref q158, .ref q159])), (q154, .inr (1, [.ref q160, .int 0])), (q155, .inr (1, [.ref q161, .int 0])), (q156, .inr (1, [.ref q162, .int 0])), (q157, .inr (1, [.ref q163, .int 0])), (q158, .inr (1, [.ref q164, .int 0])), (q159, .inr (1, [.ref q165, .int 0])), (q153, .inr (1, [.ref q166, .int 0])), (q108, .inr (2, [.ref q105, .ref q167, .int 0, .int 0, .int 0, .int (-1), .ref q168, .int 0])), (q109, .inr (8, [.ref q105, .ref q169, .int 0, .int 0, .int 0, .int (-1)])), (q113, .inr (0, [.ref q170, .int 0])), (q171, .inr (4, [.ref q172, .ref q173, .int 0])), (q175, .inr (11, [.int 0, .ref q176, .int 0, .ref q177, .ref q178, .ref q179, .ref q180, .int 0, .int 0, .int (-1), .long 0, .long 0, .int 0, .int 0, .ref q181, .ref q182, .ref q183, .ref q184, .ref q185, .ref q186, .ref q187, .ref q188, .ref q189, .ref q190, .ref q191, .ref q192, .ref q193, .ref q194, .null, .int 0, .int 0, .int 0, .int 0, .ref q195, .int 0, .int 0, .int 0, .int 0, .ref q196, .ref q197, .ref q198, .ref q199, .ref q200, .int 0, .int 0, .ref q201, .int 0, .int 0, .ref q202, .ref q203, .ref q204, .int 0, .ref q205, .int 0, .int 0, .int 0, .int 0, .int 0, .ref q206, .ref q207, .int 0, .ref q208])), (q176, .inl (cI, 3, .inl (fun _ => 0))), (q177, .inl (cB, 400, .inl (fun _ => 0))), (q194, .inl (cI, 4096, .inl (fun _ => 0))), (q209, .inl (cJ, 1, .inr (.inl (fun _ => 0))))] H) (hD : va_D A [(q101, .inr (10, [.ref q102, .ref q103, .int 0, .int 0, .int (-1), .ref q104, .ref q105, .ref q106, .ref q107, .ref q108, .ref q109, .ref q110, .ref q111, .ref q112, .ref q113, .ref q114, .ref q115, .int (-1)])), (q102, .inr (0, [.ref q116, .int 0])), (q116, .inl (cB, 16, .inl (fun _ => 0))), (q103, .inl (cS, 10, .inr (.inr (.inr (.inr g117))))), (q104, .inl (cI, 3, .inl (fun _ => 0))), (q105, .inr (5, [.ref q118, .ref q119, .ref q120, .ref q121, .ref q122, .ref q123, .ref q124, .ref q125, .ref q126, .ref q127, .ref q128, .ref q129, .ref q130, .ref q131, .ref q132, .ref q133, .ref q134, .ref q135])), (q118, .inr (1, [.ref q136, .int 0])), (q119, .inr (1, [.ref q137, .int 0])), (q120, .inr (1, [.ref q138, .int 0])), (q121, .inr (1, [.ref q139, .int 0])), (q122, .inr (1, [.ref q140, .int 0])), (q123, .inr (1, [.ref q141, .int 0])), (q124, .inr (1, [.ref q142, .int 0])), (q125, .inl (cI, 64, .inl (fun _ => 0))), (q126, .inr (1, [.ref q143, .int 0])), (q127, .inr (1, [.ref q144, .int 0])), (q128, .inr (1, [.ref q145, .int 0])), (q129, .inr (1, [.ref q146, .int 0])), (q130, .inr (1, [.ref q147, .int 0])), (q132, .inr (1, [.ref q148, .int 0])), (q133, .inr (1, [.ref q149, .int 0])), (q134, .inr (1, [.ref q150, .int 0])), (q135, .inr (0, [.ref q151, .int 0])), (q106, .inr (6, [.ref q105, .ref q152, .ref q153, .int (-1), .int 0])), (q152, .inr (7, [.ref q154, .ref q155, .ref q156, .ref q157, .ref q158, .ref q159])), (q154, .inr (1, [.ref q160, .int 0])), (q155, .inr (1, [.ref q161, .int 0])), (q156, .inr (1, [.ref q162, .int 0])), (q157, .inr (1, [.ref q163, .int 0])), (q158, .inr (1, [.ref q164, .int 0])), (q159, .inr (1, [.ref q165, .int 0])), (q153, .inr (1, [.ref q166, .int 0])), (q108, .inr (2, [.ref q105, .ref q167, .int 0, .int 0, .int 0, .int (-1), .ref q168, .int 0])), (q109, .inr (8, [.ref q105, .ref q169, .int 0, .int 0, .int 0, .int (-1)])), (q113, .inr (0, [.ref q170, .int 0])), (q171, .inr (4, [.ref q172, .ref q173, .int 0])), (q175, .inr (11, [.int 0, .ref q176, .int 0, .ref q177, .ref q178, .ref q179, .ref q180, .int 0, .int 0, .int (-1), .long 0, .long 0, .int 0, .int 0, .ref q181, .ref q182, .ref q183, .ref q184, .ref q185, .ref q186, .ref q187, .ref q188, .ref q189, .ref q190, .ref q191, .ref q192, .ref q193, .ref q194, .null, .int 0, .int 0, .int 0, .int 0, .ref q195, .int 0, .int 0, .int 0, .int 0, .ref q196, .ref q197, .ref q198, .ref q199, .ref q200, .int 0, .int 0, .ref q201, .int 0, .int 0, .ref q202, .ref q203, .ref q204, .int 0, .ref q205, .int 0, .int 0, .int 0, .int 0, .int 0, .ref q206, .ref q207, .int 0, .ref q208])), (q176, .inl (cI, 3, .inl (fun _ => 0))), (q177, .inl (cB, 400, .inl (fun _ => 0))), (q194, .inl (cI, 4096, .inl (fun _ => 0))), (q209, .inl (cJ, 1, .inr (.inl (fun _ => 0))))]) (hS : va_S A s.heap H locs) {ls : Array Slot} (hl : lv_has ls 7 [(4, .int 0), (3, .ref q209), (2, .ref q175), (1, .ref q101), (0, .ref b)]) : W p l e room_1 s m #[Value.ref b] below meth c H locs 196 153229 (lw_Z below #[Value.ref b] s) (F0 m 23 ls []) := by
  rcases (show L = 0 ∨ L = 1 ∨ L = 2 ∨ L = 3 ∨ L = 4 ∨ L = 5 ∨ L = 6 by omega) with rfl | rfl | rfl | rfl | rfl | rfl | rfl
  · obtain ⟨hx, hb, hr, hml, hown, hts0, hX, hbl, hlocks, hgv⟩ := id C0
    have hown : s.vm.findClass RL = some m.cls := hown
    have hb : c.code = cL_law := hb
    have hts : ∀ w ∈ nm_big, w.before #[Value.ref b] s = true := fun w hw => hts0 w (List.mem_filter.mp hw).1
    have hA : ∀ q : Nat, s.heap.size ≤ q → A q := fun q h => by rw [hAd]; exact h
    have hbA : ¬ A b := by rw [hAd]; exact Nat.not_le.mpr hbl
    refine lv_iload hx hb dL_law_23 (lv_at hl 0 rfl) ?_
    refine lv_aload_n hx hb dL_law_25 rfl (lv_at hl 4 rfl) ?_
    refine va_slen hx hb hX hbl hbA hS dL_law_26 ?_
    refine lv_topi (fun z101 e9 => ?_)
    have e8 : (0 : Int32) = z101 := (e9.trans (by decide)).symm
    subst e8
    refine lv_bipush (v := 6) hx hb dL_law_27 (by decide) ?_
    refine lv_isub hx hb dL_law_29 ?_
    refine lv_topi (fun z102 e9 => ?_)
    obtain rfl : z102 = (-6 : Int32) := e9.trans (by decide)
    refine lv_icmp_gt (tgt := 1492) hx hb dL_law_30 (by decide) (fun _ => ?_) (fun c9 => absurd (by decide) c9)
    refine lv_iconst (v := 1) hx hb dL_law_1492 (by decide) ?_
    refine va_forget (fun q hq => by have h9 := hS.2.2 q hq; rw [hAd] at h9; exact h9) ?_
    refine W.widen (k := 600002) (n := 7302232) (Nat.le_of_ble_eq_true rfl) (Nat.le_of_ble_eq_true rfl) ?_
    exact lw_ret hx hb hr hlocks dL_law_1493
  · obtain ⟨hx, hb, hr, hml, hown, hts0, hX, hbl, hlocks, hgv⟩ := id C0
    have hown : s.vm.findClass RL = some m.cls := hown
    have hb : c.code = cL_law := hb
    have hts : ∀ w ∈ nm_big, w.before #[Value.ref b] s = true := fun w hw => hts0 w (List.mem_filter.mp hw).1
    have hA : ∀ q : Nat, s.heap.size ≤ q → A q := fun q h => by rw [hAd]; exact h
    have hbA : ¬ A b := by rw [hAd]; exact Nat.not_le.mpr hbl
    refine lv_iload hx hb dL_law_23 (lv_at hl 0 rfl) ?_
    refine lv_aload_n hx hb dL_law_25 rfl (lv_at hl 4 rfl) ?_
    refine va_slen hx hb hX hbl hbA hS dL_law_26 ?_
    refine lv_topi (fun z101 e9 => ?_)
    have e8 : (1 : Int32) = z101 := (e9.trans (by decide)).symm
    subst e8
    refine lv_bipush (v := 6) hx hb dL_law_27 (by decide) ?_
    refine lv_isub hx hb dL_law_29 ?_
    refine lv_topi (fun z102 e9 => ?_)
    obtain rfl : z102 = (-5 : Int32) := e9.trans (by decide)
    refine lv_icmp_gt (tgt := 1492) hx hb dL_law_30 (by decide) (fun _ => ?_) (fun c9 => absurd (by decide) c9)
    refine lv_iconst (v := 1) hx hb dL_law_1492 (by decide) ?_
    refine va_forget (fun q hq => by have h9 := hS.2.2 q hq; rw [hAd] at h9; exact h9) ?_
    refine W.widen (k := 600002) (n := 7302232) (Nat.le_of_ble_eq_true rfl) (Nat.le_of_ble_eq_true rfl) ?_
    exact lw_ret hx hb hr hlocks dL_law_1493
  · obtain ⟨hx, hb, hr, hml, hown, hts0, hX, hbl, hlocks, hgv⟩ := id C0
    have hown : s.vm.findClass RL = some m.cls := hown
    have hb : c.code = cL_law := hb
    have hts : ∀ w ∈ nm_big, w.before #[Value.ref b] s = true := fun w hw => hts0 w (List.mem_filter.mp hw).1
    have hA : ∀ q : Nat, s.heap.size ≤ q → A q := fun q h => by rw [hAd]; exact h
    have hbA : ¬ A b := by rw [hAd]; exact Nat.not_le.mpr hbl
    refine lv_iload hx hb dL_law_23 (lv_at hl 0 rfl) ?_
    refine lv_aload_n hx hb dL_law_25 rfl (lv_at hl 4 rfl) ?_
    refine va_slen hx hb hX hbl hbA hS dL_law_26 ?_
    refine lv_topi (fun z101 e9 => ?_)
    have e8 : (2 : Int32) = z101 := (e9.trans (by decide)).symm
    subst e8
    refine lv_bipush (v := 6) hx hb dL_law_27 (by decide) ?_
    refine lv_isub hx hb dL_law_29 ?_
    refine lv_topi (fun z102 e9 => ?_)
    obtain rfl : z102 = (-4 : Int32) := e9.trans (by decide)
    refine lv_icmp_gt (tgt := 1492) hx hb dL_law_30 (by decide) (fun _ => ?_) (fun c9 => absurd (by decide) c9)
    refine lv_iconst (v := 1) hx hb dL_law_1492 (by decide) ?_
    refine va_forget (fun q hq => by have h9 := hS.2.2 q hq; rw [hAd] at h9; exact h9) ?_
    refine W.widen (k := 600002) (n := 7302232) (Nat.le_of_ble_eq_true rfl) (Nat.le_of_ble_eq_true rfl) ?_
    exact lw_ret hx hb hr hlocks dL_law_1493
  · obtain ⟨hx, hb, hr, hml, hown, hts0, hX, hbl, hlocks, hgv⟩ := id C0
    have hown : s.vm.findClass RL = some m.cls := hown
    have hb : c.code = cL_law := hb
    have hts : ∀ w ∈ nm_big, w.before #[Value.ref b] s = true := fun w hw => hts0 w (List.mem_filter.mp hw).1
    have hA : ∀ q : Nat, s.heap.size ≤ q → A q := fun q h => by rw [hAd]; exact h
    have hbA : ¬ A b := by rw [hAd]; exact Nat.not_le.mpr hbl
    refine lv_iload hx hb dL_law_23 (lv_at hl 0 rfl) ?_
    refine lv_aload_n hx hb dL_law_25 rfl (lv_at hl 4 rfl) ?_
    refine va_slen hx hb hX hbl hbA hS dL_law_26 ?_
    refine lv_topi (fun z101 e9 => ?_)
    have e8 : (3 : Int32) = z101 := (e9.trans (by decide)).symm
    subst e8
    refine lv_bipush (v := 6) hx hb dL_law_27 (by decide) ?_
    refine lv_isub hx hb dL_law_29 ?_
    refine lv_topi (fun z102 e9 => ?_)
    obtain rfl : z102 = (-3 : Int32) := e9.trans (by decide)
    refine lv_icmp_gt (tgt := 1492) hx hb dL_law_30 (by decide) (fun _ => ?_) (fun c9 => absurd (by decide) c9)
    refine lv_iconst (v := 1) hx hb dL_law_1492 (by decide) ?_
    refine va_forget (fun q hq => by have h9 := hS.2.2 q hq; rw [hAd] at h9; exact h9) ?_
    refine W.widen (k := 600002) (n := 7302232) (Nat.le_of_ble_eq_true rfl) (Nat.le_of_ble_eq_true rfl) ?_
    exact lw_ret hx hb hr hlocks dL_law_1493
  · obtain ⟨hx, hb, hr, hml, hown, hts0, hX, hbl, hlocks, hgv⟩ := id C0
    have hown : s.vm.findClass RL = some m.cls := hown
    have hb : c.code = cL_law := hb
    have hts : ∀ w ∈ nm_big, w.before #[Value.ref b] s = true := fun w hw => hts0 w (List.mem_filter.mp hw).1
    have hA : ∀ q : Nat, s.heap.size ≤ q → A q := fun q h => by rw [hAd]; exact h
    have hbA : ¬ A b := by rw [hAd]; exact Nat.not_le.mpr hbl
    refine lv_iload hx hb dL_law_23 (lv_at hl 0 rfl) ?_
    refine lv_aload_n hx hb dL_law_25 rfl (lv_at hl 4 rfl) ?_
    refine va_slen hx hb hX hbl hbA hS dL_law_26 ?_
    refine lv_topi (fun z101 e9 => ?_)
    have e8 : (4 : Int32) = z101 := (e9.trans (by decide)).symm
    subst e8
    refine lv_bipush (v := 6) hx hb dL_law_27 (by decide) ?_
    refine lv_isub hx hb dL_law_29 ?_
    refine lv_topi (fun z102 e9 => ?_)
    obtain rfl : z102 = (-2 : Int32) := e9.trans (by decide)
    refine lv_icmp_gt (tgt := 1492) hx hb dL_law_30 (by decide) (fun _ => ?_) (fun c9 => absurd (by decide) c9)
    refine lv_iconst (v := 1) hx hb dL_law_1492 (by decide) ?_
    refine va_forget (fun q hq => by have h9 := hS.2.2 q hq; rw [hAd] at h9; exact h9) ?_
    refine W.widen (k := 600002) (n := 7302232) (Nat.le_of_ble_eq_true rfl) (Nat.le_of_ble_eq_true rfl) ?_
    exact lw_ret hx hb hr hlocks dL_law_1493
  · obtain ⟨hx, hb, hr, hml, hown, hts0, hX, hbl, hlocks, hgv⟩ := id C0
    have hown : s.vm.findClass RL = some m.cls := hown
    have hb : c.code = cL_law := hb
    have hts : ∀ w ∈ nm_big, w.before #[Value.ref b] s = true := fun w hw => hts0 w (List.mem_filter.mp hw).1
    have hA : ∀ q : Nat, s.heap.size ≤ q → A q := fun q h => by rw [hAd]; exact h
    have hbA : ¬ A b := by rw [hAd]; exact Nat.not_le.mpr hbl
    refine lv_iload hx hb dL_law_23 (lv_at hl 0 rfl) ?_
    refine lv_aload_n hx hb dL_law_25 rfl (lv_at hl 4 rfl) ?_
    refine va_slen hx hb hX hbl hbA hS dL_law_26 ?_
    refine lv_topi (fun z101 e9 => ?_)
    have e8 : (5 : Int32) = z101 := (e9.trans (by decide)).symm
    subst e8
    refine lv_bipush (v := 6) hx hb dL_law_27 (by decide) ?_
    refine lv_isub hx hb dL_law_29 ?_
    refine lv_topi (fun z102 e9 => ?_)
    obtain rfl : z102 = (-1 : Int32) := e9.trans (by decide)
    refine lv_icmp_gt (tgt := 1492) hx hb dL_law_30 (by decide) (fun _ => ?_) (fun c9 => absurd (by decide) c9)
    refine lv_iconst (v := 1) hx hb dL_law_1492 (by decide) ?_
    refine va_forget (fun q hq => by have h9 := hS.2.2 q hq; rw [hAd] at h9; exact h9) ?_
    refine W.widen (k := 600002) (n := 7302232) (Nat.le_of_ble_eq_true rfl) (Nat.le_of_ble_eq_true rfl) ?_
    exact lw_ret hx hb hr hlocks dL_law_1493
  · obtain ⟨hx, hb, hr, hml, hown, hts0, hX, hbl, hlocks, hgv⟩ := id C0
    have hown : s.vm.findClass RL = some m.cls := hown
    have hb : c.code = cL_law := hb
    have hts : ∀ w ∈ nm_big, w.before #[Value.ref b] s = true := fun w hw => hts0 w (List.mem_filter.mp hw).1
    have hA : ∀ q : Nat, s.heap.size ≤ q → A q := fun q h => by rw [hAd]; exact h
    have hbA : ¬ A b := by rw [hAd]; exact Nat.not_le.mpr hbl
    obtain ⟨p0, hp0⟩ : ∃ z, xs 0 = z := ⟨_, rfl⟩
    refine lv_iload hx hb dL_law_23 (lv_at hl 0 rfl) ?_
    refine lv_aload_n hx hb dL_law_25 rfl (lv_at hl 4 rfl) ?_
    refine va_slen hx hb hX hbl hbA hS dL_law_26 ?_
    refine lv_topi (fun z101 e9 => ?_)
    have e8 : (6 : Int32) = z101 := (e9.trans (by decide)).symm
    subst e8
    refine lv_bipush (v := 6) hx hb dL_law_27 (by decide) ?_
    refine lv_isub hx hb dL_law_29 ?_
    refine lv_topi (fun z102 e9 => ?_)
    obtain rfl : z102 = (0 : Int32) := e9.trans (by decide)
    refine lv_icmp_gt (tgt := 1492) hx hb dL_law_30 (by decide) (fun c9 => absurd c9 (by decide)) (fun _ => ?_)
    refine lv_aload_n hx hb dL_law_33 rfl (lv_at hl 4 rfl) ?_
    refine lv_iload hx hb dL_law_34 (lv_at hl 0 rfl) ?_
    refine va_sld hx hb hX hbl hbA hS (nm_vin (by decide)) dL_law_36 ?_
    refine lv_topi (fun z103 e9 => ?_)
    have e8 : (p0 : Int32) = z103 := ((e9.trans (congrArg xs (by decide))).trans hp0).symm
    subst e8
    refine lv_bipush (v := 31) hx hb dL_law_37 (by decide) ?_
    refine lv_iand hx hb dL_law_39 ?_
    refine lv_topi (fun z104 e9 => ?_)
    obtain ⟨k, hk, hm⟩ := nm_mask p0
    have e7 : z104 = nI k := e9.trans hm
    subst e7
    rcases (show k = 0 ∨ k = 1 ∨ k = 2 ∨ k = 3 ∨ k = 4 ∨ k = 5 ∨ k = 6 ∨ k = 7 ∨ k = 8 ∨ k = 9 ∨ k = 10 ∨ k = 11 ∨ k = 12 ∨ k = 13 ∨ k = 14 ∨ k = 15 ∨ k = 16 ∨ k = 17 ∨ k = 18 ∨ k = 19 ∨ k = 20 ∨ k = 21 ∨ k = 22 ∨ k = 23 ∨ k = 24 ∨ k = 25 ∨ k = 26 ∨ k = 27 ∨ k = 28 ∨ k = 29 ∨ k = 30 ∨ k = 31 by omega) with rfl | rfl | rfl | rfl | rfl | rfl | rfl | rfl | rfl | rfl | rfl | rfl | rfl | rfl | rfl | rfl | rfl | rfl | rfl | rfl | rfl | rfl | rfl | rfl | rfl | rfl | rfl | rfl | rfl | rfl | rfl | rfl
    · refine lv_tableIn (x := nI 0) (off := 112) (tgt := 152) hx hb dL_law_40 (by decide) (by decide) (by decide) (by decide) ?_
      exact lw_s_0_0 l hl0 C0 hAd D cI cB cJ cS hM hTh q101 q102 q103 q104 q105 q106 q107 q108 q109 q110 q111 q112 q113 q114 q115 q116 g117 q118 q119 q120 q121 q122 q123 q124 q125 q126 q127 q128 q129 q130 q131 q132 q133 q134 q135 q136 q137 q138 q139 q140 q141 q142 q143 q144 q145 q146 q147 q148 q149 q150 q151 q152 q153 q154 q155 q156 q157 q158 q159 q160 q161 q162 q163 q164 q165 q166 q167 q168 q169 q170 q171 q172 q173 q175 q176 q177 q178 q179 q180 q181 q182 q183 q184 q185 q186 q187 q188 q189 q190 q191 q192 q193 q194 q195 q196 q197 q198 q199 q200 q201 q202 q203 q204 q205 q206 q207 q208 q209 h174 (xs 1) (xs 2) (xs 3) (xs 4) (xs 5) rfl rfl rfl rfl rfl hP hD hS hl
    · refine lv_tableIn (x := nI 1) (off := 185) (tgt := 225) hx hb dL_law_40 (by decide) (by decide) (by decide) (by decide) ?_
      rcases nm_n3 (xs 1) with h | h | h
      · exact lw_s_1_0 l hl0 C0 hAd D cI cB cJ cS hM hTh q101 q102 q103 q104 q105 q106 q107 q108 q109 q110 q111 q112 q113 q114 q115 q116 g117 q118 q119 q120 q121 q122 q123 q124 q125 q126 q127 q128 q129 q130 q131 q132 q133 q134 q135 q136 q137 q138 q139 q140 q141 q142 q143 q144 q145 q146 q147 q148 q149 q150 q151 q152 q153 q154 q155 q156 q157 q158 q159 q160 q161 q162 q163 q164 q165 q166 q167 q168 q169 q170 q171 q172 q173 q175 q176 q177 q178 q179 q180 q181 q182 q183 q184 q185 q186 q187 q188 q189 q190 q191 q192 q193 q194 q195 q196 q197 q198 q199 q200 q201 q202 q203 q204 q205 q206 q207 q208 q209 h174 (xs 1) rfl h hP hD hS hl
      · exact lw_s_1_1 l hl0 C0 hAd D cI cB cJ cS hM hTh q101 q102 q103 q104 q105 q106 q107 q108 q109 q110 q111 q112 q113 q114 q115 q116 g117 q118 q119 q120 q121 q122 q123 q124 q125 q126 q127 q128 q129 q130 q131 q132 q133 q134 q135 q136 q137 q138 q139 q140 q141 q142 q143 q144 q145 q146 q147 q148 q149 q150 q151 q152 q153 q154 q155 q156 q157 q158 q159 q160 q161 q162 q163 q164 q165 q166 q167 q168 q169 q170 q171 q172 q173 q175 q176 q177 q178 q179 q180 q181 q182 q183 q184 q185 q186 q187 q188 q189 q190 q191 q192 q193 q194 q195 q196 q197 q198 q199 q200 q201 q202 q203 q204 q205 q206 q207 q208 q209 h174 h hP hD hS hl
      · exact lw_s_1_2 l hl0 C0 hAd D cI cB cJ cS hM hTh q101 q102 q103 q104 q105 q106 q107 q108 q109 q110 q111 q112 q113 q114 q115 q116 g117 q118 q119 q120 q121 q122 q123 q124 q125 q126 q127 q128 q129 q130 q131 q132 q133 q134 q135 q136 q137 q138 q139 q140 q141 q142 q143 q144 q145 q146 q147 q148 q149 q150 q151 q152 q153 q154 q155 q156 q157 q158 q159 q160 q161 q162 q163 q164 q165 q166 q167 q168 q169 q170 q171 q172 q173 q175 q176 q177 q178 q179 q180 q181 q182 q183 q184 q185 q186 q187 q188 q189 q190 q191 q192 q193 q194 q195 q196 q197 q198 q199 q200 q201 q202 q203 q204 q205 q206 q207 q208 q209 h174 (xs 1) rfl h hP hD hS hl
    · refine lv_tableIn (x := nI 2) (off := 241) (tgt := 281) hx hb dL_law_40 (by decide) (by decide) (by decide) (by decide) ?_
      rcases nm_n3 (xs 1) with h | h | h
      · exact lw_s_2_0 l hl0 C0 hAd D cI cB cJ cS hM hTh q101 q102 q103 q104 q105 q106 q107 q108 q109 q110 q111 q112 q113 q114 q115 q116 g117 q118 q119 q120 q121 q122 q123 q124 q125 q126 q127 q128 q129 q130 q131 q132 q133 q134 q135 q136 q137 q138 q139 q140 q141 q142 q143 q144 q145 q146 q147 q148 q149 q150 q151 q152 q153 q154 q155 q156 q157 q158 q159 q160 q161 q162 q163 q164 q165 q166 q167 q168 q169 q170 q171 q172 q173 q175 q176 q177 q178 q179 q180 q181 q182 q183 q184 q185 q186 q187 q188 q189 q190 q191 q192 q193 q194 q195 q196 q197 q198 q199 q200 q201 q202 q203 q204 q205 q206 q207 q208 q209 h174 (xs 1) rfl h hP hD hS hl
      · exact lw_s_2_1 l hl0 C0 hAd D cI cB cJ cS hM hTh q101 q102 q103 q104 q105 q106 q107 q108 q109 q110 q111 q112 q113 q114 q115 q116 g117 q118 q119 q120 q121 q122 q123 q124 q125 q126 q127 q128 q129 q130 q131 q132 q133 q134 q135 q136 q137 q138 q139 q140 q141 q142 q143 q144 q145 q146 q147 q148 q149 q150 q151 q152 q153 q154 q155 q156 q157 q158 q159 q160 q161 q162 q163 q164 q165 q166 q167 q168 q169 q170 q171 q172 q173 q175 q176 q177 q178 q179 q180 q181 q182 q183 q184 q185 q186 q187 q188 q189 q190 q191 q192 q193 q194 q195 q196 q197 q198 q199 q200 q201 q202 q203 q204 q205 q206 q207 q208 q209 h174 h hP hD hS hl
      · exact lw_s_2_2 l hl0 C0 hAd D cI cB cJ cS hM hTh q101 q102 q103 q104 q105 q106 q107 q108 q109 q110 q111 q112 q113 q114 q115 q116 g117 q118 q119 q120 q121 q122 q123 q124 q125 q126 q127 q128 q129 q130 q131 q132 q133 q134 q135 q136 q137 q138 q139 q140 q141 q142 q143 q144 q145 q146 q147 q148 q149 q150 q151 q152 q153 q154 q155 q156 q157 q158 q159 q160 q161 q162 q163 q164 q165 q166 q167 q168 q169 q170 q171 q172 q173 q175 q176 q177 q178 q179 q180 q181 q182 q183 q184 q185 q186 q187 q188 q189 q190 q191 q192 q193 q194 q195 q196 q197 q198 q199 q200 q201 q202 q203 q204 q205 q206 q207 q208 q209 h174 (xs 1) rfl h hP hD hS hl
    · refine lv_tableIn (x := nI 3) (off := 297) (tgt := 337) hx hb dL_law_40 (by decide) (by decide) (by decide) (by decide) ?_
      exact lw_s_3_0 l hl0 C0 hAd D cI cB cJ cS hM hTh q101 q102 q103 q104 q105 q106 q107 q108 q109 q110 q111 q112 q113 q114 q115 q116 g117 q118 q119 q120 q121 q122 q123 q124 q125 q126 q127 q128 q129 q130 q131 q132 q133 q134 q135 q136 q137 q138 q139 q140 q141 q142 q143 q144 q145 q146 q147 q148 q149 q150 q151 q152 q153 q154 q155 q156 q157 q158 q159 q160 q161 q162 q163 q164 q165 q166 q167 q168 q169 q170 q171 q172 q173 q175 q176 q177 q178 q179 q180 q181 q182 q183 q184 q185 q186 q187 q188 q189 q190 q191 q192 q193 q194 q195 q196 q197 q198 q199 q200 q201 q202 q203 q204 q205 q206 q207 q208 q209 h174 hP hD hS hl
    · refine lv_tableIn (x := nI 4) (off := 310) (tgt := 350) hx hb dL_law_40 (by decide) (by decide) (by decide) (by decide) ?_
      rcases nm_s2 (xs 1) with h | h
      · exact lw_s_4_0 l hl0 C0 hAd D cI cB cJ cS hM hTh q101 q102 q103 q104 q105 q106 q107 q108 q109 q110 q111 q112 q113 q114 q115 q116 g117 q118 q119 q120 q121 q122 q123 q124 q125 q126 q127 q128 q129 q130 q131 q132 q133 q134 q135 q136 q137 q138 q139 q140 q141 q142 q143 q144 q145 q146 q147 q148 q149 q150 q151 q152 q153 q154 q155 q156 q157 q158 q159 q160 q161 q162 q163 q164 q165 q166 q167 q168 q169 q170 q171 q172 q173 q175 q176 q177 q178 q179 q180 q181 q182 q183 q184 q185 q186 q187 q188 q189 q190 q191 q192 q193 q194 q195 q196 q197 q198 q199 q200 q201 q202 q203 q204 q205 q206 q207 q208 q209 h174 (xs 1) rfl h hP hD hS hl
      · exact lw_s_4_1 l hl0 C0 hAd D cI cB cJ cS hM hTh q101 q102 q103 q104 q105 q106 q107 q108 q109 q110 q111 q112 q113 q114 q115 q116 g117 q118 q119 q120 q121 q122 q123 q124 q125 q126 q127 q128 q129 q130 q131 q132 q133 q134 q135 q136 q137 q138 q139 q140 q141 q142 q143 q144 q145 q146 q147 q148 q149 q150 q151 q152 q153 q154 q155 q156 q157 q158 q159 q160 q161 q162 q163 q164 q165 q166 q167 q168 q169 q170 q171 q172 q173 q175 q176 q177 q178 q179 q180 q181 q182 q183 q184 q185 q186 q187 q188 q189 q190 q191 q192 q193 q194 q195 q196 q197 q198 q199 q200 q201 q202 q203 q204 q205 q206 q207 q208 q209 h174 (xs 1) rfl h hP hD hS hl
    · refine lv_tableIn (x := nI 5) (off := 366) (tgt := 406) hx hb dL_law_40 (by decide) (by decide) (by decide) (by decide) ?_
      rcases nm_n3 (xs 1) with h | h | h
      · exact lw_s_5_0 l hl0 C0 hAd D cI cB cJ cS hM hTh q101 q102 q103 q104 q105 q106 q107 q108 q109 q110 q111 q112 q113 q114 q115 q116 g117 q118 q119 q120 q121 q122 q123 q124 q125 q126 q127 q128 q129 q130 q131 q132 q133 q134 q135 q136 q137 q138 q139 q140 q141 q142 q143 q144 q145 q146 q147 q148 q149 q150 q151 q152 q153 q154 q155 q156 q157 q158 q159 q160 q161 q162 q163 q164 q165 q166 q167 q168 q169 q170 q171 q172 q173 q175 q176 q177 q178 q179 q180 q181 q182 q183 q184 q185 q186 q187 q188 q189 q190 q191 q192 q193 q194 q195 q196 q197 q198 q199 q200 q201 q202 q203 q204 q205 q206 q207 q208 q209 h174 (xs 1) rfl h hP hD hS hl
      · exact lw_s_5_1 l hl0 C0 hAd D cI cB cJ cS hM hTh q101 q102 q103 q104 q105 q106 q107 q108 q109 q110 q111 q112 q113 q114 q115 q116 g117 q118 q119 q120 q121 q122 q123 q124 q125 q126 q127 q128 q129 q130 q131 q132 q133 q134 q135 q136 q137 q138 q139 q140 q141 q142 q143 q144 q145 q146 q147 q148 q149 q150 q151 q152 q153 q154 q155 q156 q157 q158 q159 q160 q161 q162 q163 q164 q165 q166 q167 q168 q169 q170 q171 q172 q173 q175 q176 q177 q178 q179 q180 q181 q182 q183 q184 q185 q186 q187 q188 q189 q190 q191 q192 q193 q194 q195 q196 q197 q198 q199 q200 q201 q202 q203 q204 q205 q206 q207 q208 q209 h174 h hP hD hS hl
      · exact lw_s_5_2 l hl0 C0 hAd D cI cB cJ cS hM hTh q101 q102 q103 q104 q105 q106 q107 q108 q109 q110 q111 q112 q113 q114 q115 q116 g117 q118 q119 q120 q121 q122 q123 q124 q125 q126 q127 q128 q129 q130 q131 q132 q133 q134 q135 q136 q137 q138 q139 q140 q141 q142 q143 q144 q145 q146 q147 q148 q149 q150 q151 q152 q153 q154 q155 q156 q157 q158 q159 q160 q161 q162 q163 q164 q165 q166 q167 q168 q169 q170 q171 q172 q173 q175 q176 q177 q178 q179 q180 q181 q182 q183 q184 q185 q186 q187 q188 q189 q190 q191 q192 q193 q194 q195 q196 q197 q198 q199 q200 q201 q202 q203 q204 q205 q206 q207 q208 q209 h174 (xs 1) rfl h hP hD hS hl
    · refine lv_tableIn (x := nI 6) (off := 422) (tgt := 462) hx hb dL_law_40 (by decide) (by decide) (by decide) (by decide) ?_
      exact lw_s_6_0 l hl0 C0 hAd D cI cB cJ cS hM hTh q101 q102 q103 q104 q105 q106 q107 q108 q109 q110 q111 q112 q113 q114 q115 q116 g117 q118 q119 q120 q121 q122 q123 q124 q125 q126 q127 q128 q129 q130 q131 q132 q133 q134 q135 q136 q137 q138 q139 q140 q141 q142 q143 q144 q145 q146 q147 q148 q149 q150 q151 q152 q153 q154 q155 q156 q157 q158 q159 q160 q161 q162 q163 q164 q165 q166 q167 q168 q169 q170 q171 q172 q173 q175 q176 q177 q178 q179 q180 q181 q182 q183 q184 q185 q186 q187 q188 q189 q190 q191 q192 q193 q194 q195 q196 q197 q198 q199 q200 q201 q202 q203 q204 q205 q206 q207 q208 q209 h174 hP hD hS hl
    · refine lv_tableIn (x := nI 7) (off := 435) (tgt := 475) hx hb dL_law_40 (by decide) (by decide) (by decide) (by decide) ?_
      rcases nm_v5 (xs 1) with h | h | h | h | h
      · exact lw_s_7_0 l hl0 C0 hAd D cI cB cJ cS hM hTh q101 q102 q103 q104 q105 q106 q107 q108 q109 q110 q111 q112 q113 q114 q115 q116 g117 q118 q119 q120 q121 q122 q123 q124 q125 q126 q127 q128 q129 q130 q131 q132 q133 q134 q135 q136 q137 q138 q139 q140 q141 q142 q143 q144 q145 q146 q147 q148 q149 q150 q151 q152 q153 q154 q155 q156 q157 q158 q159 q160 q161 q162 q163 q164 q165 q166 q167 q168 q169 q170 q171 q172 q173 q175 q176 q177 q178 q179 q180 q181 q182 q183 q184 q185 q186 q187 q188 q189 q190 q191 q192 q193 q194 q195 q196 q197 q198 q199 q200 q201 q202 q203 q204 q205 q206 q207 q208 q209 h174 (xs 1) rfl h hP hD hS hl
      · exact lw_s_7_1 l hl0 C0 hAd D cI cB cJ cS hM hTh q101 q102 q103 q104 q105 q106 q107 q108 q109 q110 q111 q112 q113 q114 q115 q116 g117 q118 q119 q120 q121 q122 q123 q124 q125 q126 q127 q128 q129 q130 q131 q132 q133 q134 q135 q136 q137 q138 q139 q140 q141 q142 q143 q144 q145 q146 q147 q148 q149 q150 q151 q152 q153 q154 q155 q156 q157 q158 q159 q160 q161 q162 q163 q164 q165 q166 q167 q168 q169 q170 q171 q172 q173 q175 q176 q177 q178 q179 q180 q181 q182 q183 q184 q185 q186 q187 q188 q189 q190 q191 q192 q193 q194 q195 q196 q197 q198 q199 q200 q201 q202 q203 q204 q205 q206 q207 q208 q209 h174 h hP hD hS hl
      · exact lw_s_7_2 l hl0 C0 hAd D cI cB cJ cS hM hTh q101 q102 q103 q104 q105 q106 q107 q108 q109 q110 q111 q112 q113 q114 q115 q116 g117 q118 q119 q120 q121 q122 q123 q124 q125 q126 q127 q128 q129 q130 q131 q132 q133 q134 q135 q136 q137 q138 q139 q140 q141 q142 q143 q144 q145 q146 q147 q148 q149 q150 q151 q152 q153 q154 q155 q156 q157 q158 q159 q160 q161 q162 q163 q164 q165 q166 q167 q168 q169 q170 q171 q172 q173 q175 q176 q177 q178 q179 q180 q181 q182 q183 q184 q185 q186 q187 q188 q189 q190 q191 q192 q193 q194 q195 q196 q197 q198 q199 q200 q201 q202 q203 q204 q205 q206 q207 q208 q209 h174 h hP hD hS hl
      · exact lw_s_7_3 l hl0 C0 hAd D cI cB cJ cS hM hTh q101 q102 q103 q104 q105 q106 q107 q108 q109 q110 q111 q112 q113 q114 q115 q116 g117 q118 q119 q120 q121 q122 q123 q124 q125 q126 q127 q128 q129 q130 q131 q132 q133 q134 q135 q136 q137 q138 q139 q140 q141 q142 q143 q144 q145 q146 q147 q148 q149 q150 q151 q152 q153 q154 q155 q156 q157 q158 q159 q160 q161 q162 q163 q164 q165 q166 q167 q168 q169 q170 q171 q172 q173 q175 q176 q177 q178 q179 q180 q181 q182 q183 q184 q185 q186 q187 q188 q189 q190 q191 q192 q193 q194 q195 q196 q197 q198 q199 q200 q201 q202 q203 q204 q205 q206 q207 q208 q209 h174 h hP hD hS hl
      · exact lw_s_7_4 l hl0 C0 hAd D cI cB cJ cS hM hTh q101 q102 q103 q104 q105 q106 q107 q108 q109 q110 q111 q112 q113 q114 q115 q116 g117 q118 q119 q120 q121 q122 q123 q124 q125 q126 q127 q128 q129 q130 q131 q132 q133 q134 q135 q136 q137 q138 q139 q140 q141 q142 q143 q144 q145 q146 q147 q148 q149 q150 q151 q152 q153 q154 q155 q156 q157 q158 q159 q160 q161 q162 q163 q164 q165 q166 q167 q168 q169 q170 q171 q172 q173 q175 q176 q177 q178 q179 q180 q181 q182 q183 q184 q185 q186 q187 q188 q189 q190 q191 q192 q193 q194 q195 q196 q197 q198 q199 q200 q201 q202 q203 q204 q205 q206 q207 q208 q209 h174 (xs 1) rfl h hP hD hS hl
    · refine lv_tableIn (x := nI 8) (off := 491) (tgt := 531) hx hb dL_law_40 (by decide) (by decide) (by decide) (by decide) ?_
      rcases nm_s2 (xs 1) with h | h
      · exact lw_s_8_0 l hl0 C0 hAd D cI cB cJ cS hM hTh q101 q102 q103 q104 q105 q106 q107 q108 q109 q110 q111 q112 q113 q114 q115 q116 g117 q118 q119 q120 q121 q122 q123 q124 q125 q126 q127 q128 q129 q130 q131 q132 q133 q134 q135 q136 q137 q138 q139 q140 q141 q142 q143 q144 q145 q146 q147 q148 q149 q150 q151 q152 q153 q154 q155 q156 q157 q158 q159 q160 q161 q162 q163 q164 q165 q166 q167 q168 q169 q170 q171 q172 q173 q175 q176 q177 q178 q179 q180 q181 q182 q183 q184 q185 q186 q187 q188 q189 q190 q191 q192 q193 q194 q195 q196 q197 q198 q199 q200 q201 q202 q203 q204 q205 q206 q207 q208 q209 h174 (xs 1) (xs 2) rfl rfl h hP hD hS hl
      · exact lw_s_8_1 l hl0 C0 hAd D cI cB cJ cS hM hTh q101 q102 q103 q104 q105 q106 q107 q108 q109 q110 q111 q112 q113 q114 q115 q116 g117 q118 q119 q120 q121 q122 q123 q124 q125 q126 q127 q128 q129 q130 q131 q132 q133 q134 q135 q136 q137 q138 q139 q140 q141 q142 q143 q144 q145 q146 q147 q148 q149 q150 q151 q152 q153 q154 q155 q156 q157 q158 q159 q160 q161 q162 q163 q164 q165 q166 q167 q168 q169 q170 q171 q172 q173 q175 q176 q177 q178 q179 q180 q181 q182 q183 q184 q185 q186 q187 q188 q189 q190 q191 q192 q193 q194 q195 q196 q197 q198 q199 q200 q201 q202 q203 q204 q205 q206 q207 q208 q209 h174 (xs 1) (xs 2) rfl rfl h hP hD hS hl
    · refine lv_tableIn (x := nI 9) (off := 559) (tgt := 599) hx hb dL_law_40 (by decide) (by decide) (by decide) (by decide) ?_
      rcases nm_s2 (xs 1) with h | h
      · exact lw_s_9_0 l hl0 C0 hAd D cI cB cJ cS hM hTh q101 q102 q103 q104 q105 q106 q107 q108 q109 q110 q111 q112 q113 q114 q115 q116 g117 q118 q119 q120 q121 q122 q123 q124 q125 q126 q127 q128 q129 q130 q131 q132 q133 q134 q135 q136 q137 q138 q139 q140 q141 q142 q143 q144 q145 q146 q147 q148 q149 q150 q151 q152 q153 q154 q155 q156 q157 q158 q159 q160 q161 q162 q163 q164 q165 q166 q167 q168 q169 q170 q171 q172 q173 q175 q176 q177 q178 q179 q180 q181 q182 q183 q184 q185 q186 q187 q188 q189 q190 q191 q192 q193 q194 q195 q196 q197 q198 q199 q200 q201 q202 q203 q204 q205 q206 q207 q208 q209 h174 (xs 1) (xs 2) rfl rfl h hP hD hS hl
      · exact lw_s_9_1 l hl0 C0 hAd D cI cB cJ cS hM hTh q101 q102 q103 q104 q105 q106 q107 q108 q109 q110 q111 q112 q113 q114 q115 q116 g117 q118 q119 q120 q121 q122 q123 q124 q125 q126 q127 q128 q129 q130 q131 q132 q133 q134 q135 q136 q137 q138 q139 q140 q141 q142 q143 q144 q145 q146 q147 q148 q149 q150 q151 q152 q153 q154 q155 q156 q157 q158 q159 q160 q161 q162 q163 q164 q165 q166 q167 q168 q169 q170 q171 q172 q173 q175 q176 q177 q178 q179 q180 q181 q182 q183 q184 q185 q186 q187 q188 q189 q190 q191 q192 q193 q194 q195 q196 q197 q198 q199 q200 q201 q202 q203 q204 q205 q206 q207 q208 q209 h174 (xs 1) (xs 2) rfl rfl h hP hD hS hl
    · refine lv_tableIn (x := nI 10) (off := 627) (tgt := 667) hx hb dL_law_40 (by decide) (by decide) (by decide) (by decide) ?_
      rcases nm_s2 (xs 1) with h | h
      · exact lw_s_10_0 l hl0 C0 hAd D cI cB cJ cS hM hTh q101 q102 q103 q104 q105 q106 q107 q108 q109 q110 q111 q112 q113 q114 q115 q116 g117 q118 q119 q120 q121 q122 q123 q124 q125 q126 q127 q128 q129 q130 q131 q132 q133 q134 q135 q136 q137 q138 q139 q140 q141 q142 q143 q144 q145 q146 q147 q148 q149 q150 q151 q152 q153 q154 q155 q156 q157 q158 q159 q160 q161 q162 q163 q164 q165 q166 q167 q168 q169 q170 q171 q172 q173 q175 q176 q177 q178 q179 q180 q181 q182 q183 q184 q185 q186 q187 q188 q189 q190 q191 q192 q193 q194 q195 q196 q197 q198 q199 q200 q201 q202 q203 q204 q205 q206 q207 q208 q209 h174 (xs 1) (xs 2) rfl rfl h hP hD hS hl
      · exact lw_s_10_1 l hl0 C0 hAd D cI cB cJ cS hM hTh q101 q102 q103 q104 q105 q106 q107 q108 q109 q110 q111 q112 q113 q114 q115 q116 g117 q118 q119 q120 q121 q122 q123 q124 q125 q126 q127 q128 q129 q130 q131 q132 q133 q134 q135 q136 q137 q138 q139 q140 q141 q142 q143 q144 q145 q146 q147 q148 q149 q150 q151 q152 q153 q154 q155 q156 q157 q158 q159 q160 q161 q162 q163 q164 q165 q166 q167 q168 q169 q170 q171 q172 q173 q175 q176 q177 q178 q179 q180 q181 q182 q183 q184 q185 q186 q187 q188 q189 q190 q191 q192 q193 q194 q195 q196 q197 q198 q199 q200 q201 q202 q203 q204 q205 q206 q207 q208 q209 h174 (xs 1) (xs 2) rfl rfl h hP hD hS hl
    · refine lv_tableIn (x := nI 11) (off := 695) (tgt := 735) hx hb dL_law_40 (by decide) (by decide) (by decide) (by decide) ?_
      rcases nm_s2 (xs 1) with h | h
      · exact lw_s_11_0 l hl0 C0 hAd D cI cB cJ cS hM hTh q101 q102 q103 q104 q105 q106 q107 q108 q109 q110 q111 q112 q113 q114 q115 q116 g117 q118 q119 q120 q121 q122 q123 q124 q125 q126 q127 q128 q129 q130 q131 q132 q133 q134 q135 q136 q137 q138 q139 q140 q141 q142 q143 q144 q145 q146 q147 q148 q149 q150 q151 q152 q153 q154 q155 q156 q157 q158 q159 q160 q161 q162 q163 q164 q165 q166 q167 q168 q169 q170 q171 q172 q173 q175 q176 q177 q178 q179 q180 q181 q182 q183 q184 q185 q186 q187 q188 q189 q190 q191 q192 q193 q194 q195 q196 q197 q198 q199 q200 q201 q202 q203 q204 q205 q206 q207 q208 q209 h174 (xs 1) (xs 2) (xs 3) rfl rfl rfl h hP hD hS hl
      · exact lw_s_11_1 l hl0 C0 hAd D cI cB cJ cS hM hTh q101 q102 q103 q104 q105 q106 q107 q108 q109 q110 q111 q112 q113 q114 q115 q116 g117 q118 q119 q120 q121 q122 q123 q124 q125 q126 q127 q128 q129 q130 q131 q132 q133 q134 q135 q136 q137 q138 q139 q140 q141 q142 q143 q144 q145 q146 q147 q148 q149 q150 q151 q152 q153 q154 q155 q156 q157 q158 q159 q160 q161 q162 q163 q164 q165 q166 q167 q168 q169 q170 q171 q172 q173 q175 q176 q177 q178 q179 q180 q181 q182 q183 q184 q185 q186 q187 q188 q189 q190 q191 q192 q193 q194 q195 q196 q197 q198 q199 q200 q201 q202 q203 q204 q205 q206 q207 q208 q209 h174 (xs 1) (xs 2) (xs 3) rfl rfl rfl h hP hD hS hl
    · refine lv_tableIn (x := nI 12) (off := 775) (tgt := 815) hx hb dL_law_40 (by decide) (by decide) (by decide) (by decide) ?_
      rcases nm_s2 (xs 1) with h | h
      · exact lw_s_12_0 l hl0 C0 hAd D cI cB cJ cS hM hTh q101 q102 q103 q104 q105 q106 q107 q108 q109 q110 q111 q112 q113 q114 q115 q116 g117 q118 q119 q120 q121 q122 q123 q124 q125 q126 q127 q128 q129 q130 q131 q132 q133 q134 q135 q136 q137 q138 q139 q140 q141 q142 q143 q144 q145 q146 q147 q148 q149 q150 q151 q152 q153 q154 q155 q156 q157 q158 q159 q160 q161 q162 q163 q164 q165 q166 q167 q168 q169 q170 q171 q172 q173 q175 q176 q177 q178 q179 q180 q181 q182 q183 q184 q185 q186 q187 q188 q189 q190 q191 q192 q193 q194 q195 q196 q197 q198 q199 q200 q201 q202 q203 q204 q205 q206 q207 q208 q209 h174 (xs 1) (xs 2) (xs 3) rfl rfl rfl h hP hD hS hl
      · exact lw_s_12_1 l hl0 C0 hAd D cI cB cJ cS hM hTh q101 q102 q103 q104 q105 q106 q107 q108 q109 q110 q111 q112 q113 q114 q115 q116 g117 q118 q119 q120 q121 q122 q123 q124 q125 q126 q127 q128 q129 q130 q131 q132 q133 q134 q135 q136 q137 q138 q139 q140 q141 q142 q143 q144 q145 q146 q147 q148 q149 q150 q151 q152 q153 q154 q155 q156 q157 q158 q159 q160 q161 q162 q163 q164 q165 q166 q167 q168 q169 q170 q171 q172 q173 q175 q176 q177 q178 q179 q180 q181 q182 q183 q184 q185 q186 q187 q188 q189 q190 q191 q192 q193 q194 q195 q196 q197 q198 q199 q200 q201 q202 q203 q204 q205 q206 q207 q208 q209 h174 (xs 1) (xs 2) (xs 3) rfl rfl rfl h hP hD hS hl
    · refine lv_tableIn (x := nI 13) (off := 855) (tgt := 895) hx hb dL_law_40 (by decide) (by decide) (by decide) (by decide) ?_
      rcases nm_s2 (xs 1) with h | h
      · exact lw_s_13_0 l hl0 C0 hAd D cI cB cJ cS hM hTh q101 q102 q103 q104 q105 q106 q107 q108 q109 q110 q111 q112 q113 q114 q115 q116 g117 q118 q119 q120 q121 q122 q123 q124 q125 q126 q127 q128 q129 q130 q131 q132 q133 q134 q135 q136 q137 q138 q139 q140 q141 q142 q143 q144 q145 q146 q147 q148 q149 q150 q151 q152 q153 q154 q155 q156 q157 q158 q159 q160 q161 q162 q163 q164 q165 q166 q167 q168 q169 q170 q171 q172 q173 q175 q176 q177 q178 q179 q180 q181 q182 q183 q184 q185 q186 q187 q188 q189 q190 q191 q192 q193 q194 q195 q196 q197 q198 q199 q200 q201 q202 q203 q204 q205 q206 q207 q208 q209 h174 (xs 1) (xs 2) rfl rfl h hP hD hS hl
      · exact lw_s_13_1 l hl0 C0 hAd D cI cB cJ cS hM hTh q101 q102 q103 q104 q105 q106 q107 q108 q109 q110 q111 q112 q113 q114 q115 q116 g117 q118 q119 q120 q121 q122 q123 q124 q125 q126 q127 q128 q129 q130 q131 q132 q133 q134 q135 q136 q137 q138 q139 q140 q141 q142 q143 q144 q145 q146 q147 q148 q149 q150 q151 q152 q153 q154 q155 q156 q157 q158 q159 q160 q161 q162 q163 q164 q165 q166 q167 q168 q169 q170 q171 q172 q173 q175 q176 q177 q178 q179 q180 q181 q182 q183 q184 q185 q186 q187 q188 q189 q190 q191 q192 q193 q194 q195 q196 q197 q198 q199 q200 q201 q202 q203 q204 q205 q206 q207 q208 q209 h174 (xs 1) (xs 2) rfl rfl h hP hD hS hl
    · refine lv_tableIn (x := nI 14) (off := 923) (tgt := 963) hx hb dL_law_40 (by decide) (by decide) (by decide) (by decide) ?_
      rcases nm_n3 (xs 1) with h | h | h
      · exact lw_s_14_0 l hl0 C0 hAd D cI cB cJ cS hM hTh q101 q102 q103 q104 q105 q106 q107 q108 q109 q110 q111 q112 q113 q114 q115 q116 g117 q118 q119 q120 q121 q122 q123 q124 q125 q126 q127 q128 q129 q130 q131 q132 q133 q134 q135 q136 q137 q138 q139 q140 q141 q142 q143 q144 q145 q146 q147 q148 q149 q150 q151 q152 q153 q154 q155 q156 q157 q158 q159 q160 q161 q162 q163 q164 q165 q166 q167 q168 q169 q170 q171 q172 q173 q175 q176 q177 q178 q179 q180 q181 q182 q183 q184 q185 q186 q187 q188 q189 q190 q191 q192 q193 q194 q195 q196 q197 q198 q199 q200 q201 q202 q203 q204 q205 q206 q207 q208 q209 h174 (xs 1) rfl h hP hD hS hl
      · exact lw_s_14_1 l hl0 C0 hAd D cI cB cJ cS hM hTh q101 q102 q103 q104 q105 q106 q107 q108 q109 q110 q111 q112 q113 q114 q115 q116 g117 q118 q119 q120 q121 q122 q123 q124 q125 q126 q127 q128 q129 q130 q131 q132 q133 q134 q135 q136 q137 q138 q139 q140 q141 q142 q143 q144 q145 q146 q147 q148 q149 q150 q151 q152 q153 q154 q155 q156 q157 q158 q159 q160 q161 q162 q163 q164 q165 q166 q167 q168 q169 q170 q171 q172 q173 q175 q176 q177 q178 q179 q180 q181 q182 q183 q184 q185 q186 q187 q188 q189 q190 q191 q192 q193 q194 q195 q196 q197 q198 q199 q200 q201 q202 q203 q204 q205 q206 q207 q208 q209 h174 h hP hD hS hl
      · exact lw_s_14_2 l hl0 C0 hAd D cI cB cJ cS hM hTh q101 q102 q103 q104 q105 q106 q107 q108 q109 q110 q111 q112 q113 q114 q115 q116 g117 q118 q119 q120 q121 q122 q123 q124 q125 q126 q127 q128 q129 q130 q131 q132 q133 q134 q135 q136 q137 q138 q139 q140 q141 q142 q143 q144 q145 q146 q147 q148 q149 q150 q151 q152 q153 q154 q155 q156 q157 q158 q159 q160 q161 q162 q163 q164 q165 q166 q167 q168 q169 q170 q171 q172 q173 q175 q176 q177 q178 q179 q180 q181 q182 q183 q184 q185 q186 q187 q188 q189 q190 q191 q192 q193 q194 q195 q196 q197 q198 q199 q200 q201 q202 q203 q204 q205 q206 q207 q208 q209 h174 (xs 1) rfl h hP hD hS hl
    · refine lv_tableIn (x := nI 15) (off := 979) (tgt := 1019) hx hb dL_law_40 (by decide) (by decide) (by decide) (by decide) ?_
      rcases nm_n3 (xs 1) with h | h | h
      · exact lw_s_15_0 l hl0 C0 hAd D cI cB cJ cS hM hTh q101 q102 q103 q104 q105 q106 q107 q108 q109 q110 q111 q112 q113 q114 q115 q116 g117 q118 q119 q120 q121 q122 q123 q124 q125 q126 q127 q128 q129 q130 q131 q132 q133 q134 q135 q136 q137 q138 q139 q140 q141 q142 q143 q144 q145 q146 q147 q148 q149 q150 q151 q152 q153 q154 q155 q156 q157 q158 q159 q160 q161 q162 q163 q164 q165 q166 q167 q168 q169 q170 q171 q172 q173 q175 q176 q177 q178 q179 q180 q181 q182 q183 q184 q185 q186 q187 q188 q189 q190 q191 q192 q193 q194 q195 q196 q197 q198 q199 q200 q201 q202 q203 q204 q205 q206 q207 q208 q209 h174 (xs 1) rfl h hP hD hS hl
      · exact lw_s_15_1 l hl0 C0 hAd D cI cB cJ cS hM hTh q101 q102 q103 q104 q105 q106 q107 q108 q109 q110 q111 q112 q113 q114 q115 q116 g117 q118 q119 q120 q121 q122 q123 q124 q125 q126 q127 q128 q129 q130 q131 q132 q133 q134 q135 q136 q137 q138 q139 q140 q141 q142 q143 q144 q145 q146 q147 q148 q149 q150 q151 q152 q153 q154 q155 q156 q157 q158 q159 q160 q161 q162 q163 q164 q165 q166 q167 q168 q169 q170 q171 q172 q173 q175 q176 q177 q178 q179 q180 q181 q182 q183 q184 q185 q186 q187 q188 q189 q190 q191 q192 q193 q194 q195 q196 q197 q198 q199 q200 q201 q202 q203 q204 q205 q206 q207 q208 q209 h174 h hP hD hS hl
      · exact lw_s_15_2 l hl0 C0 hAd D cI cB cJ cS hM hTh q101 q102 q103 q104 q105 q106 q107 q108 q109 q110 q111 q112 q113 q114 q115 q116 g117 q118 q119 q120 q121 q122 q123 q124 q125 q126 q127 q128 q129 q130 q131 q132 q133 q134 q135 q136 q137 q138 q139 q140 q141 q142 q143 q144 q145 q146 q147 q148 q149 q150 q151 q152 q153 q154 q155 q156 q157 q158 q159 q160 q161 q162 q163 q164 q165 q166 q167 q168 q169 q170 q171 q172 q173 q175 q176 q177 q178 q179 q180 q181 q182 q183 q184 q185 q186 q187 q188 q189 q190 q191 q192 q193 q194 q195 q196 q197 q198 q199 q200 q201 q202 q203 q204 q205 q206 q207 q208 q209 h174 (xs 1) rfl h hP hD hS hl
    · refine lv_tableIn (x := nI 16) (off := 1035) (tgt := 1075) hx hb dL_law_40 (by decide) (by decide) (by decide) (by decide) ?_
      rcases nm_s2 (xs 1) with h | h
      · exact lw_s_16_0 l hl0 C0 hAd D cI cB cJ cS hM hTh q101 q102 q103 q104 q105 q106 q107 q108 q109 q110 q111 q112 q113 q114 q115 q116 g117 q118 q119 q120 q121 q122 q123 q124 q125 q126 q127 q128 q129 q130 q131 q132 q133 q134 q135 q136 q137 q138 q139 q140 q141 q142 q143 q144 q145 q146 q147 q148 q149 q150 q151 q152 q153 q154 q155 q156 q157 q158 q159 q160 q161 q162 q163 q164 q165 q166 q167 q168 q169 q170 q171 q172 q173 q175 q176 q177 q178 q179 q180 q181 q182 q183 q184 q185 q186 q187 q188 q189 q190 q191 q192 q193 q194 q195 q196 q197 q198 q199 q200 q201 q202 q203 q204 q205 q206 q207 q208 q209 h174 (xs 1) rfl h hP hD hS hl
      · exact lw_s_16_1 l hl0 C0 hAd D cI cB cJ cS hM hTh q101 q102 q103 q104 q105 q106 q107 q108 q109 q110 q111 q112 q113 q114 q115 q116 g117 q118 q119 q120 q121 q122 q123 q124 q125 q126 q127 q128 q129 q130 q131 q132 q133 q134 q135 q136 q137 q138 q139 q140 q141 q142 q143 q144 q145 q146 q147 q148 q149 q150 q151 q152 q153 q154 q155 q156 q157 q158 q159 q160 q161 q162 q163 q164 q165 q166 q167 q168 q169 q170 q171 q172 q173 q175 q176 q177 q178 q179 q180 q181 q182 q183 q184 q185 q186 q187 q188 q189 q190 q191 q192 q193 q194 q195 q196 q197 q198 q199 q200 q201 q202 q203 q204 q205 q206 q207 q208 q209 h174 (xs 1) rfl h hP hD hS hl
    · refine lv_tableIn (x := nI 17) (off := 1091) (tgt := 1131) hx hb dL_law_40 (by decide) (by decide) (by decide) (by decide) ?_
      rcases nm_s2 (xs 1) with h | h
      · exact lw_s_17_0 l hl0 C0 hAd D cI cB cJ cS hM hTh q101 q102 q103 q104 q105 q106 q107 q108 q109 q110 q111 q112 q113 q114 q115 q116 g117 q118 q119 q120 q121 q122 q123 q124 q125 q126 q127 q128 q129 q130 q131 q132 q133 q134 q135 q136 q137 q138 q139 q140 q141 q142 q143 q144 q145 q146 q147 q148 q149 q150 q151 q152 q153 q154 q155 q156 q157 q158 q159 q160 q161 q162 q163 q164 q165 q166 q167 q168 q169 q170 q171 q172 q173 q175 q176 q177 q178 q179 q180 q181 q182 q183 q184 q185 q186 q187 q188 q189 q190 q191 q192 q193 q194 q195 q196 q197 q198 q199 q200 q201 q202 q203 q204 q205 q206 q207 q208 q209 h174 (xs 1) rfl h hP hD hS hl
      · exact lw_s_17_1 l hl0 C0 hAd D cI cB cJ cS hM hTh q101 q102 q103 q104 q105 q106 q107 q108 q109 q110 q111 q112 q113 q114 q115 q116 g117 q118 q119 q120 q121 q122 q123 q124 q125 q126 q127 q128 q129 q130 q131 q132 q133 q134 q135 q136 q137 q138 q139 q140 q141 q142 q143 q144 q145 q146 q147 q148 q149 q150 q151 q152 q153 q154 q155 q156 q157 q158 q159 q160 q161 q162 q163 q164 q165 q166 q167 q168 q169 q170 q171 q172 q173 q175 q176 q177 q178 q179 q180 q181 q182 q183 q184 q185 q186 q187 q188 q189 q190 q191 q192 q193 q194 q195 q196 q197 q198 q199 q200 q201 q202 q203 q204 q205 q206 q207 q208 q209 h174 (xs 1) rfl h hP hD hS hl
    · refine lv_tableIn (x := nI 18) (off := 1147) (tgt := 1187) hx hb dL_law_40 (by decide) (by decide) (by decide) (by decide) ?_
      rcases nm_s2 (xs 1) with h | h
      · exact lw_s_18_0 l hl0 C0 hAd D cI cB cJ cS hM hTh q101 q102 q103 q104 q105 q106 q107 q108 q109 q110 q111 q112 q113 q114 q115 q116 g117 q118 q119 q120 q121 q122 q123 q124 q125 q126 q127 q128 q129 q130 q131 q132 q133 q134 q135 q136 q137 q138 q139 q140 q141 q142 q143 q144 q145 q146 q147 q148 q149 q150 q151 q152 q153 q154 q155 q156 q157 q158 q159 q160 q161 q162 q163 q164 q165 q166 q167 q168 q169 q170 q171 q172 q173 q175 q176 q177 q178 q179 q180 q181 q182 q183 q184 q185 q186 q187 q188 q189 q190 q191 q192 q193 q194 q195 q196 q197 q198 q199 q200 q201 q202 q203 q204 q205 q206 q207 q208 q209 h174 (xs 1) (xs 2) rfl rfl h hP hD hS hl
      · exact lw_s_18_1 l hl0 C0 hAd D cI cB cJ cS hM hTh q101 q102 q103 q104 q105 q106 q107 q108 q109 q110 q111 q112 q113 q114 q115 q116 g117 q118 q119 q120 q121 q122 q123 q124 q125 q126 q127 q128 q129 q130 q131 q132 q133 q134 q135 q136 q137 q138 q139 q140 q141 q142 q143 q144 q145 q146 q147 q148 q149 q150 q151 q152 q153 q154 q155 q156 q157 q158 q159 q160 q161 q162 q163 q164 q165 q166 q167 q168 q169 q170 q171 q172 q173 q175 q176 q177 q178 q179 q180 q181 q182 q183 q184 q185 q186 q187 q188 q189 q190 q191 q192 q193 q194 q195 q196 q197 q198 q199 q200 q201 q202 q203 q204 q205 q206 q207 q208 q209 h174 (xs 1) (xs 2) rfl rfl h hP hD hS hl
    · refine lv_tableIn (x := nI 19) (off := 1215) (tgt := 1255) hx hb dL_law_40 (by decide) (by decide) (by decide) (by decide) ?_
      rcases nm_s2 (xs 1) with h | h
      · exact lw_s_19_0 l hl0 C0 hAd D cI cB cJ cS hM hTh q101 q102 q103 q104 q105 q106 q107 q108 q109 q110 q111 q112 q113 q114 q115 q116 g117 q118 q119 q120 q121 q122 q123 q124 q125 q126 q127 q128 q129 q130 q131 q132 q133 q134 q135 q136 q137 q138 q139 q140 q141 q142 q143 q144 q145 q146 q147 q148 q149 q150 q151 q152 q153 q154 q155 q156 q157 q158 q159 q160 q161 q162 q163 q164 q165 q166 q167 q168 q169 q170 q171 q172 q173 q175 q176 q177 q178 q179 q180 q181 q182 q183 q184 q185 q186 q187 q188 q189 q190 q191 q192 q193 q194 q195 q196 q197 q198 q199 q200 q201 q202 q203 q204 q205 q206 q207 q208 q209 h174 (xs 1) rfl h hP hD hS hl
      · exact lw_s_19_1 l hl0 C0 hAd D cI cB cJ cS hM hTh q101 q102 q103 q104 q105 q106 q107 q108 q109 q110 q111 q112 q113 q114 q115 q116 g117 q118 q119 q120 q121 q122 q123 q124 q125 q126 q127 q128 q129 q130 q131 q132 q133 q134 q135 q136 q137 q138 q139 q140 q141 q142 q143 q144 q145 q146 q147 q148 q149 q150 q151 q152 q153 q154 q155 q156 q157 q158 q159 q160 q161 q162 q163 q164 q165 q166 q167 q168 q169 q170 q171 q172 q173 q175 q176 q177 q178 q179 q180 q181 q182 q183 q184 q185 q186 q187 q188 q189 q190 q191 q192 q193 q194 q195 q196 q197 q198 q199 q200 q201 q202 q203 q204 q205 q206 q207 q208 q209 h174 (xs 1) rfl h hP hD hS hl
    · refine lv_tableIn (x := nI 20) (off := 1271) (tgt := 1311) hx hb dL_law_40 (by decide) (by decide) (by decide) (by decide) ?_
      rcases nm_s2 (xs 1) with h | h
      · exact lw_s_20_0 l hl0 C0 hAd D cI cB cJ cS hM hTh q101 q102 q103 q104 q105 q106 q107 q108 q109 q110 q111 q112 q113 q114 q115 q116 g117 q118 q119 q120 q121 q122 q123 q124 q125 q126 q127 q128 q129 q130 q131 q132 q133 q134 q135 q136 q137 q138 q139 q140 q141 q142 q143 q144 q145 q146 q147 q148 q149 q150 q151 q152 q153 q154 q155 q156 q157 q158 q159 q160 q161 q162 q163 q164 q165 q166 q167 q168 q169 q170 q171 q172 q173 q175 q176 q177 q178 q179 q180 q181 q182 q183 q184 q185 q186 q187 q188 q189 q190 q191 q192 q193 q194 q195 q196 q197 q198 q199 q200 q201 q202 q203 q204 q205 q206 q207 q208 q209 h174 (xs 1) (xs 2) rfl rfl h hP hD hS hl
      · exact lw_s_20_1 l hl0 C0 hAd D cI cB cJ cS hM hTh q101 q102 q103 q104 q105 q106 q107 q108 q109 q110 q111 q112 q113 q114 q115 q116 g117 q118 q119 q120 q121 q122 q123 q124 q125 q126 q127 q128 q129 q130 q131 q132 q133 q134 q135 q136 q137 q138 q139 q140 q141 q142 q143 q144 q145 q146 q147 q148 q149 q150 q151 q152 q153 q154 q155 q156 q157 q158 q159 q160 q161 q162 q163 q164 q165 q166 q167 q168 q169 q170 q171 q172 q173 q175 q176 q177 q178 q179 q180 q181 q182 q183 q184 q185 q186 q187 q188 q189 q190 q191 q192 q193 q194 q195 q196 q197 q198 q199 q200 q201 q202 q203 q204 q205 q206 q207 q208 q209 h174 (xs 1) (xs 2) rfl rfl h hP hD hS hl
    · refine lv_tableIn (x := nI 21) (off := 1339) (tgt := 1379) hx hb dL_law_40 (by decide) (by decide) (by decide) (by decide) ?_
      rcases nm_s2 (xs 1) with h | h
      · exact lw_s_21_0 l hl0 C0 hAd D cI cB cJ cS hM hTh q101 q102 q103 q104 q105 q106 q107 q108 q109 q110 q111 q112 q113 q114 q115 q116 g117 q118 q119 q120 q121 q122 q123 q124 q125 q126 q127 q128 q129 q130 q131 q132 q133 q134 q135 q136 q137 q138 q139 q140 q141 q142 q143 q144 q145 q146 q147 q148 q149 q150 q151 q152 q153 q154 q155 q156 q157 q158 q159 q160 q161 q162 q163 q164 q165 q166 q167 q168 q169 q170 q171 q172 q173 q175 q176 q177 q178 q179 q180 q181 q182 q183 q184 q185 q186 q187 q188 q189 q190 q191 q192 q193 q194 q195 q196 q197 q198 q199 q200 q201 q202 q203 q204 q205 q206 q207 q208 q209 h174 (xs 1) (xs 2) rfl rfl h hP hD hS hl
      · exact lw_s_21_1 l hl0 C0 hAd D cI cB cJ cS hM hTh q101 q102 q103 q104 q105 q106 q107 q108 q109 q110 q111 q112 q113 q114 q115 q116 g117 q118 q119 q120 q121 q122 q123 q124 q125 q126 q127 q128 q129 q130 q131 q132 q133 q134 q135 q136 q137 q138 q139 q140 q141 q142 q143 q144 q145 q146 q147 q148 q149 q150 q151 q152 q153 q154 q155 q156 q157 q158 q159 q160 q161 q162 q163 q164 q165 q166 q167 q168 q169 q170 q171 q172 q173 q175 q176 q177 q178 q179 q180 q181 q182 q183 q184 q185 q186 q187 q188 q189 q190 q191 q192 q193 q194 q195 q196 q197 q198 q199 q200 q201 q202 q203 q204 q205 q206 q207 q208 q209 h174 (xs 1) (xs 2) rfl rfl h hP hD hS hl
    · refine lv_tableIn (x := nI 22) (off := 1407) (tgt := 1447) hx hb dL_law_40 (by decide) (by decide) (by decide) (by decide) ?_
      exact lw_s_22_0 l hl0 C0 hAd D cI cB cJ cS hM hTh q101 q102 q103 q104 q105 q106 q107 q108 q109 q110 q111 q112 q113 q114 q115 q116 g117 q118 q119 q120 q121 q122 q123 q124 q125 q126 q127 q128 q129 q130 q131 q132 q133 q134 q135 q136 q137 q138 q139 q140 q141 q142 q143 q144 q145 q146 q147 q148 q149 q150 q151 q152 q153 q154 q155 q156 q157 q158 q159 q160 q161 q162 q163 q164 q165 q166 q167 q168 q169 q170 q171 q172 q173 q175 q176 q177 q178 q179 q180 q181 q182 q183 q184 q185 q186 q187 q188 q189 q190 q191 q192 q193 q194 q195 q196 q197 q198 q199 q200 q201 q202 q203 q204 q205 q206 q207 q208 q209 h174 hP hD hS hl
    · refine lv_tableIn (x := nI 23) (off := 1421) (tgt := 1461) hx hb dL_law_40 (by decide) (by decide) (by decide) (by decide) ?_
      rcases nm_v5 (xs 1) with h | h | h | h | h
      · exact lw_s_23_0 l hl0 C0 hAd D cI cB cJ cS hM hTh q101 q102 q103 q104 q105 q106 q107 q108 q109 q110 q111 q112 q113 q114 q115 q116 g117 q118 q119 q120 q121 q122 q123 q124 q125 q126 q127 q128 q129 q130 q131 q132 q133 q134 q135 q136 q137 q138 q139 q140 q141 q142 q143 q144 q145 q146 q147 q148 q149 q150 q151 q152 q153 q154 q155 q156 q157 q158 q159 q160 q161 q162 q163 q164 q165 q166 q167 q168 q169 q170 q171 q172 q173 q175 q176 q177 q178 q179 q180 q181 q182 q183 q184 q185 q186 q187 q188 q189 q190 q191 q192 q193 q194 q195 q196 q197 q198 q199 q200 q201 q202 q203 q204 q205 q206 q207 q208 q209 h174 (xs 1) rfl h hP hD hS hl
      · exact lw_s_23_1 l hl0 C0 hAd D cI cB cJ cS hM hTh q101 q102 q103 q104 q105 q106 q107 q108 q109 q110 q111 q112 q113 q114 q115 q116 g117 q118 q119 q120 q121 q122 q123 q124 q125 q126 q127 q128 q129 q130 q131 q132 q133 q134 q135 q136 q137 q138 q139 q140 q141 q142 q143 q144 q145 q146 q147 q148 q149 q150 q151 q152 q153 q154 q155 q156 q157 q158 q159 q160 q161 q162 q163 q164 q165 q166 q167 q168 q169 q170 q171 q172 q173 q175 q176 q177 q178 q179 q180 q181 q182 q183 q184 q185 q186 q187 q188 q189 q190 q191 q192 q193 q194 q195 q196 q197 q198 q199 q200 q201 q202 q203 q204 q205 q206 q207 q208 q209 h174 h hP hD hS hl
      · exact lw_s_23_2 l hl0 C0 hAd D cI cB cJ cS hM hTh q101 q102 q103 q104 q105 q106 q107 q108 q109 q110 q111 q112 q113 q114 q115 q116 g117 q118 q119 q120 q121 q122 q123 q124 q125 q126 q127 q128 q129 q130 q131 q132 q133 q134 q135 q136 q137 q138 q139 q140 q141 q142 q143 q144 q145 q146 q147 q148 q149 q150 q151 q152 q153 q154 q155 q156 q157 q158 q159 q160 q161 q162 q163 q164 q165 q166 q167 q168 q169 q170 q171 q172 q173 q175 q176 q177 q178 q179 q180 q181 q182 q183 q184 q185 q186 q187 q188 q189 q190 q191 q192 q193 q194 q195 q196 q197 q198 q199 q200 q201 q202 q203 q204 q205 q206 q207 q208 q209 h174 h hP hD hS hl
      · exact lw_s_23_3 l hl0 C0 hAd D cI cB cJ cS hM hTh q101 q102 q103 q104 q105 q106 q107 q108 q109 q110 q111 q112 q113 q114 q115 q116 g117 q118 q119 q120 q121 q122 q123 q124 q125 q126 q127 q128 q129 q130 q131 q132 q133 q134 q135 q136 q137 q138 q139 q140 q141 q142 q143 q144 q145 q146 q147 q148 q149 q150 q151 q152 q153 q154 q155 q156 q157 q158 q159 q160 q161 q162 q163 q164 q165 q166 q167 q168 q169 q170 q171 q172 q173 q175 q176 q177 q178 q179 q180 q181 q182 q183 q184 q185 q186 q187 q188 q189 q190 q191 q192 q193 q194 q195 q196 q197 q198 q199 q200 q201 q202 q203 q204 q205 q206 q207 q208 q209 h174 h hP hD hS hl
      · exact lw_s_23_4 l hl0 C0 hAd D cI cB cJ cS hM hTh q101 q102 q103 q104 q105 q106 q107 q108 q109 q110 q111 q112 q113 q114 q115 q116 g117 q118 q119 q120 q121 q122 q123 q124 q125 q126 q127 q128 q129 q130 q131 q132 q133 q134 q135 q136 q137 q138 q139 q140 q141 q142 q143 q144 q145 q146 q147 q148 q149 q150 q151 q152 q153 q154 q155 q156 q157 q158 q159 q160 q161 q162 q163 q164 q165 q166 q167 q168 q169 q170 q171 q172 q173 q175 q176 q177 q178 q179 q180 q181 q182 q183 q184 q185 q186 q187 q188 q189 q190 q191 q192 q193 q194 q195 q196 q197 q198 q199 q200 q201 q202 q203 q204 q205 q206 q207 q208 q209 h174 (xs 1) rfl h hP hD hS hl
    · refine lv_tableOut (x := nI 24) (tgt := 1486) hx hb dL_law_40 (by decide) (by decide) ?_
      refine lv_iinc (v := 6) (lv' := [(4, .int 6), (3, .ref q209), (2, .ref q175), (1, .ref q101), (0, .ref b)]) hx hb dL_law_1486 hl (k := 0) rfl (by decide) (by decide) rfl (fun ls hl => ?_)
      refine lv_goto (tgt := 23) hx hb dL_law_1489 (by decide) ?_
      refine lv_iload hx hb dL_law_23 (lv_at hl 0 rfl) ?_
      refine lv_aload_n hx hb dL_law_25 rfl (lv_at hl 4 rfl) ?_
      refine va_slen hx hb hX hbl hbA hS dL_law_26 ?_
      refine lv_topi (fun z101 e9 => ?_)
      have e8 : (6 : Int32) = z101 := (e9.trans (by decide)).symm
      subst e8
      refine lv_bipush (v := 6) hx hb dL_law_27 (by decide) ?_
      refine lv_isub hx hb dL_law_29 ?_
      refine lv_topi (fun z102 e9 => ?_)
      obtain rfl : z102 = (0 : Int32) := e9.trans (by decide)
      refine lv_icmp_gt (tgt := 1492) hx hb dL_law_30 (by decide) (fun _ => ?_) (fun c9 => absurd (by decide) c9)
      refine lv_iconst (v := 1) hx hb dL_law_1492 (by decide) ?_
      refine va_forget (fun q hq => by have h9 := hS.2.2 q hq; rw [hAd] at h9; exact h9) ?_
      refine W.widen (k := 600002) (n := 7302232) (Nat.le_of_ble_eq_true rfl) (Nat.le_of_ble_eq_true rfl) ?_
      exact lw_ret hx hb hr hlocks dL_law_1493
    · refine lv_tableOut (x := nI 25) (tgt := 1486) hx hb dL_law_40 (by decide) (by decide) ?_
      refine lv_iinc (v := 6) (lv' := [(4, .int 6), (3, .ref q209), (2, .ref q175), (1, .ref q101), (0, .ref b)]) hx hb dL_law_1486 hl (k := 0) rfl (by decide) (by decide) rfl (fun ls hl => ?_)
      refine lv_goto (tgt := 23) hx hb dL_law_1489 (by decide) ?_
      refine lv_iload hx hb dL_law_23 (lv_at hl 0 rfl) ?_
      refine lv_aload_n hx hb dL_law_25 rfl (lv_at hl 4 rfl) ?_
      refine va_slen hx hb hX hbl hbA hS dL_law_26 ?_
      refine lv_topi (fun z101 e9 => ?_)
      have e8 : (6 : Int32) = z101 := (e9.trans (by decide)).symm
      subst e8
      refine lv_bipush (v := 6) hx hb dL_law_27 (by decide) ?_
      refine lv_isub hx hb dL_law_29 ?_
      refine lv_topi (fun z102 e9 => ?_)
      obtain rfl : z102 = (0 : Int32) := e9.trans (by decide)
      refine lv_icmp_gt (tgt := 1492) hx hb dL_law_30 (by decide) (fun _ => ?_) (fun c9 => absurd (by decide) c9)
      refine lv_iconst (v := 1) hx hb dL_law_1492 (by decide) ?_
      refine va_forget (fun q hq => by have h9 := hS.2.2 q hq; rw [hAd] at h9; exact h9) ?_
      refine W.widen (k := 600002) (n := 7302232) (Nat.le_of_ble_eq_true rfl) (Nat.le_of_ble_eq_true rfl) ?_
      exact lw_ret hx hb hr hlocks dL_law_1493
    · refine lv_tableOut (x := nI 26) (tgt := 1486) hx hb dL_law_40 (by decide) (by decide) ?_
      refine lv_iinc (v := 6) (lv' := [(4, .int 6), (3, .ref q209), (2, .ref q175), (1, .ref q101), (0, .ref b)]) hx hb dL_law_1486 hl (k := 0) rfl (by decide) (by decide) rfl (fun ls hl => ?_)
      refine lv_goto (tgt := 23) hx hb dL_law_1489 (by decide) ?_
      refine lv_iload hx hb dL_law_23 (lv_at hl 0 rfl) ?_
      refine lv_aload_n hx hb dL_law_25 rfl (lv_at hl 4 rfl) ?_
      refine va_slen hx hb hX hbl hbA hS dL_law_26 ?_
      refine lv_topi (fun z101 e9 => ?_)
      have e8 : (6 : Int32) = z101 := (e9.trans (by decide)).symm
      subst e8
      refine lv_bipush (v := 6) hx hb dL_law_27 (by decide) ?_
      refine lv_isub hx hb dL_law_29 ?_
      refine lv_topi (fun z102 e9 => ?_)
      obtain rfl : z102 = (0 : Int32) := e9.trans (by decide)
      refine lv_icmp_gt (tgt := 1492) hx hb dL_law_30 (by decide) (fun _ => ?_) (fun c9 => absurd (by decide) c9)
      refine lv_iconst (v := 1) hx hb dL_law_1492 (by decide) ?_
      refine va_forget (fun q hq => by have h9 := hS.2.2 q hq; rw [hAd] at h9; exact h9) ?_
      refine W.widen (k := 600002) (n := 7302232) (Nat.le_of_ble_eq_true rfl) (Nat.le_of_ble_eq_true rfl) ?_
      exact lw_ret hx hb hr hlocks dL_law_1493
    · refine lv_tableOut (x := nI 27) (tgt := 1486) hx hb dL_law_40 (by decide) (by decide) ?_
      refine lv_iinc (v := 6) (lv' := [(4, .int 6), (3, .ref q209), (2, .ref q175), (1, .ref q101), (0, .ref b)]) hx hb dL_law_1486 hl (k := 0) rfl (by decide) (by decide) rfl (fun ls hl => ?_)
      refine lv_goto (tgt := 23) hx hb dL_law_1489 (by decide) ?_
      refine lv_iload hx hb dL_law_23 (lv_at hl 0 rfl) ?_
      refine lv_aload_n hx hb dL_law_25 rfl (lv_at hl 4 rfl) ?_
      refine va_slen hx hb hX hbl hbA hS dL_law_26 ?_
      refine lv_topi (fun z101 e9 => ?_)
      have e8 : (6 : Int32) = z101 := (e9.trans (by decide)).symm
      subst e8
      refine lv_bipush (v := 6) hx hb dL_law_27 (by decide) ?_
      refine lv_isub hx hb dL_law_29 ?_
      refine lv_topi (fun z102 e9 => ?_)
      obtain rfl : z102 = (0 : Int32) := e9.trans (by decide)
      refine lv_icmp_gt (tgt := 1492) hx hb dL_law_30 (by decide) (fun _ => ?_) (fun c9 => absurd (by decide) c9)
      refine lv_iconst (v := 1) hx hb dL_law_1492 (by decide) ?_
      refine va_forget (fun q hq => by have h9 := hS.2.2 q hq; rw [hAd] at h9; exact h9) ?_
      refine W.widen (k := 600002) (n := 7302232) (Nat.le_of_ble_eq_true rfl) (Nat.le_of_ble_eq_true rfl) ?_
      exact lw_ret hx hb hr hlocks dL_law_1493
    · refine lv_tableOut (x := nI 28) (tgt := 1486) hx hb dL_law_40 (by decide) (by decide) ?_
      refine lv_iinc (v := 6) (lv' := [(4, .int 6), (3, .ref q209), (2, .ref q175), (1, .ref q101), (0, .ref b)]) hx hb dL_law_1486 hl (k := 0) rfl (by decide) (by decide) rfl (fun ls hl => ?_)
      refine lv_goto (tgt := 23) hx hb dL_law_1489 (by decide) ?_
      refine lv_iload hx hb dL_law_23 (lv_at hl 0 rfl) ?_
      refine lv_aload_n hx hb dL_law_25 rfl (lv_at hl 4 rfl) ?_
      refine va_slen hx hb hX hbl hbA hS dL_law_26 ?_
      refine lv_topi (fun z101 e9 => ?_)
      have e8 : (6 : Int32) = z101 := (e9.trans (by decide)).symm
      subst e8
      refine lv_bipush (v := 6) hx hb dL_law_27 (by decide) ?_
      refine lv_isub hx hb dL_law_29 ?_
      refine lv_topi (fun z102 e9 => ?_)
      obtain rfl : z102 = (0 : Int32) := e9.trans (by decide)
      refine lv_icmp_gt (tgt := 1492) hx hb dL_law_30 (by decide) (fun _ => ?_) (fun c9 => absurd (by decide) c9)
      refine lv_iconst (v := 1) hx hb dL_law_1492 (by decide) ?_
      refine va_forget (fun q hq => by have h9 := hS.2.2 q hq; rw [hAd] at h9; exact h9) ?_
      refine W.widen (k := 600002) (n := 7302232) (Nat.le_of_ble_eq_true rfl) (Nat.le_of_ble_eq_true rfl) ?_
      exact lw_ret hx hb hr hlocks dL_law_1493
    · refine lv_tableOut (x := nI 29) (tgt := 1486) hx hb dL_law_40 (by decide) (by decide) ?_
      refine lv_iinc (v := 6) (lv' := [(4, .int 6), (3, .ref q209), (2, .ref q175), (1, .ref q101), (0, .ref b)]) hx hb dL_law_1486 hl (k := 0) rfl (by decide) (by decide) rfl (fun ls hl => ?_)
      refine lv_goto (tgt := 23) hx hb dL_law_1489 (by decide) ?_
      refine lv_iload hx hb dL_law_23 (lv_at hl 0 rfl) ?_
      refine lv_aload_n hx hb dL_law_25 rfl (lv_at hl 4 rfl) ?_
      refine va_slen hx hb hX hbl hbA hS dL_law_26 ?_
      refine lv_topi (fun z101 e9 => ?_)
      have e8 : (6 : Int32) = z101 := (e9.trans (by decide)).symm
      subst e8
      refine lv_bipush (v := 6) hx hb dL_law_27 (by decide) ?_
      refine lv_isub hx hb dL_law_29 ?_
      refine lv_topi (fun z102 e9 => ?_)
      obtain rfl : z102 = (0 : Int32) := e9.trans (by decide)
      refine lv_icmp_gt (tgt := 1492) hx hb dL_law_30 (by decide) (fun _ => ?_) (fun c9 => absurd (by decide) c9)
      refine lv_iconst (v := 1) hx hb dL_law_1492 (by decide) ?_
      refine va_forget (fun q hq => by have h9 := hS.2.2 q hq; rw [hAd] at h9; exact h9) ?_
      refine W.widen (k := 600002) (n := 7302232) (Nat.le_of_ble_eq_true rfl) (Nat.le_of_ble_eq_true rfl) ?_
      exact lw_ret hx hb hr hlocks dL_law_1493
    · refine lv_tableOut (x := nI 30) (tgt := 1486) hx hb dL_law_40 (by decide) (by decide) ?_
      refine lv_iinc (v := 6) (lv' := [(4, .int 6), (3, .ref q209), (2, .ref q175), (1, .ref q101), (0, .ref b)]) hx hb dL_law_1486 hl (k := 0) rfl (by decide) (by decide) rfl (fun ls hl => ?_)
      refine lv_goto (tgt := 23) hx hb dL_law_1489 (by decide) ?_
      refine lv_iload hx hb dL_law_23 (lv_at hl 0 rfl) ?_
      refine lv_aload_n hx hb dL_law_25 rfl (lv_at hl 4 rfl) ?_
      refine va_slen hx hb hX hbl hbA hS dL_law_26 ?_
      refine lv_topi (fun z101 e9 => ?_)
      have e8 : (6 : Int32) = z101 := (e9.trans (by decide)).symm
      subst e8
      refine lv_bipush (v := 6) hx hb dL_law_27 (by decide) ?_
      refine lv_isub hx hb dL_law_29 ?_
      refine lv_topi (fun z102 e9 => ?_)
      obtain rfl : z102 = (0 : Int32) := e9.trans (by decide)
      refine lv_icmp_gt (tgt := 1492) hx hb dL_law_30 (by decide) (fun _ => ?_) (fun c9 => absurd (by decide) c9)
      refine lv_iconst (v := 1) hx hb dL_law_1492 (by decide) ?_
      refine va_forget (fun q hq => by have h9 := hS.2.2 q hq; rw [hAd] at h9; exact h9) ?_
      refine W.widen (k := 600002) (n := 7302232) (Nat.le_of_ble_eq_true rfl) (Nat.le_of_ble_eq_true rfl) ?_
      exact lw_ret hx hb hr hlocks dL_law_1493
    · refine lv_tableOut (x := nI 31) (tgt := 1486) hx hb dL_law_40 (by decide) (by decide) ?_
      refine lv_iinc (v := 6) (lv' := [(4, .int 6), (3, .ref q209), (2, .ref q175), (1, .ref q101), (0, .ref b)]) hx hb dL_law_1486 hl (k := 0) rfl (by decide) (by decide) rfl (fun ls hl => ?_)
      refine lv_goto (tgt := 23) hx hb dL_law_1489 (by decide) ?_
      refine lv_iload hx hb dL_law_23 (lv_at hl 0 rfl) ?_
      refine lv_aload_n hx hb dL_law_25 rfl (lv_at hl 4 rfl) ?_
      refine va_slen hx hb hX hbl hbA hS dL_law_26 ?_
      refine lv_topi (fun z101 e9 => ?_)
      have e8 : (6 : Int32) = z101 := (e9.trans (by decide)).symm
      subst e8
      refine lv_bipush (v := 6) hx hb dL_law_27 (by decide) ?_
      refine lv_isub hx hb dL_law_29 ?_
      refine lv_topi (fun z102 e9 => ?_)
      obtain rfl : z102 = (0 : Int32) := e9.trans (by decide)
      refine lv_icmp_gt (tgt := 1492) hx hb dL_law_30 (by decide) (fun _ => ?_) (fun c9 => absurd (by decide) c9)
      refine lv_iconst (v := 1) hx hb dL_law_1492 (by decide) ?_
      refine va_forget (fun q hq => by have h9 := hS.2.2 q hq; rw [hAd] at h9; exact h9) ?_
      refine W.widen (k := 600002) (n := 7302232) (Nat.le_of_ble_eq_true rfl) (Nat.le_of_ble_eq_true rfl) ?_
      exact lw_ret hx hb hr hlocks dL_law_1493
