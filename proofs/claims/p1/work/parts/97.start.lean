theorem dL_law_33 : decode cL_law 33 = .ok (.aload_n 0, 1) := by decide +kernel
theorem dL_law_34 : decode cL_law 34 = .ok (.iload 4, 2) := by decide +kernel
theorem dL_law_36 : decode cL_law 36 = .ok (.iaload, 1) := by decide +kernel
theorem dL_law_37 : decode cL_law 37 = .ok (.bipush 31, 2) := by decide +kernel
theorem dL_law_39 : decode cL_law 39 = .ok (.iand, 1) := by decide +kernel
theorem dL_law_40 : decode cL_law 40 = .ok (.tableswitch 1446 0 23 #[112, 185, 241, 297, 310, 366, 422, 435, 491, 559, 627, 695, 775, 855, 923, 979, 1035, 1091, 1147, 1215, 1271, 1339, 1407, 1421], 112) := by decide +kernel
theorem nm_nest_in : ∀ q ∈ nm_nest, Cond.methodLinkNest q.1 q.2.1 q.2.2.1 q.2.2.2 ∈ lw_tbl := by decide +kernel
def nm_ow : List Cond := [.arrayOver (.object "NameMangler$State"), .arrayOver (.object "NameMangler$Bytes"), .arrayOver (.array .byte), .arrayOver (.array (.array .byte)), .stringRef "NameMangler" 279 "no such argument", .stringRef "NameMangler" 272 "no such symbol, place or number", .castable "java/lang/IllegalArgumentException" "java/lang/IllegalArgumentException", .castable "java/util/NoSuchElementException" "java/util/NoSuchElementException", .declares ⟨"java/lang/RuntimeException", "<init>", "(Ljava/lang/String;)V"⟩, .declares ⟨"java/lang/Exception", "<init>", "(Ljava/lang/String;)V"⟩, .declares ⟨"java/lang/Throwable", "<init>", "(Ljava/lang/String;)V"⟩, .laysStatic "java/lang/Throwable" "UNASSIGNED_STACK" "[Ljava/lang/StackTraceElement;", .laysStatic "java/lang/Throwable" "SUPPRESSED_SENTINEL" "Ljava/util/List;", .initialized "java/lang/Throwable"]
theorem nm_ow_in : ∀ w ∈ nm_ow, w ∈ lw_tbl := by decide +kernel
theorem nm_arr {args : Array Value} {s : State} {ty : FieldType} (h : (Cond.arrayClass ty).before args s = true) : ∃ cA : ClassId, ArrOfT s cA ty ∧ s.vm.findClass ("[" ++ ty.toString) = some cA := by
  obtain ⟨c, k, comp, h1, h2, h3⟩ := Cond.arrayClass_spec h
  exact ⟨c, fun n z => ⟨fun k h => (by cases h), k, h2, comp, h3⟩, h1⟩
theorem nm_arrO {args : Array Value} {s : State} {C : String} (h : (Cond.arrayOver (.object C)).before args s = true) : ∃ cA : ClassId, ArrOfT s cA (.object C) ∧ va_RA s cA (.object C) := by
  obtain ⟨comp, c, k, h1, -, h3, h4, h5⟩ := Cond.arrayOver_spec h
  exact ⟨c, fun n z => ⟨fun k h => (by cases h), k, h3, comp, h4⟩, k, comp, h3, h4, h1, h5⟩
theorem nm_str {args : Array Value} {s : State} {k : Nat} {tx : String} (h1 : (Cond.stringRef "NameMangler" k tx).before args s = true) (h2 : (Cond.exactly (.string "NameMangler" k) "java/lang/String").before args s = true) : nm_Str k tx s := by
  obtain ⟨a, -, -, -, q1, -⟩ := Cond.exactly_spec (args := args) (first := s) (o := none) (s := s) (idx := []) (t := .string "NameMangler" k) (cls := "java/lang/String") h2
  exact ⟨a, vk_R.of h1 q1⟩
set_option maxHeartbeats 4000000 in
set_option maxRecDepth 100000 in
theorem nm_start {p : Program} {s : State} {m : MethodId} {meth : Method} {c : Code} {b L : Nat} {xs : Nat → Int32} (C0 : lw_At p s m meth c b L xs) : ∃ (D : va_G) (cI cB cJ cS : ClassId), nm_Amb D cI cB cJ cS s := by
  obtain ⟨hx, hb, hr, hml, hown, hts0, hX, hbl, hlocks, hgv⟩ := id C0
  have hts : ∀ w ∈ nm_big, w.before #[Value.ref b] s = true := fun w hw => hts0 w (List.mem_filter.mp hw).1
  have how : ∀ w ∈ nm_ow, w.before #[Value.ref b] s = true := fun w hw => hts0 w (nm_ow_in w hw)
  have hs := flat_of_before _ hgv
  obtain ⟨c0, iS0, hKn0⟩ := u_known (C := RX0) (T := TX0) (N := 2) (n := 2) hts iw_X0 (hts _ q_37)
  obtain ⟨c1, iS1, hKn1⟩ := u_known (C := RX1) (T := TX1) (N := 2) (n := 2) hts iw_X1 (hts _ q_62)
  obtain ⟨c2, iS2, hKn2⟩ := u_known (C := RX2) (T := TX2) (N := 8) (n := 8) hts iw_X2 (hts _ q_242)
  obtain ⟨c3, iS3, hKn3⟩ := u_known (C := RX3) (T := TX3) (N := 5) (n := 5) hts iw_X3 (hts _ q_313)
  obtain ⟨c4, iS4, hKn4⟩ := u_known (C := RX5) (T := TX5) (N := 3) (n := 3) hts iw_X5 (hts _ q_363)
  obtain ⟨c5, iS5, hKn5⟩ := u_known (C := RX6) (T := TX6) (N := 18) (n := 18) hts iw_X6 (hts _ q_56)
  obtain ⟨c6, iS6, hKn6⟩ := u_known (C := RX7) (T := TX7) (N := 5) (n := 5) hts iw_X7 (hts _ q_171)
  obtain ⟨c7, iS7, hKn7⟩ := u_known (C := RX8) (T := TX8) (N := 6) (n := 6) hts iw_X8 (hts _ q_177)
  obtain ⟨c8, iS8, hKn8⟩ := u_known (C := RX9) (T := TX9) (N := 6) (n := 6) hts iw_X9 (hts _ q_300)
  obtain ⟨c9, iS9, hKn9⟩ := u_known (C := RX10) (T := TX10) (N := 3) (n := 3) hts iw_X10 (hts _ q_342)
  obtain ⟨c10, iS10, hKn10⟩ := u_known (C := RX11) (T := TX11) (N := 18) (n := 18) hts iw_X11 (hts _ q_29)
  obtain ⟨c11, iS11, hKn11⟩ := u_known (C := RX12) (T := TX12) (N := 62) (n := 62) hts iw_X12 (hts _ q_1486)
  obtain ⟨dC, dI, hKc⟩ : ∃ (dC : Nat → ClassId) (dI : Nat → Nat → Nat), ∀ (k : Nat) (q : vw_C), nm_cl[k]? = some q → u_Kn s q.1 q.2.1 q.2.2 (dC k) (dI k) := by
    refine ⟨fun k => [c0, c1, c2, c3, c4, c5, c6, c7, c8, c9, c10, c11].getD k c0, fun k => [iS0, iS1, iS2, iS3, iS4, iS5, iS6, iS7, iS8, iS9, iS10, iS11].getD k iS0, ?_⟩
    intro k q hq
    match k, hq with
    | 0, hq => cases hq; exact hKn0
    | 1, hq => cases hq; exact hKn1
    | 2, hq => cases hq; exact hKn2
    | 3, hq => cases hq; exact hKn3
    | 4, hq => cases hq; exact hKn4
    | 5, hq => cases hq; exact hKn5
    | 6, hq => cases hq; exact hKn6
    | 7, hq => cases hq; exact hKn7
    | 8, hq => cases hq; exact hKn8
    | 9, hq => cases hq; exact hKn9
    | 10, hq => cases hq; exact hKn10
    | 11, hq => cases hq; exact hKn11
    | k + 12, hq => simp [nm_cl] at hq
  obtain ⟨cI, aI, fI⟩ := nm_arr (hts _ q_83)
  obtain ⟨cB, aB, fB⟩ := nm_arr (hts _ q_52)
  obtain ⟨cJ, aJ, fJ⟩ := nm_arr (hts _ q_1682)
  obtain ⟨cS, aS, fS⟩ := nm_arrO (how _ (List.mem_of_getElem? (i := 0) rfl))
  refine ⟨(dC, dI), cI, cB, cJ, cS, ⟨hKc, ?_⟩, fun q hq => va_Nw.of rfl (hts0 _ (nm_nest_in q hq)), va_AO.of (how _ (List.mem_of_getElem? (i := 0) rfl)), va_AO.of (how _ (List.mem_of_getElem? (i := 1) rfl)), how _ (List.mem_of_getElem? (i := 2) rfl), how _ (List.mem_of_getElem? (i := 3) rfl), nm_str (how _ (List.mem_of_getElem? (i := 4) rfl)) (hs _ (by decide +kernel)), nm_str (how _ (List.mem_of_getElem? (i := 5) rfl)) (hs _ (by decide +kernel)), va_Nw.of rfl (how _ (List.mem_of_getElem? (i := 6) rfl)), va_Nw.of rfl (how _ (List.mem_of_getElem? (i := 7) rfl))⟩
  intro k q hq
  match k, hq with
  | 0, hq => cases hq; exact ⟨aI, fI⟩
  | 1, hq => cases hq; exact ⟨aB, fB⟩
  | 2, hq => cases hq; exact ⟨aJ, fJ⟩
  | 3, hq => cases hq; exact ⟨aS, fS⟩
  | k + 4, hq => simp [nm_ty] at hq
set_option maxHeartbeats 4000000 in
set_option maxRecDepth 100000 in
theorem nm_startT {p : Program} {s : State} {m : MethodId} {meth : Method} {c : Code} {b L : Nat} {xs : Nat → Int32} (C0 : lw_At p s m meth c b L xs) {A : Nat → Prop} (hAd : A = fun q : Nat => s.heap.size ≤ q) : nm_Th A s := by
  obtain ⟨hx, hb, hr, hml, hown, hts0, hX, hbl, hlocks, hgv⟩ := id C0
  have how : ∀ w ∈ nm_ow, w.before #[Value.ref b] s = true := fun w hw => hts0 w (nm_ow_in w hw)
  have hs := flat_of_before _ hgv
  have hA : ∀ a : Nat, a < s.heap.size → ¬ A a := fun a h => by rw [hAd]; exact Nat.not_le.mpr h
  exact ⟨vx_Zqof (how _ (List.mem_of_getElem? (i := 11) rfl)) (how _ (List.mem_of_getElem? (i := 13) rfl)) (hs (Cond.isRef (.static "java/lang/Throwable" "UNASSIGNED_STACK" "[Ljava/lang/StackTraceElement;")) (by decide +kernel)) hA,
    vx_Zqof (how _ (List.mem_of_getElem? (i := 12) rfl)) (how _ (List.mem_of_getElem? (i := 13) rfl)) (hs (Cond.isRef (.static "java/lang/Throwable" "SUPPRESSED_SENTINEL" "Ljava/util/List;")) (by decide +kernel)) hA,
    va_Nw.of rfl (how _ (List.mem_of_getElem? (i := 8) rfl)), va_Nw.of rfl (how _ (List.mem_of_getElem? (i := 9) rfl)), va_Nw.of rfl (how _ (List.mem_of_getElem? (i := 10) rfl))⟩
