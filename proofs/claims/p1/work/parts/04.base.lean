/-- the good words of the tables -/
def nm_big : List Cond := lw_tbl.filter goodWord
theorem nm_in {w : Cond} (h : w ∈ lw_tbl) (g : goodWord w = true) : w ∈ nm_big := List.mem_filter.mpr ⟨h, g⟩
theorem nm_gg : GoodIn nm_big nm_big := fun w h => ⟨h, good_of_word (List.mem_filter.mp h).2⟩
theorem nm_gW {w : Cond} (h : w ∈ nm_big) : GoodIn nm_big (w :: nm_big) := fun v hv => by
  rcases List.mem_cons.mp hv with rfl | hv
  · exact nm_gg _ h
  · exact nm_gg _ hv
theorem nm_gV {own : String} {idx : Nat} {C : String} {y : MethodName} {w : Cond} (h1 : Cond.methodLink own idx y ∈ nm_big) (h2 : Cond.instanceMethod y ∈ nm_big) (h3 : Cond.selects C y y ∈ nm_big) (h4 : Cond.initialized C ∈ nm_big) (h : w ∈ nm_big) : GoodIn nm_big (wsV own idx C y (w :: nm_big)) := fun v hv => by
  unfold wsV at hv
  simp only [List.mem_append, List.mem_cons, List.not_mem_nil, or_false] at hv
  rcases hv with (rfl | rfl | rfl | rfl) | rfl | hv
  · exact nm_gg _ h1
  · exact nm_gg _ h2
  · exact nm_gg _ h3
  · exact nm_gg _ h4
  · exact nm_gg _ h
  · exact nm_gg _ hv
theorem nm_gS {own : String} {idx : Nat} {y : MethodName} {w : Cond} (h1 : Cond.methodLink own idx y ∈ nm_big) (h2 : Cond.static y ∈ nm_big) (h3 : Cond.initialized y.cls ∈ nm_big) (h : w ∈ nm_big) : GoodIn nm_big (va_wsS own idx y (w :: nm_big)) := fun v hv => by
  unfold va_wsS at hv
  simp only [List.mem_append, List.mem_cons, List.not_mem_nil, or_false] at hv
  rcases hv with (rfl | rfl | rfl) | rfl | hv
  · exact nm_gg _ h1
  · exact nm_gg _ h2
  · exact nm_gg _ h3
  · exact nm_gg _ h
  · exact nm_gg _ hv
theorem nm_gU {own : String} {idx : Nat} {C owner : String} {x y : MethodName} {w : Cond} (h1 : Cond.methodLink own idx x ∈ nm_big) (h2 : Cond.sameMethod x.cls owner x.name x.desc ∈ nm_big) (h3 : Cond.selects C x y ∈ nm_big) (h4 : Cond.instanceMethod y ∈ nm_big) (h5 : Cond.initialized y.cls ∈ nm_big) (h : w ∈ nm_big) : GoodIn nm_big (va_wsU own idx C owner x y (w :: nm_big)) := fun v hv => by
  unfold va_wsU at hv
  simp only [List.mem_append, List.mem_cons, List.not_mem_nil, or_false] at hv
  rcases hv with (rfl | rfl | rfl | rfl | rfl) | rfl | hv
  · exact nm_gg _ h1
  · exact nm_gg _ h2
  · exact nm_gg _ h3
  · exact nm_gg _ h4
  · exact nm_gg _ h5
  · exact nm_gg _ h
  · exact nm_gg _ hv
def nm_nest : List (String × Nat × MethodName × String) := [("NameMangler", 9, ⟨"NameMangler$Bytes", "<init>", "()V"⟩, "NameMangler"), ("NameMangler", 38, ⟨"NameMangler$Store", "<init>", "()V"⟩, "NameMangler"), ("NameMangler$Store", 11, ⟨"NameMangler$Ints", "<init>", "()V"⟩, "NameMangler"), ("NameMangler$Store", 69, ⟨"NameMangler$Bytes", "<init>", "()V"⟩, "NameMangler"), ("NameMangler$Symbol", 11, ⟨"NameMangler$Table", "<init>", "()V"⟩, "NameMangler"), ("NameMangler$Table", 11, ⟨"NameMangler$Ints", "<init>", "()V"⟩, "NameMangler"), ("NameMangler$Symbol", 20, ⟨"NameMangler$Ints", "<init>", "()V"⟩, "NameMangler"), ("NameMangler$Reader", 11, ⟨"NameMangler$Bytes", "<init>", "()V"⟩, "NameMangler"), ("NameMangler$NameReader", 11, ⟨"NameMangler$Table", "<init>", "()V"⟩, "NameMangler"), ("NameMangler$NameWriter", 11, ⟨"NameMangler$Table", "<init>", "()V"⟩, "NameMangler"), ("NameMangler$NameWriter", 20, ⟨"NameMangler$Ints", "<init>", "()V"⟩, "NameMangler"), ("NameMangler$NameWriter", 27, ⟨"NameMangler$Bytes", "<init>", "()V"⟩, "NameMangler"), ("NameMangler$TextWriter", 11, ⟨"NameMangler$Ints", "<init>", "()V"⟩, "NameMangler"), ("NameMangler$TextWriter", 20, ⟨"NameMangler$Bytes", "<init>", "()V"⟩, "NameMangler"), ("NameMangler", 94, ⟨"NameMangler$Ints", "<init>", "()V"⟩, "NameMangler"), ("NameMangler", 102, ⟨"NameMangler$State", "<init>", "()V"⟩, "NameMangler"), ("NameMangler$State", 25, ⟨"NameMangler$Bytes", "<init>", "()V"⟩, "NameMangler"), ("NameMangler$TextReader", 67, ⟨"NameMangler", "isLetter", "(I)Z"⟩, "NameMangler"), ("NameMangler$TextReader", 111, ⟨"NameMangler", "basicAt", "(LNameMangler$Bytes;II)I"⟩, "NameMangler"), ("NameMangler$Store", 142, ⟨"NameMangler", "digits", "(I)I"⟩, "NameMangler"), ("NameMangler$Store", 145, ⟨"NameMangler", "basicWord", "(I)Ljava/lang/String;"⟩, "NameMangler"), ("NameMangler$NameReader", 89, ⟨"NameMangler", "isDigit", "(I)Z"⟩, "NameMangler"), ("NameMangler$Reader", 80, ⟨"NameMangler", "isDigit", "(I)Z"⟩, "NameMangler"), ("NameMangler$NameReader", 209, ⟨"NameMangler", "isLetter", "(I)Z"⟩, "NameMangler"), ("NameMangler$NameReader", 212, ⟨"NameMangler", "basicAt", "(LNameMangler$Bytes;II)I"⟩, "NameMangler"), ("NameMangler$NameWriter", 94, ⟨"NameMangler", "signAt", "(Ljava/lang/String;I)I"⟩, "NameMangler"), ("NameMangler$TextWriter", 78, ⟨"NameMangler", "basicWord", "(I)Ljava/lang/String;"⟩, "NameMangler"), ("NameMangler$TextWriter", 100, ⟨"NameMangler", "signAt", "(Ljava/lang/String;I)I"⟩, "NameMangler")]
theorem nm_old {D : va_G} {cl : List vw_C} {ws : va_W} {H H1 : Heap} (hP : va_P D cl ws H) (hold : ∀ q : Nat, q < H.size → H1[q]? = H[q]?) : va_P D cl ws H1 := by
  intro k q hq
  have h := hP k q hq
  obtain ⟨a, e⟩ := q
  cases e with
  | inl x =>
    have h' : H[a]? = some (vp_cell x.1 x.2) := h
    show H1[a]? = some (vp_cell x.1 x.2)
    rw [hold a (Array.getElem?_eq_some_iff.mp h').1]; exact h'
  | inr o =>
    obtain ⟨r, hr, cell, h', hrest⟩ := h
    exact ⟨r, hr, cell, by rw [hold a (Array.getElem?_eq_some_iff.mp h').1]; exact h', hrest⟩
theorem nm_oldS {A : Nat → Prop} {H0 H H1 : Heap} {locs : List Loc} (hS : va_S A H0 H locs) (hz : H.size ≤ H1.size) (hold : ∀ q : Nat, q < H.size → H1[q]? = H[q]?) : va_S A H0 H1 locs :=
  ⟨Nat.le_trans hS.1 hz, fun q hq hA => by rw [hold q (Nat.lt_of_lt_of_le hq hS.1)]; exact hS.2.1 q hq hA, hS.2.2⟩
/-! the classes whose objects the worlds hold, the array classes, and what every contract carries along -/
abbrev nm_cl : List vw_C := [(RX0, TX0, 2), (RX1, TX1, 2), (RX2, TX2, 8), (RX3, TX3, 5), (RX5, TX5, 3), (RX6, TX6, 18), (RX7, TX7, 5), (RX8, TX8, 6), (RX9, TX9, 6), (RX10, TX10, 3), (RX11, TX11, 18), (RX12, TX12, 62)]
abbrev nm_ty (cI cB cJ cS : ClassId) : List (ClassId × FieldType) := [(cI, .int), (cB, .byte), (cJ, .long), (cS, .object "NameMangler$State")]
def nm_AA (t : FieldType) (U : State) : Prop := (Cond.arrayOver (.array t)).before #[] U = true
theorem nm_AA.moved {t : FieldType} {u U : State} (hvm : u.vm.Alike U.vm) (h : nm_AA t u) : nm_AA t U := by
  obtain ⟨comp, c, k, h1, h2, h3, h4, h5⟩ := arrayOverA_spec h
  obtain ⟨k', hk', he⟩ := hvm.2.2 _ _ h3
  have hi : (U.vm.classes.findIdx? fun (x : Class) => match x.kind with | .array component _ => component == comp | _ => false) = some c := by
    rw [hvm.findIdx?_eq _ (fun _ => rfl)]; exact h2
  have hkind : k'.kind = .array comp (.array t) := by rw [he]; exact h4
  have f1 : U.vm.findClass (FieldType.array t).toString = some comp := by rw [hvm.findClass]; exact h1
  have f2 : U.vm.findClass ("[" ++ (FieldType.array t).toString) = some c := by rw [hvm.findClass]; exact h5
  unfold nm_AA Cond.before Cond.holds
  simp only [Cond.value]
  rw [f1, Option.bind_some]
  refine (congrArg (fun o : Option Nat => (o.bind (fun c => (U.vm.classes[c]?).map fun (k : Class) => match k.kind with | .array _ ty => decide (ty = FieldType.array t) && decide (U.vm.findClass ("[" ++ (FieldType.array t).toString) = some c) | _ => false) == some true)) hi).trans ?_
  simp [hk', hkind, f2]
def nm_Str (k : Nat) (tx : String) (U : State) : Prop := ∃ a : Nat, vk_R "NameMangler" k tx a U
def nm_Amb (D : va_G) (cI cB cJ cS : ClassId) (U : State) : Prop :=
  va_K D nm_cl (nm_ty cI cB cJ cS) U ∧ (∀ q ∈ nm_nest, va_Nw (.methodLinkNest q.1 q.2.1 q.2.2.1 q.2.2.2) U) ∧ va_AO "NameMangler$State" U ∧ va_AO "NameMangler$Bytes" U ∧ nm_AA .byte U ∧ nm_AA (.array .byte) U ∧
  nm_Str 279 "no such argument" U ∧ nm_Str 272 "no such symbol, place or number" U ∧ va_Nw (.castable "java/lang/IllegalArgumentException" "java/lang/IllegalArgumentException") U ∧ va_Nw (.castable "java/util/NoSuchElementException" "java/util/NoSuchElementException") U
theorem nm_Amb.warm {D : va_G} {cI cB cJ cS : ClassId} {s U : State} (hW : s.WarmedH U.vm) (h : nm_Amb D cI cB cJ cS s) : nm_Amb D cI cB cJ cS U := by
  obtain ⟨h1, h2, h3, h4, h5, h6, ⟨a7, h7⟩, ⟨a8, h8⟩, h9, h10⟩ := h
  exact ⟨va_K.moved hW.alike h1, fun q hq => va_Nw.warmM hW (h2 q hq), va_AO.moved hW.alike h3, va_AO.moved hW.alike h4, nm_AA.moved hW.alike h5, nm_AA.moved hW.alike h6, ⟨a7, h7.warm hW⟩, ⟨a8, h8.warm hW⟩, va_Nw.warmC hW h9, va_Nw.warmC hW h10⟩
theorem nm_Amb.same {D : va_G} {cI cB cJ cS : ClassId} {s U : State} (hv : U.vm = s.vm) (h : nm_Amb D cI cB cJ cS s) : nm_Amb D cI cB cJ cS U := by
  obtain ⟨h1, h2, h3, h4, h5, h6, ⟨a7, h7⟩, ⟨a8, h8⟩, h9, h10⟩ := h
  have ha : s.vm.Alike U.vm := by rw [hv]; exact Vm.Alike.refl _
  exact ⟨va_K.moved ha h1, fun q hq => va_Nw.same rfl hv.symm (h2 q hq), va_AO.moved ha h3, va_AO.moved ha h4, nm_AA.moved ha h5, nm_AA.moved ha h6, ⟨a7, h7.same hv⟩, ⟨a8, h8.same hv⟩, va_Nw.same rfl hv.symm h9, va_Nw.same rfl hv.symm h10⟩
/-- a contract's start -/
def nm_P (D : va_G) (cI cB cJ cS : ClassId) (av : List Value) (sz : Nat) (ws : va_W) : Array Value → State → Prop := va_Pc av (fun U => U.heap.size = sz ∧ va_P D nm_cl ws U.heap ∧ nm_Amb D cI cB cJ cS U ∧ va_D (fun _ => True) ws)
theorem nm_P.blind (D : va_G) (cI cB cJ cS : ClassId) (av : List Value) (sz : Nat) (ws : va_W) : FrameBlind (nm_P D cI cB cJ cS av sz ws) := fun a U g mk q => by
  obtain ⟨q0, q1, qP, qK, qD⟩ := q
  exact ⟨q0, q1, qP, nm_Amb.same (s := U) (U := U.calling g mk a) rfl qK, qD⟩
/-- its end: what lies there for the tuple z -/
def nm_B {Z : Type} (D : va_G) (POST : Z → va_W) (A : Nat → Prop) : Z → State → Prop := fun z t => va_P D nm_cl (POST z) t.heap ∧ va_D A (POST z)
def nm_Br {Z : Type} (D : va_G) (at_ : Z → Nat) (POST : Z → va_W) (A : Nat → Prop) : Z → Nat → State → Prop := fun z a t => a = at_ z ∧ va_P D nm_cl (POST z) t.heap ∧ va_D A (POST z)
theorem nm_preS {D : va_G} {cI cB cJ cS : ClassId} {av : List Value} {s : State} {H : Heap} {A : Nat → Prop} {wc : va_W} (hP : va_P D nm_cl wc H) (hD : va_D A wc) (hM : nm_Amb D cI cB cJ cS s) : PreS s H (nm_P D cI cB cJ cS av H.size wc) av :=
  ⟨nm_P.blind D cI cB cJ cS av H.size wc, fun U hU hW => ⟨rfl, by rw [hU], by rw [hU]; exact hP, hM.warm hW, hD.weaken (fun _ _ _ _ => trivial)⟩⟩
theorem nm_preV {D : va_G} {cI cB cJ cS : ClassId} {As : List Value} {b : Nat} {s : State} {H : Heap} {A : Nat → Prop} {wc : va_W} (hP : va_P D nm_cl wc H) (hD : va_D A wc) (hM : nm_Amb D cI cB cJ cS s) (q0 : Nat) {ci : Nat} {q : vw_C} {fs : List Value} (hc : nm_cl[ci]? = some q) (he : wc[q0]? = some (b, .inr (ci, fs))) : PreV s H q.1 b (nm_P D cI cB cJ cS (.ref b :: As) H.size wc) As :=
  ⟨nm_P.blind D cI cB cJ cS _ H.size wc, va_recv hM.1 hP hc he, fun U hU hW => ⟨rfl, by rw [hU], by rw [hU]; exact hP, hM.warm hW, hD.weaken (fun _ _ _ _ => trivial)⟩⟩
/-- a method's contract out of the walk of its body -/
theorem nm_Met {l : Launch} {D : va_G} {cI cB cJ cS : ClassId} {y : MethodName} {cc : ByteArray} {maxL : Nat} {ret : Option FieldType} {rm : Room} {av : List Value} {sz : Nat} {ws : va_W} {Qc : (Nat → Prop) → Array Value → State → Outcome → State → Prop} {mc ms : Nat}
    (hy : plainName y.cls = true) (hav : (lg_sl av).length ≤ maxL)
    (body : ∀ (p : Program) (e : Env) (s : State) (m : MethodId) (below : List Frame) (meth : Method) (c : Code) (A : Nat → Prop) (ls : Array Slot), p.tables.exec = Jvm.exec → c.code = cc → meth.sig.returnType = ret → c.maxLocals = maxL → (∀ w ∈ nm_big, w.before av.toArray s = true) → s.vm.findClass y.cls = some m.cls → meth.locks = false → meth.name = y.name → nm_Amb D cI cB cJ cS s →
      va_P D nm_cl ws s.heap → va_D A ws → va_S A s.heap s.heap [] → (∀ q : Nat, s.heap.size ≤ q → A q) → lv_has ls maxL (lv_args 0 av) →
      W p l e rm s m av.toArray below meth c s.heap [] 0 0 (MQ below (Qc A) av.toArray s mc ms A) (F0 m 0 ls [])) :
    Met l y (.code y cc maxL ret :: nm_big) rm (nm_P D cI cB cJ cS av sz ws) (Qc (va_A ws sz)) mc ms (va_A ws sz) := by
  refine Met.ofW (cc := cc) (maxL := maxL) (ret := ret) hy rfl ?_
  intro p e s m args below meth c s₁ B hml hv
  obtain ⟨rfl, hsz, hP, hM, hD0⟩ := hv
  have hts := atoms_spec (ws := .code y cc maxL ret :: nm_big) B.pre
  have hown : s.vm.findClass y.cls = some m.cls := findClass_of_methodNamed B.named
  have hin : meth.name = y.name := (name_of_methodNamed B.named B.method).1
  subst hsz
  have hD := hD0.self (sz := s.heap.size)
  have hl := lv_entry av (n := maxL) hav
  rw [lg_entry_eq]
  exact body p e s m below meth c _ _ B.exec B.bytes B.returns hml (fun w hw => hts w (List.mem_cons_of_mem _ hw)) hown B.notSynchronized hin hM hP hD va_S.rf (fun q h => Or.inr h) hl
section NMB
variable {p : Program} {l : Launch} {e : Env} {R : Room} {s : State} {m : MethodId} {args : Array Value} {below : List Frame} {meth : Method} {c : Code} {H : Heap} {locs : List Loc} {cells slots : Nat} {Q : State → Prop}
variable {cc : ByteArray} {pc : Nat} {ls : Array Slot} {rest st0 : List Value} {a : Array Value} {A : Nat → Prop} {H0 : Heap} {mc ms k n : Nat} {D : va_G} {ws wc wr : va_W} {Z : Type}
theorem nm_callv {post : Z → Prop} {POST : Z → va_W} (hr : va_Run p l e R s m args below meth c H locs cells slots mc ms (F0 m pc ls st0) rest (va_Qv post (nm_B D POST (va_A wc H.size)) (va_A wc H.size) a) (va_A wc H.size)) (hP : va_P D nm_cl ws H) (hD : va_D A ws) (hS : va_S A H0 H locs) (hA : ∀ q, H0.size ≤ q → A q)
    (isC isR : List Nat) (hC : isC.map (fun i => ws[i]?) = wc.map some) (hR : isR.map (fun i => ws[i]?) = wr.map some) (hn : va_nd isR = true) (hdis : ∀ i ∈ isR, i ∉ isC) (h1 : cells + mc ≤ k) (h2 : slots + ms ≤ n)
    (kk : ∀ (u : Z) (H1 : Heap) (locs1 : List Loc), post u → va_P D nm_cl (wr ++ POST u) H1 → va_D A (wr ++ POST u) → va_S A H0 H1 locs1 → W p l e R s m args below meth c H1 locs1 k n Q (F0 m (pc + 3) ls rest)) : W p l e R s m args below meth c H locs cells slots Q (F0 m pc ls st0) := by
  have hFc := va_free hD hS hA isC hC
  refine va_callv hr hS (fun q _ h => hFc q h) hFc (fun u t H1 locs1 ht hvm hw hB hz1 hk1 hS1 => ?_)
  obtain ⟨hP1, hD1⟩ := hB
  rw [ht] at hP1
  obtain ⟨hP2, hD2⟩ := va_join hP hD isC isR hC hR hn hdis hk1 hFc hP1 hD1
  exact W.widen h1 h2 (kk u H1 locs1 hw hP2 hD2 hS1)
theorem nm_calli {post : Int32 → Z → Prop} {POST : Z → va_W} (hr : va_Run p l e R s m args below meth c H locs cells slots mc ms (F0 m pc ls st0) rest (va_Qi post (nm_B D POST (va_A wc H.size)) (va_A wc H.size) a) (va_A wc H.size)) (hP : va_P D nm_cl ws H) (hD : va_D A ws) (hS : va_S A H0 H locs) (hA : ∀ q, H0.size ≤ q → A q)
    (isC isR : List Nat) (hC : isC.map (fun i => ws[i]?) = wc.map some) (hR : isR.map (fun i => ws[i]?) = wr.map some) (hn : va_nd isR = true) (hdis : ∀ i ∈ isR, i ∉ isC) (h1 : cells + mc ≤ k) (h2 : slots + ms ≤ n)
    (kk : ∀ (r : Int32) (u : Z) (H1 : Heap) (locs1 : List Loc), post r u → va_P D nm_cl (wr ++ POST u) H1 → va_D A (wr ++ POST u) → va_S A H0 H1 locs1 → W p l e R s m args below meth c H1 locs1 k n Q (F0 m (pc + 3) ls (.int r :: rest))) : W p l e R s m args below meth c H locs cells slots Q (F0 m pc ls st0) := by
  have hFc := va_free hD hS hA isC hC
  refine va_calli hr hS (fun q _ h => hFc q h) hFc (fun r u t H1 locs1 ht hvm hw hB hz1 hk1 hS1 => ?_)
  obtain ⟨hP1, hD1⟩ := hB
  rw [ht] at hP1
  obtain ⟨hP2, hD2⟩ := va_join hP hD isC isR hC hR hn hdis hk1 hFc hP1 hD1
  exact W.widen h1 h2 (kk r u H1 locs1 hw hP2 hD2 hS1)
theorem nm_calll {post : Int64 → Z → Prop} {POST : Z → va_W} (hr : va_Run p l e R s m args below meth c H locs cells slots mc ms (F0 m pc ls st0) rest (va_Ql post (nm_B D POST (va_A wc H.size)) (va_A wc H.size) a) (va_A wc H.size)) (hP : va_P D nm_cl ws H) (hD : va_D A ws) (hS : va_S A H0 H locs) (hA : ∀ q, H0.size ≤ q → A q)
    (isC isR : List Nat) (hC : isC.map (fun i => ws[i]?) = wc.map some) (hR : isR.map (fun i => ws[i]?) = wr.map some) (hn : va_nd isR = true) (hdis : ∀ i ∈ isR, i ∉ isC) (h1 : cells + mc ≤ k) (h2 : slots + ms ≤ n)
    (kk : ∀ (r : Int64) (u : Z) (H1 : Heap) (locs1 : List Loc), post r u → va_P D nm_cl (wr ++ POST u) H1 → va_D A (wr ++ POST u) → va_S A H0 H1 locs1 → W p l e R s m args below meth c H1 locs1 k n Q (F0 m (pc + 3) ls (.long r :: rest))) : W p l e R s m args below meth c H locs cells slots Q (F0 m pc ls st0) := by
  have hFc := va_free hD hS hA isC hC
  refine va_calll hr hS (fun q _ h => hFc q h) hFc (fun r u t H1 locs1 ht hvm hw hB hz1 hk1 hS1 => ?_)
  obtain ⟨hP1, hD1⟩ := hB
  rw [ht] at hP1
  obtain ⟨hP2, hD2⟩ := va_join hP hD isC isR hC hR hn hdis hk1 hFc hP1 hD1
  exact W.widen h1 h2 (kk r u H1 locs1 hw hP2 hD2 hS1)
theorem nm_callr {post : Z → Prop} {at_ : Z → Nat} {POST : Z → va_W} (hr : va_Run p l e R s m args below meth c H locs cells slots mc ms (F0 m pc ls st0) rest (va_Qr post (nm_Br D at_ POST (va_A wc H.size)) (va_A wc H.size) a) (va_A wc H.size)) (hP : va_P D nm_cl ws H) (hD : va_D A ws) (hS : va_S A H0 H locs) (hA : ∀ q, H0.size ≤ q → A q)
    (isC isR : List Nat) (hC : isC.map (fun i => ws[i]?) = wc.map some) (hR : isR.map (fun i => ws[i]?) = wr.map some) (hn : va_nd isR = true) (hdis : ∀ i ∈ isR, i ∉ isC) (h1 : cells + mc ≤ k) (h2 : slots + ms ≤ n)
    (kk : ∀ (u : Z) (H1 : Heap) (locs1 : List Loc), post u → va_P D nm_cl (wr ++ POST u) H1 → va_D A (wr ++ POST u) → va_S A H0 H1 locs1 → W p l e R s m args below meth c H1 locs1 k n Q (F0 m (pc + 3) ls (.ref (at_ u) :: rest))) : W p l e R s m args below meth c H locs cells slots Q (F0 m pc ls st0) := by
  have hFc := va_free hD hS hA isC hC
  refine va_callr hr hS (fun q _ h => hFc q h) hFc (fun u ra t H1 locs1 ht hvm hw hB hz1 hk1 hS1 => ?_)
  obtain ⟨rfl, hP1, hD1⟩ := hB
  rw [ht] at hP1
  obtain ⟨hP2, hD2⟩ := va_join hP hD isC isR hC hR hn hdis hk1 hFc hP1 hD1
  exact W.widen h1 h2 (kk u H1 locs1 hw hP2 hD2 hS1)
variable {cI cB cJ cS : ClassId}
/-- a new array of ints, kept -/
theorem nm_newi (hexec : p.tables.exec = Jvm.exec) (hb : c.code = cc) (harr : (Cond.arrayClass .int).before args s = true) (hM : nm_Amb D cI cB cJ cS s) (hP : va_P D nm_cl ws H) (hD : va_D A ws) (hS : va_S A H0 H locs) (hA : ∀ q, H0.size ≤ q → A q) {i : Int32} {N : Nat} (hn : ¬ i < 0) (hN : i.toNatClampNeg = N) (hbytes : N * 4 ≤ 536870912) (hcells : cells + 1 ≤ R.cells) (hslots : slots + N ≤ R.slots) (hdg : decode cc pc = .ok (.newarray .int, 2)) (h1 : cells + 1 ≤ k) (h2 : slots + N ≤ n)
    (kk : ∀ (q : Nat) (H1 : Heap), va_P D nm_cl (ws ++ [(q, .inl (cI, N, .inl (fun _ => 0)))]) H1 → va_D A (ws ++ [(q, .inl (cI, N, .inl (fun _ => 0)))]) → va_S A H0 H1 locs → W p l e R s m args below meth c H1 locs k n Q (F0 m (pc + 2) ls (.ref q :: rest))) : W p l e R s m args below meth c H locs cells slots Q (F0 m pc ls (.int i :: rest)) := by
  refine va_newa (atype := .int) (ty := .int) (a0 := (N, .inl (fun _ => 0))) hexec hb harr rfl hM.1 hP hD hS hA (fun _ => rfl) hn hN hbytes hcells hslots hdg (fun q cA H1 hK1 hP1 hD1 hS1 => ?_)
  have e1 := (hM.1.2 0 (cI, .int) rfl).2
  have e2 := (hK1.2 4 (cA, .int) rfl).2
  have e3 : cA = cI := Option.some.inj (e2.symm.trans e1)
  subst e3
  exact W.widen h1 h2 (kk q H1 hP1 hD1 hS1)
theorem nm_newb (hexec : p.tables.exec = Jvm.exec) (hb : c.code = cc) (harr : (Cond.arrayClass .byte).before args s = true) (hM : nm_Amb D cI cB cJ cS s) (hP : va_P D nm_cl ws H) (hD : va_D A ws) (hS : va_S A H0 H locs) (hA : ∀ q, H0.size ≤ q → A q) {i : Int32} {N : Nat} (hn : ¬ i < 0) (hN : i.toNatClampNeg = N) (hbytes : N * 1 ≤ 536870912) (hcells : cells + 1 ≤ R.cells) (hslots : slots + N ≤ R.slots) (hdg : decode cc pc = .ok (.newarray .byte, 2)) (h1 : cells + 1 ≤ k) (h2 : slots + N ≤ n)
    (kk : ∀ (q : Nat) (H1 : Heap), va_P D nm_cl (ws ++ [(q, .inl (cB, N, .inl (fun _ => 0)))]) H1 → va_D A (ws ++ [(q, .inl (cB, N, .inl (fun _ => 0)))]) → va_S A H0 H1 locs → W p l e R s m args below meth c H1 locs k n Q (F0 m (pc + 2) ls (.ref q :: rest))) : W p l e R s m args below meth c H locs cells slots Q (F0 m pc ls (.int i :: rest)) := by
  refine va_newa (atype := .byte) (ty := .byte) (a0 := (N, .inl (fun _ => 0))) hexec hb harr rfl hM.1 hP hD hS hA (fun _ => rfl) hn hN hbytes hcells hslots hdg (fun q cA H1 hK1 hP1 hD1 hS1 => ?_)
  have e1 := (hM.1.2 1 (cB, .byte) rfl).2
  have e2 := (hK1.2 4 (cA, .byte) rfl).2
  have e3 : cA = cB := Option.some.inj (e2.symm.trans e1)
  subst e3
  exact W.widen h1 h2 (kk q H1 hP1 hD1 hS1)
theorem nm_newl (hexec : p.tables.exec = Jvm.exec) (hb : c.code = cc) (harr : (Cond.arrayClass .long).before args s = true) (hM : nm_Amb D cI cB cJ cS s) (hP : va_P D nm_cl ws H) (hD : va_D A ws) (hS : va_S A H0 H locs) (hA : ∀ q, H0.size ≤ q → A q) {i : Int32} {N : Nat} (hn : ¬ i < 0) (hN : i.toNatClampNeg = N) (hbytes : N * 8 ≤ 536870912) (hcells : cells + 1 ≤ R.cells) (hslots : slots + N ≤ R.slots) (hdg : decode cc pc = .ok (.newarray .long, 2)) (h1 : cells + 1 ≤ k) (h2 : slots + N ≤ n)
    (kk : ∀ (q : Nat) (H1 : Heap), va_P D nm_cl (ws ++ [(q, .inl (cJ, N, .inr (.inl (fun _ => 0))))]) H1 → va_D A (ws ++ [(q, .inl (cJ, N, .inr (.inl (fun _ => 0))))]) → va_S A H0 H1 locs → W p l e R s m args below meth c H1 locs k n Q (F0 m (pc + 2) ls (.ref q :: rest))) : W p l e R s m args below meth c H locs cells slots Q (F0 m pc ls (.int i :: rest)) := by
  refine va_newa (atype := .long) (ty := .long) (a0 := (N, .inr (.inl (fun _ => 0)))) hexec hb harr rfl hM.1 hP hD hS hA (fun _ => rfl) hn hN hbytes hcells hslots hdg (fun q cA H1 hK1 hP1 hD1 hS1 => ?_)
  have e1 := (hM.1.2 2 (cJ, .long) rfl).2
  have e2 := (hK1.2 4 (cA, .long) rfl).2
  have e3 : cA = cJ := Option.some.inj (e2.symm.trans e1)
  subst e3
  exact W.widen h1 h2 (kk q H1 hP1 hD1 hS1)
/-- a new array of references to objects of C: its cell is forgotten -/
theorem nm_newq0 (hexec : p.tables.exec = Jvm.exec) (hb : c.code = cc) {own C : String} {index : Nat} (hown : s.vm.findClass own = some m.cls) (hclink : (Cond.classLink own index C).before args s = true) (hover : va_AO C s) (hM : nm_Amb D cI cB cJ cS s) (hP : va_P D nm_cl ws H) (hD : va_D A ws) (hS : va_S A H0 H locs) (hA : ∀ q, H0.size ≤ q → A q) {i : Int32} {N : Nat} (hn : ¬ i < 0) (hN : i.toNatClampNeg = N) (hbytes : N * 4 ≤ 536870912) (hcells : cells + 1 ≤ R.cells) (hslots : slots + N ≤ R.slots) (hdg : decode cc pc = .ok (.anewarray index, 3)) (h1 : cells + 1 ≤ k) (h2 : slots + N ≤ n)
    (kk : ∀ (q : Nat) (H1 : Heap), va_P D nm_cl ws H1 → va_D A ws → va_S A H0 H1 locs → W p l e R s m args below meth c H1 locs k n Q (F0 m (pc + 3) ls (.ref q :: rest))) : W p l e R s m args below meth c H locs cells slots Q (F0 m pc ls (.int i :: rest)) := by
  refine va_newq hexec hb hown hclink hover hM.1 hP hD hS hA hn hN hbytes hcells hslots hdg (fun q cA H1 hK1 hP1 hD1 hS1 => ?_)
  exact W.widen h1 h2 (kk q H1 (fun i0 q0 h0 => hP1 i0 q0 (by rw [List.getElem?_append_left (List.getElem?_eq_some_iff.mp h0).1]; exact h0)) hD hS1)
/-- a new array of State -/
theorem nm_newq (hexec : p.tables.exec = Jvm.exec) (hb : c.code = cc) {own : String} {index : Nat} (hown : s.vm.findClass own = some m.cls) (hclink : (Cond.classLink own index "NameMangler$State").before args s = true) (hM : nm_Amb D cI cB cJ cS s) (hP : va_P D nm_cl ws H) (hD : va_D A ws) (hS : va_S A H0 H locs) (hA : ∀ q, H0.size ≤ q → A q) {i : Int32} {N : Nat} (hn : ¬ i < 0) (hN : i.toNatClampNeg = N) (hbytes : N * 4 ≤ 536870912) (hcells : cells + 1 ≤ R.cells) (hslots : slots + N ≤ R.slots) (hdg : decode cc pc = .ok (.anewarray index, 3)) (h1 : cells + 1 ≤ k) (h2 : slots + N ≤ n)
    (kk : ∀ (q : Nat) (H1 : Heap), va_P D nm_cl (ws ++ [(q, .inl (cS, N, .inr (.inr (.inr (.inr (fun _ => none))))))]) H1 → va_D A (ws ++ [(q, .inl (cS, N, .inr (.inr (.inr (.inr (fun _ => none))))))]) → va_S A H0 H1 locs → W p l e R s m args below meth c H1 locs k n Q (F0 m (pc + 3) ls (.ref q :: rest))) : W p l e R s m args below meth c H locs cells slots Q (F0 m pc ls (.int i :: rest)) := by
  refine va_newq hexec hb hown hclink hM.2.2.1 hM.1 hP hD hS hA hn hN hbytes hcells hslots hdg (fun q cA H1 hK1 hP1 hD1 hS1 => ?_)
  obtain ⟨kA, comp, -, -, -, e1⟩ := (hM.1.2 3 (cS, .object "NameMangler$State") rfl).2
  obtain ⟨kA2, comp2, -, -, -, e2⟩ := (hK1.2 4 (cA, .object "NameMangler$State") rfl).2
  have e3 : cA = cS := Option.some.inj (e2.symm.trans e1)
  subst e3
  exact W.widen h1 h2 (kk q H1 hP1 hD1 hS1)
/-- a new array of arrays: its cell is forgotten -/
theorem nm_newA0 (hexec : p.tables.exec = Jvm.exec) (hb : c.code = cc) {own : String} {index : Nat} {t : FieldType} (hown : s.vm.findClass own = some m.cls) (hclink : (Cond.classLink own index (FieldType.array t).toString).before args s = true) (hover : nm_AA t s) (hP : va_P D nm_cl ws H) (hD : va_D A ws) (hS : va_S A H0 H locs) {i : Int32} {N : Nat} (hn : ¬ i < 0) (hN : i.toNatClampNeg = N) (hbytes : N * 4 ≤ 536870912) (hcells : cells + 1 ≤ R.cells) (hslots : slots + N ≤ R.slots) (hdg : decode cc pc = .ok (.anewarray index, 3)) (h1 : cells + 1 ≤ k) (h2 : slots + N ≤ n)
    (kk : ∀ (q : Nat) (H1 : Heap), va_P D nm_cl ws H1 → va_D A ws → va_S A H0 H1 locs → W p l e R s m args below meth c H1 locs k n Q (F0 m (pc + 3) ls (.ref q :: rest))) : W p l e R s m args below meth c H locs cells slots Q (F0 m pc ls (.int i :: rest)) := by
  subst hN
  refine W.anewA hexec hb hown hclink hover rfl hdg rfl hn hbytes hcells hslots (fun cA kA comp _ _ _ _ => ?_)
  have hold : ∀ q : Nat, q < H.size → (H.push { cls := cA, slots := Array.replicate i.toNatClampNeg Value.null, vm := .none } : Heap)[q]? = H[q]? := fun q hq => by rw [Array.getElem?_push, if_neg (Nat.ne_of_lt hq)]
  exact W.widen h1 h2 (kk H.size _ (nm_old hP hold) hD (nm_oldS hS (by rw [Array.size_push]; exact Nat.le_succ _) hold))
end NMB
theorem nm_lay {ws : List Cond} (ps : List Nat) (hp : ws = ps.filterMap (fun i => tables_1[i]?)) (hg : ws.all goodWord = true) : ∀ w ∈ ws, w ∈ nm_big := by
  intro w hw
  have h1 := List.all_eq_true.mp hg w hw
  rw [hp] at hw
  obtain ⟨i, -, hi⟩ := List.mem_filterMap.mp hw
  exact nm_in (List.mem_append_right _ (List.mem_of_getElem? hi)) h1
theorem nm_o1 {x a b : Int32} (h : x ≤ a) (k : a < b) : x < b := by
  rw [Int32.lt_iff_toInt_lt] at *; rw [Int32.le_iff_toInt_le] at h; omega
theorem nm_o2 {x a b : Int32} (h : a ≤ x) (k : b ≤ a) : ¬ x < b := by
  rw [Int32.lt_iff_toInt_lt]; rw [Int32.le_iff_toInt_le] at *; omega
theorem nm_o3 {x a b : Int32} (h : a ≤ x) (k : b ≤ a) : b ≤ x := by
  rw [Int32.le_iff_toInt_le] at *; omega
theorem nm_o4 {x a b : Int32} (h : x ≤ a) (k : a < b) : ¬ b ≤ x := by
  rw [Int32.le_iff_toInt_le] at *; rw [Int32.lt_iff_toInt_lt] at k; omega
theorem nm_o5 {x a b : Int32} (h : a ≤ x) (k : b < a) : b < x := by
  rw [Int32.le_iff_toInt_le] at h; rw [Int32.lt_iff_toInt_lt] at *; omega
theorem nm_o6 {x a b : Int32} (h : x ≤ a) (k : a ≤ b) : ¬ b < x := by
  rw [Int32.lt_iff_toInt_lt]; rw [Int32.le_iff_toInt_le] at *; omega
theorem nm_o7 {x a b : Int32} (h : x ≤ a) (k : a ≤ b) : x ≤ b := by
  rw [Int32.le_iff_toInt_le] at *; omega
theorem nm_o8 {x a b : Int32} (h : a ≤ x) (k : b < a) : ¬ x ≤ b := by
  rw [Int32.le_iff_toInt_le] at *; rw [Int32.lt_iff_toInt_lt] at k; omega
theorem nm_o9 {x a b : Int32} (h : x ≤ a) (k : a < b) : ¬ x = b := by
  intro e; subst e; exact nm_o4 h k (by rw [Int32.le_iff_toInt_le]; exact Int.le_refl _)
theorem nm_o10 {x a b : Int32} (h : a ≤ x) (k : b < a) : ¬ x = b := by
  intro e; subst e; exact nm_o8 h k (by rw [Int32.le_iff_toInt_le]; exact Int.le_refl _)
theorem nm_vin {i : Int32} {n : Nat} (h : ¬ (i < 0 ∨ n ≤ i.toNatClampNeg)) : vp_in i n := h
