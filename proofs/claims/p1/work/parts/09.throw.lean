/-! methods that throw, and their catching -/
def nm_Th (A : Nat → Prop) (U : State) : Prop := vx_Zq Bundle.tN "UNASSIGNED_STACK" Bundle.steD A U U.heap ∧ vx_Zq Bundle.tN "SUPPRESSED_SENTINEL" Bundle.listD A U U.heap ∧
  va_Nw (.declares ⟨"java/lang/RuntimeException", "<init>", "(Ljava/lang/String;)V"⟩) U ∧ va_Nw (.declares ⟨"java/lang/Exception", "<init>", "(Ljava/lang/String;)V"⟩) U ∧ va_Nw (.declares ⟨"java/lang/Throwable", "<init>", "(Ljava/lang/String;)V"⟩) U
theorem nm_Th.same {A : Nat → Prop} {s U : State} (hv : U.vm = s.vm) (hh : U.heap = s.heap) (h : nm_Th A s) : nm_Th A U := by
  obtain ⟨h1, h2, h3, h4, h5⟩ := h
  have ha : s.vm.Alike U.vm := by rw [hv]; exact Vm.Alike.refl _
  exact ⟨by rw [hh]; exact h1.moved ha, by rw [hh]; exact h2.moved ha, va_Nw.same rfl hv.symm h3, va_Nw.same rfl hv.symm h4, va_Nw.same rfl hv.symm h5⟩
theorem nm_Th.call {A B : Nat → Prop} {s U : State} {H : Heap} {locs : List Loc} (hW : s.WarmedH U.vm) (hU : U.heap = H) (hS : va_S A s.heap H locs) (hAB : ∀ q, B q → A q) (h : nm_Th A s) : nm_Th B U := by
  obtain ⟨h1, h2, h3, h4, h5⟩ := h
  exact ⟨by rw [hU]; exact ((h1.kept hS.2.1).narrow hAB).moved hW.alike, by rw [hU]; exact ((h2.kept hS.2.1).narrow hAB).moved hW.alike, va_Nw.warmD hW h3, va_Nw.warmD hW h4, va_Nw.warmD hW h5⟩
def nm_PX (D : va_G) (cI cB cJ cS : ClassId) (av : List Value) (sz : Nat) (ws : va_W) : Array Value → State → Prop := va_Pc av (fun U => U.heap.size = sz ∧ va_P D nm_cl ws U.heap ∧ nm_Amb D cI cB cJ cS U ∧ va_D (fun _ => True) ws ∧ nm_Th (va_A ws sz) U)
theorem nm_PX.blind (D : va_G) (cI cB cJ cS : ClassId) (av : List Value) (sz : Nat) (ws : va_W) : FrameBlind (nm_PX D cI cB cJ cS av sz ws) := fun a U g mk q => by
  obtain ⟨q0, q1, qP, qK, qD, qT⟩ := q
  exact ⟨q0, q1, qP, nm_Amb.same (s := U) (U := U.calling g mk a) rfl qK, qD, nm_Th.same (s := U) (U := U.calling g mk a) rfl rfl qT⟩
section NMX
variable {p : Program} {l : Launch} {e : Env} {R : Room} {s : State} {m : MethodId} {args : Array Value} {below : List Frame} {meth : Method} {c : Code} {H : Heap} {locs : List Loc} {cells slots : Nat} {Q : State → Prop}
variable {cc : ByteArray} {pc : Nat} {ls : Array Slot} {rest st0 : List Value} {a : Array Value} {A : Nat → Prop} {mc ms k n : Nat} {D : va_G} {ws wc wr : va_W} {Z : Type} {cI cB cJ cS : ClassId}
theorem nm_preXV {As : List Value} {b : Nat} (hP : va_P D nm_cl wc H) (hD : va_D A wc) (hM : nm_Amb D cI cB cJ cS s) (hT : nm_Th A s) (hS : va_S A s.heap H locs) (hF : ∀ q, va_A wc H.size q → A q) (q0 : Nat) {ci : Nat} {q : vw_C} {fs : List Value} (hc : nm_cl[ci]? = some q) (he : wc[q0]? = some (b, .inr (ci, fs))) : PreV s H q.1 b (nm_PX D cI cB cJ cS (.ref b :: As) H.size wc) As :=
  ⟨nm_PX.blind D cI cB cJ cS _ H.size wc, va_recv hM.1 hP hc he, fun U hU hW => ⟨rfl, by rw [hU], by rw [hU]; exact hP, hM.warm hW, hD.weaken (fun _ _ _ _ => trivial), nm_Th.call hW hU hS hF hT⟩⟩
theorem nm_preXS {av : List Value} (hP : va_P D nm_cl wc H) (hD : va_D A wc) (hM : nm_Amb D cI cB cJ cS s) (hT : nm_Th A s) (hS : va_S A s.heap H locs) (hF : ∀ q, va_A wc H.size q → A q) : PreS s H (nm_PX D cI cB cJ cS av H.size wc) av :=
  ⟨nm_PX.blind D cI cB cJ cS _ H.size wc, fun U hU hW => ⟨rfl, by rw [hU], by rw [hU]; exact hP, hM.warm hW, hD.weaken (fun _ _ _ _ => trivial), nm_Th.call hW hU hS hF hT⟩⟩
/-- only this class is thrown -/
def nm_X (E0 : String) (A : Nat → Prop) : String → State → State → Prop := vx_X (S := Unit) (fun _ => True) (fun E _ _ => E = E0) A
/-- nothing is thrown -/
def nm_X0 (A : Nat → Prop) : String → State → State → Prop := vx_X (S := Unit) (fun _ => False) (fun _ _ _ => True) A
theorem nm_MetX {y : MethodName} {cc : ByteArray} {maxL : Nat} {ret : Option FieldType} {rm : Room} {av : List Value} {sz : Nat} {ws : va_W} {Qc : (Nat → Prop) → Array Value → State → Outcome → State → Prop} {XC : (Nat → Prop) → String → State → State → Prop} {mc ms : Nat}
    (hy : plainName y.cls = true) (hav : (lg_sl av).length ≤ maxL)
    (body : ∀ (p : Program) (e : Env) (s : State) (m : MethodId) (below : List Frame) (meth : Method) (c : Code) (A : Nat → Prop) (ls : Array Slot), p.tables.exec = Jvm.exec → c.code = cc → meth.sig.returnType = ret → c.maxLocals = maxL → (∀ w ∈ nm_big, w.before av.toArray s = true) → s.vm.findClass y.cls = some m.cls → meth.locks = false → (∀ x ∈ c.exceptionTable.toList, False) → nm_Amb D cI cB cJ cS s → nm_Th A s →
      va_P D nm_cl ws s.heap → va_D A ws → va_S A s.heap s.heap [] → (∀ q : Nat, s.heap.size ≤ q → A q) → lv_has ls maxL (lv_args 0 av) →
      W p l e rm s m av.toArray below meth c s.heap [] 0 0 (vx_MQ below (Qc A) (XC A) av.toArray s mc ms A) (F0 m 0 ls [])) :
    vx_Met l y (.code y cc maxL ret :: nm_big) rm (nm_PX D cI cB cJ cS av sz ws) (Qc (va_A ws sz)) (XC (va_A ws sz)) mc ms (va_A ws sz) := by
  refine vx_ofW (cc := cc) (maxL := maxL) (ret := ret) hy rfl ?_
  intro p e s m args below meth c s₁ B hml hout hv
  obtain ⟨rfl, hsz, hP, hM, hD0, hT⟩ := hv
  have hts := atoms_spec (ws := .code y cc maxL ret :: nm_big) B.pre
  have hown : s.vm.findClass y.cls = some m.cls := findClass_of_methodNamed B.named
  subst hsz
  have hD := hD0.self (sz := s.heap.size)
  have hl := lv_entry av (n := maxL) hav
  rw [lg_entry_eq]
  exact body p e s m below meth c _ _ B.exec B.bytes B.returns hml (fun w hw => hts w (List.mem_cons_of_mem _ hw)) hown B.notSynchronized hout hM hT hP hD va_S.rf (fun q h => Or.inr h) hl
/-- a method with a table of handlers -/
theorem nm_MetW {y : MethodName} {cc : ByteArray} {maxL : Nat} {ret : Option FieldType} {hh : List (Nat × Nat × Nat × Nat)} {rm : Room} {av : List Value} {sz : Nat} {ws : va_W} {Qc : (Nat → Prop) → Array Value → State → Outcome → State → Prop} {XC : (Nat → Prop) → String → State → State → Prop} {mc ms : Nat}
    (hy : plainName y.cls = true) (hav : (lg_sl av).length ≤ maxL)
    (body : ∀ (p : Program) (e : Env) (s : State) (m : MethodId) (below : List Frame) (meth : Method) (c : Code) (A : Nat → Prop) (ls : Array Slot), p.tables.exec = Jvm.exec → c.code = cc → meth.sig.returnType = ret → c.maxLocals = maxL → (∀ w ∈ nm_big, w.before av.toArray s = true) → s.vm.findClass y.cls = some m.cls → meth.locks = false → c.exceptionTable.toList = tableOf hh → nm_Amb D cI cB cJ cS s → nm_Th A s →
      va_P D nm_cl ws s.heap → va_D A ws → va_S A s.heap s.heap [] → (∀ q : Nat, s.heap.size ≤ q → A q) → lv_has ls maxL (lv_args 0 av) →
      W p l e rm s m av.toArray below meth c s.heap [] 0 0 (vx_MQ below (Qc A) (XC A) av.toArray s mc ms A) (F0 m 0 ls [])) :
    vx_Met l y (.codeWith y cc maxL ret hh :: nm_big) rm (nm_PX D cI cB cJ cS av sz ws) (Qc (va_A ws sz)) (XC (va_A ws sz)) mc ms (va_A ws sz) := by
  refine vx_ofWH (cc := cc) (maxL := maxL) (ret := ret) hy rfl ?_
  intro p e s m args below meth c s₁ B hml hv
  obtain ⟨rfl, hsz, hP, hM, hD0, hT⟩ := hv
  have hts := atoms_spec (ws := .codeWith y cc maxL ret hh :: nm_big) B.pre
  have htab := vx_table (x := y) B (hts _ List.mem_cons_self)
  have hown : s.vm.findClass y.cls = some m.cls := findClass_of_methodNamed B.named
  subst hsz
  have hD := hD0.self (sz := s.heap.size)
  have hl := lv_entry av (n := maxL) hav
  rw [lg_entry_eq]
  exact body p e s m below meth c _ _ B.exec B.bytes B.returns hml (fun w hw => hts w (List.mem_cons_of_mem _ hw)) hown B.notSynchronized htab hM hT hP hD va_S.rf (fun q h => Or.inr h) hl
theorem nm_xoutv {E0 : String} {Qc : Array Value → State → Outcome → State → Prop} {k n : Nat} (hr : vx_Run p l e R s m args below meth c H locs cells slots mc ms (F0 m pc ls st0) rest (va_Qv (S := Unit) (fun _ => False) (fun _ _ => True) (va_A wc H.size) a) (nm_X E0 (va_A wc H.size)) (va_A wc H.size)) (hF : ∀ q, va_A wc H.size q → A q) (hS : va_S A s.heap H locs) (hout : ∀ x ∈ c.exceptionTable.toList, False) (hlocks : meth.locks = false) (h1 : cells + mc ≤ k) (h2 : slots + ms ≤ n) :
    W p l e R s m args below meth c H locs cells slots (vx_MQ below Qc (nm_X E0 A) args s k n A) (F0 m pc ls st0) := by
  refine vx_callv hr hS (fun q _ h => hF q h) hF (fun q _ h => hF q h) (fun E ce q9 u t H1 locs1 ht hal _ hE hz hk hS1 hc hv hcl => ?_) (fun u t H1 locs1 ht hal hf _ _ _ _ => hf.elim)
  exact vx_out (fun x hx => (hout x hx).elim) hlocks hc hv hcl (fun t2 h2 hal2 => ⟨(), trivial, hE, hS1.F h2⟩) hS1.2.2 h1 h2
theorem nm_xcatch {own E0 : String} {hp : Nat} {k n : Nat} (hr : vx_Run p l e R s m args below meth c H locs cells slots mc ms (F0 m pc ls st0) rest (va_Qi (S := Unit) (fun _ _ => False) (fun _ _ => True) (va_A wc H.size) a) (nm_X E0 (va_A wc H.size)) (va_A wc H.size)) (hF : ∀ q, va_A wc H.size q → A q) (hS : va_S A s.heap H locs) (hown : s.vm.findClass own = some m.cls)
    (x : ExceptionTableEntry) (suf : List ExceptionTableEntry) (htab : c.exceptionTable.toList = x :: suf) (hcov : covers x pc = true) (h0 : x.catchType ≠ 0) (hlink : (Cond.classLink own x.catchType E0).before args s = true) (hcast : va_Nw (.castable E0 E0) s) (hhp : x.handlerPc = hp) (h1 : cells + mc ≤ k) (h2 : slots + ms ≤ n)
    (kk : ∀ (q9 : Nat) (H1 : Heap) (locs1 : List Loc), va_S A s.heap H1 locs1 → W p l e R s m args below meth c H1 locs1 k n Q (F0 m hp ls [.ref q9])) : W p l e R s m args below meth c H locs cells slots Q (F0 m pc ls st0) := by
  refine vx_calli hr hS (fun q _ h => hF q h) hF (fun q _ h => hF q h) (fun E ce q9 u t H1 locs1 ht hal _ hE hz hk hS1 hc hv hcl => ?_) (fun r u t H1 locs1 ht hal hf _ _ _ _ => hf.elim)
  subst hE
  subst hhp
  exact vx_widen h1 h2 (vx_catch hown [] x suf htab (fun z hz => absurd hz List.not_mem_nil) hcov h0 hlink (va_Nw.use rfl hcast) hc hv hcl (kk q9 H1 locs1 hS1))
theorem nm_xcalli {post : Int32 → Z → Prop} {POST : Z → va_W} (hr : vx_Run p l e R s m args below meth c H locs cells slots mc ms (F0 m pc ls st0) rest (va_Qi post (nm_B D POST (va_A wc H.size)) (va_A wc H.size) a) (nm_X0 (va_A wc H.size)) (va_A wc H.size)) (hP : va_P D nm_cl ws H) (hD : va_D A ws) (hS : va_S A s.heap H locs) (hA : ∀ q, s.heap.size ≤ q → A q)
    (isC isR : List Nat) (hC : isC.map (fun i => ws[i]?) = wc.map some) (hR : isR.map (fun i => ws[i]?) = wr.map some) (hn : va_nd isR = true) (hdis : ∀ i ∈ isR, i ∉ isC) (h1 : cells + mc ≤ k) (h2 : slots + ms ≤ n)
    (kk : ∀ (r : Int32) (u : Z) (H1 : Heap) (locs1 : List Loc), post r u → va_P D nm_cl (wr ++ POST u) H1 → va_D A (wr ++ POST u) → va_S A s.heap H1 locs1 → W p l e R s m args below meth c H1 locs1 k n Q (F0 m (pc + 3) ls (.int r :: rest))) : W p l e R s m args below meth c H locs cells slots Q (F0 m pc ls st0) := by
  have hFc := va_free hD hS hA isC hC
  refine vx_calli hr hS (fun q _ h => hFc q h) hFc (fun q _ h => hFc q h) (fun E ce q9 u t H1 locs1 ht hal px => px.elim) (fun r u t H1 locs1 ht hvm hw hB hz1 hk1 hS1 => ?_)
  obtain ⟨hP1, hD1⟩ := hB
  rw [ht] at hP1
  obtain ⟨hP2, hD2⟩ := va_join hP hD isC isR hC hR hn hdis hk1 hFc hP1 hD1
  exact W.widen h1 h2 (kk r u H1 locs1 hw hP2 hD2 hS1)
theorem nm_tx {E0 : String} (hS : va_S A s.heap H locs) : ∀ t : State, s.vm.Alike t.vm → H.size ≤ t.heap.size → (∀ q : Nat, q < H.size → t.heap[q]? = H[q]?) → nm_X E0 A E0 s t := fun t _ hz hk =>
  ⟨(), trivial, rfl, Nat.le_trans hS.1 hz, fun q hq hA => by rw [hk q (Nat.lt_of_lt_of_le hq hS.1)]; exact hS.2.1 q hq hA⟩
theorem nm_gSW {own : String} {idx : Nat} {y : MethodName} {w : Cond} (h1 : Cond.methodLink own idx y ∈ nm_big) (h2 : Cond.static y ∈ nm_big) (h3 : Cond.initialized y.cls ∈ nm_big) (h : w ∈ nm_big) : GoodIn nm_big (va_wsS own idx y (w :: nm_big)) := nm_gS h1 h2 h3 h
end NMX
theorem nm_nil {D : va_G} {H : Heap} : va_P D nm_cl [] H := fun k q h => by simp at h
theorem nm_nilD {A : Nat → Prop} : va_D A [] := ⟨fun i j p q h => by simp at h, fun k q h => by simp at h⟩
/-- the words of 'throw new E(text)' that are not good ones -/
def nm_tb (E0 : String) : List Cond := [.castable E0 E0, .declares ⟨"java/lang/RuntimeException", "<init>", "(Ljava/lang/String;)V"⟩, .declares ⟨"java/lang/Exception", "<init>", "(Ljava/lang/String;)V"⟩, .declares ⟨"java/lang/Throwable", "<init>", "(Ljava/lang/String;)V"⟩]
theorem nm_tI1 : ∀ w ∈ (vx_atS RX11 281 "java/lang/IllegalArgumentException" ["java/lang/RuntimeException", "java/lang/Exception"]).filter (fun w => !goodWord w), w ∈ nm_tb "java/lang/IllegalArgumentException" := by decide +kernel
theorem nm_tI2 : ∀ w ∈ (vx_atS RX11 281 "java/lang/IllegalArgumentException" ["java/lang/RuntimeException", "java/lang/Exception"]).filter goodWord, w ∈ lw_tbl := by decide +kernel
theorem nm_tI3 : ∀ w ∈ Cond.classLink RX11 277 "java/lang/IllegalArgumentException" :: Cond.initialized "java/lang/IllegalArgumentException" :: vx_atS RX11 281 "java/lang/IllegalArgumentException" ["java/lang/RuntimeException", "java/lang/Exception"], vx_ot w = true := by decide +kernel
theorem nm_at {args : Array Value} {s : State} {A : Nat → Prop} {E0 : String} {L : List Cond} (hts : ∀ w ∈ nm_big, w.before args s = true) (hT : nm_Th A s) (hc : va_Nw (.castable E0 E0) s) (h1 : ∀ w ∈ L.filter (fun w => !goodWord w), w ∈ nm_tb E0) (h2 : ∀ w ∈ L.filter goodWord, w ∈ lw_tbl) : ∀ w ∈ L, w.before args s = true :=
  vx_hat (fun w hw => hts w (nm_in (h2 w hw) (List.mem_filter.mp hw).2)) h1 (vx_c (va_Nw.use rfl hc) (vx_c (va_Nw.use rfl hT.2.2.1) (vx_c (va_Nw.use rfl hT.2.2.2.1) (vx_c (va_Nw.use rfl hT.2.2.2.2) vx_n))))
