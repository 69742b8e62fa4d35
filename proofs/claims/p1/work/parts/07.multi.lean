/-! multianewarray of 8 rows of 16: its cells are forgotten -/
def nm_oc (c : ClassId) (h0 : Nat) : Nat → Cell
  | 0 => { cls := c, slots := Array.replicate 8 .null, vm := .none }
  | i + 1 => (nm_oc c h0 i).setSlot i (.ref (h0 + 1 + i))
def nm_ic (comp : ClassId) : Cell := { cls := comp, slots := Array.replicate 16 .null, vm := .none }
def nm_fl (s : State) (c comp : ClassId) : Nat → State
  | 0 => s.pushCell (nm_oc c s.heap.size 0)
  | i + 1 => ((nm_fl s c comp i).pushCell (nm_ic comp)).setCell s.heap.size (nm_oc c s.heap.size (i + 1))
theorem nm_oc_is (c : ClassId) (h0 : Nat) : ∀ i, (nm_oc c h0 i).cls = c ∧ (nm_oc c h0 i).vm = .none ∧ (nm_oc c h0 i).slots.size = 8
  | 0 => ⟨rfl, rfl, by simp [nm_oc]⟩
  | i + 1 => by
    obtain ⟨a, b, d⟩ := nm_oc_is c h0 i
    exact ⟨by simp [nm_oc, Cell.setSlot, a], by simp [nm_oc, Cell.setSlot, b], by simp [nm_oc, Cell.setSlot, d]⟩
theorem nm_fl_is (s : State) (c comp : ClassId) : ∀ i, (nm_fl s c comp i).heap.size = s.heap.size + 1 + i ∧ (nm_fl s c comp i).heap[s.heap.size]? = some (nm_oc c s.heap.size i) ∧ (nm_fl s c comp i).vm = s.vm ∧ (nm_fl s c comp i).slotsUsed = s.slotsUsed + 8 + i * 16
  | 0 => ⟨by simp [nm_fl], by simp [nm_fl], rfl, by simp [nm_fl, nm_oc]⟩
  | i + 1 => by
    obtain ⟨a, b, d, u⟩ := nm_fl_is s c comp i
    have hlt : s.heap.size < (nm_fl s c comp i).heap.size := by omega
    have hb' : ((nm_fl s c comp i).pushCell (nm_ic comp)).heap[s.heap.size]? = some (nm_oc c s.heap.size i) := by rw [State.heap_pushCell_of_lt (h := hlt)]; exact b
    refine ⟨?_, State.heap_setCell_self hb', by simp [nm_fl, d], ?_⟩
    · simp [nm_fl, State.setCell, a]; omega
    · simp [nm_fl, u, nm_ic, Nat.succ_mul]; omega
theorem nm_fl_top (s : State) (f : JFrame) (c comp : ClassId) : ∀ i, nm_fl (s.setTop f) c comp i = (nm_fl s c comp i).setTop f
  | 0 => rfl
  | i + 1 => by simp only [nm_fl, nm_fl_top s f c comp i, State.heap_setTop, State.pushCell_setTop, State.setCell_setTop]
theorem nm_fl_old (s : State) (c comp : ClassId) {a : Addr} (ha : a < s.heap.size) : ∀ i, (nm_fl s c comp i).heap[a]? = s.heap[a]?
  | 0 => State.heap_pushCell_of_lt _ _ ha
  | i + 1 => by
    have f1 := (nm_fl_is s c comp i).1
    have hlt : a < (nm_fl s c comp i).heap.size := Nat.lt_of_lt_of_le ha (by rw [f1]; omega)
    show (((nm_fl s c comp i).pushCell (nm_ic comp)).setCell s.heap.size _).heap[a]? = _
    rw [State.heap_setCell_other (Nat.ne_of_gt ha), State.heap_pushCell_of_lt (h := hlt)]
    exact nm_fl_old s c comp ha i
section NMM
variable {E : CtlPost} {e : Env} {d : Bool} {acts : List Action} {s : State}
theorem nm_wpA {c comp : ClassId} {k : Class} {type : FieldType} {len : Nat} {init : Value} (hk : s.vm.classes[c]? = some k) (hkind : k.kind = .array comp type)
    (hlimit : ¬ len > e.platform.arrayLengthLimit) (hheap : ¬ len * componentBytes type > e.platform.maxHeapBytes) (hfit : fits type init = true) (hdef : init.isDefault = true) {Q : Addr → Pre}
    (h1 : s.heap.size < e.platform.maxCells) (h2 : s.slotsUsed + len ≤ e.platform.maxSlots)
    (hq : Q s.heap.size d acts (s.pushCell { cls := c, slots := Array.replicate len init, vm := .none })) :
    wp (Jvm.newArray c len init) Q E e d acts s := by
  have hfits : ∀ i v, (Array.replicate len init)[i]? = some v → s.fitsSlot c .none i v = true := by
    intro i v hv
    simp only [Array.getElem?_replicate] at hv
    split at hv
    · cases hv; simp [State.fitsSlot, State.slotType?, hk, hkind, hfit]
    · cases hv
  have hda : allocActs (Array.replicate len init) s.heap.size acts = acts := by
    have hall : ((Array.replicate len init).all (·.isDefault)) = true := by
      rw [Array.all_replicate]; split <;> simp [hdef]
    unfold allocActs; rw [if_pos hall]
  simp only [Jvm.newArray, Jvm.arrayFits, wp_bind', W.ask, W.ite, hlimit, if_false, wp_pure', W.theClass, hk, hkind, hheap, W.alloc, W.stop, Option.some.injEq, exists_eq_left', Array.size_replicate, hda]
  rw [if_neg (by omega)]
  exact ⟨h1, h2, hfits, hq⟩
theorem nm_wpI {comp cc : ClassId} {kc : Class} (hkc : s.vm.classes[comp]? = some kc) (hkindc : kc.kind = .array cc (.array .byte)) (hl2 : ¬ 16 > e.platform.arrayLengthLimit) (hh2 : ¬ 16 * 4 > e.platform.maxHeapBytes)
    (h1 : s.heap.size < e.platform.maxCells) (h2 : s.slotsUsed + 16 ≤ e.platform.maxSlots) {Q : Addr → Pre} (hq : Q s.heap.size d acts (s.pushCell (nm_ic comp))) : wp (Op.multianewarray.make comp [16]) Q E e d acts s := by
  have hm : ¬ (16 : Int32) < 0 := by decide
  rw [Op.multianewarray.make]
  simp only [wp_bind', W.ite, hm, if_false, wp_pure', W.theClass, hkc, hkindc, Option.some.injEq, exists_eq_left']
  exact nm_wpA hkc hkindc hl2 hh2 rfl rfl h1 h2 hq
theorem nm_wpM {c comp cc : ClassId} {k kc : Class} (hk : s.vm.classes[c]? = some k) (hkind : k.kind = .array comp (.array (.array .byte))) (hkc : s.vm.classes[comp]? = some kc) (hkindc : kc.kind = .array cc (.array .byte))
    (hl1 : ¬ 8 > e.platform.arrayLengthLimit) (hh1 : ¬ 8 * 4 > e.platform.maxHeapBytes) (hl2 : ¬ 16 > e.platform.arrayLengthLimit) (hh2 : ¬ 16 * 4 > e.platform.maxHeapBytes)
    (hc : s.heap.size + 9 ≤ e.platform.maxCells) (hs : s.slotsUsed + 136 ≤ e.platform.maxSlots) {Q : Addr → Pre} (hq : ∀ d' acts', Q s.heap.size d' acts' (nm_fl s c comp 8)) : wp (Op.multianewarray.make c [8, 16]) Q E e d acts s := by
  have hn : ¬ (8 : Int32) < 0 := by decide
  have hfind : ([(16 : Int32)].find? (· < 0)) = none := by decide
  have h8 : (8 : Int32).toNatClampNeg = 8 := by decide
  rw [Op.multianewarray.make]
  simp only [wp_bind', W.ite, hn, if_false, wp_pure', W.theClass, hk, hkind, Option.some.injEq, exists_eq_left', h8]
  refine nm_wpA hk hkind hl1 hh1 rfl rfl (by omega) (by omega) ?_
  simp only [hfind]
  rw [ite_self, wp_bind', Std.Legacy.Range.forIn_eq_forIn_range']
  have hsz : ([:8] : Std.Legacy.Range).size = 8 := by simp [Std.Legacy.Range.size]
  rw [hsz]
  show wp (forIn (List.range' 0 8 1) PUnit.unit _) _ E e d acts _
  refine wp_forIn_inv (fun rest s' => ∃ i, i ≤ 8 ∧ rest = List.range' i (8 - i) ∧ s' = nm_fl s c comp i) _ _ ⟨0, Nat.zero_le _, rfl, rfl⟩ ?_ ?_
  · rintro x rest s' d' acts' Q' ⟨i, hi, hl, rfl⟩ hnext
    have hlt : i < 8 := by
      rcases Nat.lt_or_ge i 8 with h | h
      · exact h
      · rw [show 8 - i = 0 from by omega] at hl; simp at hl
    obtain ⟨rfl, hrest⟩ : x = i ∧ rest = List.range' (i + 1) (8 - (i + 1)) := by
      rw [show 8 - i = (8 - (i + 1)) + 1 from by omega, List.range'_succ] at hl
      exact ⟨(List.cons.inj hl).1, (List.cons.inj hl).2⟩
    obtain ⟨f1, f2, f3, f4⟩ := nm_fl_is s c comp x
    obtain ⟨o1, o2, o3⟩ := nm_oc_is c s.heap.size x
    simp only [wp_bind']
    refine nm_wpI (by rw [f3]; exact hkc) hkindc hl2 hh2 (by rw [f1]; omega) (by rw [f4]; omega) ?_
    have hlt0 : s.heap.size < (nm_fl s c comp x).heap.size := by rw [f1]; omega
    simp only [wp_bind', W.writeLoc, wp_pure']
    refine ⟨nm_oc c s.heap.size x, by rw [State.heap_pushCell_of_lt (h := hlt0)]; exact f2, by rw [o2]; simp, by rw [o3]; exact hlt, ?_, hnext _ _ _ ⟨x + 1, hlt, hrest, ?_⟩⟩
    · rw [o1, o2]
      simp [State.fitsSlot, State.slotType?, f3, hk, hkind, fits]
    · rw [f1]; rfl
  · rintro s' d' acts' ⟨i, hi, hl, rfl⟩
    have hiN : i = 8 := by
      rcases Nat.lt_or_ge i 8 with h | h
      · rw [show 8 - i = (8 - (i + 1)) + 1 from by omega, List.range'_succ] at hl; cases hl
      · omega
    subst hiN
    simp only [wp_pure']
    exact hq _ _
end NMM
section NMN
variable {p : Program} {l : Launch} {e : Env} {R : Room} {s : State} {m : MethodId} {args : Array Value} {below : List Frame} {meth : Method} {c : Code} {T : State} {locs : List Loc} {cells slots : Nat}
theorem nm_fl_stand (X : Stand p l e R s m args below meth c T locs cells slots) (cA comp : ClassId) :
    ∀ i, Stand p l e R s m args below meth c (nm_fl T cA comp i) (locs ++ (List.range i).map fun j => ⟨T.heap.size, j⟩) (cells + 1 + i) (slots + 8 + i * 16)
  | 0 => by
    have h := X.pushed (nm_oc cA T.heap.size 0)
    rw [(nm_oc_is cA T.heap.size 0).2.2] at h
    simpa [nm_fl] using h
  | i + 1 => by
    have Xi := nm_fl_stand X cA comp i
    obtain ⟨f1, f2, f3, f4⟩ := nm_fl_is T cA comp i
    have hlt0 : T.heap.size < (nm_fl T cA comp i).heap.size := by rw [f1]; omega
    have hcell : ((nm_fl T cA comp i).pushCell (nm_ic comp)).heap[T.heap.size]? = some (nm_oc cA T.heap.size i) := by rw [State.heap_pushCell_of_lt (h := hlt0)]; exact f2
    have h := (Xi.pushed (nm_ic comp)).stored hcell i (.ref (T.heap.size + 1 + i))
    have e1 : (nm_ic comp).slots.size = 16 := by simp [nm_ic]
    rw [e1] at h
    have e2 : (locs ++ (List.range (i + 1)).map fun j => (⟨T.heap.size, j⟩ : Loc)) = (locs ++ (List.range i).map fun j => (⟨T.heap.size, j⟩ : Loc)) ++ [⟨T.heap.size, i⟩] := by simp [List.range_succ, List.append_assoc]
    have e3 : slots + 8 + (i + 1) * 16 = slots + 8 + i * 16 + 16 := by rw [Nat.succ_mul]; omega
    rw [e2, e3]
    exact h
theorem nm_multi (X : Stand p l e R s m args below meth c T locs cells slots) (hexec : p.tables.exec = Jvm.exec) {own : String} {index : Nat} (hown : s.vm.findClass own = some m.cls) (hclink : (Cond.classLink own index "[[[B").before args s = true)
    (hA1 : nm_AA (.array .byte) s) (hA0 : nm_AA .byte s) {g : JFrame} (hg : g.method = m) (hdg : decode c.code g.pc = .ok (.multianewarray index 2, 4)) {rest : List Value} (hstack : g.stack = .int 16 :: .int 8 :: rest) (hcells : cells + 9 ≤ R.cells) (hslots : slots + 136 ≤ R.slots) :
    ∃ (vm₁ : Vm) (cA comp : ClassId), Stand p l e R s m args below meth c (nm_fl (T.setVm vm₁) cA comp 8) (locs ++ (List.range 8).map fun j => ⟨T.heap.size, j⟩) (cells + 1 + 8) (slots + 8 + 8 * 16) ∧
      ∀ target, Steps p.tables e below ((nm_fl (T.setVm vm₁) cA comp 8).setTop { g with pc := g.pc + 4, stack := .ref T.heap.size :: rest }) target → Steps p.tables e below (T.setTop g) target := by
  subst hg
  have hpl : e.platform.magicAccessors = ({} : Platform).magicAccessors := by rw [X.admits.platform]
  obtain ⟨comp, cA, kA, hcomp, -, hkA, hkindA, hnameA⟩ := arrayOverA_spec hA1
  obtain ⟨comp0, comp1, kC, -, -, hkC, hkindC, hname1⟩ := arrayOverA_spec hA0
  have ecomp : comp1 = comp := Option.some.inj (hname1.symm.trans hcomp)
  subst ecomp
  obtain ⟨c0, hfc0, hcl⟩ := Cond.classLink_spec hown hclink e.platform hpl
  cases hnameA.symm.trans hfc0
  obtain ⟨hg₁, hwarm₁, hready₁⟩ := State.classEntry (e := e) X.warmed hcl
  generalize T.vm.noted g.method.cls index (.cls cA) = vm₁ at hg₁ hwarm₁ hready₁
  have hal : s.vm.Alike vm₁ := hwarm₁.alike
  obtain ⟨kA₁, hkA₁, heA⟩ := hal.2.2 _ _ hkA
  obtain ⟨kC₁, hkC₁, heC⟩ := hal.2.2 _ _ hkC
  have hkindA₁ : kA₁.kind = .array comp1 (.array (.array .byte)) := by rw [heA]; exact hkindA
  have hkindC₁ : kC₁.kind = .array comp0 (.array .byte) := by rw [heC]; exact hkindC
  have X₁ := X.noted hwarm₁
  obtain ⟨hr1, hr2⟩ := X.roomAbove hcells hslots
  refine ⟨vm₁, cA, comp1, nm_fl_stand X₁ cA comp1 8, fun target hrest => ?_⟩
  have hl1 : ¬ 8 > e.platform.arrayLengthLimit := by rw [Launch.admits_arrayLengthLimit X.admits]; omega
  have hh1 : ¬ 8 * 4 > e.platform.maxHeapBytes := by rw [Launch.admits_maxHeapBytes X.admits]; omega
  have hl2 : ¬ 16 > e.platform.arrayLengthLimit := by rw [Launch.admits_arrayLengthLimit X.admits]; omega
  have hh2 : ¬ 16 * 4 > e.platform.maxHeapBytes := by rw [Launch.admits_maxHeapBytes X.admits]; omega
  jvm_step X.here [hexec, hdg]
  simp only [Op.multianewarray.sem, wp_bind', W.resolveClassAt_links (State.method?_setTop g X.here.top) hg₁]
  rw [W.popN, if_neg (by decide)]
  refine ⟨g, State.topJava?_setTop' (s := T.setVm vm₁) g X.here.top, [.int 8, .int 16], rest, rfl, hstack, ?_⟩
  simp only [List.mapM_cons, List.mapM_nil, wp_bind', wp_pure']
  refine nm_wpM (k := kA₁) (kc := kC₁) (comp := comp1) (cc := comp0) hkA₁ hkindA₁ hkC₁ hkindC₁ hl1 hh1 hl2 hh2 (by show T.heap.size + 9 ≤ _; omega) (by show T.slotsUsed + 136 ≤ _; omega) (fun d' acts' => ?_)
  have XF := nm_fl_stand X₁ cA comp1 8
  have eS : ((T.setTop g).setVm vm₁).setTop { g with stack := rest } = (T.setVm vm₁).setTop { g with stack := rest } := by
    show ((T.setVm vm₁).setTop g).setTop _ = _
    rw [State.setTop_setTop]
  rw [eS, nm_fl_top]
  simp only [wp_bind', W.mark, W.pushRef, State.topJava?_setTop' _ XF.here.top, Option.some.injEq, exists_eq_left', State.setTop_setTop, State.heap_setTop]
  intro acts
  simp [jvm, XF.here.top]
  exact hrest
variable {H : Heap} {Q : State → Prop} {cc : ByteArray} {pc : Nat} {ls : Array Slot} {rest : List Value} {A : Nat → Prop} {H0 : Heap} {k n : Nat} {D : va_G} {ws : va_W} {cI cB cJ cS : ClassId}
theorem nm_newM (hexec : p.tables.exec = Jvm.exec) (hb : c.code = cc) {own : String} {index : Nat} (hown : s.vm.findClass own = some m.cls) (hclink : (Cond.classLink own index "[[[B").before args s = true) (hM : nm_Amb D cI cB cJ cS s) (hP : va_P D nm_cl ws H) (hD : va_D A ws) (hS : va_S A H0 H locs) (hA : ∀ q, H0.size ≤ q → A q)
    (hcells : cells + 9 ≤ R.cells) (hslots : slots + 136 ≤ R.slots) (hdg : decode cc pc = .ok (.multianewarray index 2, 4)) (h1 : cells + 9 ≤ k) (h2 : slots + 136 ≤ n)
    (kk : ∀ (q : Nat) (H1 : Heap) (locs1 : List Loc), va_P D nm_cl ws H1 → va_D A ws → va_S A H0 H1 locs1 → W p l e R s m args below meth c H1 locs1 k n Q (F0 m (pc + 4) ls (.ref q :: rest))) : W p l e R s m args below meth c H locs cells slots Q (F0 m pc ls (.int 16 :: .int 8 :: rest)) := by
  intro T hT X
  subst hT; subst hb
  obtain ⟨vm₁, cA, comp, X', st⟩ := nm_multi X hexec hown hclink hM.2.2.2.2.2.1 hM.2.2.2.2.1 (g := F0 m pc ls (.int 16 :: .int 8 :: rest)) rfl hdg rfl hcells hslots
  have hold : ∀ q : Nat, q < T.heap.size → (nm_fl (T.setVm vm₁) cA comp 8).heap[q]? = T.heap[q]? := fun q hq => nm_fl_old (T.setVm vm₁) cA comp hq 8
  have hz : T.heap.size ≤ (nm_fl (T.setVm vm₁) cA comp 8).heap.size := by
    have := (nm_fl_is (T.setVm vm₁) cA comp 8).1
    have e0 : (T.setVm vm₁).heap.size = T.heap.size := rfl
    omega
  have hS1 : va_S A H0 (nm_fl (T.setVm vm₁) cA comp 8).heap (locs ++ (List.range 8).map fun j => (⟨T.heap.size, j⟩ : Loc)) := by
    refine ⟨(nm_oldS hS hz hold).1, (nm_oldS hS hz hold).2.1, fun q hq => ?_⟩
    rcases List.mem_append.mp hq with h | h
    · exact hS.2.2 q h
    · obtain ⟨j, -, rfl⟩ := List.mem_map.mp h
      exact hA _ hS.1
  obtain ⟨t, a1, b1⟩ := W.widen h1 h2 (kk T.heap.size _ _ (nm_old hP hold) hD hS1) (nm_fl (T.setVm vm₁) cA comp 8) rfl X'
  exact ⟨t, st t a1, b1⟩
end NMN
