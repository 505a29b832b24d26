/-! new int[10][24]: a row of ten rows -/
def mO (cA : ClassId) (a i : Nat) : Cell := arrV cA 10 (fun j => if j < i then .ref (a + 1 + j) else .null)
def mI (cI : ClassId) : Cell := arrV cI 24 (fun _ => .int 0)
/-- the machine when i of the ten stand -/
def mS (T : State) (cA cI : ClassId) : Nat → State
  | 0 => T.pushCell (mO cA T.heap.size 0)
  | i + 1 => ((mS T cA cI i).pushCell (mI cI)).setCell T.heap.size (mO cA T.heap.size (i + 1))
theorem mO_up (cA : ClassId) (a i : Nat) : (mO cA a i).setSlot i (.ref (a + 1 + i)) = mO cA a (i + 1) := by
  unfold mO
  rw [arrV_store]
  congr 1
  funext j
  unfold updV
  by_cases h : j = i
  · subst h; rw [if_pos rfl, if_pos (by omega)]
  · rw [if_neg h]
    show (if j < i then Value.ref (a + 1 + j) else Value.null) = _
    by_cases g : j < i
    · rw [if_pos g, if_pos (by omega)]
    · rw [if_neg g, if_neg (by omega)]
theorem mS_all (T : State) (cA cI : ClassId) : ∀ i : Nat, (mS T cA cI i).heap.size = T.heap.size + 1 + i ∧ (mS T cA cI i).heap[T.heap.size]? = some (mO cA T.heap.size i) ∧ (mS T cA cI i).vm = T.vm ∧ (mS T cA cI i).slotsUsed = T.slotsUsed + 10 + i * 24 ∧ (∀ a, a < T.heap.size → (mS T cA cI i).heap[a]? = T.heap[a]?) ∧ ∀ j, j < i → (mS T cA cI i).heap[T.heap.size + 1 + j]? = some (mI cI)
  | 0 => ⟨by simp [mS], by simp [mS], rfl, by simp [mS, mO, arrV], fun a ha => State.heap_pushCell_of_lt _ _ ha, fun j hj => absurd hj (Nat.not_lt_zero _)⟩
  | i + 1 => by
    obtain ⟨g1, g2, g3, g4, g5, g6⟩ := mS_all T cA cI i
    have hlt : T.heap.size < (mS T cA cI i).heap.size := by omega
    have hb : ((mS T cA cI i).pushCell (mI cI)).heap[T.heap.size]? = some (mO cA T.heap.size i) := by rw [State.heap_pushCell_of_lt (h := hlt)]; exact g2
    refine ⟨?_, State.heap_setCell_self hb, by simp [mS, g3], ?_, fun a ha => ?_, fun j hj => ?_⟩
    · simp [mS, State.setCell, g1]; omega
    · simp [mS, g4, mI, arrV]; omega
    · show (((mS T cA cI i).pushCell (mI cI)).setCell T.heap.size _).heap[a]? = _
      have h2 : a < (mS T cA cI i).heap.size := by omega
      rw [State.heap_setCell_other (Nat.ne_of_gt ha), State.heap_pushCell_of_lt (h := h2)]
      exact g5 a ha
    · show (((mS T cA cI i).pushCell (mI cI)).setCell T.heap.size _).heap[T.heap.size + 1 + j]? = _
      rw [State.heap_setCell_other (show T.heap.size ≠ T.heap.size + 1 + j by omega)]
      by_cases q : j = i
      · subst q
        rw [← g1]
        exact State.heap_pushCell_size _ _
      · have h2 : T.heap.size + 1 + j < (mS T cA cI i).heap.size := by omega
        rw [State.heap_pushCell_of_lt (h := h2)]
        exact g6 j (by omega)
theorem mS_top (T : State) (f : JFrame) (cA cI : ClassId) : ∀ i, mS (T.setTop f) cA cI i = (mS T cA cI i).setTop f
  | 0 => rfl
  | i + 1 => by simp only [mS, mS_top T f cA cI i, State.heap_setTop, State.pushCell_setTop, State.setCell_setTop]
theorem mS_stand {p : Program} {l : Launch} {e : Env} {R : Room} {s : State} {m : MethodId} {args : Array Value} {below : List Frame} {meth : Method} {c : Code} {T : State} {locs : List Loc} {cells slots : Nat} (X : Stand p l e R s m args below meth c T locs cells slots) (cA cI : ClassId) : ∀ i : Nat, ∃ L : List Loc, (∀ q ∈ L, q ∈ locs ∨ q.base = T.heap.size) ∧ Stand p l e R s m args below meth c (mS T cA cI i) L (cells + 1 + i) (slots + 10 + i * 24)
  | 0 => ⟨locs, fun q hq => Or.inl hq, by have h := X.pushed (mO cA T.heap.size 0); rw [show (mO cA T.heap.size 0).slots.size = 10 by unfold mO; rw [arrV_size]] at h; simpa [mS] using h⟩
  | i + 1 => by
    obtain ⟨L, hL, Y⟩ := mS_stand X cA cI i
    obtain ⟨g1, g2, g3, g4, g5, g6⟩ := mS_all T cA cI i
    have hlt : T.heap.size < (mS T cA cI i).heap.size := by omega
    have hb : ((mS T cA cI i).pushCell (mI cI)).heap[T.heap.size]? = some (mO cA T.heap.size i) := by rw [State.heap_pushCell_of_lt (h := hlt)]; exact g2
    have h := (Y.pushed (mI cI)).stored hb i (.ref (T.heap.size + 1 + i))
    rw [mO_up, show (mI cI).slots.size = 24 by unfold mI; rw [arrV_size]] at h
    refine ⟨L ++ [⟨T.heap.size, i⟩], fun q hq => ?_, ?_⟩
    · rcases List.mem_append.mp hq with hq | hq
      · exact hL q hq
      · right; rw [List.mem_singleton.mp hq]
    · rw [show slots + 10 + (i + 1) * 24 = slots + 10 + i * 24 + 24 by omega]
      exact h
section MNA
variable {E : CtlPost} {e : Env} {d : Bool} {acts : List Action} {s : State}
theorem mna_new {c comp : ClassId} {k : Class} {type : FieldType} {len : Nat} {init : Value} (hk : s.vm.classes[c]? = some k) (hkind : k.kind = .array comp type)
    (hlim : ¬ len > e.platform.arrayLengthLimit) (hheap : ¬ len * componentBytes type > e.platform.maxHeapBytes) (hfit : fits type init = true) (hdef : init.isDefault = true) {Q : Addr → Pre}
    (h1 : s.heap.size < e.platform.maxCells) (h2 : s.slotsUsed + len ≤ e.platform.maxSlots) (hq : Q s.heap.size d acts (s.pushCell (arrV c len (fun _ => init)))) : wp (Jvm.newArray c len init) Q E e d acts s := by
  rw [← arrV_new] at hq
  have hall : ((Array.replicate len init).all (·.isDefault)) = true := by
    rw [Array.all_replicate]; split <;> simp [hdef]
  have hda : allocActs (Array.replicate len init) s.heap.size acts = acts := by unfold allocActs; rw [if_pos hall]
  simp only [Jvm.newArray, Jvm.arrayFits, wp_bind', Jvm.W.ask, Jvm.W.ite, hlim, if_false, wp_pure', Jvm.W.theClass, hk, hkind, hheap, Jvm.W.alloc, Jvm.W.stop, Option.some.injEq, exists_eq_left', Array.size_replicate, hda]
  rw [if_neg (by omega)]
  refine ⟨h1, h2, fun i v hv => ?_, hq⟩
  simp only [Array.getElem?_replicate] at hv
  split at hv
  · cases hv; simp [State.fitsSlot, State.slotType?, hk, hkind, hfit]
  · cases hv
theorem mna_in {comp cc : ClassId} {kc : Class} (hkc : s.vm.classes[comp]? = some kc) (hkind : kc.kind = .array cc .int) (hl : ¬ 24 > e.platform.arrayLengthLimit) (hh : ¬ 24 * componentBytes .int > e.platform.maxHeapBytes)
    (h1 : s.heap.size < e.platform.maxCells) (h2 : s.slotsUsed + 24 ≤ e.platform.maxSlots) {Q : Addr → Pre} (hq : Q s.heap.size d acts (s.pushCell (mI comp))) : wp (multianewarray.make comp [24]) Q E e d acts s := by
  rw [multianewarray.make]
  simp only [wp_bind', Jvm.W.ite, show ¬ (24 : Int32) < 0 by decide, if_false, wp_pure', Jvm.W.theClass, hkc, hkind, Option.some.injEq, exists_eq_left']
  exact mna_new hkc hkind hl hh rfl rfl h1 h2 hq
theorem mna_all {cA comp cc : ClassId} {k kc : Class} (hk : s.vm.classes[cA]? = some k) (hkA : k.kind = .array comp (.array .int)) (hkc : s.vm.classes[comp]? = some kc) (hkind : kc.kind = .array cc .int)
    (hl1 : ¬ 10 > e.platform.arrayLengthLimit) (hh1 : ¬ 10 * componentBytes (.array .int) > e.platform.maxHeapBytes) (hl : ¬ 24 > e.platform.arrayLengthLimit) (hh : ¬ 24 * componentBytes .int > e.platform.maxHeapBytes)
    (hc : s.heap.size + 11 ≤ e.platform.maxCells) (hs : s.slotsUsed + 250 ≤ e.platform.maxSlots) {Q : Addr → Pre} (hq : ∀ d' acts', Q s.heap.size d' acts' (mS s cA comp 10)) : wp (multianewarray.make cA [10, 24]) Q E e d acts s := by
  rw [multianewarray.make]
  simp only [wp_bind', Jvm.W.ite, show ¬ (10 : Int32) < 0 by decide, if_false, wp_pure', Jvm.W.theClass, hk, hkA, Option.some.injEq, exists_eq_left']
  refine mna_new hk hkA hl1 hh1 rfl rfl (by omega) (by omega) ?_
  rw [if_neg (by decide)]
  rw [wp_bind', Std.Legacy.Range.forIn_eq_forIn_range']
  show wp (forIn (List.range' 0 10 1) PUnit.unit _) _ E e d acts _
  refine wp_forIn_inv (fun rest s' => ∃ i, rest = List.range' i (10 - i) ∧ i ≤ 10 ∧ s' = mS s cA comp i) _ _ ⟨0, rfl, by decide, ?_⟩ ?_ ?_
  · show _ = s.pushCell (mO cA s.heap.size 0)
    unfold mO
    congr 2
  · rintro x rest s' d' acts' Q' ⟨i, hr, hi, rfl⟩ hnext
    have hlt : i < 10 := by
      by_cases q : i < 10
      · exact q
      · rw [show 10 - i = 0 by omega] at hr; cases hr
    rw [show 10 - i = (10 - (i + 1)) + 1 by omega, List.range'_succ] at hr
    obtain ⟨rfl, hr2⟩ := List.cons.inj hr
    obtain ⟨g1, g2, g3, g4, g5, g6⟩ := mS_all s cA comp x
    simp only [wp_bind']
    refine mna_in (by rw [g3]; exact hkc) hkind hl hh (by omega) (by omega) ?_
    have hlt0 : s.heap.size < (mS s cA comp x).heap.size := by omega
    simp only [wp_bind', Jvm.W.writeLoc, wp_pure']
    refine ⟨mO cA s.heap.size x, by rw [State.heap_pushCell_of_lt (h := hlt0)]; exact g2, by simp [mO, arrV], by unfold mO; rw [arrV_size]; exact hlt, ?_, hnext _ _ _ ⟨x + 1, hr2, by omega, ?_⟩⟩
    · simp [State.fitsSlot, State.slotType?, g3, hk, hkA, mO, arrV, fits]
    · rw [g1, mO_up]; rfl
  · rintro s' d' acts' ⟨i, hr, hi, rfl⟩
    have : i = 10 := by
      by_cases q : i < 10
      · rw [show 10 - i = (10 - (i + 1)) + 1 by omega, List.range'_succ] at hr; cases hr
      · omega
    subst this
    simp only [wp_pure']
    exact hq _ _
end MNA
theorem mna_step {p : Program} {l : Launch} {e : Env} {R : Room} {s : State} {m : MethodId} {args : Array Value} {below : List Frame} {meth : Method} {c : Code} {T : State} {locs : List Loc} {cells slots : Nat} (X : Stand p l e R s m args below meth c T locs cells slots) (hexec : p.tables.exec = Jvm.exec) {own : String} {index : Nat}
    (hown : s.vm.findClass own = some m.cls) (hlink : (Cond.classLink own index "[[I").before args s = true) (hA : tw_AOA s) (harr : (Cond.arrayClass .int).before args s = true)
    {g : JFrame} (hg : g.method = m) (hdg : decode c.code g.pc = .ok (.multianewarray index 2, 4)) {rest : List Value} (hst : g.stack = .int 24 :: .int 10 :: rest) (hcells : cells + 11 ≤ R.cells) (hslots : slots + 250 ≤ R.slots) :
    ∃ (vm₁ : Vm) (cA comp : ClassId) (L : List Loc), s.WarmedH vm₁ ∧ s.vm.findClass "[[I" = some cA ∧ s.vm.findClass "[I" = some comp ∧ (∀ q ∈ L, q ∈ locs ∨ q.base = T.heap.size) ∧ Stand p l e R s m args below meth c (mS (T.setVm vm₁) cA comp 10) L (cells + 11) (slots + 250) ∧
      ∀ target, Steps p.tables e below ((mS (T.setVm vm₁) cA comp 10).setTop { g with pc := g.pc + 4, stack := .ref T.heap.size :: rest }) target → Steps p.tables e below (T.setTop g) target := by
  subst hg
  have hpl : e.platform.magicAccessors = ({} : Platform).magicAccessors := by rw [X.admits.platform]
  obtain ⟨comp, cA, kA, hcomp, -, hkA, hkindA, hnameA⟩ := hA
  obtain ⟨comp', kC, cc, hcomp', hkC, hkindC⟩ := Cond.arrayClass_spec harr
  cases Option.some.inj (hcomp'.symm.trans hcomp)
  obtain ⟨c0, hfc0, hcl⟩ := Cond.classLink_spec hown hlink e.platform hpl
  cases Option.some.inj ((show s.vm.findClass "[[I" = some cA from hnameA).symm.trans hfc0)
  obtain ⟨hg1, hwarm, hready⟩ := State.classEntry (e := e) X.warmed hcl
  generalize T.vm.noted g.method.cls index (.cls cA) = vm₁ at hg1 hwarm hready
  obtain ⟨kA1, hkA1, heA⟩ := hwarm.alike.2.2 _ _ hkA
  obtain ⟨kC1, hkC1, heC⟩ := hwarm.alike.2.2 _ _ hkC
  have X1 := X.noted hwarm
  obtain ⟨hr1, hr2⟩ := X.roomAbove (a := 11) (b := 250) hcells hslots
  obtain ⟨L, hL, XF⟩ := mS_stand X1 cA comp 10
  refine ⟨vm₁, cA, comp, L, hwarm, hnameA, hcomp, hL, XF, fun target hrest => ?_⟩
  have hl1 : ¬ 10 > e.platform.arrayLengthLimit := by rw [Launch.admits_arrayLengthLimit X.admits]; omega
  have hh1 : ¬ 10 * componentBytes (.array .int) > e.platform.maxHeapBytes := by rw [Launch.admits_maxHeapBytes X.admits]; show ¬ 10 * 4 > 536870912; omega
  have hl2 : ¬ 24 > e.platform.arrayLengthLimit := by rw [Launch.admits_arrayLengthLimit X.admits]; omega
  have hh2 : ¬ 24 * componentBytes .int > e.platform.maxHeapBytes := by rw [Launch.admits_maxHeapBytes X.admits]; show ¬ 24 * 4 > 536870912; omega
  jvm_step X.here [hexec, hdg]
  simp only [multianewarray.sem, wp_bind', Jvm.W.resolveClassAt_links (State.method?_setTop g X.here.top) hg1]
  rw [Jvm.W.popN, if_neg (by decide)]
  refine ⟨g, State.topJava?_setTop' (s := T.setVm vm₁) g X.here.top, [.int 10, .int 24], rest, rfl, hst, ?_⟩
  simp only [List.mapM_cons, List.mapM_nil, wp_bind', wp_pure']
  refine mna_all (k := kA1) (kc := kC1) (comp := comp) (cc := cc) hkA1 (by rw [heA]; exact hkindA) hkC1 (by rw [heC]; exact hkindC) hl1 hh1 hl2 hh2 (by show T.heap.size + 11 ≤ _; omega) (by show T.slotsUsed + 250 ≤ _; omega) (fun d' acts' => ?_)
  have eS : ((T.setTop g).setVm vm₁).setTop { g with stack := rest } = (T.setVm vm₁).setTop { g with stack := rest } := by
    show ((T.setVm vm₁).setTop g).setTop _ = _
    rw [State.setTop_setTop]
  rw [eS, mS_top]
  simp only [wp_bind', Jvm.W.mark, Jvm.W.pushRef, State.topJava?_setTop' _ XF.here.top, Option.some.injEq, exists_eq_left', State.setTop_setTop, State.heap_setTop]
  intro acts
  simp [jvm, XF.here.top]
  exact hrest
/-- ten rows and their row -/
def hMA (h : tH) : tH := (fun b => if b = h.2.2.2 then (18, 10) else if h.2.2.2 < b ∧ b < h.2.2.2 + 11 then (14, 24) else h.1 b, fun b => if h.2.2.2 ≤ b ∧ b < h.2.2.2 + 11 then fun _ => 0 else h.2.1 b, fun b => if b = h.2.2.2 then fun j => if 0 ≤ j ∧ j < 10 then some (h.2.2.2 + 1 + j.toNat) else none else if h.2.2.2 < b ∧ b < h.2.2.2 + 11 then fun _ => none else h.2.2.1 b, h.2.2.2 + 11)
theorem tw_c_congr {G : tG} {h h' : tH} {a : Nat} (h1 : h'.1 a = h.1 a) (h2 : h'.2.1 a = h.2.1 a) (h3 : h'.2.2.1 a = h.2.2.1 a) : tw_c G h' a = tw_c G h a := by
  unfold tw_c tw_fv
  rw [h1, h2, h3]
section RMA
variable {l : Launch} {G : tG} {M : tM} {d mc ms n0 c2 : Nat} {P : Option tV → tH → Prop} {ls : List (Nat × tV)} {st : List tV} {h : tH} {k pc nx tg : Nat}
theorem ar_mna {i : Nat} (hd : M.2.2.2.2[k]? = some (pc, .multianewarray i 2, nx, tg)) (hw : Cond.classLink M.1.cls i "[[I" ∈ tw_tbl ∧ Cond.arrayClass .int ∈ tw_tbl) (hm : h.2.2.2 - n0 + 11 ≤ mc ∧ c2 + 250 ≤ ms) (kk : tw_AW l G M d mc ms n0 (c2 + 250) P nx ls (vr (some h.2.2.2) :: st) (hMA h)) : tw_AW l G M d mc ms n0 c2 P pc ls (vi 24 :: vi 10 :: st) h := by
  intro p e s m args below meth c H locs ls' X hl hP hS h0 hn
  obtain ⟨dd, e1⟩ := tw_dec X hd rfl
  subst e1
  have hws : ∀ w ∈ tw_tbl, w.before args s = true := fun w h => X.2.2.2.2.2.1 w (List.mem_cons_of_mem _ h)
  have hB := X.2.2.2.2.2.2.2.2.2.1.1
  have hg : tw_fg G h.2.2.2 := X.fg h0
  have hU := X.2.2.2.2.2.2.1
  intro T hT Y
  have hsz : T.heap.size = G.2.2.1 + h.2.2.2 := tw_size Y X.2.2.2.2.2.2.2.2.1 h0 hg hn (by rw [hT]; exact hP) (by rw [hT]; exact hS.1)
  obtain ⟨vm₁, cA, comp, L, hW, hfA, hfC, hL, Y1, stp⟩ := mna_step Y X.1 X.2.2.2.2.1 (hws _ hw.1) hU.2.2.2.2.2.2 (hws _ hw.2) (g := F0 m pc ls' ((vi 24 :: vi 10 :: st).map (tw_v G))) rfl (by rw [X.2.1]; exact dd) (rest := st.map (tw_v G)) rfl hm.1 hm.2
  obtain ⟨g1, g2, g3, g4, g5, g6⟩ := mS_all (T.setVm vm₁) cA comp 10
  have hT2 : (T.setVm vm₁).heap = T.heap := rfl
  rw [hT2] at g1 g2 g5 g6
  have eA : cA = G.2.1 18 := by
    have f2 := (hU.1.2 5 (G.2.1 18, .array .int) rfl).2
    exact Option.some.inj (hfA.symm.trans f2)
  have eI : comp = G.2.1 14 := by
    have f2 := (hU.1.2 1 (G.2.1 14, .int) rfl).2
    exact Option.some.inj (hfC.symm.trans f2)
  subst eA
  subst eI
  have hP1 : va_P G.1 tCl (tw_ws G (hMA h)) (mS (T.setVm vm₁) (G.2.1 18) (G.2.1 14) 10).heap := by
    intro b q hb
    obtain ⟨hb1, rfl⟩ := tw_ws_inv hb
    have hb2 : b < h.2.2.2 + 11 := hb1
    by_cases c1 : b < h.2.2.2
    · rw [tw_c_congr (h := h) (h' := hMA h) (by show (if b = _ then _ else if _ then _ else _) = _; rw [if_neg (by omega), if_neg (by omega)]) (by show (if _ then _ else _) = _; rw [if_neg (by omega)]) (by show (if b = _ then _ else if _ then _ else _) = _; rw [if_neg (by omega), if_neg (by omega)])]
      have h2 := hP b _ (tw_ws_get (G := G) c1)
      refine h2.kept ?_
      show (mS (T.setVm vm₁) (G.2.1 18) (G.2.1 14) 10).heap[tw_ad G b]? = H[tw_ad G b]?
      have ht := tw_t_lt hg c1
      rw [tw_ad_lt (by omega), g5 _ (by omega), hT]
    · by_cases c2 : b = h.2.2.2
      · subst c2
        rw [tw_c_ref (h := hMA h) (ci := 18) (N := 10) (if_pos rfl) (by decide)]
        show (mS (T.setVm vm₁) (G.2.1 18) (G.2.1 14) 10).heap[tw_ad G h.2.2.2]? = some (vp_cell _ _)
        rw [tw_ad_lt (by omega), tw_t_ge hg, ← hsz, g2, vp_cell_q]
        refine congrArg some (congrArg (arrV _ 10) (funext fun j => ?_))
        show _ = va_rf (((if h.2.2.2 = h.2.2.2 then fun j => if 0 ≤ j ∧ j < 10 then some (h.2.2.2 + 1 + j.toNat) else none else _ : Int → Option Nat) (j : Int)).map (tw_ad G))
        rw [if_pos rfl]
        show _ = va_rf ((if 0 ≤ (j : Int) ∧ (j : Int) < 10 then some (h.2.2.2 + 1 + (j : Int).toNat) else none).map (tw_ad G))
        by_cases c3 : j < 10
        · rw [if_pos c3, if_pos (by omega)]
          show Value.ref (T.heap.size + 1 + j) = Value.ref (tw_ad G (h.2.2.2 + 1 + (j : Int).toNat))
          rw [tw_ad_lt (by omega), tw_t_ge (G := G) (fun q => by have := hg q; omega)]
          refine congrArg Value.ref ?_
          have e5 : (j : Int).toNat = j := Int.toNat_natCast j
          rw [e5]
          have e6 : (T.heap.size + 1 + j : Nat) = G.2.2.1 + (h.2.2.2 + 1 + j) := by omega
          exact e6
        · rw [if_neg c3, if_neg (by omega)]; rfl
      · rw [tw_c_int (h := hMA h) (ci := 14) (N := 24) (by show (if b = _ then _ else if _ then _ else _) = _; rw [if_neg c2, if_pos (by omega)]) (by decide) (by decide)]
        show (mS (T.setVm vm₁) (G.2.1 18) (G.2.1 14) 10).heap[tw_ad G b]? = some (vp_cell _ _)
        rw [tw_ad_lt (by omega), tw_t_ge (G := G) (fun q => by have := hg q; omega), show G.2.2.1 + b = T.heap.size + 1 + (b - h.2.2.2 - 1) by omega, g6 _ (by omega), vp_cell_i]
        refine congrArg some (congrArg (arrV _ 24) (funext fun j => ?_))
        show _ = Value.int (Int32.ofInt ((if _ then fun _ => 0 else _ : Int → Int) (j : Int)))
        rw [if_pos (by omega)]; rfl
  have hS1 : va_S (tw_A G) s.heap (mS (T.setVm vm₁) (G.2.1 18) (G.2.1 14) 10).heap L := by
    refine ⟨by have := hS.1; rw [← hT] at this; omega, fun q q1 q2 => ?_, fun q hq => ?_⟩
    · have h2 := hS.2.1 q q1 q2
      rw [g5 q (by have := hS.1; rw [← hT] at this; omega), hT]; exact h2
    · rcases hL q hq with h2 | h2
      · exact hS.2.2 q h2
      · show G.2.2.1 ≤ q.base
        rw [h2]
        show G.2.2.1 ≤ T.heap.size
        omega
  have K := kk p e s m args below meth c _ L ls' X hl hP1 hS1 (by show n0 ≤ h.2.2.2 + 11; omega) (by show h.2.2.2 + 11 < 1000000; omega)
  rw [show (hMA h).2.2.2 - n0 = h.2.2.2 - n0 + 11 by show h.2.2.2 + 11 - n0 = _; omega] at K
  obtain ⟨t, t1, t2⟩ := K _ rfl Y1
  refine ⟨t, stp t ?_, t2⟩
  have e3 : tw_v G (vr (some h.2.2.2)) = .ref T.heap.size := by
    show Value.ref (tw_ad G h.2.2.2) = _
    rw [tw_ad_lt hn, tw_t_ge hg, hsz]
  rw [List.map_cons, e3] at t1
  exact t1
end RMA
