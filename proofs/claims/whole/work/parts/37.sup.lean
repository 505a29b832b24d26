/-! super.m(..) where the superclass itself only inherits m -/
theorem sq_sub {s : State} {ps q : ClassId} {k : Class} (h1 : s.vm.classes[ps]? = some k) (h2 : k.super = some q) : s.vm.isSubclass ps q = true := by
  have hlt : ps < s.vm.classes.size := (Array.getElem?_eq_some_iff.mp h1).1
  unfold Vm.isSubclass
  obtain ⟨f, hf⟩ : ∃ f, s.vm.classes.size + 1 = f + 2 := ⟨s.vm.classes.size - 1, by have h0 : 0 < s.vm.classes.size := Nat.lt_of_le_of_lt (Nat.zero_le _) hlt; omega⟩
  rw [hf]
  simp only [Vm.isSubclassAux, h1, h2]
  simp
section SQ
variable {p : Program} {l : Launch} {e : Env} {R : Room} {s : State} {m : MethodId} {args : Array Value} {below : List Frame} {meth : Method} {c : Code}
theorem sq_call {T : State} {locs : List Loc} {cells slots : Nat} (X : Stand p l e R s m args below meth c T locs cells slots) (hexec : p.tables.exec = Jvm.exec) {own : String} {index : Nat} {x y : MethodName} {bytes : ByteArray} {maxL : Nat} {ret : Option FieldType} (hy : y = ⟨y.cls, x.name, x.desc⟩)
    (hown : s.vm.findClass own = some m.cls) (hlink : (Cond.methodLink own index x).before args s = true) (hsame : (Cond.sameMethod x.cls y.cls x.name x.desc).before args s = true) (hsup : (Cond.superclass own x.cls).before args s = true) (hsup2 : (Cond.superclass x.cls y.cls).before args s = true)
    (hinst : (Cond.instanceMethod y).before args s = true) (hcode : (Cond.code y bytes maxL ret).before args s = true) (hno : x.name ≠ "<init>")
    {W : Nat} {Pre : Pt → Array Value → Prop} {Post : Pt → Array Value → Option Value → Pt → Prop} (hK : Back l R p e below s args y 3 W Pre Post)
    {b : Addr} {cellB : Cell} {kB : Class} (hcell : T.heap[b]? = some cellB) (hobj : cellB.vm.isStatics = false) (hkB : s.vm.classes[cellB.cls]? = some kB)
    {g : JFrame} (hg : g.method = m) (hsize : g.locals.size = c.maxLocals) {argsL rest : List Value} (hlen : ∀ sig, parseMethodDescriptor y.desc = some sig → argsL.length = sig.parameters.length)
    (hstack : g.stack = argsL.reverse ++ .ref b :: rest) (hW : 2 * g.monitorRoom + (rest.map fun v => v.category).sum ≤ W) (hdg : decode c.code g.pc = .ok (.invokespecial index, 3))
    (hpre : ∀ vm₁, s.WarmedH vm₁ → Pre ⟨T.setVm vm₁, locs, cells, slots⟩ (Value.ref b :: argsL).toArray) :
    ∃ (v : Option Value) (vm₁ : Vm) (B : Pt), s.WarmedH vm₁ ∧ Stand p l e R s m args below meth c B.U B.locs B.cells B.slots ∧ Post ⟨T.setVm vm₁, locs, cells, slots⟩ (Value.ref b :: argsL).toArray v B ∧
      ∀ target, Steps p.tables e below (B.U.setTop { g with pc := g.pc + 3, stack := v.toList ++ rest }) target → Steps p.tables e below (T.setTop g) target := by
  obtain ⟨mk, methM, hnamed, hmethM, hstM, habM⟩ := Cond.instanceMethod_spec hinst
  obtain ⟨methM', cM, hmethM', -, -, -, -, -, -, hsigM⟩ := Cond.code_spec hnamed hcode
  cases hmethM.symm.trans hmethM'
  obtain ⟨ps, dk, kp, hps, hdk, hkp, hsuper, -, -, hnid⟩ := Cond.superclass_spec hown hsup
  obtain ⟨pq, dk2, kq, hpq, hdk2, hkq, hsuper2, -, -, -⟩ := Cond.superclass_spec hps hsup2
  have hn : s.methodNamed? ⟨y.cls, x.name, x.desc⟩ = some mk := by rw [← hy]; exact hnamed
  have hpm : pq = mk.cls := Option.some.inj (hpq.symm.trans (findClass_of_methodNamed hnamed))
  have hsub : s.vm.isSubclass ps mk.cls = true := sq_sub hdk2 (by rw [← hpm]; exact hsuper2)
  obtain ⟨vm₁, X₁, hstep₁⟩ := X.invokespecialUp hexec hown hlink hsame hn hmethM hstM habM hno hdk hnid hps hsuper hsub (a := b) (cell := cellB) hcell
    (fun z h => by rw [h] at hobj; cases hobj) hkB (g := g) hg (argsL := argsL) (rest := rest) (hlen _ hsigM) hstack hdg
  obtain ⟨v, B, X', hpost, hsteps⟩ := hK m meth c ⟨T.setVm vm₁, locs, cells, slots⟩ { g with stack := rest } (.invokespecial index) mk (Value.ref b :: argsL).toArray X₁ hg hsize hdg hW (X₁.named hnamed) (hpre vm₁ X₁.warmed)
  exact ⟨v, vm₁, B, X₁.warmed, X', hpost, fun target h => hstep₁ _ (by rw [doInvoke_state]; exact hsteps.trans h)⟩
end SQ
def tw_LQ (own : String) (i : Nat) (x : MethodName) (M' : tM) (n : Nat) : Prop := (Cond.methodLink own i x ∈ tw_tbl ∧ Cond.sameMethod x.cls M'.1.cls x.name x.desc ∈ tw_tbl ∧ Cond.superclass own x.cls ∈ tw_tbl ∧ Cond.superclass x.cls M'.1.cls ∈ tw_tbl ∧ Cond.instanceMethod M'.1 ∈ tw_tbl ∧ Cond.initialized M'.1.cls ∈ tw_tbl ∧ Cond.code M'.1 M'.2.1 M'.2.2.1 M'.2.2.2.1 ∈ tw_tbl) ∧ M'.1 = ⟨M'.1.cls, x.name, x.desc⟩ ∧ x.name ≠ "<init>" ∧ tw_PD M'.1 n
section SQR
variable {l : Launch} {G : tG} {M : tM} {d mc ms n0 c2 : Nat} {P : Option tV → tH → Prop} {ls : List (Nat × tV)} {st : List tV} {h : tH} {k pc nx tg : Nat}
theorem ar_callQ {i mc' ms' d' n : Nat} {M' : tM} {as : List tV} {P' : Option tV → tH → Prop} {a ci N : Nat} {C : String} {T : u_T} {x : MethodName} (hd : M.2.2.2.2[k]? = some (pc, .invokespecial i, nx, tg)) (hw : tw_LQ M.1.cls i x M' n) (hk : tK h a (ci, N)) (hc : tCl[ci]? = some (C, T, N)) (hM : tw_M l G d' mc' ms' M' (vr (some a) :: as) h P') (hn' : as.length = n) (hdd : d' + 1 ≤ d) (hL : M'.2.2.1 ≤ 45) (hm : h.2.2.2 - n0 + mc' ≤ mc ∧ c2 + ms' ≤ ms) (hst : (st.map tw_w).sum ≤ 8) (kk : ∀ r h', P' r h' → tw_AW l G M d mc ms n0 (c2 + ms') P nx ls (r.toList ++ st) h') : tw_AW l G M d mc ms n0 c2 P pc ls (as.reverse ++ vr (some a) :: st) h := by
  intro p e s m args below meth c H locs ls' X hl hP hS h0 hn
  obtain ⟨dd, e1⟩ := tw_dec X hd rfl
  subst e1
  have hB : h.2.2.2 + mc' < 1000000 := by have := X.2.2.2.2.2.2.2.2.2.1.1; omega
  have hws : ∀ w ∈ tw_wds M, w.before args s = true := X.2.2.2.2.2.1
  refine tw_run (mc' := mc') (ms' := ms') (P' := P') (av := ((vr (some a) :: as).map (tw_v G)).toArray) X hl hP hS h0 hn hB (fun hz => ?_) kk
  obtain ⟨⟨w1, w2, w3, w4, w5, w6, w7⟩, hy, hno, w8⟩ := hw
  have tb : ∀ w, w ∈ tw_tbl → w.before args s = true := fun w h => hws w (List.mem_cons_of_mem _ h)
  have hG : GoodIn (tw_wds M) (tw_wds M') := tw_goodIn (tw_wds_in w7)
  have hpin := pay_in hws hG
  have hgt : ∀ sig, parseMethodDescriptor M'.1.desc = some sig → n = sig.parameters.length := fun sig h => by
    have h2 := w8.2.2
    rw [h] at h2
    exact (Option.some.inj h2).symm
  obtain ⟨cellB, hcB, hoB, hclB⟩ := tw_recv X.2.2.2.2.2.2.1.1 hP hk hc
  obtain ⟨hfc, kB, hkB, -⟩ := (X.2.2.2.2.2.2.1.1.1 ci _ hc).2
  have ec : cellB.cls = G.1.1 ci := Option.some.inj (hclB.symm.trans hfc)
  have hK : Back l (tw_rm d mc ms) p e below s args M'.1 3 8 (PreOf (tw_rm d mc ms) mc' ms' _) (PostOf _ mc' ms' _) := back_of (bytes := M'.2.1) (maxL := M'.2.2.1) (ret := M'.2.2.2.1) hM tw_blind rfl rfl hdd (by show 8 + (M'.2.2.1 + 11) + 64 * d' ≤ 64 * d; omega) hpin (List.mem_cons_self) (fun a' U hW => word_at hW (Or.inl (by first | rfl | simp [Cond.onTables, Cond.keeps, Cond.steady])) (tb _ w6))
  intro T hT Y
  obtain ⟨v, vm₁, ⟨U', l2, c2, s2⟩, hW₁, X', ⟨g', mk, t, L, e1, e2, hq, h1, hL2, h2, h3⟩, stp⟩ := sq_call Y X.1 hy (bytes := M'.2.1) (maxL := M'.2.2.1) (ret := M'.2.2.2.1) X.2.2.2.2.1 (tb _ w1) (tb _ w2) (tb _ w3) (tb _ w4) (tb _ w5) (tb _ w7) hno hK (by rw [hT]; exact hcB) hoB (by rw [ec]; exact hkB) (g := F0 m pc ls' ((as.reverse ++ vr (some a) :: st).map (tw_v G))) rfl (hl.1.trans X.2.2.2.1.symm) (argsL := as.map (tw_v G)) (rest := st.map (tw_v G)) (fun sig h => by rw [List.length_map, hn']; exact hgt sig h) (by simp [List.map_append, List.map_reverse, tw_v, va_rf]) (tw_lvroom hst) (by rw [X.2.1]; exact dd)
    (fun vm₁ hW₁ => ⟨hm.1, hm.2, tw_pre (av := vr (some a) :: as) X h0 hP hS hB hz (T.setVm vm₁) hT hW₁⟩)
  dsimp only [Pt.U, Pt.locs, Pt.cells, Pt.slots] at X' e1 e2 h1 h2 h3 stp
  subst h1; subst h2; subst h3
  exact ⟨v, (T.setVm vm₁).calling g' mk (Value.ref (tw_ad G a) :: as.map (tw_v G)).toArray, t, U', L, hT, X', hL2, e1, e2, hq, stp⟩
end SQR
