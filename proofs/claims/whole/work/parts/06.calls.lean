theorem tw_goodIn {M : tM} {ws : List Cond} (h : ∀ w ∈ ws, w ∈ tw_tbl) : GoodIn (tw_wds M) ws := fun w hw => ⟨List.mem_cons_of_mem _ (h w hw), good_of_word (List.mem_filter.mp (h w hw)).2⟩
theorem tw_blind {G : tG} {av : List Value} {h : tH} {mc : Nat} : FrameBlind (va_Pc av (fun U => va_P G.1 tCl (tw_ws G h) U.heap ∧ U.heap.size = G.2.2.1 + h.2.2.2 ∧ tw_U G U ∧ h.2.2.2 + mc < 1000000 ∧ tw_fg G h.2.2.2)) := by
  intro a U g mk q
  obtain ⟨q1, q2, q3, q4, q5⟩ := q
  exact ⟨q1, q2, q3, tw_U_vm (u := U) rfl rfl q4, q5⟩
section AR3
variable {l : Launch} {G : tG} {M : tM} {d mc ms n0 c2 : Nat} {P : Option tV → tH → Prop} {ls : List (Nat × tV)} {st : List tV} {h : tH} {k pc nx tg : Nat}
/-- behind a call -/
theorem tw_run {p : Program} {e : Env} {s : State} {m : MethodId} {args : Array Value} {below : List Frame} {meth : Method} {c : Code} {H : Heap} {locs : List Loc} {ls' : Array Slot} {mc' ms' : Nat} {P' : Option tV → tH → Prop} {st0 : List Value} {av : Array Value}
    (X : tw_X l G M n0 mc p s m args meth c) (hl : lv_has ls' M.2.2.1 (tw_L G ls)) (hP : va_P G.1 tCl (tw_ws G h) H) (hS : va_S (tw_A G) s.heap H locs) (h0 : n0 ≤ h.2.2.2) (hn : h.2.2.2 < 1000000) (hb : h.2.2.2 + mc' < 1000000)
    (hr : H.size = G.2.2.1 + h.2.2.2 → va_Run p l e (tw_rm d mc ms) s m args below meth c H locs (h.2.2.2 - n0) c2 mc' ms' (F0 m pc ls' st0) (st.map (tw_v G)) (tw_Q G P' mc' av) (tw_A G))
    (kk : ∀ r h', P' r h' → tw_AW l G M d mc ms n0 (c2 + ms') P (pc + 3) ls (r.toList ++ st) h') :
    W p l e (tw_rm d mc ms) s m args below meth c H locs (h.2.2.2 - n0) c2 (MQ below (tw_Q G P mc) args s mc ms (tw_A G)) (F0 m pc ls' st0) := by
  intro T hT Y
  have hz : H.size = G.2.2.1 + h.2.2.2 := by
    rw [← hT]
    exact tw_size Y X.2.2.2.2.2.2.2.2.1 h0 (X.fg h0) hn (by rw [hT]; exact hP) (by rw [hT]; exact hS.1)
  obtain ⟨v, st₀, t, T', L, z0, Y', hL, e1, e2, ⟨r, h', hv, hp, hP', hsz, hF⟩, stp⟩ := hr hz T hT Y
  have hn' : h'.2.2.2 = h.2.2.2 + mc' := by rw [z0] at hsz; omega
  have hS' : va_S (tw_A G) s.heap T'.heap (locs ++ L) := by
    rw [e1]
    refine ⟨Nat.le_trans hS.1 (by rw [← z0]; exact hF.1), fun q h1 h2 => ?_, fun q hq => ?_⟩
    · rw [hF.2 q (by rw [z0]; exact Nat.lt_of_lt_of_le h1 hS.1) h2, z0]
      exact hS.2.1 q h1 h2
    · rcases List.mem_append.mp hq with h | h
      · exact hS.2.2 q h
      · exact hL q h
  have ec : h.2.2.2 - n0 + mc' = h'.2.2.2 - n0 := by omega
  rw [ec] at Y'
  obtain ⟨t2, a1, b1⟩ := kk r h' hp p e s m args below meth c T'.heap (locs ++ L) ls' X hl (by rw [e1]; exact hP') hS' (by omega) (by omega) T' rfl Y'
  refine ⟨t2, stp t2 ?_, b1⟩
  have ev : v = r.map (tw_v G) := by simpa using hv
  have es : v.toList ++ st.map (tw_v G) = (r.toList ++ st).map (tw_v G) := by
    rw [ev, List.map_append]
    cases r <;> rfl
  show Steps p.tables e below (T'.setTop (F0 m (pc + 3) ls' (v.toList ++ st.map (tw_v G)))) t2
  rw [es]
  exact a1
theorem tw_pre {p : Program} {s : State} {m : MethodId} {args : Array Value} {meth : Method} {c : Code} {H : Heap} {locs : List Loc} {av : List tV} {mc' : Nat} (X : tw_X l G M n0 mc p s m args meth c) (h0 : n0 ≤ h.2.2.2) (hP : va_P G.1 tCl (tw_ws G h) H) (hS : va_S (tw_A G) s.heap H locs) (hb : h.2.2.2 + mc' < 1000000) (hz : H.size = G.2.2.1 + h.2.2.2) :
    ∀ U : State, U.heap = H → s.WarmedH U.vm → va_Pc (av.map (tw_v G)) (fun U => va_P G.1 tCl (tw_ws G h) U.heap ∧ U.heap.size = G.2.2.1 + h.2.2.2 ∧ tw_U G U ∧ h.2.2.2 + mc' < 1000000 ∧ tw_fg G h.2.2.2) ((av.map (tw_v G)).toArray) U := by
  intro U hU hW
  refine ⟨rfl, by rw [hU]; exact hP, by rw [hU]; exact hz, tw_U_warm hW (by rw [hU]; exact hS.1) (fun a h1 h2 => by rw [hU]; exact hS.2.1 a h1 h2) X.2.2.2.2.2.2.1, hb, X.fg h0⟩
theorem tw_recv {s : State} {H : Heap} {a ci N : Nat} {C : String} {T : u_T} (hK : va_K G.1 tCl (tw_tys G) s) (hP : va_P G.1 tCl (tw_ws G h) H) (hk : tK h a (ci, N)) (hc : tCl[ci]? = some (C, T, N)) : ∃ cell : Cell, H[tw_ad G a]? = some cell ∧ cell.vm.isStatics = false ∧ s.vm.findClass C = some cell.cls := by
  have he := tw_ws_get (G := G) hk.2
  rw [tw_c_obj hk.1 (tw_tcl_len hc)] at he
  exact va_recv hK hP hc he
theorem tw_cat_sum (G : tG) (st : List tV) : ((st.map (tw_v G)).map fun v => v.category).sum = (st.map tw_w).sum := by
  rw [List.map_map]
  congr 1
  apply List.map_congr_left
  intro v _
  exact tw_v_cat G v
theorem tw_lvroom {m : MethodId} {ls' : Array Slot} {st0 : List Value} (h : (st.map tw_w).sum ≤ 8) : 2 * (F0 m pc ls' st0).monitorRoom + ((st.map (tw_v G)).map fun v => v.category).sum ≤ 8 := lv_room (rest := st0) (by rw [tw_cat_sum]; exact h)
def tw_PD (y : MethodName) (n : Nat) : Prop := y.cls ≠ "java/lang/invoke/MethodHandle" ∧ y.cls ≠ "java/lang/invoke/VarHandle" ∧ (parseMethodDescriptor y.desc).map (fun d => d.parameters.length) = some n
/-- the words of a call -/
def tw_LV (own : String) (i : Nat) (M' : tM) (C : String) (n : Nat) : Prop := (Cond.methodLink own i M'.1 ∈ tw_tbl ∧ Cond.instanceMethod M'.1 ∈ tw_tbl ∧ Cond.selects C M'.1 M'.1 ∈ tw_tbl ∧ Cond.initialized C ∈ tw_tbl ∧ Cond.code M'.1 M'.2.1 M'.2.2.1 M'.2.2.2.1 ∈ tw_tbl) ∧ M'.1.cls = C ∧ tw_PD M'.1 n
def tw_LS (own : String) (i : Nat) (M' : tM) (n : Nat) : Prop := (Cond.methodLink own i M'.1 ∈ tw_tbl ∧ Cond.static M'.1 ∈ tw_tbl ∧ Cond.initialized M'.1.cls ∈ tw_tbl ∧ Cond.code M'.1 M'.2.1 M'.2.2.1 M'.2.2.2.1 ∈ tw_tbl) ∧ tw_PD M'.1 n
def tw_LI (own : String) (i : Nat) (M' : tM) (n : Nat) : Prop := (Cond.methodLink own i M'.1 ∈ tw_tbl ∧ Cond.instanceMethod M'.1 ∈ tw_tbl ∧ Cond.initialized M'.1.cls ∈ tw_tbl ∧ Cond.code M'.1 M'.2.1 M'.2.2.1 M'.2.2.2.1 ∈ tw_tbl) ∧ (M'.1.name = "<init>" ∧ M'.2.2.2.1 = none) ∧ tw_PD M'.1 n
def tw_LU (own : String) (i : Nat) (x : MethodName) (M' : tM) (C : String) (n : Nat) : Prop := (Cond.methodLink own i x ∈ tw_tbl ∧ Cond.sameMethod x.cls M'.1.cls x.name x.desc ∈ tw_tbl ∧ Cond.selects C x M'.1 ∈ tw_tbl ∧ Cond.instanceMethod M'.1 ∈ tw_tbl ∧ Cond.initialized M'.1.cls ∈ tw_tbl ∧ Cond.code M'.1 M'.2.1 M'.2.2.1 M'.2.2.2.1 ∈ tw_tbl) ∧ M'.1 = ⟨M'.1.cls, x.name, x.desc⟩ ∧ tw_PD M'.1 n
def tw_LO (own : String) (i : Nat) (x : MethodName) (owner : String) (M' M0 : tM) (C : String) (n : Nat) : Prop := (Cond.methodLink own i x ∈ tw_tbl ∧ Cond.sameMethod x.cls owner x.name x.desc ∈ tw_tbl ∧ Cond.instanceMethod M0.1 ∈ tw_tbl ∧ Cond.selects C x M'.1 ∈ tw_tbl ∧ Cond.instanceMethod M'.1 ∈ tw_tbl ∧ Cond.initialized M'.1.cls ∈ tw_tbl ∧ Cond.code M'.1 M'.2.1 M'.2.2.1 M'.2.2.2.1 ∈ tw_tbl ∧ Cond.code M0.1 M0.2.1 M0.2.2.1 M0.2.2.2.1 ∈ tw_tbl) ∧ M0.1 = ⟨owner, x.name, x.desc⟩ ∧ tw_PD M0.1 n
def tw_LP (own : String) (i : Nat) (M' : tM) (n : Nat) : Prop := (Cond.methodLink own i M'.1 ∈ tw_tbl ∧ Cond.sameMethod M'.1.cls M'.1.cls M'.1.name M'.1.desc ∈ tw_tbl ∧ Cond.superclass own M'.1.cls ∈ tw_tbl ∧ Cond.instanceMethod M'.1 ∈ tw_tbl ∧ Cond.initialized M'.1.cls ∈ tw_tbl ∧ Cond.code M'.1 M'.2.1 M'.2.2.1 M'.2.2.2.1 ∈ tw_tbl) ∧ M'.1.name ≠ "<init>" ∧ tw_PD M'.1 n
theorem tw_wds_in {M' : tM} (h : Cond.code M'.1 M'.2.1 M'.2.2.1 M'.2.2.2.1 ∈ tw_tbl) : ∀ w ∈ tw_wds M', w ∈ tw_tbl := by
  intro w hw
  rcases List.mem_cons.mp hw with rfl | hw
  · exact h
  · exact hw
theorem ar_callV {i mc' ms' d' n : Nat} {M' : tM} {as : List tV} {P' : Option tV → tH → Prop} {a ci N : Nat} {C : String} {T : u_T} (hd : M.2.2.2.2[k]? = some (pc, .invokevirtual i, nx, tg)) (hw : tw_LV M.1.cls i M' C n) (hk : tK h a (ci, N)) (hc : tCl[ci]? = some (C, T, N)) (hM : tw_M l G d' mc' ms' M' (vr (some a) :: as) h P') (hn' : as.length = n) (hdd : d' + 1 ≤ d) (hL : M'.2.2.1 ≤ 45) (hm : h.2.2.2 - n0 + mc' ≤ mc ∧ c2 + ms' ≤ ms) (hst : (st.map tw_w).sum ≤ 8) (kk : ∀ r h', P' r h' → tw_AW l G M d mc ms n0 (c2 + ms') P nx ls (r.toList ++ st) h') : tw_AW l G M d mc ms n0 c2 P pc ls (as.reverse ++ vr (some a) :: st) h := by
  intro p e s m args below meth c H locs ls' X hl hP hS h0 hn
  obtain ⟨dd, e1⟩ := tw_dec X hd rfl
  subst e1
  have hB : h.2.2.2 + mc' < 1000000 := by have := X.2.2.2.2.2.2.2.2.2.1.1; omega
  have hws : ∀ w ∈ tw_wds M, w.before args s = true := X.2.2.2.2.2.1
  refine tw_run (mc' := mc') (ms' := ms') (P' := P') (av := ((vr (some a) :: as).map (tw_v G)).toArray) X hl hP hS h0 hn hB (fun hz => ?_) kk
  obtain ⟨⟨w1, w2, w3, w4, w5⟩, hC, w6⟩ := hw
  have hg : GoodIn (tw_wds M) (wsV M.1.cls i C M'.1 (tw_wds M')) := tw_goodIn (by
    intro w hw
    rcases List.mem_append.mp hw with hw | hw
    · simp only [List.mem_cons, List.not_mem_nil, or_false] at hw
      rcases hw with rfl | rfl | rfl | rfl <;> assumption
    · exact tw_wds_in w5 w hw)
  exact va_runV (As := as.map (tw_v G)) ⟨X.1, X.2.1, X.2.2.2.1, X.2.2.2.2.1, hws⟩ hM (cwV n hws hg rfl rfl rfl ⟨hC, w6⟩ ⟨hdd, by show 8 + (M'.2.2.1 + 11) + 64 * d' ≤ 64 * d; omega⟩) ⟨tw_blind, tw_recv X.2.2.2.2.2.2.1.1 hP hk hc, fun U hU hW => tw_pre (av := vr (some a) :: as) X h0 hP hS hB hz U hU hW⟩ rfl (by rw [List.length_map]; exact hn') hl.1 (by simp [List.map_append, List.map_reverse, tw_v, va_rf]) (tw_lvroom hst) dd ⟨hm.1, hm.2⟩
theorem ar_callU {i mc' ms' d' n : Nat} {M' : tM} {as : List tV} {P' : Option tV → tH → Prop} {a ci N : Nat} {C : String} {T : u_T} {x : MethodName} (hd : M.2.2.2.2[k]? = some (pc, .invokevirtual i, nx, tg)) (hw : tw_LU M.1.cls i x M' C n) (hk : tK h a (ci, N)) (hc : tCl[ci]? = some (C, T, N)) (hM : tw_M l G d' mc' ms' M' (vr (some a) :: as) h P') (hn' : as.length = n) (hdd : d' + 1 ≤ d) (hL : M'.2.2.1 ≤ 45) (hm : h.2.2.2 - n0 + mc' ≤ mc ∧ c2 + ms' ≤ ms) (hst : (st.map tw_w).sum ≤ 8) (kk : ∀ r h', P' r h' → tw_AW l G M d mc ms n0 (c2 + ms') P nx ls (r.toList ++ st) h') : tw_AW l G M d mc ms n0 c2 P pc ls (as.reverse ++ vr (some a) :: st) h := by
  intro p e s m args below meth c H locs ls' X hl hP hS h0 hn
  obtain ⟨dd, e1⟩ := tw_dec X hd rfl
  subst e1
  have hB : h.2.2.2 + mc' < 1000000 := by have := X.2.2.2.2.2.2.2.2.2.1.1; omega
  have hws : ∀ w ∈ tw_wds M, w.before args s = true := X.2.2.2.2.2.1
  refine tw_run (mc' := mc') (ms' := ms') (P' := P') (av := ((vr (some a) :: as).map (tw_v G)).toArray) X hl hP hS h0 hn hB (fun hz => ?_) kk
  obtain ⟨⟨w1, w2, w3, w4, w5, w7⟩, hC, w6⟩ := hw
  have hg : GoodIn (tw_wds M) (va_wsU M.1.cls i C M'.1.cls x M'.1 (tw_wds M')) := tw_goodIn (by
    intro w hw
    rcases List.mem_append.mp hw with hw | hw
    · simp only [List.mem_cons, List.not_mem_nil, or_false] at hw
      rcases hw with rfl | rfl | rfl | rfl | rfl <;> assumption
    · exact tw_wds_in w7 w hw)
  have w8 := w6.2.2
  rw [show M'.1.desc = x.desc by rw [hC]] at w8
  exact va_runU (As := as.map (tw_v G)) ⟨X.1, X.2.1, X.2.2.2.1, X.2.2.2.2.1, hws⟩ hM (va_cwU n hws hg rfl rfl rfl hC ⟨w6.1, w6.2.1, w8⟩ ⟨hdd, by show 8 + (M'.2.2.1 + 11) + 64 * d' ≤ 64 * d; omega⟩) ⟨tw_blind, tw_recv X.2.2.2.2.2.2.1.1 hP hk hc, fun U hU hW => tw_pre (av := vr (some a) :: as) X h0 hP hS hB hz U hU hW⟩ rfl (by rw [List.length_map]; exact hn') hl.1 (by simp [List.map_append, List.map_reverse, tw_v, va_rf]) (tw_lvroom hst) dd ⟨hm.1, hm.2⟩
theorem ar_callO {i mc' ms' d' n : Nat} {M' : tM} {as : List tV} {P' : Option tV → tH → Prop} {a ci N : Nat} {C : String} {T : u_T} {x : MethodName} {owner : String} {M0 : tM} (hd : M.2.2.2.2[k]? = some (pc, .invokevirtual i, nx, tg)) (hw : tw_LO M.1.cls i x owner M' M0 C n) (hk : tK h a (ci, N)) (hc : tCl[ci]? = some (C, T, N)) (hM : tw_M l G d' mc' ms' M' (vr (some a) :: as) h P') (hn' : as.length = n) (hdd : d' + 1 ≤ d) (hL : M'.2.2.1 ≤ 45) (hm : h.2.2.2 - n0 + mc' ≤ mc ∧ c2 + ms' ≤ ms) (hst : (st.map tw_w).sum ≤ 8) (kk : ∀ r h', P' r h' → tw_AW l G M d mc ms n0 (c2 + ms') P nx ls (r.toList ++ st) h') : tw_AW l G M d mc ms n0 c2 P pc ls (as.reverse ++ vr (some a) :: st) h := by
  intro p e s m args below meth c H locs ls' X hl hP hS h0 hn
  obtain ⟨dd, e1⟩ := tw_dec X hd rfl
  subst e1
  have hB : h.2.2.2 + mc' < 1000000 := by have := X.2.2.2.2.2.2.2.2.2.1.1; omega
  have hws : ∀ w ∈ tw_wds M, w.before args s = true := X.2.2.2.2.2.1
  refine tw_run (mc' := mc') (ms' := ms') (P' := P') (av := ((vr (some a) :: as).map (tw_v G)).toArray) X hl hP hS h0 hn hB (fun hz => ?_) kk
  obtain ⟨⟨w1, w2, w3, w4, w5, w9, w7, wA⟩, hC, w6⟩ := hw
  rw [hC] at w3
  have hg : GoodIn (tw_wds M) (va_wsO M.1.cls i C owner x M'.1 (tw_wds M')) := tw_goodIn (by
    intro w hw
    rcases List.mem_append.mp hw with hw | hw
    · simp only [List.mem_cons, List.not_mem_nil, or_false] at hw
      rcases hw with rfl | rfl | rfl | rfl | rfl | rfl <;> assumption
    · exact tw_wds_in w7 w hw)
  have w8 := w6.2.2
  rw [show M0.1.desc = x.desc by rw [hC]] at w8
  have w61 := w6.1
  have w62 := w6.2.1
  rw [show M0.1.cls = owner by rw [hC]] at w61 w62
  rw [hC] at wA
  exact va_runU (As := as.map (tw_v G)) ⟨X.1, X.2.1, X.2.2.2.1, X.2.2.2.2.1, hws⟩ hM (va_cwO n hws hg rfl rfl rfl (List.mem_cons_of_mem _ wA) ⟨w61, w62, w8⟩ ⟨hdd, by show 8 + (M'.2.2.1 + 11) + 64 * d' ≤ 64 * d; omega⟩) ⟨tw_blind, tw_recv X.2.2.2.2.2.2.1.1 hP hk hc, fun U hU hW => tw_pre (av := vr (some a) :: as) X h0 hP hS hB hz U hU hW⟩ rfl (by rw [List.length_map]; exact hn') hl.1 (by simp [List.map_append, List.map_reverse, tw_v, va_rf]) (tw_lvroom hst) dd ⟨hm.1, hm.2⟩
theorem ar_callP {i mc' ms' d' n : Nat} {M' : tM} {as : List tV} {P' : Option tV → tH → Prop} {a ci N : Nat} {C : String} {T : u_T} (hd : M.2.2.2.2[k]? = some (pc, .invokespecial i, nx, tg)) (hw : tw_LP M.1.cls i M' n) (hk : tK h a (ci, N)) (hc : tCl[ci]? = some (C, T, N)) (hM : tw_M l G d' mc' ms' M' (vr (some a) :: as) h P') (hn' : as.length = n) (hdd : d' + 1 ≤ d) (hL : M'.2.2.1 ≤ 45) (hm : h.2.2.2 - n0 + mc' ≤ mc ∧ c2 + ms' ≤ ms) (hst : (st.map tw_w).sum ≤ 8) (kk : ∀ r h', P' r h' → tw_AW l G M d mc ms n0 (c2 + ms') P nx ls (r.toList ++ st) h') : tw_AW l G M d mc ms n0 c2 P pc ls (as.reverse ++ vr (some a) :: st) h := by
  intro p e s m args below meth c H locs ls' X hl hP hS h0 hn
  obtain ⟨dd, e1⟩ := tw_dec X hd rfl
  subst e1
  have hB : h.2.2.2 + mc' < 1000000 := by have := X.2.2.2.2.2.2.2.2.2.1.1; omega
  have hws : ∀ w ∈ tw_wds M, w.before args s = true := X.2.2.2.2.2.1
  refine tw_run (mc' := mc') (ms' := ms') (P' := P') (av := ((vr (some a) :: as).map (tw_v G)).toArray) X hl hP hS h0 hn hB (fun hz => ?_) kk
  obtain ⟨⟨w1, w2, w3, w4, w5, w7⟩, hC, w6⟩ := hw
  have hg : GoodIn (tw_wds M) (va_wsSU M.1.cls i M'.1 (tw_wds M')) := tw_goodIn (by
    intro w hw
    rcases List.mem_append.mp hw with hw | hw
    · simp only [List.mem_cons, List.not_mem_nil, or_false] at hw
      rcases hw with rfl | rfl | rfl | rfl | rfl <;> assumption
    · exact tw_wds_in w7 w hw)
  exact va_runSU (As := as.map (tw_v G)) (X.2.2.2.2.2.2.1.1.1 ci _ hc).2 ⟨X.1, X.2.1, X.2.2.2.1, X.2.2.2.2.1, hws⟩ hM (va_cwSU n hws hg rfl rfl rfl ⟨hC, w6.2.2⟩ ⟨hdd, by show 8 + (M'.2.2.1 + 11) + 64 * d' ≤ 64 * d; omega⟩) ⟨tw_blind, tw_recv X.2.2.2.2.2.2.1.1 hP hk hc, fun U hU hW => tw_pre (av := vr (some a) :: as) X h0 hP hS hB hz U hU hW⟩ rfl (by rw [List.length_map]; exact hn') hl.1 (by simp [List.map_append, List.map_reverse, tw_v, va_rf]) (tw_lvroom hst) dd ⟨hm.1, hm.2⟩
theorem ar_callS {i mc' ms' d' n : Nat} {M' : tM} {as : List tV} {P' : Option tV → tH → Prop} (hd : M.2.2.2.2[k]? = some (pc, .invokestatic i, nx, tg)) (hw : tw_LS M.1.cls i M' n) (hM : tw_M l G d' mc' ms' M' (as) h P') (hn' : as.length = n) (hdd : d' + 1 ≤ d) (hL : M'.2.2.1 ≤ 45) (hm : h.2.2.2 - n0 + mc' ≤ mc ∧ c2 + ms' ≤ ms) (hst : (st.map tw_w).sum ≤ 8) (kk : ∀ r h', P' r h' → tw_AW l G M d mc ms n0 (c2 + ms') P nx ls (r.toList ++ st) h') : tw_AW l G M d mc ms n0 c2 P pc ls (as.reverse ++ st) h := by
  intro p e s m args below meth c H locs ls' X hl hP hS h0 hn
  obtain ⟨dd, e1⟩ := tw_dec X hd rfl
  subst e1
  have hB : h.2.2.2 + mc' < 1000000 := by have := X.2.2.2.2.2.2.2.2.2.1.1; omega
  have hws : ∀ w ∈ tw_wds M, w.before args s = true := X.2.2.2.2.2.1
  refine tw_run (mc' := mc') (ms' := ms') (P' := P') (av := ((as).map (tw_v G)).toArray) X hl hP hS h0 hn hB (fun hz => ?_) kk
  obtain ⟨⟨w1, w2, w3, w4⟩, w6⟩ := hw
  have hg : GoodIn (tw_wds M) (va_wsS M.1.cls i M'.1 (tw_wds M')) := tw_goodIn (by
    intro w hw
    rcases List.mem_append.mp hw with hw | hw
    · simp only [List.mem_cons, List.not_mem_nil, or_false] at hw
      rcases hw with rfl | rfl | rfl <;> assumption
    · exact tw_wds_in w4 w hw)
  exact va_runS (As := as.map (tw_v G)) ⟨X.1, X.2.1, X.2.2.2.1, X.2.2.2.2.1, hws⟩ hM (va_cwS n hws hg rfl rfl rfl w6 ⟨hdd, by show 8 + (M'.2.2.1 + 11) + 64 * d' ≤ 64 * d; omega⟩) ⟨tw_blind, fun U hU hW => tw_pre (av := as) X h0 hP hS hB hz U hU hW⟩ rfl (by rw [List.length_map]; exact hn') hl.1 (by simp [List.map_append, List.map_reverse, tw_v, va_rf]) (tw_lvroom hst) dd ⟨hm.1, hm.2⟩
theorem ar_callI {i mc' ms' d' n : Nat} {M' : tM} {as : List tV} {P' : Option tV → tH → Prop} {a : Nat} (hd : M.2.2.2.2[k]? = some (pc, .invokespecial i, nx, tg)) (hw : tw_LI M.1.cls i M' n) (hM : tw_M l G d' mc' ms' M' (vr (some a) :: as) h P') (hn' : as.length = n) (hdd : d' + 1 ≤ d) (hL : M'.2.2.1 ≤ 45) (hm : h.2.2.2 - n0 + mc' ≤ mc ∧ c2 + ms' ≤ ms) (hst : (st.map tw_w).sum ≤ 8) (kk : ∀ r h', P' r h' → tw_AW l G M d mc ms n0 (c2 + ms') P nx ls (r.toList ++ st) h') : tw_AW l G M d mc ms n0 c2 P pc ls (as.reverse ++ vr (some a) :: st) h := by
  intro p e s m args below meth c H locs ls' X hl hP hS h0 hn
  obtain ⟨dd, e1⟩ := tw_dec X hd rfl
  subst e1
  have hB : h.2.2.2 + mc' < 1000000 := by have := X.2.2.2.2.2.2.2.2.2.1.1; omega
  have hws : ∀ w ∈ tw_wds M, w.before args s = true := X.2.2.2.2.2.1
  refine tw_run (mc' := mc') (ms' := ms') (P' := P') (av := ((vr (some a) :: as).map (tw_v G)).toArray) X hl hP hS h0 hn hB (fun hz => ?_) kk
  obtain ⟨⟨w1, w2, w3, w4⟩, ⟨hC, hC2⟩, w6⟩ := hw
  have hg : GoodIn (tw_wds M) (tw_wds M') := tw_goodIn (tw_wds_in w4)
  have hw' : tw_wds M' = Cond.code M'.1 M'.2.1 M'.2.2.1 none :: tw_tbl := by rw [← hC2]; rfl
  exact va_runI (As := as.map (tw_v G)) ⟨X.1, X.2.1, X.2.2.2.1, X.2.2.2.2.1, hws⟩ hM (cwI n hws hg hw' rfl rfl (hws _ (List.mem_cons_of_mem _ w3)) (hws _ (List.mem_cons_of_mem _ w1)) (hws _ (List.mem_cons_of_mem _ w2)) hC w6 ⟨hdd, by show 8 + (M'.2.2.1 + 11) + 64 * d' ≤ 64 * d; omega⟩) ⟨tw_blind, fun U hU hW => tw_pre (av := vr (some a) :: as) X h0 hP hS hB hz U hU hW⟩ rfl (by rw [List.length_map]; exact hn') hl.1 (by simp [List.map_append, List.map_reverse, tw_v, va_rf]) (tw_lvroom hst) dd ⟨hm.1, hm.2⟩
end AR3
