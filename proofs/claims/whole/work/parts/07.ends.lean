section AR4
variable {l : Launch} {G : tG} {M : tM} {d mc ms n0 c2 : Nat} {P : Option tV → tH → Prop} {ls : List (Nat × tV)} {st : List tV} {h : tH} {k pc nx tg : Nat}
theorem tw_end {p : Program} {s : State} {m : MethodId} {args : Array Value} {meth : Method} {c : Code} {H : Heap} {locs : List Loc} (X : tw_X l G M n0 mc p s m args meth c) (hP : va_P G.1 tCl (tw_ws G h) H) (hS : va_S (tw_A G) s.heap H locs) (hc : h.2.2.2 = n0 + mc) (r : Option tV) (hp : P r h) : ∀ t : State, t.heap = H → s.WarmedH t.vm → tw_Q G P mc args s (.returned (r.map (tw_v G))) t :=
  fun t ht _ => ⟨r, h, rfl, hp, by rw [ht]; exact hP, by rw [X.2.2.2.2.2.2.2.2.1, hc]; omega, hS.F ht⟩
theorem ar_iret {x : Int} (hd : M.2.2.2.2[k]? = some (pc, .ireturn, nx, tg)) (hr : M.2.2.2.1 = some .int) (hc : h.2.2.2 = n0 + mc) (hs : c2 ≤ ms) (hp : P (some (vi x)) h) : tw_AW l G M d mc ms n0 c2 P pc ls [vi x] h := by
  intro p e s m args below meth c H locs ls' X hl hP hS h0 hn
  obtain ⟨dd, e1⟩ := tw_dec X hd rfl
  subst e1
  have ec : h.2.2.2 - n0 = mc := by omega
  rw [ec]
  refine W.widen (k := mc) (n := ms) (Nat.le_refl _) hs ?_
  exact W.iret X.1 X.2.1 (X.2.2.1.trans hr) (tw_end X hP hS hc (some (vi x)) hp) hS.2.2 dd X.2.2.2.2.2.2.2.1
theorem ar_zret {x : Int} (hd : M.2.2.2.2[k]? = some (pc, .ireturn, nx, tg)) (hr : M.2.2.2.1 = some .boolean) (hx : 0 ≤ x ∧ x ≤ 1) (hc : h.2.2.2 = n0 + mc) (hs : c2 ≤ ms) (hp : P (some (vi x)) h) : tw_AW l G M d mc ms n0 c2 P pc ls [vi x] h := by
  intro p e s m args below meth c H locs ls' X hl hP hS h0 hn
  obtain ⟨dd, e1⟩ := tw_dec X hd rfl
  subst e1
  have ec : h.2.2.2 - n0 = mc := by omega
  rw [ec]
  refine W.widen (k := mc) (n := ms) (Nat.le_refl _) hs ?_
  exact W.zret X.1 X.2.1 (X.2.2.1.trans hr) (by rcases (show x = 0 ∨ x = 1 by omega) with rfl | rfl <;> rfl) (tw_end X hP hS hc (some (vi x)) hp) hS.2.2 dd X.2.2.2.2.2.2.2.1
theorem ar_lret {x : Int} (hd : M.2.2.2.2[k]? = some (pc, .lreturn, nx, tg)) (hr : M.2.2.2.1 = some .long) (hc : h.2.2.2 = n0 + mc) (hs : c2 ≤ ms) (hp : P (some (vl x)) h) : tw_AW l G M d mc ms n0 c2 P pc ls [vl x] h := by
  intro p e s m args below meth c H locs ls' X hl hP hS h0 hn
  obtain ⟨dd, e1⟩ := tw_dec X hd rfl
  subst e1
  have ec : h.2.2.2 - n0 = mc := by omega
  rw [ec]
  refine W.widen (k := mc) (n := ms) (Nat.le_refl _) hs ?_
  exact W.lret X.1 X.2.1 (X.2.2.1.trans hr) (tw_end X hP hS hc (some (vl x)) hp) hS.2.2 dd X.2.2.2.2.2.2.2.1
theorem ar_ret (hd : M.2.2.2.2[k]? = some (pc, .return_, nx, tg)) (hr : M.2.2.2.1 = none) (hc : h.2.2.2 = n0 + mc) (hs : c2 ≤ ms) (hp : P none h) : tw_AW l G M d mc ms n0 c2 P pc ls [] h := by
  intro p e s m args below meth c H locs ls' X hl hP hS h0 hn
  obtain ⟨dd, e1⟩ := tw_dec X hd rfl
  subst e1
  have ec : h.2.2.2 - n0 = mc := by omega
  rw [ec]
  refine W.widen (k := mc) (n := ms) (Nat.le_refl _) hs ?_
  exact W.vret X.1 X.2.1 (X.2.2.1.trans hr) (tw_end X hP hS hc none hp) hS.2.2 dd X.2.2.2.2.2.2.2.1
theorem ar_aret {r : Option Nat} {nm : String} (hd : M.2.2.2.2[k]? = some (pc, .areturn, nx, tg)) (hr : M.2.2.2.1 = some (.object nm)) (hc : h.2.2.2 = n0 + mc) (hs : c2 ≤ ms) (hp : P (some (vr r)) h) : tw_AW l G M d mc ms n0 c2 P pc ls [vr r] h := by
  intro p e s m args below meth c H locs ls' X hl hP hS h0 hn
  obtain ⟨dd, e1⟩ := tw_dec X hd rfl
  subst e1
  have ec : h.2.2.2 - n0 = mc := by omega
  rw [ec]
  refine W.widen (k := mc) (n := ms) (Nat.le_refl _) hs ?_
  exact W.aret X.1 X.2.1 (X.2.2.1.trans hr) (Or.inl ⟨nm, rfl⟩) (va_rf_or _) (tw_end X hP hS hc (some (vr r)) hp) hS.2.2 dd X.2.2.2.2.2.2.2.1
theorem ar_objInit {i a : Nat} (hd : M.2.2.2.2[k]? = some (pc, .invokespecial i, nx, tg)) (hw : Cond.methodLink M.1.cls i Lib.objectInit ∈ tw_tbl) (h1 : Cond.instanceMethod Lib.objectInit ∈ tw_tbl) (h2 : Cond.code Lib.objectInit ⟨#[0xb1]⟩ 1 none ∈ tw_tbl) (hdd : 1 ≤ d) (hst : (st.map tw_w).sum ≤ 8) (kk : tw_AW l G M d mc ms n0 c2 P nx ls st h) : tw_AW l G M d mc ms n0 c2 P pc ls (vr (some a) :: st) h := by
  intro p e s m args below meth c H locs ls' X hl hP hS h0 hn
  obtain ⟨dd, e1⟩ := tw_dec X hd rfl
  subst e1
  have K := kk p e s m args below meth c H locs ls' X hl hP hS h0 hn
  have hws : ∀ w ∈ tw_tbl, w.before args s = true := fun w h => X.2.2.2.2.2.1 w (List.mem_cons_of_mem _ h)
  refine W.objInit X.1 X.2.1 X.2.2.2.2.1 (hws _ hw) (hws _ h1) (hws _ h2) (g := F0 m pc ls' _) rfl (hl.1.trans X.2.2.2.1.symm) rfl dd ?_ ?_ K
  · exact hdd
  · have := tw_lvroom (G := G) (m := m) (pc := pc) (ls' := ls') (st0 := (vr (some a) :: st).map (tw_v G)) hst
    show _ + 12 ≤ 64 * d
    have e : 2 * (F0 m pc ls' ((vr (some a) :: st).map (tw_v G))).monitorRoom + ((st.map (tw_v G)).map fun v => v.category).sum ≤ 8 := this
    omega
def tw_args : Nat → List tV → List (Nat × tV)
  | _, [] => []
  | i, v :: vs => (i, v) :: tw_args (if tw_w v = 2 then i + 2 else i + 1) vs
theorem tw_args_L (G : tG) : ∀ (vs : List tV) (i : Nat), lv_args i (vs.map (tw_v G)) = tw_L G (tw_args i vs)
  | [], _ => rfl
  | v :: vs, i => by
    simp only [List.map_cons, lv_args, tw_args, tw_L, tw_v_cat]
    rw [tw_args_L G vs]
theorem tw_sl_len (G : tG) : ∀ (vs : List tV), (lg_sl (vs.map (tw_v G))).length = (vs.map tw_w).sum
  | [] => rfl
  | v :: vs => by
    have ih := tw_sl_len G vs
    simp only [lg_sl] at ih
    simp only [lg_sl, List.map_cons, List.flatMap_cons, List.length_append, List.sum_cons, ih, tw_v_cat]
    congr 1
    rcases v with z | r | z <;> simp [tw_w]
def tw_ok (M : tM) : Prop := (plainName M.1.cls = true ∧ M.2.2.2.2.all (tw_okI M.2.1) = true)
/-- a contract, out of a walk of the body -/
theorem tw_intro {av : List tV} (hM : tw_ok M) (ha : (av.map tw_w).sum ≤ M.2.2.1) (body : tw_AW l G M d mc ms h.2.2.2 0 P 0 (tw_args 0 av) [] h) : tw_M l G d mc ms M av h P := by
  refine Met.ofW (cc := M.2.1) (maxL := M.2.2.1) (ret := M.2.2.2.1) hM.1 rfl ?_
  intro p e s m args below meth c s₁ B hml hv
  obtain ⟨rfl, hP, hz, hU, hb⟩ := hv
  have hl := lv_entry (av.map (tw_v G)) (n := M.2.2.1) (by rw [tw_sl_len]; exact ha)
  rw [tw_args_L] at hl
  rw [lg_entry_eq]
  have K := body p e s m ((av.map (tw_v G)).toArray) below meth c s.heap [] _ ⟨B.exec, B.bytes, B.returns, hml, findClass_of_methodNamed B.named, atoms_spec (ws := tw_wds M) B.pre, hU, B.notSynchronized, hz, hb, (name_of_methodNamed B.named B.method).1, fun q hq => List.all_eq_true.mp hM.2 q hq⟩ hl hP va_S.rf (Nat.le_refl _) (by have := hb.1; omega)
  rw [Nat.sub_self] at K
  exact K
end AR4
