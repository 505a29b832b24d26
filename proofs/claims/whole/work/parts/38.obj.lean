section OBJ
variable {l : Launch} {G : tG} {M : tM} {d mc ms n0 c2 : Nat} {P : Option tV → tH → Prop} {ls : List (Nat × tV)} {st : List tV} {h : tH} {k pc nx tg : Nat}
def tw_LB (own : String) (i : Nat) : Prop := Cond.methodLink own i objectInit ∈ tw_tbl ∧ Cond.instanceMethod objectInit ∈ tw_tbl ∧ Cond.code objectInit ⟨#[0xb1]⟩ 1 none ∈ tw_tbl
theorem ar_obj {i a : Nat} (hd : M.2.2.2.2[k]? = some (pc, .invokespecial i, nx, tg)) (hw : tw_LB M.1.cls i) (hdd : 1 ≤ d) (hst : (st.map tw_w).sum ≤ 8) (kk : tw_AW l G M d mc ms n0 c2 P nx ls st h) : tw_AW l G M d mc ms n0 c2 P pc ls (vr (some a) :: st) h := by
  intro p e s m args below meth c H locs ls' X hl hP hS h0 hn
  obtain ⟨dd, e1⟩ := tw_dec X hd rfl
  subst e1
  have hws : ∀ w ∈ tw_tbl, w.before args s = true := fun w h => X.2.2.2.2.2.1 w (List.mem_cons_of_mem _ h)
  exact W.objInit X.1 X.2.1 X.2.2.2.2.1 (hws _ hw.1) (hws _ hw.2.1) (hws _ hw.2.2) rfl (hl.1.trans X.2.2.2.1.symm) rfl dd hdd (by have h8 := tw_lvroom (G := G) (m := m) (pc := pc) (ls' := ls') (st0 := (vr (some a) :: st).map (tw_v G)) hst; show _ ≤ 64 * d; omega) (kk p e s m args below meth c H locs ls' X hl hP hS h0 hn)
end OBJ
section INF
variable {l : Launch} {G : tG} {M : tM} {d mc ms : Nat} {P : Option tV → tH → Prop} {h : tH}
/-- as tw_ok, for a class that has other methods of the machine's own -/
def tw_okF (M : tM) : Prop := (plainFor M.1 = true ∧ M.2.2.2.2.all (tw_okI M.2.1) = true)
theorem tw_introF {av : List tV} (hM : tw_okF M) (ha : (av.map tw_w).sum ≤ M.2.2.1) (body : tw_AW l G M d mc ms h.2.2.2 0 P 0 (tw_args 0 av) [] h) : tw_M l G d mc ms M av h P := by
  unfold tw_M Met
  refine MetFree.of_bodySF (code := M.2.1) (maxLocals := M.2.2.1) (ret := M.2.2.2.1) hM.1 ?_ ?_
  · intro args s m hh hn
    obtain ⟨meth, c, h1, h2, h3, h4, h5, h6, -, -⟩ := Cond.code_spec hn (atoms_spec (ws := tw_wds M) hh _ List.mem_cons_self)
    exact ⟨meth, c, h1, h2, h3, h4, h5, h6⟩
  · intro p e s m args below meth c s₁ B hml hv _
    have hh0 : s₁.heap = s.heap := by rw [B.state]; rfl
    obtain ⟨rfl, hP, hz, hU, hb⟩ := hv
    have hl := lv_entry (av.map (tw_v G)) (n := M.2.2.1) (by rw [tw_sl_len]; exact ha)
    rw [tw_args_L] at hl
    have K := body p e s m ((av.map (tw_v G)).toArray) below meth c s.heap [] _ ⟨B.exec, B.bytes, B.returns, hml, findClass_of_methodNamed B.named, atoms_spec (ws := tw_wds M) B.pre, hU, B.notSynchronized, hz, hb, (name_of_methodNamed B.named B.method).1, fun q hq => List.all_eq_true.mp hM.2 q hq⟩ hl hP va_S.rf (Nat.le_refl _) (by have := hb.1; omega)
    rw [Nat.sub_self] at K
    rw [lg_entry_eq]
    obtain ⟨t, a1, o, b1, b2, b3⟩ := K s₁ hh0 (Stand.of_body B)
    exact ⟨t, o, a1, b1, b2, ⟨b3.1, b3.2⟩⟩
end INF
