def zK (K : Nat → Nat × Nat) (n : Nat) (q : Nat × Nat) : Nat → Nat × Nat := fun b => if b = n then q else K b
def zI (I : Nat → Int → Int) (n : Nat) : Nat → Int → Int := fun b => if b = n then fun _ => 0 else I b
def zQ (Q : Nat → Int → Option Nat) (n : Nat) : Nat → Int → Option Nat := fun b => if b = n then fun _ => none else Q b
/-- a heap with one cell more -/
abbrev hNw (h : tH) (q : Nat × Nat) : tH := (zK h.1 h.2.2.2 q, zI h.2.1 h.2.2.2, zQ h.2.2.1 h.2.2.2, h.2.2.2 + 1)
theorem tw_c_hNw {G : tG} {h : tH} {q : Nat × Nat} {b : Nat} (hb : b < h.2.2.2) : tw_c G (hNw h q) b = tw_c G h b := by
  have e1 : zK h.1 h.2.2.2 q b = h.1 b := if_neg (by omega)
  have e2 : zI h.2.1 h.2.2.2 b = h.2.1 b := if_neg (by omega)
  have e3 : zQ h.2.2.1 h.2.2.2 b = h.2.2.1 b := if_neg (by omega)
  unfold tw_c tw_fv
  simp only [e1, e2, e3]
section AR5
variable {l : Launch} {G : tG} {M : tM} {d mc ms n0 c2 : Nat} {P : Option tV → tH → Prop} {ls : List (Nat × tV)} {st : List tV} {h : tH} {k pc nx tg : Nat}
/-- what is made lies behind what there was -/
theorem tw_fresh {p : Program} {e : Env} {s : State} {m : MethodId} {args : Array Value} {below : List Frame} {meth : Method} {c : Code} {H1 : Heap} {locs : List Loc} {slots q : Nat} {x : va_E} {R : Room} {T : State} {D : va_G} {cl : List vw_C}
    (hsz : s.heap.size = G.2.2.1 + n0) (h0 : n0 ≤ h.2.2.2) (hg : tw_fg G h.2.2.2) (hn : h.2.2.2 < 1000000) (hP1 : va_P D cl (tw_ws G h ++ [(q, x)]) H1) (hD1 : va_D (tw_A G) (tw_ws G h ++ [(q, x)])) (hT : T.heap = H1) (Y : Stand p l e R s m args below meth c T locs (h.2.2.2 - n0 + 1) slots) : q = tw_ad G h.2.2.2 := by
  have e0 : (tw_ws G h ++ [(q, x)])[h.2.2.2]? = some (q, x) := by
    rw [List.getElem?_append_right (by simp [tw_ws])]
    simp [tw_ws]
  have h1 : q < H1.size := (hP1 _ _ e0).lt
  have h2 := Y.heapSize
  rw [hT] at h2
  have h3 : G.2.2.1 ≤ q := hD1.2 _ _ e0
  rw [tw_ad_lt hn, tw_t_ge hg]
  by_cases hq : q = G.2.2.1 + h.2.2.2
  · exact hq
  · exfalso
    have hb : q - G.2.2.1 < h.2.2.2 := by omega
    obtain ⟨a, a1, a2⟩ := tw_t_on hg hb
    have e2 : (tw_ws G h ++ [(q, x)])[a]? = some (tw_ad G a, tw_c G h a) := by
      rw [List.getElem?_append_left (by simp [tw_ws]; exact a1)]
      exact tw_ws_get a1
    have := hD1.1 _ _ _ _ e0 e2 (by rw [tw_ad_lt (by omega), a2]; omega)
    omega
theorem ar_new {i ci N : Nat} {C : String} {T : u_T} (hd : M.2.2.2.2[k]? = some (pc, .new i, nx, tg)) (hw : Cond.classLink M.1.cls i C ∈ tw_tbl) (hc : tCl[ci]? = some (C, T, N)) (hty : ∀ j, j < N → ∃ ty, parseFieldDescriptor (T j).2.2.1 = some ty ∧ defaultValue ty = (if tRef ci j = true then .null else .int 0)) (hm : h.2.2.2 - n0 + 1 ≤ mc ∧ c2 + N ≤ ms) (kk : tw_AW l G M d mc ms n0 (c2 + N) P nx ls (vr (some h.2.2.2) :: st) (hNw h (ci, N))) : tw_AW l G M d mc ms n0 c2 P pc ls st h := by
  intro p e s m args below meth c H locs ls' X hl hP hS h0 hn
  obtain ⟨dd, e1⟩ := tw_dec X hd rfl
  subst e1
  have hws : ∀ w ∈ tw_tbl, w.before args s = true := fun w h => X.2.2.2.2.2.1 w (List.mem_cons_of_mem _ h)
  obtain ⟨z1, ⟨ty, z2⟩, z3, z4, z5⟩ := tw_cls hc
  have hA : ∀ q, s.heap.size ≤ q → tw_A G q := fun q hq => by show G.2.2.1 ≤ q; rw [X.2.2.2.2.2.2.2.2.1] at hq; omega
  have hB := X.2.2.2.2.2.2.2.2.2.1.1
  refine va_new (ci := ci) (fs := (List.range N).map (tw_fv G (hNw h (ci, N)) h.2.2.2)) X.1 X.2.1 hws z1 ty z2 X.2.2.2.2.1 (hws _ hw) (hws _ z4) (hws _ z5) X.2.2.2.2.2.2.1.1 hP (tw_ws_D hn) hS hA hc ?_ hm.1 hm.2 dd (fun q H1 hP1 hD1 hS1 => ?_)
  · intro j hj
    obtain ⟨t1, y1, y2⟩ := hty j hj
    have : ty j = t1 := Option.some.inj ((z2 j hj).symm.trans y1)
    rw [this, y2]
    have e1 : zK h.1 h.2.2.2 (ci, N) h.2.2.2 = (ci, N) := if_pos rfl
    have e2 : zI h.2.1 h.2.2.2 h.2.2.2 = fun _ => 0 := if_pos rfl
    have e3 : zQ h.2.2.1 h.2.2.2 h.2.2.2 = fun _ => none := if_pos rfl
    simp only [vp_V, List.getD_eq_getElem?_getD, List.getElem?_map, List.getElem?_range hj, Option.map_some, Option.getD_some, tw_fv, e1, e2, e3]
    rfl
  · intro T' hT Y
    have hq := tw_fresh X.2.2.2.2.2.2.2.2.1 h0 (X.fg h0) hn hP1 hD1 hT Y
    subst hq
    have e2 : tw_ws G h ++ [(tw_ad G h.2.2.2, .inr (ci, (List.range N).map (tw_fv G (hNw h (ci, N)) h.2.2.2)))] = tw_ws G (hNw h (ci, N)) :=
      tw_ws_push rfl (tw_c_obj (h := hNw h (ci, N)) (if_pos rfl) (tw_tcl_len hc)) (fun b hb => tw_c_hNw hb)
    rw [e2] at hP1
    have K := kk p e s m args below meth c H1 locs ls' X hl hP1 hS1 (by show n0 ≤ h.2.2.2 + 1; omega) (by show h.2.2.2 + 1 < 1000000; omega)
    rw [show (hNw h (ci, N)).2.2.2 - n0 = h.2.2.2 - n0 + 1 by show h.2.2.2 + 1 - n0 = _; omega] at K
    exact K T' hT Y
theorem ar_newa_int {N : Nat} {z : Int} (hd : M.2.2.2.2[k]? = some (pc, .newarray .int, nx, tg)) (hw : Cond.arrayClass .int ∈ tw_tbl) (hz : z = (N : Int)) (hN : N < 10000) (hm : h.2.2.2 - n0 + 1 ≤ mc ∧ c2 + N ≤ ms) (kk : tw_AW l G M d mc ms n0 (c2 + N) P nx ls (vr (some h.2.2.2) :: st) (hNw h (14, N))) : tw_AW l G M d mc ms n0 c2 P pc ls (vi z :: st) h := by
  intro p e s m args below meth c H locs ls' X hl hP hS h0 hn
  obtain ⟨dd, e1⟩ := tw_dec X hd rfl
  subst e1
  have hws : ∀ w ∈ tw_tbl, w.before args s = true := fun w h => X.2.2.2.2.2.1 w (List.mem_cons_of_mem _ h)
  have hA : ∀ q, s.heap.size ≤ q → tw_A G q := fun q hq => by show G.2.2.1 ≤ q; rw [X.2.2.2.2.2.2.2.2.1] at hq; omega
  have hB := X.2.2.2.2.2.2.2.2.2.1.1
  subst hz
  have ht : tr (N : Int) := ⟨by omega, by omega⟩
  refine va_newa (atype := .int) (n := Int32.ofInt (N : Int)) (N' := N) (a0 := (N, .inl (fun _ => 0))) X.1 X.2.1 (hws _ hw) (ty := .int) rfl X.2.2.2.2.2.2.1.1 hP (tw_ws_D hn) hS hA (fun cA => rfl) (fun q => by have := (tr_lt ht (by decide : tr 0)).mp q; omega) (by show (Int32.ofInt (N : Int)).toInt.toNat = N; rw [tr_id ht]; omega) (by show N * _ ≤ _; simp only [componentBytes]; omega) hm.1 hm.2 dd (fun q cA H1 hK1 hP1 hD1 hS1 => ?_)
  have hcA : cA = G.2.1 14 := by
    have f1 := (hK1.2 6 (cA, .int) rfl).2
    have f2 := (X.2.2.2.2.2.2.1.1.2 1 (G.2.1 14, .int) rfl).2
    exact Option.some.inj (f1.symm.trans f2)
  subst hcA
  intro T' hT Y
  have hq := tw_fresh X.2.2.2.2.2.2.2.2.1 h0 (X.fg h0) hn hP1 hD1 hT Y
  subst hq
  have e2 : tw_ws G h ++ [(tw_ad G h.2.2.2, .inl (G.2.1 14, N, .inl (fun _ => 0)))] = tw_ws G (hNw h (14, N)) := by
    refine tw_ws_push rfl ?_ (fun b hb => tw_c_hNw hb)
    rw [tw_c_int (h := hNw h (14, N)) (ci := 14) (N := N) (if_pos rfl) (by decide) (by decide)]
    have e3 : zI h.2.1 h.2.2.2 h.2.2.2 = fun _ => 0 := if_pos rfl
    simp only [e3]
    rfl
  rw [e2] at hP1
  have K := kk p e s m args below meth c H1 locs ls' X hl hP1 hS1 (by show n0 ≤ h.2.2.2 + 1; omega) (by show h.2.2.2 + 1 < 1000000; omega)
  rw [show (hNw h (14, N)).2.2.2 - n0 = h.2.2.2 - n0 + 1 by show h.2.2.2 + 1 - n0 = _; omega] at K
  exact K T' hT Y
theorem ar_newa_byte {N : Nat} {z : Int} (hd : M.2.2.2.2[k]? = some (pc, .newarray .byte, nx, tg)) (hw : Cond.arrayClass .byte ∈ tw_tbl) (hz : z = (N : Int)) (hN : N < 10000) (hm : h.2.2.2 - n0 + 1 ≤ mc ∧ c2 + N ≤ ms) (kk : tw_AW l G M d mc ms n0 (c2 + N) P nx ls (vr (some h.2.2.2) :: st) (hNw h (13, N))) : tw_AW l G M d mc ms n0 c2 P pc ls (vi z :: st) h := by
  intro p e s m args below meth c H locs ls' X hl hP hS h0 hn
  obtain ⟨dd, e1⟩ := tw_dec X hd rfl
  subst e1
  have hws : ∀ w ∈ tw_tbl, w.before args s = true := fun w h => X.2.2.2.2.2.1 w (List.mem_cons_of_mem _ h)
  have hA : ∀ q, s.heap.size ≤ q → tw_A G q := fun q hq => by show G.2.2.1 ≤ q; rw [X.2.2.2.2.2.2.2.2.1] at hq; omega
  have hB := X.2.2.2.2.2.2.2.2.2.1.1
  subst hz
  have ht : tr (N : Int) := ⟨by omega, by omega⟩
  refine va_newa (atype := .byte) (n := Int32.ofInt (N : Int)) (N' := N) (a0 := (N, .inl (fun _ => 0))) X.1 X.2.1 (hws _ hw) (ty := .byte) rfl X.2.2.2.2.2.2.1.1 hP (tw_ws_D hn) hS hA (fun cA => rfl) (fun q => by have := (tr_lt ht (by decide : tr 0)).mp q; omega) (by show (Int32.ofInt (N : Int)).toInt.toNat = N; rw [tr_id ht]; omega) (by show N * _ ≤ _; simp only [componentBytes]; omega) hm.1 hm.2 dd (fun q cA H1 hK1 hP1 hD1 hS1 => ?_)
  have hcA : cA = G.2.1 13 := by
    have f1 := (hK1.2 6 (cA, .byte) rfl).2
    have f2 := (X.2.2.2.2.2.2.1.1.2 0 (G.2.1 13, .byte) rfl).2
    exact Option.some.inj (f1.symm.trans f2)
  subst hcA
  intro T' hT Y
  have hq := tw_fresh X.2.2.2.2.2.2.2.2.1 h0 (X.fg h0) hn hP1 hD1 hT Y
  subst hq
  have e2 : tw_ws G h ++ [(tw_ad G h.2.2.2, .inl (G.2.1 13, N, .inl (fun _ => 0)))] = tw_ws G (hNw h (13, N)) := by
    refine tw_ws_push rfl ?_ (fun b hb => tw_c_hNw hb)
    rw [tw_c_int (h := hNw h (13, N)) (ci := 13) (N := N) (if_pos rfl) (by decide) (by decide)]
    have e3 : zI h.2.1 h.2.2.2 h.2.2.2 = fun _ => 0 := if_pos rfl
    simp only [e3]
    rfl
  rw [e2] at hP1
  have K := kk p e s m args below meth c H1 locs ls' X hl hP1 hS1 (by show n0 ≤ h.2.2.2 + 1; omega) (by show h.2.2.2 + 1 < 1000000; omega)
  rw [show (hNw h (13, N)).2.2.2 - n0 = h.2.2.2 - n0 + 1 by show h.2.2.2 + 1 - n0 = _; omega] at K
  exact K T' hT Y
theorem ar_newa_boolean {N : Nat} {z : Int} (hd : M.2.2.2.2[k]? = some (pc, .newarray .boolean, nx, tg)) (hw : Cond.arrayClass .boolean ∈ tw_tbl) (hz : z = (N : Int)) (hN : N < 10000) (hm : h.2.2.2 - n0 + 1 ≤ mc ∧ c2 + N ≤ ms) (kk : tw_AW l G M d mc ms n0 (c2 + N) P nx ls (vr (some h.2.2.2) :: st) (hNw h (15, N))) : tw_AW l G M d mc ms n0 c2 P pc ls (vi z :: st) h := by
  intro p e s m args below meth c H locs ls' X hl hP hS h0 hn
  obtain ⟨dd, e1⟩ := tw_dec X hd rfl
  subst e1
  have hws : ∀ w ∈ tw_tbl, w.before args s = true := fun w h => X.2.2.2.2.2.1 w (List.mem_cons_of_mem _ h)
  have hA : ∀ q, s.heap.size ≤ q → tw_A G q := fun q hq => by show G.2.2.1 ≤ q; rw [X.2.2.2.2.2.2.2.2.1] at hq; omega
  have hB := X.2.2.2.2.2.2.2.2.2.1.1
  subst hz
  have ht : tr (N : Int) := ⟨by omega, by omega⟩
  refine va_newa (atype := .boolean) (n := Int32.ofInt (N : Int)) (N' := N) (a0 := (N, .inl (fun _ => 0))) X.1 X.2.1 (hws _ hw) (ty := .boolean) rfl X.2.2.2.2.2.2.1.1 hP (tw_ws_D hn) hS hA (fun cA => rfl) (fun q => by have := (tr_lt ht (by decide : tr 0)).mp q; omega) (by show (Int32.ofInt (N : Int)).toInt.toNat = N; rw [tr_id ht]; omega) (by show N * _ ≤ _; simp only [componentBytes]; omega) hm.1 hm.2 dd (fun q cA H1 hK1 hP1 hD1 hS1 => ?_)
  have hcA : cA = G.2.1 15 := by
    have f1 := (hK1.2 6 (cA, .boolean) rfl).2
    have f2 := (X.2.2.2.2.2.2.1.1.2 2 (G.2.1 15, .boolean) rfl).2
    exact Option.some.inj (f1.symm.trans f2)
  subst hcA
  intro T' hT Y
  have hq := tw_fresh X.2.2.2.2.2.2.2.2.1 h0 (X.fg h0) hn hP1 hD1 hT Y
  subst hq
  have e2 : tw_ws G h ++ [(tw_ad G h.2.2.2, .inl (G.2.1 15, N, .inl (fun _ => 0)))] = tw_ws G (hNw h (15, N)) := by
    refine tw_ws_push rfl ?_ (fun b hb => tw_c_hNw hb)
    rw [tw_c_int (h := hNw h (15, N)) (ci := 15) (N := N) (if_pos rfl) (by decide) (by decide)]
    have e3 : zI h.2.1 h.2.2.2 h.2.2.2 = fun _ => 0 := if_pos rfl
    simp only [e3]
    rfl
  rw [e2] at hP1
  have K := kk p e s m args below meth c H1 locs ls' X hl hP1 hS1 (by show n0 ≤ h.2.2.2 + 1; omega) (by show h.2.2.2 + 1 < 1000000; omega)
  rw [show (hNw h (15, N)).2.2.2 - n0 = h.2.2.2 - n0 + 1 by show h.2.2.2 + 1 - n0 = _; omega] at K
  exact K T' hT Y
theorem ar_anew_Hand {i N : Nat} {z : Int} (hd : M.2.2.2.2[k]? = some (pc, .anewarray i, nx, tg)) (hw : Cond.classLink M.1.cls i "TwinTools$Hand" ∈ tw_tbl) (hz : z = (N : Int)) (hN : N < 10000) (hm : h.2.2.2 - n0 + 1 ≤ mc ∧ c2 + N ≤ ms) (kk : tw_AW l G M d mc ms n0 (c2 + N) P nx ls (vr (some h.2.2.2) :: st) (hNw h (16, N))) : tw_AW l G M d mc ms n0 c2 P pc ls (vi z :: st) h := by
  intro p e s m args below meth c H locs ls' X hl hP hS h0 hn
  obtain ⟨dd, e1⟩ := tw_dec X hd rfl
  subst e1
  have hws : ∀ w ∈ tw_tbl, w.before args s = true := fun w h => X.2.2.2.2.2.1 w (List.mem_cons_of_mem _ h)
  have hA : ∀ q, s.heap.size ≤ q → tw_A G q := fun q hq => by show G.2.2.1 ≤ q; rw [X.2.2.2.2.2.2.2.2.1] at hq; omega
  have hB := X.2.2.2.2.2.2.2.2.2.1.1
  subst hz
  have ht : tr (N : Int) := ⟨by omega, by omega⟩
  refine va_newq (n := Int32.ofInt (N : Int)) (N' := N) X.1 X.2.1 X.2.2.2.2.1 (hws _ hw) X.2.2.2.2.2.2.1.2.2.2.2.1 X.2.2.2.2.2.2.1.1 hP (tw_ws_D hn) hS hA (fun q => by have := (tr_lt ht (by decide : tr 0)).mp q; omega) (by show (Int32.ofInt (N : Int)).toInt.toNat = N; rw [tr_id ht]; omega) (by omega) hm.1 hm.2 dd (fun q cA H1 hK1 hP1 hD1 hS1 => ?_)
  have hcA : cA = G.2.1 16 := by
    obtain ⟨_, _, _, _, _, f1⟩ := (hK1.2 6 (cA, .object "TwinTools$Hand") rfl).2
    obtain ⟨_, _, _, _, _, f2⟩ := (X.2.2.2.2.2.2.1.1.2 3 (G.2.1 16, .object "TwinTools$Hand") rfl).2
    exact Option.some.inj (f1.symm.trans f2)
  subst hcA
  intro T' hT Y
  have hq := tw_fresh X.2.2.2.2.2.2.2.2.1 h0 (X.fg h0) hn hP1 hD1 hT Y
  subst hq
  have e2 : tw_ws G h ++ [(tw_ad G h.2.2.2, .inl (G.2.1 16, N, .inr (.inr (.inr (.inr (fun _ => none))))))] = tw_ws G (hNw h (16, N)) := by
    refine tw_ws_push rfl ?_ (fun b hb => tw_c_hNw hb)
    rw [tw_c_ref (h := hNw h (16, N)) (ci := 16) (N := N) (if_pos rfl) (by decide)]
    have e3 : zQ h.2.2.1 h.2.2.2 h.2.2.2 = fun _ => none := if_pos rfl
    simp only [e3]
    rfl
  rw [e2] at hP1
  have K := kk p e s m args below meth c H1 locs ls' X hl hP1 hS1 (by show n0 ≤ h.2.2.2 + 1; omega) (by show h.2.2.2 + 1 < 1000000; omega)
  rw [show (hNw h (16, N)).2.2.2 - n0 = h.2.2.2 - n0 + 1 by show h.2.2.2 + 1 - n0 = _; omega] at K
  exact K T' hT Y
theorem ar_anew_Valley {i N : Nat} {z : Int} (hd : M.2.2.2.2[k]? = some (pc, .anewarray i, nx, tg)) (hw : Cond.classLink M.1.cls i "TwinTools$Valley" ∈ tw_tbl) (hz : z = (N : Int)) (hN : N < 10000) (hm : h.2.2.2 - n0 + 1 ≤ mc ∧ c2 + N ≤ ms) (kk : tw_AW l G M d mc ms n0 (c2 + N) P nx ls (vr (some h.2.2.2) :: st) (hNw h (17, N))) : tw_AW l G M d mc ms n0 c2 P pc ls (vi z :: st) h := by
  intro p e s m args below meth c H locs ls' X hl hP hS h0 hn
  obtain ⟨dd, e1⟩ := tw_dec X hd rfl
  subst e1
  have hws : ∀ w ∈ tw_tbl, w.before args s = true := fun w h => X.2.2.2.2.2.1 w (List.mem_cons_of_mem _ h)
  have hA : ∀ q, s.heap.size ≤ q → tw_A G q := fun q hq => by show G.2.2.1 ≤ q; rw [X.2.2.2.2.2.2.2.2.1] at hq; omega
  have hB := X.2.2.2.2.2.2.2.2.2.1.1
  subst hz
  have ht : tr (N : Int) := ⟨by omega, by omega⟩
  refine va_newq (n := Int32.ofInt (N : Int)) (N' := N) X.1 X.2.1 X.2.2.2.2.1 (hws _ hw) X.2.2.2.2.2.2.1.2.2.2.2.2.1 X.2.2.2.2.2.2.1.1 hP (tw_ws_D hn) hS hA (fun q => by have := (tr_lt ht (by decide : tr 0)).mp q; omega) (by show (Int32.ofInt (N : Int)).toInt.toNat = N; rw [tr_id ht]; omega) (by omega) hm.1 hm.2 dd (fun q cA H1 hK1 hP1 hD1 hS1 => ?_)
  have hcA : cA = G.2.1 17 := by
    obtain ⟨_, _, _, _, _, f1⟩ := (hK1.2 6 (cA, .object "TwinTools$Valley") rfl).2
    obtain ⟨_, _, _, _, _, f2⟩ := (X.2.2.2.2.2.2.1.1.2 4 (G.2.1 17, .object "TwinTools$Valley") rfl).2
    exact Option.some.inj (f1.symm.trans f2)
  subst hcA
  intro T' hT Y
  have hq := tw_fresh X.2.2.2.2.2.2.2.2.1 h0 (X.fg h0) hn hP1 hD1 hT Y
  subst hq
  have e2 : tw_ws G h ++ [(tw_ad G h.2.2.2, .inl (G.2.1 17, N, .inr (.inr (.inr (.inr (fun _ => none))))))] = tw_ws G (hNw h (17, N)) := by
    refine tw_ws_push rfl ?_ (fun b hb => tw_c_hNw hb)
    rw [tw_c_ref (h := hNw h (17, N)) (ci := 17) (N := N) (if_pos rfl) (by decide)]
    have e3 : zQ h.2.2.1 h.2.2.2 h.2.2.2 = fun _ => none := if_pos rfl
    simp only [e3]
    rfl
  rw [e2] at hP1
  have K := kk p e s m args below meth c H1 locs ls' X hl hP1 hS1 (by show n0 ≤ h.2.2.2 + 1; omega) (by show h.2.2.2 + 1 < 1000000; omega)
  rw [show (hNw h (17, N)).2.2.2 - n0 = h.2.2.2 - n0 + 1 by show h.2.2.2 + 1 - n0 = _; omega] at K
  exact K T' hT Y
theorem ar_inst {i a ci N : Nat} {C nm : String} {T : u_T} {b : Int} (hd : M.2.2.2.2[k]? = some (pc, .instanceof i, nx, tg)) (hw : Cond.classLink M.1.cls i nm ∈ tw_tbl) (hk : tK h a (ci, N)) (hc : tCl[ci]? = some (C, T, N)) (hb : (b = 1 ∧ (C = nm ∨ (C, nm) ∈ castL)) ∨ (b = 0 ∧ (C, nm) ∈ ncL)) (kk : tw_AW l G M d mc ms n0 c2 P nx ls (vi b :: st) h) : tw_AW l G M d mc ms n0 c2 P pc ls (vr (some a) :: st) h := by
  intro p e s m args below meth c H locs ls' X hl hP hS h0 hn
  obtain ⟨dd, e1⟩ := tw_dec X hd rfl
  subst e1
  have hws : ∀ w ∈ tw_tbl, w.before args s = true := fun w h => X.2.2.2.2.2.1 w (List.mem_cons_of_mem _ h)
  have K := kk p e s m args below meth c H locs ls' X hl hP hS h0 hn
  have hr := tw_recv (G := G) X.2.2.2.2.2.2.1.1 hP hk hc
  rcases hb with ⟨rfl, hb⟩ | ⟨rfl, hb⟩
  · rcases hb with rfl | hb
    · exact va_instS X.1 X.2.1 X.2.2.2.2.1 (hws _ hw) (X.2.2.2.2.2.2.1.1.1 ci _ hc).2 hr dd K
    · exact va_instY X.1 X.2.1 X.2.2.2.2.1 (hws _ hw) (X.2.2.2.2.2.2.1.2.2.1 _ hb) hr dd K
  · exact va_instNo X.1 X.2.1 X.2.2.2.2.1 (hws _ hw) (X.2.2.2.2.2.2.1.2.2.2.1 _ hb) hr dd K
theorem ar_tswIn {dflt lo hi off : Int} {offs : Array Int} {z : Int} {t : Nat} (hd : M.2.2.2.2[k]? = some (pc, .tableswitch dflt lo hi offs, nx, tg)) (hz : tr z) (h1 : lo ≤ z) (h2 : z ≤ hi) (ho : offs[(z - lo).toNat]? = some off) (ht : (pc : Int) + off = (t : Int)) (kk : tw_AW l G M d mc ms n0 c2 P t ls st h) : tw_AW l G M d mc ms n0 c2 P pc ls (vi z :: st) h := by
  intro p e s m args below meth c H locs ls' X hl hP hS h0 hn
  have dd := tw_sw X hd
  exact lv_tableIn X.1 X.2.1 dd (by rw [tr_id hz]; omega) (by rw [tr_id hz]; omega) (by rw [tr_id hz]; exact ho) ht (kk p e s m args below meth c H locs ls' X hl hP hS h0 hn)
theorem ar_tswOut {dflt lo hi : Int} {offs : Array Int} {z : Int} {t : Nat} (hd : M.2.2.2.2[k]? = some (pc, .tableswitch dflt lo hi offs, nx, tg)) (hz : tr z) (h1 : z < lo ∨ hi < z) (ht : (pc : Int) + dflt = (t : Int)) (kk : tw_AW l G M d mc ms n0 c2 P t ls st h) : tw_AW l G M d mc ms n0 c2 P pc ls (vi z :: st) h := by
  intro p e s m args below meth c H locs ls' X hl hP hS h0 hn
  have dd := tw_sw X hd
  exact lv_tableOut X.1 X.2.1 dd (by rw [tr_id hz]; exact h1) ht (kk p e s m args below meth c H locs ls' X hl hP hS h0 hn)
theorem ar_lsw {dflt off : Int} {ps : Array (Int × Int)} {z : Int} {t : Nat} (hd : M.2.2.2.2[k]? = some (pc, .lookupswitch dflt ps, nx, tg)) (hz : tr z) (hp : (ps.toList.zip (ps.toList.drop 1)).all (fun (a, next) => a.1 < next.1) = true) (ho : Op.lookupswitch.offset ps.toList dflt z = off) (ht : (pc : Int) + off = (t : Int)) (kk : tw_AW l G M d mc ms n0 c2 P t ls st h) : tw_AW l G M d mc ms n0 c2 P pc ls (vi z :: st) h := by
  intro p e s m args below meth c H locs ls' X hl hP hS h0 hn
  have dd := tw_sw X hd
  exact lv_lookup X.1 X.2.1 dd hp (by rw [tr_id hz]; exact ho) ht (kk p e s m args below meth c H locs ls' X hl hP hS h0 hn)
def tcpy (f g : Int → Int) (n : Nat) : Int → Int := fun j => if 0 ≤ j ∧ j < n then f j else g j
def hC (h : tH) (a b n : Nat) : tH := (h.1, fun x => if x = b then tcpy (h.2.1 a) (h.2.1 b) n else h.2.1 x, h.2.2.1, h.2.2.2)
theorem ar_copyi {i a b N N' n : Nat} {z : Int} (hd : M.2.2.2.2[k]? = some (pc, .invokestatic i, nx, tg)) (hw : Cond.methodLink M.1.cls i arraycopyName ∈ tw_tbl ∧ Cond.native arraycopyName ∈ tw_tbl ∧ Cond.static arraycopyName ∈ tw_tbl ∧ Cond.initialized "java/lang/System" ∈ tw_tbl) (hka : tK h a (14, N)) (hkb : tK h b (14, N')) (hz : z = (n : Int)) (hN : n ≤ N ∧ n ≤ N' ∧ n < 10000) (hdd : 1 ≤ d) (hst : (st.map tw_w).sum ≤ 8) (kk : tw_AW l G M d mc ms n0 c2 P nx ls st (hC h a b n)) : tw_AW l G M d mc ms n0 c2 P pc ls (vi z :: vi 0 :: vr (some b) :: vi 0 :: vr (some a) :: st) h := by
  intro p e s m args below meth c H locs ls' X hl hP hS h0 hn
  obtain ⟨dd, e1⟩ := tw_dec X hd rfl
  subst e1
  have hws : ∀ w ∈ tw_tbl, w.before args s = true := fun w h => X.2.2.2.2.2.1 w (List.mem_cons_of_mem _ h)
  have ha := tw_ws_get (G := G) hka.2
  rw [tw_c_int hka.1 (by decide) (by decide)] at ha
  have hb := tw_ws_get (G := G) hkb.2
  rw [tw_c_int hkb.1 (by decide) (by decide)] at hb
  subst hz
  have ht : tr (n : Int) := ⟨by omega, by omega⟩
  have en : (Int32.ofInt (n : Int)).toNatClampNeg = n := by show (Int32.ofInt (n : Int)).toInt.toNat = n; rw [tr_id ht]; omega
  have e0 : (Int32.ofInt 0).toNatClampNeg = 0 := rfl
  refine va_copyi (sp := Int32.ofInt 0) (dp := Int32.ofInt 0) (n := Int32.ofInt (n : Int)) X.1 X.2.1 (X.2.2.2.1.trans hl.1.symm) X.2.2.2.2.1 (hws _ hw.1) (hws _ hw.2.1) (hws _ hw.2.2.1) (hws _ hw.2.2.2) X.2.2.2.2.2.2.1.1 hP (tw_ws_D hn) hS a b 1 1 ha hb rfl rfl rfl (by decide) (by decide) (fun q => by have := (tr_lt ht (by decide : tr 0)).mp q; omega) (by rw [en, e0]; omega) (by rw [en, e0]; omega) (fun i _ => rfl) hdd ?_ dd (fun H1 locs1 hP1 _ hS1 => ?_)
  · have := tw_cat_sum G st
    rw [this]
    show _ ≤ 64 * d
    have e : nativeFrameWords "java/lang/System" "arraycopy" 5 ≤ 40 := by decide
    omega
  · have e2 : (tw_ws G h).set b (tw_ad G b, .inl (G.2.1 14, N', .inl (va_cpy (fun j => Int32.ofInt (h.2.1 a (j : Int))) (fun j => Int32.ofInt (h.2.1 b (j : Int))) (Int32.ofInt 0).toNatClampNeg (Int32.ofInt 0).toNatClampNeg (Int32.ofInt (n : Int)).toNatClampNeg))) = tw_ws G (hC h a b n) := by
      refine tw_ws_set rfl hkb.2 ?_ (fun x hx => ?_)
      · rw [tw_c_int (h := hC h a b n) hkb.1 (by decide) (by decide), en, e0]
        congr 4
        funext j
        have e3 : (hC h a b n).2.1 b = tcpy (h.2.1 a) (h.2.1 b) n := if_pos rfl
        rw [e3]
        by_cases hj : j < n
        · have hj' : (0 : Int) ≤ (j : Int) ∧ (j : Int) < (n : Int) := by omega
          simp [va_cpy, tcpy, hj, hj']
        · have hj' : ¬ ((0 : Int) ≤ (j : Int) ∧ (j : Int) < (n : Int)) := by omega
          simp [va_cpy, tcpy, hj]
      · have e3 : (hC h a b n).2.1 x = h.2.1 x := if_neg hx
        unfold tw_c tw_fv
        simp only [e3]
        rfl
    rw [e2] at hP1
    exact kk p e s m args below meth c H1 locs1 ls' X hl hP1 hS1 h0 hn
theorem ar_copyb {i a b N N' n : Nat} {z : Int} (hd : M.2.2.2.2[k]? = some (pc, .invokestatic i, nx, tg)) (hw : Cond.methodLink M.1.cls i arraycopyName ∈ tw_tbl ∧ Cond.native arraycopyName ∈ tw_tbl ∧ Cond.static arraycopyName ∈ tw_tbl ∧ Cond.initialized "java/lang/System" ∈ tw_tbl) (hka : tK h a (13, N)) (hkb : tK h b (13, N')) (hz : z = (n : Int)) (hN : n ≤ N ∧ n ≤ N' ∧ n < 10000) (hf : ∀ j : Int, 0 ≤ j → j < n → -128 ≤ h.2.1 a j ∧ h.2.1 a j ≤ 127) (hdd : 1 ≤ d) (hst : (st.map tw_w).sum ≤ 8) (kk : tw_AW l G M d mc ms n0 c2 P nx ls st (hC h a b n)) : tw_AW l G M d mc ms n0 c2 P pc ls (vi z :: vi 0 :: vr (some b) :: vi 0 :: vr (some a) :: st) h := by
  intro p e s m args below meth c H locs ls' X hl hP hS h0 hn
  obtain ⟨dd, e1⟩ := tw_dec X hd rfl
  subst e1
  have hws : ∀ w ∈ tw_tbl, w.before args s = true := fun w h => X.2.2.2.2.2.1 w (List.mem_cons_of_mem _ h)
  have ha := tw_ws_get (G := G) hka.2
  rw [tw_c_int hka.1 (by decide) (by decide)] at ha
  have hb := tw_ws_get (G := G) hkb.2
  rw [tw_c_int hkb.1 (by decide) (by decide)] at hb
  subst hz
  have ht : tr (n : Int) := ⟨by omega, by omega⟩
  have en : (Int32.ofInt (n : Int)).toNatClampNeg = n := by show (Int32.ofInt (n : Int)).toInt.toNat = n; rw [tr_id ht]; omega
  have e0 : (Int32.ofInt 0).toNatClampNeg = 0 := rfl
  refine va_copyi (sp := Int32.ofInt 0) (dp := Int32.ofInt 0) (n := Int32.ofInt (n : Int)) X.1 X.2.1 (X.2.2.2.1.trans hl.1.symm) X.2.2.2.2.1 (hws _ hw.1) (hws _ hw.2.1) (hws _ hw.2.2.1) (hws _ hw.2.2.2) X.2.2.2.2.2.2.1.1 hP (tw_ws_D hn) hS a b 0 0 ha hb rfl rfl rfl (by decide) (by decide) (fun q => by have := (tr_lt ht (by decide : tr 0)).mp q; omega) (by rw [en, e0]; omega) (by rw [en, e0]; omega) (?_) hdd ?_ dd (fun H1 locs1 hP1 _ hS1 => ?_)
  · intro j hj
    rw [e0, Nat.zero_add]
    rw [en] at hj
    have hh := hf (j : Int) (by omega) (by omega)
    have hx : tr (h.2.1 a (j : Int)) := ⟨by omega, by omega⟩
    have q1 : (-128 : Int32) ≤ Int32.ofInt (h.2.1 a (j : Int)) := (tr_le (by decide : tr (-128)) hx).mpr hh.1
    have q2 : Int32.ofInt (h.2.1 a (j : Int)) ≤ (127 : Int32) := (tr_le hx (by decide : tr 127)).mpr hh.2
    show (decide ((-128 : Int32) ≤ Int32.ofInt (h.2.1 a (j : Int))) && decide (Int32.ofInt (h.2.1 a (j : Int)) ≤ 127)) = true
    simp [q1, q2]
  · have := tw_cat_sum G st
    rw [this]
    show _ ≤ 64 * d
    have e : nativeFrameWords "java/lang/System" "arraycopy" 5 ≤ 40 := by decide
    omega
  · have e2 : (tw_ws G h).set b (tw_ad G b, .inl (G.2.1 13, N', .inl (va_cpy (fun j => Int32.ofInt (h.2.1 a (j : Int))) (fun j => Int32.ofInt (h.2.1 b (j : Int))) (Int32.ofInt 0).toNatClampNeg (Int32.ofInt 0).toNatClampNeg (Int32.ofInt (n : Int)).toNatClampNeg))) = tw_ws G (hC h a b n) := by
      refine tw_ws_set rfl hkb.2 ?_ (fun x hx => ?_)
      · rw [tw_c_int (h := hC h a b n) hkb.1 (by decide) (by decide), en, e0]
        congr 4
        funext j
        have e3 : (hC h a b n).2.1 b = tcpy (h.2.1 a) (h.2.1 b) n := if_pos rfl
        rw [e3]
        by_cases hj : j < n
        · have hj' : (0 : Int) ≤ (j : Int) ∧ (j : Int) < (n : Int) := by omega
          simp [va_cpy, tcpy, hj, hj']
        · have hj' : ¬ ((0 : Int) ≤ (j : Int) ∧ (j : Int) < (n : Int)) := by omega
          simp [va_cpy, tcpy, hj]
      · have e3 : (hC h a b n).2.1 x = h.2.1 x := if_neg hx
        unfold tw_c tw_fv
        simp only [e3]
        rfl
    rw [e2] at hP1
    exact kk p e s m args below meth c H1 locs1 ls' X hl hP1 hS1 h0 hn
end AR5
