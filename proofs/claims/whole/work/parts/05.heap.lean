theorem n_0 : ∀ a, a < 4 → ∀ b, b < 4 → a ≠ b → (T_0 a).2.1 ≠ (T_0 b).2.1 := by decide +kernel
theorem ty_0 : ∀ k, k < 4 → parseFieldDescriptor (T_0 k).2.2.1 = some (t_0 k) := by decide +kernel
theorem i_0 : ∀ w ∈ u_ws "TwinTools$Bell" T_0 4, w ∈ tw_tbl := by
  have h : (u_ws "TwinTools$Bell" T_0 4) = ([583, 585, 587, 589] : List Nat).filterMap (fun i => lw_tbl[i]?) := by decide +kernel
  have g : (u_ws "TwinTools$Bell" T_0 4).all goodWord = true := by decide +kernel
  intro w hw
  have g1 := List.all_eq_true.mp g w hw
  rw [h] at hw
  obtain ⟨i, -, hi⟩ := List.mem_filterMap.mp hw
  exact tw_in i hi g1
theorem in_0 : Cond.instantiable "TwinTools$Bell" 4 ∈ tw_tbl := tw_in 547 (by decide +kernel) rfl
theorem iz_0 : Cond.initialized "TwinTools$Bell" ∈ tw_tbl := tw_in 85 (by decide +kernel) rfl
theorem n_1 : ∀ a, a < 4 → ∀ b, b < 4 → a ≠ b → (T_1 a).2.1 ≠ (T_1 b).2.1 := by decide +kernel
theorem ty_1 : ∀ k, k < 4 → parseFieldDescriptor (T_1 k).2.2.1 = some (t_1 k) := by decide +kernel
theorem i_1 : ∀ w ∈ u_ws "TwinTools$Guessing" T_1 4, w ∈ tw_tbl := by
  have h : (u_ws "TwinTools$Guessing" T_1 4) = ([609, 610, 611, 612] : List Nat).filterMap (fun i => lw_tbl[i]?) := by decide +kernel
  have g : (u_ws "TwinTools$Guessing" T_1 4).all goodWord = true := by decide +kernel
  intro w hw
  have g1 := List.all_eq_true.mp g w hw
  rw [h] at hw
  obtain ⟨i, -, hi⟩ := List.mem_filterMap.mp hw
  exact tw_in i hi g1
theorem in_1 : Cond.instantiable "TwinTools$Guessing" 4 ∈ tw_tbl := tw_in 604 (by decide +kernel) rfl
theorem iz_1 : Cond.initialized "TwinTools$Guessing" ∈ tw_tbl := tw_in 87 (by decide +kernel) rfl
theorem n_2 : ∀ a, a < 4 → ∀ b, b < 4 → a ≠ b → (T_2 a).2.1 ≠ (T_2 b).2.1 := by decide +kernel
theorem ty_2 : ∀ k, k < 4 → parseFieldDescriptor (T_2 k).2.2.1 = some (t_2 k) := by decide +kernel
theorem i_2 : ∀ w ∈ u_ws "TwinTools$Hand" T_2 4, w ∈ tw_tbl := by
  have h : (u_ws "TwinTools$Hand" T_2 4) = ([650, 651, 652, 653] : List Nat).filterMap (fun i => lw_tbl[i]?) := by decide +kernel
  have g : (u_ws "TwinTools$Hand" T_2 4).all goodWord = true := by decide +kernel
  intro w hw
  have g1 := List.all_eq_true.mp g w hw
  rw [h] at hw
  obtain ⟨i, -, hi⟩ := List.mem_filterMap.mp hw
  exact tw_in i hi g1
theorem in_2 : Cond.instantiable "TwinTools$Hand" 4 ∈ tw_tbl := tw_in 648 (by decide +kernel) rfl
theorem iz_2 : Cond.initialized "TwinTools$Hand" ∈ tw_tbl := tw_in 84 (by decide +kernel) rfl
theorem n_3 : ∀ a, a < 4 → ∀ b, b < 4 → a ≠ b → (T_3 a).2.1 ≠ (T_3 b).2.1 := by decide +kernel
theorem ty_3 : ∀ k, k < 4 → parseFieldDescriptor (T_3 k).2.2.1 = some (t_3 k) := by decide +kernel
theorem i_3 : ∀ w ∈ u_ws "TwinTools$Home" T_3 4, w ∈ tw_tbl := by
  have h : (u_ws "TwinTools$Home" T_3 4) = ([598, 599, 600, 601] : List Nat).filterMap (fun i => lw_tbl[i]?) := by decide +kernel
  have g : (u_ws "TwinTools$Home" T_3 4).all goodWord = true := by decide +kernel
  intro w hw
  have g1 := List.all_eq_true.mp g w hw
  rw [h] at hw
  obtain ⟨i, -, hi⟩ := List.mem_filterMap.mp hw
  exact tw_in i hi g1
theorem in_3 : Cond.instantiable "TwinTools$Home" 4 ∈ tw_tbl := tw_in 593 (by decide +kernel) rfl
theorem iz_3 : Cond.initialized "TwinTools$Home" ∈ tw_tbl := tw_in 86 (by decide +kernel) rfl
theorem n_4 : ∀ a, a < 4 → ∀ b, b < 4 → a ≠ b → (T_4 a).2.1 ≠ (T_4 b).2.1 := by decide +kernel
theorem ty_4 : ∀ k, k < 4 → parseFieldDescriptor (T_4 k).2.2.1 = some (t_4 k) := by decide +kernel
theorem i_4 : ∀ w ∈ u_ws "TwinTools$Late" T_4 4, w ∈ tw_tbl := by
  have h : (u_ws "TwinTools$Late" T_4 4) = ([631, 632, 633, 634] : List Nat).filterMap (fun i => lw_tbl[i]?) := by decide +kernel
  have g : (u_ws "TwinTools$Late" T_4 4).all goodWord = true := by decide +kernel
  intro w hw
  have g1 := List.all_eq_true.mp g w hw
  rw [h] at hw
  obtain ⟨i, -, hi⟩ := List.mem_filterMap.mp hw
  exact tw_in i hi g1
theorem in_4 : Cond.instantiable "TwinTools$Late" 4 ∈ tw_tbl := tw_in 626 (by decide +kernel) rfl
theorem iz_4 : Cond.initialized "TwinTools$Late" ∈ tw_tbl := tw_in 89 (by decide +kernel) rfl
theorem n_5 : ∀ a, a < 4 → ∀ b, b < 4 → a ≠ b → (T_5 a).2.1 ≠ (T_5 b).2.1 := by decide +kernel
theorem ty_5 : ∀ k, k < 4 → parseFieldDescriptor (T_5 k).2.2.1 = some (t_5 k) := by decide +kernel
theorem i_5 : ∀ w ∈ u_ws "TwinTools$Lifting" T_5 4, w ∈ tw_tbl := by
  have h : (u_ws "TwinTools$Lifting" T_5 4) = ([620, 621, 622, 623] : List Nat).filterMap (fun i => lw_tbl[i]?) := by decide +kernel
  have g : (u_ws "TwinTools$Lifting" T_5 4).all goodWord = true := by decide +kernel
  intro w hw
  have g1 := List.all_eq_true.mp g w hw
  rw [h] at hw
  obtain ⟨i, -, hi⟩ := List.mem_filterMap.mp hw
  exact tw_in i hi g1
theorem in_5 : Cond.instantiable "TwinTools$Lifting" 4 ∈ tw_tbl := tw_in 615 (by decide +kernel) rfl
theorem iz_5 : Cond.initialized "TwinTools$Lifting" ∈ tw_tbl := tw_in 88 (by decide +kernel) rfl
theorem n_6 : ∀ a, a < 20 → ∀ b, b < 20 → a ≠ b → (T_6 a).2.1 ≠ (T_6 b).2.1 := by decide +kernel
theorem ty_6 : ∀ k, k < 20 → parseFieldDescriptor (T_6 k).2.2.1 = some (t_6 k) := by decide +kernel
theorem i_6 : ∀ w ∈ u_ws "TwinTools$Plan" T_6 20, w ∈ tw_tbl := by
  have h : (u_ws "TwinTools$Plan" T_6 20) = ([242, 244, 246, 248, 250, 252, 254, 256, 258, 260, 262, 264, 266, 268, 270, 272, 274, 276, 278, 280] : List Nat).filterMap (fun i => lw_tbl[i]?) := by decide +kernel
  have g : (u_ws "TwinTools$Plan" T_6 20).all goodWord = true := by decide +kernel
  intro w hw
  have g1 := List.all_eq_true.mp g w hw
  rw [h] at hw
  obtain ⟨i, -, hi⟩ := List.mem_filterMap.mp hw
  exact tw_in i hi g1
theorem in_6 : Cond.instantiable "TwinTools$Plan" 20 ∈ tw_tbl := tw_in 201 (by decide +kernel) rfl
theorem iz_6 : Cond.initialized "TwinTools$Plan" ∈ tw_tbl := tw_in 73 (by decide +kernel) rfl
theorem n_7 : ∀ a, a < 4 → ∀ b, b < 4 → a ≠ b → (T_7 a).2.1 ≠ (T_7 b).2.1 := by decide +kernel
theorem ty_7 : ∀ k, k < 4 → parseFieldDescriptor (T_7 k).2.2.1 = some (t_7 k) := by decide +kernel
theorem i_7 : ∀ w ∈ u_ws "TwinTools$Told" T_7 4, w ∈ tw_tbl := by
  have h : (u_ws "TwinTools$Told" T_7 4) = ([642, 643, 644, 645] : List Nat).filterMap (fun i => lw_tbl[i]?) := by decide +kernel
  have g : (u_ws "TwinTools$Told" T_7 4).all goodWord = true := by decide +kernel
  intro w hw
  have g1 := List.all_eq_true.mp g w hw
  rw [h] at hw
  obtain ⟨i, -, hi⟩ := List.mem_filterMap.mp hw
  exact tw_in i hi g1
theorem in_7 : Cond.instantiable "TwinTools$Told" 4 ∈ tw_tbl := tw_in 637 (by decide +kernel) rfl
theorem iz_7 : Cond.initialized "TwinTools$Told" ∈ tw_tbl := tw_in 90 (by decide +kernel) rfl
theorem n_8 : ∀ a, a < 2 → ∀ b, b < 2 → a ≠ b → (T_8 a).2.1 ≠ (T_8 b).2.1 := by decide +kernel
theorem ty_8 : ∀ k, k < 2 → parseFieldDescriptor (T_8 k).2.2.1 = some (t_8 k) := by decide +kernel
theorem i_8 : ∀ w ∈ u_ws "TwinTools$Trace" T_8 2, w ∈ tw_tbl := by
  have h : (u_ws "TwinTools$Trace" T_8 2) = ([293, 295] : List Nat).filterMap (fun i => lw_tbl[i]?) := by decide +kernel
  have g : (u_ws "TwinTools$Trace" T_8 2).all goodWord = true := by decide +kernel
  intro w hw
  have g1 := List.all_eq_true.mp g w hw
  rw [h] at hw
  obtain ⟨i, -, hi⟩ := List.mem_filterMap.mp hw
  exact tw_in i hi g1
theorem in_8 : Cond.instantiable "TwinTools$Trace" 2 ∈ tw_tbl := tw_in 284 (by decide +kernel) rfl
theorem iz_8 : Cond.initialized "TwinTools$Trace" ∈ tw_tbl := tw_in 74 (by decide +kernel) rfl
theorem n_9 : ∀ a, a < 12 → ∀ b, b < 12 → a ≠ b → (T_9 a).2.1 ≠ (T_9 b).2.1 := by decide +kernel
theorem ty_9 : ∀ k, k < 12 → parseFieldDescriptor (T_9 k).2.2.1 = some (t_9 k) := by decide +kernel
theorem i_9 : ∀ w ∈ u_ws "TwinTools$Valley" T_9 12, w ∈ tw_tbl := by
  have h : (u_ws "TwinTools$Valley" T_9 12) = ([317, 319, 321, 323, 325, 327, 329, 331, 333, 335, 337, 339] : List Nat).filterMap (fun i => lw_tbl[i]?) := by decide +kernel
  have g : (u_ws "TwinTools$Valley" T_9 12).all goodWord = true := by decide +kernel
  intro w hw
  have g1 := List.all_eq_true.mp g w hw
  rw [h] at hw
  obtain ⟨i, -, hi⟩ := List.mem_filterMap.mp hw
  exact tw_in i hi g1
theorem in_9 : Cond.instantiable "TwinTools$Valley" 12 ∈ tw_tbl := tw_in 299 (by decide +kernel) rfl
theorem iz_9 : Cond.initialized "TwinTools$Valley" ∈ tw_tbl := tw_in 75 (by decide +kernel) rfl
theorem n_10 : ∀ a, a < 20 → ∀ b, b < 20 → a ≠ b → (T_10 a).2.1 ≠ (T_10 b).2.1 := by decide +kernel
theorem ty_10 : ∀ k, k < 20 → parseFieldDescriptor (T_10 k).2.2.1 = some (t_10 k) := by decide +kernel
theorem i_10 : ∀ w ∈ u_ws "TwinTools$World" T_10 20, w ∈ tw_tbl := by
  have h : (u_ws "TwinTools$World" T_10 20) = ([157, 159, 161, 163, 165, 167, 169, 171, 173, 175, 177, 179, 181, 183, 185, 187, 189, 191, 193, 195] : List Nat).filterMap (fun i => lw_tbl[i]?) := by decide +kernel
  have g : (u_ws "TwinTools$World" T_10 20).all goodWord = true := by decide +kernel
  intro w hw
  have g1 := List.all_eq_true.mp g w hw
  rw [h] at hw
  obtain ⟨i, -, hi⟩ := List.mem_filterMap.mp hw
  exact tw_in i hi g1
theorem in_10 : Cond.instantiable "TwinTools$World" 20 ∈ tw_tbl := tw_in 102 (by decide +kernel) rfl
theorem iz_10 : Cond.initialized "TwinTools$World" ∈ tw_tbl := tw_in 72 (by decide +kernel) rfl
theorem n_11 : ∀ a, a < 6 → ∀ b, b < 6 → a ≠ b → (T_11 a).2.1 ≠ (T_11 b).2.1 := by decide +kernel
theorem ty_11 : ∀ k, k < 6 → parseFieldDescriptor (T_11 k).2.2.1 = some (t_11 k) := by decide +kernel
theorem i_11 : ∀ w ∈ u_ws "TwinTools" T_11 6, w ∈ tw_tbl := by
  have h : (u_ws "TwinTools" T_11 6) = ([348, 350, 352, 354, 356, 358] : List Nat).filterMap (fun i => lw_tbl[i]?) := by decide +kernel
  have g : (u_ws "TwinTools" T_11 6).all goodWord = true := by decide +kernel
  intro w hw
  have g1 := List.all_eq_true.mp g w hw
  rw [h] at hw
  obtain ⟨i, -, hi⟩ := List.mem_filterMap.mp hw
  exact tw_in i hi g1
theorem in_11 : Cond.instantiable "TwinTools" 6 ∈ tw_tbl := tw_in 94 (by decide +kernel) rfl
theorem iz_11 : Cond.initialized "TwinTools" ∈ tw_tbl := tw_in 71 (by decide +kernel) rfl
theorem n_12 : ∀ a, a < 23 → ∀ b, b < 23 → a ≠ b → (T_12 a).2.1 ≠ (T_12 b).2.1 := by decide +kernel
theorem ty_12 : ∀ k, k < 23 → parseFieldDescriptor (T_12 k).2.2.1 = some (t_12 k) := by decide +kernel
theorem i_12 : ∀ w ∈ u_ws "TwinToolsModel" T_12 23, w ∈ tw_tbl := by
  have h : (u_ws "TwinToolsModel" T_12 23) = ([1191, 1193, 1195, 1197, 1199, 1201, 1203, 1205, 1207, 1209, 1211, 1213, 1215, 1217, 1219, 1221, 1223, 1225, 1227, 1229, 1231, 1233, 1235] : List Nat).filterMap (fun i => lw_tbl[i]?) := by decide +kernel
  have g : (u_ws "TwinToolsModel" T_12 23).all goodWord = true := by decide +kernel
  intro w hw
  have g1 := List.all_eq_true.mp g w hw
  rw [h] at hw
  obtain ⟨i, -, hi⟩ := List.mem_filterMap.mp hw
  exact tw_in i hi g1
theorem in_12 : Cond.instantiable "TwinToolsModel" 23 ∈ tw_tbl := tw_in 1164 (by decide +kernel) rfl
theorem iz_12 : Cond.initialized "TwinToolsModel" ∈ tw_tbl := tw_in 76 (by decide +kernel) rfl
/-- what the tables say of a class -/
theorem tw_cls {ci : Nat} {C : String} {T : u_T} {N : Nat} (h : tCl[ci]? = some (C, T, N)) : (∀ w ∈ u_ws C T N, w ∈ tw_tbl) ∧ (∃ ty : Nat → FieldType, ∀ k, k < N → parseFieldDescriptor (T k).2.2.1 = some (ty k)) ∧ (∀ a, a < N → ∀ b, b < N → a ≠ b → (T a).2.1 ≠ (T b).2.1) ∧ Cond.instantiable C N ∈ tw_tbl ∧ Cond.initialized C ∈ tw_tbl := by
  have hl : ci < 13 := (List.getElem?_eq_some_iff.mp h).1
  match ci, hl with
  | 0, _ => cases h; exact ⟨i_0, ⟨t_0, ty_0⟩, n_0, in_0, iz_0⟩
  | 1, _ => cases h; exact ⟨i_1, ⟨t_1, ty_1⟩, n_1, in_1, iz_1⟩
  | 2, _ => cases h; exact ⟨i_2, ⟨t_2, ty_2⟩, n_2, in_2, iz_2⟩
  | 3, _ => cases h; exact ⟨i_3, ⟨t_3, ty_3⟩, n_3, in_3, iz_3⟩
  | 4, _ => cases h; exact ⟨i_4, ⟨t_4, ty_4⟩, n_4, in_4, iz_4⟩
  | 5, _ => cases h; exact ⟨i_5, ⟨t_5, ty_5⟩, n_5, in_5, iz_5⟩
  | 6, _ => cases h; exact ⟨i_6, ⟨t_6, ty_6⟩, n_6, in_6, iz_6⟩
  | 7, _ => cases h; exact ⟨i_7, ⟨t_7, ty_7⟩, n_7, in_7, iz_7⟩
  | 8, _ => cases h; exact ⟨i_8, ⟨t_8, ty_8⟩, n_8, in_8, iz_8⟩
  | 9, _ => cases h; exact ⟨i_9, ⟨t_9, ty_9⟩, n_9, in_9, iz_9⟩
  | 10, _ => cases h; exact ⟨i_10, ⟨t_10, ty_10⟩, n_10, in_10, iz_10⟩
  | 11, _ => cases h; exact ⟨i_11, ⟨t_11, ty_11⟩, n_11, in_11, iz_11⟩
  | 12, _ => cases h; exact ⟨i_12, ⟨t_12, ty_12⟩, n_12, in_12, iz_12⟩
abbrev tK (h : tH) (a : Nat) (q : Nat × Nat) : Prop := h.1 a = q ∧ a < h.2.2.2
def up (f : Int → Int) (i x : Int) : Int → Int := fun j => if j = i then x else f j
def uI (I : Nat → Int → Int) (a : Nat) (i x : Int) : Nat → Int → Int := fun b => if b = a then up (I a) i x else I b
def upQ (f : Int → Option Nat) (i : Int) (x : Option Nat) : Int → Option Nat := fun j => if j = i then x else f j
def uQ (I : Nat → Int → Option Nat) (a : Nat) (i : Int) (x : Option Nat) : Nat → Int → Option Nat := fun b => if b = a then upQ (I a) i x else I b
abbrev hI (h : tH) (a : Nat) (i x : Int) : tH := (h.1, uI h.2.1 a i x, h.2.2.1, h.2.2.2)
abbrev hQ (h : tH) (a : Nat) (i : Int) (x : Option Nat) : tH := (h.1, h.2.1, uQ h.2.2.1 a i x, h.2.2.2)
def tw_FL (own : String) (idx ci k : Nat) : Prop := ∃ (ref C : String) (T : u_T) (N : Nat), tCl[ci]? = some (C, T, N) ∧ k < N ∧ Cond.fieldLink own idx ref (T k).2.1 (T k).2.2.1 ∈ tw_tbl ∧ (ref = (T k).1 ∨ Cond.sameField ref (T k).1 (T k).2.1 (T k).2.2.1 ∈ tw_tbl)
theorem tw_tcl_len {ci : Nat} {q : vw_C} (h : tCl[ci]? = some q) : ci < 13 := (List.getElem?_eq_some_iff.mp h).1
theorem tw_c_obj {G : tG} {h : tH} {a ci N : Nat} (hk : h.1 a = (ci, N)) (hc : ci < 13) : tw_c G h a = .inr (ci, (List.range N).map (tw_fv G h a)) := by
  unfold tw_c
  rw [hk]
  exact if_pos hc
theorem tw_c_int {G : tG} {h : tH} {a ci N : Nat} (hk : h.1 a = (ci, N)) (h1 : 13 ≤ ci) (h2 : ci < 16) : tw_c G h a = .inl (G.2.1 ci, N, .inl (fun j => Int32.ofInt (h.2.1 a (j : Int)))) := by
  unfold tw_c
  rw [hk, if_neg (show ¬ ci < 13 by omega), if_pos (show ci < 16 from h2)]
theorem tw_c_ref {G : tG} {h : tH} {a ci N : Nat} (hk : h.1 a = (ci, N)) (h1 : 16 ≤ ci) : tw_c G h a = .inl (G.2.1 ci, N, .inr (.inr (.inr (.inr (fun j => (h.2.2.1 a (j : Int)).map (tw_ad G)))))) := by
  unfold tw_c
  rw [hk, if_neg (show ¬ ci < 13 by omega), if_neg (show ¬ ci < 16 by omega)]
theorem tw_c_uI {G : tG} {h : tH} {a b : Nat} {i x : Int} (hb : b ≠ a) : tw_c G (hI h a i x) b = tw_c G h b := by
  have e : uI h.2.1 a i x b = h.2.1 b := if_neg hb
  unfold tw_c tw_fv
  simp only [e]
theorem tw_c_uQ {G : tG} {h : tH} {a b : Nat} {i : Int} {x : Option Nat} (hb : b ≠ a) : tw_c G (hQ h a i x) b = tw_c G h b := by
  have e : uQ h.2.2.1 a i x b = h.2.2.1 b := if_neg hb
  unfold tw_c tw_fv
  simp only [e]
theorem tw_ix {i : Int} {n : Nat} (h1 : 0 ≤ i) (h2 : i < n) (hn : n < 2147483648) : (Int32.ofInt i).toNatClampNeg = i.toNat ∧ vp_in (Int32.ofInt i) n ∧ ((i.toNat : Nat) : Int) = i := by
  have ht : tr i := ⟨by omega, by omega⟩
  have e : (Int32.ofInt i).toNatClampNeg = i.toNat := by
    show (Int32.ofInt i).toInt.toNat = _
    rw [tr_id ht]
  refine ⟨e, ?_, by omega⟩
  rintro (q | q)
  · have := (tr_lt ht (by decide : tr 0)).mp q
    omega
  · rw [e] at q
    omega
section AR2
variable {l : Launch} {G : tG} {M : tM} {d mc ms n0 c2 : Nat} {P : Option tV → tH → Prop} {ls : List (Nat × tV)} {st : List tV} {h : tH} {k pc nx tg : Nat}
theorem tw_same {s : State} {args : Array Value} {ws : List Cond} {ref o n ds : String} (hts : ∀ w ∈ ws, w.before args s = true) (hw : ref = o ∨ Cond.sameField ref o n ds ∈ ws) : ∀ x, s.fieldFound? o n ds = some x → s.fieldFound? ref n ds = some x := by
  intro x hx
  rcases hw with rfl | hw
  · exact hx
  · exact u_same (hts _ hw) x hx
theorem ar_getI {i ci N a kf : Nat} (hd : M.2.2.2.2[k]? = some (pc, .getfield i, nx, tg)) (hk : tK h a (ci, N)) (hF : tw_FL M.1.cls i ci kf) (hN : kf < N) (hr : tRef ci kf = false) (kk : tw_AW l G M d mc ms n0 c2 P nx ls (vi (h.2.1 a (kf : Int)) :: st) h) : tw_AW l G M d mc ms n0 c2 P pc ls (vr (some a) :: st) h := by
  intro p e s m args below meth c H locs ls' X hl hP hS h0 hn
  obtain ⟨dd, e1⟩ := tw_dec X hd rfl
  subst e1
  have K := kk p e s m args below meth c H locs ls' X hl hP hS h0 hn
  obtain ⟨ref, C, T, N', q1, q2, q3, q4⟩ := hF
  have hw : ∀ w ∈ tw_tbl, w.before args s = true := fun w h => X.2.2.2.2.2.1 w (List.mem_cons_of_mem _ h)
  have he := tw_ws_get (G := G) hk.2
  rw [tw_c_obj hk.1 (tw_tcl_len q1)] at he
  refine va_get (v := Value.int (Int32.ofInt (h.2.1 a (kf : Int)))) X.1 X.2.1 hw (tw_cls q1).1 X.2.2.2.2.1 X.2.2.2.2.2.2.1.1 hP a he q1 kf q2 (hw _ q3) (tw_same hw q4) ?_ dd K
  simp [hN, tw_fv, hk.1, hr]
theorem ar_getR {i ci N a kf : Nat} (hd : M.2.2.2.2[k]? = some (pc, .getfield i, nx, tg)) (hk : tK h a (ci, N)) (hF : tw_FL M.1.cls i ci kf) (hN : kf < N) (hr : tRef ci kf = true) (kk : tw_AW l G M d mc ms n0 c2 P nx ls (vr (h.2.2.1 a (kf : Int)) :: st) h) : tw_AW l G M d mc ms n0 c2 P pc ls (vr (some a) :: st) h := by
  intro p e s m args below meth c H locs ls' X hl hP hS h0 hn
  obtain ⟨dd, e1⟩ := tw_dec X hd rfl
  subst e1
  have K := kk p e s m args below meth c H locs ls' X hl hP hS h0 hn
  obtain ⟨ref, C, T, N', q1, q2, q3, q4⟩ := hF
  have hw : ∀ w ∈ tw_tbl, w.before args s = true := fun w h => X.2.2.2.2.2.1 w (List.mem_cons_of_mem _ h)
  have he := tw_ws_get (G := G) hk.2
  rw [tw_c_obj hk.1 (tw_tcl_len q1)] at he
  refine va_get (v := va_rf ((h.2.2.1 a (kf : Int)).map (tw_ad G))) X.1 X.2.1 hw (tw_cls q1).1 X.2.2.2.2.1 X.2.2.2.2.2.2.1.1 hP a he q1 kf q2 (hw _ q3) (tw_same hw q4) ?_ dd K
  simp [hN, tw_fv, hk.1, hr]
theorem ar_putI {i ci N a kf : Nat} {x : Int} (hd : M.2.2.2.2[k]? = some (pc, .putfield i, nx, tg)) (hk : tK h a (ci, N)) (hF : tw_FL M.1.cls i ci kf) (hN : kf < N) (hr : tRef ci kf = false) (hf : ∀ C T N, tCl[ci]? = some (C, T, N) → (T kf).2.2.2 = false ∧ parseFieldDescriptor (T kf).2.2.1 = some .int) (kk : tw_AW l G M d mc ms n0 c2 P nx ls st (hI h a kf x)) : tw_AW l G M d mc ms n0 c2 P pc ls (vi x :: vr (some a) :: st) h := by
  intro p e s m args below meth c H locs ls' X hl hP hS h0 hn
  obtain ⟨dd, e1⟩ := tw_dec X hd rfl
  subst e1
  obtain ⟨ref, C, T, N', q1, q2, q3, q4⟩ := hF
  have hw : ∀ w ∈ tw_tbl, w.before args s = true := fun w h => X.2.2.2.2.2.1 w (List.mem_cons_of_mem _ h)
  have he := tw_ws_get (G := G) hk.2
  rw [tw_c_obj hk.1 (tw_tcl_len q1)] at he
  obtain ⟨z1, ⟨ty, z2⟩, z3, z4, z5⟩ := tw_cls q1
  obtain ⟨hfin, hty⟩ := hf _ _ _ q1
  refine va_put (v := Value.int (Int32.ofInt x)) X.1 X.2.1 hw z1 ty z2 z3 X.2.2.2.2.1 X.2.2.2.2.2.2.1.1 hP (tw_ws_D hn) hS a he q1 kf q2 (hw _ q3) (tw_same hw q4) hfin hty rfl rfl (by simp [hN]) dd (fun H1 locs1 hP1 _ hS1 => ?_)
  have e2 : (tw_ws G h).set a (tw_ad G a, .inr (ci, ((List.range N).map (tw_fv G h a)).set kf (Value.int (Int32.ofInt x)))) = tw_ws G (hI h a kf x) := by
    refine tw_ws_set rfl hk.2 ?_ (fun b hb => tw_c_uI hb)
    rw [tw_c_obj (h := hI h a kf x) hk.1 (tw_tcl_len q1)]
    congr 2
    apply List.ext_getElem?
    intro j
    by_cases hj : j = kf
    · subst hj
      rw [List.getElem?_set_self (by simp [hN])]
      simp [hN, tw_fv, hk.1, hr, uI, up, uQ, upQ]
    · rw [List.getElem?_set_ne (fun q => hj q.symm)]
      have hj' : ¬ (j : Int) = (kf : Int) := by omega
      by_cases hjN : j < N
      · simp [hjN, tw_fv, uI, up, uQ, upQ, hj']
      · simp [hjN]
  rw [e2] at hP1
  exact kk p e s m args below meth c H1 locs1 ls' X hl hP1 hS1 h0 hn
theorem ar_putZ {i ci N a kf : Nat} {x : Int} (hd : M.2.2.2.2[k]? = some (pc, .putfield i, nx, tg)) (hk : tK h a (ci, N)) (hF : tw_FL M.1.cls i ci kf) (hN : kf < N) (hr : tRef ci kf = false) (hx : 0 ≤ x ∧ x ≤ 1) (hf : ∀ C T N, tCl[ci]? = some (C, T, N) → (T kf).2.2.2 = false ∧ parseFieldDescriptor (T kf).2.2.1 = some .boolean) (kk : tw_AW l G M d mc ms n0 c2 P nx ls st (hI h a kf x)) : tw_AW l G M d mc ms n0 c2 P pc ls (vi x :: vr (some a) :: st) h := by
  intro p e s m args below meth c H locs ls' X hl hP hS h0 hn
  obtain ⟨dd, e1⟩ := tw_dec X hd rfl
  subst e1
  obtain ⟨ref, C, T, N', q1, q2, q3, q4⟩ := hF
  have hw : ∀ w ∈ tw_tbl, w.before args s = true := fun w h => X.2.2.2.2.2.1 w (List.mem_cons_of_mem _ h)
  have he := tw_ws_get (G := G) hk.2
  rw [tw_c_obj hk.1 (tw_tcl_len q1)] at he
  obtain ⟨z1, ⟨ty, z2⟩, z3, z4, z5⟩ := tw_cls q1
  obtain ⟨hfin, hty⟩ := hf _ _ _ q1
  have hz : x = 0 ∨ x = 1 := by omega
  refine va_put (v := Value.int (Int32.ofInt x)) X.1 X.2.1 hw z1 ty z2 z3 X.2.2.2.2.1 X.2.2.2.2.2.2.1.1 hP (tw_ws_D hn) hS a he q1 kf q2 (hw _ q3) (tw_same hw q4) hfin hty (by rcases hz with rfl | rfl <;> rfl) (by rcases hz with rfl | rfl <;> rfl) (by simp [hN]) dd (fun H1 locs1 hP1 _ hS1 => ?_)
  have e2 : (tw_ws G h).set a (tw_ad G a, .inr (ci, ((List.range N).map (tw_fv G h a)).set kf (Value.int (Int32.ofInt x)))) = tw_ws G (hI h a kf x) := by
    refine tw_ws_set rfl hk.2 ?_ (fun b hb => tw_c_uI hb)
    rw [tw_c_obj (h := hI h a kf x) hk.1 (tw_tcl_len q1)]
    congr 2
    apply List.ext_getElem?
    intro j
    by_cases hj : j = kf
    · subst hj
      rw [List.getElem?_set_self (by simp [hN])]
      simp [hN, tw_fv, hk.1, hr, uI, up, uQ, upQ]
    · rw [List.getElem?_set_ne (fun q => hj q.symm)]
      have hj' : ¬ (j : Int) = (kf : Int) := by omega
      by_cases hjN : j < N
      · simp [hjN, tw_fv, uI, up, uQ, upQ, hj']
      · simp [hjN]
  rw [e2] at hP1
  exact kk p e s m args below meth c H1 locs1 ls' X hl hP1 hS1 h0 hn
theorem ar_putR {i ci N a kf : Nat} {x : Option Nat} (hd : M.2.2.2.2[k]? = some (pc, .putfield i, nx, tg)) (hk : tK h a (ci, N)) (hF : tw_FL M.1.cls i ci kf) (hN : kf < N) (hr : tRef ci kf = true) (hf : ∀ C T N, tCl[ci]? = some (C, T, N) → (T kf).2.2.2 = false ∧ ∃ ty, parseFieldDescriptor (T kf).2.2.1 = some ty ∧ ty.isReference = true) (kk : tw_AW l G M d mc ms n0 c2 P nx ls st (hQ h a kf x)) : tw_AW l G M d mc ms n0 c2 P pc ls (vr x :: vr (some a) :: st) h := by
  intro p e s m args below meth c H locs ls' X hl hP hS h0 hn
  obtain ⟨dd, e1⟩ := tw_dec X hd rfl
  subst e1
  obtain ⟨ref, C, T, N', q1, q2, q3, q4⟩ := hF
  have hw : ∀ w ∈ tw_tbl, w.before args s = true := fun w h => X.2.2.2.2.2.1 w (List.mem_cons_of_mem _ h)
  have he := tw_ws_get (G := G) hk.2
  rw [tw_c_obj hk.1 (tw_tcl_len q1)] at he
  obtain ⟨z1, ⟨ty, z2⟩, z3, z4, z5⟩ := tw_cls q1
  obtain ⟨hfin, ty1, hty, hrf⟩ := hf _ _ _ q1
  refine va_put (v := va_rf (x.map (tw_ad G))) X.1 X.2.1 hw z1 ty z2 z3 X.2.2.2.2.1 X.2.2.2.2.2.2.1.1 hP (tw_ws_D hn) hS a he q1 kf q2 (hw _ q3) (tw_same hw q4) hfin hty (by cases ty1 <;> first | (cases hrf; done) | (cases x <;> rfl)) (by cases ty1 <;> first | (cases hrf; done) | (cases x <;> rfl)) (by simp [hN]) dd (fun H1 locs1 hP1 _ hS1 => ?_)
  have e2 : (tw_ws G h).set a (tw_ad G a, .inr (ci, ((List.range N).map (tw_fv G h a)).set kf (va_rf (x.map (tw_ad G))))) = tw_ws G (hQ h a kf x) := by
    refine tw_ws_set rfl hk.2 ?_ (fun b hb => tw_c_uQ hb)
    rw [tw_c_obj (h := hQ h a kf x) hk.1 (tw_tcl_len q1)]
    congr 2
    apply List.ext_getElem?
    intro j
    by_cases hj : j = kf
    · subst hj
      rw [List.getElem?_set_self (by simp [hN])]
      simp [hN, tw_fv, hk.1, hr, uI, up, uQ, upQ]
    · rw [List.getElem?_set_ne (fun q => hj q.symm)]
      have hj' : ¬ (j : Int) = (kf : Int) := by omega
      by_cases hjN : j < N
      · simp [hjN, tw_fv, uI, up, uQ, upQ, hj']
      · simp [hjN]
  rw [e2] at hP1
  exact kk p e s m args below meth c H1 locs1 ls' X hl hP1 hS1 h0 hn
theorem ar_putFI {i ci N a kf : Nat} {x : Int} (hd : M.2.2.2.2[k]? = some (pc, .putfield i, nx, tg)) (hk : tK h a (ci, N)) (hF : tw_FL M.1.cls i ci kf) (hN : kf < N) (hr : tRef ci kf = false) (hi : M.1.name = "<init>") (hf : ∀ C T N, tCl[ci]? = some (C, T, N) → (T kf).2.2.2 = true ∧ (T kf).1 = M.1.cls ∧ parseFieldDescriptor (T kf).2.2.1 = some .int) (kk : tw_AW l G M d mc ms n0 c2 P nx ls st (hI h a kf x)) : tw_AW l G M d mc ms n0 c2 P pc ls (vi x :: vr (some a) :: st) h := by
  intro p e s m args below meth c H locs ls' X hl hP hS h0 hn
  obtain ⟨dd, e1⟩ := tw_dec X hd rfl
  subst e1
  obtain ⟨ref, C, T, N', q1, q2, q3, q4⟩ := hF
  have hw : ∀ w ∈ tw_tbl, w.before args s = true := fun w h => X.2.2.2.2.2.1 w (List.mem_cons_of_mem _ h)
  have he := tw_ws_get (G := G) hk.2
  rw [tw_c_obj hk.1 (tw_tcl_len q1)] at he
  obtain ⟨z1, ⟨ty, z2⟩, z3, z4, z5⟩ := tw_cls q1
  obtain ⟨hfin0, hown, hty⟩ := hf _ _ _ q1
  refine va_putF (v := Value.int (Int32.ofInt x)) X.1 X.2.1 hw z1 ty z2 z3 X.2.2.2.2.1 X.2.2.2.2.2.2.1.1 hP (tw_ws_D hn) hS a he q1 kf q2 (hw _ q3) (tw_same hw q4) hfin0 (X.2.2.2.2.2.2.2.2.2.2.1.trans hi) hown hty rfl rfl (by simp [hN]) dd (fun H1 locs1 hP1 _ hS1 => ?_)
  have e2 : (tw_ws G h).set a (tw_ad G a, .inr (ci, ((List.range N).map (tw_fv G h a)).set kf (Value.int (Int32.ofInt x)))) = tw_ws G (hI h a kf x) := by
    refine tw_ws_set rfl hk.2 ?_ (fun b hb => tw_c_uI hb)
    rw [tw_c_obj (h := hI h a kf x) hk.1 (tw_tcl_len q1)]
    congr 2
    apply List.ext_getElem?
    intro j
    by_cases hj : j = kf
    · subst hj
      rw [List.getElem?_set_self (by simp [hN])]
      simp [hN, tw_fv, hk.1, hr, uI, up, uQ, upQ]
    · rw [List.getElem?_set_ne (fun q => hj q.symm)]
      have hj' : ¬ (j : Int) = (kf : Int) := by omega
      by_cases hjN : j < N
      · simp [hjN, tw_fv, uI, up, uQ, upQ, hj']
      · simp [hjN]
  rw [e2] at hP1
  exact kk p e s m args below meth c H1 locs1 ls' X hl hP1 hS1 h0 hn
theorem ar_putFR {i ci N a kf : Nat} {x : Option Nat} (hd : M.2.2.2.2[k]? = some (pc, .putfield i, nx, tg)) (hk : tK h a (ci, N)) (hF : tw_FL M.1.cls i ci kf) (hN : kf < N) (hr : tRef ci kf = true) (hi : M.1.name = "<init>") (hf : ∀ C T N, tCl[ci]? = some (C, T, N) → (T kf).2.2.2 = true ∧ (T kf).1 = M.1.cls ∧ ∃ ty, parseFieldDescriptor (T kf).2.2.1 = some ty ∧ ty.isReference = true) (kk : tw_AW l G M d mc ms n0 c2 P nx ls st (hQ h a kf x)) : tw_AW l G M d mc ms n0 c2 P pc ls (vr x :: vr (some a) :: st) h := by
  intro p e s m args below meth c H locs ls' X hl hP hS h0 hn
  obtain ⟨dd, e1⟩ := tw_dec X hd rfl
  subst e1
  obtain ⟨ref, C, T, N', q1, q2, q3, q4⟩ := hF
  have hw : ∀ w ∈ tw_tbl, w.before args s = true := fun w h => X.2.2.2.2.2.1 w (List.mem_cons_of_mem _ h)
  have he := tw_ws_get (G := G) hk.2
  rw [tw_c_obj hk.1 (tw_tcl_len q1)] at he
  obtain ⟨z1, ⟨ty, z2⟩, z3, z4, z5⟩ := tw_cls q1
  obtain ⟨hfin0, hown, ty1, hty, hrf⟩ := hf _ _ _ q1
  refine va_putF (v := va_rf (x.map (tw_ad G))) X.1 X.2.1 hw z1 ty z2 z3 X.2.2.2.2.1 X.2.2.2.2.2.2.1.1 hP (tw_ws_D hn) hS a he q1 kf q2 (hw _ q3) (tw_same hw q4) hfin0 (X.2.2.2.2.2.2.2.2.2.2.1.trans hi) hown hty (by cases ty1 <;> first | (cases hrf; done) | (cases x <;> rfl)) (by cases ty1 <;> first | (cases hrf; done) | (cases x <;> rfl)) (by simp [hN]) dd (fun H1 locs1 hP1 _ hS1 => ?_)
  have e2 : (tw_ws G h).set a (tw_ad G a, .inr (ci, ((List.range N).map (tw_fv G h a)).set kf (va_rf (x.map (tw_ad G))))) = tw_ws G (hQ h a kf x) := by
    refine tw_ws_set rfl hk.2 ?_ (fun b hb => tw_c_uQ hb)
    rw [tw_c_obj (h := hQ h a kf x) hk.1 (tw_tcl_len q1)]
    congr 2
    apply List.ext_getElem?
    intro j
    by_cases hj : j = kf
    · subst hj
      rw [List.getElem?_set_self (by simp [hN])]
      simp [hN, tw_fv, hk.1, hr, uI, up, uQ, upQ]
    · rw [List.getElem?_set_ne (fun q => hj q.symm)]
      have hj' : ¬ (j : Int) = (kf : Int) := by omega
      by_cases hjN : j < N
      · simp [hjN, tw_fv, uI, up, uQ, upQ, hj']
      · simp [hjN]
  rw [e2] at hP1
  exact kk p e s m args below meth c H1 locs1 ls' X hl hP1 hS1 h0 hn
theorem ar_iald {a N : Nat} {i : Int} (hd : M.2.2.2.2[k]? = some (pc, .iaload, nx, tg)) (hk : tK h a (14, N)) (h1 : 0 ≤ i) (h2 : i < N) (hN : N < 2147483648) (kk : tw_AW l G M d mc ms n0 c2 P nx ls (vi (h.2.1 a i) :: st) h) : tw_AW l G M d mc ms n0 c2 P pc ls (vi i :: vr (some a) :: st) h := by
  intro p e s m args below meth c H locs ls' X hl hP hS h0 hn
  obtain ⟨dd, e1⟩ := tw_dec X hd rfl
  subst e1
  have K := kk p e s m args below meth c H locs ls' X hl hP hS h0 hn
  have he := tw_ws_get (G := G) hk.2
  rw [tw_c_int hk.1 (by decide) (by decide)] at he
  obtain ⟨x1, x2, x3⟩ := tw_ix h1 h2 hN
  refine va_iald X.1 X.2.1 X.2.2.2.2.2.2.1.1 hP a 1 he rfl x2 dd ?_
  rw [x1, x3]
  exact K
theorem ar_bald {a N : Nat} {i : Int} (hd : M.2.2.2.2[k]? = some (pc, .baload, nx, tg)) (hk : tK h a (13, N)) (h1 : 0 ≤ i) (h2 : i < N) (hN : N < 2147483648) (kk : tw_AW l G M d mc ms n0 c2 P nx ls (vi (h.2.1 a i) :: st) h) : tw_AW l G M d mc ms n0 c2 P pc ls (vi i :: vr (some a) :: st) h := by
  intro p e s m args below meth c H locs ls' X hl hP hS h0 hn
  obtain ⟨dd, e1⟩ := tw_dec X hd rfl
  subst e1
  have K := kk p e s m args below meth c H locs ls' X hl hP hS h0 hn
  have he := tw_ws_get (G := G) hk.2
  rw [tw_c_int hk.1 (by decide) (by decide)] at he
  obtain ⟨x1, x2, x3⟩ := tw_ix h1 h2 hN
  refine va_bald X.1 X.2.1 X.2.2.2.2.2.2.1.1 hP a 0 he rfl x2 dd ?_
  rw [x1, x3]
  exact K
theorem ar_zald {a N : Nat} {i : Int} (hd : M.2.2.2.2[k]? = some (pc, .baload, nx, tg)) (hk : tK h a (15, N)) (h1 : 0 ≤ i) (h2 : i < N) (hN : N < 2147483648) (kk : tw_AW l G M d mc ms n0 c2 P nx ls (vi (h.2.1 a i) :: st) h) : tw_AW l G M d mc ms n0 c2 P pc ls (vi i :: vr (some a) :: st) h := by
  intro p e s m args below meth c H locs ls' X hl hP hS h0 hn
  obtain ⟨dd, e1⟩ := tw_dec X hd rfl
  subst e1
  have K := kk p e s m args below meth c H locs ls' X hl hP hS h0 hn
  have he := tw_ws_get (G := G) hk.2
  rw [tw_c_int hk.1 (by decide) (by decide)] at he
  obtain ⟨x1, x2, x3⟩ := tw_ix h1 h2 hN
  refine va_zald X.1 X.2.1 X.2.2.2.2.2.2.1.1 hP a 2 he rfl x2 dd ?_
  rw [x1, x3]
  exact K
theorem ar_iast {a N : Nat} {i x : Int} (hd : M.2.2.2.2[k]? = some (pc, .iastore, nx, tg)) (hk : tK h a (14, N)) (h1 : 0 ≤ i) (h2 : i < N) (hN : N < 2147483648) (kk : tw_AW l G M d mc ms n0 c2 P nx ls st (hI h a i x)) : tw_AW l G M d mc ms n0 c2 P pc ls (vi x :: vi i :: vr (some a) :: st) h := by
  intro p e s m args below meth c H locs ls' X hl hP hS h0 hn
  obtain ⟨dd, e1⟩ := tw_dec X hd rfl
  subst e1
  have he := tw_ws_get (G := G) hk.2
  rw [tw_c_int hk.1 (by decide) (by decide)] at he
  obtain ⟨x1, x2, x3⟩ := tw_ix h1 h2 hN
  refine va_iast X.1 X.2.1 X.2.2.2.2.2.2.1.1 hP (tw_ws_D hn) hS a 1 he rfl x2 dd (fun H1 locs1 hP1 _ hS1 => ?_)
  have e2 : (tw_ws G h).set a (tw_ad G a, .inl (G.2.1 14, N, .inl (upd (fun j => Int32.ofInt (h.2.1 a (j : Int))) (Int32.ofInt i).toNatClampNeg (Int32.ofInt x)))) = tw_ws G (hI h a i x) := by
    refine tw_ws_set rfl hk.2 ?_ (fun b hb => tw_c_uI hb)
    rw [tw_c_int (h := hI h a i x) hk.1 (by decide) (by decide), x1]
    congr 4
    funext j
    by_cases hj : j = i.toNat
    · subst hj
      simp [upd, uI, up, x3]
    · have hj' : ¬ (j : Int) = i := by omega
      simp [upd, uI, up, hj, hj']
  rw [e2] at hP1
  exact kk p e s m args below meth c H1 locs1 ls' X hl hP1 hS1 h0 hn
theorem ar_bast {a N : Nat} {i x : Int} (hd : M.2.2.2.2[k]? = some (pc, .bastore, nx, tg)) (hk : tK h a (13, N)) (h1 : 0 ≤ i) (h2 : i < N) (hN : N < 2147483648) (hx : -128 ≤ x ∧ x ≤ 127) (kk : tw_AW l G M d mc ms n0 c2 P nx ls st (hI h a i x)) : tw_AW l G M d mc ms n0 c2 P pc ls (vi x :: vi i :: vr (some a) :: st) h := by
  intro p e s m args below meth c H locs ls' X hl hP hS h0 hn
  obtain ⟨dd, e1⟩ := tw_dec X hd rfl
  subst e1
  have he := tw_ws_get (G := G) hk.2
  rw [tw_c_int hk.1 (by decide) (by decide)] at he
  obtain ⟨x1, x2, x3⟩ := tw_ix h1 h2 hN
  refine va_bast X.1 X.2.1 X.2.2.2.2.2.2.1.1 hP (tw_ws_D hn) hS a 0 he rfl x2 dd (fun H1 locs1 hP1 _ hS1 => ?_)
  have ex : vp_nar .byte (Int32.ofInt x) = Int32.ofInt x := tr_b hx
  rw [ex] at hP1
  have e2 : (tw_ws G h).set a (tw_ad G a, .inl (G.2.1 13, N, .inl (upd (fun j => Int32.ofInt (h.2.1 a (j : Int))) (Int32.ofInt i).toNatClampNeg (Int32.ofInt x)))) = tw_ws G (hI h a i x) := by
    refine tw_ws_set rfl hk.2 ?_ (fun b hb => tw_c_uI hb)
    rw [tw_c_int (h := hI h a i x) hk.1 (by decide) (by decide), x1]
    congr 4
    funext j
    by_cases hj : j = i.toNat
    · subst hj
      simp [upd, uI, up, x3]
    · have hj' : ¬ (j : Int) = i := by omega
      simp [upd, uI, up, hj, hj']
  rw [e2] at hP1
  exact kk p e s m args below meth c H1 locs1 ls' X hl hP1 hS1 h0 hn
theorem ar_zast {a N : Nat} {i x : Int} (hd : M.2.2.2.2[k]? = some (pc, .bastore, nx, tg)) (hk : tK h a (15, N)) (h1 : 0 ≤ i) (h2 : i < N) (hN : N < 2147483648) (hx : 0 ≤ x ∧ x ≤ 1) (kk : tw_AW l G M d mc ms n0 c2 P nx ls st (hI h a i x)) : tw_AW l G M d mc ms n0 c2 P pc ls (vi x :: vi i :: vr (some a) :: st) h := by
  intro p e s m args below meth c H locs ls' X hl hP hS h0 hn
  obtain ⟨dd, e1⟩ := tw_dec X hd rfl
  subst e1
  have he := tw_ws_get (G := G) hk.2
  rw [tw_c_int hk.1 (by decide) (by decide)] at he
  obtain ⟨x1, x2, x3⟩ := tw_ix h1 h2 hN
  refine va_zast X.1 X.2.1 X.2.2.2.2.2.2.1.1 hP (tw_ws_D hn) hS a 2 he rfl x2 dd (fun H1 locs1 hP1 _ hS1 => ?_)
  have ex : vp_nar .boolean (Int32.ofInt x) = Int32.ofInt x := by
    rcases (show x = 0 ∨ x = 1 by omega) with rfl | rfl <;> rfl
  rw [ex] at hP1
  have e2 : (tw_ws G h).set a (tw_ad G a, .inl (G.2.1 15, N, .inl (upd (fun j => Int32.ofInt (h.2.1 a (j : Int))) (Int32.ofInt i).toNatClampNeg (Int32.ofInt x)))) = tw_ws G (hI h a i x) := by
    refine tw_ws_set rfl hk.2 ?_ (fun b hb => tw_c_uI hb)
    rw [tw_c_int (h := hI h a i x) hk.1 (by decide) (by decide), x1]
    congr 4
    funext j
    by_cases hj : j = i.toNat
    · subst hj
      simp [upd, uI, up, x3]
    · have hj' : ¬ (j : Int) = i := by omega
      simp [upd, uI, up, hj, hj']
  rw [e2] at hP1
  exact kk p e s m args below meth c H1 locs1 ls' X hl hP1 hS1 h0 hn
theorem ar_aald16 {a N : Nat} {i : Int} (hd : M.2.2.2.2[k]? = some (pc, .aaload, nx, tg)) (hk : tK h a (16, N)) (h1 : 0 ≤ i) (h2 : i < N) (hN : N < 2147483648) (kk : tw_AW l G M d mc ms n0 c2 P nx ls (vr (h.2.2.1 a i) :: st) h) : tw_AW l G M d mc ms n0 c2 P pc ls (vi i :: vr (some a) :: st) h := by
  intro p e s m args below meth c H locs ls' X hl hP hS h0 hn
  obtain ⟨dd, e1⟩ := tw_dec X hd rfl
  subst e1
  have K := kk p e s m args below meth c H locs ls' X hl hP hS h0 hn
  have he := tw_ws_get (G := G) hk.2
  rw [tw_c_ref hk.1 (by decide)] at he
  obtain ⟨x1, x2, x3⟩ := tw_ix h1 h2 hN
  refine va_aldq X.1 X.2.1 X.2.2.2.2.2.2.1.1 hP a 3 he rfl x2 dd ?_
  rw [x1, x3]
  exact K
theorem ar_aast16 {a N : Nat} {i : Int} {x : Option Nat} (hd : M.2.2.2.2[k]? = some (pc, .aastore, nx, tg)) (hk : tK h a (16, N)) (h1 : 0 ≤ i) (h2 : i < N) (hN : N < 2147483648) (hx : ∀ b, x = some b → ∃ cb Nb C T, tK h b (cb, Nb) ∧ tCl[cb]? = some (C, T, Nb) ∧ (C = "TwinTools$Hand" ∨ (C, "TwinTools$Hand") ∈ castL)) (kk : tw_AW l G M d mc ms n0 c2 P nx ls st (hQ h a i x)) : tw_AW l G M d mc ms n0 c2 P pc ls (vr x :: vi i :: vr (some a) :: st) h := by
  intro p e s m args below meth c H locs ls' X hl hP hS h0 hn
  obtain ⟨dd, e1⟩ := tw_dec X hd rfl
  subst e1
  have he := tw_ws_get (G := G) hk.2
  rw [tw_c_ref hk.1 (by decide)] at he
  obtain ⟨x1, x2, x3⟩ := tw_ix h1 h2 hN
  have fin : ∀ (H1 : Heap) (locs1 : List Loc), va_P G.1 tCl ((tw_ws G h).set a (tw_ad G a, .inl (G.2.1 16, N, .inr (.inr (.inr (.inr (va_up (fun j => (h.2.2.1 a (j : Int)).map (tw_ad G)) (Int32.ofInt i).toNatClampNeg (x.map (tw_ad G))))))))) H1 → va_S (tw_A G) s.heap H1 locs1 → W p l e (tw_rm d mc ms) s m args below meth c H1 locs1 (h.2.2.2 - n0) c2 (MQ below (tw_Q G P mc) args s mc ms (tw_A G)) (F0 m (pc + 1) ls' (st.map (tw_v G))) := by
    intro H1 locs1 hP1 hS1
    have e2 : (tw_ws G h).set a (tw_ad G a, .inl (G.2.1 16, N, .inr (.inr (.inr (.inr (va_up (fun j => (h.2.2.1 a (j : Int)).map (tw_ad G)) (Int32.ofInt i).toNatClampNeg (x.map (tw_ad G)))))))) = tw_ws G (hQ h a i x) := by
      refine tw_ws_set rfl hk.2 ?_ (fun b hb => tw_c_uQ hb)
      rw [tw_c_ref (h := hQ h a i x) hk.1 (by decide), x1]
      congr 7
      funext j
      by_cases hj : j = i.toNat
      · subst hj
        simp [va_up, uQ, upQ, x3]
      · have hj' : ¬ (j : Int) = i := by omega
        simp [va_up, uQ, upQ, hj, hj']
    rw [e2] at hP1
    exact kk p e s m args below meth c H1 locs1 ls' X hl hP1 hS1 h0 hn
  cases x with
  | none => exact va_astqN X.1 X.2.1 X.2.2.2.2.2.2.1.1 hP (tw_ws_D hn) hS a 3 he rfl x2 dd (fun H1 locs1 hP1 _ hS1 => fin H1 locs1 hP1 hS1)
  | some b =>
    obtain ⟨cb, Nb, C, T, y1, y2, y3⟩ := hx b rfl
    have hb := tw_ws_get (G := G) y1.2
    rw [tw_c_obj y1.1 (tw_tcl_len y2)] at hb
    rcases y3 with rfl | y3
    · exact va_astq X.1 X.2.1 X.2.2.2.2.2.2.1.1 hP (tw_ws_D hn) hS a 3 b cb he rfl hb y2 x2 dd (fun H1 locs1 hP1 _ hS1 => fin H1 locs1 hP1 hS1)
    · exact va_astqO X.1 X.2.1 X.2.2.2.2.2.2.1.1 hP (tw_ws_D hn) hS a 3 b cb he rfl (X.2.2.2.2.2.2.1.2.2.1 _ y3) hb y2 x2 dd (fun H1 locs1 hP1 _ hS1 => fin H1 locs1 hP1 hS1)
theorem ar_aald17 {a N : Nat} {i : Int} (hd : M.2.2.2.2[k]? = some (pc, .aaload, nx, tg)) (hk : tK h a (17, N)) (h1 : 0 ≤ i) (h2 : i < N) (hN : N < 2147483648) (kk : tw_AW l G M d mc ms n0 c2 P nx ls (vr (h.2.2.1 a i) :: st) h) : tw_AW l G M d mc ms n0 c2 P pc ls (vi i :: vr (some a) :: st) h := by
  intro p e s m args below meth c H locs ls' X hl hP hS h0 hn
  obtain ⟨dd, e1⟩ := tw_dec X hd rfl
  subst e1
  have K := kk p e s m args below meth c H locs ls' X hl hP hS h0 hn
  have he := tw_ws_get (G := G) hk.2
  rw [tw_c_ref hk.1 (by decide)] at he
  obtain ⟨x1, x2, x3⟩ := tw_ix h1 h2 hN
  refine va_aldq X.1 X.2.1 X.2.2.2.2.2.2.1.1 hP a 4 he rfl x2 dd ?_
  rw [x1, x3]
  exact K
theorem ar_aast17 {a N : Nat} {i : Int} {x : Option Nat} (hd : M.2.2.2.2[k]? = some (pc, .aastore, nx, tg)) (hk : tK h a (17, N)) (h1 : 0 ≤ i) (h2 : i < N) (hN : N < 2147483648) (hx : ∀ b, x = some b → ∃ cb Nb C T, tK h b (cb, Nb) ∧ tCl[cb]? = some (C, T, Nb) ∧ (C = "TwinTools$Valley" ∨ (C, "TwinTools$Valley") ∈ castL)) (kk : tw_AW l G M d mc ms n0 c2 P nx ls st (hQ h a i x)) : tw_AW l G M d mc ms n0 c2 P pc ls (vr x :: vi i :: vr (some a) :: st) h := by
  intro p e s m args below meth c H locs ls' X hl hP hS h0 hn
  obtain ⟨dd, e1⟩ := tw_dec X hd rfl
  subst e1
  have he := tw_ws_get (G := G) hk.2
  rw [tw_c_ref hk.1 (by decide)] at he
  obtain ⟨x1, x2, x3⟩ := tw_ix h1 h2 hN
  have fin : ∀ (H1 : Heap) (locs1 : List Loc), va_P G.1 tCl ((tw_ws G h).set a (tw_ad G a, .inl (G.2.1 17, N, .inr (.inr (.inr (.inr (va_up (fun j => (h.2.2.1 a (j : Int)).map (tw_ad G)) (Int32.ofInt i).toNatClampNeg (x.map (tw_ad G))))))))) H1 → va_S (tw_A G) s.heap H1 locs1 → W p l e (tw_rm d mc ms) s m args below meth c H1 locs1 (h.2.2.2 - n0) c2 (MQ below (tw_Q G P mc) args s mc ms (tw_A G)) (F0 m (pc + 1) ls' (st.map (tw_v G))) := by
    intro H1 locs1 hP1 hS1
    have e2 : (tw_ws G h).set a (tw_ad G a, .inl (G.2.1 17, N, .inr (.inr (.inr (.inr (va_up (fun j => (h.2.2.1 a (j : Int)).map (tw_ad G)) (Int32.ofInt i).toNatClampNeg (x.map (tw_ad G)))))))) = tw_ws G (hQ h a i x) := by
      refine tw_ws_set rfl hk.2 ?_ (fun b hb => tw_c_uQ hb)
      rw [tw_c_ref (h := hQ h a i x) hk.1 (by decide), x1]
      congr 7
      funext j
      by_cases hj : j = i.toNat
      · subst hj
        simp [va_up, uQ, upQ, x3]
      · have hj' : ¬ (j : Int) = i := by omega
        simp [va_up, uQ, upQ, hj, hj']
    rw [e2] at hP1
    exact kk p e s m args below meth c H1 locs1 ls' X hl hP1 hS1 h0 hn
  cases x with
  | none => exact va_astqN X.1 X.2.1 X.2.2.2.2.2.2.1.1 hP (tw_ws_D hn) hS a 4 he rfl x2 dd (fun H1 locs1 hP1 _ hS1 => fin H1 locs1 hP1 hS1)
  | some b =>
    obtain ⟨cb, Nb, C, T, y1, y2, y3⟩ := hx b rfl
    have hb := tw_ws_get (G := G) y1.2
    rw [tw_c_obj y1.1 (tw_tcl_len y2)] at hb
    rcases y3 with rfl | y3
    · exact va_astq X.1 X.2.1 X.2.2.2.2.2.2.1.1 hP (tw_ws_D hn) hS a 4 b cb he rfl hb y2 x2 dd (fun H1 locs1 hP1 _ hS1 => fin H1 locs1 hP1 hS1)
    · exact va_astqO X.1 X.2.1 X.2.2.2.2.2.2.1.1 hP (tw_ws_D hn) hS a 4 b cb he rfl (X.2.2.2.2.2.2.1.2.2.1 _ y3) hb y2 x2 dd (fun H1 locs1 hP1 _ hS1 => fin H1 locs1 hP1 hS1)
theorem ar_aald18 {a N : Nat} {i : Int} (hd : M.2.2.2.2[k]? = some (pc, .aaload, nx, tg)) (hk : tK h a (18, N)) (h1 : 0 ≤ i) (h2 : i < N) (hN : N < 2147483648) (kk : tw_AW l G M d mc ms n0 c2 P nx ls (vr (h.2.2.1 a i) :: st) h) : tw_AW l G M d mc ms n0 c2 P pc ls (vi i :: vr (some a) :: st) h := by
  intro p e s m args below meth c H locs ls' X hl hP hS h0 hn
  obtain ⟨dd, e1⟩ := tw_dec X hd rfl
  subst e1
  have K := kk p e s m args below meth c H locs ls' X hl hP hS h0 hn
  have he := tw_ws_get (G := G) hk.2
  rw [tw_c_ref hk.1 (by decide)] at he
  obtain ⟨x1, x2, x3⟩ := tw_ix h1 h2 hN
  have hlt : (Int32.ofInt i).toNatClampNeg < N := Nat.not_le.mp fun q => x2 (Or.inr q)
  refine W.aald (v := va_rf ((h.2.2.1 a i).map (tw_ad G))) (ty := .array .int) X.1 X.2.1 (hP a _ he) ((X.2.2.2.2.2.2.1.1.2 5 _ rfl).1 N (fun j => va_rf ((h.2.2.1 a (j : Int)).map (tw_ad G)))) rfl (fun q => by cases q) (by show ¬ (_ ∨ (arrV _ _ _).slots.size ≤ _); rw [arrV_size]; exact x2) ?_ rfl rfl dd K
  show (arrV _ _ _).slots[_]? = _
  rw [arrV_read _ _ hlt, x1]
  show some (va_rf (Option.map (tw_ad G) (h.2.2.1 a ((i.toNat : Nat) : Int)))) = _
  rw [x3]
theorem ar_alen {a ci N : Nat} (hd : M.2.2.2.2[k]? = some (pc, .arraylength, nx, tg)) (hk : tK h a (ci, N)) (h1 : 13 ≤ ci) (h2 : ci < 19) (kk : tw_AW l G M d mc ms n0 c2 P nx ls (vi N :: st) h) : tw_AW l G M d mc ms n0 c2 P pc ls (vr (some a) :: st) h := by
  intro p e s m args below meth c H locs ls' X hl hP hS h0 hn
  obtain ⟨dd, e1⟩ := tw_dec X hd rfl
  subst e1
  have K := kk p e s m args below meth c H locs ls' X hl hP hS h0 hn
  have he := tw_ws_get (G := G) hk.2
  have ht : ∃ ty, (tw_tys G)[ci - 13]? = some (G.2.1 ci, ty) := by
    rcases (show ci = 13 ∨ ci = 14 ∨ ci = 15 ∨ ci = 16 ∨ ci = 17 ∨ ci = 18 by omega) with rfl | rfl | rfl | rfl | rfl | rfl <;> exact ⟨_, rfl⟩
  obtain ⟨ty, ht⟩ := ht
  have hx : ∃ x, tw_c G h a = .inl (G.2.1 ci, N, x) := by
    by_cases hc : ci < 16
    · exact ⟨_, tw_c_int hk.1 h1 hc⟩
    · exact ⟨_, tw_c_ref hk.1 (by omega)⟩
  obtain ⟨x, hx⟩ := hx
  rw [hx] at he
  exact va_alen X.1 X.2.1 X.2.2.2.2.2.2.1.1 hP a (ci - 13) he ht (v := Int32.ofInt (N : Int)) (Int32.ofInt_eq_ofNat).symm dd K
end AR2
