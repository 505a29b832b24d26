theorem tr_b : ∀ {x : Int}, -128 ≤ x ∧ x ≤ 127 → (Int32.ofInt x).toInt8.toInt32 = Int32.ofInt x := by
  intro x hx
  apply Int32.toInt_inj.mp
  simp only [Int8.toInt_toInt32, Int32.toInt_toInt8, Int32.toInt_ofInt]
  have h1 : x.bmod Int32.size = x := Int.bmod_eq_of_le (by simp [Int32.size]; omega) (by simp [Int32.size]; omega)
  rw [h1]
  exact Int.bmod_eq_of_le (by simp; omega) (by simp; omega)
theorem tr_c : ∀ {x : Int}, 0 ≤ x ∧ x ≤ 65535 → ((Int32.ofInt x).toUInt32 % 65536).toInt32 = Int32.ofInt x := by
  intro x hx
  obtain ⟨n, rfl⟩ : ∃ n : Nat, x = n := ⟨x.toNat, by omega⟩
  have hn : n ≤ 65535 := by omega
  rw [Int32.ofInt_eq_ofNat]
  apply Int32.toBitVec_inj.mp
  apply BitVec.eq_of_toNat_eq
  simp
  omega
section AR
variable {l : Launch} {G : tG} {M : tM} {d mc ms n0 c2 : Nat} {P : Option tV → tH → Prop} {ls : List (Nat × tV)} {st : List tV} {h : tH} {k pc nx tg : Nat}
theorem tw_dec {p : Program} {s : State} {m : MethodId} {args : Array Value} {meth : Method} {c : Code} {ins : Instr} {n : Nat} (X : tw_X l G M n0 mc p s m args meth c) (hd : M.2.2.2.2[k]? = some (pc, ins, nx, tg)) (hn : ilen ins = n + 1) : decode M.2.1 pc = .ok (ins, n + 1) ∧ nx = pc + (n + 1) := by
  obtain ⟨-, -, -, -, -, -, -, -, -, -, -, hq⟩ := X
  have h := hq _ (List.mem_of_getElem? hd)
  simp only [tw_okI, Bool.and_eq_true, Bool.or_eq_true, decide_eq_true_eq] at h
  obtain ⟨⟨h1, h2⟩, -⟩ := h
  rcases h2 with h2 | h2
  · omega
  · rw [hn] at h2
    subst h2
    refine ⟨?_, rfl⟩
    rw [h1]
    congr 2
    omega
theorem tw_tgt {p : Program} {s : State} {m : MethodId} {args : Array Value} {meth : Method} {c : Code} {ins : Instr} {off : Int} (X : tw_X l G M n0 mc p s m args meth c) (hd : M.2.2.2.2[k]? = some (pc, ins, nx, tg)) (hn : ioff ins = some off) : (pc : Int) + off = (tg : Int) := by
  obtain ⟨-, -, -, -, -, -, -, -, -, -, -, hq⟩ := X
  have h := hq _ (List.mem_of_getElem? hd)
  simp only [tw_okI, hn, Bool.and_eq_true, decide_eq_true_eq] at h
  exact h.2
theorem tw_sw {p : Program} {s : State} {m : MethodId} {args : Array Value} {meth : Method} {c : Code} {ins : Instr} (X : tw_X l G M n0 mc p s m args meth c) (hd : M.2.2.2.2[k]? = some (pc, ins, nx, tg)) : decode M.2.1 pc = .ok (ins, nx - pc) := by
  obtain ⟨-, -, -, -, -, -, -, -, -, -, -, hq⟩ := X
  have h := hq _ (List.mem_of_getElem? hd)
  simp only [tw_okI, Bool.and_eq_true, decide_eq_true_eq] at h
  exact h.1.1
theorem ar_iconst {n : Int} (hd : M.2.2.2.2[k]? = some (pc, .iconst n, nx, tg))  (kk : tw_AW l G M d mc ms n0 c2 P nx ls (vi n :: st) h) : tw_AW l G M d mc ms n0 c2 P pc ls (st) h := by
  intro p e s m args below meth c H locs ls' X hl hP hS h0 hn
  obtain ⟨dd, e1⟩ := tw_dec X hd rfl
  subst e1
  have K := kk p e s m args below meth c H locs ls' X hl hP hS h0 hn
  exact lv_iconst X.1 X.2.1 dd rfl K
theorem ar_bipush {n : Int} (hd : M.2.2.2.2[k]? = some (pc, .bipush n, nx, tg)) (hv : (Int8.ofInt n).toInt32 = Int32.ofInt n) (kk : tw_AW l G M d mc ms n0 c2 P nx ls (vi n :: st) h) : tw_AW l G M d mc ms n0 c2 P pc ls (st) h := by
  intro p e s m args below meth c H locs ls' X hl hP hS h0 hn
  obtain ⟨dd, e1⟩ := tw_dec X hd rfl
  subst e1
  have K := kk p e s m args below meth c H locs ls' X hl hP hS h0 hn
  exact lv_bipush X.1 X.2.1 dd hv K
theorem ar_sipush {n : Int} (hd : M.2.2.2.2[k]? = some (pc, .sipush n, nx, tg)) (hv : (Int16.ofInt n).toInt32 = Int32.ofInt n) (kk : tw_AW l G M d mc ms n0 c2 P nx ls (vi n :: st) h) : tw_AW l G M d mc ms n0 c2 P pc ls (st) h := by
  intro p e s m args below meth c H locs ls' X hl hP hS h0 hn
  obtain ⟨dd, e1⟩ := tw_dec X hd rfl
  subst e1
  have K := kk p e s m args below meth c H locs ls' X hl hP hS h0 hn
  exact lv_sipush X.1 X.2.1 dd hv K
theorem ar_lconst {n : Fin 2} {z : Int} (hd : M.2.2.2.2[k]? = some (pc, .lconst n, nx, tg)) (hv : Int64.ofNat (n : Nat) = Int64.ofInt z) (kk : tw_AW l G M d mc ms n0 c2 P nx ls (vl z :: st) h) : tw_AW l G M d mc ms n0 c2 P pc ls (st) h := by
  intro p e s m args below meth c H locs ls' X hl hP hS h0 hn
  obtain ⟨dd, e1⟩ := tw_dec X hd rfl
  subst e1
  have K := kk p e s m args below meth c H locs ls' X hl hP hS h0 hn
  exact lv_lconst X.1 X.2.1 dd hv K
theorem ar_ldc {i : Nat} {v : Int32} {z : Int} (hd : M.2.2.2.2[k]? = some (pc, .ldc i, nx, tg)) (hw : Cond.constant M.1.cls i v ∈ tw_tbl) (hv : Int32.ofInt z = v) (kk : tw_AW l G M d mc ms n0 c2 P nx ls (vi z :: st) h) : tw_AW l G M d mc ms n0 c2 P pc ls (st) h := by
  intro p e s m args below meth c H locs ls' X hl hP hS h0 hn
  obtain ⟨dd, e1⟩ := tw_dec X hd rfl
  subst e1
  have K := kk p e s m args below meth c H locs ls' X hl hP hS h0 hn
  subst hv
  exact lv_ldc X.1 X.2.1 X.2.2.2.2.1 (X.2.2.2.2.2.1 _ (List.mem_cons_of_mem _ hw)) dd K
theorem ar_ldcw {i : Nat} {v : Int32} {z : Int} (hd : M.2.2.2.2[k]? = some (pc, .ldc_w i, nx, tg)) (hw : Cond.constant M.1.cls i v ∈ tw_tbl) (hv : Int32.ofInt z = v) (kk : tw_AW l G M d mc ms n0 c2 P nx ls (vi z :: st) h) : tw_AW l G M d mc ms n0 c2 P pc ls (st) h := by
  intro p e s m args below meth c H locs ls' X hl hP hS h0 hn
  obtain ⟨dd, e1⟩ := tw_dec X hd rfl
  subst e1
  have K := kk p e s m args below meth c H locs ls' X hl hP hS h0 hn
  subst hv
  exact lv_ldcw X.1 X.2.1 X.2.2.2.2.1 (X.2.2.2.2.2.1 _ (List.mem_cons_of_mem _ hw)) dd K
theorem ar_ldc2 {i : Nat} {v : Int64} {z : Int} (hd : M.2.2.2.2[k]? = some (pc, .ldc2_w i, nx, tg)) (hw : Cond.constantLong M.1.cls i v ∈ tw_tbl) (hv : Int64.ofInt z = v) (kk : tw_AW l G M d mc ms n0 c2 P nx ls (vl z :: st) h) : tw_AW l G M d mc ms n0 c2 P pc ls (st) h := by
  intro p e s m args below meth c H locs ls' X hl hP hS h0 hn
  obtain ⟨dd, e1⟩ := tw_dec X hd rfl
  subst e1
  have K := kk p e s m args below meth c H locs ls' X hl hP hS h0 hn
  subst hv
  exact lv_ldc2 X.1 X.2.1 X.2.2.2.2.1 (X.2.2.2.2.2.1 _ (List.mem_cons_of_mem _ hw)) dd K
theorem ar_ldcS {i j : Nat} {tx : String} (hd : M.2.2.2.2[k]? = some (pc, .ldc i, nx, tg)) (hq : (M.1.cls, i, tx, j) ∈ sTab) (hj : j < 1000000) (kk : tw_AW l G M d mc ms n0 c2 P nx ls (vr (some (1000000 + j)) :: st) h) : tw_AW l G M d mc ms n0 c2 P pc ls (st) h := by
  intro p e s m args below meth c H locs ls' X hl hP hS h0 hn
  obtain ⟨dd, e1⟩ := tw_dec X hd rfl
  subst e1
  have K := kk p e s m args below meth c H locs ls' X hl hP hS h0 hn
  have e : tw_v G (vr (some (1000000 + j))) = .ref (G.2.2.2.1 j) := by
    show Value.ref (tw_ad G (1000000 + j)) = _
    rw [tw_ad, if_neg (by omega), if_pos (by omega), Nat.add_sub_cancel_left]
  rw [List.map_cons, e] at K
  exact va_ldcS X.1 X.2.1 X.2.2.2.2.1 (X.2.2.2.2.2.2.1.2.1.2.1 _ hq) dd K
theorem ar_null (hd : M.2.2.2.2[k]? = some (pc, .aconst_null, nx, tg))  (kk : tw_AW l G M d mc ms n0 c2 P nx ls (vr none :: st) h) : tw_AW l G M d mc ms n0 c2 P pc ls (st) h := by
  intro p e s m args below meth c H locs ls' X hl hP hS h0 hn
  obtain ⟨dd, e1⟩ := tw_dec X hd rfl
  subst e1
  have K := kk p e s m args below meth c H locs ls' X hl hP hS h0 hn
  exact lv_null X.1 X.2.1 dd K
theorem tw_lk {nL : Nat} {ls' : Array Slot} {i : Nat} {v : tV} (hl : lv_has ls' nL (tw_L G ls)) (hi : ls.lookup i = some v) : ls'[i]? = some (.val (tw_v G v)) := by
  refine hl.2.2 (i, tw_v G v) ?_
  have hm : (i, v) ∈ ls := by
    clear hl
    induction ls with
    | nil => simp at hi
    | cons q r ih =>
      rw [List.lookup_cons] at hi
      by_cases hq : i == q.1
      · rw [hq] at hi
        simp only [Option.some.injEq] at hi
        have : i = q.1 := by simpa using hq
        subst this; subst hi
        exact List.mem_cons_self
      · simp only [Bool.not_eq_true] at hq
        rw [hq] at hi
        exact List.mem_cons_of_mem _ (ih hi)
  exact List.mem_map.mpr ⟨(i, v), hm, rfl⟩
theorem ar_iload {i : Nat} {z : Int} (hd : M.2.2.2.2[k]? = some (pc, .iload i, nx, tg)) (hi : ls.lookup i = some (vi z)) (kk : tw_AW l G M d mc ms n0 c2 P nx ls (vi z :: st) h) : tw_AW l G M d mc ms n0 c2 P pc ls (st) h := by
  intro p e s m args below meth c H locs ls' X hl hP hS h0 hn
  obtain ⟨dd, e1⟩ := tw_dec X hd rfl
  subst e1
  have K := kk p e s m args below meth c H locs ls' X hl hP hS h0 hn
  exact lv_iload X.1 X.2.1 dd (tw_lk hl hi) K
theorem ar_iloadn {i : Fin 4} {z : Int} (hd : M.2.2.2.2[k]? = some (pc, .iload_n i, nx, tg)) (hi : ls.lookup (i : Nat) = some (vi z)) (kk : tw_AW l G M d mc ms n0 c2 P nx ls (vi z :: st) h) : tw_AW l G M d mc ms n0 c2 P pc ls (st) h := by
  intro p e s m args below meth c H locs ls' X hl hP hS h0 hn
  obtain ⟨dd, e1⟩ := tw_dec X hd rfl
  subst e1
  have K := kk p e s m args below meth c H locs ls' X hl hP hS h0 hn
  exact lv_iload_n X.1 X.2.1 dd rfl (tw_lk hl hi) K
theorem ar_lload {i : Nat} {z : Int} (hd : M.2.2.2.2[k]? = some (pc, .lload i, nx, tg)) (hi : ls.lookup i = some (vl z)) (kk : tw_AW l G M d mc ms n0 c2 P nx ls (vl z :: st) h) : tw_AW l G M d mc ms n0 c2 P pc ls (st) h := by
  intro p e s m args below meth c H locs ls' X hl hP hS h0 hn
  obtain ⟨dd, e1⟩ := tw_dec X hd rfl
  subst e1
  have K := kk p e s m args below meth c H locs ls' X hl hP hS h0 hn
  exact lv_lload X.1 X.2.1 dd (tw_lk hl hi) K
theorem ar_lloadn {i : Fin 4} {z : Int} (hd : M.2.2.2.2[k]? = some (pc, .lload_n i, nx, tg)) (hi : ls.lookup (i : Nat) = some (vl z)) (kk : tw_AW l G M d mc ms n0 c2 P nx ls (vl z :: st) h) : tw_AW l G M d mc ms n0 c2 P pc ls (st) h := by
  intro p e s m args below meth c H locs ls' X hl hP hS h0 hn
  obtain ⟨dd, e1⟩ := tw_dec X hd rfl
  subst e1
  have K := kk p e s m args below meth c H locs ls' X hl hP hS h0 hn
  exact lv_lload_n X.1 X.2.1 dd rfl (tw_lk hl hi) K
theorem ar_aload {i : Nat} {r : Option Nat} (hd : M.2.2.2.2[k]? = some (pc, .aload i, nx, tg)) (hi : ls.lookup i = some (vr r)) (kk : tw_AW l G M d mc ms n0 c2 P nx ls (vr r :: st) h) : tw_AW l G M d mc ms n0 c2 P pc ls (st) h := by
  intro p e s m args below meth c H locs ls' X hl hP hS h0 hn
  obtain ⟨dd, e1⟩ := tw_dec X hd rfl
  subst e1
  have K := kk p e s m args below meth c H locs ls' X hl hP hS h0 hn
  have L := tw_lk hl hi
  cases r with
  | none => exact lv_aloadN X.1 X.2.1 dd L K
  | some a => exact lv_aload X.1 X.2.1 dd L K
theorem ar_aloadn {i : Fin 4} {r : Option Nat} (hd : M.2.2.2.2[k]? = some (pc, .aload_n i, nx, tg)) (hi : ls.lookup (i : Nat) = some (vr r)) (kk : tw_AW l G M d mc ms n0 c2 P nx ls (vr r :: st) h) : tw_AW l G M d mc ms n0 c2 P pc ls (st) h := by
  intro p e s m args below meth c H locs ls' X hl hP hS h0 hn
  obtain ⟨dd, e1⟩ := tw_dec X hd rfl
  subst e1
  have K := kk p e s m args below meth c H locs ls' X hl hP hS h0 hn
  have L := tw_lk hl hi
  cases r with
  | none => exact lv_aload_nN X.1 X.2.1 dd rfl L K
  | some a => exact lv_aload_n X.1 X.2.1 dd rfl L K
/-- a store: what was there goes, and a long whose second half it is -/
def tw_set (i : Nat) (v : tV) (ls : List (Nat × tV)) : List (Nat × tV) := (i, v) :: ls.filter (fun q => !(q.1 == i) && !(q.1 + 1 == i && tw_w q.2 == 2))
def tw_set2 (i : Nat) (v : tV) (ls : List (Nat × tV)) : List (Nat × tV) := (i, v) :: ls.filter (fun q => !(q.1 == i) && (!(q.1 == i + 1) && !(q.1 + 1 == i && tw_w q.2 == 2)))
theorem tw_set_L (i : Nat) (v : tV) (ls : List (Nat × tV)) : (i, tw_v G v) :: (tw_L G ls).filter (fun q => !(q.1 == i) && !(q.1 + 1 == i && q.2.category == 2)) = tw_L G (tw_set i v ls) := by
  simp only [tw_L, tw_set, List.map_cons, List.filter_map]
  congr 2
  apply List.filter_congr
  intro q _
  simp [tw_v_cat]
theorem tw_set2_L (i : Nat) (v : tV) (ls : List (Nat × tV)) : (i, tw_v G v) :: (tw_L G ls).filter (fun q => !(q.1 == i) && (!(q.1 == i + 1) && !(q.1 + 1 == i && q.2.category == 2))) = tw_L G (tw_set2 i v ls) := by
  simp only [tw_L, tw_set2, List.map_cons, List.filter_map]
  congr 2
  apply List.filter_congr
  intro q _
  simp [tw_v_cat]
theorem tw_sub_has {nL : Nat} {ls' : Array Slot} {l2 : List (Nat × tV)} (hl : lv_has ls' nL (tw_L G ls)) (hs : ∀ q ∈ l2, q ∈ ls) : lv_has ls' nL (tw_L G l2) :=
  ⟨hl.1, hl.2.1, fun q hq => by
    obtain ⟨x, hx, rfl⟩ := List.mem_map.mp hq
    exact hl.2.2 _ (List.mem_map.mpr ⟨x, hs x hx, rfl⟩)⟩
theorem ar_istore {i : Nat} {z : Int} {l2 : List (Nat × tV)} (hd : M.2.2.2.2[k]? = some (pc, .istore i, nx, tg)) (hi : i < M.2.2.1) (h2 : tw_set i (vi z) ls = l2) (kk : tw_AW l G M d mc ms n0 c2 P nx l2 st h) : tw_AW l G M d mc ms n0 c2 P pc ls (vi z :: st) h := by
  intro p e s m args below meth c H locs ls' X hl hP hS h0 hn
  obtain ⟨dd, e1⟩ := tw_dec X hd rfl
  subst e1
  subst h2
  exact lv_istore X.1 X.2.1 dd hl hi (tw_set_L _ (vi z) _) (fun ls2 hl2 => kk p e s m args below meth c H locs ls2 X hl2 hP hS h0 hn)
theorem ar_lstore {i : Nat} {z : Int} {l2 : List (Nat × tV)} (hd : M.2.2.2.2[k]? = some (pc, .lstore i, nx, tg)) (hi : i + 1 < M.2.2.1) (h2 : tw_set2 i (vl z) ls = l2) (kk : tw_AW l G M d mc ms n0 c2 P nx l2 st h) : tw_AW l G M d mc ms n0 c2 P pc ls (vl z :: st) h := by
  intro p e s m args below meth c H locs ls' X hl hP hS h0 hn
  obtain ⟨dd, e1⟩ := tw_dec X hd rfl
  subst e1
  subst h2
  exact lv_lstore X.1 X.2.1 dd hl hi (tw_set2_L _ (vl z) _) (fun ls2 hl2 => kk p e s m args below meth c H locs ls2 X hl2 hP hS h0 hn)
theorem ar_astore {i : Nat} {r : Option Nat} {l2 : List (Nat × tV)} (hd : M.2.2.2.2[k]? = some (pc, .astore i, nx, tg)) (hi : i < M.2.2.1) (h2 : tw_set i (vr r) ls = l2) (kk : tw_AW l G M d mc ms n0 c2 P nx l2 st h) : tw_AW l G M d mc ms n0 c2 P pc ls (vr r :: st) h := by
  intro p e s m args below meth c H locs ls' X hl hP hS h0 hn
  obtain ⟨dd, e1⟩ := tw_dec X hd rfl
  subst e1
  subst h2
  cases r with
  | none => exact lv_astoreN X.1 X.2.1 dd hl hi (tw_set_L (G := G) _ (vr none) _) (fun ls2 hl2 => kk p e s m args below meth c H locs ls2 X hl2 hP hS h0 hn)
  | some a => exact lv_astore X.1 X.2.1 dd hl hi (tw_set_L (G := G) _ (vr (some a)) _) (fun ls2 hl2 => kk p e s m args below meth c H locs ls2 X hl2 hP hS h0 hn)
theorem ar_istoren {i : Fin 4} {z : Int} {l2 : List (Nat × tV)} (hd : M.2.2.2.2[k]? = some (pc, .istore_n i, nx, tg)) (hi : (i : Nat) < M.2.2.1) (h2 : tw_set (i : Nat) (vi z) ls = l2) (kk : tw_AW l G M d mc ms n0 c2 P nx l2 st h) : tw_AW l G M d mc ms n0 c2 P pc ls (vi z :: st) h := by
  intro p e s m args below meth c H locs ls' X hl hP hS h0 hn
  obtain ⟨dd, e1⟩ := tw_dec X hd rfl
  subst e1
  subst h2
  exact lv_istore_n X.1 X.2.1 dd rfl hl hi (tw_set_L _ (vi z) _) (fun ls2 hl2 => kk p e s m args below meth c H locs ls2 X hl2 hP hS h0 hn)
theorem ar_lstoren {i : Fin 4} {z : Int} {l2 : List (Nat × tV)} (hd : M.2.2.2.2[k]? = some (pc, .lstore_n i, nx, tg)) (hi : (i : Nat) + 1 < M.2.2.1) (h2 : tw_set2 (i : Nat) (vl z) ls = l2) (kk : tw_AW l G M d mc ms n0 c2 P nx l2 st h) : tw_AW l G M d mc ms n0 c2 P pc ls (vl z :: st) h := by
  intro p e s m args below meth c H locs ls' X hl hP hS h0 hn
  obtain ⟨dd, e1⟩ := tw_dec X hd rfl
  subst e1
  subst h2
  exact lv_lstore_n X.1 X.2.1 dd rfl hl hi (tw_set2_L _ (vl z) _) (fun ls2 hl2 => kk p e s m args below meth c H locs ls2 X hl2 hP hS h0 hn)
theorem ar_astoren {i : Fin 4} {r : Option Nat} {l2 : List (Nat × tV)} (hd : M.2.2.2.2[k]? = some (pc, .astore_n i, nx, tg)) (hi : (i : Nat) < M.2.2.1) (h2 : tw_set (i : Nat) (vr r) ls = l2) (kk : tw_AW l G M d mc ms n0 c2 P nx l2 st h) : tw_AW l G M d mc ms n0 c2 P pc ls (vr r :: st) h := by
  intro p e s m args below meth c H locs ls' X hl hP hS h0 hn
  obtain ⟨dd, e1⟩ := tw_dec X hd rfl
  subst e1
  subst h2
  cases r with
  | none => exact lv_astore_nN X.1 X.2.1 dd rfl hl hi (tw_set_L (G := G) _ (vr none) _) (fun ls2 hl2 => kk p e s m args below meth c H locs ls2 X hl2 hP hS h0 hn)
  | some a => exact lv_astore_n X.1 X.2.1 dd rfl hl hi (tw_set_L (G := G) _ (vr (some a)) _) (fun ls2 hl2 => kk p e s m args below meth c H locs ls2 X hl2 hP hS h0 hn)
theorem ar_iinc {i : Nat} {z n : Int} {l2 : List (Nat × tV)} (hd : M.2.2.2.2[k]? = some (pc, .iinc i n, nx, tg)) (hi : i < M.2.2.1) (hz : ls.lookup i = some (vi z)) (h2 : tw_set i (vi (z + n)) ls = l2) (kk : tw_AW l G M d mc ms n0 c2 P nx l2 st h) : tw_AW l G M d mc ms n0 c2 P pc ls st h := by
  intro p e s m args below meth c H locs ls' X hl hP hS h0 hn
  obtain ⟨dd, e1⟩ := tw_dec X hd rfl
  subst e1
  subst h2
  have hk := tw_lk hl hz
  obtain ⟨ls2, e2, hl2⟩ := lv_store1 (v := .int (Int32.ofInt (z + n))) hl hi rfl
  have hl2 : lv_has ls2 M.2.2.1 (tw_L G (tw_set i (vi (z + n)) ls)) := by rw [← tw_set_L]; exact hl2
  intro T hT Y
  obtain ⟨t, a, b⟩ := kk p e s m args below meth c H locs ls2 X hl2 hP hS h0 hn T hT Y
  refine ⟨t, ?_, b⟩
  have hk' : ls'[i]? = some (.val (.int (Int32.ofInt z))) := hk
  rw [Int32.ofInt_add] at e2
  have hb : c.code = M.2.1 := X.2.1
  have hexec := X.1
  jvm_step Y.here [Y.here.top, ↓top_set Y.here.top, hexec, hb, dd, hk', e2]
  exact a
theorem ar_sub {l2 : List (Nat × tV)} (hs : ∀ q ∈ l2, q ∈ ls) (kk : tw_AW l G M d mc ms n0 c2 P pc l2 st h) : tw_AW l G M d mc ms n0 c2 P pc ls st h := fun p e s m args below meth c H locs ls' X hl hP hS h0 hn => kk p e s m args below meth c H locs ls' X (tw_sub_has hl hs) hP hS h0 hn
theorem ar_iadd {x y : Int} (hd : M.2.2.2.2[k]? = some (pc, .iadd, nx, tg))  (kk : tw_AW l G M d mc ms n0 c2 P nx ls (vi (x + y) :: st) h) : tw_AW l G M d mc ms n0 c2 P pc ls (vi y :: vi x :: st) h := by
  intro p e s m args below meth c H locs ls' X hl hP hS h0 hn
  obtain ⟨dd, e1⟩ := tw_dec X hd rfl
  subst e1
  have K := kk p e s m args below meth c H locs ls' X hl hP hS h0 hn
  refine lv_iadd X.1 X.2.1 dd ?_
  rw [← Int32.ofInt_add]
  exact K
theorem ar_isub {x y : Int} (hd : M.2.2.2.2[k]? = some (pc, .isub, nx, tg))  (kk : tw_AW l G M d mc ms n0 c2 P nx ls (vi (x - y) :: st) h) : tw_AW l G M d mc ms n0 c2 P pc ls (vi y :: vi x :: st) h := by
  intro p e s m args below meth c H locs ls' X hl hP hS h0 hn
  obtain ⟨dd, e1⟩ := tw_dec X hd rfl
  subst e1
  have K := kk p e s m args below meth c H locs ls' X hl hP hS h0 hn
  refine lv_isub X.1 X.2.1 dd ?_
  rw [← Int32.ofInt_sub]
  exact K
theorem ar_imul {x y : Int} (hd : M.2.2.2.2[k]? = some (pc, .imul, nx, tg))  (kk : tw_AW l G M d mc ms n0 c2 P nx ls (vi (x * y) :: st) h) : tw_AW l G M d mc ms n0 c2 P pc ls (vi y :: vi x :: st) h := by
  intro p e s m args below meth c H locs ls' X hl hP hS h0 hn
  obtain ⟨dd, e1⟩ := tw_dec X hd rfl
  subst e1
  have K := kk p e s m args below meth c H locs ls' X hl hP hS h0 hn
  refine lv_imul X.1 X.2.1 dd ?_
  rw [← Int32.ofInt_mul]
  exact K
abbrev tr (z : Int) : Prop := -2147483648 ≤ z ∧ z ≤ 2147483647
theorem tr_min {z : Int} (h : tr z) : Int32.minValue.toInt ≤ z := h.1
theorem tr_max {z : Int} (h : tr z) : z ≤ Int32.maxValue.toInt := h.2
theorem tr_id {z : Int} (h : tr z) : (Int32.ofInt z).toInt = z := Int32.toInt_ofInt_of_le (by have := h.1; omega) (by have := h.2; omega)
theorem tr_eq {x y : Int} (hx : tr x) (hy : tr y) : Int32.ofInt x = Int32.ofInt y ↔ x = y := by
  rw [← Int32.toInt_inj, tr_id hx, tr_id hy]
theorem tr_0 {x : Int} (hx : tr x) : Int32.ofInt x = 0 ↔ x = 0 := tr_eq hx (by decide : tr 0)
theorem tr_lt {x y : Int} (hx : tr x) (hy : tr y) : Int32.ofInt x < Int32.ofInt y ↔ x < y := by
  rw [Int32.lt_iff_toInt_lt, tr_id hx, tr_id hy]
theorem tr_le {x y : Int} (hx : tr x) (hy : tr y) : Int32.ofInt x ≤ Int32.ofInt y ↔ x ≤ y := by
  rw [Int32.le_iff_toInt_le, tr_id hx, tr_id hy]
def bAnd (x y : Int) : Int := (Int32.ofInt x &&& Int32.ofInt y).toInt
def bOr (x y : Int) : Int := (Int32.ofInt x ||| Int32.ofInt y).toInt
def bXor (x y : Int) : Int := (Int32.ofInt x ^^^ Int32.ofInt y).toInt
def bShl (x y : Int) : Int := (Int32.ofInt x <<< (Int32.ofInt y &&& 31)).toInt
def bShr (x y : Int) : Int := (Int32.ofInt x >>> (Int32.ofInt y &&& 31)).toInt
def bUsh (x y : Int) : Int := ((Int32.ofInt x).toUInt32 >>> ((Int32.ofInt y).toUInt32 &&& Int32.toUInt32 31)).toInt32.toInt
theorem ar_iand {x y : Int} (hd : M.2.2.2.2[k]? = some (pc, .iand, nx, tg))  (kk : tw_AW l G M d mc ms n0 c2 P nx ls (vi (bAnd x y) :: st) h) : tw_AW l G M d mc ms n0 c2 P pc ls (vi y :: vi x :: st) h := by
  intro p e s m args below meth c H locs ls' X hl hP hS h0 hn
  obtain ⟨dd, e1⟩ := tw_dec X hd rfl
  subst e1
  have K := kk p e s m args below meth c H locs ls' X hl hP hS h0 hn
  refine lv_iand X.1 X.2.1 dd ?_
  have e : tw_v G (vi (bAnd x y)) = .int _ := congrArg Value.int (Int32.ofInt_toInt _)
  rw [List.map_cons, e] at K
  exact K
theorem ar_ior {x y : Int} (hd : M.2.2.2.2[k]? = some (pc, .ior, nx, tg))  (kk : tw_AW l G M d mc ms n0 c2 P nx ls (vi (bOr x y) :: st) h) : tw_AW l G M d mc ms n0 c2 P pc ls (vi y :: vi x :: st) h := by
  intro p e s m args below meth c H locs ls' X hl hP hS h0 hn
  obtain ⟨dd, e1⟩ := tw_dec X hd rfl
  subst e1
  have K := kk p e s m args below meth c H locs ls' X hl hP hS h0 hn
  refine lv_ior X.1 X.2.1 dd ?_
  have e : tw_v G (vi (bOr x y)) = .int _ := congrArg Value.int (Int32.ofInt_toInt _)
  rw [List.map_cons, e] at K
  exact K
theorem ar_ixor {x y : Int} (hd : M.2.2.2.2[k]? = some (pc, .ixor, nx, tg))  (kk : tw_AW l G M d mc ms n0 c2 P nx ls (vi (bXor x y) :: st) h) : tw_AW l G M d mc ms n0 c2 P pc ls (vi y :: vi x :: st) h := by
  intro p e s m args below meth c H locs ls' X hl hP hS h0 hn
  obtain ⟨dd, e1⟩ := tw_dec X hd rfl
  subst e1
  have K := kk p e s m args below meth c H locs ls' X hl hP hS h0 hn
  refine lv_ixor X.1 X.2.1 dd ?_
  have e : tw_v G (vi (bXor x y)) = .int _ := congrArg Value.int (Int32.ofInt_toInt _)
  rw [List.map_cons, e] at K
  exact K
theorem ar_ishl {x y : Int} (hd : M.2.2.2.2[k]? = some (pc, .ishl, nx, tg))  (kk : tw_AW l G M d mc ms n0 c2 P nx ls (vi (bShl x y) :: st) h) : tw_AW l G M d mc ms n0 c2 P pc ls (vi y :: vi x :: st) h := by
  intro p e s m args below meth c H locs ls' X hl hP hS h0 hn
  obtain ⟨dd, e1⟩ := tw_dec X hd rfl
  subst e1
  have K := kk p e s m args below meth c H locs ls' X hl hP hS h0 hn
  refine lv_ishl X.1 X.2.1 dd ?_
  have e : tw_v G (vi (bShl x y)) = .int _ := congrArg Value.int (Int32.ofInt_toInt _)
  rw [List.map_cons, e] at K
  exact K
theorem ar_ishr {x y : Int} (hd : M.2.2.2.2[k]? = some (pc, .ishr, nx, tg))  (kk : tw_AW l G M d mc ms n0 c2 P nx ls (vi (bShr x y) :: st) h) : tw_AW l G M d mc ms n0 c2 P pc ls (vi y :: vi x :: st) h := by
  intro p e s m args below meth c H locs ls' X hl hP hS h0 hn
  obtain ⟨dd, e1⟩ := tw_dec X hd rfl
  subst e1
  have K := kk p e s m args below meth c H locs ls' X hl hP hS h0 hn
  refine lv_ishr X.1 X.2.1 dd ?_
  have e : tw_v G (vi (bShr x y)) = .int _ := congrArg Value.int (Int32.ofInt_toInt _)
  rw [List.map_cons, e] at K
  exact K
theorem ar_iushr {x y : Int} (hd : M.2.2.2.2[k]? = some (pc, .iushr, nx, tg))  (kk : tw_AW l G M d mc ms n0 c2 P nx ls (vi (bUsh x y) :: st) h) : tw_AW l G M d mc ms n0 c2 P pc ls (vi y :: vi x :: st) h := by
  intro p e s m args below meth c H locs ls' X hl hP hS h0 hn
  obtain ⟨dd, e1⟩ := tw_dec X hd rfl
  subst e1
  have K := kk p e s m args below meth c H locs ls' X hl hP hS h0 hn
  refine lv_iushr X.1 X.2.1 dd rfl ?_
  have e : tw_v G (vi (bUsh x y)) = .int _ := congrArg Value.int (Int32.ofInt_toInt _)
  rw [List.map_cons, e] at K
  exact K
theorem ar_ineg {x : Int} (hd : M.2.2.2.2[k]? = some (pc, .ineg, nx, tg))  (kk : tw_AW l G M d mc ms n0 c2 P nx ls (vi (-x) :: st) h) : tw_AW l G M d mc ms n0 c2 P pc ls (vi x :: st) h := by
  intro p e s m args below meth c H locs ls' X hl hP hS h0 hn
  obtain ⟨dd, e1⟩ := tw_dec X hd rfl
  subst e1
  have K := kk p e s m args below meth c H locs ls' X hl hP hS h0 hn
  refine lv_ineg X.1 X.2.1 dd ?_
  rw [← Int32.ofInt_neg]
  exact K
theorem ar_idiv {x y : Int} (hd : M.2.2.2.2[k]? = some (pc, .idiv, nx, tg)) (hx : tr x) (hy : tr y) (hne : y ≠ 0) (kk : tw_AW l G M d mc ms n0 c2 P nx ls (vi (x.tdiv y) :: st) h) : tw_AW l G M d mc ms n0 c2 P pc ls (vi y :: vi x :: st) h := by
  intro p e s m args below meth c H locs ls' X hl hP hS h0 hn
  obtain ⟨dd, e1⟩ := tw_dec X hd rfl
  subst e1
  have K := kk p e s m args below meth c H locs ls' X hl hP hS h0 hn
  refine lv_idiv X.1 X.2.1 dd (fun q => hne ((tr_0 hy).mp q)) ?_
  rw [← Int32.ofInt_tdiv (tr_min hx) (tr_max hx) (tr_min hy) (tr_max hy)]
  exact K
theorem ar_irem {x y : Int} (hd : M.2.2.2.2[k]? = some (pc, .irem, nx, tg)) (hx : tr x) (hy : tr y) (hne : y ≠ 0) (kk : tw_AW l G M d mc ms n0 c2 P nx ls (vi (x.tmod y) :: st) h) : tw_AW l G M d mc ms n0 c2 P pc ls (vi y :: vi x :: st) h := by
  intro p e s m args below meth c H locs ls' X hl hP hS h0 hn
  obtain ⟨dd, e1⟩ := tw_dec X hd rfl
  subst e1
  have K := kk p e s m args below meth c H locs ls' X hl hP hS h0 hn
  refine lv_irem X.1 X.2.1 dd (fun q => hne ((tr_0 hy).mp q)) ?_
  rw [← Int32.ofInt_tdiv (tr_min hx) (tr_max hx) (tr_min hy) (tr_max hy), ← Int32.ofInt_mul, ← Int32.ofInt_sub, show x - x.tdiv y * y = x.tmod y by rw [Int.tmod_def, Int.mul_comm]]
  exact K
abbrev tr6 (z : Int) : Prop := -9223372036854775808 ≤ z ∧ z ≤ 9223372036854775807
theorem tr6_id {z : Int} (h : tr6 z) : (Int64.ofInt z).toInt = z := Int64.toInt_ofInt_of_le (by have := h.1; omega) (by have := h.2; omega)
theorem tr6_eq {x y : Int} (hx : tr6 x) (hy : tr6 y) : Int64.ofInt x = Int64.ofInt y ↔ x = y := by
  rw [← Int64.toInt_inj, tr6_id hx, tr6_id hy]
theorem ar_lsub {x y : Int} (hd : M.2.2.2.2[k]? = some (pc, .lsub, nx, tg))  (kk : tw_AW l G M d mc ms n0 c2 P nx ls (vl (x - y) :: st) h) : tw_AW l G M d mc ms n0 c2 P pc ls (vl y :: vl x :: st) h := by
  intro p e s m args below meth c H locs ls' X hl hP hS h0 hn
  obtain ⟨dd, e1⟩ := tw_dec X hd rfl
  subst e1
  have K := kk p e s m args below meth c H locs ls' X hl hP hS h0 hn
  refine lv_lsub X.1 X.2.1 dd ?_
  rw [← Int64.ofInt_sub]
  exact K
theorem ar_lmul {x y : Int} (hd : M.2.2.2.2[k]? = some (pc, .lmul, nx, tg))  (kk : tw_AW l G M d mc ms n0 c2 P nx ls (vl (x * y) :: st) h) : tw_AW l G M d mc ms n0 c2 P pc ls (vl y :: vl x :: st) h := by
  intro p e s m args below meth c H locs ls' X hl hP hS h0 hn
  obtain ⟨dd, e1⟩ := tw_dec X hd rfl
  subst e1
  have K := kk p e s m args below meth c H locs ls' X hl hP hS h0 hn
  refine lv_lmul X.1 X.2.1 dd ?_
  rw [← Int64.ofInt_mul]
  exact K
theorem ar_ldiv {x y : Int} (hd : M.2.2.2.2[k]? = some (pc, .ldiv, nx, tg)) (hx : tr6 x) (hy : tr6 y) (hne : y ≠ 0) (kk : tw_AW l G M d mc ms n0 c2 P nx ls (vl (x.tdiv y) :: st) h) : tw_AW l G M d mc ms n0 c2 P pc ls (vl y :: vl x :: st) h := by
  intro p e s m args below meth c H locs ls' X hl hP hS h0 hn
  obtain ⟨dd, e1⟩ := tw_dec X hd rfl
  subst e1
  have K := kk p e s m args below meth c H locs ls' X hl hP hS h0 hn
  refine lv_ldiv X.1 X.2.1 dd (fun q => hne ((tr6_eq hy (by decide : tr6 0)).mp q)) ?_
  rw [← Int64.ofInt_tdiv hx.1 hx.2 hy.1 hy.2]
  exact K
theorem ar_lrem {x y : Int} (hd : M.2.2.2.2[k]? = some (pc, .lrem, nx, tg)) (hx : tr6 x) (hy : tr6 y) (hne : y ≠ 0) (kk : tw_AW l G M d mc ms n0 c2 P nx ls (vl (x.tmod y) :: st) h) : tw_AW l G M d mc ms n0 c2 P pc ls (vl y :: vl x :: st) h := by
  intro p e s m args below meth c H locs ls' X hl hP hS h0 hn
  obtain ⟨dd, e1⟩ := tw_dec X hd rfl
  subst e1
  have K := kk p e s m args below meth c H locs ls' X hl hP hS h0 hn
  refine lv_lrem X.1 X.2.1 dd (fun q => hne ((tr6_eq hy (by decide : tr6 0)).mp q)) ?_
  rw [← Int64.ofInt_tdiv hx.1 hx.2 hy.1 hy.2, ← Int64.ofInt_mul, ← Int64.ofInt_sub, show x - x.tdiv y * y = x.tmod y by rw [Int.tmod_def, Int.mul_comm]]
  exact K
theorem ar_i2l {x : Int} (hd : M.2.2.2.2[k]? = some (pc, .i2l, nx, tg)) (hx : tr x) (kk : tw_AW l G M d mc ms n0 c2 P nx ls (vl x :: st) h) : tw_AW l G M d mc ms n0 c2 P pc ls (vi x :: st) h := by
  intro p e s m args below meth c H locs ls' X hl hP hS h0 hn
  obtain ⟨dd, e1⟩ := tw_dec X hd rfl
  subst e1
  have K := kk p e s m args below meth c H locs ls' X hl hP hS h0 hn
  exact lv_i2l X.1 X.2.1 dd (Int32.toInt64_ofInt (tr_min hx) (tr_max hx)) K
theorem ar_i2b {x : Int} (hd : M.2.2.2.2[k]? = some (pc, .i2b, nx, tg)) (hx : -128 ≤ x ∧ x ≤ 127) (kk : tw_AW l G M d mc ms n0 c2 P nx ls (vi x :: st) h) : tw_AW l G M d mc ms n0 c2 P pc ls (vi x :: st) h := by
  intro p e s m args below meth c H locs ls' X hl hP hS h0 hn
  obtain ⟨dd, e1⟩ := tw_dec X hd rfl
  subst e1
  have K := kk p e s m args below meth c H locs ls' X hl hP hS h0 hn
  exact lv_i2b X.1 X.2.1 dd (tr_b hx) K
theorem ar_i2c {x : Int} (hd : M.2.2.2.2[k]? = some (pc, .i2c, nx, tg)) (hx : 0 ≤ x ∧ x ≤ 65535) (kk : tw_AW l G M d mc ms n0 c2 P nx ls (vi x :: st) h) : tw_AW l G M d mc ms n0 c2 P pc ls (vi x :: st) h := by
  intro p e s m args below meth c H locs ls' X hl hP hS h0 hn
  obtain ⟨dd, e1⟩ := tw_dec X hd rfl
  subst e1
  have K := kk p e s m args below meth c H locs ls' X hl hP hS h0 hn
  exact lv_i2c X.1 X.2.1 dd (tr_c hx) K
theorem ar_dup {v : tV} (hd : M.2.2.2.2[k]? = some (pc, .dup, nx, tg)) (hv : tw_w v = 1) (kk : tw_AW l G M d mc ms n0 c2 P nx ls (v :: v :: st) h) : tw_AW l G M d mc ms n0 c2 P pc ls (v :: st) h := by
  intro p e s m args below meth c H locs ls' X hl hP hS h0 hn
  obtain ⟨dd, e1⟩ := tw_dec X hd rfl
  subst e1
  have K := kk p e s m args below meth c H locs ls' X hl hP hS h0 hn
  exact lv_dup X.1 X.2.1 dd ((tw_v_cat G v).trans hv) K
theorem ar_pop {v : tV} (hd : M.2.2.2.2[k]? = some (pc, .pop, nx, tg)) (hv : tw_w v = 1) (kk : tw_AW l G M d mc ms n0 c2 P nx ls (st) h) : tw_AW l G M d mc ms n0 c2 P pc ls (v :: st) h := by
  intro p e s m args below meth c H locs ls' X hl hP hS h0 hn
  obtain ⟨dd, e1⟩ := tw_dec X hd rfl
  subst e1
  have K := kk p e s m args below meth c H locs ls' X hl hP hS h0 hn
  exact lv_pop X.1 X.2.1 dd ((tw_v_cat G v).trans hv) K
theorem ar_dup2 {u v : tV} (hd : M.2.2.2.2[k]? = some (pc, .dup2, nx, tg)) (hu : tw_w u = 1) (hv : tw_w v = 1) (kk : tw_AW l G M d mc ms n0 c2 P nx ls (u :: v :: u :: v :: st) h) : tw_AW l G M d mc ms n0 c2 P pc ls (u :: v :: st) h := by
  intro p e s m args below meth c H locs ls' X hl hP hS h0 hn
  obtain ⟨dd, e1⟩ := tw_dec X hd rfl
  subst e1
  have K := kk p e s m args below meth c H locs ls' X hl hP hS h0 hn
  exact lv_dup2_11 X.1 X.2.1 dd ((tw_v_cat G u).trans hu) ((tw_v_cat G v).trans hv) K
theorem ar_icmp_eq {off : Int} {x y : Int} (hd : M.2.2.2.2[k]? = some (pc, .if_icmp .eq off, nx, tg)) (hx : tr x) (hy : tr y) (kt : x = y → tw_AW l G M d mc ms n0 c2 P tg ls st h) (kf : ¬ (x = y) → tw_AW l G M d mc ms n0 c2 P nx ls st h) : tw_AW l G M d mc ms n0 c2 P pc ls (vi y :: vi x :: st) h := by
  intro p e s m args below meth c H locs ls' X hl hP hS h0 hn
  obtain ⟨dd, e1⟩ := tw_dec X hd rfl
  subst e1
  refine lv_icmp_eq X.1 X.2.1 dd (tw_tgt X hd rfl) (fun q => ?_) (fun q => ?_)
  · refine kt ?_ p e s m args below meth c H locs ls' X hl hP hS h0 hn
    first | exact (tr_eq hx hy).mp q | exact fun z => q ((tr_eq hx hy).mpr z) | exact (tr_lt hx hy).mp q | exact (tr_le hx hy).mp q | exact (tr_lt hy hx).mp q | exact (tr_le hy hx).mp q
  · refine kf ?_ p e s m args below meth c H locs ls' X hl hP hS h0 hn
    intro z
    first | exact q ((tr_eq hx hy).mpr z) | exact q (fun w => z ((tr_eq hx hy).mp w)) | exact z ((tr_eq hx hy).mp q) | exact q ((tr_lt hx hy).mpr z) | exact q ((tr_le hx hy).mpr z) | exact q ((tr_lt hy hx).mpr z) | exact q ((tr_le hy hx).mpr z)
theorem ar_if_eq {off : Int} {x : Int} (hd : M.2.2.2.2[k]? = some (pc, .ifCond .eq off, nx, tg)) (hx : tr x) (kt : x = 0 → tw_AW l G M d mc ms n0 c2 P tg ls st h) (kf : ¬ (x = 0) → tw_AW l G M d mc ms n0 c2 P nx ls st h) : tw_AW l G M d mc ms n0 c2 P pc ls (vi x :: st) h := by
  intro p e s m args below meth c H locs ls' X hl hP hS h0 hn
  obtain ⟨dd, e1⟩ := tw_dec X hd rfl
  subst e1
  have hy : tr 0 := by decide
  refine lv_if_eq X.1 X.2.1 dd (tw_tgt X hd rfl) (fun q => ?_) (fun q => ?_)
  · refine kt ?_ p e s m args below meth c H locs ls' X hl hP hS h0 hn
    first | exact (tr_eq hx hy).mp q | exact fun z => q ((tr_eq hx hy).mpr z) | exact (tr_lt hx hy).mp q | exact (tr_le hx hy).mp q | exact (tr_lt hy hx).mp q | exact (tr_le hy hx).mp q
  · refine kf ?_ p e s m args below meth c H locs ls' X hl hP hS h0 hn
    intro z
    first | exact q ((tr_eq hx hy).mpr z) | exact q (fun w => z ((tr_eq hx hy).mp w)) | exact z ((tr_eq hx hy).mp q) | exact q ((tr_lt hx hy).mpr z) | exact q ((tr_le hx hy).mpr z) | exact q ((tr_lt hy hx).mpr z) | exact q ((tr_le hy hx).mpr z)
theorem ar_icmp_ne {off : Int} {x y : Int} (hd : M.2.2.2.2[k]? = some (pc, .if_icmp .ne off, nx, tg)) (hx : tr x) (hy : tr y) (kt : x ≠ y → tw_AW l G M d mc ms n0 c2 P tg ls st h) (kf : ¬ (x ≠ y) → tw_AW l G M d mc ms n0 c2 P nx ls st h) : tw_AW l G M d mc ms n0 c2 P pc ls (vi y :: vi x :: st) h := by
  intro p e s m args below meth c H locs ls' X hl hP hS h0 hn
  obtain ⟨dd, e1⟩ := tw_dec X hd rfl
  subst e1
  refine lv_icmp_ne X.1 X.2.1 dd (tw_tgt X hd rfl) (fun q => ?_) (fun q => ?_)
  · refine kt ?_ p e s m args below meth c H locs ls' X hl hP hS h0 hn
    first | exact (tr_eq hx hy).mp q | exact fun z => q ((tr_eq hx hy).mpr z) | exact (tr_lt hx hy).mp q | exact (tr_le hx hy).mp q | exact (tr_lt hy hx).mp q | exact (tr_le hy hx).mp q
  · refine kf ?_ p e s m args below meth c H locs ls' X hl hP hS h0 hn
    intro z
    first | exact q ((tr_eq hx hy).mpr z) | exact q (fun w => z ((tr_eq hx hy).mp w)) | exact z ((tr_eq hx hy).mp q) | exact q ((tr_lt hx hy).mpr z) | exact q ((tr_le hx hy).mpr z) | exact q ((tr_lt hy hx).mpr z) | exact q ((tr_le hy hx).mpr z)
theorem ar_if_ne {off : Int} {x : Int} (hd : M.2.2.2.2[k]? = some (pc, .ifCond .ne off, nx, tg)) (hx : tr x) (kt : x ≠ 0 → tw_AW l G M d mc ms n0 c2 P tg ls st h) (kf : ¬ (x ≠ 0) → tw_AW l G M d mc ms n0 c2 P nx ls st h) : tw_AW l G M d mc ms n0 c2 P pc ls (vi x :: st) h := by
  intro p e s m args below meth c H locs ls' X hl hP hS h0 hn
  obtain ⟨dd, e1⟩ := tw_dec X hd rfl
  subst e1
  have hy : tr 0 := by decide
  refine lv_if_ne X.1 X.2.1 dd (tw_tgt X hd rfl) (fun q => ?_) (fun q => ?_)
  · refine kt ?_ p e s m args below meth c H locs ls' X hl hP hS h0 hn
    first | exact (tr_eq hx hy).mp q | exact fun z => q ((tr_eq hx hy).mpr z) | exact (tr_lt hx hy).mp q | exact (tr_le hx hy).mp q | exact (tr_lt hy hx).mp q | exact (tr_le hy hx).mp q
  · refine kf ?_ p e s m args below meth c H locs ls' X hl hP hS h0 hn
    intro z
    first | exact q ((tr_eq hx hy).mpr z) | exact q (fun w => z ((tr_eq hx hy).mp w)) | exact z ((tr_eq hx hy).mp q) | exact q ((tr_lt hx hy).mpr z) | exact q ((tr_le hx hy).mpr z) | exact q ((tr_lt hy hx).mpr z) | exact q ((tr_le hy hx).mpr z)
theorem ar_icmp_lt {off : Int} {x y : Int} (hd : M.2.2.2.2[k]? = some (pc, .if_icmp .lt off, nx, tg)) (hx : tr x) (hy : tr y) (kt : x < y → tw_AW l G M d mc ms n0 c2 P tg ls st h) (kf : ¬ (x < y) → tw_AW l G M d mc ms n0 c2 P nx ls st h) : tw_AW l G M d mc ms n0 c2 P pc ls (vi y :: vi x :: st) h := by
  intro p e s m args below meth c H locs ls' X hl hP hS h0 hn
  obtain ⟨dd, e1⟩ := tw_dec X hd rfl
  subst e1
  refine lv_icmp_lt X.1 X.2.1 dd (tw_tgt X hd rfl) (fun q => ?_) (fun q => ?_)
  · refine kt ?_ p e s m args below meth c H locs ls' X hl hP hS h0 hn
    first | exact (tr_eq hx hy).mp q | exact fun z => q ((tr_eq hx hy).mpr z) | exact (tr_lt hx hy).mp q | exact (tr_le hx hy).mp q | exact (tr_lt hy hx).mp q | exact (tr_le hy hx).mp q
  · refine kf ?_ p e s m args below meth c H locs ls' X hl hP hS h0 hn
    intro z
    first | exact q ((tr_eq hx hy).mpr z) | exact q (fun w => z ((tr_eq hx hy).mp w)) | exact z ((tr_eq hx hy).mp q) | exact q ((tr_lt hx hy).mpr z) | exact q ((tr_le hx hy).mpr z) | exact q ((tr_lt hy hx).mpr z) | exact q ((tr_le hy hx).mpr z)
theorem ar_if_lt {off : Int} {x : Int} (hd : M.2.2.2.2[k]? = some (pc, .ifCond .lt off, nx, tg)) (hx : tr x) (kt : x < 0 → tw_AW l G M d mc ms n0 c2 P tg ls st h) (kf : ¬ (x < 0) → tw_AW l G M d mc ms n0 c2 P nx ls st h) : tw_AW l G M d mc ms n0 c2 P pc ls (vi x :: st) h := by
  intro p e s m args below meth c H locs ls' X hl hP hS h0 hn
  obtain ⟨dd, e1⟩ := tw_dec X hd rfl
  subst e1
  have hy : tr 0 := by decide
  refine lv_if_lt X.1 X.2.1 dd (tw_tgt X hd rfl) (fun q => ?_) (fun q => ?_)
  · refine kt ?_ p e s m args below meth c H locs ls' X hl hP hS h0 hn
    first | exact (tr_eq hx hy).mp q | exact fun z => q ((tr_eq hx hy).mpr z) | exact (tr_lt hx hy).mp q | exact (tr_le hx hy).mp q | exact (tr_lt hy hx).mp q | exact (tr_le hy hx).mp q
  · refine kf ?_ p e s m args below meth c H locs ls' X hl hP hS h0 hn
    intro z
    first | exact q ((tr_eq hx hy).mpr z) | exact q (fun w => z ((tr_eq hx hy).mp w)) | exact z ((tr_eq hx hy).mp q) | exact q ((tr_lt hx hy).mpr z) | exact q ((tr_le hx hy).mpr z) | exact q ((tr_lt hy hx).mpr z) | exact q ((tr_le hy hx).mpr z)
theorem ar_icmp_ge {off : Int} {x y : Int} (hd : M.2.2.2.2[k]? = some (pc, .if_icmp .ge off, nx, tg)) (hx : tr x) (hy : tr y) (kt : y ≤ x → tw_AW l G M d mc ms n0 c2 P tg ls st h) (kf : ¬ (y ≤ x) → tw_AW l G M d mc ms n0 c2 P nx ls st h) : tw_AW l G M d mc ms n0 c2 P pc ls (vi y :: vi x :: st) h := by
  intro p e s m args below meth c H locs ls' X hl hP hS h0 hn
  obtain ⟨dd, e1⟩ := tw_dec X hd rfl
  subst e1
  refine lv_icmp_ge X.1 X.2.1 dd (tw_tgt X hd rfl) (fun q => ?_) (fun q => ?_)
  · refine kt ?_ p e s m args below meth c H locs ls' X hl hP hS h0 hn
    first | exact (tr_eq hx hy).mp q | exact fun z => q ((tr_eq hx hy).mpr z) | exact (tr_lt hx hy).mp q | exact (tr_le hx hy).mp q | exact (tr_lt hy hx).mp q | exact (tr_le hy hx).mp q
  · refine kf ?_ p e s m args below meth c H locs ls' X hl hP hS h0 hn
    intro z
    first | exact q ((tr_eq hx hy).mpr z) | exact q (fun w => z ((tr_eq hx hy).mp w)) | exact z ((tr_eq hx hy).mp q) | exact q ((tr_lt hx hy).mpr z) | exact q ((tr_le hx hy).mpr z) | exact q ((tr_lt hy hx).mpr z) | exact q ((tr_le hy hx).mpr z)
theorem ar_if_ge {off : Int} {x : Int} (hd : M.2.2.2.2[k]? = some (pc, .ifCond .ge off, nx, tg)) (hx : tr x) (kt : 0 ≤ x → tw_AW l G M d mc ms n0 c2 P tg ls st h) (kf : ¬ (0 ≤ x) → tw_AW l G M d mc ms n0 c2 P nx ls st h) : tw_AW l G M d mc ms n0 c2 P pc ls (vi x :: st) h := by
  intro p e s m args below meth c H locs ls' X hl hP hS h0 hn
  obtain ⟨dd, e1⟩ := tw_dec X hd rfl
  subst e1
  have hy : tr 0 := by decide
  refine lv_if_ge X.1 X.2.1 dd (tw_tgt X hd rfl) (fun q => ?_) (fun q => ?_)
  · refine kt ?_ p e s m args below meth c H locs ls' X hl hP hS h0 hn
    first | exact (tr_eq hx hy).mp q | exact fun z => q ((tr_eq hx hy).mpr z) | exact (tr_lt hx hy).mp q | exact (tr_le hx hy).mp q | exact (tr_lt hy hx).mp q | exact (tr_le hy hx).mp q
  · refine kf ?_ p e s m args below meth c H locs ls' X hl hP hS h0 hn
    intro z
    first | exact q ((tr_eq hx hy).mpr z) | exact q (fun w => z ((tr_eq hx hy).mp w)) | exact z ((tr_eq hx hy).mp q) | exact q ((tr_lt hx hy).mpr z) | exact q ((tr_le hx hy).mpr z) | exact q ((tr_lt hy hx).mpr z) | exact q ((tr_le hy hx).mpr z)
theorem ar_icmp_gt {off : Int} {x y : Int} (hd : M.2.2.2.2[k]? = some (pc, .if_icmp .gt off, nx, tg)) (hx : tr x) (hy : tr y) (kt : y < x → tw_AW l G M d mc ms n0 c2 P tg ls st h) (kf : ¬ (y < x) → tw_AW l G M d mc ms n0 c2 P nx ls st h) : tw_AW l G M d mc ms n0 c2 P pc ls (vi y :: vi x :: st) h := by
  intro p e s m args below meth c H locs ls' X hl hP hS h0 hn
  obtain ⟨dd, e1⟩ := tw_dec X hd rfl
  subst e1
  refine lv_icmp_gt X.1 X.2.1 dd (tw_tgt X hd rfl) (fun q => ?_) (fun q => ?_)
  · refine kt ?_ p e s m args below meth c H locs ls' X hl hP hS h0 hn
    first | exact (tr_eq hx hy).mp q | exact fun z => q ((tr_eq hx hy).mpr z) | exact (tr_lt hx hy).mp q | exact (tr_le hx hy).mp q | exact (tr_lt hy hx).mp q | exact (tr_le hy hx).mp q
  · refine kf ?_ p e s m args below meth c H locs ls' X hl hP hS h0 hn
    intro z
    first | exact q ((tr_eq hx hy).mpr z) | exact q (fun w => z ((tr_eq hx hy).mp w)) | exact z ((tr_eq hx hy).mp q) | exact q ((tr_lt hx hy).mpr z) | exact q ((tr_le hx hy).mpr z) | exact q ((tr_lt hy hx).mpr z) | exact q ((tr_le hy hx).mpr z)
theorem ar_if_gt {off : Int} {x : Int} (hd : M.2.2.2.2[k]? = some (pc, .ifCond .gt off, nx, tg)) (hx : tr x) (kt : 0 < x → tw_AW l G M d mc ms n0 c2 P tg ls st h) (kf : ¬ (0 < x) → tw_AW l G M d mc ms n0 c2 P nx ls st h) : tw_AW l G M d mc ms n0 c2 P pc ls (vi x :: st) h := by
  intro p e s m args below meth c H locs ls' X hl hP hS h0 hn
  obtain ⟨dd, e1⟩ := tw_dec X hd rfl
  subst e1
  have hy : tr 0 := by decide
  refine lv_if_gt X.1 X.2.1 dd (tw_tgt X hd rfl) (fun q => ?_) (fun q => ?_)
  · refine kt ?_ p e s m args below meth c H locs ls' X hl hP hS h0 hn
    first | exact (tr_eq hx hy).mp q | exact fun z => q ((tr_eq hx hy).mpr z) | exact (tr_lt hx hy).mp q | exact (tr_le hx hy).mp q | exact (tr_lt hy hx).mp q | exact (tr_le hy hx).mp q
  · refine kf ?_ p e s m args below meth c H locs ls' X hl hP hS h0 hn
    intro z
    first | exact q ((tr_eq hx hy).mpr z) | exact q (fun w => z ((tr_eq hx hy).mp w)) | exact z ((tr_eq hx hy).mp q) | exact q ((tr_lt hx hy).mpr z) | exact q ((tr_le hx hy).mpr z) | exact q ((tr_lt hy hx).mpr z) | exact q ((tr_le hy hx).mpr z)
theorem ar_icmp_le {off : Int} {x y : Int} (hd : M.2.2.2.2[k]? = some (pc, .if_icmp .le off, nx, tg)) (hx : tr x) (hy : tr y) (kt : x ≤ y → tw_AW l G M d mc ms n0 c2 P tg ls st h) (kf : ¬ (x ≤ y) → tw_AW l G M d mc ms n0 c2 P nx ls st h) : tw_AW l G M d mc ms n0 c2 P pc ls (vi y :: vi x :: st) h := by
  intro p e s m args below meth c H locs ls' X hl hP hS h0 hn
  obtain ⟨dd, e1⟩ := tw_dec X hd rfl
  subst e1
  refine lv_icmp_le X.1 X.2.1 dd (tw_tgt X hd rfl) (fun q => ?_) (fun q => ?_)
  · refine kt ?_ p e s m args below meth c H locs ls' X hl hP hS h0 hn
    first | exact (tr_eq hx hy).mp q | exact fun z => q ((tr_eq hx hy).mpr z) | exact (tr_lt hx hy).mp q | exact (tr_le hx hy).mp q | exact (tr_lt hy hx).mp q | exact (tr_le hy hx).mp q
  · refine kf ?_ p e s m args below meth c H locs ls' X hl hP hS h0 hn
    intro z
    first | exact q ((tr_eq hx hy).mpr z) | exact q (fun w => z ((tr_eq hx hy).mp w)) | exact z ((tr_eq hx hy).mp q) | exact q ((tr_lt hx hy).mpr z) | exact q ((tr_le hx hy).mpr z) | exact q ((tr_lt hy hx).mpr z) | exact q ((tr_le hy hx).mpr z)
theorem ar_if_le {off : Int} {x : Int} (hd : M.2.2.2.2[k]? = some (pc, .ifCond .le off, nx, tg)) (hx : tr x) (kt : x ≤ 0 → tw_AW l G M d mc ms n0 c2 P tg ls st h) (kf : ¬ (x ≤ 0) → tw_AW l G M d mc ms n0 c2 P nx ls st h) : tw_AW l G M d mc ms n0 c2 P pc ls (vi x :: st) h := by
  intro p e s m args below meth c H locs ls' X hl hP hS h0 hn
  obtain ⟨dd, e1⟩ := tw_dec X hd rfl
  subst e1
  have hy : tr 0 := by decide
  refine lv_if_le X.1 X.2.1 dd (tw_tgt X hd rfl) (fun q => ?_) (fun q => ?_)
  · refine kt ?_ p e s m args below meth c H locs ls' X hl hP hS h0 hn
    first | exact (tr_eq hx hy).mp q | exact fun z => q ((tr_eq hx hy).mpr z) | exact (tr_lt hx hy).mp q | exact (tr_le hx hy).mp q | exact (tr_lt hy hx).mp q | exact (tr_le hy hx).mp q
  · refine kf ?_ p e s m args below meth c H locs ls' X hl hP hS h0 hn
    intro z
    first | exact q ((tr_eq hx hy).mpr z) | exact q (fun w => z ((tr_eq hx hy).mp w)) | exact z ((tr_eq hx hy).mp q) | exact q ((tr_lt hx hy).mpr z) | exact q ((tr_le hx hy).mpr z) | exact q ((tr_lt hy hx).mpr z) | exact q ((tr_le hy hx).mpr z)
theorem ar_goto {off : Int} (hd : M.2.2.2.2[k]? = some (pc, .goto off, nx, tg)) (kk : tw_AW l G M d mc ms n0 c2 P tg ls st h) : tw_AW l G M d mc ms n0 c2 P pc ls st h := by
  intro p e s m args below meth c H locs ls' X hl hP hS h0 hn
  obtain ⟨dd, e1⟩ := tw_dec X hd rfl
  subst e1
  exact lv_goto X.1 X.2.1 dd (tw_tgt X hd rfl) (kk p e s m args below meth c H locs ls' X hl hP hS h0 hn)
theorem ar_ifnull {off : Int} {r : Option Nat} (hd : M.2.2.2.2[k]? = some (pc, .ifnull off, nx, tg)) (kt : r = none → tw_AW l G M d mc ms n0 c2 P tg ls st h) (kf : ∀ a, r = some a → tw_AW l G M d mc ms n0 c2 P nx ls st h) : tw_AW l G M d mc ms n0 c2 P pc ls (vr r :: st) h := by
  intro p e s m args below meth c H locs ls' X hl hP hS h0 hn
  obtain ⟨dd, e1⟩ := tw_dec X hd rfl
  subst e1
  cases r with
  | none => exact lv_ifnullN X.1 X.2.1 dd (tw_tgt X hd rfl) (kt rfl p e s m args below meth c H locs ls' X hl hP hS h0 hn)
  | some a => exact lv_ifnull X.1 X.2.1 dd (kf a rfl p e s m args below meth c H locs ls' X hl hP hS h0 hn)
theorem ar_ifnonnull {off : Int} {r : Option Nat} (hd : M.2.2.2.2[k]? = some (pc, .ifnonnull off, nx, tg)) (kt : ∀ a, r = some a → tw_AW l G M d mc ms n0 c2 P tg ls st h) (kf : r = none → tw_AW l G M d mc ms n0 c2 P nx ls st h) : tw_AW l G M d mc ms n0 c2 P pc ls (vr r :: st) h := by
  intro p e s m args below meth c H locs ls' X hl hP hS h0 hn
  obtain ⟨dd, e1⟩ := tw_dec X hd rfl
  subst e1
  cases r with
  | none => exact lv_ifnonnullN X.1 X.2.1 dd (kf rfl p e s m args below meth c H locs ls' X hl hP hS h0 hn)
  | some a => exact lv_ifnonnull X.1 X.2.1 dd (tw_tgt X hd rfl) (kt a rfl p e s m args below meth c H locs ls' X hl hP hS h0 hn)
end AR
