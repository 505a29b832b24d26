/-! THE ABSTRACT MACHINE: numbers as integers, addresses counted from 0, a heap of three tables (kind and size, numbers, references); AW: the machine's W, for every real state that this one stands for. -/
abbrev tV : Type := Int ⊕ (Option Nat ⊕ Int)
abbrev vi (z : Int) : tV := .inl z
abbrev vr (r : Option Nat) : tV := .inr (.inl r)
abbrev vl (z : Int) : tV := .inr (.inr z)
abbrev tH : Type := (Nat → Nat × Nat) × (Nat → Int → Int) × (Nat → Int → Option Nat) × Nat
abbrev tJ : Type := Nat × Instr × Nat × Nat
abbrev tM : Type := MethodName × ByteArray × Nat × Option FieldType × List tJ
abbrev tG : Type := va_G × (Nat → ClassId) × Nat × (Nat → Nat) × (Nat → Nat) × Bool
def tw_w : tV → Nat
  | .inr (.inr _) => 2
  | _ => 1
/-- where the counted cells lie, once both constructors are through: the plan lies before its guess, the first valley's text before the reference -/
def tw_p (a : Nat) : Nat := if a < 27 then a else if a < 40 then a + 1 else if a = 40 then 27 else if a < 69 then a else if a < 77 then a + 1 else if a = 77 then 69 else a
def tw_q (a : Nat) : Nat := if a < 27 then a else if a = 27 then 40 else if a < 41 then a - 1 else if a < 69 then a else if a = 69 then 77 else if a < 78 then a - 1 else a
def tw_t (G : tG) (a : Nat) : Nat := if G.2.2.2.2.2 = true then tw_p a else a
def tw_fg (G : tG) (n : Nat) : Prop := G.2.2.2.2.2 = true → 78 ≤ n
def tw_ad (G : tG) (a : Nat) : Nat := if a < 1000000 then G.2.2.1 + tw_t G a else if a < 2000000 then G.2.2.2.1 (a - 1000000) else if a < 3000000 then G.2.2.2.2.1 (a - 2000000) else a - 3000000
theorem tw_pq (a : Nat) : tw_p (tw_q a) = a := by
  unfold tw_q
  (repeat' split) <;> (unfold tw_p; (repeat' split) <;> omega)
theorem tw_qp (a : Nat) : tw_q (tw_p a) = a := by
  unfold tw_p
  (repeat' split) <;> (unfold tw_q; (repeat' split) <;> omega)
theorem tw_p_ge {a : Nat} (h : 78 ≤ a) : tw_p a = a := by
  unfold tw_p
  (repeat' split) <;> omega
theorem tw_p_lt {a n : Nat} (h : 78 ≤ n) (ha : a < n) : tw_p a < n := by
  unfold tw_p
  (repeat' split) <;> omega
theorem tw_q_lt {a n : Nat} (h : 78 ≤ n) (ha : a < n) : tw_q a < n := by
  unfold tw_q
  (repeat' split) <;> omega
theorem tw_t_inj {G : tG} {a b : Nat} (h : tw_t G a = tw_t G b) : a = b := by
  unfold tw_t at h
  split at h
  · rw [← tw_qp a, h, tw_qp]
  · exact h
theorem tw_t_ge {G : tG} {a : Nat} (h : tw_fg G a) : tw_t G a = a := by
  unfold tw_t
  split
  · next q => exact tw_p_ge (h q)
  · rfl
theorem tw_t_lt {G : tG} {a n : Nat} (h : tw_fg G n) (ha : a < n) : tw_t G a < n := by
  unfold tw_t
  split
  · next q => exact tw_p_lt (h q) ha
  · exact ha
theorem tw_t_on {G : tG} {b n : Nat} (h : tw_fg G n) (hb : b < n) : ∃ a, a < n ∧ tw_t G a = b := by
  unfold tw_t
  split
  · next q => exact ⟨tw_q b, tw_q_lt (h q) hb, tw_pq b⟩
  · exact ⟨b, hb, rfl⟩
def tw_v (G : tG) : tV → Value
  | .inl z => .int (Int32.ofInt z)
  | .inr (.inl r) => va_rf (r.map (tw_ad G))
  | .inr (.inr z) => .long (Int64.ofInt z)
def tw_fv (G : tG) (h : tH) (a k : Nat) : Value := if tRef (h.1 a).1 k = true then va_rf ((h.2.2.1 a (k : Int)).map (tw_ad G)) else .int (Int32.ofInt (h.2.1 a (k : Int)))
def tw_c (G : tG) (h : tH) (a : Nat) : va_E :=
  if (h.1 a).1 < 13 then .inr ((h.1 a).1, (List.range (h.1 a).2).map (tw_fv G h a))
  else .inl (G.2.1 (h.1 a).1, (h.1 a).2, if (h.1 a).1 < 16 then .inl (fun j => Int32.ofInt (h.2.1 a (j : Int))) else .inr (.inr (.inr (.inr (fun j => (h.2.2.1 a (j : Int)).map (tw_ad G))))))
def tw_ws (G : tG) (h : tH) : va_W := (List.range h.2.2.2).map fun a => (tw_ad G a, tw_c G h a)
def tw_A (G : tG) : Nat → Prop := fun q => G.2.2.1 ≤ q
def tw_tys (G : tG) : List (ClassId × FieldType) := [(G.2.1 13, .byte), (G.2.1 14, .int), (G.2.1 15, .boolean), (G.2.1 16, .object "TwinTools$Hand"), (G.2.1 17, .object "TwinTools$Valley"), (G.2.1 18, .array .int)]
def tw_tbl : List Cond := lw_tbl.filter goodWord
theorem tw_in {w : Cond} (i : Nat) (h : lw_tbl[i]? = some w) (g : goodWord w = true) : w ∈ tw_tbl := List.mem_filter.mpr ⟨List.mem_of_getElem? h, g⟩
def tw_Str (G : tG) (U : State) : Prop := vk_S 6 sLen sByt G.2.2.2.1 G.2.2.2.2.1 (tw_A G) U U.heap ∧ (∀ q ∈ sTab, vk_R q.1 q.2.1 q.2.2.1 (G.2.2.2.1 q.2.2.2) U) ∧ va_Z "java/lang/String" "COMPACT_STRINGS" "Z" (.int 1) (tw_A G) U U.heap ∧ ∃ r : Option Nat, va_Z "jdk/internal/util/Preconditions" "SIOOBE_FORMATTER" "Ljava/util/function/BiFunction;" (va_rf r) (tw_A G) U U.heap
def tw_U (G : tG) (U : State) : Prop := va_K G.1 tCl (tw_tys G) U ∧ tw_Str G U ∧ (∀ q ∈ castL, va_Nw (.castable q.1 q.2) U) ∧ (∀ q ∈ ncL, va_Nc q.1 q.2 U) ∧ va_AO "TwinTools$Hand" U ∧ va_AO "TwinTools$Valley" U ∧ tw_AOA U
def tw_rm (d mc ms : Nat) : Room := { frames := d, cells := mc, slots := ms, locals := 64 * d }
def tw_wds (M : tM) : List Cond := Cond.code M.1 M.2.1 M.2.2.1 M.2.2.2.1 :: tw_tbl
def ilen : Instr → Nat
  | .aload _ | .iload _ | .lload _ | .astore _ | .istore _ | .lstore _ | .bipush _ | .ldc _ | .newarray _ => 2
  | .sipush _ | .getfield _ | .putfield _ | .getstatic _ | .invokevirtual _ | .invokespecial _ | .invokestatic _ | .new _ | .anewarray _ | .checkcast _ | .instanceof _ | .goto _ | .if_icmp _ _ | .ifCond _ _ | .if_acmp _ _ | .ifnull _ | .ifnonnull _ | .iinc _ _ | .ldc_w _ | .ldc2_w _ => 3
  | .multianewarray _ _ => 4
  | .tableswitch _ _ _ _ | .lookupswitch _ _ => 0
  | _ => 1
def ioff : Instr → Option Int
  | .goto o | .if_icmp _ o | .ifCond _ o | .if_acmp _ o | .ifnull o | .ifnonnull o => some o
  | _ => none
def tw_okI (cc : ByteArray) (q : tJ) : Bool := decide (decode cc q.1 = .ok (q.2.1, q.2.2.1 - q.1)) && (decide (ilen q.2.1 = 0) || decide (q.2.2.1 = q.1 + ilen q.2.1)) && (match ioff q.2.1 with | some o => decide ((q.1 : Int) + o = (q.2.2.2 : Int)) | none => true)
/-- the fixed things of one run of a method's body -/
def tw_X (l : Launch) (G : tG) (M : tM) (n0 mc : Nat) (p : Program) (s : State) (m : MethodId) (args : Array Value) (meth : Method) (c : Code) : Prop :=
  p.tables.exec = Jvm.exec ∧ c.code = M.2.1 ∧ meth.sig.returnType = M.2.2.2.1 ∧ c.maxLocals = M.2.2.1 ∧ s.vm.findClass M.1.cls = some m.cls ∧ (∀ w ∈ tw_wds M, w.before args s = true) ∧ tw_U G s ∧ meth.locks = false ∧ s.heap.size = G.2.2.1 + n0 ∧ (n0 + mc < 1000000 ∧ tw_fg G n0) ∧ meth.name = M.1.name ∧ ∀ q ∈ M.2.2.2.2, tw_okI M.2.1 q = true
def tw_Q (G : tG) (P : Option tV → tH → Prop) (mc : Nat) : Array Value → State → Outcome → State → Prop := fun _ st o t => ∃ (r : Option tV) (h : tH), o = .returned (r.map (tw_v G)) ∧ P r h ∧ va_P G.1 tCl (tw_ws G h) t.heap ∧ st.heap.size + mc = G.2.2.1 + h.2.2.2 ∧ va_F (tw_A G) st t
def tw_M (l : Launch) (G : tG) (d mc ms : Nat) (M : tM) (av : List tV) (h : tH) (P : Option tV → tH → Prop) : Prop :=
  Met l M.1 (tw_wds M) (tw_rm d mc ms) (va_Pc (av.map (tw_v G)) (fun U => va_P G.1 tCl (tw_ws G h) U.heap ∧ U.heap.size = G.2.2.1 + h.2.2.2 ∧ tw_U G U ∧ h.2.2.2 + mc < 1000000 ∧ tw_fg G h.2.2.2)) (tw_Q G P mc) mc ms (tw_A G)
abbrev tw_L (G : tG) (ls : List (Nat × tV)) : List (Nat × Value) := ls.map fun q => (q.1, tw_v G q.2)
def tw_AW (l : Launch) (G : tG) (M : tM) (d mc ms n0 c2 : Nat) (P : Option tV → tH → Prop) (pc : Nat) (ls : List (Nat × tV)) (st : List tV) (h : tH) : Prop :=
  ∀ (p : Program) (e : Env) (s : State) (m : MethodId) (args : Array Value) (below : List Frame) (meth : Method) (c : Code) (H : Heap) (locs : List Loc) (ls' : Array Slot),
    tw_X l G M n0 mc p s m args meth c → lv_has ls' M.2.2.1 (tw_L G ls) → va_P G.1 tCl (tw_ws G h) H → va_S (tw_A G) s.heap H locs → n0 ≤ h.2.2.2 → h.2.2.2 < 1000000 →
    W p l e (tw_rm d mc ms) s m args below meth c H locs (h.2.2.2 - n0) c2 (MQ below (tw_Q G P mc) args s mc ms (tw_A G)) (F0 m pc ls' (st.map (tw_v G)))
theorem tw_v_cat (G : tG) (v : tV) : (tw_v G v).category = tw_w v := by
  rcases v with z | r | z
  · rfl
  · cases r <;> rfl
  · rfl
theorem tw_ad_lt {G : tG} {a : Nat} (h : a < 1000000) : tw_ad G a = G.2.2.1 + tw_t G a := if_pos h
theorem tw_ws_get {G : tG} {h : tH} {a : Nat} (ha : a < h.2.2.2) : (tw_ws G h)[a]? = some (tw_ad G a, tw_c G h a) := by
  simp [tw_ws, ha]
theorem tw_ws_inv {G : tG} {h : tH} {k : Nat} {q : Nat × va_E} (hk : (tw_ws G h)[k]? = some q) : k < h.2.2.2 ∧ q = (tw_ad G k, tw_c G h k) := by
  simp only [tw_ws, List.getElem?_map, Option.map_eq_some_iff] at hk
  obtain ⟨a, h1, h2⟩ := hk
  obtain ⟨h3, h4⟩ := List.getElem?_eq_some_iff.mp h1
  rw [List.getElem_range] at h4
  rw [List.length_range] at h3
  subst h4
  exact ⟨h3, h2.symm⟩
theorem tw_ws_D {G : tG} {h : tH} (hn : h.2.2.2 < 1000000) : va_D (tw_A G) (tw_ws G h) := by
  refine ⟨fun i j p q hp hq e => ?_, fun k q hk => ?_⟩
  · obtain ⟨i1, i2⟩ := tw_ws_inv hp
    obtain ⟨j1, j2⟩ := tw_ws_inv hq
    rw [i2, j2] at e
    simp only [tw_ad_lt (G := G) (show i < 1000000 by omega), tw_ad_lt (G := G) (show j < 1000000 by omega)] at e
    exact tw_t_inj (G := G) (by omega)
  · obtain ⟨i1, i2⟩ := tw_ws_inv hk
    rw [i2]
    show G.2.2.1 ≤ tw_ad G k
    rw [tw_ad_lt (by omega)]
    omega
/-- another world of the same size: one cell is another -/
theorem tw_ws_set {G : tG} {h h' : tH} {a : Nat} {e : va_E} (hn : h'.2.2.2 = h.2.2.2) (ha : a < h.2.2.2) (he : tw_c G h' a = e) (ho : ∀ b, b ≠ a → tw_c G h' b = tw_c G h b) : (tw_ws G h).set a (tw_ad G a, e) = tw_ws G h' := by
  apply List.ext_getElem?
  intro k
  by_cases hk : k = a
  · subst hk
    rw [List.getElem?_set_self (by simp [tw_ws]; exact ha), tw_ws_get (by omega), he]
  · rw [List.getElem?_set_ne (fun q => hk q.symm)]
    simp only [tw_ws, List.getElem?_map, hn]
    by_cases hl : k < h.2.2.2
    · simp [hl, ho k hk]
    · simp [hl]
theorem tw_ws_push {G : tG} {h h' : tH} {e : va_E} (hn : h'.2.2.2 = h.2.2.2 + 1) (he : tw_c G h' h.2.2.2 = e) (ho : ∀ b, b < h.2.2.2 → tw_c G h' b = tw_c G h b) : tw_ws G h ++ [(tw_ad G h.2.2.2, e)] = tw_ws G h' := by
  unfold tw_ws
  rw [hn, List.range_succ, List.map_append, List.map_singleton, he]
  congr 1
  apply List.map_congr_left
  intro b hb
  rw [ho b (List.mem_range.mp hb)]
/-- the heap's size, by the count of what was made -/
theorem tw_size {p : Program} {l : Launch} {e : Env} {R : Room} {s : State} {m : MethodId} {args : Array Value} {below : List Frame} {meth : Method} {c : Code} {T : State} {locs : List Loc} {n0 slots : Nat} {G : tG} {h : tH}
    (X : Stand p l e R s m args below meth c T locs (h.2.2.2 - n0) slots) (hs : s.heap.size = G.2.2.1 + n0) (h0 : n0 ≤ h.2.2.2) (hg : tw_fg G h.2.2.2) (hn : h.2.2.2 < 1000000) (hP : va_P G.1 tCl (tw_ws G h) T.heap) (hz : s.heap.size ≤ T.heap.size) : T.heap.size = G.2.2.1 + h.2.2.2 := by
  have h1 := X.heapSize
  by_cases hq : h.2.2.2 = n0
  · omega
  · obtain ⟨a, a1, a2⟩ := tw_t_on hg (show h.2.2.2 - 1 < h.2.2.2 by omega)
    have h2 := (hP a _ (tw_ws_get a1)).lt
    have h3 : tw_ad G a < T.heap.size := h2
    rw [tw_ad_lt (by omega), a2] at h3
    omega
theorem tw_X.fg {l : Launch} {G : tG} {M : tM} {n0 mc n : Nat} {p : Program} {s : State} {m : MethodId} {args : Array Value} {meth : Method} {c : Code} (X : tw_X l G M n0 mc p s m args meth c) (h0 : n0 ≤ n) : tw_fg G n := fun q => Nat.le_trans (X.2.2.2.2.2.2.2.2.2.1.2 q) h0
theorem tw_U_vm {G : tG} {u U : State} (hv : U.vm = u.vm) (hh : U.heap = u.heap) (h : tw_U G u) : tw_U G U := by
  have ha : u.vm.Alike U.vm := by rw [hv]; exact Vm.Alike.refl _
  obtain ⟨h1, ⟨s1, s2, s3, r, s4⟩, h3, h4, h5, h6, h7⟩ := h
  refine ⟨h1.moved ha, ⟨by rw [hh]; exact s1.moved ha, fun q hq => vk_R.same hv (s2 q hq), by rw [hh]; exact s3.moved ha, r, by rw [hh]; exact s4.moved ha⟩, fun q hq => va_Nw.same rfl hv.symm (h3 q hq), fun q hq => (h4 q hq).moved ha, h5.moved ha, h6.moved ha, tw_AOA_same hv h7⟩
theorem tw_U_warm {G : tG} {s U : State} (hW : s.WarmedH U.vm) (hz : s.heap.size ≤ U.heap.size) (hq : ∀ a : Nat, a < s.heap.size → ¬ tw_A G a → U.heap[a]? = s.heap[a]?) (h : tw_U G s) : tw_U G U := by
  have ha := hW.alike
  obtain ⟨h1, ⟨s1, s2, s3, r, s4⟩, h3, h4, h5, h6, h7⟩ := h
  exact ⟨h1.moved ha, ⟨(s1.kept hq).moved ha, fun q hq => (s2 q hq).warm hW, (s3.kept hq).moved ha, r, (s4.kept hq).moved ha⟩, fun q hq => (h3 q hq).warmC hW, fun q hq => (h4 q hq).moved ha, h5.moved ha, h6.moved ha, tw_AOA_moved ha h7⟩
