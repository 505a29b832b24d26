/-! THE START: what the tables and the premises say of the machine -/
def ztm (i : Nat) : Term := .string "TwinTools$Valley" (([74, 119, 111, 117, 84, 86] : List Nat).getD i 0)
abbrev zfl : List Cond := flatC (Jvm.Cond.and given_1 narrow_1)
theorem z_m1 : ∀ i, i < 6 → Cond.exactly (ztm i) "java/lang/String" ∈ zfl := by decide +kernel
theorem z_m2 : ∀ i, i < 6 → Cond.eq (.field (ztm i) "java/lang/String" "coder" "B") (.int 0) ∈ zfl := by decide +kernel
theorem z_m3 : ∀ i, i < 6 → Cond.arrayOf (.field (ztm i) "java/lang/String" "value" "[B") .byte ∈ zfl := by decide +kernel
theorem z_m4 : ∀ i, i < 6 → Cond.eq (.length (.field (ztm i) "java/lang/String" "value" "[B")) (.int (Int32.ofNat (sLen.getD i 0))) ∈ zfl := by decide +kernel
theorem z_m5 : ∀ i, i < 6 → ∀ j, j < sLen.getD i 0 → Cond.eq (.elem (.field (ztm i) "java/lang/String" "value" "[B") (.int (Int32.ofNat j))) (.int ((sByt.getD i []).getD j 0)) ∈ zfl := by decide +kernel
theorem z_m6 : ∀ i, i < 6 → ∀ j, j < 6 → i ≠ j → Cond.not (Cond.eq (ztm i) (ztm j)) ∈ zfl ∨ Cond.not (Cond.eq (ztm j) (ztm i)) ∈ zfl := by decide +kernel
theorem z_cast : ∀ q ∈ castL, Cond.castable q.1 q.2 ∈ lw_tbl := by decide +kernel
theorem z_nc : ∀ q ∈ ncL, Cond.not (.castable q.1 q.2) ∈ zfl := by decide +kernel
theorem z_sr : ∀ q ∈ sTab, Cond.stringRef q.1 q.2.1 q.2.2.1 ∈ lw_tbl := by decide +kernel
theorem z_arr {args : Array Value} {s : State} {ty : FieldType} (h : (Cond.arrayClass ty).before args s = true) : ∃ cA, ArrOfT s cA ty ∧ s.vm.findClass ("[" ++ ty.toString) = some cA := by
  obtain ⟨cA, kA, comp, h1, h2, h3⟩ := Cond.arrayClass_spec h
  exact ⟨cA, fun n z => ⟨fun k h => (by cases h), kA, h2, comp, h3⟩, h1⟩
theorem z_U {p : Program} {s : State} {m : MethodId} {meth : Method} {c : Code} {b L : Nat} {xs : Nat → Int32} (C0 : lw_At p s m meth c b L xs) : ∃ G : tG, tw_U G s ∧ s.heap.size = G.2.2.1 ∧ G.2.2.2.2.2 = false := by
  obtain ⟨-, -, -, -, -, hts, -, -, -, hgv⟩ := C0
  have hs : ∀ w ∈ zfl, w.before #[Value.ref b] s = true := flat_of_before _ hgv
  have hw : ∀ w ∈ tw_tbl, w.before #[Value.ref b] s = true := fun w h => hts w (List.mem_filter.mp h).1
  have hk : ∀ k : Nat, ∃ q : ClassId × (Nat → Nat), ∀ r : vw_C, tCl[k]? = some r → u_Kn s r.1 r.2.1 r.2.2 q.1 q.2 := by
    intro k
    cases hc : tCl[k]? with
    | none => exact ⟨(m.cls, fun _ => 0), fun r h => by cases h⟩
    | some r =>
      obtain ⟨C, T, N⟩ := r
      obtain ⟨z1, -, -, z4, -⟩ := tw_cls hc
      obtain ⟨cC, iS, h⟩ := u_known (n := N) hw z1 (hw _ z4)
      exact ⟨(cC, iS), fun r hr => by cases hr; exact h⟩
  obtain ⟨dD, hD⟩ := Classical.axiomOfChoice hk
  obtain ⟨c13, a13, n13⟩ := z_arr (ty := .byte) (hts (.arrayClass .byte) (by decide +kernel))
  obtain ⟨c14, a14, n14⟩ := z_arr (ty := .int) (hts (.arrayClass .int) (by decide +kernel))
  obtain ⟨c15, a15, n15⟩ := z_arr (ty := .boolean) (hts (.arrayClass .boolean) (by decide +kernel))
  have o16 := hts (.arrayOver (.object "TwinTools$Hand")) (by decide +kernel)
  have o17 := hts (.arrayOver (.object "TwinTools$Valley")) (by decide +kernel)
  have o18 := hts (.arrayOver (.array .int)) (by decide +kernel)
  obtain ⟨p16, c16, k16, x1, x2, x3, x4, x5⟩ := Cond.arrayOver_spec o16
  obtain ⟨p17, c17, k17, y1, y2, y3, y4, y5⟩ := Cond.arrayOver_spec o17
  have w18 : tw_AOA s := arrayOverA_spec o18
  obtain ⟨p18, c18, k18, u1, u2, u3, u4, u5⟩ := id w18
  have hA : ∀ a : Nat, a < s.heap.size → ¬ (fun q : Nat => s.heap.size ≤ q) a := fun a h1 h2 => by
    have h2 : s.heap.size ≤ a := h2
    omega
  obtain ⟨adK, adV, hvk, hev⟩ := vk_Sof (args := #[Value.ref b]) (s := s) (A := fun q : Nat => s.heap.size ≤ q) (N := 6) (tm := ztm) (len := sLen) (byt := sByt) (by decide) (fun i hi => hs _ (z_m1 i hi)) (fun i hi => hs _ (z_m2 i hi)) (fun i hi => hs _ (z_m3 i hi)) (fun i hi => hs _ (z_m4 i hi)) (fun i hi j hj => hs _ (z_m5 i hi j hj)) (fun i j hi hj hij => (z_m6 i hi j hj hij).imp (hs _) (hs _)) hA
  refine ⟨((fun k => (dD k).1, fun k => (dD k).2), fun k => [c13, c14, c15, c16, c17, c18].getD (k - 13) c13, s.heap.size, adK, adV, false), ⟨⟨fun c q hq => hD c q hq, fun k q hq => ?_⟩, ⟨hvk, fun q hq => ?_, ?_, ?_⟩, fun q hq => va_Nw.of rfl (hts _ (z_cast q hq)), fun q hq => va_Nc.of (hs _ (z_nc q hq)), va_AO.of o16, va_AO.of o17, w18⟩, rfl, rfl⟩
  · have hl : k < 6 := (List.getElem?_eq_some_iff.mp hq).1
    match k, hl with
    | 0, _ => cases hq; exact ⟨a13, n13⟩
    | 1, _ => cases hq; exact ⟨a14, n14⟩
    | 2, _ => cases hq; exact ⟨a15, n15⟩
    | 3, _ => cases hq; exact ⟨fun n z => ⟨fun k h => (by cases h), k16, x3, p16, x4⟩, k16, p16, x3, x4, x1, x5⟩
    | 4, _ => cases hq; exact ⟨fun n z => ⟨fun k h => (by cases h), k17, y3, p17, y4⟩, k17, p17, y3, y4, y1, y5⟩
    | 5, _ => cases hq; exact ⟨fun n z => ⟨fun k h => (by cases h), k18, u3, p18, u4⟩, u5⟩
  · have hr := hts _ (z_sr q hq)
    simp only [sTab, List.mem_cons, List.not_mem_nil, or_false] at hq
    rcases hq with rfl | rfl | rfl | rfl | rfl | rfl | rfl | rfl | rfl | rfl | rfl
    · exact vk_R.of hr (hev 0 (by decide))
    · exact vk_R.of hr (hev 1 (by decide))
    · exact vk_R.of hr (hev 2 (by decide))
    · exact vk_R.of hr (hev 3 (by decide))
    · exact vk_R.of hr (hev 4 (by decide))
    · exact vk_R.of hr (hev 5 (by decide))
    · exact vk_R.of hr (va_eqR (hs (Cond.eq (ztm 0) (.string "TwinToolsModel" 102)) (by decide +kernel)) (hev 0 (by decide)))
    · exact vk_R.of hr (va_eqR (hs (Cond.eq (ztm 2) (.string "TwinToolsModel" 84)) (by decide +kernel)) (hev 2 (by decide)))
    · exact vk_R.of hr (va_eqR (hs (Cond.eq (ztm 3) (.string "TwinToolsModel" 90)) (by decide +kernel)) (hev 3 (by decide)))
    · exact vk_R.of hr (va_eqR (hs (Cond.eq (ztm 4) (.string "TwinToolsModel" 108)) (by decide +kernel)) (hev 4 (by decide)))
    · exact vk_R.of hr (va_eqR (hs (Cond.eq (ztm 5) (.string "TwinToolsModel" 110)) (by decide +kernel)) (hev 5 (by decide)))
  · exact va_Zof (hts (.laysStatic "java/lang/String" "COMPACT_STRINGS" "Z") (by decide +kernel)) (hts (.initialized "java/lang/String") (by decide +kernel)) (va_eqt (hs (Cond.eq (.static "java/lang/String" "COMPACT_STRINGS" "Z") (.int 1)) (by decide +kernel))) hA
  · rcases va_Zqof (hts (.laysStatic "jdk/internal/util/Preconditions" "SIOOBE_FORMATTER" "Ljava/util/function/BiFunction;") (by decide +kernel)) (hts (.initialized "jdk/internal/util/Preconditions") (by decide +kernel)) (hs (Cond.isRef (.static "jdk/internal/util/Preconditions" "SIOOBE_FORMATTER" "Ljava/util/function/BiFunction;")) (by decide +kernel)) hA with h | ⟨t, h⟩
    · exact ⟨none, h⟩
    · exact ⟨some t, h⟩
