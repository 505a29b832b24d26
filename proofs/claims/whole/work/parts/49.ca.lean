/-- what ran since, of the class -/
def tc (I J : Nat → Int → Int) (L : List Int) : Prop := J 61 1 = (L.length : Int) ∧ (∀ i : Nat, i < L.length → J 62 (i : Int) = L.getD i 0) ∧ (∀ b, b ≠ 61 → b ≠ 62 → J b = I b)
theorem tc.f {I J : Nat → Int → Int} {L : List Int} {a : Nat} {k z : Int} (h : tc I J L) (ha : 78 ≤ a) (e : I a k = z) : J a k = z := by rw [h.2.2 a (by omega) (by omega)]; exact e
theorem tc_push {I J : Nat → Int → Int} {L : List Int} {b : Int} (h : tc I J L) : tc I (uI (uI J 62 (L.length : Int) b) 61 1 ((L.length : Int) + 1)) (L ++ [b]) := by
  obtain ⟨h1, h2, h3⟩ := h
  refine ⟨by rw [uI_at, if_pos rfl]; simp, fun i hi => ?_, fun c c1 c2 => ?_⟩
  · rw [uI_off _ _ _ (by decide), uI_at]
    simp only [List.length_append, List.length_cons, List.length_nil] at hi
    by_cases g : i = L.length
    · subst g
      rw [if_pos rfl]
      simp
    · rw [if_neg (by omega), h2 i (by omega)]
      simp [List.getElem?_append_left (show i < L.length by omega)]
  · rw [uI_off _ _ _ c1, uI_off _ _ _ c2]; exact h3 c c1 c2
section CA
variable {l : Launch} {G : tG} {K : Nat → Nat × Nat} {I J : Nat → Int → Int} {Q : Nat → Int → Option Nat} {n : Nat} {L : List Int} {i v : Int} {s : Int → Int}
theorem c_C_begin {b : Int} (hS : tSt (K, J, Q, n)) (hk : tc I J L) (hL : L.length < 20) : tw_M l G 1 0 0 mC_begin [vr (some 61), vi b] (K, J, Q, n) (fun r h' => r = none ∧ ∃ L2, h' = (K, L2, Q, n) ∧ tc I L2 (L ++ [b])) := by
  refine tw_intro okC_begin (Nat.le_of_ble_eq_true rfl) ?_
  refine ar_aloadn (k := 0) rfl rfl ?_
  refine br_getIz (k := 1) (z := 1) rfl (hS.k (by decide)) flC_15_8 (by decide) rfl rfl ?_
  refine tw_top (y := (L.length : Int)) (by exact hk.1) ?_
  refine ar_bipush (k := 2) rfl (by decide) ?_
  refine ar_icmp_ge (k := 3) rfl (by omega) (by omega) (fun c3 => ?_) (fun c3 => ?_)
  · refine ar_aloadn (k := 10) rfl rfl ?_
    refine ar_dup (k := 11) rfl rfl ?_
    refine br_getIz (k := 12) (z := 1) rfl (hS.k (by decide)) flC_15_8 (by decide) rfl rfl ?_
    refine tw_top (y := (L.length : Int)) (by first | (exfalso; omega) | (rw [uI_off _ _ _ (by decide)]; exact hk.1) | exact hk.1) ?_
    refine ar_iconst (k := 13) rfl ?_
    refine ar_iadd (k := 14) rfl ?_
    refine br_putIz (k := 15) (z := 1) rfl (hS.k (by decide)) flC_15_8 (by decide) rfl (fun _ _ _ q => by cases q; exact ⟨rfl, rfl⟩) rfl ?_
    refine ar_ret (k := 16) rfl rfl rfl (Nat.le_refl _) ?_
    first
      | (exfalso; omega)
      | exact ⟨rfl, _, rfl, tc_push hk⟩
  · refine ar_aloadn (k := 4) rfl rfl ?_
    refine br_getR (k := 5) rfl (hS.k (by decide)) flC_9_8 (by decide) rfl (hS.r rfl) ?_
    refine ar_aloadn (k := 6) rfl rfl ?_
    refine br_getIz (k := 7) (z := 1) rfl (hS.k (by decide)) flC_15_8 (by decide) rfl rfl ?_
    refine tw_top (y := (L.length : Int)) (by exact hk.1) ?_
    refine ar_iloadn (k := 8) rfl rfl ?_
    refine br_iast (k := 9) rfl (hS.k (by decide)) (by omega) (by omega) (by decide) ?_
    refine ar_aloadn (k := 10) rfl rfl ?_
    refine ar_dup (k := 11) rfl rfl ?_
    refine br_getIz (k := 12) (z := 1) rfl (hS.k (by decide)) flC_15_8 (by decide) rfl rfl ?_
    refine tw_top (y := (L.length : Int)) (by first | (exfalso; omega) | (rw [uI_off _ _ _ (by decide)]; exact hk.1) | exact hk.1) ?_
    refine ar_iconst (k := 13) rfl ?_
    refine ar_iadd (k := 14) rfl ?_
    refine br_putIz (k := 15) (z := 1) rfl (hS.k (by decide)) flC_15_8 (by decide) rfl (fun _ _ _ q => by cases q; exact ⟨rfl, rfl⟩) rfl ?_
    refine ar_ret (k := 16) rfl rfl rfl (Nat.le_refl _) ?_
    first
      | (exfalso; omega)
      | exact ⟨rfl, _, rfl, tc_push hk⟩
theorem c_H_lifts_H {x : Int} {a : Nat} (hS : tSt (K, J, Q, n)) (hk : tc I J L) (hKa : tK (K, J, Q, n) a (2, 4)) (ha : 78 ≤ a) (ha1 : I a 1 = i) (ha2 : I a 2 = v) (hL : L.length ≤ 19) : tw_M l G 2 0 0 mH_lifts [vr (some a), vi x, vr (some 61)] (K, J, Q, n) (fun r h' => r = some (vi (x + i)) ∧ ∃ L2, h' = (K, L2, Q, n) ∧ tc I L2 (L ++ [1])) := by
  have hl1 := aL_len 0 i x
  have hl2 := aL_len 0 i 2
  have hl3 := aW0_len 0 i v x
  have hl4 := aW_len 0 i v x
  have hl5 := aT0_len 0 i v (x - 1)
  refine tw_intro okH_lifts (Nat.le_of_ble_eq_true rfl) ?_
  refine ar_aloadn (k := 0) rfl rfl ?_
  refine ar_iconst (k := 1) rfl ?_
  refine ar_callV (k := 2) (as := [_]) rfl lvH_55 (hS.k (by decide)) rfl (c_C_begin hS hk (by first | omega | (simp only [List.length_append, List.length_cons, List.length_nil]; omega))) rfl (by decide) (by decide) tw_m0 (Nat.le_of_ble_eq_true rfl) (fun r2 h2 p2 => ?_)
  obtain ⟨rfl, I2, rfl, hk2⟩ := p2
  refine ar_iloadn (k := 3) rfl rfl ?_
  refine ar_aloadn (k := 4) rfl rfl ?_
  refine br_getIz (k := 5) (z := 1) rfl hKa flH_15_2 (by decide) rfl rfl ?_
  refine tw_top (hk2.f ha ha1) ?_
  refine ar_iadd (k := 6) rfl ?_
  refine ar_iret (k := 7) rfl rfl rfl (Nat.le_refl _) ?_
  refine ⟨congrArg (fun z => some (vi z)) (by rfl), _, rfl, ?_⟩
  have e := hk2
  try simp only [List.append_assoc, List.cons_append, List.nil_append] at e
  exact e
theorem c_H_waits_H {x : Int} {a : Nat} (hS : tSt (K, J, Q, n)) (hk : tc I J L) (hKa : tK (K, J, Q, n) a (2, 4)) (ha : 78 ≤ a) (ha1 : I a 1 = i) (ha2 : I a 2 = v) (hL : L.length ≤ 17) : tw_M l G 4 0 0 mH_waits [vr (some a), vi x, vr (some 61)] (K, J, Q, n) (fun r h' => r = some (vi ((aW0 0 i v x).1)) ∧ ∃ L2, h' = (K, L2, Q, n) ∧ tc I L2 (L ++ (aW0 0 i v x).2)) := by
  have hl1 := aL_len 0 i x
  have hl2 := aL_len 0 i 2
  have hl3 := aW0_len 0 i v x
  have hl4 := aW_len 0 i v x
  have hl5 := aT0_len 0 i v (x - 1)
  refine tw_intro okH_waits (Nat.le_of_ble_eq_true rfl) ?_
  refine ar_aloadn (k := 0) rfl rfl ?_
  refine ar_iconst (k := 1) rfl ?_
  refine ar_callV (k := 2) (as := [_]) rfl lvH_55 (hS.k (by decide)) rfl (c_C_begin hS hk (by first | omega | (simp only [List.length_append, List.length_cons, List.length_nil]; omega))) rfl (by decide) (by decide) tw_m0 (Nat.le_of_ble_eq_true rfl) (fun r2 h2 p2 => ?_)
  obtain ⟨rfl, I2, rfl, hk2⟩ := p2
  refine ar_aloadn (k := 3) rfl rfl ?_
  refine ar_iloadn (k := 4) rfl rfl ?_
  refine ar_aloadn (k := 5) rfl rfl ?_
  refine ar_callU (k := 6) (as := [_, _]) rfl lvH_61_H hKa rfl (c_H_lifts_H hS hk2 hKa ha ha1 ha2 (by first | omega | (simp only [List.length_append, List.length_cons, List.length_nil]; omega))) rfl (by decide) (by decide) tw_m0 (Nat.le_of_ble_eq_true rfl) (fun r6 h6 p6 => ?_)
  obtain ⟨rfl, I6, rfl, hk6⟩ := p6
  refine ar_aloadn (k := 7) rfl rfl ?_
  refine br_getIz (k := 8) (z := 2) rfl hKa flH_18_2 (by decide) rfl rfl ?_
  refine tw_top (hk6.f ha ha2) ?_
  refine ar_isub (k := 9) rfl ?_
  refine ar_iret (k := 10) rfl rfl rfl (Nat.le_refl _) ?_
  refine ⟨congrArg (fun z => some (vi z)) (by rfl), _, rfl, ?_⟩
  have e := hk6
  try simp only [List.append_assoc, List.cons_append, List.nil_append] at e
  exact e
theorem c_H_tells_H {x : Int} {a : Nat} (hS : tSt (K, J, Q, n)) (hk : tc I J L) (hKa : tK (K, J, Q, n) a (2, 4)) (ha : 78 ≤ a) (ha1 : I a 1 = i) (ha2 : I a 2 = v) (hL : L.length ≤ 15) : tw_M l G 6 0 0 mH_tells [vr (some a), vi x, vr (some 61)] (K, J, Q, n) (fun r h' => r = some (vi ((aT0 0 i v x).1)) ∧ ∃ L2, h' = (K, L2, Q, n) ∧ tc I L2 (L ++ (aT0 0 i v x).2)) := by
  have hl1 := aL_len 0 i x
  have hl2 := aL_len 0 i 2
  have hl3 := aW0_len 0 i v x
  have hl4 := aW_len 0 i v x
  have hl5 := aT0_len 0 i v (x - 1)
  refine tw_intro okH_tells (Nat.le_of_ble_eq_true rfl) ?_
  refine ar_aloadn (k := 0) rfl rfl ?_
  refine ar_iconst (k := 1) rfl ?_
  refine ar_callV (k := 2) (as := [_]) rfl lvH_55 (hS.k (by decide)) rfl (c_C_begin hS hk (by first | omega | (simp only [List.length_append, List.length_cons, List.length_nil]; omega))) rfl (by decide) (by decide) tw_m0 (Nat.le_of_ble_eq_true rfl) (fun r2 h2 p2 => ?_)
  obtain ⟨rfl, I2, rfl, hk2⟩ := p2
  refine ar_aloadn (k := 3) rfl rfl ?_
  refine ar_iloadn (k := 4) rfl rfl ?_
  refine ar_aloadn (k := 5) rfl rfl ?_
  refine ar_callU (k := 6) (as := [_, _]) rfl lvH_65_H hKa rfl (c_H_waits_H hS hk2 hKa ha ha1 ha2 (by first | omega | (simp only [List.length_append, List.length_cons, List.length_nil]; omega))) rfl (by decide) (by decide) tw_m0 (Nat.le_of_ble_eq_true rfl) (fun r6 h6 p6 => ?_)
  obtain ⟨rfl, I6, rfl, hk6⟩ := p6
  refine ar_iconst (k := 7) rfl ?_
  refine ar_imul (k := 8) rfl ?_
  refine ar_iret (k := 9) rfl rfl rfl (Nat.le_refl _) ?_
  refine ⟨congrArg (fun z => some (vi z)) (by rfl), _, rfl, ?_⟩
  have e := hk6
  try simp only [List.append_assoc, List.cons_append, List.nil_append] at e
  exact e
theorem c_H_lifts_B {x : Int} {a : Nat} (hS : tSt (K, J, Q, n)) (hk : tc I J L) (hKa : tK (K, J, Q, n) a (0, 4)) (ha : 78 ≤ a) (ha1 : I a 1 = i) (ha2 : I a 2 = v) (hL : L.length ≤ 19) : tw_M l G 2 0 0 mH_lifts [vr (some a), vi x, vr (some 61)] (K, J, Q, n) (fun r h' => r = some (vi (x + i)) ∧ ∃ L2, h' = (K, L2, Q, n) ∧ tc I L2 (L ++ [1])) := by
  have hl1 := aL_len 1 i x
  have hl2 := aL_len 1 i 2
  have hl3 := aW0_len 1 i v x
  have hl4 := aW_len 1 i v x
  have hl5 := aT0_len 1 i v (x - 1)
  refine tw_intro okH_lifts (Nat.le_of_ble_eq_true rfl) ?_
  refine ar_aloadn (k := 0) rfl rfl ?_
  refine ar_iconst (k := 1) rfl ?_
  refine ar_callV (k := 2) (as := [_]) rfl lvH_55 (hS.k (by decide)) rfl (c_C_begin hS hk (by first | omega | (simp only [List.length_append, List.length_cons, List.length_nil]; omega))) rfl (by decide) (by decide) tw_m0 (Nat.le_of_ble_eq_true rfl) (fun r2 h2 p2 => ?_)
  obtain ⟨rfl, I2, rfl, hk2⟩ := p2
  refine ar_iloadn (k := 3) rfl rfl ?_
  refine ar_aloadn (k := 4) rfl rfl ?_
  refine br_getIz (k := 5) (z := 1) rfl hKa flH_15_0 (by decide) rfl rfl ?_
  refine tw_top (hk2.f ha ha1) ?_
  refine ar_iadd (k := 6) rfl ?_
  refine ar_iret (k := 7) rfl rfl rfl (Nat.le_refl _) ?_
  refine ⟨congrArg (fun z => some (vi z)) (by rfl), _, rfl, ?_⟩
  have e := hk2
  try simp only [List.append_assoc, List.cons_append, List.nil_append] at e
  exact e
theorem c_B_lifts_B {x : Int} {a : Nat} (hS : tSt (K, J, Q, n)) (hk : tc I J L) (hKa : tK (K, J, Q, n) a (0, 4)) (ha : 78 ≤ a) (ha1 : I a 1 = i) (ha2 : I a 2 = v) (hL : L.length ≤ 18) : tw_M l G 3 0 0 mB_lifts [vr (some a), vi x, vr (some 61)] (K, J, Q, n) (fun r h' => r = some (vi ((aL 1 i x).1)) ∧ ∃ L2, h' = (K, L2, Q, n) ∧ tc I L2 (L ++ (aL 1 i x).2)) := by
  have hl1 := aL_len 1 i x
  have hl2 := aL_len 1 i 2
  have hl3 := aW0_len 1 i v x
  have hl4 := aW_len 1 i v x
  have hl5 := aT0_len 1 i v (x - 1)
  refine tw_intro okB_lifts (Nat.le_of_ble_eq_true rfl) ?_
  refine ar_aloadn (k := 0) rfl rfl ?_
  refine ar_bipush (k := 1) rfl (by decide) ?_
  refine ar_callV (k := 2) (as := [_]) rfl lvB_28 (hS.k (by decide)) rfl (c_C_begin hS hk (by first | omega | (simp only [List.length_append, List.length_cons, List.length_nil]; omega))) rfl (by decide) (by decide) tw_m0 (Nat.le_of_ble_eq_true rfl) (fun r2 h2 p2 => ?_)
  obtain ⟨rfl, I2, rfl, hk2⟩ := p2
  refine ar_aloadn (k := 3) rfl rfl ?_
  refine ar_iloadn (k := 4) rfl rfl ?_
  refine ar_iconst (k := 5) rfl ?_
  refine ar_imul (k := 6) rfl ?_
  refine ar_aloadn (k := 7) rfl rfl ?_
  refine ar_callP (k := 8) (as := [_, _]) rfl lpB_34 hKa rfl (c_H_lifts_B hS hk2 hKa ha ha1 ha2 (by first | omega | (simp only [List.length_append, List.length_cons, List.length_nil]; omega))) rfl (by decide) (by decide) tw_m0 (Nat.le_of_ble_eq_true rfl) (fun r8 h8 p8 => ?_)
  obtain ⟨rfl, I8, rfl, hk8⟩ := p8
  refine ar_iret (k := 9) rfl rfl rfl (Nat.le_refl _) ?_
  refine ⟨congrArg (fun z => some (vi z)) (by rfl), _, rfl, ?_⟩
  have e := hk8
  try simp only [List.append_assoc, List.cons_append, List.nil_append] at e
  exact e
theorem c_H_waits_B {x : Int} {a : Nat} (hS : tSt (K, J, Q, n)) (hk : tc I J L) (hKa : tK (K, J, Q, n) a (0, 4)) (ha : 78 ≤ a) (ha1 : I a 1 = i) (ha2 : I a 2 = v) (hL : L.length ≤ 17) : tw_M l G 4 0 0 mH_waits [vr (some a), vi x, vr (some 61)] (K, J, Q, n) (fun r h' => r = some (vi ((aW0 1 i v x).1)) ∧ ∃ L2, h' = (K, L2, Q, n) ∧ tc I L2 (L ++ (aW0 1 i v x).2)) := by
  have hl1 := aL_len 1 i x
  have hl2 := aL_len 1 i 2
  have hl3 := aW0_len 1 i v x
  have hl4 := aW_len 1 i v x
  have hl5 := aT0_len 1 i v (x - 1)
  refine tw_intro okH_waits (Nat.le_of_ble_eq_true rfl) ?_
  refine ar_aloadn (k := 0) rfl rfl ?_
  refine ar_iconst (k := 1) rfl ?_
  refine ar_callV (k := 2) (as := [_]) rfl lvH_55 (hS.k (by decide)) rfl (c_C_begin hS hk (by first | omega | (simp only [List.length_append, List.length_cons, List.length_nil]; omega))) rfl (by decide) (by decide) tw_m0 (Nat.le_of_ble_eq_true rfl) (fun r2 h2 p2 => ?_)
  obtain ⟨rfl, I2, rfl, hk2⟩ := p2
  refine ar_aloadn (k := 3) rfl rfl ?_
  refine ar_iloadn (k := 4) rfl rfl ?_
  refine ar_aloadn (k := 5) rfl rfl ?_
  refine ar_callO (k := 6) (as := [_, _]) rfl lvH_61_B hKa rfl (c_B_lifts_B hS hk2 hKa ha ha1 ha2 (by first | omega | (simp only [List.length_append, List.length_cons, List.length_nil]; omega))) rfl (by decide) (by decide) tw_m0 (Nat.le_of_ble_eq_true rfl) (fun r6 h6 p6 => ?_)
  obtain ⟨rfl, I6, rfl, hk6⟩ := p6
  refine ar_aloadn (k := 7) rfl rfl ?_
  refine br_getIz (k := 8) (z := 2) rfl hKa flH_18_0 (by decide) rfl rfl ?_
  refine tw_top (hk6.f ha ha2) ?_
  refine ar_isub (k := 9) rfl ?_
  refine ar_iret (k := 10) rfl rfl rfl (Nat.le_refl _) ?_
  refine ⟨congrArg (fun z => some (vi z)) (by rfl), _, rfl, ?_⟩
  have e := hk6
  try simp only [List.append_assoc, List.cons_append, List.nil_append] at e
  exact e
theorem c_H_tells_B {x : Int} {a : Nat} (hS : tSt (K, J, Q, n)) (hk : tc I J L) (hKa : tK (K, J, Q, n) a (0, 4)) (ha : 78 ≤ a) (ha1 : I a 1 = i) (ha2 : I a 2 = v) (hL : L.length ≤ 15) : tw_M l G 6 0 0 mH_tells [vr (some a), vi x, vr (some 61)] (K, J, Q, n) (fun r h' => r = some (vi ((aT0 1 i v x).1)) ∧ ∃ L2, h' = (K, L2, Q, n) ∧ tc I L2 (L ++ (aT0 1 i v x).2)) := by
  have hl1 := aL_len 1 i x
  have hl2 := aL_len 1 i 2
  have hl3 := aW0_len 1 i v x
  have hl4 := aW_len 1 i v x
  have hl5 := aT0_len 1 i v (x - 1)
  refine tw_intro okH_tells (Nat.le_of_ble_eq_true rfl) ?_
  refine ar_aloadn (k := 0) rfl rfl ?_
  refine ar_iconst (k := 1) rfl ?_
  refine ar_callV (k := 2) (as := [_]) rfl lvH_55 (hS.k (by decide)) rfl (c_C_begin hS hk (by first | omega | (simp only [List.length_append, List.length_cons, List.length_nil]; omega))) rfl (by decide) (by decide) tw_m0 (Nat.le_of_ble_eq_true rfl) (fun r2 h2 p2 => ?_)
  obtain ⟨rfl, I2, rfl, hk2⟩ := p2
  refine ar_aloadn (k := 3) rfl rfl ?_
  refine ar_iloadn (k := 4) rfl rfl ?_
  refine ar_aloadn (k := 5) rfl rfl ?_
  refine ar_callU (k := 6) (as := [_, _]) rfl lvH_65_B hKa rfl (c_H_waits_B hS hk2 hKa ha ha1 ha2 (by first | omega | (simp only [List.length_append, List.length_cons, List.length_nil]; omega))) rfl (by decide) (by decide) tw_m0 (Nat.le_of_ble_eq_true rfl) (fun r6 h6 p6 => ?_)
  obtain ⟨rfl, I6, rfl, hk6⟩ := p6
  refine ar_iconst (k := 7) rfl ?_
  refine ar_imul (k := 8) rfl ?_
  refine ar_iret (k := 9) rfl rfl rfl (Nat.le_refl _) ?_
  refine ⟨congrArg (fun z => some (vi z)) (by rfl), _, rfl, ?_⟩
  have e := hk6
  try simp only [List.append_assoc, List.cons_append, List.nil_append] at e
  exact e
theorem c_H_lifts_O {x : Int} {a : Nat} (hS : tSt (K, J, Q, n)) (hk : tc I J L) (hKa : tK (K, J, Q, n) a (3, 4)) (ha : 78 ≤ a) (ha1 : I a 1 = i) (ha2 : I a 2 = v) (hL : L.length ≤ 19) : tw_M l G 2 0 0 mH_lifts [vr (some a), vi x, vr (some 61)] (K, J, Q, n) (fun r h' => r = some (vi (x + i)) ∧ ∃ L2, h' = (K, L2, Q, n) ∧ tc I L2 (L ++ [1])) := by
  have hl1 := aL_len 2 i x
  have hl2 := aL_len 2 i 2
  have hl3 := aW0_len 2 i v x
  have hl4 := aW_len 2 i v x
  have hl5 := aT0_len 2 i v (x - 1)
  refine tw_intro okH_lifts (Nat.le_of_ble_eq_true rfl) ?_
  refine ar_aloadn (k := 0) rfl rfl ?_
  refine ar_iconst (k := 1) rfl ?_
  refine ar_callV (k := 2) (as := [_]) rfl lvH_55 (hS.k (by decide)) rfl (c_C_begin hS hk (by first | omega | (simp only [List.length_append, List.length_cons, List.length_nil]; omega))) rfl (by decide) (by decide) tw_m0 (Nat.le_of_ble_eq_true rfl) (fun r2 h2 p2 => ?_)
  obtain ⟨rfl, I2, rfl, hk2⟩ := p2
  refine ar_iloadn (k := 3) rfl rfl ?_
  refine ar_aloadn (k := 4) rfl rfl ?_
  refine br_getIz (k := 5) (z := 1) rfl hKa flH_15_3 (by decide) rfl rfl ?_
  refine tw_top (hk2.f ha ha1) ?_
  refine ar_iadd (k := 6) rfl ?_
  refine ar_iret (k := 7) rfl rfl rfl (Nat.le_refl _) ?_
  refine ⟨congrArg (fun z => some (vi z)) (by rfl), _, rfl, ?_⟩
  have e := hk2
  try simp only [List.append_assoc, List.cons_append, List.nil_append] at e
  exact e
theorem c_H_waits_O {x : Int} {a : Nat} (hS : tSt (K, J, Q, n)) (hk : tc I J L) (hKa : tK (K, J, Q, n) a (3, 4)) (ha : 78 ≤ a) (ha1 : I a 1 = i) (ha2 : I a 2 = v) (hL : L.length ≤ 17) : tw_M l G 4 0 0 mH_waits [vr (some a), vi x, vr (some 61)] (K, J, Q, n) (fun r h' => r = some (vi ((aW0 2 i v x).1)) ∧ ∃ L2, h' = (K, L2, Q, n) ∧ tc I L2 (L ++ (aW0 2 i v x).2)) := by
  have hl1 := aL_len 2 i x
  have hl2 := aL_len 2 i 2
  have hl3 := aW0_len 2 i v x
  have hl4 := aW_len 2 i v x
  have hl5 := aT0_len 2 i v (x - 1)
  refine tw_intro okH_waits (Nat.le_of_ble_eq_true rfl) ?_
  refine ar_aloadn (k := 0) rfl rfl ?_
  refine ar_iconst (k := 1) rfl ?_
  refine ar_callV (k := 2) (as := [_]) rfl lvH_55 (hS.k (by decide)) rfl (c_C_begin hS hk (by first | omega | (simp only [List.length_append, List.length_cons, List.length_nil]; omega))) rfl (by decide) (by decide) tw_m0 (Nat.le_of_ble_eq_true rfl) (fun r2 h2 p2 => ?_)
  obtain ⟨rfl, I2, rfl, hk2⟩ := p2
  refine ar_aloadn (k := 3) rfl rfl ?_
  refine ar_iloadn (k := 4) rfl rfl ?_
  refine ar_aloadn (k := 5) rfl rfl ?_
  refine ar_callU (k := 6) (as := [_, _]) rfl lvH_61_O hKa rfl (c_H_lifts_O hS hk2 hKa ha ha1 ha2 (by first | omega | (simp only [List.length_append, List.length_cons, List.length_nil]; omega))) rfl (by decide) (by decide) tw_m0 (Nat.le_of_ble_eq_true rfl) (fun r6 h6 p6 => ?_)
  obtain ⟨rfl, I6, rfl, hk6⟩ := p6
  refine ar_aloadn (k := 7) rfl rfl ?_
  refine br_getIz (k := 8) (z := 2) rfl hKa flH_18_3 (by decide) rfl rfl ?_
  refine tw_top (hk6.f ha ha2) ?_
  refine ar_isub (k := 9) rfl ?_
  refine ar_iret (k := 10) rfl rfl rfl (Nat.le_refl _) ?_
  refine ⟨congrArg (fun z => some (vi z)) (by rfl), _, rfl, ?_⟩
  have e := hk6
  try simp only [List.append_assoc, List.cons_append, List.nil_append] at e
  exact e
theorem c_O_waits_O {x : Int} {a : Nat} (hS : tSt (K, J, Q, n)) (hk : tc I J L) (hKa : tK (K, J, Q, n) a (3, 4)) (ha : 78 ≤ a) (ha1 : I a 1 = i) (ha2 : I a 2 = v) (hL : L.length ≤ 16) : tw_M l G 5 0 0 mO_waits [vr (some a), vi x, vr (some 61)] (K, J, Q, n) (fun r h' => r = some (vi ((aW 2 i v x).1)) ∧ ∃ L2, h' = (K, L2, Q, n) ∧ tc I L2 (L ++ (aW 2 i v x).2)) := by
  have hl1 := aL_len 2 i x
  have hl2 := aL_len 2 i 2
  have hl3 := aW0_len 2 i v x
  have hl4 := aW_len 2 i v x
  have hl5 := aT0_len 2 i v (x - 1)
  refine tw_intro okO_waits (Nat.le_of_ble_eq_true rfl) ?_
  refine ar_aloadn (k := 0) rfl rfl ?_
  refine ar_bipush (k := 1) rfl (by decide) ?_
  refine ar_callV (k := 2) (as := [_]) rfl lvO_29 (hS.k (by decide)) rfl (c_C_begin hS hk (by first | omega | (simp only [List.length_append, List.length_cons, List.length_nil]; omega))) rfl (by decide) (by decide) tw_m0 (Nat.le_of_ble_eq_true rfl) (fun r2 h2 p2 => ?_)
  obtain ⟨rfl, I2, rfl, hk2⟩ := p2
  refine ar_aloadn (k := 3) rfl rfl ?_
  refine ar_iloadn (k := 4) rfl rfl ?_
  refine ar_aloadn (k := 5) rfl rfl ?_
  refine ar_callP (k := 6) (as := [_, _]) rfl lpO_35 hKa rfl (c_H_waits_O hS hk2 hKa ha ha1 ha2 (by first | omega | (simp only [List.length_append, List.length_cons, List.length_nil]; omega))) rfl (by decide) (by decide) tw_m0 (Nat.le_of_ble_eq_true rfl) (fun r6 h6 p6 => ?_)
  obtain ⟨rfl, I6, rfl, hk6⟩ := p6
  refine ar_ineg (k := 7) rfl ?_
  refine ar_iret (k := 8) rfl rfl rfl (Nat.le_refl _) ?_
  refine ⟨congrArg (fun z => some (vi z)) (by rfl), _, rfl, ?_⟩
  have e := hk6
  try simp only [List.append_assoc, List.cons_append, List.nil_append] at e
  exact e
theorem c_H_tells_O {x : Int} {a : Nat} (hS : tSt (K, J, Q, n)) (hk : tc I J L) (hKa : tK (K, J, Q, n) a (3, 4)) (ha : 78 ≤ a) (ha1 : I a 1 = i) (ha2 : I a 2 = v) (hL : L.length ≤ 15) : tw_M l G 6 0 0 mH_tells [vr (some a), vi x, vr (some 61)] (K, J, Q, n) (fun r h' => r = some (vi ((aT0 2 i v x).1)) ∧ ∃ L2, h' = (K, L2, Q, n) ∧ tc I L2 (L ++ (aT0 2 i v x).2)) := by
  have hl1 := aL_len 2 i x
  have hl2 := aL_len 2 i 2
  have hl3 := aW0_len 2 i v x
  have hl4 := aW_len 2 i v x
  have hl5 := aT0_len 2 i v (x - 1)
  refine tw_intro okH_tells (Nat.le_of_ble_eq_true rfl) ?_
  refine ar_aloadn (k := 0) rfl rfl ?_
  refine ar_iconst (k := 1) rfl ?_
  refine ar_callV (k := 2) (as := [_]) rfl lvH_55 (hS.k (by decide)) rfl (c_C_begin hS hk (by first | omega | (simp only [List.length_append, List.length_cons, List.length_nil]; omega))) rfl (by decide) (by decide) tw_m0 (Nat.le_of_ble_eq_true rfl) (fun r2 h2 p2 => ?_)
  obtain ⟨rfl, I2, rfl, hk2⟩ := p2
  refine ar_aloadn (k := 3) rfl rfl ?_
  refine ar_iloadn (k := 4) rfl rfl ?_
  refine ar_aloadn (k := 5) rfl rfl ?_
  refine ar_callO (k := 6) (as := [_, _]) rfl lvH_65_O hKa rfl (c_O_waits_O hS hk2 hKa ha ha1 ha2 (by first | omega | (simp only [List.length_append, List.length_cons, List.length_nil]; omega))) rfl (by decide) (by decide) tw_m0 (Nat.le_of_ble_eq_true rfl) (fun r6 h6 p6 => ?_)
  obtain ⟨rfl, I6, rfl, hk6⟩ := p6
  refine ar_iconst (k := 7) rfl ?_
  refine ar_imul (k := 8) rfl ?_
  refine ar_iret (k := 9) rfl rfl rfl (Nat.le_refl _) ?_
  refine ⟨congrArg (fun z => some (vi z)) (by rfl), _, rfl, ?_⟩
  have e := hk6
  try simp only [List.append_assoc, List.cons_append, List.nil_append] at e
  exact e
theorem c_H_lifts_G {x : Int} {a : Nat} (hS : tSt (K, J, Q, n)) (hk : tc I J L) (hKa : tK (K, J, Q, n) a (1, 4)) (ha : 78 ≤ a) (ha1 : I a 1 = i) (ha2 : I a 2 = v) (hL : L.length ≤ 19) : tw_M l G 2 0 0 mH_lifts [vr (some a), vi x, vr (some 61)] (K, J, Q, n) (fun r h' => r = some (vi (x + i)) ∧ ∃ L2, h' = (K, L2, Q, n) ∧ tc I L2 (L ++ [1])) := by
  have hl1 := aL_len 3 i x
  have hl2 := aL_len 3 i 2
  have hl3 := aW0_len 3 i v x
  have hl4 := aW_len 3 i v x
  have hl5 := aT0_len 3 i v (x - 1)
  refine tw_intro okH_lifts (Nat.le_of_ble_eq_true rfl) ?_
  refine ar_aloadn (k := 0) rfl rfl ?_
  refine ar_iconst (k := 1) rfl ?_
  refine ar_callV (k := 2) (as := [_]) rfl lvH_55 (hS.k (by decide)) rfl (c_C_begin hS hk (by first | omega | (simp only [List.length_append, List.length_cons, List.length_nil]; omega))) rfl (by decide) (by decide) tw_m0 (Nat.le_of_ble_eq_true rfl) (fun r2 h2 p2 => ?_)
  obtain ⟨rfl, I2, rfl, hk2⟩ := p2
  refine ar_iloadn (k := 3) rfl rfl ?_
  refine ar_aloadn (k := 4) rfl rfl ?_
  refine br_getIz (k := 5) (z := 1) rfl hKa flH_15_1 (by decide) rfl rfl ?_
  refine tw_top (hk2.f ha ha1) ?_
  refine ar_iadd (k := 6) rfl ?_
  refine ar_iret (k := 7) rfl rfl rfl (Nat.le_refl _) ?_
  refine ⟨congrArg (fun z => some (vi z)) (by rfl), _, rfl, ?_⟩
  have e := hk2
  try simp only [List.append_assoc, List.cons_append, List.nil_append] at e
  exact e
theorem c_H_waits_G {x : Int} {a : Nat} (hS : tSt (K, J, Q, n)) (hk : tc I J L) (hKa : tK (K, J, Q, n) a (1, 4)) (ha : 78 ≤ a) (ha1 : I a 1 = i) (ha2 : I a 2 = v) (hL : L.length ≤ 17) : tw_M l G 4 0 0 mH_waits [vr (some a), vi x, vr (some 61)] (K, J, Q, n) (fun r h' => r = some (vi ((aW0 3 i v x).1)) ∧ ∃ L2, h' = (K, L2, Q, n) ∧ tc I L2 (L ++ (aW0 3 i v x).2)) := by
  have hl1 := aL_len 3 i x
  have hl2 := aL_len 3 i 2
  have hl3 := aW0_len 3 i v x
  have hl4 := aW_len 3 i v x
  have hl5 := aT0_len 3 i v (x - 1)
  refine tw_intro okH_waits (Nat.le_of_ble_eq_true rfl) ?_
  refine ar_aloadn (k := 0) rfl rfl ?_
  refine ar_iconst (k := 1) rfl ?_
  refine ar_callV (k := 2) (as := [_]) rfl lvH_55 (hS.k (by decide)) rfl (c_C_begin hS hk (by first | omega | (simp only [List.length_append, List.length_cons, List.length_nil]; omega))) rfl (by decide) (by decide) tw_m0 (Nat.le_of_ble_eq_true rfl) (fun r2 h2 p2 => ?_)
  obtain ⟨rfl, I2, rfl, hk2⟩ := p2
  refine ar_aloadn (k := 3) rfl rfl ?_
  refine ar_iloadn (k := 4) rfl rfl ?_
  refine ar_aloadn (k := 5) rfl rfl ?_
  refine ar_callU (k := 6) (as := [_, _]) rfl lvH_61_G hKa rfl (c_H_lifts_G hS hk2 hKa ha ha1 ha2 (by first | omega | (simp only [List.length_append, List.length_cons, List.length_nil]; omega))) rfl (by decide) (by decide) tw_m0 (Nat.le_of_ble_eq_true rfl) (fun r6 h6 p6 => ?_)
  obtain ⟨rfl, I6, rfl, hk6⟩ := p6
  refine ar_aloadn (k := 7) rfl rfl ?_
  refine br_getIz (k := 8) (z := 2) rfl hKa flH_18_1 (by decide) rfl rfl ?_
  refine tw_top (hk6.f ha ha2) ?_
  refine ar_isub (k := 9) rfl ?_
  refine ar_iret (k := 10) rfl rfl rfl (Nat.le_refl _) ?_
  refine ⟨congrArg (fun z => some (vi z)) (by rfl), _, rfl, ?_⟩
  have e := hk6
  try simp only [List.append_assoc, List.cons_append, List.nil_append] at e
  exact e
theorem c_H_tells_G {x : Int} {a : Nat} (hS : tSt (K, J, Q, n)) (hk : tc I J L) (hKa : tK (K, J, Q, n) a (1, 4)) (ha : 78 ≤ a) (ha1 : I a 1 = i) (ha2 : I a 2 = v) (hL : L.length ≤ 15) : tw_M l G 6 0 0 mH_tells [vr (some a), vi x, vr (some 61)] (K, J, Q, n) (fun r h' => r = some (vi ((aT0 3 i v x).1)) ∧ ∃ L2, h' = (K, L2, Q, n) ∧ tc I L2 (L ++ (aT0 3 i v x).2)) := by
  have hl1 := aL_len 3 i x
  have hl2 := aL_len 3 i 2
  have hl3 := aW0_len 3 i v x
  have hl4 := aW_len 3 i v x
  have hl5 := aT0_len 3 i v (x - 1)
  refine tw_intro okH_tells (Nat.le_of_ble_eq_true rfl) ?_
  refine ar_aloadn (k := 0) rfl rfl ?_
  refine ar_iconst (k := 1) rfl ?_
  refine ar_callV (k := 2) (as := [_]) rfl lvH_55 (hS.k (by decide)) rfl (c_C_begin hS hk (by first | omega | (simp only [List.length_append, List.length_cons, List.length_nil]; omega))) rfl (by decide) (by decide) tw_m0 (Nat.le_of_ble_eq_true rfl) (fun r2 h2 p2 => ?_)
  obtain ⟨rfl, I2, rfl, hk2⟩ := p2
  refine ar_aloadn (k := 3) rfl rfl ?_
  refine ar_iloadn (k := 4) rfl rfl ?_
  refine ar_aloadn (k := 5) rfl rfl ?_
  refine ar_callU (k := 6) (as := [_, _]) rfl lvH_65_G hKa rfl (c_H_waits_G hS hk2 hKa ha ha1 ha2 (by first | omega | (simp only [List.length_append, List.length_cons, List.length_nil]; omega))) rfl (by decide) (by decide) tw_m0 (Nat.le_of_ble_eq_true rfl) (fun r6 h6 p6 => ?_)
  obtain ⟨rfl, I6, rfl, hk6⟩ := p6
  refine ar_iconst (k := 7) rfl ?_
  refine ar_imul (k := 8) rfl ?_
  refine ar_iret (k := 9) rfl rfl rfl (Nat.le_refl _) ?_
  refine ⟨congrArg (fun z => some (vi z)) (by rfl), _, rfl, ?_⟩
  have e := hk6
  try simp only [List.append_assoc, List.cons_append, List.nil_append] at e
  exact e
theorem c_G_tells_G {x : Int} {a : Nat} (hS : tSt (K, J, Q, n)) (hk : tc I J L) (hKa : tK (K, J, Q, n) a (1, 4)) (ha : 78 ≤ a) (ha1 : I a 1 = i) (ha2 : I a 2 = v) (hL : L.length ≤ 14) : tw_M l G 7 0 0 mG_tells [vr (some a), vi x, vr (some 61)] (K, J, Q, n) (fun r h' => r = some (vi ((aT 3 i v x).1)) ∧ ∃ L2, h' = (K, L2, Q, n) ∧ tc I L2 (L ++ (aT 3 i v x).2)) := by
  have hl1 := aL_len 3 i x
  have hl2 := aL_len 3 i 2
  have hl3 := aW0_len 3 i v x
  have hl4 := aW_len 3 i v x
  have hl5 := aT0_len 3 i v (x - 1)
  refine tw_intro okG_tells (Nat.le_of_ble_eq_true rfl) ?_
  refine ar_aloadn (k := 0) rfl rfl ?_
  refine ar_bipush (k := 1) rfl (by decide) ?_
  refine ar_callV (k := 2) (as := [_]) rfl lvG_26 (hS.k (by decide)) rfl (c_C_begin hS hk (by first | omega | (simp only [List.length_append, List.length_cons, List.length_nil]; omega))) rfl (by decide) (by decide) tw_m0 (Nat.le_of_ble_eq_true rfl) (fun r2 h2 p2 => ?_)
  obtain ⟨rfl, I2, rfl, hk2⟩ := p2
  refine ar_aloadn (k := 3) rfl rfl ?_
  refine ar_iloadn (k := 4) rfl rfl ?_
  refine ar_aloadn (k := 5) rfl rfl ?_
  refine ar_callP (k := 6) (as := [_, _]) rfl lpG_32 hKa rfl (c_H_tells_G hS hk2 hKa ha ha1 ha2 (by first | omega | (simp only [List.length_append, List.length_cons, List.length_nil]; omega))) rfl (by decide) (by decide) tw_m0 (Nat.le_of_ble_eq_true rfl) (fun r6 h6 p6 => ?_)
  obtain ⟨rfl, I6, rfl, hk6⟩ := p6
  refine ar_bipush (k := 7) rfl (by decide) ?_
  refine ar_ixor (k := 8) rfl ?_
  refine ar_iret (k := 9) rfl rfl rfl (Nat.le_refl _) ?_
  refine ⟨congrArg (fun z => some (vi z)) (by rfl), _, rfl, ?_⟩
  have e := hk6
  try simp only [List.append_assoc, List.cons_append, List.nil_append] at e
  exact e
theorem c_H_lifts_L {x : Int} {a : Nat} (hS : tSt (K, J, Q, n)) (hk : tc I J L) (hKa : tK (K, J, Q, n) a (5, 4)) (ha : 78 ≤ a) (ha1 : I a 1 = i) (ha2 : I a 2 = v) (hL : L.length ≤ 19) : tw_M l G 2 0 0 mH_lifts [vr (some a), vi x, vr (some 61)] (K, J, Q, n) (fun r h' => r = some (vi (x + i)) ∧ ∃ L2, h' = (K, L2, Q, n) ∧ tc I L2 (L ++ [1])) := by
  have hl1 := aL_len 4 i x
  have hl2 := aL_len 4 i 2
  have hl3 := aW0_len 4 i v x
  have hl4 := aW_len 4 i v x
  have hl5 := aT0_len 4 i v (x - 1)
  refine tw_intro okH_lifts (Nat.le_of_ble_eq_true rfl) ?_
  refine ar_aloadn (k := 0) rfl rfl ?_
  refine ar_iconst (k := 1) rfl ?_
  refine ar_callV (k := 2) (as := [_]) rfl lvH_55 (hS.k (by decide)) rfl (c_C_begin hS hk (by first | omega | (simp only [List.length_append, List.length_cons, List.length_nil]; omega))) rfl (by decide) (by decide) tw_m0 (Nat.le_of_ble_eq_true rfl) (fun r2 h2 p2 => ?_)
  obtain ⟨rfl, I2, rfl, hk2⟩ := p2
  refine ar_iloadn (k := 3) rfl rfl ?_
  refine ar_aloadn (k := 4) rfl rfl ?_
  refine br_getIz (k := 5) (z := 1) rfl hKa flH_15_5 (by decide) rfl rfl ?_
  refine tw_top (hk2.f ha ha1) ?_
  refine ar_iadd (k := 6) rfl ?_
  refine ar_iret (k := 7) rfl rfl rfl (Nat.le_refl _) ?_
  refine ⟨congrArg (fun z => some (vi z)) (by rfl), _, rfl, ?_⟩
  have e := hk2
  try simp only [List.append_assoc, List.cons_append, List.nil_append] at e
  exact e
theorem c_B_lifts_L {x : Int} {a : Nat} (hS : tSt (K, J, Q, n)) (hk : tc I J L) (hKa : tK (K, J, Q, n) a (5, 4)) (ha : 78 ≤ a) (ha1 : I a 1 = i) (ha2 : I a 2 = v) (hL : L.length ≤ 18) : tw_M l G 3 0 0 mB_lifts [vr (some a), vi x, vr (some 61)] (K, J, Q, n) (fun r h' => r = some (vi ((aL 4 i x).1)) ∧ ∃ L2, h' = (K, L2, Q, n) ∧ tc I L2 (L ++ (aL 4 i x).2)) := by
  have hl1 := aL_len 4 i x
  have hl2 := aL_len 4 i 2
  have hl3 := aW0_len 4 i v x
  have hl4 := aW_len 4 i v x
  have hl5 := aT0_len 4 i v (x - 1)
  refine tw_intro okB_lifts (Nat.le_of_ble_eq_true rfl) ?_
  refine ar_aloadn (k := 0) rfl rfl ?_
  refine ar_bipush (k := 1) rfl (by decide) ?_
  refine ar_callV (k := 2) (as := [_]) rfl lvB_28 (hS.k (by decide)) rfl (c_C_begin hS hk (by first | omega | (simp only [List.length_append, List.length_cons, List.length_nil]; omega))) rfl (by decide) (by decide) tw_m0 (Nat.le_of_ble_eq_true rfl) (fun r2 h2 p2 => ?_)
  obtain ⟨rfl, I2, rfl, hk2⟩ := p2
  refine ar_aloadn (k := 3) rfl rfl ?_
  refine ar_iloadn (k := 4) rfl rfl ?_
  refine ar_iconst (k := 5) rfl ?_
  refine ar_imul (k := 6) rfl ?_
  refine ar_aloadn (k := 7) rfl rfl ?_
  refine ar_callP (k := 8) (as := [_, _]) rfl lpB_34 hKa rfl (c_H_lifts_L hS hk2 hKa ha ha1 ha2 (by first | omega | (simp only [List.length_append, List.length_cons, List.length_nil]; omega))) rfl (by decide) (by decide) tw_m0 (Nat.le_of_ble_eq_true rfl) (fun r8 h8 p8 => ?_)
  obtain ⟨rfl, I8, rfl, hk8⟩ := p8
  refine ar_iret (k := 9) rfl rfl rfl (Nat.le_refl _) ?_
  refine ⟨congrArg (fun z => some (vi z)) (by rfl), _, rfl, ?_⟩
  have e := hk8
  try simp only [List.append_assoc, List.cons_append, List.nil_append] at e
  exact e
theorem c_H_waits_L {x : Int} {a : Nat} (hS : tSt (K, J, Q, n)) (hk : tc I J L) (hKa : tK (K, J, Q, n) a (5, 4)) (ha : 78 ≤ a) (ha1 : I a 1 = i) (ha2 : I a 2 = v) (hL : L.length ≤ 17) : tw_M l G 4 0 0 mH_waits [vr (some a), vi x, vr (some 61)] (K, J, Q, n) (fun r h' => r = some (vi ((aW0 4 i v x).1)) ∧ ∃ L2, h' = (K, L2, Q, n) ∧ tc I L2 (L ++ (aW0 4 i v x).2)) := by
  have hl1 := aL_len 4 i x
  have hl2 := aL_len 4 i 2
  have hl3 := aW0_len 4 i v x
  have hl4 := aW_len 4 i v x
  have hl5 := aT0_len 4 i v (x - 1)
  refine tw_intro okH_waits (Nat.le_of_ble_eq_true rfl) ?_
  refine ar_aloadn (k := 0) rfl rfl ?_
  refine ar_iconst (k := 1) rfl ?_
  refine ar_callV (k := 2) (as := [_]) rfl lvH_55 (hS.k (by decide)) rfl (c_C_begin hS hk (by first | omega | (simp only [List.length_append, List.length_cons, List.length_nil]; omega))) rfl (by decide) (by decide) tw_m0 (Nat.le_of_ble_eq_true rfl) (fun r2 h2 p2 => ?_)
  obtain ⟨rfl, I2, rfl, hk2⟩ := p2
  refine ar_aloadn (k := 3) rfl rfl ?_
  refine ar_iloadn (k := 4) rfl rfl ?_
  refine ar_aloadn (k := 5) rfl rfl ?_
  refine ar_callO (k := 6) (as := [_, _]) rfl lvH_61_L hKa rfl (c_B_lifts_L hS hk2 hKa ha ha1 ha2 (by first | omega | (simp only [List.length_append, List.length_cons, List.length_nil]; omega))) rfl (by decide) (by decide) tw_m0 (Nat.le_of_ble_eq_true rfl) (fun r6 h6 p6 => ?_)
  obtain ⟨rfl, I6, rfl, hk6⟩ := p6
  refine ar_aloadn (k := 7) rfl rfl ?_
  refine br_getIz (k := 8) (z := 2) rfl hKa flH_18_5 (by decide) rfl rfl ?_
  refine tw_top (hk6.f ha ha2) ?_
  refine ar_isub (k := 9) rfl ?_
  refine ar_iret (k := 10) rfl rfl rfl (Nat.le_refl _) ?_
  refine ⟨congrArg (fun z => some (vi z)) (by rfl), _, rfl, ?_⟩
  have e := hk6
  try simp only [List.append_assoc, List.cons_append, List.nil_append] at e
  exact e
theorem c_H_tells_L {x : Int} {a : Nat} (hS : tSt (K, J, Q, n)) (hk : tc I J L) (hKa : tK (K, J, Q, n) a (5, 4)) (ha : 78 ≤ a) (ha1 : I a 1 = i) (ha2 : I a 2 = v) (hL : L.length ≤ 15) : tw_M l G 6 0 0 mH_tells [vr (some a), vi x, vr (some 61)] (K, J, Q, n) (fun r h' => r = some (vi ((aT0 4 i v x).1)) ∧ ∃ L2, h' = (K, L2, Q, n) ∧ tc I L2 (L ++ (aT0 4 i v x).2)) := by
  have hl1 := aL_len 4 i x
  have hl2 := aL_len 4 i 2
  have hl3 := aW0_len 4 i v x
  have hl4 := aW_len 4 i v x
  have hl5 := aT0_len 4 i v (x - 1)
  refine tw_intro okH_tells (Nat.le_of_ble_eq_true rfl) ?_
  refine ar_aloadn (k := 0) rfl rfl ?_
  refine ar_iconst (k := 1) rfl ?_
  refine ar_callV (k := 2) (as := [_]) rfl lvH_55 (hS.k (by decide)) rfl (c_C_begin hS hk (by first | omega | (simp only [List.length_append, List.length_cons, List.length_nil]; omega))) rfl (by decide) (by decide) tw_m0 (Nat.le_of_ble_eq_true rfl) (fun r2 h2 p2 => ?_)
  obtain ⟨rfl, I2, rfl, hk2⟩ := p2
  refine ar_aloadn (k := 3) rfl rfl ?_
  refine ar_iloadn (k := 4) rfl rfl ?_
  refine ar_aloadn (k := 5) rfl rfl ?_
  refine ar_callU (k := 6) (as := [_, _]) rfl lvH_65_L hKa rfl (c_H_waits_L hS hk2 hKa ha ha1 ha2 (by first | omega | (simp only [List.length_append, List.length_cons, List.length_nil]; omega))) rfl (by decide) (by decide) tw_m0 (Nat.le_of_ble_eq_true rfl) (fun r6 h6 p6 => ?_)
  obtain ⟨rfl, I6, rfl, hk6⟩ := p6
  refine ar_iconst (k := 7) rfl ?_
  refine ar_imul (k := 8) rfl ?_
  refine ar_iret (k := 9) rfl rfl rfl (Nat.le_refl _) ?_
  refine ⟨congrArg (fun z => some (vi z)) (by rfl), _, rfl, ?_⟩
  have e := hk6
  try simp only [List.append_assoc, List.cons_append, List.nil_append] at e
  exact e
theorem c_L_tells_L {x : Int} {a : Nat} (hS : tSt (K, J, Q, n)) (hk : tc I J L) (hKa : tK (K, J, Q, n) a (5, 4)) (ha : 78 ≤ a) (ha1 : I a 1 = i) (ha2 : I a 2 = v) (hL : L.length ≤ 12) : tw_M l G 7 0 0 mL_tells [vr (some a), vi x, vr (some 61)] (K, J, Q, n) (fun r h' => r = some (vi ((aT 4 i v x).1)) ∧ ∃ L2, h' = (K, L2, Q, n) ∧ tc I L2 (L ++ (aT 4 i v x).2)) := by
  have hl1 := aL_len 4 i x
  have hl2 := aL_len 4 i 2
  have hl3 := aW0_len 4 i v x
  have hl4 := aW_len 4 i v x
  have hl5 := aT0_len 4 i v (x - 1)
  refine tw_intro okL_tells (Nat.le_of_ble_eq_true rfl) ?_
  refine ar_aloadn (k := 0) rfl rfl ?_
  refine ar_bipush (k := 1) rfl (by decide) ?_
  refine ar_callV (k := 2) (as := [_]) rfl lvL_24 (hS.k (by decide)) rfl (c_C_begin hS hk (by first | omega | (simp only [List.length_append, List.length_cons, List.length_nil]; omega))) rfl (by decide) (by decide) tw_m0 (Nat.le_of_ble_eq_true rfl) (fun r2 h2 p2 => ?_)
  obtain ⟨rfl, I2, rfl, hk2⟩ := p2
  refine ar_aloadn (k := 3) rfl rfl ?_
  refine ar_iloadn (k := 4) rfl rfl ?_
  refine ar_iconst (k := 5) rfl ?_
  refine ar_isub (k := 6) rfl ?_
  refine ar_aloadn (k := 7) rfl rfl ?_
  refine ar_callQ (k := 8) (as := [_, _]) rfl lqL_30 hKa rfl (c_H_tells_L hS hk2 hKa ha ha1 ha2 (by first | omega | (simp only [List.length_append, List.length_cons, List.length_nil]; omega))) rfl (by decide) (by decide) tw_m0 (Nat.le_of_ble_eq_true rfl) (fun r8 h8 p8 => ?_)
  obtain ⟨rfl, I8, rfl, hk8⟩ := p8
  refine ar_aloadn (k := 9) rfl rfl ?_
  refine ar_iconst (k := 10) rfl ?_
  refine ar_aloadn (k := 11) rfl rfl ?_
  refine ar_callU (k := 12) (as := [_, _]) rfl lvL_34_L hKa rfl (c_B_lifts_L hS hk8 hKa ha ha1 ha2 (by first | omega | (simp only [List.length_append, List.length_cons, List.length_nil]; omega))) rfl (by decide) (by decide) tw_m0 (Nat.le_of_ble_eq_true rfl) (fun r12 h12 p12 => ?_)
  obtain ⟨rfl, I12, rfl, hk12⟩ := p12
  refine ar_iadd (k := 13) rfl ?_
  refine ar_iret (k := 14) rfl rfl rfl (Nat.le_refl _) ?_
  refine ⟨congrArg (fun z => some (vi z)) (by rfl), _, rfl, ?_⟩
  have e := hk12
  try simp only [List.append_assoc, List.cons_append, List.nil_append] at e
  exact e
theorem c_H_lifts_A {x : Int} {a : Nat} (hS : tSt (K, J, Q, n)) (hk : tc I J L) (hKa : tK (K, J, Q, n) a (4, 4)) (ha : 78 ≤ a) (ha1 : I a 1 = i) (ha2 : I a 2 = v) (hL : L.length ≤ 19) : tw_M l G 2 0 0 mH_lifts [vr (some a), vi x, vr (some 61)] (K, J, Q, n) (fun r h' => r = some (vi (x + i)) ∧ ∃ L2, h' = (K, L2, Q, n) ∧ tc I L2 (L ++ [1])) := by
  have hl1 := aL_len 5 i x
  have hl2 := aL_len 5 i 2
  have hl3 := aW0_len 5 i v x
  have hl4 := aW_len 5 i v x
  have hl5 := aT0_len 5 i v (x - 1)
  refine tw_intro okH_lifts (Nat.le_of_ble_eq_true rfl) ?_
  refine ar_aloadn (k := 0) rfl rfl ?_
  refine ar_iconst (k := 1) rfl ?_
  refine ar_callV (k := 2) (as := [_]) rfl lvH_55 (hS.k (by decide)) rfl (c_C_begin hS hk (by first | omega | (simp only [List.length_append, List.length_cons, List.length_nil]; omega))) rfl (by decide) (by decide) tw_m0 (Nat.le_of_ble_eq_true rfl) (fun r2 h2 p2 => ?_)
  obtain ⟨rfl, I2, rfl, hk2⟩ := p2
  refine ar_iloadn (k := 3) rfl rfl ?_
  refine ar_aloadn (k := 4) rfl rfl ?_
  refine br_getIz (k := 5) (z := 1) rfl hKa flH_15_4 (by decide) rfl rfl ?_
  refine tw_top (hk2.f ha ha1) ?_
  refine ar_iadd (k := 6) rfl ?_
  refine ar_iret (k := 7) rfl rfl rfl (Nat.le_refl _) ?_
  refine ⟨congrArg (fun z => some (vi z)) (by rfl), _, rfl, ?_⟩
  have e := hk2
  try simp only [List.append_assoc, List.cons_append, List.nil_append] at e
  exact e
theorem c_A_lifts_A {x : Int} {a : Nat} (hS : tSt (K, J, Q, n)) (hk : tc I J L) (hKa : tK (K, J, Q, n) a (4, 4)) (ha : 78 ≤ a) (ha1 : I a 1 = i) (ha2 : I a 2 = v) (hL : L.length ≤ 18) : tw_M l G 3 0 0 mA_lifts [vr (some a), vi x, vr (some 61)] (K, J, Q, n) (fun r h' => r = some (vi ((aL 5 i x).1)) ∧ ∃ L2, h' = (K, L2, Q, n) ∧ tc I L2 (L ++ (aL 5 i x).2)) := by
  have hl1 := aL_len 5 i x
  have hl2 := aL_len 5 i 2
  have hl3 := aW0_len 5 i v x
  have hl4 := aW_len 5 i v x
  have hl5 := aT0_len 5 i v (x - 1)
  refine tw_intro okA_lifts (Nat.le_of_ble_eq_true rfl) ?_
  refine ar_aloadn (k := 0) rfl rfl ?_
  refine ar_bipush (k := 1) rfl (by decide) ?_
  refine ar_callV (k := 2) (as := [_]) rfl lvA_25 (hS.k (by decide)) rfl (c_C_begin hS hk (by first | omega | (simp only [List.length_append, List.length_cons, List.length_nil]; omega))) rfl (by decide) (by decide) tw_m0 (Nat.le_of_ble_eq_true rfl) (fun r2 h2 p2 => ?_)
  obtain ⟨rfl, I2, rfl, hk2⟩ := p2
  refine ar_aloadn (k := 3) rfl rfl ?_
  refine ar_iloadn (k := 4) rfl rfl ?_
  refine ar_aloadn (k := 5) rfl rfl ?_
  refine ar_callQ (k := 6) (as := [_, _]) rfl lqA_31 hKa rfl (c_H_lifts_A hS hk2 hKa ha ha1 ha2 (by first | omega | (simp only [List.length_append, List.length_cons, List.length_nil]; omega))) rfl (by decide) (by decide) tw_m0 (Nat.le_of_ble_eq_true rfl) (fun r6 h6 p6 => ?_)
  obtain ⟨rfl, I6, rfl, hk6⟩ := p6
  refine ar_aloadn (k := 7) rfl rfl ?_
  refine br_getIz (k := 8) (z := 1) rfl hKa flA_35_4 (by decide) rfl rfl ?_
  refine tw_top (hk6.f ha ha1) ?_
  refine ar_ixor (k := 9) rfl ?_
  refine ar_iret (k := 10) rfl rfl rfl (Nat.le_refl _) ?_
  refine ⟨congrArg (fun z => some (vi z)) (by rfl), _, rfl, ?_⟩
  have e := hk6
  try simp only [List.append_assoc, List.cons_append, List.nil_append] at e
  exact e
theorem c_H_waits_A {x : Int} {a : Nat} (hS : tSt (K, J, Q, n)) (hk : tc I J L) (hKa : tK (K, J, Q, n) a (4, 4)) (ha : 78 ≤ a) (ha1 : I a 1 = i) (ha2 : I a 2 = v) (hL : L.length ≤ 17) : tw_M l G 4 0 0 mH_waits [vr (some a), vi x, vr (some 61)] (K, J, Q, n) (fun r h' => r = some (vi ((aW0 5 i v x).1)) ∧ ∃ L2, h' = (K, L2, Q, n) ∧ tc I L2 (L ++ (aW0 5 i v x).2)) := by
  have hl1 := aL_len 5 i x
  have hl2 := aL_len 5 i 2
  have hl3 := aW0_len 5 i v x
  have hl4 := aW_len 5 i v x
  have hl5 := aT0_len 5 i v (x - 1)
  refine tw_intro okH_waits (Nat.le_of_ble_eq_true rfl) ?_
  refine ar_aloadn (k := 0) rfl rfl ?_
  refine ar_iconst (k := 1) rfl ?_
  refine ar_callV (k := 2) (as := [_]) rfl lvH_55 (hS.k (by decide)) rfl (c_C_begin hS hk (by first | omega | (simp only [List.length_append, List.length_cons, List.length_nil]; omega))) rfl (by decide) (by decide) tw_m0 (Nat.le_of_ble_eq_true rfl) (fun r2 h2 p2 => ?_)
  obtain ⟨rfl, I2, rfl, hk2⟩ := p2
  refine ar_aloadn (k := 3) rfl rfl ?_
  refine ar_iloadn (k := 4) rfl rfl ?_
  refine ar_aloadn (k := 5) rfl rfl ?_
  refine ar_callO (k := 6) (as := [_, _]) rfl lvH_61_A hKa rfl (c_A_lifts_A hS hk2 hKa ha ha1 ha2 (by first | omega | (simp only [List.length_append, List.length_cons, List.length_nil]; omega))) rfl (by decide) (by decide) tw_m0 (Nat.le_of_ble_eq_true rfl) (fun r6 h6 p6 => ?_)
  obtain ⟨rfl, I6, rfl, hk6⟩ := p6
  refine ar_aloadn (k := 7) rfl rfl ?_
  refine br_getIz (k := 8) (z := 2) rfl hKa flH_18_4 (by decide) rfl rfl ?_
  refine tw_top (hk6.f ha ha2) ?_
  refine ar_isub (k := 9) rfl ?_
  refine ar_iret (k := 10) rfl rfl rfl (Nat.le_refl _) ?_
  refine ⟨congrArg (fun z => some (vi z)) (by rfl), _, rfl, ?_⟩
  have e := hk6
  try simp only [List.append_assoc, List.cons_append, List.nil_append] at e
  exact e
theorem c_O_waits_A {x : Int} {a : Nat} (hS : tSt (K, J, Q, n)) (hk : tc I J L) (hKa : tK (K, J, Q, n) a (4, 4)) (ha : 78 ≤ a) (ha1 : I a 1 = i) (ha2 : I a 2 = v) (hL : L.length ≤ 16) : tw_M l G 5 0 0 mO_waits [vr (some a), vi x, vr (some 61)] (K, J, Q, n) (fun r h' => r = some (vi ((aW 5 i v x).1)) ∧ ∃ L2, h' = (K, L2, Q, n) ∧ tc I L2 (L ++ (aW 5 i v x).2)) := by
  have hl1 := aL_len 5 i x
  have hl2 := aL_len 5 i 2
  have hl3 := aW0_len 5 i v x
  have hl4 := aW_len 5 i v x
  have hl5 := aT0_len 5 i v (x - 1)
  refine tw_intro okO_waits (Nat.le_of_ble_eq_true rfl) ?_
  refine ar_aloadn (k := 0) rfl rfl ?_
  refine ar_bipush (k := 1) rfl (by decide) ?_
  refine ar_callV (k := 2) (as := [_]) rfl lvO_29 (hS.k (by decide)) rfl (c_C_begin hS hk (by first | omega | (simp only [List.length_append, List.length_cons, List.length_nil]; omega))) rfl (by decide) (by decide) tw_m0 (Nat.le_of_ble_eq_true rfl) (fun r2 h2 p2 => ?_)
  obtain ⟨rfl, I2, rfl, hk2⟩ := p2
  refine ar_aloadn (k := 3) rfl rfl ?_
  refine ar_iloadn (k := 4) rfl rfl ?_
  refine ar_aloadn (k := 5) rfl rfl ?_
  refine ar_callP (k := 6) (as := [_, _]) rfl lpO_35 hKa rfl (c_H_waits_A hS hk2 hKa ha ha1 ha2 (by first | omega | (simp only [List.length_append, List.length_cons, List.length_nil]; omega))) rfl (by decide) (by decide) tw_m0 (Nat.le_of_ble_eq_true rfl) (fun r6 h6 p6 => ?_)
  obtain ⟨rfl, I6, rfl, hk6⟩ := p6
  refine ar_ineg (k := 7) rfl ?_
  refine ar_iret (k := 8) rfl rfl rfl (Nat.le_refl _) ?_
  refine ⟨congrArg (fun z => some (vi z)) (by rfl), _, rfl, ?_⟩
  have e := hk6
  try simp only [List.append_assoc, List.cons_append, List.nil_append] at e
  exact e
theorem c_H_tells_A {x : Int} {a : Nat} (hS : tSt (K, J, Q, n)) (hk : tc I J L) (hKa : tK (K, J, Q, n) a (4, 4)) (ha : 78 ≤ a) (ha1 : I a 1 = i) (ha2 : I a 2 = v) (hL : L.length ≤ 15) : tw_M l G 6 0 0 mH_tells [vr (some a), vi x, vr (some 61)] (K, J, Q, n) (fun r h' => r = some (vi ((aT0 5 i v x).1)) ∧ ∃ L2, h' = (K, L2, Q, n) ∧ tc I L2 (L ++ (aT0 5 i v x).2)) := by
  have hl1 := aL_len 5 i x
  have hl2 := aL_len 5 i 2
  have hl3 := aW0_len 5 i v x
  have hl4 := aW_len 5 i v x
  have hl5 := aT0_len 5 i v (x - 1)
  refine tw_intro okH_tells (Nat.le_of_ble_eq_true rfl) ?_
  refine ar_aloadn (k := 0) rfl rfl ?_
  refine ar_iconst (k := 1) rfl ?_
  refine ar_callV (k := 2) (as := [_]) rfl lvH_55 (hS.k (by decide)) rfl (c_C_begin hS hk (by first | omega | (simp only [List.length_append, List.length_cons, List.length_nil]; omega))) rfl (by decide) (by decide) tw_m0 (Nat.le_of_ble_eq_true rfl) (fun r2 h2 p2 => ?_)
  obtain ⟨rfl, I2, rfl, hk2⟩ := p2
  refine ar_aloadn (k := 3) rfl rfl ?_
  refine ar_iloadn (k := 4) rfl rfl ?_
  refine ar_aloadn (k := 5) rfl rfl ?_
  refine ar_callO (k := 6) (as := [_, _]) rfl lvH_65_A hKa rfl (c_O_waits_A hS hk2 hKa ha ha1 ha2 (by first | omega | (simp only [List.length_append, List.length_cons, List.length_nil]; omega))) rfl (by decide) (by decide) tw_m0 (Nat.le_of_ble_eq_true rfl) (fun r6 h6 p6 => ?_)
  obtain ⟨rfl, I6, rfl, hk6⟩ := p6
  refine ar_iconst (k := 7) rfl ?_
  refine ar_imul (k := 8) rfl ?_
  refine ar_iret (k := 9) rfl rfl rfl (Nat.le_refl _) ?_
  refine ⟨congrArg (fun z => some (vi z)) (by rfl), _, rfl, ?_⟩
  have e := hk6
  try simp only [List.append_assoc, List.cons_append, List.nil_append] at e
  exact e
theorem c_H_lifts_D {x : Int} {a : Nat} (hS : tSt (K, J, Q, n)) (hk : tc I J L) (hKa : tK (K, J, Q, n) a (7, 4)) (ha : 78 ≤ a) (ha1 : I a 1 = i) (ha2 : I a 2 = v) (hL : L.length ≤ 19) : tw_M l G 2 0 0 mH_lifts [vr (some a), vi x, vr (some 61)] (K, J, Q, n) (fun r h' => r = some (vi (x + i)) ∧ ∃ L2, h' = (K, L2, Q, n) ∧ tc I L2 (L ++ [1])) := by
  have hl1 := aL_len 6 i x
  have hl2 := aL_len 6 i 2
  have hl3 := aW0_len 6 i v x
  have hl4 := aW_len 6 i v x
  have hl5 := aT0_len 6 i v (x - 1)
  refine tw_intro okH_lifts (Nat.le_of_ble_eq_true rfl) ?_
  refine ar_aloadn (k := 0) rfl rfl ?_
  refine ar_iconst (k := 1) rfl ?_
  refine ar_callV (k := 2) (as := [_]) rfl lvH_55 (hS.k (by decide)) rfl (c_C_begin hS hk (by first | omega | (simp only [List.length_append, List.length_cons, List.length_nil]; omega))) rfl (by decide) (by decide) tw_m0 (Nat.le_of_ble_eq_true rfl) (fun r2 h2 p2 => ?_)
  obtain ⟨rfl, I2, rfl, hk2⟩ := p2
  refine ar_iloadn (k := 3) rfl rfl ?_
  refine ar_aloadn (k := 4) rfl rfl ?_
  refine br_getIz (k := 5) (z := 1) rfl hKa flH_15_7 (by decide) rfl rfl ?_
  refine tw_top (hk2.f ha ha1) ?_
  refine ar_iadd (k := 6) rfl ?_
  refine ar_iret (k := 7) rfl rfl rfl (Nat.le_refl _) ?_
  refine ⟨congrArg (fun z => some (vi z)) (by rfl), _, rfl, ?_⟩
  have e := hk2
  try simp only [List.append_assoc, List.cons_append, List.nil_append] at e
  exact e
theorem c_H_waits_D {x : Int} {a : Nat} (hS : tSt (K, J, Q, n)) (hk : tc I J L) (hKa : tK (K, J, Q, n) a (7, 4)) (ha : 78 ≤ a) (ha1 : I a 1 = i) (ha2 : I a 2 = v) (hL : L.length ≤ 17) : tw_M l G 4 0 0 mH_waits [vr (some a), vi x, vr (some 61)] (K, J, Q, n) (fun r h' => r = some (vi ((aW0 6 i v x).1)) ∧ ∃ L2, h' = (K, L2, Q, n) ∧ tc I L2 (L ++ (aW0 6 i v x).2)) := by
  have hl1 := aL_len 6 i x
  have hl2 := aL_len 6 i 2
  have hl3 := aW0_len 6 i v x
  have hl4 := aW_len 6 i v x
  have hl5 := aT0_len 6 i v (x - 1)
  refine tw_intro okH_waits (Nat.le_of_ble_eq_true rfl) ?_
  refine ar_aloadn (k := 0) rfl rfl ?_
  refine ar_iconst (k := 1) rfl ?_
  refine ar_callV (k := 2) (as := [_]) rfl lvH_55 (hS.k (by decide)) rfl (c_C_begin hS hk (by first | omega | (simp only [List.length_append, List.length_cons, List.length_nil]; omega))) rfl (by decide) (by decide) tw_m0 (Nat.le_of_ble_eq_true rfl) (fun r2 h2 p2 => ?_)
  obtain ⟨rfl, I2, rfl, hk2⟩ := p2
  refine ar_aloadn (k := 3) rfl rfl ?_
  refine ar_iloadn (k := 4) rfl rfl ?_
  refine ar_aloadn (k := 5) rfl rfl ?_
  refine ar_callU (k := 6) (as := [_, _]) rfl lvH_61_D hKa rfl (c_H_lifts_D hS hk2 hKa ha ha1 ha2 (by first | omega | (simp only [List.length_append, List.length_cons, List.length_nil]; omega))) rfl (by decide) (by decide) tw_m0 (Nat.le_of_ble_eq_true rfl) (fun r6 h6 p6 => ?_)
  obtain ⟨rfl, I6, rfl, hk6⟩ := p6
  refine ar_aloadn (k := 7) rfl rfl ?_
  refine br_getIz (k := 8) (z := 2) rfl hKa flH_18_7 (by decide) rfl rfl ?_
  refine tw_top (hk6.f ha ha2) ?_
  refine ar_isub (k := 9) rfl ?_
  refine ar_iret (k := 10) rfl rfl rfl (Nat.le_refl _) ?_
  refine ⟨congrArg (fun z => some (vi z)) (by rfl), _, rfl, ?_⟩
  have e := hk6
  try simp only [List.append_assoc, List.cons_append, List.nil_append] at e
  exact e
theorem c_D_waits_D {x : Int} {a : Nat} (hS : tSt (K, J, Q, n)) (hk : tc I J L) (hKa : tK (K, J, Q, n) a (7, 4)) (ha : 78 ≤ a) (ha1 : I a 1 = i) (ha2 : I a 2 = v) (hL : L.length ≤ 16) : tw_M l G 5 0 0 mD_waits [vr (some a), vi x, vr (some 61)] (K, J, Q, n) (fun r h' => r = some (vi ((aW 6 i v x).1)) ∧ ∃ L2, h' = (K, L2, Q, n) ∧ tc I L2 (L ++ (aW 6 i v x).2)) := by
  have hl1 := aL_len 6 i x
  have hl2 := aL_len 6 i 2
  have hl3 := aW0_len 6 i v x
  have hl4 := aW_len 6 i v x
  have hl5 := aT0_len 6 i v (x - 1)
  refine tw_intro okD_waits (Nat.le_of_ble_eq_true rfl) ?_
  refine ar_aloadn (k := 0) rfl rfl ?_
  refine ar_bipush (k := 1) rfl (by decide) ?_
  refine ar_callV (k := 2) (as := [_]) rfl lvD_34 (hS.k (by decide)) rfl (c_C_begin hS hk (by first | omega | (simp only [List.length_append, List.length_cons, List.length_nil]; omega))) rfl (by decide) (by decide) tw_m0 (Nat.le_of_ble_eq_true rfl) (fun r2 h2 p2 => ?_)
  obtain ⟨rfl, I2, rfl, hk2⟩ := p2
  refine ar_aloadn (k := 3) rfl rfl ?_
  refine ar_iloadn (k := 4) rfl rfl ?_
  refine ar_aloadn (k := 5) rfl rfl ?_
  refine ar_callQ (k := 6) (as := [_, _]) rfl lqD_40 hKa rfl (c_H_waits_D hS hk2 hKa ha ha1 ha2 (by first | omega | (simp only [List.length_append, List.length_cons, List.length_nil]; omega))) rfl (by decide) (by decide) tw_m0 (Nat.le_of_ble_eq_true rfl) (fun r6 h6 p6 => ?_)
  obtain ⟨rfl, I6, rfl, hk6⟩ := p6
  refine ar_aloadn (k := 7) rfl rfl ?_
  refine br_getIz (k := 8) (z := 2) rfl hKa flD_44_7 (by decide) rfl rfl ?_
  refine tw_top (hk6.f ha ha2) ?_
  refine ar_iadd (k := 9) rfl ?_
  refine ar_iret (k := 10) rfl rfl rfl (Nat.le_refl _) ?_
  refine ⟨congrArg (fun z => some (vi z)) (by rfl), _, rfl, ?_⟩
  have e := hk6
  try simp only [List.append_assoc, List.cons_append, List.nil_append] at e
  exact e
theorem c_H_tells_D {x : Int} {a : Nat} (hS : tSt (K, J, Q, n)) (hk : tc I J L) (hKa : tK (K, J, Q, n) a (7, 4)) (ha : 78 ≤ a) (ha1 : I a 1 = i) (ha2 : I a 2 = v) (hL : L.length ≤ 15) : tw_M l G 6 0 0 mH_tells [vr (some a), vi x, vr (some 61)] (K, J, Q, n) (fun r h' => r = some (vi ((aT0 6 i v x).1)) ∧ ∃ L2, h' = (K, L2, Q, n) ∧ tc I L2 (L ++ (aT0 6 i v x).2)) := by
  have hl1 := aL_len 6 i x
  have hl2 := aL_len 6 i 2
  have hl3 := aW0_len 6 i v x
  have hl4 := aW_len 6 i v x
  have hl5 := aT0_len 6 i v (x - 1)
  refine tw_intro okH_tells (Nat.le_of_ble_eq_true rfl) ?_
  refine ar_aloadn (k := 0) rfl rfl ?_
  refine ar_iconst (k := 1) rfl ?_
  refine ar_callV (k := 2) (as := [_]) rfl lvH_55 (hS.k (by decide)) rfl (c_C_begin hS hk (by first | omega | (simp only [List.length_append, List.length_cons, List.length_nil]; omega))) rfl (by decide) (by decide) tw_m0 (Nat.le_of_ble_eq_true rfl) (fun r2 h2 p2 => ?_)
  obtain ⟨rfl, I2, rfl, hk2⟩ := p2
  refine ar_aloadn (k := 3) rfl rfl ?_
  refine ar_iloadn (k := 4) rfl rfl ?_
  refine ar_aloadn (k := 5) rfl rfl ?_
  refine ar_callO (k := 6) (as := [_, _]) rfl lvH_65_D hKa rfl (c_D_waits_D hS hk2 hKa ha ha1 ha2 (by first | omega | (simp only [List.length_append, List.length_cons, List.length_nil]; omega))) rfl (by decide) (by decide) tw_m0 (Nat.le_of_ble_eq_true rfl) (fun r6 h6 p6 => ?_)
  obtain ⟨rfl, I6, rfl, hk6⟩ := p6
  refine ar_iconst (k := 7) rfl ?_
  refine ar_imul (k := 8) rfl ?_
  refine ar_iret (k := 9) rfl rfl rfl (Nat.le_refl _) ?_
  refine ⟨congrArg (fun z => some (vi z)) (by rfl), _, rfl, ?_⟩
  have e := hk6
  try simp only [List.append_assoc, List.cons_append, List.nil_append] at e
  exact e
theorem c_G_tells_D {x : Int} {a : Nat} (hS : tSt (K, J, Q, n)) (hk : tc I J L) (hKa : tK (K, J, Q, n) a (7, 4)) (ha : 78 ≤ a) (ha1 : I a 1 = i) (ha2 : I a 2 = v) (hL : L.length ≤ 14) : tw_M l G 7 0 0 mG_tells [vr (some a), vi x, vr (some 61)] (K, J, Q, n) (fun r h' => r = some (vi ((aT 6 i v x).1)) ∧ ∃ L2, h' = (K, L2, Q, n) ∧ tc I L2 (L ++ (aT 6 i v x).2)) := by
  have hl1 := aL_len 6 i x
  have hl2 := aL_len 6 i 2
  have hl3 := aW0_len 6 i v x
  have hl4 := aW_len 6 i v x
  have hl5 := aT0_len 6 i v (x - 1)
  refine tw_intro okG_tells (Nat.le_of_ble_eq_true rfl) ?_
  refine ar_aloadn (k := 0) rfl rfl ?_
  refine ar_bipush (k := 1) rfl (by decide) ?_
  refine ar_callV (k := 2) (as := [_]) rfl lvG_26 (hS.k (by decide)) rfl (c_C_begin hS hk (by first | omega | (simp only [List.length_append, List.length_cons, List.length_nil]; omega))) rfl (by decide) (by decide) tw_m0 (Nat.le_of_ble_eq_true rfl) (fun r2 h2 p2 => ?_)
  obtain ⟨rfl, I2, rfl, hk2⟩ := p2
  refine ar_aloadn (k := 3) rfl rfl ?_
  refine ar_iloadn (k := 4) rfl rfl ?_
  refine ar_aloadn (k := 5) rfl rfl ?_
  refine ar_callP (k := 6) (as := [_, _]) rfl lpG_32 hKa rfl (c_H_tells_D hS hk2 hKa ha ha1 ha2 (by first | omega | (simp only [List.length_append, List.length_cons, List.length_nil]; omega))) rfl (by decide) (by decide) tw_m0 (Nat.le_of_ble_eq_true rfl) (fun r6 h6 p6 => ?_)
  obtain ⟨rfl, I6, rfl, hk6⟩ := p6
  refine ar_bipush (k := 7) rfl (by decide) ?_
  refine ar_ixor (k := 8) rfl ?_
  refine ar_iret (k := 9) rfl rfl rfl (Nat.le_refl _) ?_
  refine ⟨congrArg (fun z => some (vi z)) (by rfl), _, rfl, ?_⟩
  have e := hk6
  try simp only [List.append_assoc, List.cons_append, List.nil_append] at e
  exact e
theorem c_C_restart (hS : tSt (K, I, Q, n)) : tw_F l G 1 0 0 mC_restart [vr (some 61)] (K, I, Q, n) none (K, uI I 61 1 0, Q, n) := by
  refine tw_intro okC_restart (Nat.le_of_ble_eq_true rfl) ?_
  refine ar_aloadn (k := 0) rfl rfl ?_
  refine ar_iconst (k := 1) rfl ?_
  refine br_putIz (k := 2) (z := 1) rfl (hS.k (by decide)) flC_15_8 (by decide) rfl (fun _ _ _ q => by cases q; exact ⟨rfl, rfl⟩) rfl ?_
  refine ar_ret (k := 3) rfl rfl rfl (Nat.le_refl _) ?_
  exact ⟨rfl, rfl⟩
theorem c_T_act {p a0 x : Int} (hS : tSt (K, I, Q, n)) (hN : WN 1 I s) (hR : RInv s) (hP : WP 1 K I Q n s) (tp : tr p) (ta0 : tr a0) : tw_M l G 8 0 0 mT_act [vr (some 0), vi p, vi a0, vi x] (K, I, Q, n) (fun r h' => r = some (vi (wrp (rActQ s p a0 x).1)) ∧ ∃ J, h' = (K, J, Q, n) ∧ tc I J (rActQ s p a0 x).2) := by
  obtain ⟨h0, h1, h2, h3, h4, h5, h6, hp, hrw, ht, hr, hb, htp, hv⟩ := id hR
  have hN2 : WN 1 (uI I 61 1 0) s := hN.fm (fun b b1 b2 => uI_off _ _ _ (by omega))
  have hk0 : tc I (uI I 61 1 0) [] := ⟨by rw [uI_at, if_pos rfl]; rfl, fun i hi => absurd hi (Nat.not_lt_zero _), fun b b1 b2 => uI_off _ _ _ b1⟩
  refine tw_intro okT_act (Nat.le_of_ble_eq_true rfl) ?_
  by_cases hno : 0 ≤ p ∧ p ≤ s 0 - 1
  · skip
    refine ar_aloadn (k := 0) rfl rfl ?_
    obtain ⟨a, hQa, ha77, han, haK, ha0, ha1, ha2, ha3⟩ := hP p (by omega) (by omega)
    rcases (show s (10 + p) = 0 ∨ s (10 + p) = 1 ∨ s (10 + p) = 2 ∨ s (10 + p) = 3 ∨ s (10 + p) = 4 ∨ s (10 + p) = 5 ∨ s (10 + p) = 6 by have := hp p (by omega) (by omega); omega) with hq | hq | hq | hq | hq | hq | hq
    · have hKa : tK (K, I, Q, n) a (2, 4) := ⟨by show K a = _; rw [haK, hq]; rfl, han⟩
      refine br_getR (k := 1) rfl (hS.k (by decide)) flT_35_11 (by decide) rfl (hS.r rfl) ?_
      refine ar_callV (k := 2) (as := []) rfl lvT_258 (hS.k (by decide)) rfl (c_C_restart hS) rfl (by decide) (by decide) tw_m0 (Nat.le_of_ble_eq_true rfl) (fun r2 h2 p2 => ?_)
      obtain ⟨rfl, rfl⟩ := p2
      refine ar_aloadn (k := 3) rfl rfl ?_
      refine br_getR (k := 4) rfl (hS.k (by decide)) flT_14_11 (by decide) rfl (hS.r rfl) ?_
      refine ar_iloadn (k := 5) rfl rfl ?_
      refine ar_callV (k := 6) (as := [_]) rfl lvT_136 (hS.k (by decide)) rfl (c_W_pYes hS hN2 hR hno hQa) rfl (by decide) (by decide) tw_m0 (Nat.le_of_ble_eq_true rfl) (fun r6 h6 p6 => ?_)
      obtain ⟨rfl, rfl⟩ := p6
      refine ar_astore (k := 7) (l2 := [(4, _), (0, _), (1, _), (2, _), (3, _)]) rfl (by decide) rfl ?_
      refine ar_aload (k := 8) rfl rfl ?_
      refine ar_ifnonnull (k := 9) rfl (fun a9 c9 => ?_) (fun c9 => ?_)
      · refine ar_iloadn (k := 12) rfl rfl ?_
        rcases (show a0 = 0 ∨ a0 = 1 ∨ a0 = 2 ∨ (a0 < 0 ∨ 2 < a0) by omega) with q13 | q13 | q13 | q13
        · refine ar_tswIn (k := 13) (t := 52) rfl (by omega) (by omega) (by omega) (by rw [q13]; rfl) (by decide) ?_
          refine ar_aload (k := 14) rfl rfl ?_
          refine ar_iloadn (k := 15) rfl rfl ?_
          refine ar_aloadn (k := 16) rfl rfl ?_
          refine br_getR (k := 17) rfl (hS.k (by decide)) flT_35_11 (by decide) rfl (hS.r rfl) ?_
          refine ar_callU (k := 18) (as := [_, _]) rfl lvT_261_H hKa rfl (c_H_lifts_H hS hk0 hKa ha77 ha1 ha2 (by decide)) rfl (by decide) (by decide) tw_m0 (Nat.le_of_ble_eq_true rfl) (fun r18 h18 p18 => ?_)
          obtain ⟨rfl, I18, rfl, hk18⟩ := p18
          refine ar_wrap ?_
          refine ar_iret (k := 19) rfl rfl rfl (Nat.le_refl _) ?_
          have e : rActQ s p a0 x = aL 0 p x := by unfold rActQ; rw [if_neg (by omega)]; rw [if_pos (by omega), hq]
          rw [e]
          exact ⟨rfl, _, rfl, hk18⟩
        · refine ar_tswIn (k := 13) (t := 63) rfl (by omega) (by omega) (by omega) (by rw [q13]; rfl) (by decide) ?_
          refine ar_aload (k := 20) rfl rfl ?_
          refine ar_iloadn (k := 21) rfl rfl ?_
          refine ar_aloadn (k := 22) rfl rfl ?_
          refine br_getR (k := 23) rfl (hS.k (by decide)) flT_35_11 (by decide) rfl (hS.r rfl) ?_
          refine ar_callU (k := 24) (as := [_, _]) rfl lvT_265_H hKa rfl (c_H_waits_H hS hk0 hKa ha77 ha1 ha2 (by decide)) rfl (by decide) (by decide) tw_m0 (Nat.le_of_ble_eq_true rfl) (fun r24 h24 p24 => ?_)
          obtain ⟨rfl, I24, rfl, hk24⟩ := p24
          refine ar_wrap ?_
          refine ar_iret (k := 25) rfl rfl rfl (Nat.le_refl _) ?_
          have e : rActQ s p a0 x = aW 0 p (s (18 + p)) x := by unfold rActQ; rw [if_neg (by omega)]; rw [if_neg (by omega), if_pos (by omega), hq]
          rw [e]
          exact ⟨rfl, _, rfl, hk24⟩
        · refine ar_tswIn (k := 13) (t := 74) rfl (by omega) (by omega) (by omega) (by rw [q13]; rfl) (by decide) ?_
          refine ar_aload (k := 26) rfl rfl ?_
          refine ar_iloadn (k := 27) rfl rfl ?_
          refine ar_aloadn (k := 28) rfl rfl ?_
          refine br_getR (k := 29) rfl (hS.k (by decide)) flT_35_11 (by decide) rfl (hS.r rfl) ?_
          refine ar_callU (k := 30) (as := [_, _]) rfl lvT_268_H hKa rfl (c_H_tells_H hS hk0 hKa ha77 ha1 ha2 (by decide)) rfl (by decide) (by decide) tw_m0 (Nat.le_of_ble_eq_true rfl) (fun r30 h30 p30 => ?_)
          obtain ⟨rfl, I30, rfl, hk30⟩ := p30
          refine ar_wrap ?_
          refine ar_iret (k := 31) rfl rfl rfl (Nat.le_refl _) ?_
          have e : rActQ s p a0 x = aT 0 p (s (18 + p)) x := by unfold rActQ; rw [if_neg (by omega)]; rw [if_neg (by omega), if_neg (by omega), hq]
          rw [e]
          exact ⟨rfl, _, rfl, hk30⟩
        · refine ar_tswOut (k := 13) (t := 85) rfl (by omega) (by omega) (by decide) ?_
          refine ar_iconst (k := 32) rfl ?_
          refine ar_iret (k := 33) rfl rfl rfl (Nat.le_refl _) ?_
          have e : rActQ s p a0 x = (0, []) := by unfold rActQ; rw [if_pos (by omega)]
          rw [e]
          exact ⟨rfl, _, rfl, hk0⟩
      · cases c9
    · have hKa : tK (K, I, Q, n) a (0, 4) := ⟨by show K a = _; rw [haK, hq]; rfl, han⟩
      refine br_getR (k := 1) rfl (hS.k (by decide)) flT_35_11 (by decide) rfl (hS.r rfl) ?_
      refine ar_callV (k := 2) (as := []) rfl lvT_258 (hS.k (by decide)) rfl (c_C_restart hS) rfl (by decide) (by decide) tw_m0 (Nat.le_of_ble_eq_true rfl) (fun r2 h2 p2 => ?_)
      obtain ⟨rfl, rfl⟩ := p2
      refine ar_aloadn (k := 3) rfl rfl ?_
      refine br_getR (k := 4) rfl (hS.k (by decide)) flT_14_11 (by decide) rfl (hS.r rfl) ?_
      refine ar_iloadn (k := 5) rfl rfl ?_
      refine ar_callV (k := 6) (as := [_]) rfl lvT_136 (hS.k (by decide)) rfl (c_W_pYes hS hN2 hR hno hQa) rfl (by decide) (by decide) tw_m0 (Nat.le_of_ble_eq_true rfl) (fun r6 h6 p6 => ?_)
      obtain ⟨rfl, rfl⟩ := p6
      refine ar_astore (k := 7) (l2 := [(4, _), (0, _), (1, _), (2, _), (3, _)]) rfl (by decide) rfl ?_
      refine ar_aload (k := 8) rfl rfl ?_
      refine ar_ifnonnull (k := 9) rfl (fun a9 c9 => ?_) (fun c9 => ?_)
      · refine ar_iloadn (k := 12) rfl rfl ?_
        rcases (show a0 = 0 ∨ a0 = 1 ∨ a0 = 2 ∨ (a0 < 0 ∨ 2 < a0) by omega) with q13 | q13 | q13 | q13
        · refine ar_tswIn (k := 13) (t := 52) rfl (by omega) (by omega) (by omega) (by rw [q13]; rfl) (by decide) ?_
          refine ar_aload (k := 14) rfl rfl ?_
          refine ar_iloadn (k := 15) rfl rfl ?_
          refine ar_aloadn (k := 16) rfl rfl ?_
          refine br_getR (k := 17) rfl (hS.k (by decide)) flT_35_11 (by decide) rfl (hS.r rfl) ?_
          refine ar_callO (k := 18) (as := [_, _]) rfl lvT_261_B hKa rfl (c_B_lifts_B hS hk0 hKa ha77 ha1 ha2 (by decide)) rfl (by decide) (by decide) tw_m0 (Nat.le_of_ble_eq_true rfl) (fun r18 h18 p18 => ?_)
          obtain ⟨rfl, I18, rfl, hk18⟩ := p18
          refine ar_wrap ?_
          refine ar_iret (k := 19) rfl rfl rfl (Nat.le_refl _) ?_
          have e : rActQ s p a0 x = aL 1 p x := by unfold rActQ; rw [if_neg (by omega)]; rw [if_pos (by omega), hq]
          rw [e]
          exact ⟨rfl, _, rfl, hk18⟩
        · refine ar_tswIn (k := 13) (t := 63) rfl (by omega) (by omega) (by omega) (by rw [q13]; rfl) (by decide) ?_
          refine ar_aload (k := 20) rfl rfl ?_
          refine ar_iloadn (k := 21) rfl rfl ?_
          refine ar_aloadn (k := 22) rfl rfl ?_
          refine br_getR (k := 23) rfl (hS.k (by decide)) flT_35_11 (by decide) rfl (hS.r rfl) ?_
          refine ar_callU (k := 24) (as := [_, _]) rfl lvT_265_B hKa rfl (c_H_waits_B hS hk0 hKa ha77 ha1 ha2 (by decide)) rfl (by decide) (by decide) tw_m0 (Nat.le_of_ble_eq_true rfl) (fun r24 h24 p24 => ?_)
          obtain ⟨rfl, I24, rfl, hk24⟩ := p24
          refine ar_wrap ?_
          refine ar_iret (k := 25) rfl rfl rfl (Nat.le_refl _) ?_
          have e : rActQ s p a0 x = aW 1 p (s (18 + p)) x := by unfold rActQ; rw [if_neg (by omega)]; rw [if_neg (by omega), if_pos (by omega), hq]
          rw [e]
          exact ⟨rfl, _, rfl, hk24⟩
        · refine ar_tswIn (k := 13) (t := 74) rfl (by omega) (by omega) (by omega) (by rw [q13]; rfl) (by decide) ?_
          refine ar_aload (k := 26) rfl rfl ?_
          refine ar_iloadn (k := 27) rfl rfl ?_
          refine ar_aloadn (k := 28) rfl rfl ?_
          refine br_getR (k := 29) rfl (hS.k (by decide)) flT_35_11 (by decide) rfl (hS.r rfl) ?_
          refine ar_callU (k := 30) (as := [_, _]) rfl lvT_268_B hKa rfl (c_H_tells_B hS hk0 hKa ha77 ha1 ha2 (by decide)) rfl (by decide) (by decide) tw_m0 (Nat.le_of_ble_eq_true rfl) (fun r30 h30 p30 => ?_)
          obtain ⟨rfl, I30, rfl, hk30⟩ := p30
          refine ar_wrap ?_
          refine ar_iret (k := 31) rfl rfl rfl (Nat.le_refl _) ?_
          have e : rActQ s p a0 x = aT 1 p (s (18 + p)) x := by unfold rActQ; rw [if_neg (by omega)]; rw [if_neg (by omega), if_neg (by omega), hq]
          rw [e]
          exact ⟨rfl, _, rfl, hk30⟩
        · refine ar_tswOut (k := 13) (t := 85) rfl (by omega) (by omega) (by decide) ?_
          refine ar_iconst (k := 32) rfl ?_
          refine ar_iret (k := 33) rfl rfl rfl (Nat.le_refl _) ?_
          have e : rActQ s p a0 x = (0, []) := by unfold rActQ; rw [if_pos (by omega)]
          rw [e]
          exact ⟨rfl, _, rfl, hk0⟩
      · cases c9
    · have hKa : tK (K, I, Q, n) a (3, 4) := ⟨by show K a = _; rw [haK, hq]; rfl, han⟩
      refine br_getR (k := 1) rfl (hS.k (by decide)) flT_35_11 (by decide) rfl (hS.r rfl) ?_
      refine ar_callV (k := 2) (as := []) rfl lvT_258 (hS.k (by decide)) rfl (c_C_restart hS) rfl (by decide) (by decide) tw_m0 (Nat.le_of_ble_eq_true rfl) (fun r2 h2 p2 => ?_)
      obtain ⟨rfl, rfl⟩ := p2
      refine ar_aloadn (k := 3) rfl rfl ?_
      refine br_getR (k := 4) rfl (hS.k (by decide)) flT_14_11 (by decide) rfl (hS.r rfl) ?_
      refine ar_iloadn (k := 5) rfl rfl ?_
      refine ar_callV (k := 6) (as := [_]) rfl lvT_136 (hS.k (by decide)) rfl (c_W_pYes hS hN2 hR hno hQa) rfl (by decide) (by decide) tw_m0 (Nat.le_of_ble_eq_true rfl) (fun r6 h6 p6 => ?_)
      obtain ⟨rfl, rfl⟩ := p6
      refine ar_astore (k := 7) (l2 := [(4, _), (0, _), (1, _), (2, _), (3, _)]) rfl (by decide) rfl ?_
      refine ar_aload (k := 8) rfl rfl ?_
      refine ar_ifnonnull (k := 9) rfl (fun a9 c9 => ?_) (fun c9 => ?_)
      · refine ar_iloadn (k := 12) rfl rfl ?_
        rcases (show a0 = 0 ∨ a0 = 1 ∨ a0 = 2 ∨ (a0 < 0 ∨ 2 < a0) by omega) with q13 | q13 | q13 | q13
        · refine ar_tswIn (k := 13) (t := 52) rfl (by omega) (by omega) (by omega) (by rw [q13]; rfl) (by decide) ?_
          refine ar_aload (k := 14) rfl rfl ?_
          refine ar_iloadn (k := 15) rfl rfl ?_
          refine ar_aloadn (k := 16) rfl rfl ?_
          refine br_getR (k := 17) rfl (hS.k (by decide)) flT_35_11 (by decide) rfl (hS.r rfl) ?_
          refine ar_callU (k := 18) (as := [_, _]) rfl lvT_261_O hKa rfl (c_H_lifts_O hS hk0 hKa ha77 ha1 ha2 (by decide)) rfl (by decide) (by decide) tw_m0 (Nat.le_of_ble_eq_true rfl) (fun r18 h18 p18 => ?_)
          obtain ⟨rfl, I18, rfl, hk18⟩ := p18
          refine ar_wrap ?_
          refine ar_iret (k := 19) rfl rfl rfl (Nat.le_refl _) ?_
          have e : rActQ s p a0 x = aL 2 p x := by unfold rActQ; rw [if_neg (by omega)]; rw [if_pos (by omega), hq]
          rw [e]
          exact ⟨rfl, _, rfl, hk18⟩
        · refine ar_tswIn (k := 13) (t := 63) rfl (by omega) (by omega) (by omega) (by rw [q13]; rfl) (by decide) ?_
          refine ar_aload (k := 20) rfl rfl ?_
          refine ar_iloadn (k := 21) rfl rfl ?_
          refine ar_aloadn (k := 22) rfl rfl ?_
          refine br_getR (k := 23) rfl (hS.k (by decide)) flT_35_11 (by decide) rfl (hS.r rfl) ?_
          refine ar_callO (k := 24) (as := [_, _]) rfl lvT_265_O hKa rfl (c_O_waits_O hS hk0 hKa ha77 ha1 ha2 (by decide)) rfl (by decide) (by decide) tw_m0 (Nat.le_of_ble_eq_true rfl) (fun r24 h24 p24 => ?_)
          obtain ⟨rfl, I24, rfl, hk24⟩ := p24
          refine ar_wrap ?_
          refine ar_iret (k := 25) rfl rfl rfl (Nat.le_refl _) ?_
          have e : rActQ s p a0 x = aW 2 p (s (18 + p)) x := by unfold rActQ; rw [if_neg (by omega)]; rw [if_neg (by omega), if_pos (by omega), hq]
          rw [e]
          exact ⟨rfl, _, rfl, hk24⟩
        · refine ar_tswIn (k := 13) (t := 74) rfl (by omega) (by omega) (by omega) (by rw [q13]; rfl) (by decide) ?_
          refine ar_aload (k := 26) rfl rfl ?_
          refine ar_iloadn (k := 27) rfl rfl ?_
          refine ar_aloadn (k := 28) rfl rfl ?_
          refine br_getR (k := 29) rfl (hS.k (by decide)) flT_35_11 (by decide) rfl (hS.r rfl) ?_
          refine ar_callU (k := 30) (as := [_, _]) rfl lvT_268_O hKa rfl (c_H_tells_O hS hk0 hKa ha77 ha1 ha2 (by decide)) rfl (by decide) (by decide) tw_m0 (Nat.le_of_ble_eq_true rfl) (fun r30 h30 p30 => ?_)
          obtain ⟨rfl, I30, rfl, hk30⟩ := p30
          refine ar_wrap ?_
          refine ar_iret (k := 31) rfl rfl rfl (Nat.le_refl _) ?_
          have e : rActQ s p a0 x = aT 2 p (s (18 + p)) x := by unfold rActQ; rw [if_neg (by omega)]; rw [if_neg (by omega), if_neg (by omega), hq]
          rw [e]
          exact ⟨rfl, _, rfl, hk30⟩
        · refine ar_tswOut (k := 13) (t := 85) rfl (by omega) (by omega) (by decide) ?_
          refine ar_iconst (k := 32) rfl ?_
          refine ar_iret (k := 33) rfl rfl rfl (Nat.le_refl _) ?_
          have e : rActQ s p a0 x = (0, []) := by unfold rActQ; rw [if_pos (by omega)]
          rw [e]
          exact ⟨rfl, _, rfl, hk0⟩
      · cases c9
    · have hKa : tK (K, I, Q, n) a (1, 4) := ⟨by show K a = _; rw [haK, hq]; rfl, han⟩
      refine br_getR (k := 1) rfl (hS.k (by decide)) flT_35_11 (by decide) rfl (hS.r rfl) ?_
      refine ar_callV (k := 2) (as := []) rfl lvT_258 (hS.k (by decide)) rfl (c_C_restart hS) rfl (by decide) (by decide) tw_m0 (Nat.le_of_ble_eq_true rfl) (fun r2 h2 p2 => ?_)
      obtain ⟨rfl, rfl⟩ := p2
      refine ar_aloadn (k := 3) rfl rfl ?_
      refine br_getR (k := 4) rfl (hS.k (by decide)) flT_14_11 (by decide) rfl (hS.r rfl) ?_
      refine ar_iloadn (k := 5) rfl rfl ?_
      refine ar_callV (k := 6) (as := [_]) rfl lvT_136 (hS.k (by decide)) rfl (c_W_pYes hS hN2 hR hno hQa) rfl (by decide) (by decide) tw_m0 (Nat.le_of_ble_eq_true rfl) (fun r6 h6 p6 => ?_)
      obtain ⟨rfl, rfl⟩ := p6
      refine ar_astore (k := 7) (l2 := [(4, _), (0, _), (1, _), (2, _), (3, _)]) rfl (by decide) rfl ?_
      refine ar_aload (k := 8) rfl rfl ?_
      refine ar_ifnonnull (k := 9) rfl (fun a9 c9 => ?_) (fun c9 => ?_)
      · refine ar_iloadn (k := 12) rfl rfl ?_
        rcases (show a0 = 0 ∨ a0 = 1 ∨ a0 = 2 ∨ (a0 < 0 ∨ 2 < a0) by omega) with q13 | q13 | q13 | q13
        · refine ar_tswIn (k := 13) (t := 52) rfl (by omega) (by omega) (by omega) (by rw [q13]; rfl) (by decide) ?_
          refine ar_aload (k := 14) rfl rfl ?_
          refine ar_iloadn (k := 15) rfl rfl ?_
          refine ar_aloadn (k := 16) rfl rfl ?_
          refine br_getR (k := 17) rfl (hS.k (by decide)) flT_35_11 (by decide) rfl (hS.r rfl) ?_
          refine ar_callU (k := 18) (as := [_, _]) rfl lvT_261_G hKa rfl (c_H_lifts_G hS hk0 hKa ha77 ha1 ha2 (by decide)) rfl (by decide) (by decide) tw_m0 (Nat.le_of_ble_eq_true rfl) (fun r18 h18 p18 => ?_)
          obtain ⟨rfl, I18, rfl, hk18⟩ := p18
          refine ar_wrap ?_
          refine ar_iret (k := 19) rfl rfl rfl (Nat.le_refl _) ?_
          have e : rActQ s p a0 x = aL 3 p x := by unfold rActQ; rw [if_neg (by omega)]; rw [if_pos (by omega), hq]
          rw [e]
          exact ⟨rfl, _, rfl, hk18⟩
        · refine ar_tswIn (k := 13) (t := 63) rfl (by omega) (by omega) (by omega) (by rw [q13]; rfl) (by decide) ?_
          refine ar_aload (k := 20) rfl rfl ?_
          refine ar_iloadn (k := 21) rfl rfl ?_
          refine ar_aloadn (k := 22) rfl rfl ?_
          refine br_getR (k := 23) rfl (hS.k (by decide)) flT_35_11 (by decide) rfl (hS.r rfl) ?_
          refine ar_callU (k := 24) (as := [_, _]) rfl lvT_265_G hKa rfl (c_H_waits_G hS hk0 hKa ha77 ha1 ha2 (by decide)) rfl (by decide) (by decide) tw_m0 (Nat.le_of_ble_eq_true rfl) (fun r24 h24 p24 => ?_)
          obtain ⟨rfl, I24, rfl, hk24⟩ := p24
          refine ar_wrap ?_
          refine ar_iret (k := 25) rfl rfl rfl (Nat.le_refl _) ?_
          have e : rActQ s p a0 x = aW 3 p (s (18 + p)) x := by unfold rActQ; rw [if_neg (by omega)]; rw [if_neg (by omega), if_pos (by omega), hq]
          rw [e]
          exact ⟨rfl, _, rfl, hk24⟩
        · refine ar_tswIn (k := 13) (t := 74) rfl (by omega) (by omega) (by omega) (by rw [q13]; rfl) (by decide) ?_
          refine ar_aload (k := 26) rfl rfl ?_
          refine ar_iloadn (k := 27) rfl rfl ?_
          refine ar_aloadn (k := 28) rfl rfl ?_
          refine br_getR (k := 29) rfl (hS.k (by decide)) flT_35_11 (by decide) rfl (hS.r rfl) ?_
          refine ar_callO (k := 30) (as := [_, _]) rfl lvT_268_G hKa rfl (c_G_tells_G hS hk0 hKa ha77 ha1 ha2 (by decide)) rfl (by decide) (by decide) tw_m0 (Nat.le_of_ble_eq_true rfl) (fun r30 h30 p30 => ?_)
          obtain ⟨rfl, I30, rfl, hk30⟩ := p30
          refine ar_wrap ?_
          refine ar_iret (k := 31) rfl rfl rfl (Nat.le_refl _) ?_
          have e : rActQ s p a0 x = aT 3 p (s (18 + p)) x := by unfold rActQ; rw [if_neg (by omega)]; rw [if_neg (by omega), if_neg (by omega), hq]
          rw [e]
          exact ⟨rfl, _, rfl, hk30⟩
        · refine ar_tswOut (k := 13) (t := 85) rfl (by omega) (by omega) (by decide) ?_
          refine ar_iconst (k := 32) rfl ?_
          refine ar_iret (k := 33) rfl rfl rfl (Nat.le_refl _) ?_
          have e : rActQ s p a0 x = (0, []) := by unfold rActQ; rw [if_pos (by omega)]
          rw [e]
          exact ⟨rfl, _, rfl, hk0⟩
      · cases c9
    · have hKa : tK (K, I, Q, n) a (5, 4) := ⟨by show K a = _; rw [haK, hq]; rfl, han⟩
      refine br_getR (k := 1) rfl (hS.k (by decide)) flT_35_11 (by decide) rfl (hS.r rfl) ?_
      refine ar_callV (k := 2) (as := []) rfl lvT_258 (hS.k (by decide)) rfl (c_C_restart hS) rfl (by decide) (by decide) tw_m0 (Nat.le_of_ble_eq_true rfl) (fun r2 h2 p2 => ?_)
      obtain ⟨rfl, rfl⟩ := p2
      refine ar_aloadn (k := 3) rfl rfl ?_
      refine br_getR (k := 4) rfl (hS.k (by decide)) flT_14_11 (by decide) rfl (hS.r rfl) ?_
      refine ar_iloadn (k := 5) rfl rfl ?_
      refine ar_callV (k := 6) (as := [_]) rfl lvT_136 (hS.k (by decide)) rfl (c_W_pYes hS hN2 hR hno hQa) rfl (by decide) (by decide) tw_m0 (Nat.le_of_ble_eq_true rfl) (fun r6 h6 p6 => ?_)
      obtain ⟨rfl, rfl⟩ := p6
      refine ar_astore (k := 7) (l2 := [(4, _), (0, _), (1, _), (2, _), (3, _)]) rfl (by decide) rfl ?_
      refine ar_aload (k := 8) rfl rfl ?_
      refine ar_ifnonnull (k := 9) rfl (fun a9 c9 => ?_) (fun c9 => ?_)
      · refine ar_iloadn (k := 12) rfl rfl ?_
        rcases (show a0 = 0 ∨ a0 = 1 ∨ a0 = 2 ∨ (a0 < 0 ∨ 2 < a0) by omega) with q13 | q13 | q13 | q13
        · refine ar_tswIn (k := 13) (t := 52) rfl (by omega) (by omega) (by omega) (by rw [q13]; rfl) (by decide) ?_
          refine ar_aload (k := 14) rfl rfl ?_
          refine ar_iloadn (k := 15) rfl rfl ?_
          refine ar_aloadn (k := 16) rfl rfl ?_
          refine br_getR (k := 17) rfl (hS.k (by decide)) flT_35_11 (by decide) rfl (hS.r rfl) ?_
          refine ar_callO (k := 18) (as := [_, _]) rfl lvT_261_L hKa rfl (c_B_lifts_L hS hk0 hKa ha77 ha1 ha2 (by decide)) rfl (by decide) (by decide) tw_m0 (Nat.le_of_ble_eq_true rfl) (fun r18 h18 p18 => ?_)
          obtain ⟨rfl, I18, rfl, hk18⟩ := p18
          refine ar_wrap ?_
          refine ar_iret (k := 19) rfl rfl rfl (Nat.le_refl _) ?_
          have e : rActQ s p a0 x = aL 4 p x := by unfold rActQ; rw [if_neg (by omega)]; rw [if_pos (by omega), hq]
          rw [e]
          exact ⟨rfl, _, rfl, hk18⟩
        · refine ar_tswIn (k := 13) (t := 63) rfl (by omega) (by omega) (by omega) (by rw [q13]; rfl) (by decide) ?_
          refine ar_aload (k := 20) rfl rfl ?_
          refine ar_iloadn (k := 21) rfl rfl ?_
          refine ar_aloadn (k := 22) rfl rfl ?_
          refine br_getR (k := 23) rfl (hS.k (by decide)) flT_35_11 (by decide) rfl (hS.r rfl) ?_
          refine ar_callU (k := 24) (as := [_, _]) rfl lvT_265_L hKa rfl (c_H_waits_L hS hk0 hKa ha77 ha1 ha2 (by decide)) rfl (by decide) (by decide) tw_m0 (Nat.le_of_ble_eq_true rfl) (fun r24 h24 p24 => ?_)
          obtain ⟨rfl, I24, rfl, hk24⟩ := p24
          refine ar_wrap ?_
          refine ar_iret (k := 25) rfl rfl rfl (Nat.le_refl _) ?_
          have e : rActQ s p a0 x = aW 4 p (s (18 + p)) x := by unfold rActQ; rw [if_neg (by omega)]; rw [if_neg (by omega), if_pos (by omega), hq]
          rw [e]
          exact ⟨rfl, _, rfl, hk24⟩
        · refine ar_tswIn (k := 13) (t := 74) rfl (by omega) (by omega) (by omega) (by rw [q13]; rfl) (by decide) ?_
          refine ar_aload (k := 26) rfl rfl ?_
          refine ar_iloadn (k := 27) rfl rfl ?_
          refine ar_aloadn (k := 28) rfl rfl ?_
          refine br_getR (k := 29) rfl (hS.k (by decide)) flT_35_11 (by decide) rfl (hS.r rfl) ?_
          refine ar_callO (k := 30) (as := [_, _]) rfl lvT_268_L hKa rfl (c_L_tells_L hS hk0 hKa ha77 ha1 ha2 (by decide)) rfl (by decide) (by decide) tw_m0 (Nat.le_of_ble_eq_true rfl) (fun r30 h30 p30 => ?_)
          obtain ⟨rfl, I30, rfl, hk30⟩ := p30
          refine ar_wrap ?_
          refine ar_iret (k := 31) rfl rfl rfl (Nat.le_refl _) ?_
          have e : rActQ s p a0 x = aT 4 p (s (18 + p)) x := by unfold rActQ; rw [if_neg (by omega)]; rw [if_neg (by omega), if_neg (by omega), hq]
          rw [e]
          exact ⟨rfl, _, rfl, hk30⟩
        · refine ar_tswOut (k := 13) (t := 85) rfl (by omega) (by omega) (by decide) ?_
          refine ar_iconst (k := 32) rfl ?_
          refine ar_iret (k := 33) rfl rfl rfl (Nat.le_refl _) ?_
          have e : rActQ s p a0 x = (0, []) := by unfold rActQ; rw [if_pos (by omega)]
          rw [e]
          exact ⟨rfl, _, rfl, hk0⟩
      · cases c9
    · have hKa : tK (K, I, Q, n) a (4, 4) := ⟨by show K a = _; rw [haK, hq]; rfl, han⟩
      refine br_getR (k := 1) rfl (hS.k (by decide)) flT_35_11 (by decide) rfl (hS.r rfl) ?_
      refine ar_callV (k := 2) (as := []) rfl lvT_258 (hS.k (by decide)) rfl (c_C_restart hS) rfl (by decide) (by decide) tw_m0 (Nat.le_of_ble_eq_true rfl) (fun r2 h2 p2 => ?_)
      obtain ⟨rfl, rfl⟩ := p2
      refine ar_aloadn (k := 3) rfl rfl ?_
      refine br_getR (k := 4) rfl (hS.k (by decide)) flT_14_11 (by decide) rfl (hS.r rfl) ?_
      refine ar_iloadn (k := 5) rfl rfl ?_
      refine ar_callV (k := 6) (as := [_]) rfl lvT_136 (hS.k (by decide)) rfl (c_W_pYes hS hN2 hR hno hQa) rfl (by decide) (by decide) tw_m0 (Nat.le_of_ble_eq_true rfl) (fun r6 h6 p6 => ?_)
      obtain ⟨rfl, rfl⟩ := p6
      refine ar_astore (k := 7) (l2 := [(4, _), (0, _), (1, _), (2, _), (3, _)]) rfl (by decide) rfl ?_
      refine ar_aload (k := 8) rfl rfl ?_
      refine ar_ifnonnull (k := 9) rfl (fun a9 c9 => ?_) (fun c9 => ?_)
      · refine ar_iloadn (k := 12) rfl rfl ?_
        rcases (show a0 = 0 ∨ a0 = 1 ∨ a0 = 2 ∨ (a0 < 0 ∨ 2 < a0) by omega) with q13 | q13 | q13 | q13
        · refine ar_tswIn (k := 13) (t := 52) rfl (by omega) (by omega) (by omega) (by rw [q13]; rfl) (by decide) ?_
          refine ar_aload (k := 14) rfl rfl ?_
          refine ar_iloadn (k := 15) rfl rfl ?_
          refine ar_aloadn (k := 16) rfl rfl ?_
          refine br_getR (k := 17) rfl (hS.k (by decide)) flT_35_11 (by decide) rfl (hS.r rfl) ?_
          refine ar_callO (k := 18) (as := [_, _]) rfl lvT_261_A hKa rfl (c_A_lifts_A hS hk0 hKa ha77 ha1 ha2 (by decide)) rfl (by decide) (by decide) tw_m0 (Nat.le_of_ble_eq_true rfl) (fun r18 h18 p18 => ?_)
          obtain ⟨rfl, I18, rfl, hk18⟩ := p18
          refine ar_wrap ?_
          refine ar_iret (k := 19) rfl rfl rfl (Nat.le_refl _) ?_
          have e : rActQ s p a0 x = aL 5 p x := by unfold rActQ; rw [if_neg (by omega)]; rw [if_pos (by omega), hq]
          rw [e]
          exact ⟨rfl, _, rfl, hk18⟩
        · refine ar_tswIn (k := 13) (t := 63) rfl (by omega) (by omega) (by omega) (by rw [q13]; rfl) (by decide) ?_
          refine ar_aload (k := 20) rfl rfl ?_
          refine ar_iloadn (k := 21) rfl rfl ?_
          refine ar_aloadn (k := 22) rfl rfl ?_
          refine br_getR (k := 23) rfl (hS.k (by decide)) flT_35_11 (by decide) rfl (hS.r rfl) ?_
          refine ar_callO (k := 24) (as := [_, _]) rfl lvT_265_A hKa rfl (c_O_waits_A hS hk0 hKa ha77 ha1 ha2 (by decide)) rfl (by decide) (by decide) tw_m0 (Nat.le_of_ble_eq_true rfl) (fun r24 h24 p24 => ?_)
          obtain ⟨rfl, I24, rfl, hk24⟩ := p24
          refine ar_wrap ?_
          refine ar_iret (k := 25) rfl rfl rfl (Nat.le_refl _) ?_
          have e : rActQ s p a0 x = aW 5 p (s (18 + p)) x := by unfold rActQ; rw [if_neg (by omega)]; rw [if_neg (by omega), if_pos (by omega), hq]
          rw [e]
          exact ⟨rfl, _, rfl, hk24⟩
        · refine ar_tswIn (k := 13) (t := 74) rfl (by omega) (by omega) (by omega) (by rw [q13]; rfl) (by decide) ?_
          refine ar_aload (k := 26) rfl rfl ?_
          refine ar_iloadn (k := 27) rfl rfl ?_
          refine ar_aloadn (k := 28) rfl rfl ?_
          refine br_getR (k := 29) rfl (hS.k (by decide)) flT_35_11 (by decide) rfl (hS.r rfl) ?_
          refine ar_callU (k := 30) (as := [_, _]) rfl lvT_268_A hKa rfl (c_H_tells_A hS hk0 hKa ha77 ha1 ha2 (by decide)) rfl (by decide) (by decide) tw_m0 (Nat.le_of_ble_eq_true rfl) (fun r30 h30 p30 => ?_)
          obtain ⟨rfl, I30, rfl, hk30⟩ := p30
          refine ar_wrap ?_
          refine ar_iret (k := 31) rfl rfl rfl (Nat.le_refl _) ?_
          have e : rActQ s p a0 x = aT 5 p (s (18 + p)) x := by unfold rActQ; rw [if_neg (by omega)]; rw [if_neg (by omega), if_neg (by omega), hq]
          rw [e]
          exact ⟨rfl, _, rfl, hk30⟩
        · refine ar_tswOut (k := 13) (t := 85) rfl (by omega) (by omega) (by decide) ?_
          refine ar_iconst (k := 32) rfl ?_
          refine ar_iret (k := 33) rfl rfl rfl (Nat.le_refl _) ?_
          have e : rActQ s p a0 x = (0, []) := by unfold rActQ; rw [if_pos (by omega)]
          rw [e]
          exact ⟨rfl, _, rfl, hk0⟩
      · cases c9
    · have hKa : tK (K, I, Q, n) a (7, 4) := ⟨by show K a = _; rw [haK, hq]; rfl, han⟩
      refine br_getR (k := 1) rfl (hS.k (by decide)) flT_35_11 (by decide) rfl (hS.r rfl) ?_
      refine ar_callV (k := 2) (as := []) rfl lvT_258 (hS.k (by decide)) rfl (c_C_restart hS) rfl (by decide) (by decide) tw_m0 (Nat.le_of_ble_eq_true rfl) (fun r2 h2 p2 => ?_)
      obtain ⟨rfl, rfl⟩ := p2
      refine ar_aloadn (k := 3) rfl rfl ?_
      refine br_getR (k := 4) rfl (hS.k (by decide)) flT_14_11 (by decide) rfl (hS.r rfl) ?_
      refine ar_iloadn (k := 5) rfl rfl ?_
      refine ar_callV (k := 6) (as := [_]) rfl lvT_136 (hS.k (by decide)) rfl (c_W_pYes hS hN2 hR hno hQa) rfl (by decide) (by decide) tw_m0 (Nat.le_of_ble_eq_true rfl) (fun r6 h6 p6 => ?_)
      obtain ⟨rfl, rfl⟩ := p6
      refine ar_astore (k := 7) (l2 := [(4, _), (0, _), (1, _), (2, _), (3, _)]) rfl (by decide) rfl ?_
      refine ar_aload (k := 8) rfl rfl ?_
      refine ar_ifnonnull (k := 9) rfl (fun a9 c9 => ?_) (fun c9 => ?_)
      · refine ar_iloadn (k := 12) rfl rfl ?_
        rcases (show a0 = 0 ∨ a0 = 1 ∨ a0 = 2 ∨ (a0 < 0 ∨ 2 < a0) by omega) with q13 | q13 | q13 | q13
        · refine ar_tswIn (k := 13) (t := 52) rfl (by omega) (by omega) (by omega) (by rw [q13]; rfl) (by decide) ?_
          refine ar_aload (k := 14) rfl rfl ?_
          refine ar_iloadn (k := 15) rfl rfl ?_
          refine ar_aloadn (k := 16) rfl rfl ?_
          refine br_getR (k := 17) rfl (hS.k (by decide)) flT_35_11 (by decide) rfl (hS.r rfl) ?_
          refine ar_callU (k := 18) (as := [_, _]) rfl lvT_261_D hKa rfl (c_H_lifts_D hS hk0 hKa ha77 ha1 ha2 (by decide)) rfl (by decide) (by decide) tw_m0 (Nat.le_of_ble_eq_true rfl) (fun r18 h18 p18 => ?_)
          obtain ⟨rfl, I18, rfl, hk18⟩ := p18
          refine ar_wrap ?_
          refine ar_iret (k := 19) rfl rfl rfl (Nat.le_refl _) ?_
          have e : rActQ s p a0 x = aL 6 p x := by unfold rActQ; rw [if_neg (by omega)]; rw [if_pos (by omega), hq]
          rw [e]
          exact ⟨rfl, _, rfl, hk18⟩
        · refine ar_tswIn (k := 13) (t := 63) rfl (by omega) (by omega) (by omega) (by rw [q13]; rfl) (by decide) ?_
          refine ar_aload (k := 20) rfl rfl ?_
          refine ar_iloadn (k := 21) rfl rfl ?_
          refine ar_aloadn (k := 22) rfl rfl ?_
          refine br_getR (k := 23) rfl (hS.k (by decide)) flT_35_11 (by decide) rfl (hS.r rfl) ?_
          refine ar_callO (k := 24) (as := [_, _]) rfl lvT_265_D hKa rfl (c_D_waits_D hS hk0 hKa ha77 ha1 ha2 (by decide)) rfl (by decide) (by decide) tw_m0 (Nat.le_of_ble_eq_true rfl) (fun r24 h24 p24 => ?_)
          obtain ⟨rfl, I24, rfl, hk24⟩ := p24
          refine ar_wrap ?_
          refine ar_iret (k := 25) rfl rfl rfl (Nat.le_refl _) ?_
          have e : rActQ s p a0 x = aW 6 p (s (18 + p)) x := by unfold rActQ; rw [if_neg (by omega)]; rw [if_neg (by omega), if_pos (by omega), hq]
          rw [e]
          exact ⟨rfl, _, rfl, hk24⟩
        · refine ar_tswIn (k := 13) (t := 74) rfl (by omega) (by omega) (by omega) (by rw [q13]; rfl) (by decide) ?_
          refine ar_aload (k := 26) rfl rfl ?_
          refine ar_iloadn (k := 27) rfl rfl ?_
          refine ar_aloadn (k := 28) rfl rfl ?_
          refine br_getR (k := 29) rfl (hS.k (by decide)) flT_35_11 (by decide) rfl (hS.r rfl) ?_
          refine ar_callO (k := 30) (as := [_, _]) rfl lvT_268_D hKa rfl (c_G_tells_D hS hk0 hKa ha77 ha1 ha2 (by decide)) rfl (by decide) (by decide) tw_m0 (Nat.le_of_ble_eq_true rfl) (fun r30 h30 p30 => ?_)
          obtain ⟨rfl, I30, rfl, hk30⟩ := p30
          refine ar_wrap ?_
          refine ar_iret (k := 31) rfl rfl rfl (Nat.le_refl _) ?_
          have e : rActQ s p a0 x = aT 6 p (s (18 + p)) x := by unfold rActQ; rw [if_neg (by omega)]; rw [if_neg (by omega), if_neg (by omega), hq]
          rw [e]
          exact ⟨rfl, _, rfl, hk30⟩
        · refine ar_tswOut (k := 13) (t := 85) rfl (by omega) (by omega) (by decide) ?_
          refine ar_iconst (k := 32) rfl ?_
          refine ar_iret (k := 33) rfl rfl rfl (Nat.le_refl _) ?_
          have e : rActQ s p a0 x = (0, []) := by unfold rActQ; rw [if_pos (by omega)]
          rw [e]
          exact ⟨rfl, _, rfl, hk0⟩
      · cases c9
  · skip
    refine ar_aloadn (k := 0) rfl rfl ?_
    skip
    · skip
      refine br_getR (k := 1) rfl (hS.k (by decide)) flT_35_11 (by decide) rfl (hS.r rfl) ?_
      refine ar_callV (k := 2) (as := []) rfl lvT_258 (hS.k (by decide)) rfl (c_C_restart hS) rfl (by decide) (by decide) tw_m0 (Nat.le_of_ble_eq_true rfl) (fun r2 h2 p2 => ?_)
      obtain ⟨rfl, rfl⟩ := p2
      refine ar_aloadn (k := 3) rfl rfl ?_
      refine br_getR (k := 4) rfl (hS.k (by decide)) flT_14_11 (by decide) rfl (hS.r rfl) ?_
      refine ar_iloadn (k := 5) rfl rfl ?_
      refine ar_callV (k := 6) (as := [_]) rfl lvT_136 (hS.k (by decide)) rfl (c_W_pNo hS hN2 hR (by omega) hno) rfl (by decide) (by decide) tw_m0 (Nat.le_of_ble_eq_true rfl) (fun r6 h6 p6 => ?_)
      obtain ⟨rfl, rfl⟩ := p6
      refine ar_astore (k := 7) (l2 := [(4, _), (0, _), (1, _), (2, _), (3, _)]) rfl (by decide) rfl ?_
      refine ar_aload (k := 8) rfl rfl ?_
      refine ar_ifnonnull (k := 9) rfl (fun a9 c9 => ?_) (fun c9 => ?_)
      · cases c9
      · refine ar_iconst (k := 10) rfl ?_
        refine ar_iret (k := 11) rfl rfl rfl (Nat.le_refl _) ?_
        have e : rActQ s p a0 x = (0, []) := by unfold rActQ; rw [if_pos (by omega)]
        rw [e]
        exact ⟨rfl, _, rfl, hk0⟩
end CA
