section CW
variable {l : Launch} {G : tG} {K : Nat → Nat × Nat} {I : Nat → Int → Int} {Q : Nat → Int → Option Nat} {n : Nat} {s : Int → Int}
theorem ar_skip {M : tM} {d mc ms n0 c2 : Nat} {P : Option tV → tH → Prop} {pc : Nat} {ls : List (Nat × tV)} {st : List tV} {h : tH} (k : tw_AW l G M d mc ms n0 c2 P pc ls st h) : tw_AW l G M d mc ms n0 c2 P pc ls st h := k
theorem c_H_comes_H {p u : Int} {a : Nat} (hS : tSt (K, I, Q, n)) (hq : Q 40 1 = some 1) (hN : WN 1 I s) (hR : RInv s) (hV : RVal s) (hB : PB I s) (hKa : tK (K, I, Q, n) a (2, 4)) (ha1 : I a 1 = p) (ha2 : I a 2 = s (18 + p)) (p1 : 0 ≤ p ∧ p < s 0) (u1 : 0 ≤ u ∧ u ≤ 23) : tw_F l G 2 0 0 mH_comes [vr (some a), vr (some 1), vi u] (K, I, Q, n) (some (vi (if rFreeP s p u then 1 else 0))) (K, I, Q, n) := by
  obtain ⟨h0, h1, h2, h3, h4, h5, h6, hp, hrw, ht, hr, hb, htp, hv⟩ := id hR
  have a1 := rLeast_bd (s := s) (p := p) h1.1
  have a2 := rHome_bd (s := s) (p := p) h1.1
  have a3 := rBest_bd (s := s) (p := p) (u := u) (g := 0) h1.1
  have a4 := rBest_bd (s := s) (p := p) (u := u) (g := 1) h1.1
  have hbl := rBell_bd hR
  have hpp := hp p (by omega) (by omega)
  refine tw_intro okH_comes (Nat.le_of_ble_eq_true rfl) ?_
  refine ar_aloadn (k := 0) rfl rfl ?_
  refine ar_aloadn (k := 1) rfl rfl ?_
  refine br_getIz (k := 2) (z := 1) rfl hKa flH_15_2 (by decide) rfl rfl ?_
  refine tw_top ha1 ?_
  refine ar_iloadn (k := 3) rfl rfl ?_
  refine ar_callV (k := 4) (as := [_, _]) rfl lvH_42 (hS.k (by decide)) rfl (c_W_isFree hS hN hR p1) rfl (by decide) (by decide) tw_m0 (Nat.le_of_ble_eq_true rfl) (fun r4 h4 p4 => ?_)
  obtain ⟨rfl, rfl⟩ := p4
  refine ar_zret (k := 5) rfl rfl (by omega) rfl (Nat.le_refl _) ?_
  exact ⟨rfl, rfl⟩
theorem c_H_picks_H {p u : Int} {a : Nat} (hS : tSt (K, I, Q, n)) (hq : Q 40 1 = some 1) (hN : WN 1 I s) (hR : RInv s) (hV : RVal s) (hB : PB I s) (hKa : tK (K, I, Q, n) a (2, 4)) (ha1 : I a 1 = p) (ha2 : I a 2 = s (18 + p)) (p1 : 0 ≤ p ∧ p < s 0) (u1 : 0 ≤ u ∧ u ≤ 23) : tw_F l G 2 0 0 mH_picks [vr (some a), vr (some 40), vi u] (K, I, Q, n) (some (vi (n5' (rLeast s p)))) (K, I, Q, n) := by
  obtain ⟨h0, h1, h2, h3, h4, h5, h6, hp, hrw, ht, hr, hb, htp, hv⟩ := id hR
  have a1 := rLeast_bd (s := s) (p := p) h1.1
  have a2 := rHome_bd (s := s) (p := p) h1.1
  have a3 := rBest_bd (s := s) (p := p) (u := u) (g := 0) h1.1
  have a4 := rBest_bd (s := s) (p := p) (u := u) (g := 1) h1.1
  have hbl := rBell_bd hR
  have hpp := hp p (by omega) (by omega)
  refine tw_intro okH_picks (Nat.le_of_ble_eq_true rfl) ?_
  refine ar_aloadn (k := 0) rfl rfl ?_
  refine ar_aloadn (k := 1) rfl rfl ?_
  refine ar_aloadn (k := 2) rfl rfl ?_
  refine br_getIz (k := 3) (z := 1) rfl hKa flH_15_2 (by decide) rfl rfl ?_
  refine tw_top ha1 ?_
  refine ar_callV (k := 4) (as := [_]) rfl lvH_48 (hS.k (by decide)) rfl (c_P_fitOf hS (by omega)) rfl (by decide) (by decide) tw_m0 (Nat.le_of_ble_eq_true rfl) (fun r4 h4 p4 => ?_)
  obtain ⟨rfl, rfl⟩ := p4
  refine ar_callV (k := 5) (as := [_]) rfl lvH_52 (hS.k (by decide)) rfl (c_P_least hS hq hN hR hB) rfl (by decide) (by decide) tw_m0 (Nat.le_of_ble_eq_true rfl) (fun r5 h5 p5 => ?_)
  obtain ⟨rfl, rfl⟩ := p5
  refine ar_iret (k := 6) rfl rfl rfl (Nat.le_refl _) ?_
  exact ⟨congrArg (fun z => some (vi z)) (lm5 hB h1 (by omega)), rfl⟩
theorem c_H_comes_B {p u : Int} {a : Nat} (hS : tSt (K, I, Q, n)) (hq : Q 40 1 = some 1) (hN : WN 1 I s) (hR : RInv s) (hV : RVal s) (hB : PB I s) (hKa : tK (K, I, Q, n) a (0, 4)) (ha1 : I a 1 = p) (ha2 : I a 2 = s (18 + p)) (p1 : 0 ≤ p ∧ p < s 0) (u1 : 0 ≤ u ∧ u ≤ 23) : tw_F l G 2 0 0 mH_comes [vr (some a), vr (some 1), vi u] (K, I, Q, n) (some (vi (if rFreeP s p u then 1 else 0))) (K, I, Q, n) := by
  obtain ⟨h0, h1, h2, h3, h4, h5, h6, hp, hrw, ht, hr, hb, htp, hv⟩ := id hR
  have a1 := rLeast_bd (s := s) (p := p) h1.1
  have a2 := rHome_bd (s := s) (p := p) h1.1
  have a3 := rBest_bd (s := s) (p := p) (u := u) (g := 0) h1.1
  have a4 := rBest_bd (s := s) (p := p) (u := u) (g := 1) h1.1
  have hbl := rBell_bd hR
  have hpp := hp p (by omega) (by omega)
  refine tw_intro okH_comes (Nat.le_of_ble_eq_true rfl) ?_
  refine ar_aloadn (k := 0) rfl rfl ?_
  refine ar_aloadn (k := 1) rfl rfl ?_
  refine br_getIz (k := 2) (z := 1) rfl hKa flH_15_0 (by decide) rfl rfl ?_
  refine tw_top ha1 ?_
  refine ar_iloadn (k := 3) rfl rfl ?_
  refine ar_callV (k := 4) (as := [_, _]) rfl lvH_42 (hS.k (by decide)) rfl (c_W_isFree hS hN hR p1) rfl (by decide) (by decide) tw_m0 (Nat.le_of_ble_eq_true rfl) (fun r4 h4 p4 => ?_)
  obtain ⟨rfl, rfl⟩ := p4
  refine ar_zret (k := 5) rfl rfl (by omega) rfl (Nat.le_refl _) ?_
  exact ⟨rfl, rfl⟩
theorem c_B_picks_B {p u : Int} {a : Nat} (hS : tSt (K, I, Q, n)) (hq : Q 40 1 = some 1) (hN : WN 1 I s) (hR : RInv s) (hV : RVal s) (hB : PB I s) (hKa : tK (K, I, Q, n) a (0, 4)) (ha1 : I a 1 = p) (ha2 : I a 2 = s (18 + p)) (p1 : 0 ≤ p ∧ p < s 0) (u1 : 0 ≤ u ∧ u ≤ 23) : tw_F l G 2 0 0 mB_picks [vr (some a), vr (some 40), vi u] (K, I, Q, n) (some (vi (n5' (if u % rBell s = 0 then rBest s p u 0 else -1)))) (K, I, Q, n) := by
  obtain ⟨h0, h1, h2, h3, h4, h5, h6, hp, hrw, ht, hr, hb, htp, hv⟩ := id hR
  have a1 := rLeast_bd (s := s) (p := p) h1.1
  have a2 := rHome_bd (s := s) (p := p) h1.1
  have a3 := rBest_bd (s := s) (p := p) (u := u) (g := 0) h1.1
  have a4 := rBest_bd (s := s) (p := p) (u := u) (g := 1) h1.1
  have hbl := rBell_bd hR
  have hpp := hp p (by omega) (by omega)
  refine tw_intro okB_picks (Nat.le_of_ble_eq_true rfl) ?_
  refine ar_aloadn (k := 0) rfl rfl ?_
  refine br_getIz (k := 1) (z := 2) rfl (hS.k (by decide)) flB_9_6 (by decide) rfl rfl ?_
  refine tw_top hB.1 ?_
  refine ar_if_le (k := 2) rfl (by omega) (fun c2 => ?_) (fun c2 => ?_)
  · refine ar_iconst (k := 10) rfl ?_
    refine ar_istoren (k := 11) (l2 := [(3, _), (0, _), (1, _), (2, _)]) rfl (by decide) rfl ?_
    refine ar_iloadn (k := 12) rfl rfl ?_
    refine ar_if_eq (k := 13) rfl (by omega) (fun c13 => ?_) (fun c13 => ?_)
    · refine ar_bipush (k := 22) rfl (by decide) ?_
      refine ar_iret (k := 23) rfl rfl rfl (Nat.le_refl _) ?_
      first
        | (exfalso; omega)
        | (rw [if_pos (by omega)]; exact ⟨rfl, rfl⟩)
        | (rw [if_neg (by omega)]; exact ⟨rfl, rfl⟩)
    · refine ar_aloadn (k := 14) rfl rfl ?_
      refine ar_aloadn (k := 15) rfl rfl ?_
      refine ar_aloadn (k := 16) rfl rfl ?_
      refine br_getIz (k := 17) (z := 1) rfl hKa flB_15_0 (by decide) rfl rfl ?_
      refine tw_top ha1 ?_
      refine ar_callV (k := 18) (as := [_]) rfl lvB_20 (hS.k (by decide)) rfl (c_P_fitOf hS (by omega)) rfl (by decide) (by decide) tw_m0 (Nat.le_of_ble_eq_true rfl) (fun r18 h18 p18 => ?_)
      obtain ⟨rfl, rfl⟩ := p18
      refine ar_iloadn (k := 19) rfl rfl ?_
      refine ar_callV (k := 20) (as := [_, _]) rfl lvB_24 (hS.k (by decide)) rfl (c_P_dearest (p := p) (g := 0) hS hq hN hR hB hV u1 (fun t t1 => by rw [fit_of hB (by omega) (by omega)]; exact ⟨fun z => ⟨z.2, Or.inl rfl⟩, fun z => ⟨t1, z.1⟩⟩)) rfl (by decide) (by decide) tw_m0 (Nat.le_of_ble_eq_true rfl) (fun r20 h20 p20 => ?_)
      obtain ⟨rfl, rfl⟩ := p20
      refine ar_goto (k := 21) rfl ?_
      refine ar_iret (k := 23) rfl rfl rfl (Nat.le_refl _) ?_
      first
        | (exfalso; omega)
        | (rw [if_pos (by omega)]; exact ⟨rfl, rfl⟩)
        | (rw [if_neg (by omega)]; exact ⟨rfl, rfl⟩)
  · have hm9 := Int.emod_nonneg u (show rBell s ≠ 0 by omega)
    have hm8 := Int.emod_lt_of_pos u (show 0 < rBell s by omega)
    refine ar_iloadn (k := 3) rfl rfl ?_
    refine ar_aloadn (k := 4) rfl rfl ?_
    refine br_getIz (k := 5) (z := 2) rfl (hS.k (by decide)) flB_9_6 (by decide) rfl rfl ?_
    refine tw_top hB.1 ?_
    refine ar_irem (k := 6) rfl (by omega) (by omega) (by omega) ?_
    refine tw_top (y := u % rBell s) (by exact Int.tmod_eq_emod_of_nonneg (by omega)) ?_
    refine ar_if_ne (k := 7) rfl (by omega) (fun c7 => ?_) (fun c7 => ?_)
    · refine ar_iconst (k := 10) rfl ?_
      refine ar_istoren (k := 11) (l2 := [(3, _), (0, _), (1, _), (2, _)]) rfl (by decide) rfl ?_
      refine ar_iloadn (k := 12) rfl rfl ?_
      refine ar_if_eq (k := 13) rfl (by omega) (fun c13 => ?_) (fun c13 => ?_)
      · refine ar_bipush (k := 22) rfl (by decide) ?_
        refine ar_iret (k := 23) rfl rfl rfl (Nat.le_refl _) ?_
        first
          | (exfalso; omega)
          | (rw [if_pos (by omega)]; exact ⟨rfl, rfl⟩)
          | (rw [if_neg (by omega)]; exact ⟨rfl, rfl⟩)
      · refine ar_aloadn (k := 14) rfl rfl ?_
        refine ar_aloadn (k := 15) rfl rfl ?_
        refine ar_aloadn (k := 16) rfl rfl ?_
        refine br_getIz (k := 17) (z := 1) rfl hKa flB_15_0 (by decide) rfl rfl ?_
        refine tw_top ha1 ?_
        refine ar_callV (k := 18) (as := [_]) rfl lvB_20 (hS.k (by decide)) rfl (c_P_fitOf hS (by omega)) rfl (by decide) (by decide) tw_m0 (Nat.le_of_ble_eq_true rfl) (fun r18 h18 p18 => ?_)
        obtain ⟨rfl, rfl⟩ := p18
        refine ar_iloadn (k := 19) rfl rfl ?_
        refine ar_callV (k := 20) (as := [_, _]) rfl lvB_24 (hS.k (by decide)) rfl (c_P_dearest (p := p) (g := 0) hS hq hN hR hB hV u1 (fun t t1 => by rw [fit_of hB (by omega) (by omega)]; exact ⟨fun z => ⟨z.2, Or.inl rfl⟩, fun z => ⟨t1, z.1⟩⟩)) rfl (by decide) (by decide) tw_m0 (Nat.le_of_ble_eq_true rfl) (fun r20 h20 p20 => ?_)
        obtain ⟨rfl, rfl⟩ := p20
        refine ar_goto (k := 21) rfl ?_
        refine ar_iret (k := 23) rfl rfl rfl (Nat.le_refl _) ?_
        first
          | (exfalso; omega)
          | (rw [if_pos (by omega)]; exact ⟨rfl, rfl⟩)
          | (rw [if_neg (by omega)]; exact ⟨rfl, rfl⟩)
    · refine ar_iconst (k := 8) rfl ?_
      refine ar_goto (k := 9) rfl ?_
      refine ar_istoren (k := 11) (l2 := [(3, _), (0, _), (1, _), (2, _)]) rfl (by decide) rfl ?_
      refine ar_iloadn (k := 12) rfl rfl ?_
      refine ar_if_eq (k := 13) rfl (by omega) (fun c13 => ?_) (fun c13 => ?_)
      · refine ar_bipush (k := 22) rfl (by decide) ?_
        refine ar_iret (k := 23) rfl rfl rfl (Nat.le_refl _) ?_
        first
          | (exfalso; omega)
          | (rw [if_pos (by omega)]; exact ⟨rfl, rfl⟩)
          | (rw [if_neg (by omega)]; exact ⟨rfl, rfl⟩)
      · refine ar_aloadn (k := 14) rfl rfl ?_
        refine ar_aloadn (k := 15) rfl rfl ?_
        refine ar_aloadn (k := 16) rfl rfl ?_
        refine br_getIz (k := 17) (z := 1) rfl hKa flB_15_0 (by decide) rfl rfl ?_
        refine tw_top ha1 ?_
        refine ar_callV (k := 18) (as := [_]) rfl lvB_20 (hS.k (by decide)) rfl (c_P_fitOf hS (by omega)) rfl (by decide) (by decide) tw_m0 (Nat.le_of_ble_eq_true rfl) (fun r18 h18 p18 => ?_)
        obtain ⟨rfl, rfl⟩ := p18
        refine ar_iloadn (k := 19) rfl rfl ?_
        refine ar_callV (k := 20) (as := [_, _]) rfl lvB_24 (hS.k (by decide)) rfl (c_P_dearest (p := p) (g := 0) hS hq hN hR hB hV u1 (fun t t1 => by rw [fit_of hB (by omega) (by omega)]; exact ⟨fun z => ⟨z.2, Or.inl rfl⟩, fun z => ⟨t1, z.1⟩⟩)) rfl (by decide) (by decide) tw_m0 (Nat.le_of_ble_eq_true rfl) (fun r20 h20 p20 => ?_)
        obtain ⟨rfl, rfl⟩ := p20
        refine ar_goto (k := 21) rfl ?_
        refine ar_iret (k := 23) rfl rfl rfl (Nat.le_refl _) ?_
        first
          | (exfalso; omega)
          | (rw [if_pos (by omega)]; exact ⟨rfl, rfl⟩)
          | (rw [if_neg (by omega)]; exact ⟨rfl, rfl⟩)
theorem c_H_comes_O {p u : Int} {a : Nat} (hS : tSt (K, I, Q, n)) (hq : Q 40 1 = some 1) (hN : WN 1 I s) (hR : RInv s) (hV : RVal s) (hB : PB I s) (hKa : tK (K, I, Q, n) a (3, 4)) (ha1 : I a 1 = p) (ha2 : I a 2 = s (18 + p)) (p1 : 0 ≤ p ∧ p < s 0) (u1 : 0 ≤ u ∧ u ≤ 23) : tw_F l G 2 0 0 mH_comes [vr (some a), vr (some 1), vi u] (K, I, Q, n) (some (vi (if rFreeP s p u then 1 else 0))) (K, I, Q, n) := by
  obtain ⟨h0, h1, h2, h3, h4, h5, h6, hp, hrw, ht, hr, hb, htp, hv⟩ := id hR
  have a1 := rLeast_bd (s := s) (p := p) h1.1
  have a2 := rHome_bd (s := s) (p := p) h1.1
  have a3 := rBest_bd (s := s) (p := p) (u := u) (g := 0) h1.1
  have a4 := rBest_bd (s := s) (p := p) (u := u) (g := 1) h1.1
  have hbl := rBell_bd hR
  have hpp := hp p (by omega) (by omega)
  refine tw_intro okH_comes (Nat.le_of_ble_eq_true rfl) ?_
  refine ar_aloadn (k := 0) rfl rfl ?_
  refine ar_aloadn (k := 1) rfl rfl ?_
  refine br_getIz (k := 2) (z := 1) rfl hKa flH_15_3 (by decide) rfl rfl ?_
  refine tw_top ha1 ?_
  refine ar_iloadn (k := 3) rfl rfl ?_
  refine ar_callV (k := 4) (as := [_, _]) rfl lvH_42 (hS.k (by decide)) rfl (c_W_isFree hS hN hR p1) rfl (by decide) (by decide) tw_m0 (Nat.le_of_ble_eq_true rfl) (fun r4 h4 p4 => ?_)
  obtain ⟨rfl, rfl⟩ := p4
  refine ar_zret (k := 5) rfl rfl (by omega) rfl (Nat.le_refl _) ?_
  exact ⟨rfl, rfl⟩
theorem c_H_picks_O {p u : Int} {a : Nat} (hS : tSt (K, I, Q, n)) (hq : Q 40 1 = some 1) (hN : WN 1 I s) (hR : RInv s) (hV : RVal s) (hB : PB I s) (hKa : tK (K, I, Q, n) a (3, 4)) (ha1 : I a 1 = p) (ha2 : I a 2 = s (18 + p)) (p1 : 0 ≤ p ∧ p < s 0) (u1 : 0 ≤ u ∧ u ≤ 23) : tw_F l G 2 0 0 mH_picks [vr (some a), vr (some 40), vi u] (K, I, Q, n) (some (vi (n5' (rLeast s p)))) (K, I, Q, n) := by
  obtain ⟨h0, h1, h2, h3, h4, h5, h6, hp, hrw, ht, hr, hb, htp, hv⟩ := id hR
  have a1 := rLeast_bd (s := s) (p := p) h1.1
  have a2 := rHome_bd (s := s) (p := p) h1.1
  have a3 := rBest_bd (s := s) (p := p) (u := u) (g := 0) h1.1
  have a4 := rBest_bd (s := s) (p := p) (u := u) (g := 1) h1.1
  have hbl := rBell_bd hR
  have hpp := hp p (by omega) (by omega)
  refine tw_intro okH_picks (Nat.le_of_ble_eq_true rfl) ?_
  refine ar_aloadn (k := 0) rfl rfl ?_
  refine ar_aloadn (k := 1) rfl rfl ?_
  refine ar_aloadn (k := 2) rfl rfl ?_
  refine br_getIz (k := 3) (z := 1) rfl hKa flH_15_3 (by decide) rfl rfl ?_
  refine tw_top ha1 ?_
  refine ar_callV (k := 4) (as := [_]) rfl lvH_48 (hS.k (by decide)) rfl (c_P_fitOf hS (by omega)) rfl (by decide) (by decide) tw_m0 (Nat.le_of_ble_eq_true rfl) (fun r4 h4 p4 => ?_)
  obtain ⟨rfl, rfl⟩ := p4
  refine ar_callV (k := 5) (as := [_]) rfl lvH_52 (hS.k (by decide)) rfl (c_P_least hS hq hN hR hB) rfl (by decide) (by decide) tw_m0 (Nat.le_of_ble_eq_true rfl) (fun r5 h5 p5 => ?_)
  obtain ⟨rfl, rfl⟩ := p5
  refine ar_iret (k := 6) rfl rfl rfl (Nat.le_refl _) ?_
  exact ⟨congrArg (fun z => some (vi z)) (lm5 hB h1 (by omega)), rfl⟩
theorem c_O_picks_O {p u : Int} {a : Nat} (hS : tSt (K, I, Q, n)) (hq : Q 40 1 = some 1) (hN : WN 1 I s) (hR : RInv s) (hV : RVal s) (hB : PB I s) (hKa : tK (K, I, Q, n) a (3, 4)) (ha1 : I a 1 = p) (ha2 : I a 2 = s (18 + p)) (p1 : 0 ≤ p ∧ p < s 0) (u1 : 0 ≤ u ∧ u ≤ 23) : tw_F l G 3 0 0 mO_picks [vr (some a), vr (some 40), vi u] (K, I, Q, n) (some (vi (n5' (rHome s p)))) (K, I, Q, n) := by
  obtain ⟨h0, h1, h2, h3, h4, h5, h6, hp, hrw, ht, hr, hb, htp, hv⟩ := id hR
  have a1 := rLeast_bd (s := s) (p := p) h1.1
  have a2 := rHome_bd (s := s) (p := p) h1.1
  have a3 := rBest_bd (s := s) (p := p) (u := u) (g := 0) h1.1
  have a4 := rBest_bd (s := s) (p := p) (u := u) (g := 1) h1.1
  have hbl := rBell_bd hR
  have hpp := hp p (by omega) (by omega)
  refine tw_intro okO_picks (Nat.le_of_ble_eq_true rfl) ?_
  refine ar_aloadn (k := 0) rfl rfl ?_
  refine ar_aloadn (k := 1) rfl rfl ?_
  refine ar_aloadn (k := 2) rfl rfl ?_
  refine br_getIz (k := 3) (z := 1) rfl hKa flO_7_3 (by decide) rfl rfl ?_
  refine tw_top ha1 ?_
  refine ar_callV (k := 4) (as := [_]) rfl lvO_13 (hS.k (by decide)) rfl (c_P_fitOf hS (by omega)) rfl (by decide) (by decide) tw_m0 (Nat.le_of_ble_eq_true rfl) (fun r4 h4 p4 => ?_)
  obtain ⟨rfl, rfl⟩ := p4
  refine ar_aloadn (k := 5) rfl rfl ?_
  refine br_getIz (k := 6) (z := 7) rfl (hS.k (by decide)) flO_19_6 (by decide) rfl rfl ?_
  refine ar_iand (k := 7) rfl ?_
  refine ar_callV (k := 8) (as := [_]) rfl lvO_22 (hS.k (by decide)) rfl (c_P_least hS hq hN hR hB) rfl (by decide) (by decide) tw_m0 (Nat.le_of_ble_eq_true rfl) (fun r8 h8 p8 => ?_)
  obtain ⟨rfl, rfl⟩ := p8
  have hb7 := fstD_bd' (p := fun j => ib (bAnd (bAnd (I 52 p) (I 40 6)) (I 40 7)) j) (d := -1) (N := s 1) (s 1).toNat 0 (by omega) (Or.inl rfl)
  have hb8 := fstD_n5 (p := fun j => ib (bAnd (bAnd (I 52 p) (I 40 6)) (I 40 7)) j) (s 1).toNat 0
  unfold n5' at hb8
  refine ar_istoren (k := 9) (l2 := [(3, _), (0, _), (1, _), (2, _)]) rfl (by decide) rfl ?_
  refine ar_iloadn (k := 10) rfl rfl ?_
  refine ar_if_lt (k := 11) rfl (by omega) (fun c11 => ?_) (fun c11 => ?_)
  · refine ar_aloadn (k := 14) rfl rfl ?_
    refine ar_aloadn (k := 15) rfl rfl ?_
    refine ar_iloadn (k := 16) rfl rfl ?_
    refine ar_callP (k := 17) (as := [_, _]) rfl lpO_25 hKa rfl (c_H_picks_O hS hq hN hR hV hB hKa ha1 ha2 p1 u1) rfl (by decide) (by decide) tw_m0 (Nat.le_of_ble_eq_true rfl) (fun r17 h17 p17 => ?_)
    obtain ⟨rfl, rfl⟩ := p17
    refine ar_iret (k := 18) rfl rfl rfl (Nat.le_refl _) ?_
    have e5 := hm5 hR hB (p := p) (by omega)
    first
      | (rw [if_neg (by omega)] at e5; exact ⟨congrArg (fun z => some (vi z)) e5, rfl⟩)
      | (rw [if_pos (by omega)] at e5; exact ⟨congrArg (fun z => some (vi z)) e5, rfl⟩)
  · refine ar_iloadn (k := 12) rfl rfl ?_
    refine ar_goto (k := 13) rfl ?_
    refine ar_iret (k := 18) rfl rfl rfl (Nat.le_refl _) ?_
    have e5 := hm5 hR hB (p := p) (by omega)
    first
      | (rw [if_neg (by omega)] at e5; exact ⟨congrArg (fun z => some (vi z)) e5, rfl⟩)
      | (rw [if_pos (by omega)] at e5; exact ⟨congrArg (fun z => some (vi z)) e5, rfl⟩)
theorem c_H_comes_G {p u : Int} {a : Nat} (hS : tSt (K, I, Q, n)) (hq : Q 40 1 = some 1) (hN : WN 1 I s) (hR : RInv s) (hV : RVal s) (hB : PB I s) (hKa : tK (K, I, Q, n) a (1, 4)) (ha1 : I a 1 = p) (ha2 : I a 2 = s (18 + p)) (p1 : 0 ≤ p ∧ p < s 0) (u1 : 0 ≤ u ∧ u ≤ 23) : tw_F l G 2 0 0 mH_comes [vr (some a), vr (some 1), vi u] (K, I, Q, n) (some (vi (if rFreeP s p u then 1 else 0))) (K, I, Q, n) := by
  obtain ⟨h0, h1, h2, h3, h4, h5, h6, hp, hrw, ht, hr, hb, htp, hv⟩ := id hR
  have a1 := rLeast_bd (s := s) (p := p) h1.1
  have a2 := rHome_bd (s := s) (p := p) h1.1
  have a3 := rBest_bd (s := s) (p := p) (u := u) (g := 0) h1.1
  have a4 := rBest_bd (s := s) (p := p) (u := u) (g := 1) h1.1
  have hbl := rBell_bd hR
  have hpp := hp p (by omega) (by omega)
  refine tw_intro okH_comes (Nat.le_of_ble_eq_true rfl) ?_
  refine ar_aloadn (k := 0) rfl rfl ?_
  refine ar_aloadn (k := 1) rfl rfl ?_
  refine br_getIz (k := 2) (z := 1) rfl hKa flH_15_1 (by decide) rfl rfl ?_
  refine tw_top ha1 ?_
  refine ar_iloadn (k := 3) rfl rfl ?_
  refine ar_callV (k := 4) (as := [_, _]) rfl lvH_42 (hS.k (by decide)) rfl (c_W_isFree hS hN hR p1) rfl (by decide) (by decide) tw_m0 (Nat.le_of_ble_eq_true rfl) (fun r4 h4 p4 => ?_)
  obtain ⟨rfl, rfl⟩ := p4
  refine ar_zret (k := 5) rfl rfl (by omega) rfl (Nat.le_refl _) ?_
  exact ⟨rfl, rfl⟩
theorem c_G_picks_G {p u : Int} {a : Nat} (hS : tSt (K, I, Q, n)) (hq : Q 40 1 = some 1) (hN : WN 1 I s) (hR : RInv s) (hV : RVal s) (hB : PB I s) (hKa : tK (K, I, Q, n) a (1, 4)) (ha1 : I a 1 = p) (ha2 : I a 2 = s (18 + p)) (p1 : 0 ≤ p ∧ p < s 0) (u1 : 0 ≤ u ∧ u ≤ 23) : tw_F l G 2 0 0 mG_picks [vr (some a), vr (some 40), vi u] (K, I, Q, n) (some (vi (n5' (rBest s p u 1)))) (K, I, Q, n) := by
  obtain ⟨h0, h1, h2, h3, h4, h5, h6, hp, hrw, ht, hr, hb, htp, hv⟩ := id hR
  have a1 := rLeast_bd (s := s) (p := p) h1.1
  have a2 := rHome_bd (s := s) (p := p) h1.1
  have a3 := rBest_bd (s := s) (p := p) (u := u) (g := 0) h1.1
  have a4 := rBest_bd (s := s) (p := p) (u := u) (g := 1) h1.1
  have hbl := rBell_bd hR
  have hpp := hp p (by omega) (by omega)
  refine tw_intro okG_picks (Nat.le_of_ble_eq_true rfl) ?_
  refine ar_aloadn (k := 0) rfl rfl ?_
  refine ar_aloadn (k := 1) rfl rfl ?_
  refine ar_aloadn (k := 2) rfl rfl ?_
  refine br_getIz (k := 3) (z := 1) rfl hKa flG_7_1 (by decide) rfl rfl ?_
  refine tw_top ha1 ?_
  refine ar_callV (k := 4) (as := [_]) rfl lvG_13 (hS.k (by decide)) rfl (c_P_fitOf hS (by omega)) rfl (by decide) (by decide) tw_m0 (Nat.le_of_ble_eq_true rfl) (fun r4 h4 p4 => ?_)
  obtain ⟨rfl, rfl⟩ := p4
  refine ar_aloadn (k := 5) rfl rfl ?_
  refine ar_aloadn (k := 6) rfl rfl ?_
  refine br_getIz (k := 7) (z := 1) rfl hKa flG_7_1 (by decide) rfl rfl ?_
  refine tw_top ha1 ?_
  refine ar_iloadn (k := 8) rfl rfl ?_
  refine ar_callV (k := 9) (as := [_, _]) rfl lvG_19 (hS.k (by decide)) rfl (c_P_withOtherFree hS hq hN hR hB (by omega)) rfl (by decide) (by decide) tw_m0 (Nat.le_of_ble_eq_true rfl) (fun r9 h9 p9 => ?_)
  obtain ⟨rfl, rfl⟩ := p9
  refine ar_iand (k := 10) rfl ?_
  refine ar_iloadn (k := 11) rfl rfl ?_
  refine ar_callV (k := 12) (as := [_, _]) rfl lvG_23 (hS.k (by decide)) rfl (c_P_dearest (p := p) (g := 1) hS hq hN hR hB hV u1 (fun t t1 => by rw [ib_and, Bool.and_eq_true, fit_of hB (by omega) (by omega), wof_of hR hB t1]; exact ⟨fun z => ⟨z.1.2, Or.inr ⟨z.2.2.1, z.2.2.2⟩⟩, fun z => ⟨⟨t1, z.1⟩, z.1.2.2, (z.2.resolve_left (by decide)).1, (z.2.resolve_left (by decide)).2⟩⟩)) rfl (by decide) (by decide) tw_m0 (Nat.le_of_ble_eq_true rfl) (fun r12 h12 p12 => ?_)
  obtain ⟨rfl, rfl⟩ := p12
  refine ar_iret (k := 13) rfl rfl rfl (Nat.le_refl _) ?_
  exact ⟨rfl, rfl⟩
theorem c_H_comes_L {p u : Int} {a : Nat} (hS : tSt (K, I, Q, n)) (hq : Q 40 1 = some 1) (hN : WN 1 I s) (hR : RInv s) (hV : RVal s) (hB : PB I s) (hKa : tK (K, I, Q, n) a (5, 4)) (ha1 : I a 1 = p) (ha2 : I a 2 = s (18 + p)) (p1 : 0 ≤ p ∧ p < s 0) (u1 : 0 ≤ u ∧ u ≤ 23) : tw_F l G 2 0 0 mH_comes [vr (some a), vr (some 1), vi u] (K, I, Q, n) (some (vi (if rFreeP s p u then 1 else 0))) (K, I, Q, n) := by
  obtain ⟨h0, h1, h2, h3, h4, h5, h6, hp, hrw, ht, hr, hb, htp, hv⟩ := id hR
  have a1 := rLeast_bd (s := s) (p := p) h1.1
  have a2 := rHome_bd (s := s) (p := p) h1.1
  have a3 := rBest_bd (s := s) (p := p) (u := u) (g := 0) h1.1
  have a4 := rBest_bd (s := s) (p := p) (u := u) (g := 1) h1.1
  have hbl := rBell_bd hR
  have hpp := hp p (by omega) (by omega)
  refine tw_intro okH_comes (Nat.le_of_ble_eq_true rfl) ?_
  refine ar_aloadn (k := 0) rfl rfl ?_
  refine ar_aloadn (k := 1) rfl rfl ?_
  refine br_getIz (k := 2) (z := 1) rfl hKa flH_15_5 (by decide) rfl rfl ?_
  refine tw_top ha1 ?_
  refine ar_iloadn (k := 3) rfl rfl ?_
  refine ar_callV (k := 4) (as := [_, _]) rfl lvH_42 (hS.k (by decide)) rfl (c_W_isFree hS hN hR p1) rfl (by decide) (by decide) tw_m0 (Nat.le_of_ble_eq_true rfl) (fun r4 h4 p4 => ?_)
  obtain ⟨rfl, rfl⟩ := p4
  refine ar_zret (k := 5) rfl rfl (by omega) rfl (Nat.le_refl _) ?_
  exact ⟨rfl, rfl⟩
theorem c_B_picks_L {p u : Int} {a : Nat} (hS : tSt (K, I, Q, n)) (hq : Q 40 1 = some 1) (hN : WN 1 I s) (hR : RInv s) (hV : RVal s) (hB : PB I s) (hKa : tK (K, I, Q, n) a (5, 4)) (ha1 : I a 1 = p) (ha2 : I a 2 = s (18 + p)) (p1 : 0 ≤ p ∧ p < s 0) (u1 : 0 ≤ u ∧ u ≤ 23) : tw_F l G 2 0 0 mB_picks [vr (some a), vr (some 40), vi u] (K, I, Q, n) (some (vi (n5' (if u % rBell s = 0 then rBest s p u 0 else -1)))) (K, I, Q, n) := by
  obtain ⟨h0, h1, h2, h3, h4, h5, h6, hp, hrw, ht, hr, hb, htp, hv⟩ := id hR
  have a1 := rLeast_bd (s := s) (p := p) h1.1
  have a2 := rHome_bd (s := s) (p := p) h1.1
  have a3 := rBest_bd (s := s) (p := p) (u := u) (g := 0) h1.1
  have a4 := rBest_bd (s := s) (p := p) (u := u) (g := 1) h1.1
  have hbl := rBell_bd hR
  have hpp := hp p (by omega) (by omega)
  refine tw_intro okB_picks (Nat.le_of_ble_eq_true rfl) ?_
  refine ar_aloadn (k := 0) rfl rfl ?_
  refine br_getIz (k := 1) (z := 2) rfl (hS.k (by decide)) flB_9_6 (by decide) rfl rfl ?_
  refine tw_top hB.1 ?_
  refine ar_if_le (k := 2) rfl (by omega) (fun c2 => ?_) (fun c2 => ?_)
  · refine ar_iconst (k := 10) rfl ?_
    refine ar_istoren (k := 11) (l2 := [(3, _), (0, _), (1, _), (2, _)]) rfl (by decide) rfl ?_
    refine ar_iloadn (k := 12) rfl rfl ?_
    refine ar_if_eq (k := 13) rfl (by omega) (fun c13 => ?_) (fun c13 => ?_)
    · refine ar_bipush (k := 22) rfl (by decide) ?_
      refine ar_iret (k := 23) rfl rfl rfl (Nat.le_refl _) ?_
      first
        | (exfalso; omega)
        | (rw [if_pos (by omega)]; exact ⟨rfl, rfl⟩)
        | (rw [if_neg (by omega)]; exact ⟨rfl, rfl⟩)
    · refine ar_aloadn (k := 14) rfl rfl ?_
      refine ar_aloadn (k := 15) rfl rfl ?_
      refine ar_aloadn (k := 16) rfl rfl ?_
      refine br_getIz (k := 17) (z := 1) rfl hKa flB_15_5 (by decide) rfl rfl ?_
      refine tw_top ha1 ?_
      refine ar_callV (k := 18) (as := [_]) rfl lvB_20 (hS.k (by decide)) rfl (c_P_fitOf hS (by omega)) rfl (by decide) (by decide) tw_m0 (Nat.le_of_ble_eq_true rfl) (fun r18 h18 p18 => ?_)
      obtain ⟨rfl, rfl⟩ := p18
      refine ar_iloadn (k := 19) rfl rfl ?_
      refine ar_callV (k := 20) (as := [_, _]) rfl lvB_24 (hS.k (by decide)) rfl (c_P_dearest (p := p) (g := 0) hS hq hN hR hB hV u1 (fun t t1 => by rw [fit_of hB (by omega) (by omega)]; exact ⟨fun z => ⟨z.2, Or.inl rfl⟩, fun z => ⟨t1, z.1⟩⟩)) rfl (by decide) (by decide) tw_m0 (Nat.le_of_ble_eq_true rfl) (fun r20 h20 p20 => ?_)
      obtain ⟨rfl, rfl⟩ := p20
      refine ar_goto (k := 21) rfl ?_
      refine ar_iret (k := 23) rfl rfl rfl (Nat.le_refl _) ?_
      first
        | (exfalso; omega)
        | (rw [if_pos (by omega)]; exact ⟨rfl, rfl⟩)
        | (rw [if_neg (by omega)]; exact ⟨rfl, rfl⟩)
  · have hm9 := Int.emod_nonneg u (show rBell s ≠ 0 by omega)
    have hm8 := Int.emod_lt_of_pos u (show 0 < rBell s by omega)
    refine ar_iloadn (k := 3) rfl rfl ?_
    refine ar_aloadn (k := 4) rfl rfl ?_
    refine br_getIz (k := 5) (z := 2) rfl (hS.k (by decide)) flB_9_6 (by decide) rfl rfl ?_
    refine tw_top hB.1 ?_
    refine ar_irem (k := 6) rfl (by omega) (by omega) (by omega) ?_
    refine tw_top (y := u % rBell s) (by exact Int.tmod_eq_emod_of_nonneg (by omega)) ?_
    refine ar_if_ne (k := 7) rfl (by omega) (fun c7 => ?_) (fun c7 => ?_)
    · refine ar_iconst (k := 10) rfl ?_
      refine ar_istoren (k := 11) (l2 := [(3, _), (0, _), (1, _), (2, _)]) rfl (by decide) rfl ?_
      refine ar_iloadn (k := 12) rfl rfl ?_
      refine ar_if_eq (k := 13) rfl (by omega) (fun c13 => ?_) (fun c13 => ?_)
      · refine ar_bipush (k := 22) rfl (by decide) ?_
        refine ar_iret (k := 23) rfl rfl rfl (Nat.le_refl _) ?_
        first
          | (exfalso; omega)
          | (rw [if_pos (by omega)]; exact ⟨rfl, rfl⟩)
          | (rw [if_neg (by omega)]; exact ⟨rfl, rfl⟩)
      · refine ar_aloadn (k := 14) rfl rfl ?_
        refine ar_aloadn (k := 15) rfl rfl ?_
        refine ar_aloadn (k := 16) rfl rfl ?_
        refine br_getIz (k := 17) (z := 1) rfl hKa flB_15_5 (by decide) rfl rfl ?_
        refine tw_top ha1 ?_
        refine ar_callV (k := 18) (as := [_]) rfl lvB_20 (hS.k (by decide)) rfl (c_P_fitOf hS (by omega)) rfl (by decide) (by decide) tw_m0 (Nat.le_of_ble_eq_true rfl) (fun r18 h18 p18 => ?_)
        obtain ⟨rfl, rfl⟩ := p18
        refine ar_iloadn (k := 19) rfl rfl ?_
        refine ar_callV (k := 20) (as := [_, _]) rfl lvB_24 (hS.k (by decide)) rfl (c_P_dearest (p := p) (g := 0) hS hq hN hR hB hV u1 (fun t t1 => by rw [fit_of hB (by omega) (by omega)]; exact ⟨fun z => ⟨z.2, Or.inl rfl⟩, fun z => ⟨t1, z.1⟩⟩)) rfl (by decide) (by decide) tw_m0 (Nat.le_of_ble_eq_true rfl) (fun r20 h20 p20 => ?_)
        obtain ⟨rfl, rfl⟩ := p20
        refine ar_goto (k := 21) rfl ?_
        refine ar_iret (k := 23) rfl rfl rfl (Nat.le_refl _) ?_
        first
          | (exfalso; omega)
          | (rw [if_pos (by omega)]; exact ⟨rfl, rfl⟩)
          | (rw [if_neg (by omega)]; exact ⟨rfl, rfl⟩)
    · refine ar_iconst (k := 8) rfl ?_
      refine ar_goto (k := 9) rfl ?_
      refine ar_istoren (k := 11) (l2 := [(3, _), (0, _), (1, _), (2, _)]) rfl (by decide) rfl ?_
      refine ar_iloadn (k := 12) rfl rfl ?_
      refine ar_if_eq (k := 13) rfl (by omega) (fun c13 => ?_) (fun c13 => ?_)
      · refine ar_bipush (k := 22) rfl (by decide) ?_
        refine ar_iret (k := 23) rfl rfl rfl (Nat.le_refl _) ?_
        first
          | (exfalso; omega)
          | (rw [if_pos (by omega)]; exact ⟨rfl, rfl⟩)
          | (rw [if_neg (by omega)]; exact ⟨rfl, rfl⟩)
      · refine ar_aloadn (k := 14) rfl rfl ?_
        refine ar_aloadn (k := 15) rfl rfl ?_
        refine ar_aloadn (k := 16) rfl rfl ?_
        refine br_getIz (k := 17) (z := 1) rfl hKa flB_15_5 (by decide) rfl rfl ?_
        refine tw_top ha1 ?_
        refine ar_callV (k := 18) (as := [_]) rfl lvB_20 (hS.k (by decide)) rfl (c_P_fitOf hS (by omega)) rfl (by decide) (by decide) tw_m0 (Nat.le_of_ble_eq_true rfl) (fun r18 h18 p18 => ?_)
        obtain ⟨rfl, rfl⟩ := p18
        refine ar_iloadn (k := 19) rfl rfl ?_
        refine ar_callV (k := 20) (as := [_, _]) rfl lvB_24 (hS.k (by decide)) rfl (c_P_dearest (p := p) (g := 0) hS hq hN hR hB hV u1 (fun t t1 => by rw [fit_of hB (by omega) (by omega)]; exact ⟨fun z => ⟨z.2, Or.inl rfl⟩, fun z => ⟨t1, z.1⟩⟩)) rfl (by decide) (by decide) tw_m0 (Nat.le_of_ble_eq_true rfl) (fun r20 h20 p20 => ?_)
        obtain ⟨rfl, rfl⟩ := p20
        refine ar_goto (k := 21) rfl ?_
        refine ar_iret (k := 23) rfl rfl rfl (Nat.le_refl _) ?_
        first
          | (exfalso; omega)
          | (rw [if_pos (by omega)]; exact ⟨rfl, rfl⟩)
          | (rw [if_neg (by omega)]; exact ⟨rfl, rfl⟩)
theorem c_H_comes_A {p u : Int} {a : Nat} (hS : tSt (K, I, Q, n)) (hq : Q 40 1 = some 1) (hN : WN 1 I s) (hR : RInv s) (hV : RVal s) (hB : PB I s) (hKa : tK (K, I, Q, n) a (4, 4)) (ha1 : I a 1 = p) (ha2 : I a 2 = s (18 + p)) (p1 : 0 ≤ p ∧ p < s 0) (u1 : 0 ≤ u ∧ u ≤ 23) : tw_F l G 2 0 0 mH_comes [vr (some a), vr (some 1), vi u] (K, I, Q, n) (some (vi (if rFreeP s p u then 1 else 0))) (K, I, Q, n) := by
  obtain ⟨h0, h1, h2, h3, h4, h5, h6, hp, hrw, ht, hr, hb, htp, hv⟩ := id hR
  have a1 := rLeast_bd (s := s) (p := p) h1.1
  have a2 := rHome_bd (s := s) (p := p) h1.1
  have a3 := rBest_bd (s := s) (p := p) (u := u) (g := 0) h1.1
  have a4 := rBest_bd (s := s) (p := p) (u := u) (g := 1) h1.1
  have hbl := rBell_bd hR
  have hpp := hp p (by omega) (by omega)
  refine tw_intro okH_comes (Nat.le_of_ble_eq_true rfl) ?_
  refine ar_aloadn (k := 0) rfl rfl ?_
  refine ar_aloadn (k := 1) rfl rfl ?_
  refine br_getIz (k := 2) (z := 1) rfl hKa flH_15_4 (by decide) rfl rfl ?_
  refine tw_top ha1 ?_
  refine ar_iloadn (k := 3) rfl rfl ?_
  refine ar_callV (k := 4) (as := [_, _]) rfl lvH_42 (hS.k (by decide)) rfl (c_W_isFree hS hN hR p1) rfl (by decide) (by decide) tw_m0 (Nat.le_of_ble_eq_true rfl) (fun r4 h4 p4 => ?_)
  obtain ⟨rfl, rfl⟩ := p4
  refine ar_zret (k := 5) rfl rfl (by omega) rfl (Nat.le_refl _) ?_
  exact ⟨rfl, rfl⟩
theorem c_H_picks_A {p u : Int} {a : Nat} (hS : tSt (K, I, Q, n)) (hq : Q 40 1 = some 1) (hN : WN 1 I s) (hR : RInv s) (hV : RVal s) (hB : PB I s) (hKa : tK (K, I, Q, n) a (4, 4)) (ha1 : I a 1 = p) (ha2 : I a 2 = s (18 + p)) (p1 : 0 ≤ p ∧ p < s 0) (u1 : 0 ≤ u ∧ u ≤ 23) : tw_F l G 2 0 0 mH_picks [vr (some a), vr (some 40), vi u] (K, I, Q, n) (some (vi (n5' (rLeast s p)))) (K, I, Q, n) := by
  obtain ⟨h0, h1, h2, h3, h4, h5, h6, hp, hrw, ht, hr, hb, htp, hv⟩ := id hR
  have a1 := rLeast_bd (s := s) (p := p) h1.1
  have a2 := rHome_bd (s := s) (p := p) h1.1
  have a3 := rBest_bd (s := s) (p := p) (u := u) (g := 0) h1.1
  have a4 := rBest_bd (s := s) (p := p) (u := u) (g := 1) h1.1
  have hbl := rBell_bd hR
  have hpp := hp p (by omega) (by omega)
  refine tw_intro okH_picks (Nat.le_of_ble_eq_true rfl) ?_
  refine ar_aloadn (k := 0) rfl rfl ?_
  refine ar_aloadn (k := 1) rfl rfl ?_
  refine ar_aloadn (k := 2) rfl rfl ?_
  refine br_getIz (k := 3) (z := 1) rfl hKa flH_15_4 (by decide) rfl rfl ?_
  refine tw_top ha1 ?_
  refine ar_callV (k := 4) (as := [_]) rfl lvH_48 (hS.k (by decide)) rfl (c_P_fitOf hS (by omega)) rfl (by decide) (by decide) tw_m0 (Nat.le_of_ble_eq_true rfl) (fun r4 h4 p4 => ?_)
  obtain ⟨rfl, rfl⟩ := p4
  refine ar_callV (k := 5) (as := [_]) rfl lvH_52 (hS.k (by decide)) rfl (c_P_least hS hq hN hR hB) rfl (by decide) (by decide) tw_m0 (Nat.le_of_ble_eq_true rfl) (fun r5 h5 p5 => ?_)
  obtain ⟨rfl, rfl⟩ := p5
  refine ar_iret (k := 6) rfl rfl rfl (Nat.le_refl _) ?_
  exact ⟨congrArg (fun z => some (vi z)) (lm5 hB h1 (by omega)), rfl⟩
theorem c_O_picks_A {p u : Int} {a : Nat} (hS : tSt (K, I, Q, n)) (hq : Q 40 1 = some 1) (hN : WN 1 I s) (hR : RInv s) (hV : RVal s) (hB : PB I s) (hKa : tK (K, I, Q, n) a (4, 4)) (ha1 : I a 1 = p) (ha2 : I a 2 = s (18 + p)) (p1 : 0 ≤ p ∧ p < s 0) (u1 : 0 ≤ u ∧ u ≤ 23) : tw_F l G 3 0 0 mO_picks [vr (some a), vr (some 40), vi u] (K, I, Q, n) (some (vi (n5' (rHome s p)))) (K, I, Q, n) := by
  obtain ⟨h0, h1, h2, h3, h4, h5, h6, hp, hrw, ht, hr, hb, htp, hv⟩ := id hR
  have a1 := rLeast_bd (s := s) (p := p) h1.1
  have a2 := rHome_bd (s := s) (p := p) h1.1
  have a3 := rBest_bd (s := s) (p := p) (u := u) (g := 0) h1.1
  have a4 := rBest_bd (s := s) (p := p) (u := u) (g := 1) h1.1
  have hbl := rBell_bd hR
  have hpp := hp p (by omega) (by omega)
  refine tw_intro okO_picks (Nat.le_of_ble_eq_true rfl) ?_
  refine ar_aloadn (k := 0) rfl rfl ?_
  refine ar_aloadn (k := 1) rfl rfl ?_
  refine ar_aloadn (k := 2) rfl rfl ?_
  refine br_getIz (k := 3) (z := 1) rfl hKa flO_7_4 (by decide) rfl rfl ?_
  refine tw_top ha1 ?_
  refine ar_callV (k := 4) (as := [_]) rfl lvO_13 (hS.k (by decide)) rfl (c_P_fitOf hS (by omega)) rfl (by decide) (by decide) tw_m0 (Nat.le_of_ble_eq_true rfl) (fun r4 h4 p4 => ?_)
  obtain ⟨rfl, rfl⟩ := p4
  refine ar_aloadn (k := 5) rfl rfl ?_
  refine br_getIz (k := 6) (z := 7) rfl (hS.k (by decide)) flO_19_6 (by decide) rfl rfl ?_
  refine ar_iand (k := 7) rfl ?_
  refine ar_callV (k := 8) (as := [_]) rfl lvO_22 (hS.k (by decide)) rfl (c_P_least hS hq hN hR hB) rfl (by decide) (by decide) tw_m0 (Nat.le_of_ble_eq_true rfl) (fun r8 h8 p8 => ?_)
  obtain ⟨rfl, rfl⟩ := p8
  have hb7 := fstD_bd' (p := fun j => ib (bAnd (bAnd (I 52 p) (I 40 6)) (I 40 7)) j) (d := -1) (N := s 1) (s 1).toNat 0 (by omega) (Or.inl rfl)
  have hb8 := fstD_n5 (p := fun j => ib (bAnd (bAnd (I 52 p) (I 40 6)) (I 40 7)) j) (s 1).toNat 0
  unfold n5' at hb8
  refine ar_istoren (k := 9) (l2 := [(3, _), (0, _), (1, _), (2, _)]) rfl (by decide) rfl ?_
  refine ar_iloadn (k := 10) rfl rfl ?_
  refine ar_if_lt (k := 11) rfl (by omega) (fun c11 => ?_) (fun c11 => ?_)
  · refine ar_aloadn (k := 14) rfl rfl ?_
    refine ar_aloadn (k := 15) rfl rfl ?_
    refine ar_iloadn (k := 16) rfl rfl ?_
    refine ar_callP (k := 17) (as := [_, _]) rfl lpO_25 hKa rfl (c_H_picks_A hS hq hN hR hV hB hKa ha1 ha2 p1 u1) rfl (by decide) (by decide) tw_m0 (Nat.le_of_ble_eq_true rfl) (fun r17 h17 p17 => ?_)
    obtain ⟨rfl, rfl⟩ := p17
    refine ar_iret (k := 18) rfl rfl rfl (Nat.le_refl _) ?_
    have e5 := hm5 hR hB (p := p) (by omega)
    first
      | (rw [if_neg (by omega)] at e5; exact ⟨congrArg (fun z => some (vi z)) e5, rfl⟩)
      | (rw [if_pos (by omega)] at e5; exact ⟨congrArg (fun z => some (vi z)) e5, rfl⟩)
  · refine ar_iloadn (k := 12) rfl rfl ?_
    refine ar_goto (k := 13) rfl ?_
    refine ar_iret (k := 18) rfl rfl rfl (Nat.le_refl _) ?_
    have e5 := hm5 hR hB (p := p) (by omega)
    first
      | (rw [if_neg (by omega)] at e5; exact ⟨congrArg (fun z => some (vi z)) e5, rfl⟩)
      | (rw [if_pos (by omega)] at e5; exact ⟨congrArg (fun z => some (vi z)) e5, rfl⟩)
theorem c_H_comes_D {p u : Int} {a : Nat} (hS : tSt (K, I, Q, n)) (hq : Q 40 1 = some 1) (hN : WN 1 I s) (hR : RInv s) (hV : RVal s) (hB : PB I s) (hKa : tK (K, I, Q, n) a (7, 4)) (ha1 : I a 1 = p) (ha2 : I a 2 = s (18 + p)) (p1 : 0 ≤ p ∧ p < s 0) (u1 : 0 ≤ u ∧ u ≤ 23) : tw_F l G 2 0 0 mH_comes [vr (some a), vr (some 1), vi u] (K, I, Q, n) (some (vi (if rFreeP s p u then 1 else 0))) (K, I, Q, n) := by
  obtain ⟨h0, h1, h2, h3, h4, h5, h6, hp, hrw, ht, hr, hb, htp, hv⟩ := id hR
  have a1 := rLeast_bd (s := s) (p := p) h1.1
  have a2 := rHome_bd (s := s) (p := p) h1.1
  have a3 := rBest_bd (s := s) (p := p) (u := u) (g := 0) h1.1
  have a4 := rBest_bd (s := s) (p := p) (u := u) (g := 1) h1.1
  have hbl := rBell_bd hR
  have hpp := hp p (by omega) (by omega)
  refine tw_intro okH_comes (Nat.le_of_ble_eq_true rfl) ?_
  refine ar_aloadn (k := 0) rfl rfl ?_
  refine ar_aloadn (k := 1) rfl rfl ?_
  refine br_getIz (k := 2) (z := 1) rfl hKa flH_15_7 (by decide) rfl rfl ?_
  refine tw_top ha1 ?_
  refine ar_iloadn (k := 3) rfl rfl ?_
  refine ar_callV (k := 4) (as := [_, _]) rfl lvH_42 (hS.k (by decide)) rfl (c_W_isFree hS hN hR p1) rfl (by decide) (by decide) tw_m0 (Nat.le_of_ble_eq_true rfl) (fun r4 h4 p4 => ?_)
  obtain ⟨rfl, rfl⟩ := p4
  refine ar_zret (k := 5) rfl rfl (by omega) rfl (Nat.le_refl _) ?_
  exact ⟨rfl, rfl⟩
theorem c_G_picks_D {p u : Int} {a : Nat} (hS : tSt (K, I, Q, n)) (hq : Q 40 1 = some 1) (hN : WN 1 I s) (hR : RInv s) (hV : RVal s) (hB : PB I s) (hKa : tK (K, I, Q, n) a (7, 4)) (ha1 : I a 1 = p) (ha2 : I a 2 = s (18 + p)) (p1 : 0 ≤ p ∧ p < s 0) (u1 : 0 ≤ u ∧ u ≤ 23) : tw_F l G 2 0 0 mG_picks [vr (some a), vr (some 40), vi u] (K, I, Q, n) (some (vi (n5' (rBest s p u 1)))) (K, I, Q, n) := by
  obtain ⟨h0, h1, h2, h3, h4, h5, h6, hp, hrw, ht, hr, hb, htp, hv⟩ := id hR
  have a1 := rLeast_bd (s := s) (p := p) h1.1
  have a2 := rHome_bd (s := s) (p := p) h1.1
  have a3 := rBest_bd (s := s) (p := p) (u := u) (g := 0) h1.1
  have a4 := rBest_bd (s := s) (p := p) (u := u) (g := 1) h1.1
  have hbl := rBell_bd hR
  have hpp := hp p (by omega) (by omega)
  refine tw_intro okG_picks (Nat.le_of_ble_eq_true rfl) ?_
  refine ar_aloadn (k := 0) rfl rfl ?_
  refine ar_aloadn (k := 1) rfl rfl ?_
  refine ar_aloadn (k := 2) rfl rfl ?_
  refine br_getIz (k := 3) (z := 1) rfl hKa flG_7_7 (by decide) rfl rfl ?_
  refine tw_top ha1 ?_
  refine ar_callV (k := 4) (as := [_]) rfl lvG_13 (hS.k (by decide)) rfl (c_P_fitOf hS (by omega)) rfl (by decide) (by decide) tw_m0 (Nat.le_of_ble_eq_true rfl) (fun r4 h4 p4 => ?_)
  obtain ⟨rfl, rfl⟩ := p4
  refine ar_aloadn (k := 5) rfl rfl ?_
  refine ar_aloadn (k := 6) rfl rfl ?_
  refine br_getIz (k := 7) (z := 1) rfl hKa flG_7_7 (by decide) rfl rfl ?_
  refine tw_top ha1 ?_
  refine ar_iloadn (k := 8) rfl rfl ?_
  refine ar_callV (k := 9) (as := [_, _]) rfl lvG_19 (hS.k (by decide)) rfl (c_P_withOtherFree hS hq hN hR hB (by omega)) rfl (by decide) (by decide) tw_m0 (Nat.le_of_ble_eq_true rfl) (fun r9 h9 p9 => ?_)
  obtain ⟨rfl, rfl⟩ := p9
  refine ar_iand (k := 10) rfl ?_
  refine ar_iloadn (k := 11) rfl rfl ?_
  refine ar_callV (k := 12) (as := [_, _]) rfl lvG_23 (hS.k (by decide)) rfl (c_P_dearest (p := p) (g := 1) hS hq hN hR hB hV u1 (fun t t1 => by rw [ib_and, Bool.and_eq_true, fit_of hB (by omega) (by omega), wof_of hR hB t1]; exact ⟨fun z => ⟨z.1.2, Or.inr ⟨z.2.2.1, z.2.2.2⟩⟩, fun z => ⟨⟨t1, z.1⟩, z.1.2.2, (z.2.resolve_left (by decide)).1, (z.2.resolve_left (by decide)).2⟩⟩)) rfl (by decide) (by decide) tw_m0 (Nat.le_of_ble_eq_true rfl) (fun r12 h12 p12 => ?_)
  obtain ⟨rfl, rfl⟩ := p12
  refine ar_iret (k := 13) rfl rfl rfl (Nat.le_refl _) ?_
  exact ⟨rfl, rfl⟩
theorem c_D_picks_D {p u : Int} {a : Nat} (hS : tSt (K, I, Q, n)) (hq : Q 40 1 = some 1) (hN : WN 1 I s) (hR : RInv s) (hV : RVal s) (hB : PB I s) (hKa : tK (K, I, Q, n) a (7, 4)) (ha1 : I a 1 = p) (ha2 : I a 2 = s (18 + p)) (p1 : 0 ≤ p ∧ p < s 0) (u1 : 0 ≤ u ∧ u ≤ 23) : tw_F l G 3 0 0 mD_picks [vr (some a), vr (some 40), vi u] (K, I, Q, n) (some (vi (n5' (if (0 ≤ s (42 + 4 * p + u % 4) ∧ s (42 + 4 * p + u % 4) ≤ s 1 - 1) ∧ s (84 + s (42 + 4 * p + u % 4)) = p then s (42 + 4 * p + u % 4) else rBest s p u 1)))) (K, I, Q, n) := by
  obtain ⟨h0, h1, h2, h3, h4, h5, h6, hp, hrw, ht, hr, hb, htp, hv⟩ := id hR
  have a1 := rLeast_bd (s := s) (p := p) h1.1
  have a2 := rHome_bd (s := s) (p := p) h1.1
  have a3 := rBest_bd (s := s) (p := p) (u := u) (g := 0) h1.1
  have a4 := rBest_bd (s := s) (p := p) (u := u) (g := 1) h1.1
  have hbl := rBell_bd hR
  have hpp := hp p (by omega) (by omega)
  have hrr := hrw (4 * p + u % 4) (by omega) (by omega)
  rw [show 42 + (4 * p + u % 4) = 42 + 4 * p + u % 4 by omega] at hrr
  refine tw_intro okD_picks (Nat.le_of_ble_eq_true rfl) ?_
  refine ar_aloadn (k := 0) rfl rfl ?_
  refine br_getR (k := 1) rfl (hS.k (by decide)) flD_9_6 (by decide) rfl hq ?_
  refine br_getR (k := 2) rfl (hS.k (by decide)) flD_15_10 (by decide) rfl (hS.r rfl) ?_
  refine ar_aloadn (k := 3) rfl rfl ?_
  refine br_getIz (k := 4) (z := 1) rfl hKa flD_21_7 (by decide) rfl rfl ?_
  refine tw_top ha1 ?_
  refine ar_iconst (k := 5) rfl ?_
  refine ar_imul (k := 6) rfl ?_
  refine ar_iloadn (k := 7) rfl rfl ?_
  refine ar_iconst (k := 8) rfl ?_
  refine ar_irem (k := 9) rfl (by omega) (by omega) (by omega) ?_
  refine tw_top (y := u % 4) (by exact Int.tmod_eq_emod_of_nonneg (by omega)) ?_
  refine ar_iadd (k := 10) rfl ?_
  refine br_iald (k := 11) rfl (hS.k (by decide)) (by omega) (by omega) (by decide) ?_
  refine tw_top (y := if s (42 + 4 * p + u % 4) = -1 then -5 else s (42 + 4 * p + u % 4)) (by rw [show 42 + 4 * p + u % 4 = 42 + (p * 4 + u % 4) by omega]; exact WN.rw hN (by omega) (by omega)) ?_
  refine ar_istoren (k := 12) (l2 := [(3, _), (0, _), (1, _), (2, _)]) rfl (by decide) rfl ?_
  refine ar_iloadn (k := 13) rfl rfl ?_
  refine ar_if_lt (k := 14) rfl (by omega) (fun c14 => ?_) (fun c14 => ?_)
  · refine ar_iconst (k := 27) rfl ?_
    refine ar_istore (k := 28) (l2 := [(4, _), (3, _), (0, _), (1, _), (2, _)]) rfl (by decide) rfl ?_
    refine ar_iload (k := 29) rfl rfl ?_
    refine ar_if_eq (k := 30) rfl (by omega) (fun c30 => ?_) (fun c30 => ?_)
    · refine ar_aloadn (k := 33) rfl rfl ?_
      refine ar_aloadn (k := 34) rfl rfl ?_
      refine ar_iloadn (k := 35) rfl rfl ?_
      refine ar_callP (k := 36) (as := [_, _]) rfl lpD_30 hKa rfl (c_G_picks_D hS hq hN hR hV hB hKa ha1 ha2 p1 u1) rfl (by decide) (by decide) tw_m0 (Nat.le_of_ble_eq_true rfl) (fun r36 h36 p36 => ?_)
      obtain ⟨rfl, rfl⟩ := p36
      refine ar_iret (k := 37) rfl rfl rfl (Nat.le_refl _) ?_
      first
        | (exfalso; omega)
        | (have e9 : ((0 ≤ s (42 + 4 * p + u % 4) ∧ s (42 + 4 * p + u % 4) ≤ s 1 - 1) ∧ s (84 + s (42 + 4 * p + u % 4)) = p) := by omega
           rw [if_pos e9]; exact ⟨congrArg (fun z => some (vi z)) (by unfold n5'; rw [if_neg (by omega)]), rfl⟩)
        | (have e9 : ¬ ((0 ≤ s (42 + 4 * p + u % 4) ∧ s (42 + 4 * p + u % 4) ≤ s 1 - 1) ∧ s (84 + s (42 + 4 * p + u % 4)) = p) := by omega
           rw [if_neg e9]; exact ⟨rfl, rfl⟩)
    · refine ar_iloadn (k := 31) rfl rfl ?_
      refine ar_goto (k := 32) rfl ?_
      refine ar_iret (k := 37) rfl rfl rfl (Nat.le_refl _) ?_
      first
        | (exfalso; omega)
        | (have e9 : ((0 ≤ s (42 + 4 * p + u % 4) ∧ s (42 + 4 * p + u % 4) ≤ s 1 - 1) ∧ s (84 + s (42 + 4 * p + u % 4)) = p) := by omega
           rw [if_pos e9]; exact ⟨congrArg (fun z => some (vi z)) (by unfold n5'; rw [if_neg (by omega)]), rfl⟩)
        | (have e9 : ¬ ((0 ≤ s (42 + 4 * p + u % 4) ∧ s (42 + 4 * p + u % 4) ≤ s 1 - 1) ∧ s (84 + s (42 + 4 * p + u % 4)) = p) := by omega
           rw [if_neg e9]; exact ⟨rfl, rfl⟩)
  · have hk7 : 0 ≤ s (42 + 4 * p + u % 4) ∧ s (42 + 4 * p + u % 4) ≤ 9 := by omega
    have hb7 := bAnd1 (bShr (I 52 p) (s (42 + 4 * p + u % 4)))
    have hb8 : bAnd (bShr (I 52 p) (s (42 + 4 * p + u % 4))) 1 = 1 ↔ (s (42 + 4 * p + u % 4) < s 1 ∧ s (84 + s (42 + 4 * p + u % 4)) = p) := by
      obtain ⟨t, et⟩ : ∃ t : Nat, s (42 + 4 * p + u % 4) = (t : Int) := ⟨(s (42 + 4 * p + u % 4)).toNat, by omega⟩
      obtain ⟨r, rfl⟩ : ∃ r : Nat, p = (r : Int) := ⟨p.toNat, by omega⟩
      rw [et, ib_bit1 _ (by omega), hB.2.1 r (by omega) t (by omega), decide_eq_true_eq]
    refine ar_skip ?_
    refine ar_aloadn (k := 15) rfl rfl ?_
    refine br_getR (k := 16) rfl (hS.k (by decide)) flD_27_6 (by decide) rfl (hS.r rfl) ?_
    refine ar_aloadn (k := 17) rfl rfl ?_
    refine br_getIz (k := 18) (z := 1) rfl hKa flD_21_7 (by decide) rfl rfl ?_
    refine tw_top ha1 ?_
    refine br_iald (k := 19) rfl (hS.k (by decide)) (by omega) (by omega) (by decide) ?_
    refine ar_iloadn (k := 20) rfl rfl ?_
    refine tw_top (y := s (42 + 4 * p + u % 4)) (by rw [if_neg (by omega)]) ?_
    refine ar_ishr (k := 21) rfl ?_
    refine ar_iconst (k := 22) rfl ?_
    refine ar_iand (k := 23) rfl ?_
    refine ar_if_eq (k := 24) rfl (by omega) (fun c24 => ?_) (fun c24 => ?_)
    · refine ar_iconst (k := 27) rfl ?_
      refine ar_istore (k := 28) (l2 := [(4, _), (3, _), (0, _), (1, _), (2, _)]) rfl (by decide) rfl ?_
      refine ar_iload (k := 29) rfl rfl ?_
      refine ar_if_eq (k := 30) rfl (by omega) (fun c30 => ?_) (fun c30 => ?_)
      · refine ar_aloadn (k := 33) rfl rfl ?_
        refine ar_aloadn (k := 34) rfl rfl ?_
        refine ar_iloadn (k := 35) rfl rfl ?_
        refine ar_callP (k := 36) (as := [_, _]) rfl lpD_30 hKa rfl (c_G_picks_D hS hq hN hR hV hB hKa ha1 ha2 p1 u1) rfl (by decide) (by decide) tw_m0 (Nat.le_of_ble_eq_true rfl) (fun r36 h36 p36 => ?_)
        obtain ⟨rfl, rfl⟩ := p36
        refine ar_iret (k := 37) rfl rfl rfl (Nat.le_refl _) ?_
        first
          | (exfalso; omega)
          | (have e9 : ((0 ≤ s (42 + 4 * p + u % 4) ∧ s (42 + 4 * p + u % 4) ≤ s 1 - 1) ∧ s (84 + s (42 + 4 * p + u % 4)) = p) := by omega
             rw [if_pos e9]; exact ⟨congrArg (fun z => some (vi z)) (by unfold n5'; rw [if_neg (by omega)]), rfl⟩)
          | (have e9 : ¬ ((0 ≤ s (42 + 4 * p + u % 4) ∧ s (42 + 4 * p + u % 4) ≤ s 1 - 1) ∧ s (84 + s (42 + 4 * p + u % 4)) = p) := by omega
             rw [if_neg e9]; exact ⟨rfl, rfl⟩)
      · refine ar_iloadn (k := 31) rfl rfl ?_
        refine ar_goto (k := 32) rfl ?_
        refine ar_iret (k := 37) rfl rfl rfl (Nat.le_refl _) ?_
        first
          | (exfalso; omega)
          | (have e9 : ((0 ≤ s (42 + 4 * p + u % 4) ∧ s (42 + 4 * p + u % 4) ≤ s 1 - 1) ∧ s (84 + s (42 + 4 * p + u % 4)) = p) := by omega
             rw [if_pos e9]; exact ⟨congrArg (fun z => some (vi z)) (by unfold n5'; rw [if_neg (by omega)]), rfl⟩)
          | (have e9 : ¬ ((0 ≤ s (42 + 4 * p + u % 4) ∧ s (42 + 4 * p + u % 4) ≤ s 1 - 1) ∧ s (84 + s (42 + 4 * p + u % 4)) = p) := by omega
             rw [if_neg e9]; exact ⟨rfl, rfl⟩)
    · refine ar_iconst (k := 25) rfl ?_
      refine ar_goto (k := 26) rfl ?_
      refine ar_istore (k := 28) (l2 := [(4, _), (3, _), (0, _), (1, _), (2, _)]) rfl (by decide) rfl ?_
      refine ar_iload (k := 29) rfl rfl ?_
      refine ar_if_eq (k := 30) rfl (by omega) (fun c30 => ?_) (fun c30 => ?_)
      · refine ar_aloadn (k := 33) rfl rfl ?_
        refine ar_aloadn (k := 34) rfl rfl ?_
        refine ar_iloadn (k := 35) rfl rfl ?_
        refine ar_callP (k := 36) (as := [_, _]) rfl lpD_30 hKa rfl (c_G_picks_D hS hq hN hR hV hB hKa ha1 ha2 p1 u1) rfl (by decide) (by decide) tw_m0 (Nat.le_of_ble_eq_true rfl) (fun r36 h36 p36 => ?_)
        obtain ⟨rfl, rfl⟩ := p36
        refine ar_iret (k := 37) rfl rfl rfl (Nat.le_refl _) ?_
        first
          | (exfalso; omega)
          | (have e9 : ((0 ≤ s (42 + 4 * p + u % 4) ∧ s (42 + 4 * p + u % 4) ≤ s 1 - 1) ∧ s (84 + s (42 + 4 * p + u % 4)) = p) := by omega
             rw [if_pos e9]; exact ⟨congrArg (fun z => some (vi z)) (by unfold n5'; rw [if_neg (by omega)]), rfl⟩)
          | (have e9 : ¬ ((0 ≤ s (42 + 4 * p + u % 4) ∧ s (42 + 4 * p + u % 4) ≤ s 1 - 1) ∧ s (84 + s (42 + 4 * p + u % 4)) = p) := by omega
             rw [if_neg e9]; exact ⟨rfl, rfl⟩)
      · refine ar_iloadn (k := 31) rfl rfl ?_
        refine ar_goto (k := 32) rfl ?_
        refine ar_iret (k := 37) rfl rfl rfl (Nat.le_refl _) ?_
        first
          | (exfalso; omega)
          | (have e9 : ((0 ≤ s (42 + 4 * p + u % 4) ∧ s (42 + 4 * p + u % 4) ≤ s 1 - 1) ∧ s (84 + s (42 + 4 * p + u % 4)) = p) := by omega
             rw [if_pos e9]; exact ⟨congrArg (fun z => some (vi z)) (by unfold n5'; rw [if_neg (by omega)]), rfl⟩)
          | (have e9 : ¬ ((0 ≤ s (42 + 4 * p + u % 4) ∧ s (42 + 4 * p + u % 4) ≤ s 1 - 1) ∧ s (84 + s (42 + 4 * p + u % 4)) = p) := by omega
             rw [if_neg e9]; exact ⟨rfl, rfl⟩)
theorem c_A_comes_A {p u : Int} {a : Nat} (hS : tSt (K, I, Q, n)) (hq : Q 40 1 = some 1) (hN : WN 1 I s) (hR : RInv s) (hV : RVal s) (hB : PB I s) (hKa : tK (K, I, Q, n) a (4, 4)) (ha1 : I a 1 = p) (ha2 : I a 2 = s (18 + p)) (p1 : 0 ≤ p ∧ p < s 0) (u1 : 0 ≤ u ∧ u ≤ 23) : tw_F l G 3 0 0 mA_comes [vr (some a), vr (some 1), vi u] (K, I, Q, n) (some (vi (if rFreeP s p ((u - s (18 + p) + 24) % 24) then 1 else 0))) (K, I, Q, n) := by
  obtain ⟨h0, h1, h2, h3, h4, h5, h6, hp, hrw, ht, hr, hb, htp, hv⟩ := id hR
  have a1 := rLeast_bd (s := s) (p := p) h1.1
  have a2 := rHome_bd (s := s) (p := p) h1.1
  have a3 := rBest_bd (s := s) (p := p) (u := u) (g := 0) h1.1
  have a4 := rBest_bd (s := s) (p := p) (u := u) (g := 1) h1.1
  have hbl := rBell_bd hR
  have hpp := hp p (by omega) (by omega)
  refine tw_intro okA_comes (Nat.le_of_ble_eq_true rfl) ?_
  refine ar_aloadn (k := 0) rfl rfl ?_
  refine ar_aloadn (k := 1) rfl rfl ?_
  refine ar_iloadn (k := 2) rfl rfl ?_
  refine ar_aloadn (k := 3) rfl rfl ?_
  refine br_getIz (k := 4) (z := 2) rfl hKa flA_9_4 (by decide) rfl rfl ?_
  refine tw_top ha2 ?_
  refine ar_isub (k := 5) rfl ?_
  refine ar_bipush (k := 6) rfl (by decide) ?_
  refine ar_callS (k := 7) (as := [_, _]) rfl lsA_15 (c_J9_floorMod (by omega)) rfl (by decide) (by decide) tw_m0 (Nat.le_of_ble_eq_true rfl) (fun r7 h7 p7 => ?_)
  obtain ⟨rfl, rfl⟩ := p7
  refine tw_top (y := (u - s (18 + p) + 24) % 24) (by omega) ?_
  refine ar_callQ (k := 8) (as := [_, _]) rfl lqA_21 hKa rfl (c_H_comes_A hS hq hN hR hV hB hKa ha1 ha2 p1 (by omega)) rfl (by decide) (by decide) tw_m0 (Nat.le_of_ble_eq_true rfl) (fun r8 h8 p8 => ?_)
  obtain ⟨rfl, rfl⟩ := p8
  refine ar_zret (k := 9) rfl rfl (by omega) rfl (Nat.le_refl _) ?_
  exact ⟨rfl, rfl⟩
theorem c_H_insteadOfNone_H {p u : Int} {a : Nat} (hS : tSt (K, I, Q, n)) (hq : Q 40 1 = some 1) (hN : WN 1 I s) (hR : RInv s) (hV : RVal s) (hB : PB I s) (hKa : tK (K, I, Q, n) a (2, 4)) (ha1 : I a 1 = p) (ha2 : I a 2 = s (18 + p)) (p1 : 0 ≤ p ∧ p < s 0) (u1 : 0 ≤ u ∧ u ≤ 23) : tw_F l G 1 0 0 mH_insteadOfNone [vr (some a), vr (some 40)] (K, I, Q, n) (some (vi (-5))) (K, I, Q, n) := by
  obtain ⟨h0, h1, h2, h3, h4, h5, h6, hp, hrw, ht, hr, hb, htp, hv⟩ := id hR
  have a1 := rLeast_bd (s := s) (p := p) h1.1
  have a2 := rHome_bd (s := s) (p := p) h1.1
  have a3 := rBest_bd (s := s) (p := p) (u := u) (g := 0) h1.1
  have a4 := rBest_bd (s := s) (p := p) (u := u) (g := 1) h1.1
  have hbl := rBell_bd hR
  have hpp := hp p (by omega) (by omega)
  refine tw_intro okH_insteadOfNone (Nat.le_of_ble_eq_true rfl) ?_
  refine ar_bipush (k := 0) rfl (by decide) ?_
  refine ar_iret (k := 1) rfl rfl rfl (Nat.le_refl _) ?_
  exact ⟨rfl, rfl⟩
theorem c_H_insteadOfNone_B {p u : Int} {a : Nat} (hS : tSt (K, I, Q, n)) (hq : Q 40 1 = some 1) (hN : WN 1 I s) (hR : RInv s) (hV : RVal s) (hB : PB I s) (hKa : tK (K, I, Q, n) a (0, 4)) (ha1 : I a 1 = p) (ha2 : I a 2 = s (18 + p)) (p1 : 0 ≤ p ∧ p < s 0) (u1 : 0 ≤ u ∧ u ≤ 23) : tw_F l G 1 0 0 mH_insteadOfNone [vr (some a), vr (some 40)] (K, I, Q, n) (some (vi (-5))) (K, I, Q, n) := by
  obtain ⟨h0, h1, h2, h3, h4, h5, h6, hp, hrw, ht, hr, hb, htp, hv⟩ := id hR
  have a1 := rLeast_bd (s := s) (p := p) h1.1
  have a2 := rHome_bd (s := s) (p := p) h1.1
  have a3 := rBest_bd (s := s) (p := p) (u := u) (g := 0) h1.1
  have a4 := rBest_bd (s := s) (p := p) (u := u) (g := 1) h1.1
  have hbl := rBell_bd hR
  have hpp := hp p (by omega) (by omega)
  refine tw_intro okH_insteadOfNone (Nat.le_of_ble_eq_true rfl) ?_
  refine ar_bipush (k := 0) rfl (by decide) ?_
  refine ar_iret (k := 1) rfl rfl rfl (Nat.le_refl _) ?_
  exact ⟨rfl, rfl⟩
theorem c_H_insteadOfNone_O {p u : Int} {a : Nat} (hS : tSt (K, I, Q, n)) (hq : Q 40 1 = some 1) (hN : WN 1 I s) (hR : RInv s) (hV : RVal s) (hB : PB I s) (hKa : tK (K, I, Q, n) a (3, 4)) (ha1 : I a 1 = p) (ha2 : I a 2 = s (18 + p)) (p1 : 0 ≤ p ∧ p < s 0) (u1 : 0 ≤ u ∧ u ≤ 23) : tw_F l G 1 0 0 mH_insteadOfNone [vr (some a), vr (some 40)] (K, I, Q, n) (some (vi (-5))) (K, I, Q, n) := by
  obtain ⟨h0, h1, h2, h3, h4, h5, h6, hp, hrw, ht, hr, hb, htp, hv⟩ := id hR
  have a1 := rLeast_bd (s := s) (p := p) h1.1
  have a2 := rHome_bd (s := s) (p := p) h1.1
  have a3 := rBest_bd (s := s) (p := p) (u := u) (g := 0) h1.1
  have a4 := rBest_bd (s := s) (p := p) (u := u) (g := 1) h1.1
  have hbl := rBell_bd hR
  have hpp := hp p (by omega) (by omega)
  refine tw_intro okH_insteadOfNone (Nat.le_of_ble_eq_true rfl) ?_
  refine ar_bipush (k := 0) rfl (by decide) ?_
  refine ar_iret (k := 1) rfl rfl rfl (Nat.le_refl _) ?_
  exact ⟨rfl, rfl⟩
theorem c_H_insteadOfNone_G {p u : Int} {a : Nat} (hS : tSt (K, I, Q, n)) (hq : Q 40 1 = some 1) (hN : WN 1 I s) (hR : RInv s) (hV : RVal s) (hB : PB I s) (hKa : tK (K, I, Q, n) a (1, 4)) (ha1 : I a 1 = p) (ha2 : I a 2 = s (18 + p)) (p1 : 0 ≤ p ∧ p < s 0) (u1 : 0 ≤ u ∧ u ≤ 23) : tw_F l G 1 0 0 mH_insteadOfNone [vr (some a), vr (some 40)] (K, I, Q, n) (some (vi (-5))) (K, I, Q, n) := by
  obtain ⟨h0, h1, h2, h3, h4, h5, h6, hp, hrw, ht, hr, hb, htp, hv⟩ := id hR
  have a1 := rLeast_bd (s := s) (p := p) h1.1
  have a2 := rHome_bd (s := s) (p := p) h1.1
  have a3 := rBest_bd (s := s) (p := p) (u := u) (g := 0) h1.1
  have a4 := rBest_bd (s := s) (p := p) (u := u) (g := 1) h1.1
  have hbl := rBell_bd hR
  have hpp := hp p (by omega) (by omega)
  refine tw_intro okH_insteadOfNone (Nat.le_of_ble_eq_true rfl) ?_
  refine ar_bipush (k := 0) rfl (by decide) ?_
  refine ar_iret (k := 1) rfl rfl rfl (Nat.le_refl _) ?_
  exact ⟨rfl, rfl⟩
theorem c_H_insteadOfNone_L {p u : Int} {a : Nat} (hS : tSt (K, I, Q, n)) (hq : Q 40 1 = some 1) (hN : WN 1 I s) (hR : RInv s) (hV : RVal s) (hB : PB I s) (hKa : tK (K, I, Q, n) a (5, 4)) (ha1 : I a 1 = p) (ha2 : I a 2 = s (18 + p)) (p1 : 0 ≤ p ∧ p < s 0) (u1 : 0 ≤ u ∧ u ≤ 23) : tw_F l G 1 0 0 mH_insteadOfNone [vr (some a), vr (some 40)] (K, I, Q, n) (some (vi (-5))) (K, I, Q, n) := by
  obtain ⟨h0, h1, h2, h3, h4, h5, h6, hp, hrw, ht, hr, hb, htp, hv⟩ := id hR
  have a1 := rLeast_bd (s := s) (p := p) h1.1
  have a2 := rHome_bd (s := s) (p := p) h1.1
  have a3 := rBest_bd (s := s) (p := p) (u := u) (g := 0) h1.1
  have a4 := rBest_bd (s := s) (p := p) (u := u) (g := 1) h1.1
  have hbl := rBell_bd hR
  have hpp := hp p (by omega) (by omega)
  refine tw_intro okH_insteadOfNone (Nat.le_of_ble_eq_true rfl) ?_
  refine ar_bipush (k := 0) rfl (by decide) ?_
  refine ar_iret (k := 1) rfl rfl rfl (Nat.le_refl _) ?_
  exact ⟨rfl, rfl⟩
theorem c_H_insteadOfNone_A {p u : Int} {a : Nat} (hS : tSt (K, I, Q, n)) (hq : Q 40 1 = some 1) (hN : WN 1 I s) (hR : RInv s) (hV : RVal s) (hB : PB I s) (hKa : tK (K, I, Q, n) a (4, 4)) (ha1 : I a 1 = p) (ha2 : I a 2 = s (18 + p)) (p1 : 0 ≤ p ∧ p < s 0) (u1 : 0 ≤ u ∧ u ≤ 23) : tw_F l G 1 0 0 mH_insteadOfNone [vr (some a), vr (some 40)] (K, I, Q, n) (some (vi (-5))) (K, I, Q, n) := by
  obtain ⟨h0, h1, h2, h3, h4, h5, h6, hp, hrw, ht, hr, hb, htp, hv⟩ := id hR
  have a1 := rLeast_bd (s := s) (p := p) h1.1
  have a2 := rHome_bd (s := s) (p := p) h1.1
  have a3 := rBest_bd (s := s) (p := p) (u := u) (g := 0) h1.1
  have a4 := rBest_bd (s := s) (p := p) (u := u) (g := 1) h1.1
  have hbl := rBell_bd hR
  have hpp := hp p (by omega) (by omega)
  refine tw_intro okH_insteadOfNone (Nat.le_of_ble_eq_true rfl) ?_
  refine ar_bipush (k := 0) rfl (by decide) ?_
  refine ar_iret (k := 1) rfl rfl rfl (Nat.le_refl _) ?_
  exact ⟨rfl, rfl⟩
theorem c_H_insteadOfNone_D {p u : Int} {a : Nat} (hS : tSt (K, I, Q, n)) (hq : Q 40 1 = some 1) (hN : WN 1 I s) (hR : RInv s) (hV : RVal s) (hB : PB I s) (hKa : tK (K, I, Q, n) a (7, 4)) (ha1 : I a 1 = p) (ha2 : I a 2 = s (18 + p)) (p1 : 0 ≤ p ∧ p < s 0) (u1 : 0 ≤ u ∧ u ≤ 23) : tw_F l G 1 0 0 mH_insteadOfNone [vr (some a), vr (some 40)] (K, I, Q, n) (some (vi (-5))) (K, I, Q, n) := by
  obtain ⟨h0, h1, h2, h3, h4, h5, h6, hp, hrw, ht, hr, hb, htp, hv⟩ := id hR
  have a1 := rLeast_bd (s := s) (p := p) h1.1
  have a2 := rHome_bd (s := s) (p := p) h1.1
  have a3 := rBest_bd (s := s) (p := p) (u := u) (g := 0) h1.1
  have a4 := rBest_bd (s := s) (p := p) (u := u) (g := 1) h1.1
  have hbl := rBell_bd hR
  have hpp := hp p (by omega) (by omega)
  refine tw_intro okH_insteadOfNone (Nat.le_of_ble_eq_true rfl) ?_
  refine ar_bipush (k := 0) rfl (by decide) ?_
  refine ar_iret (k := 1) rfl rfl rfl (Nat.le_refl _) ?_
  exact ⟨rfl, rfl⟩
theorem c_L_insteadOfNone_L {p u : Int} {a : Nat} (hS : tSt (K, I, Q, n)) (hq : Q 40 1 = some 1) (hN : WN 1 I s) (hR : RInv s) (hV : RVal s) (hB : PB I s) (hKa : tK (K, I, Q, n) a (5, 4)) (ha1 : I a 1 = p) (ha2 : I a 2 = s (18 + p)) (p1 : 0 ≤ p ∧ p < s 0) (u1 : 0 ≤ u ∧ u ≤ 23) : tw_F l G 2 0 0 mL_insteadOfNone [vr (some a), vr (some 40)] (K, I, Q, n) (some (vi (n5' (if (0 ≤ s (18 + p) ∧ s (18 + p) ≤ s 1 - 1) ∧ rFitP s p (s (18 + p)) then s (18 + p) else -1)))) (K, I, Q, n) := by
  obtain ⟨h0, h1, h2, h3, h4, h5, h6, hp, hrw, ht, hr, hb, htp, hv⟩ := id hR
  have a1 := rLeast_bd (s := s) (p := p) h1.1
  have a2 := rHome_bd (s := s) (p := p) h1.1
  have a3 := rBest_bd (s := s) (p := p) (u := u) (g := 0) h1.1
  have a4 := rBest_bd (s := s) (p := p) (u := u) (g := 1) h1.1
  have hbl := rBell_bd hR
  have hpp := hp p (by omega) (by omega)
  refine tw_intro okL_insteadOfNone (Nat.le_of_ble_eq_true rfl) ?_
  refine ar_aloadn (k := 0) rfl rfl ?_
  refine ar_aloadn (k := 1) rfl rfl ?_
  refine br_getIz (k := 2) (z := 1) rfl hKa flL_9_5 (by decide) rfl rfl ?_
  refine tw_top ha1 ?_
  refine ar_callV (k := 3) (as := [_]) rfl lvL_15 (hS.k (by decide)) rfl (c_P_fitOf hS (by omega)) rfl (by decide) (by decide) tw_m0 (Nat.le_of_ble_eq_true rfl) (fun r3 h3 p3 => ?_)
  obtain ⟨rfl, rfl⟩ := p3
  have hb7 := bAnd1 (bShr (bAnd (I 52 p) (I 40 6)) (s (18 + p)))
  have hb8 : bAnd (bShr (bAnd (I 52 p) (I 40 6)) (s (18 + p))) 1 = 1 ↔ (s (18 + p) < s 1 ∧ rFitP s p (s (18 + p))) := by
    obtain ⟨t, et⟩ : ∃ t : Nat, s (18 + p) = (t : Int) := ⟨(s (18 + p)).toNat, by omega⟩
    rw [et, ib_bit1 _ (by omega), fit_of hB (by omega) (by omega)]
  refine ar_aloadn (k := 4) rfl rfl ?_
  refine br_getIz (k := 5) (z := 2) rfl hKa flL_21_5 (by decide) rfl rfl ?_
  refine tw_top ha2 ?_
  refine ar_ishr (k := 6) rfl ?_
  refine ar_iconst (k := 7) rfl ?_
  refine ar_iand (k := 8) rfl ?_
  refine ar_if_eq (k := 9) rfl (by omega) (fun c9 => ?_) (fun c9 => ?_)
  · refine ar_bipush (k := 13) rfl (by decide) ?_
    refine ar_iret (k := 14) rfl rfl rfl (Nat.le_refl _) ?_
    first
      | (rw [if_pos ⟨by omega, (hb8.mp (by omega)).2⟩]; exact ⟨congrArg (fun z => some (vi z)) (by unfold n5'; rw [if_neg (by omega)]), rfl⟩)
      | (rw [if_neg (fun z => by have := hb8.mpr ⟨by omega, z.2⟩; omega)]; exact ⟨rfl, rfl⟩)
  · refine ar_aloadn (k := 10) rfl rfl ?_
    refine br_getIz (k := 11) (z := 2) rfl hKa flL_21_5 (by decide) rfl rfl ?_
    refine tw_top ha2 ?_
    refine ar_goto (k := 12) rfl ?_
    refine ar_iret (k := 14) rfl rfl rfl (Nat.le_refl _) ?_
    first
      | (rw [if_pos ⟨by omega, (hb8.mp (by omega)).2⟩]; exact ⟨congrArg (fun z => some (vi z)) (by unfold n5'; rw [if_neg (by omega)]), rfl⟩)
      | (rw [if_neg (fun z => by have := hb8.mpr ⟨by omega, z.2⟩; omega)]; exact ⟨rfl, rfl⟩)
theorem rAt_0 {p u : Int} (h : s (10 + p) = 0) : rAt s p u = if rFreeP s p u then rLeast s p else -1 := by unfold rAt; rw [if_neg (by omega), if_neg (by omega), if_neg (by omega), if_neg (by omega), if_neg (by omega), if_neg (by omega)]
theorem c_H_worksAt_H {p u : Int} {a : Nat} (hS : tSt (K, I, Q, n)) (hq : Q 40 1 = some 1) (hN : WN 1 I s) (hR : RInv s) (hV : RVal s) (hB : PB I s) (hKa : tK (K, I, Q, n) a (2, 4)) (ha1 : I a 1 = p) (ha2 : I a 2 = s (18 + p)) (p1 : 0 ≤ p ∧ p < s 0) (u1 : 0 ≤ u ∧ u ≤ 23) (hqk : s (10 + p) = 0) : tw_F l G 4 0 0 mH_worksAt [vr (some a), vr (some 40), vi u] (K, I, Q, n) (some (vi (n5' (rAt s p u)))) (K, I, Q, n) := by
  obtain ⟨h0, h1, h2, h3, h4, h5, h6, hp, hrw, ht, hr, hb, htp, hv⟩ := id hR
  have a1 := rLeast_bd (s := s) (p := p) h1.1
  have a2 := rHome_bd (s := s) (p := p) h1.1
  have a3 := rBest_bd (s := s) (p := p) (u := u) (g := 0) h1.1
  have a4 := rBest_bd (s := s) (p := p) (u := u) (g := 1) h1.1
  have hbl := rBell_bd hR
  have hpp := hp p (by omega) (by omega)
  refine tw_intro okH_worksAt (Nat.le_of_ble_eq_true rfl) ?_
  refine ar_aloadn (k := 0) rfl rfl ?_
  refine ar_aloadn (k := 1) rfl rfl ?_
  refine br_getR (k := 2) rfl (hS.k (by decide)) flH_24_6 (by decide) rfl hq ?_
  refine ar_iloadn (k := 3) rfl rfl ?_
  refine ar_callU (k := 4) (as := [_, _]) rfl lvH_30_H hKa rfl (c_H_comes_H hS hq hN hR hV hB hKa ha1 ha2 p1 u1) rfl (by decide) (by decide) tw_m0 (Nat.le_of_ble_eq_true rfl) (fun r4 h4 p4 => ?_)
  obtain ⟨rfl, rfl⟩ := p4
  refine ar_if_eq (k := 5) rfl (by omega) (fun c5 => ?_) (fun c5 => ?_)
  · refine ar_bipush (k := 11) rfl (by decide) ?_
    have hn5 : n5' (rLeast s p) = if (rLeast s p) = -1 then -5 else (rLeast s p) := rfl
    refine ar_istoren (k := 12) (l2 := [(3, _), (0, _), (1, _), (2, _)]) rfl (by decide) rfl ?_
    refine ar_iloadn (k := 13) rfl rfl ?_
    refine ar_if_lt (k := 14) rfl (by omega) (fun c14 => ?_) (fun c14 => ?_)
    · refine ar_aloadn (k := 17) rfl rfl ?_
      refine ar_aloadn (k := 18) rfl rfl ?_
      refine ar_callU (k := 19) (as := [_]) rfl lvH_38_H hKa rfl (c_H_insteadOfNone_H hS hq hN hR hV hB hKa ha1 ha2 p1 u1) rfl (by decide) (by decide) tw_m0 (Nat.le_of_ble_eq_true rfl) (fun r19 h19 p19 => ?_)
      obtain ⟨rfl, rfl⟩ := p19
      refine ar_iret (k := 20) rfl rfl rfl (Nat.le_refl _) ?_
      have e9 : n5' (rAt s p u) = if rAt s p u = -1 then -5 else rAt s p u := rfl
      have e8 := rAt_0 (s := s) (p := p) (u := u) hqk
      exact ⟨congrArg (fun z => some (vi z)) (by omega), rfl⟩
    · refine ar_iloadn (k := 15) rfl rfl ?_
      refine ar_goto (k := 16) rfl ?_
      refine ar_iret (k := 20) rfl rfl rfl (Nat.le_refl _) ?_
      have e9 : n5' (rAt s p u) = if rAt s p u = -1 then -5 else rAt s p u := rfl
      have e8 := rAt_0 (s := s) (p := p) (u := u) hqk
      exact ⟨congrArg (fun z => some (vi z)) (by omega), rfl⟩
  · refine ar_aloadn (k := 6) rfl rfl ?_
    refine ar_aloadn (k := 7) rfl rfl ?_
    refine ar_iloadn (k := 8) rfl rfl ?_
    refine ar_callU (k := 9) (as := [_, _]) rfl lvH_34_H hKa rfl (c_H_picks_H hS hq hN hR hV hB hKa ha1 ha2 p1 u1) rfl (by decide) (by decide) tw_m0 (Nat.le_of_ble_eq_true rfl) (fun r9 h9 p9 => ?_)
    obtain ⟨rfl, rfl⟩ := p9
    refine ar_goto (k := 10) rfl ?_
    have hn5 : n5' (rLeast s p) = if (rLeast s p) = -1 then -5 else (rLeast s p) := rfl
    refine ar_istoren (k := 12) (l2 := [(3, _), (0, _), (1, _), (2, _)]) rfl (by decide) rfl ?_
    refine ar_iloadn (k := 13) rfl rfl ?_
    refine ar_if_lt (k := 14) rfl (by omega) (fun c14 => ?_) (fun c14 => ?_)
    · refine ar_aloadn (k := 17) rfl rfl ?_
      refine ar_aloadn (k := 18) rfl rfl ?_
      refine ar_callU (k := 19) (as := [_]) rfl lvH_38_H hKa rfl (c_H_insteadOfNone_H hS hq hN hR hV hB hKa ha1 ha2 p1 u1) rfl (by decide) (by decide) tw_m0 (Nat.le_of_ble_eq_true rfl) (fun r19 h19 p19 => ?_)
      obtain ⟨rfl, rfl⟩ := p19
      refine ar_iret (k := 20) rfl rfl rfl (Nat.le_refl _) ?_
      have e9 : n5' (rAt s p u) = if rAt s p u = -1 then -5 else rAt s p u := rfl
      have e8 := rAt_0 (s := s) (p := p) (u := u) hqk
      exact ⟨congrArg (fun z => some (vi z)) (by omega), rfl⟩
    · refine ar_iloadn (k := 15) rfl rfl ?_
      refine ar_goto (k := 16) rfl ?_
      refine ar_iret (k := 20) rfl rfl rfl (Nat.le_refl _) ?_
      have e9 : n5' (rAt s p u) = if rAt s p u = -1 then -5 else rAt s p u := rfl
      have e8 := rAt_0 (s := s) (p := p) (u := u) hqk
      exact ⟨congrArg (fun z => some (vi z)) (by omega), rfl⟩
theorem rAt_1 {p u : Int} (h : s (10 + p) = 1) : rAt s p u = if rFreeP s p u ∧ u % rBell s = 0 then rBest s p u 0 else -1 := by unfold rAt; rw [if_pos h]
theorem c_H_worksAt_B {p u : Int} {a : Nat} (hS : tSt (K, I, Q, n)) (hq : Q 40 1 = some 1) (hN : WN 1 I s) (hR : RInv s) (hV : RVal s) (hB : PB I s) (hKa : tK (K, I, Q, n) a (0, 4)) (ha1 : I a 1 = p) (ha2 : I a 2 = s (18 + p)) (p1 : 0 ≤ p ∧ p < s 0) (u1 : 0 ≤ u ∧ u ≤ 23) (hqk : s (10 + p) = 1) : tw_F l G 4 0 0 mH_worksAt [vr (some a), vr (some 40), vi u] (K, I, Q, n) (some (vi (n5' (rAt s p u)))) (K, I, Q, n) := by
  obtain ⟨h0, h1, h2, h3, h4, h5, h6, hp, hrw, ht, hr, hb, htp, hv⟩ := id hR
  have a1 := rLeast_bd (s := s) (p := p) h1.1
  have a2 := rHome_bd (s := s) (p := p) h1.1
  have a3 := rBest_bd (s := s) (p := p) (u := u) (g := 0) h1.1
  have a4 := rBest_bd (s := s) (p := p) (u := u) (g := 1) h1.1
  have hbl := rBell_bd hR
  have hpp := hp p (by omega) (by omega)
  refine tw_intro okH_worksAt (Nat.le_of_ble_eq_true rfl) ?_
  refine ar_aloadn (k := 0) rfl rfl ?_
  refine ar_aloadn (k := 1) rfl rfl ?_
  refine br_getR (k := 2) rfl (hS.k (by decide)) flH_24_6 (by decide) rfl hq ?_
  refine ar_iloadn (k := 3) rfl rfl ?_
  refine ar_callU (k := 4) (as := [_, _]) rfl lvH_30_B hKa rfl (c_H_comes_B hS hq hN hR hV hB hKa ha1 ha2 p1 u1) rfl (by decide) (by decide) tw_m0 (Nat.le_of_ble_eq_true rfl) (fun r4 h4 p4 => ?_)
  obtain ⟨rfl, rfl⟩ := p4
  refine ar_if_eq (k := 5) rfl (by omega) (fun c5 => ?_) (fun c5 => ?_)
  · refine ar_bipush (k := 11) rfl (by decide) ?_
    have hn5 : n5' ((if u % rBell s = 0 then rBest s p u 0 else -1)) = if ((if u % rBell s = 0 then rBest s p u 0 else -1)) = -1 then -5 else ((if u % rBell s = 0 then rBest s p u 0 else -1)) := rfl
    refine ar_istoren (k := 12) (l2 := [(3, _), (0, _), (1, _), (2, _)]) rfl (by decide) rfl ?_
    refine ar_iloadn (k := 13) rfl rfl ?_
    refine ar_if_lt (k := 14) rfl (by omega) (fun c14 => ?_) (fun c14 => ?_)
    · refine ar_aloadn (k := 17) rfl rfl ?_
      refine ar_aloadn (k := 18) rfl rfl ?_
      refine ar_callU (k := 19) (as := [_]) rfl lvH_38_B hKa rfl (c_H_insteadOfNone_B hS hq hN hR hV hB hKa ha1 ha2 p1 u1) rfl (by decide) (by decide) tw_m0 (Nat.le_of_ble_eq_true rfl) (fun r19 h19 p19 => ?_)
      obtain ⟨rfl, rfl⟩ := p19
      refine ar_iret (k := 20) rfl rfl rfl (Nat.le_refl _) ?_
      have e9 : n5' (rAt s p u) = if rAt s p u = -1 then -5 else rAt s p u := rfl
      have e8 := rAt_1 (s := s) (p := p) (u := u) hqk
      exact ⟨congrArg (fun z => some (vi z)) (by omega), rfl⟩
    · refine ar_iloadn (k := 15) rfl rfl ?_
      refine ar_goto (k := 16) rfl ?_
      refine ar_iret (k := 20) rfl rfl rfl (Nat.le_refl _) ?_
      have e9 : n5' (rAt s p u) = if rAt s p u = -1 then -5 else rAt s p u := rfl
      have e8 := rAt_1 (s := s) (p := p) (u := u) hqk
      exact ⟨congrArg (fun z => some (vi z)) (by omega), rfl⟩
  · refine ar_aloadn (k := 6) rfl rfl ?_
    refine ar_aloadn (k := 7) rfl rfl ?_
    refine ar_iloadn (k := 8) rfl rfl ?_
    refine ar_callO (k := 9) (as := [_, _]) rfl lvH_34_B hKa rfl (c_B_picks_B hS hq hN hR hV hB hKa ha1 ha2 p1 u1) rfl (by decide) (by decide) tw_m0 (Nat.le_of_ble_eq_true rfl) (fun r9 h9 p9 => ?_)
    obtain ⟨rfl, rfl⟩ := p9
    refine ar_goto (k := 10) rfl ?_
    have hn5 : n5' ((if u % rBell s = 0 then rBest s p u 0 else -1)) = if ((if u % rBell s = 0 then rBest s p u 0 else -1)) = -1 then -5 else ((if u % rBell s = 0 then rBest s p u 0 else -1)) := rfl
    refine ar_istoren (k := 12) (l2 := [(3, _), (0, _), (1, _), (2, _)]) rfl (by decide) rfl ?_
    refine ar_iloadn (k := 13) rfl rfl ?_
    refine ar_if_lt (k := 14) rfl (by omega) (fun c14 => ?_) (fun c14 => ?_)
    · refine ar_aloadn (k := 17) rfl rfl ?_
      refine ar_aloadn (k := 18) rfl rfl ?_
      refine ar_callU (k := 19) (as := [_]) rfl lvH_38_B hKa rfl (c_H_insteadOfNone_B hS hq hN hR hV hB hKa ha1 ha2 p1 u1) rfl (by decide) (by decide) tw_m0 (Nat.le_of_ble_eq_true rfl) (fun r19 h19 p19 => ?_)
      obtain ⟨rfl, rfl⟩ := p19
      refine ar_iret (k := 20) rfl rfl rfl (Nat.le_refl _) ?_
      have e9 : n5' (rAt s p u) = if rAt s p u = -1 then -5 else rAt s p u := rfl
      have e8 := rAt_1 (s := s) (p := p) (u := u) hqk
      exact ⟨congrArg (fun z => some (vi z)) (by omega), rfl⟩
    · refine ar_iloadn (k := 15) rfl rfl ?_
      refine ar_goto (k := 16) rfl ?_
      refine ar_iret (k := 20) rfl rfl rfl (Nat.le_refl _) ?_
      have e9 : n5' (rAt s p u) = if rAt s p u = -1 then -5 else rAt s p u := rfl
      have e8 := rAt_1 (s := s) (p := p) (u := u) hqk
      exact ⟨congrArg (fun z => some (vi z)) (by omega), rfl⟩
theorem rAt_2 {p u : Int} (h : s (10 + p) = 2) : rAt s p u = if rFreeP s p u then rHome s p else -1 := by unfold rAt; rw [if_neg (by omega), if_pos h]
theorem c_H_worksAt_O {p u : Int} {a : Nat} (hS : tSt (K, I, Q, n)) (hq : Q 40 1 = some 1) (hN : WN 1 I s) (hR : RInv s) (hV : RVal s) (hB : PB I s) (hKa : tK (K, I, Q, n) a (3, 4)) (ha1 : I a 1 = p) (ha2 : I a 2 = s (18 + p)) (p1 : 0 ≤ p ∧ p < s 0) (u1 : 0 ≤ u ∧ u ≤ 23) (hqk : s (10 + p) = 2) : tw_F l G 4 0 0 mH_worksAt [vr (some a), vr (some 40), vi u] (K, I, Q, n) (some (vi (n5' (rAt s p u)))) (K, I, Q, n) := by
  obtain ⟨h0, h1, h2, h3, h4, h5, h6, hp, hrw, ht, hr, hb, htp, hv⟩ := id hR
  have a1 := rLeast_bd (s := s) (p := p) h1.1
  have a2 := rHome_bd (s := s) (p := p) h1.1
  have a3 := rBest_bd (s := s) (p := p) (u := u) (g := 0) h1.1
  have a4 := rBest_bd (s := s) (p := p) (u := u) (g := 1) h1.1
  have hbl := rBell_bd hR
  have hpp := hp p (by omega) (by omega)
  refine tw_intro okH_worksAt (Nat.le_of_ble_eq_true rfl) ?_
  refine ar_aloadn (k := 0) rfl rfl ?_
  refine ar_aloadn (k := 1) rfl rfl ?_
  refine br_getR (k := 2) rfl (hS.k (by decide)) flH_24_6 (by decide) rfl hq ?_
  refine ar_iloadn (k := 3) rfl rfl ?_
  refine ar_callU (k := 4) (as := [_, _]) rfl lvH_30_O hKa rfl (c_H_comes_O hS hq hN hR hV hB hKa ha1 ha2 p1 u1) rfl (by decide) (by decide) tw_m0 (Nat.le_of_ble_eq_true rfl) (fun r4 h4 p4 => ?_)
  obtain ⟨rfl, rfl⟩ := p4
  refine ar_if_eq (k := 5) rfl (by omega) (fun c5 => ?_) (fun c5 => ?_)
  · refine ar_bipush (k := 11) rfl (by decide) ?_
    have hn5 : n5' (rHome s p) = if (rHome s p) = -1 then -5 else (rHome s p) := rfl
    refine ar_istoren (k := 12) (l2 := [(3, _), (0, _), (1, _), (2, _)]) rfl (by decide) rfl ?_
    refine ar_iloadn (k := 13) rfl rfl ?_
    refine ar_if_lt (k := 14) rfl (by omega) (fun c14 => ?_) (fun c14 => ?_)
    · refine ar_aloadn (k := 17) rfl rfl ?_
      refine ar_aloadn (k := 18) rfl rfl ?_
      refine ar_callU (k := 19) (as := [_]) rfl lvH_38_O hKa rfl (c_H_insteadOfNone_O hS hq hN hR hV hB hKa ha1 ha2 p1 u1) rfl (by decide) (by decide) tw_m0 (Nat.le_of_ble_eq_true rfl) (fun r19 h19 p19 => ?_)
      obtain ⟨rfl, rfl⟩ := p19
      refine ar_iret (k := 20) rfl rfl rfl (Nat.le_refl _) ?_
      have e9 : n5' (rAt s p u) = if rAt s p u = -1 then -5 else rAt s p u := rfl
      have e8 := rAt_2 (s := s) (p := p) (u := u) hqk
      exact ⟨congrArg (fun z => some (vi z)) (by omega), rfl⟩
    · refine ar_iloadn (k := 15) rfl rfl ?_
      refine ar_goto (k := 16) rfl ?_
      refine ar_iret (k := 20) rfl rfl rfl (Nat.le_refl _) ?_
      have e9 : n5' (rAt s p u) = if rAt s p u = -1 then -5 else rAt s p u := rfl
      have e8 := rAt_2 (s := s) (p := p) (u := u) hqk
      exact ⟨congrArg (fun z => some (vi z)) (by omega), rfl⟩
  · refine ar_aloadn (k := 6) rfl rfl ?_
    refine ar_aloadn (k := 7) rfl rfl ?_
    refine ar_iloadn (k := 8) rfl rfl ?_
    refine ar_callO (k := 9) (as := [_, _]) rfl lvH_34_O hKa rfl (c_O_picks_O hS hq hN hR hV hB hKa ha1 ha2 p1 u1) rfl (by decide) (by decide) tw_m0 (Nat.le_of_ble_eq_true rfl) (fun r9 h9 p9 => ?_)
    obtain ⟨rfl, rfl⟩ := p9
    refine ar_goto (k := 10) rfl ?_
    have hn5 : n5' (rHome s p) = if (rHome s p) = -1 then -5 else (rHome s p) := rfl
    refine ar_istoren (k := 12) (l2 := [(3, _), (0, _), (1, _), (2, _)]) rfl (by decide) rfl ?_
    refine ar_iloadn (k := 13) rfl rfl ?_
    refine ar_if_lt (k := 14) rfl (by omega) (fun c14 => ?_) (fun c14 => ?_)
    · refine ar_aloadn (k := 17) rfl rfl ?_
      refine ar_aloadn (k := 18) rfl rfl ?_
      refine ar_callU (k := 19) (as := [_]) rfl lvH_38_O hKa rfl (c_H_insteadOfNone_O hS hq hN hR hV hB hKa ha1 ha2 p1 u1) rfl (by decide) (by decide) tw_m0 (Nat.le_of_ble_eq_true rfl) (fun r19 h19 p19 => ?_)
      obtain ⟨rfl, rfl⟩ := p19
      refine ar_iret (k := 20) rfl rfl rfl (Nat.le_refl _) ?_
      have e9 : n5' (rAt s p u) = if rAt s p u = -1 then -5 else rAt s p u := rfl
      have e8 := rAt_2 (s := s) (p := p) (u := u) hqk
      exact ⟨congrArg (fun z => some (vi z)) (by omega), rfl⟩
    · refine ar_iloadn (k := 15) rfl rfl ?_
      refine ar_goto (k := 16) rfl ?_
      refine ar_iret (k := 20) rfl rfl rfl (Nat.le_refl _) ?_
      have e9 : n5' (rAt s p u) = if rAt s p u = -1 then -5 else rAt s p u := rfl
      have e8 := rAt_2 (s := s) (p := p) (u := u) hqk
      exact ⟨congrArg (fun z => some (vi z)) (by omega), rfl⟩
theorem rAt_3 {p u : Int} (h : s (10 + p) = 3) : rAt s p u = if rFreeP s p u then rBest s p u 1 else -1 := by unfold rAt; rw [if_neg (by omega), if_neg (by omega), if_pos h]
theorem c_H_worksAt_G {p u : Int} {a : Nat} (hS : tSt (K, I, Q, n)) (hq : Q 40 1 = some 1) (hN : WN 1 I s) (hR : RInv s) (hV : RVal s) (hB : PB I s) (hKa : tK (K, I, Q, n) a (1, 4)) (ha1 : I a 1 = p) (ha2 : I a 2 = s (18 + p)) (p1 : 0 ≤ p ∧ p < s 0) (u1 : 0 ≤ u ∧ u ≤ 23) (hqk : s (10 + p) = 3) : tw_F l G 4 0 0 mH_worksAt [vr (some a), vr (some 40), vi u] (K, I, Q, n) (some (vi (n5' (rAt s p u)))) (K, I, Q, n) := by
  obtain ⟨h0, h1, h2, h3, h4, h5, h6, hp, hrw, ht, hr, hb, htp, hv⟩ := id hR
  have a1 := rLeast_bd (s := s) (p := p) h1.1
  have a2 := rHome_bd (s := s) (p := p) h1.1
  have a3 := rBest_bd (s := s) (p := p) (u := u) (g := 0) h1.1
  have a4 := rBest_bd (s := s) (p := p) (u := u) (g := 1) h1.1
  have hbl := rBell_bd hR
  have hpp := hp p (by omega) (by omega)
  refine tw_intro okH_worksAt (Nat.le_of_ble_eq_true rfl) ?_
  refine ar_aloadn (k := 0) rfl rfl ?_
  refine ar_aloadn (k := 1) rfl rfl ?_
  refine br_getR (k := 2) rfl (hS.k (by decide)) flH_24_6 (by decide) rfl hq ?_
  refine ar_iloadn (k := 3) rfl rfl ?_
  refine ar_callU (k := 4) (as := [_, _]) rfl lvH_30_G hKa rfl (c_H_comes_G hS hq hN hR hV hB hKa ha1 ha2 p1 u1) rfl (by decide) (by decide) tw_m0 (Nat.le_of_ble_eq_true rfl) (fun r4 h4 p4 => ?_)
  obtain ⟨rfl, rfl⟩ := p4
  refine ar_if_eq (k := 5) rfl (by omega) (fun c5 => ?_) (fun c5 => ?_)
  · refine ar_bipush (k := 11) rfl (by decide) ?_
    have hn5 : n5' (rBest s p u 1) = if (rBest s p u 1) = -1 then -5 else (rBest s p u 1) := rfl
    refine ar_istoren (k := 12) (l2 := [(3, _), (0, _), (1, _), (2, _)]) rfl (by decide) rfl ?_
    refine ar_iloadn (k := 13) rfl rfl ?_
    refine ar_if_lt (k := 14) rfl (by omega) (fun c14 => ?_) (fun c14 => ?_)
    · refine ar_aloadn (k := 17) rfl rfl ?_
      refine ar_aloadn (k := 18) rfl rfl ?_
      refine ar_callU (k := 19) (as := [_]) rfl lvH_38_G hKa rfl (c_H_insteadOfNone_G hS hq hN hR hV hB hKa ha1 ha2 p1 u1) rfl (by decide) (by decide) tw_m0 (Nat.le_of_ble_eq_true rfl) (fun r19 h19 p19 => ?_)
      obtain ⟨rfl, rfl⟩ := p19
      refine ar_iret (k := 20) rfl rfl rfl (Nat.le_refl _) ?_
      have e9 : n5' (rAt s p u) = if rAt s p u = -1 then -5 else rAt s p u := rfl
      have e8 := rAt_3 (s := s) (p := p) (u := u) hqk
      exact ⟨congrArg (fun z => some (vi z)) (by omega), rfl⟩
    · refine ar_iloadn (k := 15) rfl rfl ?_
      refine ar_goto (k := 16) rfl ?_
      refine ar_iret (k := 20) rfl rfl rfl (Nat.le_refl _) ?_
      have e9 : n5' (rAt s p u) = if rAt s p u = -1 then -5 else rAt s p u := rfl
      have e8 := rAt_3 (s := s) (p := p) (u := u) hqk
      exact ⟨congrArg (fun z => some (vi z)) (by omega), rfl⟩
  · refine ar_aloadn (k := 6) rfl rfl ?_
    refine ar_aloadn (k := 7) rfl rfl ?_
    refine ar_iloadn (k := 8) rfl rfl ?_
    refine ar_callO (k := 9) (as := [_, _]) rfl lvH_34_G hKa rfl (c_G_picks_G hS hq hN hR hV hB hKa ha1 ha2 p1 u1) rfl (by decide) (by decide) tw_m0 (Nat.le_of_ble_eq_true rfl) (fun r9 h9 p9 => ?_)
    obtain ⟨rfl, rfl⟩ := p9
    refine ar_goto (k := 10) rfl ?_
    have hn5 : n5' (rBest s p u 1) = if (rBest s p u 1) = -1 then -5 else (rBest s p u 1) := rfl
    refine ar_istoren (k := 12) (l2 := [(3, _), (0, _), (1, _), (2, _)]) rfl (by decide) rfl ?_
    refine ar_iloadn (k := 13) rfl rfl ?_
    refine ar_if_lt (k := 14) rfl (by omega) (fun c14 => ?_) (fun c14 => ?_)
    · refine ar_aloadn (k := 17) rfl rfl ?_
      refine ar_aloadn (k := 18) rfl rfl ?_
      refine ar_callU (k := 19) (as := [_]) rfl lvH_38_G hKa rfl (c_H_insteadOfNone_G hS hq hN hR hV hB hKa ha1 ha2 p1 u1) rfl (by decide) (by decide) tw_m0 (Nat.le_of_ble_eq_true rfl) (fun r19 h19 p19 => ?_)
      obtain ⟨rfl, rfl⟩ := p19
      refine ar_iret (k := 20) rfl rfl rfl (Nat.le_refl _) ?_
      have e9 : n5' (rAt s p u) = if rAt s p u = -1 then -5 else rAt s p u := rfl
      have e8 := rAt_3 (s := s) (p := p) (u := u) hqk
      exact ⟨congrArg (fun z => some (vi z)) (by omega), rfl⟩
    · refine ar_iloadn (k := 15) rfl rfl ?_
      refine ar_goto (k := 16) rfl ?_
      refine ar_iret (k := 20) rfl rfl rfl (Nat.le_refl _) ?_
      have e9 : n5' (rAt s p u) = if rAt s p u = -1 then -5 else rAt s p u := rfl
      have e8 := rAt_3 (s := s) (p := p) (u := u) hqk
      exact ⟨congrArg (fun z => some (vi z)) (by omega), rfl⟩
theorem rAt_4 {p u : Int} (h : s (10 + p) = 4) : rAt s p u = if (if rFreeP s p u ∧ u % rBell s = 0 then rBest s p u 0 else -1) = -1 ∧ (0 ≤ s (18 + p) ∧ s (18 + p) ≤ s 1 - 1) ∧ rFitP s p (s (18 + p)) then s (18 + p) else (if rFreeP s p u ∧ u % rBell s = 0 then rBest s p u 0 else -1) := by unfold rAt; rw [if_neg (by omega), if_neg (by omega), if_neg (by omega), if_pos h]
theorem c_H_worksAt_L {p u : Int} {a : Nat} (hS : tSt (K, I, Q, n)) (hq : Q 40 1 = some 1) (hN : WN 1 I s) (hR : RInv s) (hV : RVal s) (hB : PB I s) (hKa : tK (K, I, Q, n) a (5, 4)) (ha1 : I a 1 = p) (ha2 : I a 2 = s (18 + p)) (p1 : 0 ≤ p ∧ p < s 0) (u1 : 0 ≤ u ∧ u ≤ 23) (hqk : s (10 + p) = 4) : tw_F l G 4 0 0 mH_worksAt [vr (some a), vr (some 40), vi u] (K, I, Q, n) (some (vi (n5' (rAt s p u)))) (K, I, Q, n) := by
  obtain ⟨h0, h1, h2, h3, h4, h5, h6, hp, hrw, ht, hr, hb, htp, hv⟩ := id hR
  have a1 := rLeast_bd (s := s) (p := p) h1.1
  have a2 := rHome_bd (s := s) (p := p) h1.1
  have a3 := rBest_bd (s := s) (p := p) (u := u) (g := 0) h1.1
  have a4 := rBest_bd (s := s) (p := p) (u := u) (g := 1) h1.1
  have hbl := rBell_bd hR
  have hpp := hp p (by omega) (by omega)
  refine tw_intro okH_worksAt (Nat.le_of_ble_eq_true rfl) ?_
  refine ar_aloadn (k := 0) rfl rfl ?_
  refine ar_aloadn (k := 1) rfl rfl ?_
  refine br_getR (k := 2) rfl (hS.k (by decide)) flH_24_6 (by decide) rfl hq ?_
  refine ar_iloadn (k := 3) rfl rfl ?_
  refine ar_callU (k := 4) (as := [_, _]) rfl lvH_30_L hKa rfl (c_H_comes_L hS hq hN hR hV hB hKa ha1 ha2 p1 u1) rfl (by decide) (by decide) tw_m0 (Nat.le_of_ble_eq_true rfl) (fun r4 h4 p4 => ?_)
  obtain ⟨rfl, rfl⟩ := p4
  refine ar_if_eq (k := 5) rfl (by omega) (fun c5 => ?_) (fun c5 => ?_)
  · refine ar_bipush (k := 11) rfl (by decide) ?_
    have hn5 : n5' ((if u % rBell s = 0 then rBest s p u 0 else -1)) = if ((if u % rBell s = 0 then rBest s p u 0 else -1)) = -1 then -5 else ((if u % rBell s = 0 then rBest s p u 0 else -1)) := rfl
    have hn6 : n5' (if (0 ≤ s (18 + p) ∧ s (18 + p) ≤ s 1 - 1) ∧ rFitP s p (s (18 + p)) then s (18 + p) else -1) = if ((0 ≤ s (18 + p) ∧ s (18 + p) ≤ s 1 - 1) ∧ rFitP s p (s (18 + p))) then (if s (18 + p) = -1 then -5 else s (18 + p)) else -5 := by unfold n5'; (repeat' split) <;> first | rfl | omega
    refine ar_istoren (k := 12) (l2 := [(3, _), (0, _), (1, _), (2, _)]) rfl (by decide) rfl ?_
    refine ar_iloadn (k := 13) rfl rfl ?_
    refine ar_if_lt (k := 14) rfl (by omega) (fun c14 => ?_) (fun c14 => ?_)
    · refine ar_aloadn (k := 17) rfl rfl ?_
      refine ar_aloadn (k := 18) rfl rfl ?_
      refine ar_callO (k := 19) (as := [_]) rfl lvH_38_L hKa rfl (c_L_insteadOfNone_L hS hq hN hR hV hB hKa ha1 ha2 p1 u1) rfl (by decide) (by decide) tw_m0 (Nat.le_of_ble_eq_true rfl) (fun r19 h19 p19 => ?_)
      obtain ⟨rfl, rfl⟩ := p19
      refine ar_iret (k := 20) rfl rfl rfl (Nat.le_refl _) ?_
      have e9 : n5' (rAt s p u) = if rAt s p u = -1 then -5 else rAt s p u := rfl
      have e8 := rAt_4 (s := s) (p := p) (u := u) hqk
      exact ⟨congrArg (fun z => some (vi z)) (by omega), rfl⟩
    · refine ar_iloadn (k := 15) rfl rfl ?_
      refine ar_goto (k := 16) rfl ?_
      refine ar_iret (k := 20) rfl rfl rfl (Nat.le_refl _) ?_
      have e9 : n5' (rAt s p u) = if rAt s p u = -1 then -5 else rAt s p u := rfl
      have e8 := rAt_4 (s := s) (p := p) (u := u) hqk
      exact ⟨congrArg (fun z => some (vi z)) (by omega), rfl⟩
  · refine ar_aloadn (k := 6) rfl rfl ?_
    refine ar_aloadn (k := 7) rfl rfl ?_
    refine ar_iloadn (k := 8) rfl rfl ?_
    refine ar_callO (k := 9) (as := [_, _]) rfl lvH_34_L hKa rfl (c_B_picks_L hS hq hN hR hV hB hKa ha1 ha2 p1 u1) rfl (by decide) (by decide) tw_m0 (Nat.le_of_ble_eq_true rfl) (fun r9 h9 p9 => ?_)
    obtain ⟨rfl, rfl⟩ := p9
    refine ar_goto (k := 10) rfl ?_
    have hn5 : n5' ((if u % rBell s = 0 then rBest s p u 0 else -1)) = if ((if u % rBell s = 0 then rBest s p u 0 else -1)) = -1 then -5 else ((if u % rBell s = 0 then rBest s p u 0 else -1)) := rfl
    have hn6 : n5' (if (0 ≤ s (18 + p) ∧ s (18 + p) ≤ s 1 - 1) ∧ rFitP s p (s (18 + p)) then s (18 + p) else -1) = if ((0 ≤ s (18 + p) ∧ s (18 + p) ≤ s 1 - 1) ∧ rFitP s p (s (18 + p))) then (if s (18 + p) = -1 then -5 else s (18 + p)) else -5 := by unfold n5'; (repeat' split) <;> first | rfl | omega
    refine ar_istoren (k := 12) (l2 := [(3, _), (0, _), (1, _), (2, _)]) rfl (by decide) rfl ?_
    refine ar_iloadn (k := 13) rfl rfl ?_
    refine ar_if_lt (k := 14) rfl (by omega) (fun c14 => ?_) (fun c14 => ?_)
    · refine ar_aloadn (k := 17) rfl rfl ?_
      refine ar_aloadn (k := 18) rfl rfl ?_
      refine ar_callO (k := 19) (as := [_]) rfl lvH_38_L hKa rfl (c_L_insteadOfNone_L hS hq hN hR hV hB hKa ha1 ha2 p1 u1) rfl (by decide) (by decide) tw_m0 (Nat.le_of_ble_eq_true rfl) (fun r19 h19 p19 => ?_)
      obtain ⟨rfl, rfl⟩ := p19
      refine ar_iret (k := 20) rfl rfl rfl (Nat.le_refl _) ?_
      have e9 : n5' (rAt s p u) = if rAt s p u = -1 then -5 else rAt s p u := rfl
      have e8 := rAt_4 (s := s) (p := p) (u := u) hqk
      exact ⟨congrArg (fun z => some (vi z)) (by omega), rfl⟩
    · refine ar_iloadn (k := 15) rfl rfl ?_
      refine ar_goto (k := 16) rfl ?_
      refine ar_iret (k := 20) rfl rfl rfl (Nat.le_refl _) ?_
      have e9 : n5' (rAt s p u) = if rAt s p u = -1 then -5 else rAt s p u := rfl
      have e8 := rAt_4 (s := s) (p := p) (u := u) hqk
      exact ⟨congrArg (fun z => some (vi z)) (by omega), rfl⟩
theorem rAt_5 {p u : Int} (h : s (10 + p) = 5) : rAt s p u = if rFreeP s p ((u - s (18 + p) + 24) % 24) then rHome s p else -1 := by unfold rAt; rw [if_neg (by omega), if_neg (by omega), if_neg (by omega), if_neg (by omega), if_pos h]
theorem c_H_worksAt_A {p u : Int} {a : Nat} (hS : tSt (K, I, Q, n)) (hq : Q 40 1 = some 1) (hN : WN 1 I s) (hR : RInv s) (hV : RVal s) (hB : PB I s) (hKa : tK (K, I, Q, n) a (4, 4)) (ha1 : I a 1 = p) (ha2 : I a 2 = s (18 + p)) (p1 : 0 ≤ p ∧ p < s 0) (u1 : 0 ≤ u ∧ u ≤ 23) (hqk : s (10 + p) = 5) : tw_F l G 4 0 0 mH_worksAt [vr (some a), vr (some 40), vi u] (K, I, Q, n) (some (vi (n5' (rAt s p u)))) (K, I, Q, n) := by
  obtain ⟨h0, h1, h2, h3, h4, h5, h6, hp, hrw, ht, hr, hb, htp, hv⟩ := id hR
  have a1 := rLeast_bd (s := s) (p := p) h1.1
  have a2 := rHome_bd (s := s) (p := p) h1.1
  have a3 := rBest_bd (s := s) (p := p) (u := u) (g := 0) h1.1
  have a4 := rBest_bd (s := s) (p := p) (u := u) (g := 1) h1.1
  have hbl := rBell_bd hR
  have hpp := hp p (by omega) (by omega)
  refine tw_intro okH_worksAt (Nat.le_of_ble_eq_true rfl) ?_
  refine ar_aloadn (k := 0) rfl rfl ?_
  refine ar_aloadn (k := 1) rfl rfl ?_
  refine br_getR (k := 2) rfl (hS.k (by decide)) flH_24_6 (by decide) rfl hq ?_
  refine ar_iloadn (k := 3) rfl rfl ?_
  refine ar_callO (k := 4) (as := [_, _]) rfl lvH_30_A hKa rfl (c_A_comes_A hS hq hN hR hV hB hKa ha1 ha2 p1 u1) rfl (by decide) (by decide) tw_m0 (Nat.le_of_ble_eq_true rfl) (fun r4 h4 p4 => ?_)
  obtain ⟨rfl, rfl⟩ := p4
  refine ar_if_eq (k := 5) rfl (by omega) (fun c5 => ?_) (fun c5 => ?_)
  · refine ar_bipush (k := 11) rfl (by decide) ?_
    have hn5 : n5' (rHome s p) = if (rHome s p) = -1 then -5 else (rHome s p) := rfl
    refine ar_istoren (k := 12) (l2 := [(3, _), (0, _), (1, _), (2, _)]) rfl (by decide) rfl ?_
    refine ar_iloadn (k := 13) rfl rfl ?_
    refine ar_if_lt (k := 14) rfl (by omega) (fun c14 => ?_) (fun c14 => ?_)
    · refine ar_aloadn (k := 17) rfl rfl ?_
      refine ar_aloadn (k := 18) rfl rfl ?_
      refine ar_callU (k := 19) (as := [_]) rfl lvH_38_A hKa rfl (c_H_insteadOfNone_A hS hq hN hR hV hB hKa ha1 ha2 p1 u1) rfl (by decide) (by decide) tw_m0 (Nat.le_of_ble_eq_true rfl) (fun r19 h19 p19 => ?_)
      obtain ⟨rfl, rfl⟩ := p19
      refine ar_iret (k := 20) rfl rfl rfl (Nat.le_refl _) ?_
      have e9 : n5' (rAt s p u) = if rAt s p u = -1 then -5 else rAt s p u := rfl
      have e8 := rAt_5 (s := s) (p := p) (u := u) hqk
      exact ⟨congrArg (fun z => some (vi z)) (by omega), rfl⟩
    · refine ar_iloadn (k := 15) rfl rfl ?_
      refine ar_goto (k := 16) rfl ?_
      refine ar_iret (k := 20) rfl rfl rfl (Nat.le_refl _) ?_
      have e9 : n5' (rAt s p u) = if rAt s p u = -1 then -5 else rAt s p u := rfl
      have e8 := rAt_5 (s := s) (p := p) (u := u) hqk
      exact ⟨congrArg (fun z => some (vi z)) (by omega), rfl⟩
  · refine ar_aloadn (k := 6) rfl rfl ?_
    refine ar_aloadn (k := 7) rfl rfl ?_
    refine ar_iloadn (k := 8) rfl rfl ?_
    refine ar_callO (k := 9) (as := [_, _]) rfl lvH_34_A hKa rfl (c_O_picks_A hS hq hN hR hV hB hKa ha1 ha2 p1 u1) rfl (by decide) (by decide) tw_m0 (Nat.le_of_ble_eq_true rfl) (fun r9 h9 p9 => ?_)
    obtain ⟨rfl, rfl⟩ := p9
    refine ar_goto (k := 10) rfl ?_
    have hn5 : n5' (rHome s p) = if (rHome s p) = -1 then -5 else (rHome s p) := rfl
    refine ar_istoren (k := 12) (l2 := [(3, _), (0, _), (1, _), (2, _)]) rfl (by decide) rfl ?_
    refine ar_iloadn (k := 13) rfl rfl ?_
    refine ar_if_lt (k := 14) rfl (by omega) (fun c14 => ?_) (fun c14 => ?_)
    · refine ar_aloadn (k := 17) rfl rfl ?_
      refine ar_aloadn (k := 18) rfl rfl ?_
      refine ar_callU (k := 19) (as := [_]) rfl lvH_38_A hKa rfl (c_H_insteadOfNone_A hS hq hN hR hV hB hKa ha1 ha2 p1 u1) rfl (by decide) (by decide) tw_m0 (Nat.le_of_ble_eq_true rfl) (fun r19 h19 p19 => ?_)
      obtain ⟨rfl, rfl⟩ := p19
      refine ar_iret (k := 20) rfl rfl rfl (Nat.le_refl _) ?_
      have e9 : n5' (rAt s p u) = if rAt s p u = -1 then -5 else rAt s p u := rfl
      have e8 := rAt_5 (s := s) (p := p) (u := u) hqk
      exact ⟨congrArg (fun z => some (vi z)) (by omega), rfl⟩
    · refine ar_iloadn (k := 15) rfl rfl ?_
      refine ar_goto (k := 16) rfl ?_
      refine ar_iret (k := 20) rfl rfl rfl (Nat.le_refl _) ?_
      have e9 : n5' (rAt s p u) = if rAt s p u = -1 then -5 else rAt s p u := rfl
      have e8 := rAt_5 (s := s) (p := p) (u := u) hqk
      exact ⟨congrArg (fun z => some (vi z)) (by omega), rfl⟩
theorem rAt_6 {p u : Int} (h : s (10 + p) = 6) : rAt s p u = if ¬ rFreeP s p u then -1 else if (0 ≤ s (42 + 4 * p + u % 4) ∧ s (42 + 4 * p + u % 4) ≤ s 1 - 1) ∧ s (84 + s (42 + 4 * p + u % 4)) = p then s (42 + 4 * p + u % 4) else rBest s p u 1 := by unfold rAt; rw [if_neg (by omega), if_neg (by omega), if_neg (by omega), if_neg (by omega), if_neg (by omega), if_pos h]
theorem c_H_worksAt_D {p u : Int} {a : Nat} (hS : tSt (K, I, Q, n)) (hq : Q 40 1 = some 1) (hN : WN 1 I s) (hR : RInv s) (hV : RVal s) (hB : PB I s) (hKa : tK (K, I, Q, n) a (7, 4)) (ha1 : I a 1 = p) (ha2 : I a 2 = s (18 + p)) (p1 : 0 ≤ p ∧ p < s 0) (u1 : 0 ≤ u ∧ u ≤ 23) (hqk : s (10 + p) = 6) : tw_F l G 4 0 0 mH_worksAt [vr (some a), vr (some 40), vi u] (K, I, Q, n) (some (vi (n5' (rAt s p u)))) (K, I, Q, n) := by
  obtain ⟨h0, h1, h2, h3, h4, h5, h6, hp, hrw, ht, hr, hb, htp, hv⟩ := id hR
  have a1 := rLeast_bd (s := s) (p := p) h1.1
  have a2 := rHome_bd (s := s) (p := p) h1.1
  have a3 := rBest_bd (s := s) (p := p) (u := u) (g := 0) h1.1
  have a4 := rBest_bd (s := s) (p := p) (u := u) (g := 1) h1.1
  have hbl := rBell_bd hR
  have hpp := hp p (by omega) (by omega)
  refine tw_intro okH_worksAt (Nat.le_of_ble_eq_true rfl) ?_
  refine ar_aloadn (k := 0) rfl rfl ?_
  refine ar_aloadn (k := 1) rfl rfl ?_
  refine br_getR (k := 2) rfl (hS.k (by decide)) flH_24_6 (by decide) rfl hq ?_
  refine ar_iloadn (k := 3) rfl rfl ?_
  refine ar_callU (k := 4) (as := [_, _]) rfl lvH_30_D hKa rfl (c_H_comes_D hS hq hN hR hV hB hKa ha1 ha2 p1 u1) rfl (by decide) (by decide) tw_m0 (Nat.le_of_ble_eq_true rfl) (fun r4 h4 p4 => ?_)
  obtain ⟨rfl, rfl⟩ := p4
  refine ar_if_eq (k := 5) rfl (by omega) (fun c5 => ?_) (fun c5 => ?_)
  · refine ar_bipush (k := 11) rfl (by decide) ?_
    have hn5 : n5' ((if (0 ≤ s (42 + 4 * p + u % 4) ∧ s (42 + 4 * p + u % 4) ≤ s 1 - 1) ∧ s (84 + s (42 + 4 * p + u % 4)) = p then s (42 + 4 * p + u % 4) else rBest s p u 1)) = if ((if (0 ≤ s (42 + 4 * p + u % 4) ∧ s (42 + 4 * p + u % 4) ≤ s 1 - 1) ∧ s (84 + s (42 + 4 * p + u % 4)) = p then s (42 + 4 * p + u % 4) else rBest s p u 1)) = -1 then -5 else ((if (0 ≤ s (42 + 4 * p + u % 4) ∧ s (42 + 4 * p + u % 4) ≤ s 1 - 1) ∧ s (84 + s (42 + 4 * p + u % 4)) = p then s (42 + 4 * p + u % 4) else rBest s p u 1)) := rfl
    refine ar_istoren (k := 12) (l2 := [(3, _), (0, _), (1, _), (2, _)]) rfl (by decide) rfl ?_
    refine ar_iloadn (k := 13) rfl rfl ?_
    refine ar_if_lt (k := 14) rfl (by omega) (fun c14 => ?_) (fun c14 => ?_)
    · refine ar_aloadn (k := 17) rfl rfl ?_
      refine ar_aloadn (k := 18) rfl rfl ?_
      refine ar_callU (k := 19) (as := [_]) rfl lvH_38_D hKa rfl (c_H_insteadOfNone_D hS hq hN hR hV hB hKa ha1 ha2 p1 u1) rfl (by decide) (by decide) tw_m0 (Nat.le_of_ble_eq_true rfl) (fun r19 h19 p19 => ?_)
      obtain ⟨rfl, rfl⟩ := p19
      refine ar_iret (k := 20) rfl rfl rfl (Nat.le_refl _) ?_
      have e9 : n5' (rAt s p u) = if rAt s p u = -1 then -5 else rAt s p u := rfl
      have e8 := rAt_6 (s := s) (p := p) (u := u) hqk
      exact ⟨congrArg (fun z => some (vi z)) (by omega), rfl⟩
    · refine ar_iloadn (k := 15) rfl rfl ?_
      refine ar_goto (k := 16) rfl ?_
      refine ar_iret (k := 20) rfl rfl rfl (Nat.le_refl _) ?_
      have e9 : n5' (rAt s p u) = if rAt s p u = -1 then -5 else rAt s p u := rfl
      have e8 := rAt_6 (s := s) (p := p) (u := u) hqk
      exact ⟨congrArg (fun z => some (vi z)) (by omega), rfl⟩
  · refine ar_aloadn (k := 6) rfl rfl ?_
    refine ar_aloadn (k := 7) rfl rfl ?_
    refine ar_iloadn (k := 8) rfl rfl ?_
    refine ar_callO (k := 9) (as := [_, _]) rfl lvH_34_D hKa rfl (c_D_picks_D hS hq hN hR hV hB hKa ha1 ha2 p1 u1) rfl (by decide) (by decide) tw_m0 (Nat.le_of_ble_eq_true rfl) (fun r9 h9 p9 => ?_)
    obtain ⟨rfl, rfl⟩ := p9
    refine ar_goto (k := 10) rfl ?_
    have hn5 : n5' ((if (0 ≤ s (42 + 4 * p + u % 4) ∧ s (42 + 4 * p + u % 4) ≤ s 1 - 1) ∧ s (84 + s (42 + 4 * p + u % 4)) = p then s (42 + 4 * p + u % 4) else rBest s p u 1)) = if ((if (0 ≤ s (42 + 4 * p + u % 4) ∧ s (42 + 4 * p + u % 4) ≤ s 1 - 1) ∧ s (84 + s (42 + 4 * p + u % 4)) = p then s (42 + 4 * p + u % 4) else rBest s p u 1)) = -1 then -5 else ((if (0 ≤ s (42 + 4 * p + u % 4) ∧ s (42 + 4 * p + u % 4) ≤ s 1 - 1) ∧ s (84 + s (42 + 4 * p + u % 4)) = p then s (42 + 4 * p + u % 4) else rBest s p u 1)) := rfl
    refine ar_istoren (k := 12) (l2 := [(3, _), (0, _), (1, _), (2, _)]) rfl (by decide) rfl ?_
    refine ar_iloadn (k := 13) rfl rfl ?_
    refine ar_if_lt (k := 14) rfl (by omega) (fun c14 => ?_) (fun c14 => ?_)
    · refine ar_aloadn (k := 17) rfl rfl ?_
      refine ar_aloadn (k := 18) rfl rfl ?_
      refine ar_callU (k := 19) (as := [_]) rfl lvH_38_D hKa rfl (c_H_insteadOfNone_D hS hq hN hR hV hB hKa ha1 ha2 p1 u1) rfl (by decide) (by decide) tw_m0 (Nat.le_of_ble_eq_true rfl) (fun r19 h19 p19 => ?_)
      obtain ⟨rfl, rfl⟩ := p19
      refine ar_iret (k := 20) rfl rfl rfl (Nat.le_refl _) ?_
      have e9 : n5' (rAt s p u) = if rAt s p u = -1 then -5 else rAt s p u := rfl
      have e8 := rAt_6 (s := s) (p := p) (u := u) hqk
      exact ⟨congrArg (fun z => some (vi z)) (by omega), rfl⟩
    · refine ar_iloadn (k := 15) rfl rfl ?_
      refine ar_goto (k := 16) rfl ?_
      refine ar_iret (k := 20) rfl rfl rfl (Nat.le_refl _) ?_
      have e9 : n5' (rAt s p u) = if rAt s p u = -1 then -5 else rAt s p u := rfl
      have e8 := rAt_6 (s := s) (p := p) (u := u) hqk
      exact ⟨congrArg (fun z => some (vi z)) (by omega), rfl⟩
end CW
