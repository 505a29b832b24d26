section CL
variable {l : Launch} {G : tG} {K : Nat → Nat × Nat} {I : Nat → Int → Int} {Q : Nat → Int → Option Nat} {n : Nat} {s : Int → Int}
theorem c_W_vNo1 (hS : tSt (K, I, Q, n)) (hN : WN 1 I s) (hR : RInv s) (h20 : s 2 = 0) : tw_F l G 1 0 0 mW_valleyOrNull [vr (some 1)] (K, I, Q, n) (some (vr none)) (K, I, Q, n) := by
  obtain ⟨h0, h1, h2, h3, h4, h5, h6, hp, hrw, ht, hr, hb, htp, hv⟩ := id hR
  refine tw_intro okW_valleyOrNull (Nat.le_of_ble_eq_true rfl) ?_
  refine ar_aloadn (k := 0) rfl rfl ?_
  refine br_getIz (k := 1) (z := 3) rfl (hS.k (by decide)) flW_25_10 (by decide) rfl rfl ?_
  refine tw_top (WN.vc hN) ?_
  refine ar_if_le (k := 2) rfl (by omega) (fun c2 => ?_) (fun c2 => ?_)
  · refine ar_null (k := 15) rfl ?_
    refine ar_aret (k := 16) rfl rfl rfl (Nat.le_refl _) ?_
    exact ⟨rfl, rfl⟩
  · exfalso; omega
theorem c_W_vYes1 {v : Nat} (hS : tSt (K, I, Q, n)) (hN : WN 1 I s) (hR : RInv s) (h20 : s 2 ≠ 0) (hQv : Q 3 (s 6) = some v) : tw_F l G 1 0 0 mW_valleyOrNull [vr (some 1)] (K, I, Q, n) (some (vr (some v))) (K, I, Q, n) := by
  obtain ⟨h0, h1, h2, h3, h4, h5, h6, hp, hrw, ht, hr, hb, htp, hv⟩ := id hR
  refine tw_intro okW_valleyOrNull (Nat.le_of_ble_eq_true rfl) ?_
  refine ar_aloadn (k := 0) rfl rfl ?_
  refine br_getIz (k := 1) (z := 3) rfl (hS.k (by decide)) flW_25_10 (by decide) rfl rfl ?_
  refine tw_top (WN.vc hN) ?_
  refine ar_if_le (k := 2) rfl (by omega) (fun c2 => ?_) (fun c2 => ?_)
  · exfalso; omega
  · refine ar_aloadn (k := 3) rfl rfl ?_
    refine br_getIz (k := 4) (z := 3) rfl (hS.k (by decide)) flW_25_10 (by decide) rfl rfl ?_
    refine tw_top (WN.vc hN) ?_
    refine ar_iconst (k := 5) rfl ?_
    refine ar_icmp_gt (k := 6) rfl (by omega) (by omega) (fun c6 => ?_) (fun c6 => ?_)
    · exfalso; omega
    · refine ar_aloadn (k := 7) rfl rfl ?_
      refine br_getR (k := 8) rfl (hS.k (by decide)) flW_21_10 (by decide) rfl (hS.r rfl) ?_
      refine ar_aloadn (k := 9) rfl rfl ?_
      refine br_getIz (k := 10) (z := 3) rfl (hS.k (by decide)) flW_25_10 (by decide) rfl rfl ?_
      refine tw_top (WN.vc hN) ?_
      refine ar_iconst (k := 11) rfl ?_
      refine ar_isub (k := 12) rfl ?_
      refine br_aald17 (k := 13) rfl (hS.k (by decide)) (by omega) (by omega) (by decide) (show Q 3 (s 2 - 1) = some v by rw [← h6]; exact hQv) ?_
      refine ar_goto (k := 14) rfl ?_
      refine ar_aret (k := 16) rfl rfl rfl (Nat.le_refl _) ?_
      exact ⟨rfl, rfl⟩
theorem c_W_vNo27 (hS : tSt (K, I, Q, n)) (hN : WN 27 I s) (hR : RInv s) (h20 : s 2 = 0) : tw_F l G 1 0 0 mW_valleyOrNull [vr (some 27)] (K, I, Q, n) (some (vr none)) (K, I, Q, n) := by
  obtain ⟨h0, h1, h2, h3, h4, h5, h6, hp, hrw, ht, hr, hb, htp, hv⟩ := id hR
  refine tw_intro okW_valleyOrNull (Nat.le_of_ble_eq_true rfl) ?_
  refine ar_aloadn (k := 0) rfl rfl ?_
  refine br_getIz (k := 1) (z := 3) rfl (hS.k (by decide)) flW_25_10 (by decide) rfl rfl ?_
  refine tw_top (WN.vc hN) ?_
  refine ar_if_le (k := 2) rfl (by omega) (fun c2 => ?_) (fun c2 => ?_)
  · refine ar_null (k := 15) rfl ?_
    refine ar_aret (k := 16) rfl rfl rfl (Nat.le_refl _) ?_
    exact ⟨rfl, rfl⟩
  · exfalso; omega
theorem c_W_vYes27 {v : Nat} (hS : tSt (K, I, Q, n)) (hN : WN 27 I s) (hR : RInv s) (h20 : s 2 ≠ 0) (hQv : Q 29 (s 6) = some v) : tw_F l G 1 0 0 mW_valleyOrNull [vr (some 27)] (K, I, Q, n) (some (vr (some v))) (K, I, Q, n) := by
  obtain ⟨h0, h1, h2, h3, h4, h5, h6, hp, hrw, ht, hr, hb, htp, hv⟩ := id hR
  refine tw_intro okW_valleyOrNull (Nat.le_of_ble_eq_true rfl) ?_
  refine ar_aloadn (k := 0) rfl rfl ?_
  refine br_getIz (k := 1) (z := 3) rfl (hS.k (by decide)) flW_25_10 (by decide) rfl rfl ?_
  refine tw_top (WN.vc hN) ?_
  refine ar_if_le (k := 2) rfl (by omega) (fun c2 => ?_) (fun c2 => ?_)
  · exfalso; omega
  · refine ar_aloadn (k := 3) rfl rfl ?_
    refine br_getIz (k := 4) (z := 3) rfl (hS.k (by decide)) flW_25_10 (by decide) rfl rfl ?_
    refine tw_top (WN.vc hN) ?_
    refine ar_iconst (k := 5) rfl ?_
    refine ar_icmp_gt (k := 6) rfl (by omega) (by omega) (fun c6 => ?_) (fun c6 => ?_)
    · exfalso; omega
    · refine ar_aloadn (k := 7) rfl rfl ?_
      refine br_getR (k := 8) rfl (hS.k (by decide)) flW_21_10 (by decide) rfl (hS.r rfl) ?_
      refine ar_aloadn (k := 9) rfl rfl ?_
      refine br_getIz (k := 10) (z := 3) rfl (hS.k (by decide)) flW_25_10 (by decide) rfl rfl ?_
      refine tw_top (WN.vc hN) ?_
      refine ar_iconst (k := 11) rfl ?_
      refine ar_isub (k := 12) rfl ?_
      refine br_aald17 (k := 13) rfl (hS.k (by decide)) (by omega) (by omega) (by decide) (show Q 29 (s 2 - 1) = some v by rw [← h6]; exact hQv) ?_
      refine ar_goto (k := 14) rfl ?_
      refine ar_aret (k := 16) rfl rfl rfl (Nat.le_refl _) ?_
      exact ⟨rfl, rfl⟩
theorem l_P_look_1_n (hS : tSt (K, I, Q, n)) (hq : Q 40 1 = some 1) (hN : WN 1 I s) (hP : WP 1 K I Q n s) (hR : RInv s) (hV : RVal s) (hs6 : s 6 = -1) (h57 : I 57 0 = 0) : ∀ (k : Nat) (t : Nat) (J : Nat → Int → Int), t + k = (s 1).toNat → cq K I J → LB J s t t → tw_AW l G mP_look 5 0 0 n 0 ((fun r h' => r = none ∧ ∃ L, h' = (K, L, Q, n) ∧ cq K I L ∧ PB L s ∧ PT L s)) 60 [(3, vi (t : Int)), (0, vr (some 40)), (1, vr (some 1)), (2, vr (none))] [] (K, J, Q, n) := by
  obtain ⟨h0, h1, h2, h3, h4, h5, h6, hp, hrw, ht, hr, hb, htp, hv⟩ := id hR
  intro k
  induction k with
  | zero =>
    intro t J hj hk hL
    refine ar_iloadn (k := 33) rfl rfl ?_
    refine ar_aloadn (k := 34) rfl rfl ?_
    refine br_getIz (k := 35) (z := 12) rfl (hS.k (by decide)) flP_92_10 (by decide) rfl rfl ?_
    refine tw_top (WN.tc (WN.q1 hN hS hk)) ?_
    refine ar_icmp_ge (k := 36) rfl (by omega) (by omega) (fun c36 => ?_) (fun c36 => ?_)
    · refine ar_aloadn (k := 70) rfl rfl ?_
      refine ar_callV (k := 71) (as := []) rfl lvP_105 (hS.k (by decide)) rfl (c_P_reckonSets hS h1 ((hL.end hR (by omega)).2 (hk.2.1.trans h57))) rfl (by decide) (by decide) tw_m0 (Nat.le_of_ble_eq_true rfl) (fun r71 h71 p71 => ?_)
      obtain ⟨rfl, I71, rfl, hT71, ho71⟩ := p71
      refine ar_ret (k := 72) rfl rfl rfl (Nat.le_refl _) ?_
      have hB9 := (hL.end hR (by omega)).1
      refine ⟨rfl, I71, rfl, hk.trans ⟨fun b b1 _ _ => ho71 b (by omega) (by omega), ?_, by rw [ho71 59 (by decide) (by decide)], fun k _ => by rw [ho71 40 (by decide) (by decide)], ho71 60 (by decide) (by decide)⟩, ?_, hT71⟩
      · rw [hT71.2.2.1]; exact (hk.2.1.trans h57).symm
      · unfold PB at *
        rw [ho71 40 (by decide) (by decide), ho71 52 (by decide) (by decide), ho71 53 (by decide) (by decide)]
        exact ⟨hB9.1, hB9.2.1, hB9.2.2.1, hB9.2.2.2.1, hB9.2.2.2.2.1, fun x x1 x2 x3 u u1 u2 => by rw [ho71 _ (by omega) (by omega)]; exact hB9.2.2.2.2.2 x x1 x2 x3 u u1 u2⟩
    · exfalso; omega
  | succ k ih =>
    intro t J hj hk hL
    refine ar_iloadn (k := 33) rfl rfl ?_
    refine ar_aloadn (k := 34) rfl rfl ?_
    refine br_getIz (k := 35) (z := 12) rfl (hS.k (by decide)) flP_92_10 (by decide) rfl rfl ?_
    refine tw_top (WN.tc (WN.q1 hN hS hk)) ?_
    refine ar_icmp_ge (k := 36) rfl (by omega) (by omega) (fun c36 => ?_) (fun c36 => ?_)
    · exfalso; omega
    · have w1 := ht (t : Int) (by omega) (by omega)
      refine ar_aloadn (k := 37) rfl rfl ?_
      refine br_getR (k := 38) rfl (hS.k (by decide)) flP_32_6 (by decide) rfl (hS.r rfl) ?_
      refine ar_aloadn (k := 39) rfl rfl ?_
      refine br_getR (k := 40) rfl (hS.k (by decide)) flP_95_10 (by decide) rfl (hS.r rfl) ?_
      refine ar_iloadn (k := 41) rfl rfl ?_
      refine br_iald (k := 42) rfl (hS.k (by decide)) (by omega) (by omega) (by decide) ?_
      refine tw_top (WN.ho (WN.q1 hN hS hk) (by omega) (by omega)) ?_
      refine ar_dup2 (k := 43) rfl rfl rfl ?_
      refine br_iald (k := 44) rfl (hS.k (by decide)) (by omega) (by omega) (by decide) ?_
      refine ar_iconst (k := 45) rfl ?_
      refine ar_iloadn (k := 46) rfl rfl ?_
      refine ar_ishl (k := 47) rfl ?_
      refine ar_ior (k := 48) rfl ?_
      refine br_iastJ (k := 49) rfl (hS.k (by decide)) (by omega) (by omega) (by decide) (fun I49 e49 => ?_)
      have hk49 := cq.w hk (by omega) (by omega) e49
      have hL49 := hL.held hR (by omega) e49
      refine ar_aloadn (k := 50) rfl rfl ?_
      refine br_getR (k := 51) rfl (hS.k (by decide)) flP_98_10 (by decide) rfl (hS.r rfl) ?_
      refine ar_iloadn (k := 52) rfl rfl ?_
      refine br_iald (k := 53) rfl (hS.k (by decide)) (by omega) (by omega) (by decide) ?_
      refine tw_top (WN.tw (WN.q1 hN hS hk49) (by omega) (by omega)) ?_
      refine ar_iloadn (k := 54) rfl rfl ?_
      refine ar_icmp_le (k := 55) rfl (by omega) (by omega) (fun c55 => ?_) (fun c55 => ?_)
      · refine ar_iinc (k := 68) (l2 := [(3, _), (0, _), (1, _), (2, _)]) rfl (by decide) rfl rfl ?_
        refine ar_goto (k := 69) rfl ?_
        refine ar_sub (l2 := [(3, vi ((t + 1 : Nat) : Int)), (0, vr (some 40)), (1, vr (some 1)), (2, vr (none))]) (tw_s (tw_e 0 rfl (by omega)) (tw_s (tw_g 1 rfl) (tw_s (tw_g 2 rfl) (tw_s (tw_g 3 rfl) tw_s0)))) ?_
        have hL2 := hL49.skip hR (by omega) (by omega)
        exact ih (t + 1) I49 (by omega) hk49 hL2
      · have hlt9 := prsN_lt hR (t := t) (by omega) (by omega)
        refine ar_aloadn (k := 56) rfl rfl ?_
        refine br_getIz (k := 57) (z := 11) rfl (hS.k (by decide)) flP_54_6 (by decide) rfl rfl ?_
        refine tw_top hL49.2.2.2.2.2.2.1 ?_
        refine ar_iconst (k := 58) rfl ?_
        refine ar_icmp_ge (k := 59) rfl (by omega) (by omega) (fun c59 => ?_) (fun c59 => ?_)
        · refine ar_iinc (k := 68) (l2 := [(3, _), (0, _), (1, _), (2, _)]) rfl (by decide) rfl rfl ?_
          refine ar_goto (k := 69) rfl ?_
          refine ar_sub (l2 := [(3, vi ((t + 1 : Nat) : Int)), (0, vr (some 40)), (1, vr (some 1)), (2, vr (none))]) (tw_s (tw_e 0 rfl (by omega)) (tw_s (tw_g 1 rfl) (tw_s (tw_g 2 rfl) (tw_s (tw_g 3 rfl) tw_s0)))) ?_
          have hL2 := hL49.skip hR (by omega) (by omega)
          exact ih (t + 1) I49 (by omega) hk49 hL2
        · have w2 := ht (s (94 + (t : Int))) (by omega) (by omega)
          obtain ⟨a1, hQ1, hn1⟩ := hP (s (84 + (t : Int))) (by omega) (by omega)
          obtain ⟨a2, hQ2, hn2⟩ := hP (s (84 + s (94 + (t : Int)))) (by omega) (by omega)
          obtain ⟨m1, m2, m3, m4, m5, m6, m7⟩ := hn1.g hk49.g
          obtain ⟨o1, o2, o3, o4, o5, o6, o7⟩ := hn2.g hk49.g
          refine ar_aloadn (k := 60) rfl rfl ?_
          refine ar_iloadn (k := 61) rfl rfl ?_
          refine ar_aloadn (k := 62) rfl rfl ?_
          refine br_getR (k := 63) rfl (hS.k (by decide)) flP_98_10 (by decide) rfl (hS.r rfl) ?_
          refine ar_iloadn (k := 64) rfl rfl ?_
          refine br_iald (k := 65) rfl (hS.k (by decide)) (by omega) (by omega) (by decide) ?_
          refine tw_top (y := s (94 + (t : Int))) (by rw [show I49 9 (t : Int) = _ from WN.tw (WN.q1 hN hS hk49) (by omega) (by omega)]; rw [if_neg (by omega)]) ?_
          refine ar_aloadn (k := 66) rfl rfl ?_
          refine ar_callV (k := 67) (as := [_, _, _]) rfl lvP_101 (hS.k (by decide)) rfl (c_P_addPair_1_n (t := t) (c := (prsN s t 0).length) hS hq (WN.q1 hN hS hk49) hR hV (by omega) (by omega) (hL49.2.2.2.2.2.2.1) (prsN_lt hR (by omega) (by omega)) hQ1 hQ2 (hcl_k _) (hcl_k _) ⟨m3, m2⟩ ⟨o3, o2⟩ ⟨m1, o1⟩ ⟨fun q => by rw [m3] at q; have := congrArg Prod.fst q; have := kC_lt (s (10 + s (84 + (t : Int)))); simp only at *; omega, fun q => by rw [m3] at q; have := congrArg Prod.fst q; have := kC_lt (s (10 + s (84 + (t : Int)))); simp only at *; omega⟩ ⟨fun q => by rw [o3] at q; have := congrArg Prod.fst q; have := kC_lt (s (10 + s (84 + s (94 + (t : Int))))); simp only at *; omega, fun q => by rw [o3] at q; have := congrArg Prod.fst q; have := kC_lt (s (10 + s (84 + s (94 + (t : Int))))); simp only at *; omega⟩ ⟨m4, m5, m7⟩ ⟨o5, o7⟩ hs6) rfl (by decide) (by decide) tw_m0 (Nat.le_of_ble_eq_true rfl) (fun r67 h67 p67 => ?_)
          obtain ⟨rfl, I67, rfl, hc67, hA67⟩ := p67
          have hk67 := hk49.trans hc67
          refine ar_iinc (k := 68) (l2 := [(3, _), (0, _), (1, _), (2, _)]) rfl (by decide) rfl rfl ?_
          refine ar_goto (k := 69) rfl ?_
          refine ar_sub (l2 := [(3, vi ((t + 1 : Nat) : Int)), (0, vr (some 40)), (1, vr (some 1)), (2, vr (none))]) (tw_s (tw_e 0 rfl (by omega)) (tw_s (tw_g 1 rfl) (tw_s (tw_g 2 rfl) (tw_s (tw_g 3 rfl) tw_s0)))) ?_
          have hL2 := hL49.pair hR (WN.q1 hN hS hk49) (by omega) (by omega) hA67
          exact ih (t + 1) I67 (by omega) hk67 hL2
theorem sT_look_1_n (hS : tSt (K, I, Q, n)) (hq : Q 40 1 = some 1) (hN : WN 1 I s) (hP : WP 1 K I Q n s) (hR : RInv s) (hV : RVal s) (hs6 : s 6 = -1) (h57 : I 57 0 = 0) : tw_AW l G mP_look 5 0 0 n 0 (fun r h' => r = none ∧ ∃ L, h' = (K, L, Q, n) ∧ cq K I L ∧ PB L s ∧ PT L s) 5 [(0, vr (some 40)), (1, vr (some 1))] [] (K, I, Q, n) := by
  obtain ⟨h0, h1, h2, h3, h4, h5, h6, hp, hrw, ht, hr, hb, htp, hv⟩ := id hR
  have hk : cq K I I := cq.rf
  have hd0 : ∀ j : Nat, ¬ dn s 0 j := fun j q => by have w9 := ht (j : Int) (by omega) q.1; have q2 := q.2; omega
  refine ar_aloadn (k := 3) rfl rfl ?_
  refine ar_callV (k := 4) (as := []) rfl lvP_81 (hS.k (by decide)) rfl (c_W_vNo1 hS hN hR (by omega)) rfl (by decide) (by decide) tw_m0 (Nat.le_of_ble_eq_true rfl) (fun r4 h4 p4 => ?_)
  obtain ⟨rfl, rfl⟩ := p4
  refine ar_astoren (k := 5) (l2 := [(2, _), (0, _), (1, _)]) rfl (by decide) rfl ?_
  refine ar_aloadn (k := 6) rfl rfl ?_
  refine ar_aloadn (k := 7) rfl rfl ?_
  refine ar_ifnonnull (k := 8) rfl (fun a8 c8 => ?_) (fun c8 => ?_)
  · cases c8
  · refine ar_bipush (k := 9) rfl (by decide) ?_
    refine ar_goto (k := 10) rfl ?_
    refine br_putIJ (k := 13) rfl (hS.k (by decide)) flP_23_6 (by decide) rfl (fun _ _ _ q => by cases q; exact ⟨rfl, rfl⟩) (fun I13 e13 => ?_)
    change _ = uI _ 40 2 _ at e13
    have hk13 := cq.w hk (by omega) (by omega) e13
    refine ar_aloadn (k := 14) rfl rfl ?_
    refine br_getR (k := 15) rfl (hS.k (by decide)) flP_32_6 (by decide) rfl (hS.r rfl) ?_
    refine ar_iconst (k := 16) rfl ?_
    refine ar_callS (k := 17) (as := [_, _]) rfl lsP_86 (c_fillJ (by decide) (hS.k (a := 52) (by decide))) rfl (by decide) (by decide) tw_m0 (Nat.le_of_ble_eq_true rfl) (fun r17 h17 p17 => ?_)
    obtain ⟨rfl, I17, rfl, fo17, fa17⟩ := p17
    have hk17 := cq.f hk13 (by omega) (by omega) fo17
    refine ar_aloadn (k := 18) rfl rfl ?_
    refine br_getR (k := 19) rfl (hS.k (by decide)) flP_36_6 (by decide) rfl (hS.r rfl) ?_
    refine ar_iconst (k := 20) rfl ?_
    refine ar_callS (k := 21) (as := [_, _]) rfl lsP_86 (c_fillJ (by decide) (hS.k (a := 53) (by decide))) rfl (by decide) (by decide) tw_m0 (Nat.le_of_ble_eq_true rfl) (fun r21 h21 p21 => ?_)
    obtain ⟨rfl, I21, rfl, fo21, fa21⟩ := p21
    have hk21 := cq.f hk17 (by omega) (by omega) fo21
    refine ar_aloadn (k := 22) rfl rfl ?_
    refine ar_iconst (k := 23) rfl ?_
    refine br_putIJ (k := 24) rfl (hS.k (by decide)) flP_39_6 (by decide) rfl (fun _ _ _ q => by cases q; exact ⟨rfl, rfl⟩) (fun I24 e24 => ?_)
    change _ = uI _ 40 6 _ at e24
    have hk24 := cq.w hk21 (by omega) (by omega) e24
    refine ar_aloadn (k := 25) rfl rfl ?_
    refine ar_iconst (k := 26) rfl ?_
    refine br_putIJ (k := 27) rfl (hS.k (by decide)) flP_42_6 (by decide) rfl (fun _ _ _ q => by cases q; exact ⟨rfl, rfl⟩) (fun I27 e27 => ?_)
    change _ = uI _ 40 7 _ at e27
    have hk27 := cq.w hk24 (by omega) (by omega) e27
    refine ar_aloadn (k := 28) rfl rfl ?_
    refine ar_iconst (k := 29) rfl ?_
    refine br_putIJ (k := 30) rfl (hS.k (by decide)) flP_54_6 (by decide) rfl (fun _ _ _ q => by cases q; exact ⟨rfl, rfl⟩) (fun I30 e30 => ?_)
    change _ = uI _ 40 11 _ at e30
    have hk30 := cq.w hk27 (by omega) (by omega) e30
    refine ar_iconst (k := 31) rfl ?_
    refine ar_istoren (k := 32) (l2 := [(3, _), (2, _), (0, _), (1, _)]) rfl (by decide) rfl ?_
    refine ar_sub (l2 := [(3, vi ((0 : Nat) : Int)), (0, vr (some 40)), (1, vr (some 1)), (2, vr (none))]) (tw_s (tw_e 0 rfl (by rfl)) (tw_s (tw_g 2 rfl) (tw_s (tw_g 3 rfl) (tw_s (tw_g 1 rfl) tw_s0)))) ?_
    refine l_P_look_1_n hS hq hN hP hR hV hs6 h57 (s 1).toNat 0 I30 (by omega) hk30 ⟨?_, fun p p1 j j1 => ?_, fun p p1 j j1 => ?_, fun j j1 => ?_, fun j j1 => ?_, fun j j1 => absurd j1 (hd0 j), ?_, fun i hi => absurd hi (Nat.not_lt_zero _)⟩
    · rw [e30, uI_at, if_neg (by decide), e27, uI_at, if_neg (by decide), e24, uI_at, if_neg (by decide), fo21 40 (by decide), fo17 40 (by decide), e13, uI_at, if_pos rfl]
      unfold rBell
      rw [if_pos hs6, if_neg (by decide)]
    · rw [e30, uI_off _ _ _ (by decide), e27, uI_off _ _ _ (by decide), e24, uI_off _ _ _ (by decide), fo21 52 (by decide), fa17 _ (by omega) (by omega), ib_0, decide_eq_false (by omega)]
    · rw [e30, uI_off _ _ _ (by decide), e27, uI_off _ _ _ (by decide), e24, uI_off _ _ _ (by decide), fa21 _ (by omega) (by omega), ib_0]
      exact ⟨fun q => (by cases q), fun q => absurd q.1 (hd0 j)⟩
    · rw [e30, uI_at, if_neg (by decide), e27, uI_at, if_neg (by decide), e24, uI_at, if_pos rfl, ib_0]
      exact ⟨fun q => (by cases q), fun q => absurd q.1 (hd0 j)⟩
    · rw [e30, uI_at, if_neg (by decide), e27, uI_at, if_pos rfl, ib_0]
      exact ⟨fun q => (by cases q), fun q => absurd q.1 (hd0 j)⟩
    · rw [e30, uI_at, if_pos rfl]; rfl
theorem l_P_look_1_v {v : Nat} {C : tCL} (hS : tSt (K, I, Q, n)) (hq : Q 40 1 = some 1) (hN : WN 1 I s) (hP : WP 1 K I Q n s) (hR : RInv s) (hV : RVal s) (hvs : VS K Q n v) (hD : VD I v C) (hs6 : s 6 ≠ -1) (ho : rOut s (s 6) = cFl C) (h57 : I 57 0 = 0) (hQv : Q 3 (s 6) = some v) (hbl : I v 0 = if s (274 + s 6) < 1 then 1 else s (274 + s 6)) : ∀ (k : Nat) (t : Nat) (J : Nat → Int → Int), t + k = (s 1).toNat → cq K I J → LB J s t t → tw_AW l G mP_look 5 0 0 n 0 ((fun r h' => r = none ∧ ∃ L, h' = (K, L, Q, n) ∧ cq K I L ∧ PB L s ∧ PT L s)) 60 [(3, vi (t : Int)), (0, vr (some 40)), (1, vr (some 1)), (2, vr (some v))] [] (K, J, Q, n) := by
  obtain ⟨h0, h1, h2, h3, h4, h5, h6, hp, hrw, ht, hr, hb, htp, hv⟩ := id hR
  intro k
  induction k with
  | zero =>
    intro t J hj hk hL
    refine ar_iloadn (k := 33) rfl rfl ?_
    refine ar_aloadn (k := 34) rfl rfl ?_
    refine br_getIz (k := 35) (z := 12) rfl (hS.k (by decide)) flP_92_10 (by decide) rfl rfl ?_
    refine tw_top (WN.tc (WN.q1 hN hS hk)) ?_
    refine ar_icmp_ge (k := 36) rfl (by omega) (by omega) (fun c36 => ?_) (fun c36 => ?_)
    · refine ar_aloadn (k := 70) rfl rfl ?_
      refine ar_callV (k := 71) (as := []) rfl lvP_105 (hS.k (by decide)) rfl (c_P_reckonSets hS h1 ((hL.end hR (by omega)).2 (hk.2.1.trans h57))) rfl (by decide) (by decide) tw_m0 (Nat.le_of_ble_eq_true rfl) (fun r71 h71 p71 => ?_)
      obtain ⟨rfl, I71, rfl, hT71, ho71⟩ := p71
      refine ar_ret (k := 72) rfl rfl rfl (Nat.le_refl _) ?_
      have hB9 := (hL.end hR (by omega)).1
      refine ⟨rfl, I71, rfl, hk.trans ⟨fun b b1 _ _ => ho71 b (by omega) (by omega), ?_, by rw [ho71 59 (by decide) (by decide)], fun k _ => by rw [ho71 40 (by decide) (by decide)], ho71 60 (by decide) (by decide)⟩, ?_, hT71⟩
      · rw [hT71.2.2.1]; exact (hk.2.1.trans h57).symm
      · unfold PB at *
        rw [ho71 40 (by decide) (by decide), ho71 52 (by decide) (by decide), ho71 53 (by decide) (by decide)]
        exact ⟨hB9.1, hB9.2.1, hB9.2.2.1, hB9.2.2.2.1, hB9.2.2.2.2.1, fun x x1 x2 x3 u u1 u2 => by rw [ho71 _ (by omega) (by omega)]; exact hB9.2.2.2.2.2 x x1 x2 x3 u u1 u2⟩
    · exfalso; omega
  | succ k ih =>
    intro t J hj hk hL
    refine ar_iloadn (k := 33) rfl rfl ?_
    refine ar_aloadn (k := 34) rfl rfl ?_
    refine br_getIz (k := 35) (z := 12) rfl (hS.k (by decide)) flP_92_10 (by decide) rfl rfl ?_
    refine tw_top (WN.tc (WN.q1 hN hS hk)) ?_
    refine ar_icmp_ge (k := 36) rfl (by omega) (by omega) (fun c36 => ?_) (fun c36 => ?_)
    · exfalso; omega
    · have w1 := ht (t : Int) (by omega) (by omega)
      refine ar_aloadn (k := 37) rfl rfl ?_
      refine br_getR (k := 38) rfl (hS.k (by decide)) flP_32_6 (by decide) rfl (hS.r rfl) ?_
      refine ar_aloadn (k := 39) rfl rfl ?_
      refine br_getR (k := 40) rfl (hS.k (by decide)) flP_95_10 (by decide) rfl (hS.r rfl) ?_
      refine ar_iloadn (k := 41) rfl rfl ?_
      refine br_iald (k := 42) rfl (hS.k (by decide)) (by omega) (by omega) (by decide) ?_
      refine tw_top (WN.ho (WN.q1 hN hS hk) (by omega) (by omega)) ?_
      refine ar_dup2 (k := 43) rfl rfl rfl ?_
      refine br_iald (k := 44) rfl (hS.k (by decide)) (by omega) (by omega) (by decide) ?_
      refine ar_iconst (k := 45) rfl ?_
      refine ar_iloadn (k := 46) rfl rfl ?_
      refine ar_ishl (k := 47) rfl ?_
      refine ar_ior (k := 48) rfl ?_
      refine br_iastJ (k := 49) rfl (hS.k (by decide)) (by omega) (by omega) (by decide) (fun I49 e49 => ?_)
      have hk49 := cq.w hk (by omega) (by omega) e49
      have hL49 := hL.held hR (by omega) e49
      refine ar_aloadn (k := 50) rfl rfl ?_
      refine br_getR (k := 51) rfl (hS.k (by decide)) flP_98_10 (by decide) rfl (hS.r rfl) ?_
      refine ar_iloadn (k := 52) rfl rfl ?_
      refine br_iald (k := 53) rfl (hS.k (by decide)) (by omega) (by omega) (by decide) ?_
      refine tw_top (WN.tw (WN.q1 hN hS hk49) (by omega) (by omega)) ?_
      refine ar_iloadn (k := 54) rfl rfl ?_
      refine ar_icmp_le (k := 55) rfl (by omega) (by omega) (fun c55 => ?_) (fun c55 => ?_)
      · refine ar_iinc (k := 68) (l2 := [(3, _), (0, _), (1, _), (2, _)]) rfl (by decide) rfl rfl ?_
        refine ar_goto (k := 69) rfl ?_
        refine ar_sub (l2 := [(3, vi ((t + 1 : Nat) : Int)), (0, vr (some 40)), (1, vr (some 1)), (2, vr (some v))]) (tw_s (tw_e 0 rfl (by omega)) (tw_s (tw_g 1 rfl) (tw_s (tw_g 2 rfl) (tw_s (tw_g 3 rfl) tw_s0)))) ?_
        have hL2 := hL49.skip hR (by omega) (by omega)
        exact ih (t + 1) I49 (by omega) hk49 hL2
      · have hlt9 := prsN_lt hR (t := t) (by omega) (by omega)
        refine ar_aloadn (k := 56) rfl rfl ?_
        refine br_getIz (k := 57) (z := 11) rfl (hS.k (by decide)) flP_54_6 (by decide) rfl rfl ?_
        refine tw_top hL49.2.2.2.2.2.2.1 ?_
        refine ar_iconst (k := 58) rfl ?_
        refine ar_icmp_ge (k := 59) rfl (by omega) (by omega) (fun c59 => ?_) (fun c59 => ?_)
        · refine ar_iinc (k := 68) (l2 := [(3, _), (0, _), (1, _), (2, _)]) rfl (by decide) rfl rfl ?_
          refine ar_goto (k := 69) rfl ?_
          refine ar_sub (l2 := [(3, vi ((t + 1 : Nat) : Int)), (0, vr (some 40)), (1, vr (some 1)), (2, vr (some v))]) (tw_s (tw_e 0 rfl (by omega)) (tw_s (tw_g 1 rfl) (tw_s (tw_g 2 rfl) (tw_s (tw_g 3 rfl) tw_s0)))) ?_
          have hL2 := hL49.skip hR (by omega) (by omega)
          exact ih (t + 1) I49 (by omega) hk49 hL2
        · have w2 := ht (s (94 + (t : Int))) (by omega) (by omega)
          obtain ⟨a1, hQ1, hn1⟩ := hP (s (84 + (t : Int))) (by omega) (by omega)
          obtain ⟨a2, hQ2, hn2⟩ := hP (s (84 + s (94 + (t : Int)))) (by omega) (by omega)
          obtain ⟨m1, m2, m3, m4, m5, m6, m7⟩ := hn1.g hk49.g
          obtain ⟨o1, o2, o3, o4, o5, o6, o7⟩ := hn2.g hk49.g
          refine ar_aloadn (k := 60) rfl rfl ?_
          refine ar_iloadn (k := 61) rfl rfl ?_
          refine ar_aloadn (k := 62) rfl rfl ?_
          refine br_getR (k := 63) rfl (hS.k (by decide)) flP_98_10 (by decide) rfl (hS.r rfl) ?_
          refine ar_iloadn (k := 64) rfl rfl ?_
          refine br_iald (k := 65) rfl (hS.k (by decide)) (by omega) (by omega) (by decide) ?_
          refine tw_top (y := s (94 + (t : Int))) (by rw [show I49 9 (t : Int) = _ from WN.tw (WN.q1 hN hS hk49) (by omega) (by omega)]; rw [if_neg (by omega)]) ?_
          refine ar_aloadn (k := 66) rfl rfl ?_
          refine ar_callV (k := 67) (as := [_, _, _]) rfl lvP_101 (hS.k (by decide)) rfl (c_P_addPair_1_v (t := t) (c := (prsN s t 0).length) hS hq (WN.q1 hN hS hk49) hR hV (by omega) (by omega) (hL49.2.2.2.2.2.2.1) (prsN_lt hR (by omega) (by omega)) hQ1 hQ2 (hcl_k _) (hcl_k _) ⟨m3, m2⟩ ⟨o3, o2⟩ ⟨m1, o1⟩ ⟨fun q => by rw [m3] at q; have := congrArg Prod.fst q; have := kC_lt (s (10 + s (84 + (t : Int)))); simp only at *; omega, fun q => by rw [m3] at q; have := congrArg Prod.fst q; have := kC_lt (s (10 + s (84 + (t : Int)))); simp only at *; omega⟩ ⟨fun q => by rw [o3] at q; have := congrArg Prod.fst q; have := kC_lt (s (10 + s (84 + s (94 + (t : Int))))); simp only at *; omega, fun q => by rw [o3] at q; have := congrArg Prod.fst q; have := kC_lt (s (10 + s (84 + s (94 + (t : Int))))); simp only at *; omega⟩ ⟨m4, m5, m7⟩ ⟨o5, o7⟩ hvs (hD.g (hvs.g hk49.g)) hs6 ho) rfl (by decide) (by decide) tw_m0 (Nat.le_of_ble_eq_true rfl) (fun r67 h67 p67 => ?_)
          obtain ⟨rfl, I67, rfl, hc67, hA67⟩ := p67
          have hk67 := hk49.trans hc67
          refine ar_iinc (k := 68) (l2 := [(3, _), (0, _), (1, _), (2, _)]) rfl (by decide) rfl rfl ?_
          refine ar_goto (k := 69) rfl ?_
          refine ar_sub (l2 := [(3, vi ((t + 1 : Nat) : Int)), (0, vr (some 40)), (1, vr (some 1)), (2, vr (some v))]) (tw_s (tw_e 0 rfl (by omega)) (tw_s (tw_g 1 rfl) (tw_s (tw_g 2 rfl) (tw_s (tw_g 3 rfl) tw_s0)))) ?_
          have hL2 := hL49.pair hR (WN.q1 hN hS hk49) (by omega) (by omega) hA67
          exact ih (t + 1) I67 (by omega) hk67 hL2
theorem sT_look_1_v {v : Nat} {C : tCL} (hS : tSt (K, I, Q, n)) (hq : Q 40 1 = some 1) (hN : WN 1 I s) (hP : WP 1 K I Q n s) (hR : RInv s) (hV : RVal s) (hvs : VS K Q n v) (hD : VD I v C) (hs6 : s 6 ≠ -1) (ho : rOut s (s 6) = cFl C) (h57 : I 57 0 = 0) (hQv : Q 3 (s 6) = some v) (hbl : I v 0 = if s (274 + s 6) < 1 then 1 else s (274 + s 6)) : tw_AW l G mP_look 5 0 0 n 0 (fun r h' => r = none ∧ ∃ L, h' = (K, L, Q, n) ∧ cq K I L ∧ PB L s ∧ PT L s) 5 [(0, vr (some 40)), (1, vr (some 1))] [] (K, I, Q, n) := by
  obtain ⟨h0, h1, h2, h3, h4, h5, h6, hp, hrw, ht, hr, hb, htp, hv⟩ := id hR
  have hk : cq K I I := cq.rf
  have hd0 : ∀ j : Nat, ¬ dn s 0 j := fun j q => by have w9 := ht (j : Int) (by omega) q.1; have q2 := q.2; omega
  refine ar_aloadn (k := 3) rfl rfl ?_
  refine ar_callV (k := 4) (as := []) rfl lvP_81 (hS.k (by decide)) rfl (c_W_vYes1 hS hN hR (by omega) hQv) rfl (by decide) (by decide) tw_m0 (Nat.le_of_ble_eq_true rfl) (fun r4 h4 p4 => ?_)
  obtain ⟨rfl, rfl⟩ := p4
  refine ar_astoren (k := 5) (l2 := [(2, _), (0, _), (1, _)]) rfl (by decide) rfl ?_
  refine ar_aloadn (k := 6) rfl rfl ?_
  refine ar_aloadn (k := 7) rfl rfl ?_
  refine ar_ifnonnull (k := 8) rfl (fun a8 c8 => ?_) (fun c8 => ?_)
  · refine ar_aloadn (k := 11) rfl rfl ?_
    refine br_getIz (k := 12) (z := 0) rfl hvs.k0 flP_85_9 (by decide) rfl rfl ?_
    refine tw_top hbl ?_
    refine br_putIJ (k := 13) rfl (hS.k (by decide)) flP_23_6 (by decide) rfl (fun _ _ _ q => by cases q; exact ⟨rfl, rfl⟩) (fun I13 e13 => ?_)
    change _ = uI _ 40 2 _ at e13
    have hk13 := cq.w hk (by omega) (by omega) e13
    refine ar_aloadn (k := 14) rfl rfl ?_
    refine br_getR (k := 15) rfl (hS.k (by decide)) flP_32_6 (by decide) rfl (hS.r rfl) ?_
    refine ar_iconst (k := 16) rfl ?_
    refine ar_callS (k := 17) (as := [_, _]) rfl lsP_86 (c_fillJ (by decide) (hS.k (a := 52) (by decide))) rfl (by decide) (by decide) tw_m0 (Nat.le_of_ble_eq_true rfl) (fun r17 h17 p17 => ?_)
    obtain ⟨rfl, I17, rfl, fo17, fa17⟩ := p17
    have hk17 := cq.f hk13 (by omega) (by omega) fo17
    refine ar_aloadn (k := 18) rfl rfl ?_
    refine br_getR (k := 19) rfl (hS.k (by decide)) flP_36_6 (by decide) rfl (hS.r rfl) ?_
    refine ar_iconst (k := 20) rfl ?_
    refine ar_callS (k := 21) (as := [_, _]) rfl lsP_86 (c_fillJ (by decide) (hS.k (a := 53) (by decide))) rfl (by decide) (by decide) tw_m0 (Nat.le_of_ble_eq_true rfl) (fun r21 h21 p21 => ?_)
    obtain ⟨rfl, I21, rfl, fo21, fa21⟩ := p21
    have hk21 := cq.f hk17 (by omega) (by omega) fo21
    refine ar_aloadn (k := 22) rfl rfl ?_
    refine ar_iconst (k := 23) rfl ?_
    refine br_putIJ (k := 24) rfl (hS.k (by decide)) flP_39_6 (by decide) rfl (fun _ _ _ q => by cases q; exact ⟨rfl, rfl⟩) (fun I24 e24 => ?_)
    change _ = uI _ 40 6 _ at e24
    have hk24 := cq.w hk21 (by omega) (by omega) e24
    refine ar_aloadn (k := 25) rfl rfl ?_
    refine ar_iconst (k := 26) rfl ?_
    refine br_putIJ (k := 27) rfl (hS.k (by decide)) flP_42_6 (by decide) rfl (fun _ _ _ q => by cases q; exact ⟨rfl, rfl⟩) (fun I27 e27 => ?_)
    change _ = uI _ 40 7 _ at e27
    have hk27 := cq.w hk24 (by omega) (by omega) e27
    refine ar_aloadn (k := 28) rfl rfl ?_
    refine ar_iconst (k := 29) rfl ?_
    refine br_putIJ (k := 30) rfl (hS.k (by decide)) flP_54_6 (by decide) rfl (fun _ _ _ q => by cases q; exact ⟨rfl, rfl⟩) (fun I30 e30 => ?_)
    change _ = uI _ 40 11 _ at e30
    have hk30 := cq.w hk27 (by omega) (by omega) e30
    refine ar_iconst (k := 31) rfl ?_
    refine ar_istoren (k := 32) (l2 := [(3, _), (2, _), (0, _), (1, _)]) rfl (by decide) rfl ?_
    refine ar_sub (l2 := [(3, vi ((0 : Nat) : Int)), (0, vr (some 40)), (1, vr (some 1)), (2, vr (some v))]) (tw_s (tw_e 0 rfl (by rfl)) (tw_s (tw_g 2 rfl) (tw_s (tw_g 3 rfl) (tw_s (tw_g 1 rfl) tw_s0)))) ?_
    refine l_P_look_1_v hS hq hN hP hR hV hvs hD hs6 ho h57 hQv hbl (s 1).toNat 0 I30 (by omega) hk30 ⟨?_, fun p p1 j j1 => ?_, fun p p1 j j1 => ?_, fun j j1 => ?_, fun j j1 => ?_, fun j j1 => absurd j1 (hd0 j), ?_, fun i hi => absurd hi (Nat.not_lt_zero _)⟩
    · rw [e30, uI_at, if_neg (by decide), e27, uI_at, if_neg (by decide), e24, uI_at, if_neg (by decide), fo21 40 (by decide), fo17 40 (by decide), e13, uI_at, if_pos rfl]
      unfold rBell
      rw [if_neg hs6]
    · rw [e30, uI_off _ _ _ (by decide), e27, uI_off _ _ _ (by decide), e24, uI_off _ _ _ (by decide), fo21 52 (by decide), fa17 _ (by omega) (by omega), ib_0, decide_eq_false (by omega)]
    · rw [e30, uI_off _ _ _ (by decide), e27, uI_off _ _ _ (by decide), e24, uI_off _ _ _ (by decide), fa21 _ (by omega) (by omega), ib_0]
      exact ⟨fun q => (by cases q), fun q => absurd q.1 (hd0 j)⟩
    · rw [e30, uI_at, if_neg (by decide), e27, uI_at, if_neg (by decide), e24, uI_at, if_pos rfl, ib_0]
      exact ⟨fun q => (by cases q), fun q => absurd q.1 (hd0 j)⟩
    · rw [e30, uI_at, if_neg (by decide), e27, uI_at, if_pos rfl, ib_0]
      exact ⟨fun q => (by cases q), fun q => absurd q.1 (hd0 j)⟩
    · rw [e30, uI_at, if_pos rfl]; rfl
  · cases c8
theorem c_P_look1 (hS : tSt (K, I, Q, n)) (hN : WN 1 I s) (hP : WP 1 K I Q n s) (hW : WV 1 K I Q n s) (hR : RInv s) (hV : RVal s) (h57 : I 57 0 = 0) : tw_M l G 5 0 0 mP_look [vr (some 40), vr (some 1)] (K, I, Q, n) (fun r h' => r = none ∧ ∃ L, h' = (K, L, uQ Q 40 1 (some 1), n) ∧ cq K I L ∧ PB L s ∧ PT L s) := by
  obtain ⟨h0, h1, h2, h3, h4, h5, h6, hp, hrw, ht, hr, hb, htp, hv⟩ := id hR
  refine tw_intro okP_look (Nat.le_of_ble_eq_true rfl) ?_
  refine ar_aloadn (k := 0) rfl rfl ?_
  refine ar_aloadn (k := 1) rfl rfl ?_
  refine br_putR (k := 2) rfl (hS.k (by decide)) flP_18_6 (by decide) rfl (fun _ _ _ q => by cases q; exact ⟨rfl, _, rfl, rfl⟩) ?_
  have hS2 := hS.q40 (some 1)
  have hP2 : WP 1 K I (uQ Q 40 1 (some 1)) n s := fun p p1 p2 => by obtain ⟨a, b1, b2⟩ := hP p p1 p2; exact ⟨a, by rw [q40_ne _ (by decide)]; exact b1, b2⟩
  by_cases g : s 6 = -1
  · exact sT_look_1_n hS2 (q40_at _) hN hP2 hR hV g h57
  · obtain ⟨v, C, hQv, hvs, hbl, hD, ho⟩ := hW (s 6) (by omega) (by omega)
    exact sT_look_1_v hS2 (q40_at _) hN hP2 hR hV (hvs.qg (qg.q40 _)) hD g ho h57 (by rw [q40_ne _ (by decide)]; exact hQv) hbl
theorem l_P_look_27_n (hS : tSt (K, I, Q, n)) (hq : Q 40 1 = some 27) (hN : WN 27 I s) (hP : WP 27 K I Q n s) (hR : RInv s) (hV : RVal s) (hs6 : s 6 = -1) (h57 : I 57 0 = 0) : ∀ (k : Nat) (t : Nat) (J : Nat → Int → Int), t + k = (s 1).toNat → cq K I J → LB J s t t → tw_AW l G mP_look 5 0 0 n 0 ((fun r h' => r = none ∧ ∃ L, h' = (K, L, Q, n) ∧ cq K I L ∧ PB L s ∧ PT L s)) 60 [(3, vi (t : Int)), (0, vr (some 40)), (1, vr (some 27)), (2, vr (none))] [] (K, J, Q, n) := by
  obtain ⟨h0, h1, h2, h3, h4, h5, h6, hp, hrw, ht, hr, hb, htp, hv⟩ := id hR
  intro k
  induction k with
  | zero =>
    intro t J hj hk hL
    refine ar_iloadn (k := 33) rfl rfl ?_
    refine ar_aloadn (k := 34) rfl rfl ?_
    refine br_getIz (k := 35) (z := 12) rfl (hS.k (by decide)) flP_92_10 (by decide) rfl rfl ?_
    refine tw_top (WN.tc (WN.q27 hN hS hk)) ?_
    refine ar_icmp_ge (k := 36) rfl (by omega) (by omega) (fun c36 => ?_) (fun c36 => ?_)
    · refine ar_aloadn (k := 70) rfl rfl ?_
      refine ar_callV (k := 71) (as := []) rfl lvP_105 (hS.k (by decide)) rfl (c_P_reckonSets hS h1 ((hL.end hR (by omega)).2 (hk.2.1.trans h57))) rfl (by decide) (by decide) tw_m0 (Nat.le_of_ble_eq_true rfl) (fun r71 h71 p71 => ?_)
      obtain ⟨rfl, I71, rfl, hT71, ho71⟩ := p71
      refine ar_ret (k := 72) rfl rfl rfl (Nat.le_refl _) ?_
      have hB9 := (hL.end hR (by omega)).1
      refine ⟨rfl, I71, rfl, hk.trans ⟨fun b b1 _ _ => ho71 b (by omega) (by omega), ?_, by rw [ho71 59 (by decide) (by decide)], fun k _ => by rw [ho71 40 (by decide) (by decide)], ho71 60 (by decide) (by decide)⟩, ?_, hT71⟩
      · rw [hT71.2.2.1]; exact (hk.2.1.trans h57).symm
      · unfold PB at *
        rw [ho71 40 (by decide) (by decide), ho71 52 (by decide) (by decide), ho71 53 (by decide) (by decide)]
        exact ⟨hB9.1, hB9.2.1, hB9.2.2.1, hB9.2.2.2.1, hB9.2.2.2.2.1, fun x x1 x2 x3 u u1 u2 => by rw [ho71 _ (by omega) (by omega)]; exact hB9.2.2.2.2.2 x x1 x2 x3 u u1 u2⟩
    · exfalso; omega
  | succ k ih =>
    intro t J hj hk hL
    refine ar_iloadn (k := 33) rfl rfl ?_
    refine ar_aloadn (k := 34) rfl rfl ?_
    refine br_getIz (k := 35) (z := 12) rfl (hS.k (by decide)) flP_92_10 (by decide) rfl rfl ?_
    refine tw_top (WN.tc (WN.q27 hN hS hk)) ?_
    refine ar_icmp_ge (k := 36) rfl (by omega) (by omega) (fun c36 => ?_) (fun c36 => ?_)
    · exfalso; omega
    · have w1 := ht (t : Int) (by omega) (by omega)
      refine ar_aloadn (k := 37) rfl rfl ?_
      refine br_getR (k := 38) rfl (hS.k (by decide)) flP_32_6 (by decide) rfl (hS.r rfl) ?_
      refine ar_aloadn (k := 39) rfl rfl ?_
      refine br_getR (k := 40) rfl (hS.k (by decide)) flP_95_10 (by decide) rfl (hS.r rfl) ?_
      refine ar_iloadn (k := 41) rfl rfl ?_
      refine br_iald (k := 42) rfl (hS.k (by decide)) (by omega) (by omega) (by decide) ?_
      refine tw_top (WN.ho (WN.q27 hN hS hk) (by omega) (by omega)) ?_
      refine ar_dup2 (k := 43) rfl rfl rfl ?_
      refine br_iald (k := 44) rfl (hS.k (by decide)) (by omega) (by omega) (by decide) ?_
      refine ar_iconst (k := 45) rfl ?_
      refine ar_iloadn (k := 46) rfl rfl ?_
      refine ar_ishl (k := 47) rfl ?_
      refine ar_ior (k := 48) rfl ?_
      refine br_iastJ (k := 49) rfl (hS.k (by decide)) (by omega) (by omega) (by decide) (fun I49 e49 => ?_)
      have hk49 := cq.w hk (by omega) (by omega) e49
      have hL49 := hL.held hR (by omega) e49
      refine ar_aloadn (k := 50) rfl rfl ?_
      refine br_getR (k := 51) rfl (hS.k (by decide)) flP_98_10 (by decide) rfl (hS.r rfl) ?_
      refine ar_iloadn (k := 52) rfl rfl ?_
      refine br_iald (k := 53) rfl (hS.k (by decide)) (by omega) (by omega) (by decide) ?_
      refine tw_top (WN.tw (WN.q27 hN hS hk49) (by omega) (by omega)) ?_
      refine ar_iloadn (k := 54) rfl rfl ?_
      refine ar_icmp_le (k := 55) rfl (by omega) (by omega) (fun c55 => ?_) (fun c55 => ?_)
      · refine ar_iinc (k := 68) (l2 := [(3, _), (0, _), (1, _), (2, _)]) rfl (by decide) rfl rfl ?_
        refine ar_goto (k := 69) rfl ?_
        refine ar_sub (l2 := [(3, vi ((t + 1 : Nat) : Int)), (0, vr (some 40)), (1, vr (some 27)), (2, vr (none))]) (tw_s (tw_e 0 rfl (by omega)) (tw_s (tw_g 1 rfl) (tw_s (tw_g 2 rfl) (tw_s (tw_g 3 rfl) tw_s0)))) ?_
        have hL2 := hL49.skip hR (by omega) (by omega)
        exact ih (t + 1) I49 (by omega) hk49 hL2
      · have hlt9 := prsN_lt hR (t := t) (by omega) (by omega)
        refine ar_aloadn (k := 56) rfl rfl ?_
        refine br_getIz (k := 57) (z := 11) rfl (hS.k (by decide)) flP_54_6 (by decide) rfl rfl ?_
        refine tw_top hL49.2.2.2.2.2.2.1 ?_
        refine ar_iconst (k := 58) rfl ?_
        refine ar_icmp_ge (k := 59) rfl (by omega) (by omega) (fun c59 => ?_) (fun c59 => ?_)
        · refine ar_iinc (k := 68) (l2 := [(3, _), (0, _), (1, _), (2, _)]) rfl (by decide) rfl rfl ?_
          refine ar_goto (k := 69) rfl ?_
          refine ar_sub (l2 := [(3, vi ((t + 1 : Nat) : Int)), (0, vr (some 40)), (1, vr (some 27)), (2, vr (none))]) (tw_s (tw_e 0 rfl (by omega)) (tw_s (tw_g 1 rfl) (tw_s (tw_g 2 rfl) (tw_s (tw_g 3 rfl) tw_s0)))) ?_
          have hL2 := hL49.skip hR (by omega) (by omega)
          exact ih (t + 1) I49 (by omega) hk49 hL2
        · have w2 := ht (s (94 + (t : Int))) (by omega) (by omega)
          obtain ⟨a1, hQ1, hn1⟩ := hP (s (84 + (t : Int))) (by omega) (by omega)
          obtain ⟨a2, hQ2, hn2⟩ := hP (s (84 + s (94 + (t : Int)))) (by omega) (by omega)
          obtain ⟨m1, m2, m3, m4, m5, m6, m7⟩ := hn1.g hk49.g
          obtain ⟨o1, o2, o3, o4, o5, o6, o7⟩ := hn2.g hk49.g
          refine ar_aloadn (k := 60) rfl rfl ?_
          refine ar_iloadn (k := 61) rfl rfl ?_
          refine ar_aloadn (k := 62) rfl rfl ?_
          refine br_getR (k := 63) rfl (hS.k (by decide)) flP_98_10 (by decide) rfl (hS.r rfl) ?_
          refine ar_iloadn (k := 64) rfl rfl ?_
          refine br_iald (k := 65) rfl (hS.k (by decide)) (by omega) (by omega) (by decide) ?_
          refine tw_top (y := s (94 + (t : Int))) (by rw [show I49 35 (t : Int) = _ from WN.tw (WN.q27 hN hS hk49) (by omega) (by omega)]; rw [if_neg (by omega)]) ?_
          refine ar_aloadn (k := 66) rfl rfl ?_
          refine ar_callV (k := 67) (as := [_, _, _]) rfl lvP_101 (hS.k (by decide)) rfl (c_P_addPair_27_n (t := t) (c := (prsN s t 0).length) hS hq (WN.q27 hN hS hk49) hR hV (by omega) (by omega) (hL49.2.2.2.2.2.2.1) (prsN_lt hR (by omega) (by omega)) hQ1 hQ2 (hcl_k _) (hcl_k _) ⟨m3, m2⟩ ⟨o3, o2⟩ ⟨m1, o1⟩ ⟨fun q => by rw [m3] at q; have := congrArg Prod.fst q; have := kC_lt (s (10 + s (84 + (t : Int)))); simp only at *; omega, fun q => by rw [m3] at q; have := congrArg Prod.fst q; have := kC_lt (s (10 + s (84 + (t : Int)))); simp only at *; omega⟩ ⟨fun q => by rw [o3] at q; have := congrArg Prod.fst q; have := kC_lt (s (10 + s (84 + s (94 + (t : Int))))); simp only at *; omega, fun q => by rw [o3] at q; have := congrArg Prod.fst q; have := kC_lt (s (10 + s (84 + s (94 + (t : Int))))); simp only at *; omega⟩ ⟨m4, m5, m7⟩ ⟨o5, o7⟩ hs6) rfl (by decide) (by decide) tw_m0 (Nat.le_of_ble_eq_true rfl) (fun r67 h67 p67 => ?_)
          obtain ⟨rfl, I67, rfl, hc67, hA67⟩ := p67
          have hk67 := hk49.trans hc67
          refine ar_iinc (k := 68) (l2 := [(3, _), (0, _), (1, _), (2, _)]) rfl (by decide) rfl rfl ?_
          refine ar_goto (k := 69) rfl ?_
          refine ar_sub (l2 := [(3, vi ((t + 1 : Nat) : Int)), (0, vr (some 40)), (1, vr (some 27)), (2, vr (none))]) (tw_s (tw_e 0 rfl (by omega)) (tw_s (tw_g 1 rfl) (tw_s (tw_g 2 rfl) (tw_s (tw_g 3 rfl) tw_s0)))) ?_
          have hL2 := hL49.pair hR (WN.q27 hN hS hk49) (by omega) (by omega) hA67
          exact ih (t + 1) I67 (by omega) hk67 hL2
theorem sT_look_27_n (hS : tSt (K, I, Q, n)) (hq : Q 40 1 = some 27) (hN : WN 27 I s) (hP : WP 27 K I Q n s) (hR : RInv s) (hV : RVal s) (hs6 : s 6 = -1) (h57 : I 57 0 = 0) : tw_AW l G mP_look 5 0 0 n 0 (fun r h' => r = none ∧ ∃ L, h' = (K, L, Q, n) ∧ cq K I L ∧ PB L s ∧ PT L s) 5 [(0, vr (some 40)), (1, vr (some 27))] [] (K, I, Q, n) := by
  obtain ⟨h0, h1, h2, h3, h4, h5, h6, hp, hrw, ht, hr, hb, htp, hv⟩ := id hR
  have hk : cq K I I := cq.rf
  have hd0 : ∀ j : Nat, ¬ dn s 0 j := fun j q => by have w9 := ht (j : Int) (by omega) q.1; have q2 := q.2; omega
  refine ar_aloadn (k := 3) rfl rfl ?_
  refine ar_callV (k := 4) (as := []) rfl lvP_81 (hS.k (by decide)) rfl (c_W_vNo27 hS hN hR (by omega)) rfl (by decide) (by decide) tw_m0 (Nat.le_of_ble_eq_true rfl) (fun r4 h4 p4 => ?_)
  obtain ⟨rfl, rfl⟩ := p4
  refine ar_astoren (k := 5) (l2 := [(2, _), (0, _), (1, _)]) rfl (by decide) rfl ?_
  refine ar_aloadn (k := 6) rfl rfl ?_
  refine ar_aloadn (k := 7) rfl rfl ?_
  refine ar_ifnonnull (k := 8) rfl (fun a8 c8 => ?_) (fun c8 => ?_)
  · cases c8
  · refine ar_bipush (k := 9) rfl (by decide) ?_
    refine ar_goto (k := 10) rfl ?_
    refine br_putIJ (k := 13) rfl (hS.k (by decide)) flP_23_6 (by decide) rfl (fun _ _ _ q => by cases q; exact ⟨rfl, rfl⟩) (fun I13 e13 => ?_)
    change _ = uI _ 40 2 _ at e13
    have hk13 := cq.w hk (by omega) (by omega) e13
    refine ar_aloadn (k := 14) rfl rfl ?_
    refine br_getR (k := 15) rfl (hS.k (by decide)) flP_32_6 (by decide) rfl (hS.r rfl) ?_
    refine ar_iconst (k := 16) rfl ?_
    refine ar_callS (k := 17) (as := [_, _]) rfl lsP_86 (c_fillJ (by decide) (hS.k (a := 52) (by decide))) rfl (by decide) (by decide) tw_m0 (Nat.le_of_ble_eq_true rfl) (fun r17 h17 p17 => ?_)
    obtain ⟨rfl, I17, rfl, fo17, fa17⟩ := p17
    have hk17 := cq.f hk13 (by omega) (by omega) fo17
    refine ar_aloadn (k := 18) rfl rfl ?_
    refine br_getR (k := 19) rfl (hS.k (by decide)) flP_36_6 (by decide) rfl (hS.r rfl) ?_
    refine ar_iconst (k := 20) rfl ?_
    refine ar_callS (k := 21) (as := [_, _]) rfl lsP_86 (c_fillJ (by decide) (hS.k (a := 53) (by decide))) rfl (by decide) (by decide) tw_m0 (Nat.le_of_ble_eq_true rfl) (fun r21 h21 p21 => ?_)
    obtain ⟨rfl, I21, rfl, fo21, fa21⟩ := p21
    have hk21 := cq.f hk17 (by omega) (by omega) fo21
    refine ar_aloadn (k := 22) rfl rfl ?_
    refine ar_iconst (k := 23) rfl ?_
    refine br_putIJ (k := 24) rfl (hS.k (by decide)) flP_39_6 (by decide) rfl (fun _ _ _ q => by cases q; exact ⟨rfl, rfl⟩) (fun I24 e24 => ?_)
    change _ = uI _ 40 6 _ at e24
    have hk24 := cq.w hk21 (by omega) (by omega) e24
    refine ar_aloadn (k := 25) rfl rfl ?_
    refine ar_iconst (k := 26) rfl ?_
    refine br_putIJ (k := 27) rfl (hS.k (by decide)) flP_42_6 (by decide) rfl (fun _ _ _ q => by cases q; exact ⟨rfl, rfl⟩) (fun I27 e27 => ?_)
    change _ = uI _ 40 7 _ at e27
    have hk27 := cq.w hk24 (by omega) (by omega) e27
    refine ar_aloadn (k := 28) rfl rfl ?_
    refine ar_iconst (k := 29) rfl ?_
    refine br_putIJ (k := 30) rfl (hS.k (by decide)) flP_54_6 (by decide) rfl (fun _ _ _ q => by cases q; exact ⟨rfl, rfl⟩) (fun I30 e30 => ?_)
    change _ = uI _ 40 11 _ at e30
    have hk30 := cq.w hk27 (by omega) (by omega) e30
    refine ar_iconst (k := 31) rfl ?_
    refine ar_istoren (k := 32) (l2 := [(3, _), (2, _), (0, _), (1, _)]) rfl (by decide) rfl ?_
    refine ar_sub (l2 := [(3, vi ((0 : Nat) : Int)), (0, vr (some 40)), (1, vr (some 27)), (2, vr (none))]) (tw_s (tw_e 0 rfl (by rfl)) (tw_s (tw_g 2 rfl) (tw_s (tw_g 3 rfl) (tw_s (tw_g 1 rfl) tw_s0)))) ?_
    refine l_P_look_27_n hS hq hN hP hR hV hs6 h57 (s 1).toNat 0 I30 (by omega) hk30 ⟨?_, fun p p1 j j1 => ?_, fun p p1 j j1 => ?_, fun j j1 => ?_, fun j j1 => ?_, fun j j1 => absurd j1 (hd0 j), ?_, fun i hi => absurd hi (Nat.not_lt_zero _)⟩
    · rw [e30, uI_at, if_neg (by decide), e27, uI_at, if_neg (by decide), e24, uI_at, if_neg (by decide), fo21 40 (by decide), fo17 40 (by decide), e13, uI_at, if_pos rfl]
      unfold rBell
      rw [if_pos hs6, if_neg (by decide)]
    · rw [e30, uI_off _ _ _ (by decide), e27, uI_off _ _ _ (by decide), e24, uI_off _ _ _ (by decide), fo21 52 (by decide), fa17 _ (by omega) (by omega), ib_0, decide_eq_false (by omega)]
    · rw [e30, uI_off _ _ _ (by decide), e27, uI_off _ _ _ (by decide), e24, uI_off _ _ _ (by decide), fa21 _ (by omega) (by omega), ib_0]
      exact ⟨fun q => (by cases q), fun q => absurd q.1 (hd0 j)⟩
    · rw [e30, uI_at, if_neg (by decide), e27, uI_at, if_neg (by decide), e24, uI_at, if_pos rfl, ib_0]
      exact ⟨fun q => (by cases q), fun q => absurd q.1 (hd0 j)⟩
    · rw [e30, uI_at, if_neg (by decide), e27, uI_at, if_pos rfl, ib_0]
      exact ⟨fun q => (by cases q), fun q => absurd q.1 (hd0 j)⟩
    · rw [e30, uI_at, if_pos rfl]; rfl
theorem l_P_look_27_v {v : Nat} {C : tCL} (hS : tSt (K, I, Q, n)) (hq : Q 40 1 = some 27) (hN : WN 27 I s) (hP : WP 27 K I Q n s) (hR : RInv s) (hV : RVal s) (hvs : VS K Q n v) (hD : VD I v C) (hs6 : s 6 ≠ -1) (ho : rOut s (s 6) = cFl C) (h57 : I 57 0 = 0) (hQv : Q 29 (s 6) = some v) (hbl : I v 0 = if s (274 + s 6) < 1 then 1 else s (274 + s 6)) : ∀ (k : Nat) (t : Nat) (J : Nat → Int → Int), t + k = (s 1).toNat → cq K I J → LB J s t t → tw_AW l G mP_look 5 0 0 n 0 ((fun r h' => r = none ∧ ∃ L, h' = (K, L, Q, n) ∧ cq K I L ∧ PB L s ∧ PT L s)) 60 [(3, vi (t : Int)), (0, vr (some 40)), (1, vr (some 27)), (2, vr (some v))] [] (K, J, Q, n) := by
  obtain ⟨h0, h1, h2, h3, h4, h5, h6, hp, hrw, ht, hr, hb, htp, hv⟩ := id hR
  intro k
  induction k with
  | zero =>
    intro t J hj hk hL
    refine ar_iloadn (k := 33) rfl rfl ?_
    refine ar_aloadn (k := 34) rfl rfl ?_
    refine br_getIz (k := 35) (z := 12) rfl (hS.k (by decide)) flP_92_10 (by decide) rfl rfl ?_
    refine tw_top (WN.tc (WN.q27 hN hS hk)) ?_
    refine ar_icmp_ge (k := 36) rfl (by omega) (by omega) (fun c36 => ?_) (fun c36 => ?_)
    · refine ar_aloadn (k := 70) rfl rfl ?_
      refine ar_callV (k := 71) (as := []) rfl lvP_105 (hS.k (by decide)) rfl (c_P_reckonSets hS h1 ((hL.end hR (by omega)).2 (hk.2.1.trans h57))) rfl (by decide) (by decide) tw_m0 (Nat.le_of_ble_eq_true rfl) (fun r71 h71 p71 => ?_)
      obtain ⟨rfl, I71, rfl, hT71, ho71⟩ := p71
      refine ar_ret (k := 72) rfl rfl rfl (Nat.le_refl _) ?_
      have hB9 := (hL.end hR (by omega)).1
      refine ⟨rfl, I71, rfl, hk.trans ⟨fun b b1 _ _ => ho71 b (by omega) (by omega), ?_, by rw [ho71 59 (by decide) (by decide)], fun k _ => by rw [ho71 40 (by decide) (by decide)], ho71 60 (by decide) (by decide)⟩, ?_, hT71⟩
      · rw [hT71.2.2.1]; exact (hk.2.1.trans h57).symm
      · unfold PB at *
        rw [ho71 40 (by decide) (by decide), ho71 52 (by decide) (by decide), ho71 53 (by decide) (by decide)]
        exact ⟨hB9.1, hB9.2.1, hB9.2.2.1, hB9.2.2.2.1, hB9.2.2.2.2.1, fun x x1 x2 x3 u u1 u2 => by rw [ho71 _ (by omega) (by omega)]; exact hB9.2.2.2.2.2 x x1 x2 x3 u u1 u2⟩
    · exfalso; omega
  | succ k ih =>
    intro t J hj hk hL
    refine ar_iloadn (k := 33) rfl rfl ?_
    refine ar_aloadn (k := 34) rfl rfl ?_
    refine br_getIz (k := 35) (z := 12) rfl (hS.k (by decide)) flP_92_10 (by decide) rfl rfl ?_
    refine tw_top (WN.tc (WN.q27 hN hS hk)) ?_
    refine ar_icmp_ge (k := 36) rfl (by omega) (by omega) (fun c36 => ?_) (fun c36 => ?_)
    · exfalso; omega
    · have w1 := ht (t : Int) (by omega) (by omega)
      refine ar_aloadn (k := 37) rfl rfl ?_
      refine br_getR (k := 38) rfl (hS.k (by decide)) flP_32_6 (by decide) rfl (hS.r rfl) ?_
      refine ar_aloadn (k := 39) rfl rfl ?_
      refine br_getR (k := 40) rfl (hS.k (by decide)) flP_95_10 (by decide) rfl (hS.r rfl) ?_
      refine ar_iloadn (k := 41) rfl rfl ?_
      refine br_iald (k := 42) rfl (hS.k (by decide)) (by omega) (by omega) (by decide) ?_
      refine tw_top (WN.ho (WN.q27 hN hS hk) (by omega) (by omega)) ?_
      refine ar_dup2 (k := 43) rfl rfl rfl ?_
      refine br_iald (k := 44) rfl (hS.k (by decide)) (by omega) (by omega) (by decide) ?_
      refine ar_iconst (k := 45) rfl ?_
      refine ar_iloadn (k := 46) rfl rfl ?_
      refine ar_ishl (k := 47) rfl ?_
      refine ar_ior (k := 48) rfl ?_
      refine br_iastJ (k := 49) rfl (hS.k (by decide)) (by omega) (by omega) (by decide) (fun I49 e49 => ?_)
      have hk49 := cq.w hk (by omega) (by omega) e49
      have hL49 := hL.held hR (by omega) e49
      refine ar_aloadn (k := 50) rfl rfl ?_
      refine br_getR (k := 51) rfl (hS.k (by decide)) flP_98_10 (by decide) rfl (hS.r rfl) ?_
      refine ar_iloadn (k := 52) rfl rfl ?_
      refine br_iald (k := 53) rfl (hS.k (by decide)) (by omega) (by omega) (by decide) ?_
      refine tw_top (WN.tw (WN.q27 hN hS hk49) (by omega) (by omega)) ?_
      refine ar_iloadn (k := 54) rfl rfl ?_
      refine ar_icmp_le (k := 55) rfl (by omega) (by omega) (fun c55 => ?_) (fun c55 => ?_)
      · refine ar_iinc (k := 68) (l2 := [(3, _), (0, _), (1, _), (2, _)]) rfl (by decide) rfl rfl ?_
        refine ar_goto (k := 69) rfl ?_
        refine ar_sub (l2 := [(3, vi ((t + 1 : Nat) : Int)), (0, vr (some 40)), (1, vr (some 27)), (2, vr (some v))]) (tw_s (tw_e 0 rfl (by omega)) (tw_s (tw_g 1 rfl) (tw_s (tw_g 2 rfl) (tw_s (tw_g 3 rfl) tw_s0)))) ?_
        have hL2 := hL49.skip hR (by omega) (by omega)
        exact ih (t + 1) I49 (by omega) hk49 hL2
      · have hlt9 := prsN_lt hR (t := t) (by omega) (by omega)
        refine ar_aloadn (k := 56) rfl rfl ?_
        refine br_getIz (k := 57) (z := 11) rfl (hS.k (by decide)) flP_54_6 (by decide) rfl rfl ?_
        refine tw_top hL49.2.2.2.2.2.2.1 ?_
        refine ar_iconst (k := 58) rfl ?_
        refine ar_icmp_ge (k := 59) rfl (by omega) (by omega) (fun c59 => ?_) (fun c59 => ?_)
        · refine ar_iinc (k := 68) (l2 := [(3, _), (0, _), (1, _), (2, _)]) rfl (by decide) rfl rfl ?_
          refine ar_goto (k := 69) rfl ?_
          refine ar_sub (l2 := [(3, vi ((t + 1 : Nat) : Int)), (0, vr (some 40)), (1, vr (some 27)), (2, vr (some v))]) (tw_s (tw_e 0 rfl (by omega)) (tw_s (tw_g 1 rfl) (tw_s (tw_g 2 rfl) (tw_s (tw_g 3 rfl) tw_s0)))) ?_
          have hL2 := hL49.skip hR (by omega) (by omega)
          exact ih (t + 1) I49 (by omega) hk49 hL2
        · have w2 := ht (s (94 + (t : Int))) (by omega) (by omega)
          obtain ⟨a1, hQ1, hn1⟩ := hP (s (84 + (t : Int))) (by omega) (by omega)
          obtain ⟨a2, hQ2, hn2⟩ := hP (s (84 + s (94 + (t : Int)))) (by omega) (by omega)
          obtain ⟨m1, m2, m3, m4, m5, m6, m7⟩ := hn1.g hk49.g
          obtain ⟨o1, o2, o3, o4, o5, o6, o7⟩ := hn2.g hk49.g
          refine ar_aloadn (k := 60) rfl rfl ?_
          refine ar_iloadn (k := 61) rfl rfl ?_
          refine ar_aloadn (k := 62) rfl rfl ?_
          refine br_getR (k := 63) rfl (hS.k (by decide)) flP_98_10 (by decide) rfl (hS.r rfl) ?_
          refine ar_iloadn (k := 64) rfl rfl ?_
          refine br_iald (k := 65) rfl (hS.k (by decide)) (by omega) (by omega) (by decide) ?_
          refine tw_top (y := s (94 + (t : Int))) (by rw [show I49 35 (t : Int) = _ from WN.tw (WN.q27 hN hS hk49) (by omega) (by omega)]; rw [if_neg (by omega)]) ?_
          refine ar_aloadn (k := 66) rfl rfl ?_
          refine ar_callV (k := 67) (as := [_, _, _]) rfl lvP_101 (hS.k (by decide)) rfl (c_P_addPair_27_v (t := t) (c := (prsN s t 0).length) hS hq (WN.q27 hN hS hk49) hR hV (by omega) (by omega) (hL49.2.2.2.2.2.2.1) (prsN_lt hR (by omega) (by omega)) hQ1 hQ2 (hcl_k _) (hcl_k _) ⟨m3, m2⟩ ⟨o3, o2⟩ ⟨m1, o1⟩ ⟨fun q => by rw [m3] at q; have := congrArg Prod.fst q; have := kC_lt (s (10 + s (84 + (t : Int)))); simp only at *; omega, fun q => by rw [m3] at q; have := congrArg Prod.fst q; have := kC_lt (s (10 + s (84 + (t : Int)))); simp only at *; omega⟩ ⟨fun q => by rw [o3] at q; have := congrArg Prod.fst q; have := kC_lt (s (10 + s (84 + s (94 + (t : Int))))); simp only at *; omega, fun q => by rw [o3] at q; have := congrArg Prod.fst q; have := kC_lt (s (10 + s (84 + s (94 + (t : Int))))); simp only at *; omega⟩ ⟨m4, m5, m7⟩ ⟨o5, o7⟩ hvs (hD.g (hvs.g hk49.g)) hs6 ho) rfl (by decide) (by decide) tw_m0 (Nat.le_of_ble_eq_true rfl) (fun r67 h67 p67 => ?_)
          obtain ⟨rfl, I67, rfl, hc67, hA67⟩ := p67
          have hk67 := hk49.trans hc67
          refine ar_iinc (k := 68) (l2 := [(3, _), (0, _), (1, _), (2, _)]) rfl (by decide) rfl rfl ?_
          refine ar_goto (k := 69) rfl ?_
          refine ar_sub (l2 := [(3, vi ((t + 1 : Nat) : Int)), (0, vr (some 40)), (1, vr (some 27)), (2, vr (some v))]) (tw_s (tw_e 0 rfl (by omega)) (tw_s (tw_g 1 rfl) (tw_s (tw_g 2 rfl) (tw_s (tw_g 3 rfl) tw_s0)))) ?_
          have hL2 := hL49.pair hR (WN.q27 hN hS hk49) (by omega) (by omega) hA67
          exact ih (t + 1) I67 (by omega) hk67 hL2
theorem sT_look_27_v {v : Nat} {C : tCL} (hS : tSt (K, I, Q, n)) (hq : Q 40 1 = some 27) (hN : WN 27 I s) (hP : WP 27 K I Q n s) (hR : RInv s) (hV : RVal s) (hvs : VS K Q n v) (hD : VD I v C) (hs6 : s 6 ≠ -1) (ho : rOut s (s 6) = cFl C) (h57 : I 57 0 = 0) (hQv : Q 29 (s 6) = some v) (hbl : I v 0 = if s (274 + s 6) < 1 then 1 else s (274 + s 6)) : tw_AW l G mP_look 5 0 0 n 0 (fun r h' => r = none ∧ ∃ L, h' = (K, L, Q, n) ∧ cq K I L ∧ PB L s ∧ PT L s) 5 [(0, vr (some 40)), (1, vr (some 27))] [] (K, I, Q, n) := by
  obtain ⟨h0, h1, h2, h3, h4, h5, h6, hp, hrw, ht, hr, hb, htp, hv⟩ := id hR
  have hk : cq K I I := cq.rf
  have hd0 : ∀ j : Nat, ¬ dn s 0 j := fun j q => by have w9 := ht (j : Int) (by omega) q.1; have q2 := q.2; omega
  refine ar_aloadn (k := 3) rfl rfl ?_
  refine ar_callV (k := 4) (as := []) rfl lvP_81 (hS.k (by decide)) rfl (c_W_vYes27 hS hN hR (by omega) hQv) rfl (by decide) (by decide) tw_m0 (Nat.le_of_ble_eq_true rfl) (fun r4 h4 p4 => ?_)
  obtain ⟨rfl, rfl⟩ := p4
  refine ar_astoren (k := 5) (l2 := [(2, _), (0, _), (1, _)]) rfl (by decide) rfl ?_
  refine ar_aloadn (k := 6) rfl rfl ?_
  refine ar_aloadn (k := 7) rfl rfl ?_
  refine ar_ifnonnull (k := 8) rfl (fun a8 c8 => ?_) (fun c8 => ?_)
  · refine ar_aloadn (k := 11) rfl rfl ?_
    refine br_getIz (k := 12) (z := 0) rfl hvs.k0 flP_85_9 (by decide) rfl rfl ?_
    refine tw_top hbl ?_
    refine br_putIJ (k := 13) rfl (hS.k (by decide)) flP_23_6 (by decide) rfl (fun _ _ _ q => by cases q; exact ⟨rfl, rfl⟩) (fun I13 e13 => ?_)
    change _ = uI _ 40 2 _ at e13
    have hk13 := cq.w hk (by omega) (by omega) e13
    refine ar_aloadn (k := 14) rfl rfl ?_
    refine br_getR (k := 15) rfl (hS.k (by decide)) flP_32_6 (by decide) rfl (hS.r rfl) ?_
    refine ar_iconst (k := 16) rfl ?_
    refine ar_callS (k := 17) (as := [_, _]) rfl lsP_86 (c_fillJ (by decide) (hS.k (a := 52) (by decide))) rfl (by decide) (by decide) tw_m0 (Nat.le_of_ble_eq_true rfl) (fun r17 h17 p17 => ?_)
    obtain ⟨rfl, I17, rfl, fo17, fa17⟩ := p17
    have hk17 := cq.f hk13 (by omega) (by omega) fo17
    refine ar_aloadn (k := 18) rfl rfl ?_
    refine br_getR (k := 19) rfl (hS.k (by decide)) flP_36_6 (by decide) rfl (hS.r rfl) ?_
    refine ar_iconst (k := 20) rfl ?_
    refine ar_callS (k := 21) (as := [_, _]) rfl lsP_86 (c_fillJ (by decide) (hS.k (a := 53) (by decide))) rfl (by decide) (by decide) tw_m0 (Nat.le_of_ble_eq_true rfl) (fun r21 h21 p21 => ?_)
    obtain ⟨rfl, I21, rfl, fo21, fa21⟩ := p21
    have hk21 := cq.f hk17 (by omega) (by omega) fo21
    refine ar_aloadn (k := 22) rfl rfl ?_
    refine ar_iconst (k := 23) rfl ?_
    refine br_putIJ (k := 24) rfl (hS.k (by decide)) flP_39_6 (by decide) rfl (fun _ _ _ q => by cases q; exact ⟨rfl, rfl⟩) (fun I24 e24 => ?_)
    change _ = uI _ 40 6 _ at e24
    have hk24 := cq.w hk21 (by omega) (by omega) e24
    refine ar_aloadn (k := 25) rfl rfl ?_
    refine ar_iconst (k := 26) rfl ?_
    refine br_putIJ (k := 27) rfl (hS.k (by decide)) flP_42_6 (by decide) rfl (fun _ _ _ q => by cases q; exact ⟨rfl, rfl⟩) (fun I27 e27 => ?_)
    change _ = uI _ 40 7 _ at e27
    have hk27 := cq.w hk24 (by omega) (by omega) e27
    refine ar_aloadn (k := 28) rfl rfl ?_
    refine ar_iconst (k := 29) rfl ?_
    refine br_putIJ (k := 30) rfl (hS.k (by decide)) flP_54_6 (by decide) rfl (fun _ _ _ q => by cases q; exact ⟨rfl, rfl⟩) (fun I30 e30 => ?_)
    change _ = uI _ 40 11 _ at e30
    have hk30 := cq.w hk27 (by omega) (by omega) e30
    refine ar_iconst (k := 31) rfl ?_
    refine ar_istoren (k := 32) (l2 := [(3, _), (2, _), (0, _), (1, _)]) rfl (by decide) rfl ?_
    refine ar_sub (l2 := [(3, vi ((0 : Nat) : Int)), (0, vr (some 40)), (1, vr (some 27)), (2, vr (some v))]) (tw_s (tw_e 0 rfl (by rfl)) (tw_s (tw_g 2 rfl) (tw_s (tw_g 3 rfl) (tw_s (tw_g 1 rfl) tw_s0)))) ?_
    refine l_P_look_27_v hS hq hN hP hR hV hvs hD hs6 ho h57 hQv hbl (s 1).toNat 0 I30 (by omega) hk30 ⟨?_, fun p p1 j j1 => ?_, fun p p1 j j1 => ?_, fun j j1 => ?_, fun j j1 => ?_, fun j j1 => absurd j1 (hd0 j), ?_, fun i hi => absurd hi (Nat.not_lt_zero _)⟩
    · rw [e30, uI_at, if_neg (by decide), e27, uI_at, if_neg (by decide), e24, uI_at, if_neg (by decide), fo21 40 (by decide), fo17 40 (by decide), e13, uI_at, if_pos rfl]
      unfold rBell
      rw [if_neg hs6]
    · rw [e30, uI_off _ _ _ (by decide), e27, uI_off _ _ _ (by decide), e24, uI_off _ _ _ (by decide), fo21 52 (by decide), fa17 _ (by omega) (by omega), ib_0, decide_eq_false (by omega)]
    · rw [e30, uI_off _ _ _ (by decide), e27, uI_off _ _ _ (by decide), e24, uI_off _ _ _ (by decide), fa21 _ (by omega) (by omega), ib_0]
      exact ⟨fun q => (by cases q), fun q => absurd q.1 (hd0 j)⟩
    · rw [e30, uI_at, if_neg (by decide), e27, uI_at, if_neg (by decide), e24, uI_at, if_pos rfl, ib_0]
      exact ⟨fun q => (by cases q), fun q => absurd q.1 (hd0 j)⟩
    · rw [e30, uI_at, if_neg (by decide), e27, uI_at, if_pos rfl, ib_0]
      exact ⟨fun q => (by cases q), fun q => absurd q.1 (hd0 j)⟩
    · rw [e30, uI_at, if_pos rfl]; rfl
  · cases c8
theorem c_P_look27 (hS : tSt (K, I, Q, n)) (hN : WN 27 I s) (hP : WP 27 K I Q n s) (hW : WV 27 K I Q n s) (hR : RInv s) (hV : RVal s) (h57 : I 57 0 = 0) : tw_M l G 5 0 0 mP_look [vr (some 40), vr (some 27)] (K, I, Q, n) (fun r h' => r = none ∧ ∃ L, h' = (K, L, uQ Q 40 1 (some 27), n) ∧ cq K I L ∧ PB L s ∧ PT L s) := by
  obtain ⟨h0, h1, h2, h3, h4, h5, h6, hp, hrw, ht, hr, hb, htp, hv⟩ := id hR
  refine tw_intro okP_look (Nat.le_of_ble_eq_true rfl) ?_
  refine ar_aloadn (k := 0) rfl rfl ?_
  refine ar_aloadn (k := 1) rfl rfl ?_
  refine br_putR (k := 2) rfl (hS.k (by decide)) flP_18_6 (by decide) rfl (fun _ _ _ q => by cases q; exact ⟨rfl, _, rfl, rfl⟩) ?_
  have hS2 := hS.q40 (some 27)
  have hP2 : WP 27 K I (uQ Q 40 1 (some 27)) n s := fun p p1 p2 => by obtain ⟨a, b1, b2⟩ := hP p p1 p2; exact ⟨a, by rw [q40_ne _ (by decide)]; exact b1, b2⟩
  by_cases g : s 6 = -1
  · exact sT_look_27_n hS2 (q40_at _) hN hP2 hR hV g h57
  · obtain ⟨v, C, hQv, hvs, hbl, hD, ho⟩ := hW (s 6) (by omega) (by omega)
    exact sT_look_27_v hS2 (q40_at _) hN hP2 hR hV (hvs.qg (qg.q40 _)) hD g ho h57 (by rw [q40_ne _ (by decide)]; exact hQv) hbl
end CL
