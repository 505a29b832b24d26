section CM
variable {l : Launch} {G : tG} {K : Nat → Nat × Nat} {I : Nat → Int → Int} {Q : Nat → Int → Option Nat} {n : Nat} {s : Int → Int}
theorem c_W_hasPerson {p : Int} (hS : tSt (K, I, Q, n)) (hN : WN 1 I s) (hR : RInv s) (tp : tr p) : tw_F l G 1 0 0 mW_hasPerson [vr (some 1), vi p] (K, I, Q, n) (some (vi (if 0 ≤ p ∧ p ≤ s 0 - 1 then 1 else 0))) (K, I, Q, n) := by
  obtain ⟨h0, h1, h2, h3, h4, h5, h6, hp, hrw, ht, hr, hb, htp, hv⟩ := id hR
  refine tw_intro okW_hasPerson (Nat.le_of_ble_eq_true rfl) ?_
  refine ar_iloadn (k := 0) rfl rfl ?_
  refine ar_if_lt (k := 1) rfl (by omega) (fun c1 => ?_) (fun c1 => ?_)
  · refine ar_iconst (k := 11) rfl ?_
    refine ar_zret (k := 12) rfl rfl (by omega) rfl (Nat.le_refl _) ?_
    exact ⟨congrArg (fun z => some (vi z)) (by omega), rfl⟩
  · refine ar_iloadn (k := 2) rfl rfl ?_
    refine ar_aloadn (k := 3) rfl rfl ?_
    refine br_getIz (k := 4) (z := 5) rfl (hS.k (by decide)) flW_34_10 (by decide) rfl rfl ?_
    refine tw_top (WN.pc hN) ?_
    refine ar_icmp_ge (k := 5) rfl (by omega) (by omega) (fun c5 => ?_) (fun c5 => ?_)
    · refine ar_iconst (k := 11) rfl ?_
      refine ar_zret (k := 12) rfl rfl (by omega) rfl (Nat.le_refl _) ?_
      exact ⟨congrArg (fun z => some (vi z)) (by omega), rfl⟩
    · refine ar_iloadn (k := 6) rfl rfl ?_
      refine ar_bipush (k := 7) rfl (by decide) ?_
      refine ar_icmp_ge (k := 8) rfl (by omega) (by omega) (fun c8 => ?_) (fun c8 => ?_)
      · refine ar_iconst (k := 11) rfl ?_
        refine ar_zret (k := 12) rfl rfl (by omega) rfl (Nat.le_refl _) ?_
        exact ⟨congrArg (fun z => some (vi z)) (by omega), rfl⟩
      · refine ar_iconst (k := 9) rfl ?_
        refine ar_goto (k := 10) rfl ?_
        refine ar_zret (k := 12) rfl rfl (by omega) rfl (Nat.le_refl _) ?_
        exact ⟨congrArg (fun z => some (vi z)) (by omega), rfl⟩
theorem c_W_hasTool {p : Int} (hS : tSt (K, I, Q, n)) (hN : WN 1 I s) (hR : RInv s) (tp : tr p) : tw_F l G 1 0 0 mW_hasTool [vr (some 1), vi p] (K, I, Q, n) (some (vi (if 0 ≤ p ∧ p ≤ s 1 - 1 then 1 else 0))) (K, I, Q, n) := by
  obtain ⟨h0, h1, h2, h3, h4, h5, h6, hp, hrw, ht, hr, hb, htp, hv⟩ := id hR
  refine tw_intro okW_hasTool (Nat.le_of_ble_eq_true rfl) ?_
  refine ar_iloadn (k := 0) rfl rfl ?_
  refine ar_if_lt (k := 1) rfl (by omega) (fun c1 => ?_) (fun c1 => ?_)
  · refine ar_iconst (k := 11) rfl ?_
    refine ar_zret (k := 12) rfl rfl (by omega) rfl (Nat.le_refl _) ?_
    exact ⟨congrArg (fun z => some (vi z)) (by omega), rfl⟩
  · refine ar_iloadn (k := 2) rfl rfl ?_
    refine ar_aloadn (k := 3) rfl rfl ?_
    refine br_getIz (k := 4) (z := 12) rfl (hS.k (by decide)) flW_56_10 (by decide) rfl rfl ?_
    refine tw_top (WN.tc hN) ?_
    refine ar_icmp_ge (k := 5) rfl (by omega) (by omega) (fun c5 => ?_) (fun c5 => ?_)
    · refine ar_iconst (k := 11) rfl ?_
      refine ar_zret (k := 12) rfl rfl (by omega) rfl (Nat.le_refl _) ?_
      exact ⟨congrArg (fun z => some (vi z)) (by omega), rfl⟩
    · refine ar_iloadn (k := 6) rfl rfl ?_
      refine ar_bipush (k := 7) rfl (by decide) ?_
      refine ar_icmp_ge (k := 8) rfl (by omega) (by omega) (fun c8 => ?_) (fun c8 => ?_)
      · refine ar_iconst (k := 11) rfl ?_
        refine ar_zret (k := 12) rfl rfl (by omega) rfl (Nat.le_refl _) ?_
        exact ⟨congrArg (fun z => some (vi z)) (by omega), rfl⟩
      · refine ar_iconst (k := 9) rfl ?_
        refine ar_goto (k := 10) rfl ?_
        refine ar_zret (k := 12) rfl rfl (by omega) rfl (Nat.le_refl _) ?_
        exact ⟨congrArg (fun z => some (vi z)) (by omega), rfl⟩
theorem c_T_isHour {h : tH} {p : Int} (tp : tr p) : tw_F l G 1 0 0 mT_isHour [vi p] h (some (vi (if 0 ≤ p ∧ p ≤ 23 then 1 else 0))) h := by
  refine tw_intro okT_isHour (Nat.le_of_ble_eq_true rfl) ?_
  refine ar_iloadn (k := 0) rfl rfl ?_
  refine ar_if_lt (k := 1) rfl (by omega) (fun c1 => ?_) (fun c1 => ?_)
  · refine ar_iconst (k := 7) rfl ?_
    refine ar_zret (k := 8) rfl rfl (by omega) rfl (Nat.le_refl _) ?_
    exact ⟨congrArg (fun z => some (vi z)) (by omega), rfl⟩
  · refine ar_iloadn (k := 2) rfl rfl ?_
    refine ar_bipush (k := 3) rfl (by decide) ?_
    refine ar_icmp_ge (k := 4) rfl (by omega) (by omega) (fun c4 => ?_) (fun c4 => ?_)
    · refine ar_iconst (k := 7) rfl ?_
      refine ar_zret (k := 8) rfl rfl (by omega) rfl (Nat.le_refl _) ?_
      exact ⟨congrArg (fun z => some (vi z)) (by omega), rfl⟩
    · refine ar_iconst (k := 5) rfl ?_
      refine ar_goto (k := 6) rfl ?_
      refine ar_zret (k := 8) rfl rfl (by omega) rfl (Nat.le_refl _) ?_
      exact ⟨congrArg (fun z => some (vi z)) (by omega), rfl⟩
theorem c_T_feed {x : Int} (hS : tSt (K, I, Q, n)) (hN : WN 1 I s) (hR : RInv s) (t_x : tr x) : tw_M l G 1 0 0 mT_feed [vr (some 0), vi x] (K, I, Q, n) (fun r h' => r = some (vi (rs_feed s x).1) ∧ ∃ J, h' = (K, J, Q, n) ∧ WN 1 J (rs_feed s x).2 ∧ wo I J) := by
  obtain ⟨h0, h1, h2, h3, h4, h5, h6, hp, hrw, ht, hr, hb, htp, hv⟩ := id hR
  refine tw_intro okT_feed (Nat.le_of_ble_eq_true rfl) ?_
  refine ar_iloadn (k := 0) rfl rfl ?_
  refine ar_if_lt (k := 1) rfl (by omega) (fun c1 => ?_) (fun c1 => ?_)
  · refine ar_bipush (k := 5) rfl (by decide) ?_
    refine ar_iret (k := 6) rfl rfl rfl (Nat.le_refl _) ?_
    have e : rs_feed s x = (-2, s) := by unfold rs_feed; (repeat' split) <;> first | rfl | (exfalso; omega)
    rw [e]
    exact ⟨congrArg (fun z => some (vi z)) (by omega), _, rfl, hN, wo.rf⟩
  · refine ar_iloadn (k := 2) rfl rfl ?_
    refine ar_bipush (k := 3) rfl (by decide) ?_
    refine ar_icmp_le (k := 4) rfl (by omega) (by omega) (fun c4 => ?_) (fun c4 => ?_)
    · refine ar_aloadn (k := 7) rfl rfl ?_
      refine br_getR (k := 8) rfl (hS.k (by decide)) flT_14_11 (by decide) rfl (hS.r rfl) ?_
      refine br_getIz (k := 9) (z := 1) rfl (hS.k (by decide)) flT_46_10 (by decide) rfl rfl ?_
      refine tw_top (WN.sg hN) ?_
      refine ar_bipush (k := 10) rfl (by decide) ?_
      refine ar_icmp_lt (k := 11) rfl (by omega) (by omega) (fun c11 => ?_) (fun c11 => ?_)
      · refine ar_aloadn (k := 14) rfl rfl ?_
        refine br_getR (k := 15) rfl (hS.k (by decide)) flT_14_11 (by decide) rfl (hS.r rfl) ?_
        refine br_getR (k := 16) rfl (hS.k (by decide)) flT_50_10 (by decide) rfl (hS.r rfl) ?_
        refine ar_aloadn (k := 17) rfl rfl ?_
        refine br_getR (k := 18) rfl (hS.k (by decide)) flT_14_11 (by decide) rfl (hS.r rfl) ?_
        refine br_getIz (k := 19) (z := 1) rfl (hS.k (by decide)) flT_46_10 (by decide) rfl rfl ?_
        refine tw_top (WN.sg hN) ?_
        refine ar_iloadn (k := 20) rfl rfl ?_
        refine ar_i2b (k := 21) rfl (by omega) ?_
        refine br_bast (k := 22) rfl (hS.k (by decide)) (by omega) (by omega) (by decide) (by omega) ?_
        have hN2 : WN 1 (uI I 2 (s 5) x) (up s (174 + s 5) x) := hN.u_tp (by omega)
        have q5 : up s (174 + s 5) x 5 = s 5 := up_ne _ _ (by omega)
        refine ar_aloadn (k := 23) rfl rfl ?_
        refine br_getR (k := 24) rfl (hS.k (by decide)) flT_14_11 (by decide) rfl (hS.r rfl) ?_
        refine ar_dup (k := 25) rfl rfl ?_
        refine br_getIz (k := 26) (z := 1) rfl (hS.k (by decide)) flT_46_10 (by decide) rfl rfl ?_
        refine tw_top (y := s 5) (by exact (WN.sg hN2).trans q5) ?_
        refine ar_iconst (k := 27) rfl ?_
        refine ar_iadd (k := 28) rfl ?_
        refine br_putIz (k := 29) (z := 1) rfl (hS.k (by decide)) flT_46_10 (by decide) rfl (fun _ _ _ q => by cases q; exact ⟨rfl, rfl⟩) rfl ?_
        have hN3 : WN 1 (uI (uI I 2 (s 5) x) 1 1 (s 5 + 1)) (up (up s (174 + s 5) x) 5 (s 5 + 1)) := hN2.u_sg
        have q6 : up (up s (174 + s 5) x) 5 (s 5 + 1) 5 = s 5 + 1 := up_at _ _ _
        refine ar_aloadn (k := 30) rfl rfl ?_
        refine br_getR (k := 31) rfl (hS.k (by decide)) flT_14_11 (by decide) rfl (hS.r rfl) ?_
        refine br_getIz (k := 32) (z := 1) rfl (hS.k (by decide)) flT_46_10 (by decide) rfl rfl ?_
        refine tw_top (y := s 5 + 1) (by exact (WN.sg hN3).trans q6) ?_
        refine ar_iret (k := 33) rfl rfl rfl (Nat.le_refl _) ?_
        have e : rs_feed s x = (s 5 + 1, up (up s (174 + s 5) x) 5 (s 5 + 1)) := by unfold rs_feed; (repeat' split) <;> first | rfl | (exfalso; omega)
        rw [e]
        exact ⟨congrArg (fun z => some (vi z)) (by omega), _, rfl, (hN.u_tp (by omega)).u_sg, (wo.rf.u (by decide)).u (by decide)⟩
      · refine ar_bipush (k := 12) rfl (by decide) ?_
        refine ar_iret (k := 13) rfl rfl rfl (Nat.le_refl _) ?_
        have e : rs_feed s x = (-4, s) := by unfold rs_feed; (repeat' split) <;> first | rfl | (exfalso; omega)
        rw [e]
        exact ⟨congrArg (fun z => some (vi z)) (by omega), _, rfl, hN, wo.rf⟩
    · refine ar_bipush (k := 5) rfl (by decide) ?_
      refine ar_iret (k := 6) rfl rfl rfl (Nat.le_refl _) ?_
      have e : rs_feed s x = (-2, s) := by unfold rs_feed; (repeat' split) <;> first | rfl | (exfalso; omega)
      rw [e]
      exact ⟨congrArg (fun z => some (vi z)) (by omega), _, rfl, hN, wo.rf⟩
theorem c_T_free {p : Int} {x : Int} (hS : tSt (K, I, Q, n)) (hN : WN 1 I s) (hR : RInv s) (t_p : tr p) (t_x : tr x) : tw_M l G 2 0 0 mT_free [vr (some 0), vi p, vi x] (K, I, Q, n) (fun r h' => r = some (vi (rs_free s p x).1) ∧ ∃ J, h' = (K, J, Q, n) ∧ WN 1 J (rs_free s p x).2 ∧ wo I J) := by
  obtain ⟨h0, h1, h2, h3, h4, h5, h6, hp, hrw, ht, hr, hb, htp, hv⟩ := id hR
  refine tw_intro okT_free (Nat.le_of_ble_eq_true rfl) ?_
  refine ar_aloadn (k := 0) rfl rfl ?_
  refine br_getR (k := 1) rfl (hS.k (by decide)) flT_14_11 (by decide) rfl (hS.r rfl) ?_
  refine ar_iloadn (k := 2) rfl rfl ?_
  refine ar_callV (k := 3) (as := [_]) rfl lvT_76 (hS.k (by decide)) rfl (c_W_hasPerson hS hN hR (by omega)) rfl (by decide) (by decide) tw_m0 (Nat.le_of_ble_eq_true rfl) (fun r3 h3 p3 => ?_)
  obtain ⟨rfl, rfl⟩ := p3
  refine ar_if_ne (k := 4) rfl (by omega) (fun c4 => ?_) (fun c4 => ?_)
  · refine ar_iloadn (k := 7) rfl rfl ?_
    refine ar_if_lt (k := 8) rfl (by omega) (fun c8 => ?_) (fun c8 => ?_)
    · refine ar_bipush (k := 12) rfl (by decide) ?_
      refine ar_iret (k := 13) rfl rfl rfl (Nat.le_refl _) ?_
      have e : rs_free s p x = (-2, s) := by unfold rs_free; (repeat' split) <;> first | rfl | (exfalso; omega)
      rw [e]
      exact ⟨congrArg (fun z => some (vi z)) (by omega), _, rfl, hN, wo.rf⟩
    · refine ar_iloadn (k := 9) rfl rfl ?_
      refine ar_ldc (k := 10) (z := 16777215) rfl cnT_80 rfl ?_
      refine ar_icmp_le (k := 11) rfl (by omega) (by omega) (fun c11 => ?_) (fun c11 => ?_)
      · refine ar_aloadn (k := 14) rfl rfl ?_
        refine br_getR (k := 15) rfl (hS.k (by decide)) flT_14_11 (by decide) rfl (hS.r rfl) ?_
        refine br_getR (k := 16) rfl (hS.k (by decide)) flT_81_10 (by decide) rfl (hS.r rfl) ?_
        refine ar_iloadn (k := 17) rfl rfl ?_
        refine br_iald (k := 18) rfl (hS.k (by decide)) (by omega) (by omega) (by decide) ?_
        refine tw_top (WN.fr hN (by omega) (by omega)) ?_
        refine ar_callS (k := 19) (as := [_]) rfl lsT_85 c_J6_bitCount rfl (by decide) (by decide) tw_m0 (Nat.le_of_ble_eq_true rfl) (fun r19 h19 p19 => ?_)
        obtain ⟨rfl, rfl⟩ := p19
        refine tw_top (bcn_24 (hp p (by omega) (by omega)).2.2.2) ?_
        refine ar_istoren (k := 20) (l2 := [(3, _), (0, _), (1, _), (2, _)]) rfl (by decide) rfl ?_
        refine ar_aloadn (k := 21) rfl rfl ?_
        refine br_getR (k := 22) rfl (hS.k (by decide)) flT_14_11 (by decide) rfl (hS.r rfl) ?_
        refine br_getR (k := 23) rfl (hS.k (by decide)) flT_81_10 (by decide) rfl (hS.r rfl) ?_
        refine ar_iloadn (k := 24) rfl rfl ?_
        refine ar_iloadn (k := 25) rfl rfl ?_
        refine br_iast (k := 26) rfl (hS.k (by decide)) (by omega) (by omega) (by decide) ?_
        refine ar_iloadn (k := 27) rfl rfl ?_
        refine ar_iret (k := 28) rfl rfl rfl (Nat.le_refl _) ?_
        have e : rs_free s p x = (smV (fun h => bAnd (bShr (s (34 + p)) h) 1) 24 0 0, up s (34 + p) x) := by unfold rs_free; (repeat' split) <;> first | rfl | (exfalso; omega)
        rw [e]
        exact ⟨congrArg (fun z => some (vi z)) (by omega), _, rfl, hN.u_fr (by omega), wo.rf.u (by decide)⟩
      · refine ar_bipush (k := 12) rfl (by decide) ?_
        refine ar_iret (k := 13) rfl rfl rfl (Nat.le_refl _) ?_
        have e : rs_free s p x = (-2, s) := by unfold rs_free; (repeat' split) <;> first | rfl | (exfalso; omega)
        rw [e]
        exact ⟨congrArg (fun z => some (vi z)) (by omega), _, rfl, hN, wo.rf⟩
  · refine ar_iconst (k := 5) rfl ?_
    refine ar_iret (k := 6) rfl rfl rfl (Nat.le_refl _) ?_
    have e : rs_free s p x = (-1, s) := by unfold rs_free; (repeat' split) <;> first | rfl | (exfalso; omega)
    rw [e]
    exact ⟨congrArg (fun z => some (vi z)) (by omega), _, rfl, hN, wo.rf⟩
theorem c_T_give {t : Int} {p : Int} (hS : tSt (K, I, Q, n)) (hN : WN 1 I s) (hR : RInv s) (t_t : tr t) (t_p : tr p) : tw_M l G 2 0 0 mT_give [vr (some 0), vi t, vi p] (K, I, Q, n) (fun r h' => r = some (vi (rs_give s t p).1) ∧ ∃ J, h' = (K, J, Q, n) ∧ WN 1 J (rs_give s t p).2 ∧ wo I J) := by
  obtain ⟨h0, h1, h2, h3, h4, h5, h6, hp, hrw, ht, hr, hb, htp, hv⟩ := id hR
  refine tw_intro okT_give (Nat.le_of_ble_eq_true rfl) ?_
  refine ar_aloadn (k := 0) rfl rfl ?_
  refine br_getR (k := 1) rfl (hS.k (by decide)) flT_14_11 (by decide) rfl (hS.r rfl) ?_
  refine ar_iloadn (k := 2) rfl rfl ?_
  refine ar_callV (k := 3) (as := [_]) rfl lvT_107 (hS.k (by decide)) rfl (c_W_hasTool hS hN hR (by omega)) rfl (by decide) (by decide) tw_m0 (Nat.le_of_ble_eq_true rfl) (fun r3 h3 p3 => ?_)
  obtain ⟨rfl, rfl⟩ := p3
  refine ar_if_eq (k := 4) rfl (by omega) (fun c4 => ?_) (fun c4 => ?_)
  · refine ar_iconst (k := 10) rfl ?_
    refine ar_iret (k := 11) rfl rfl rfl (Nat.le_refl _) ?_
    have e : rs_give s t p = (-1, s) := by unfold rs_give; (repeat' split) <;> first | rfl | (exfalso; omega)
    rw [e]
    exact ⟨congrArg (fun z => some (vi z)) (by omega), _, rfl, hN, wo.rf⟩
  · refine ar_aloadn (k := 5) rfl rfl ?_
    refine br_getR (k := 6) rfl (hS.k (by decide)) flT_14_11 (by decide) rfl (hS.r rfl) ?_
    refine ar_iloadn (k := 7) rfl rfl ?_
    refine ar_callV (k := 8) (as := [_]) rfl lvT_76 (hS.k (by decide)) rfl (c_W_hasPerson hS hN hR (by omega)) rfl (by decide) (by decide) tw_m0 (Nat.le_of_ble_eq_true rfl) (fun r8 h8 p8 => ?_)
    obtain ⟨rfl, rfl⟩ := p8
    refine ar_if_ne (k := 9) rfl (by omega) (fun c9 => ?_) (fun c9 => ?_)
    · refine ar_aloadn (k := 12) rfl rfl ?_
      refine br_getR (k := 13) rfl (hS.k (by decide)) flT_14_11 (by decide) rfl (hS.r rfl) ?_
      refine br_getR (k := 14) rfl (hS.k (by decide)) flT_123_10 (by decide) rfl (hS.r rfl) ?_
      refine ar_iloadn (k := 15) rfl rfl ?_
      refine br_iald (k := 16) rfl (hS.k (by decide)) (by omega) (by omega) (by decide) ?_
      refine tw_top (WN.ho hN (by omega) (by omega)) ?_
      refine ar_istoren (k := 17) (l2 := [(3, _), (0, _), (1, _), (2, _)]) rfl (by decide) rfl ?_
      refine ar_aloadn (k := 18) rfl rfl ?_
      refine br_getR (k := 19) rfl (hS.k (by decide)) flT_14_11 (by decide) rfl (hS.r rfl) ?_
      refine br_getR (k := 20) rfl (hS.k (by decide)) flT_123_10 (by decide) rfl (hS.r rfl) ?_
      refine ar_iloadn (k := 21) rfl rfl ?_
      refine ar_iloadn (k := 22) rfl rfl ?_
      refine br_iast (k := 23) rfl (hS.k (by decide)) (by omega) (by omega) (by decide) ?_
      refine ar_iloadn (k := 24) rfl rfl ?_
      refine ar_iret (k := 25) rfl rfl rfl (Nat.le_refl _) ?_
      have e : rs_give s t p = (s (84 + t), up s (84 + t) p) := by unfold rs_give; (repeat' split) <;> first | rfl | (exfalso; omega)
      rw [e]
      exact ⟨congrArg (fun z => some (vi z)) (by omega), _, rfl, hN.u_ho (by omega), wo.rf.u (by decide)⟩
    · refine ar_iconst (k := 10) rfl ?_
      refine ar_iret (k := 11) rfl rfl rfl (Nat.le_refl _) ?_
      have e : rs_give s t p = (-1, s) := by unfold rs_give; (repeat' split) <;> first | rfl | (exfalso; omega)
      rw [e]
      exact ⟨congrArg (fun z => some (vi z)) (by omega), _, rfl, hN, wo.rf⟩
theorem c_T_clear  (hS : tSt (K, I, Q, n)) (hN : WN 1 I s) (hR : RInv s)  : tw_M l G 1 0 0 mT_clear [vr (some 0)] (K, I, Q, n) (fun r h' => r = some (vi (rs_clear s ).1) ∧ ∃ J, h' = (K, J, Q, n) ∧ WN 1 J (rs_clear s ).2 ∧ wo I J) := by
  obtain ⟨h0, h1, h2, h3, h4, h5, h6, hp, hrw, ht, hr, hb, htp, hv⟩ := id hR
  refine tw_intro okT_clear (Nat.le_of_ble_eq_true rfl) ?_
  refine ar_aloadn (k := 0) rfl rfl ?_
  refine br_getR (k := 1) rfl (hS.k (by decide)) flT_14_11 (by decide) rfl (hS.r rfl) ?_
  refine br_getIz (k := 2) (z := 16) rfl (hS.k (by decide)) flT_221_10 (by decide) rfl rfl ?_
  refine tw_top (WN.rc hN) ?_
  refine ar_istoren (k := 3) (l2 := [(1, _), (0, _)]) rfl (by decide) rfl ?_
  refine ar_aloadn (k := 4) rfl rfl ?_
  refine br_getR (k := 5) rfl (hS.k (by decide)) flT_14_11 (by decide) rfl (hS.r rfl) ?_
  refine ar_iconst (k := 6) rfl ?_
  refine br_putIz (k := 7) (z := 16) rfl (hS.k (by decide)) flT_221_10 (by decide) rfl (fun _ _ _ q => by cases q; exact ⟨rfl, rfl⟩) rfl ?_
  refine ar_iloadn (k := 8) rfl rfl ?_
  refine ar_iret (k := 9) rfl rfl rfl (Nat.le_refl _) ?_
  have e : rs_clear s  = (s 3, up s 3 0) := by unfold rs_clear; (repeat' split) <;> first | rfl | (exfalso; omega)
  rw [e]
  exact ⟨congrArg (fun z => some (vi z)) (by omega), _, rfl, hN.u_cl, wo.rf.u (by decide)⟩
theorem c_T_book {u : Int} {t : Int} (hS : tSt (K, I, Q, n)) (hN : WN 1 I s) (hR : RInv s) (t_u : tr u) (t_t : tr t) : tw_M l G 2 0 0 mT_book [vr (some 0), vi u, vi t] (K, I, Q, n) (fun r h' => r = some (vi (rs_book s u t).1) ∧ ∃ J, h' = (K, J, Q, n) ∧ WN 1 J (rs_book s u t).2 ∧ wo I J) := by
  obtain ⟨h0, h1, h2, h3, h4, h5, h6, hp, hrw, ht, hr, hb, htp, hv⟩ := id hR
  refine tw_intro okT_book (Nat.le_of_ble_eq_true rfl) ?_
  refine ar_iloadn (k := 0) rfl rfl ?_
  refine ar_callS (k := 1) (as := [_]) rfl lsT_154 (c_T_isHour (by omega)) rfl (by decide) (by decide) tw_m0 (Nat.le_of_ble_eq_true rfl) (fun r1 h1 p1 => ?_)
  obtain ⟨rfl, rfl⟩ := p1
  refine ar_if_eq (k := 2) rfl (by omega) (fun c2 => ?_) (fun c2 => ?_)
  · refine ar_iconst (k := 8) rfl ?_
    refine ar_iret (k := 9) rfl rfl rfl (Nat.le_refl _) ?_
    have e : rs_book s u t = (-1, s) := by unfold rs_book; (repeat' split) <;> first | rfl | (exfalso; omega)
    rw [e]
    exact ⟨congrArg (fun z => some (vi z)) (by omega), _, rfl, hN, wo.rf⟩
  · refine ar_aloadn (k := 3) rfl rfl ?_
    refine br_getR (k := 4) rfl (hS.k (by decide)) flT_14_11 (by decide) rfl (hS.r rfl) ?_
    refine ar_iloadn (k := 5) rfl rfl ?_
    refine ar_callV (k := 6) (as := [_]) rfl lvT_107 (hS.k (by decide)) rfl (c_W_hasTool hS hN hR (by omega)) rfl (by decide) (by decide) tw_m0 (Nat.le_of_ble_eq_true rfl) (fun r6 h6 p6 => ?_)
    obtain ⟨rfl, rfl⟩ := p6
    refine ar_if_ne (k := 7) rfl (by omega) (fun c7 => ?_) (fun c7 => ?_)
    · refine ar_aloadn (k := 10) rfl rfl ?_
      refine br_getR (k := 11) rfl (hS.k (by decide)) flT_14_11 (by decide) rfl (hS.r rfl) ?_
      refine br_getIz (k := 12) (z := 19) rfl (hS.k (by decide)) flT_245_10 (by decide) rfl rfl ?_
      refine tw_top (WN.bc hN) ?_
      refine ar_bipush (k := 13) rfl (by decide) ?_
      refine ar_icmp_lt (k := 14) rfl (by omega) (by omega) (fun c14 => ?_) (fun c14 => ?_)
      · refine ar_aloadn (k := 17) rfl rfl ?_
        refine br_getR (k := 18) rfl (hS.k (by decide)) flT_14_11 (by decide) rfl (hS.r rfl) ?_
        refine br_getR (k := 19) rfl (hS.k (by decide)) flT_248_10 (by decide) rfl (hS.r rfl) ?_
        refine ar_aloadn (k := 20) rfl rfl ?_
        refine br_getR (k := 21) rfl (hS.k (by decide)) flT_14_11 (by decide) rfl (hS.r rfl) ?_
        refine br_getIz (k := 22) (z := 19) rfl (hS.k (by decide)) flT_245_10 (by decide) rfl rfl ?_
        refine tw_top (WN.bc hN) ?_
        refine ar_iloadn (k := 23) rfl rfl ?_
        refine br_iast (k := 24) rfl (hS.k (by decide)) (by omega) (by omega) (by decide) ?_
        have hN2 : WN 1 (uI I 12 (s 4) u) (up s (150 + s 4) u) := hN.u_bh (by omega)
        have q4 : up s (150 + s 4) u 4 = s 4 := up_ne _ _ (by omega)
        refine ar_aloadn (k := 25) rfl rfl ?_
        refine br_getR (k := 26) rfl (hS.k (by decide)) flT_14_11 (by decide) rfl (hS.r rfl) ?_
        refine br_getR (k := 27) rfl (hS.k (by decide)) flT_251_10 (by decide) rfl (hS.r rfl) ?_
        refine ar_aloadn (k := 28) rfl rfl ?_
        refine br_getR (k := 29) rfl (hS.k (by decide)) flT_14_11 (by decide) rfl (hS.r rfl) ?_
        refine br_getIz (k := 30) (z := 19) rfl (hS.k (by decide)) flT_245_10 (by decide) rfl rfl ?_
        refine tw_top (y := s 4) (by exact (WN.bc hN2).trans q4) ?_
        refine ar_iloadn (k := 31) rfl rfl ?_
        refine br_iast (k := 32) rfl (hS.k (by decide)) (by omega) (by omega) (by decide) ?_
        have hN3 : WN 1 (uI (uI I 12 (s 4) u) 13 (s 4) t) (up (up s (150 + s 4) u) (162 + s 4) t) := hN2.u_bo (by omega)
        have q5 : up (up s (150 + s 4) u) (162 + s 4) t 4 = s 4 := (up_ne _ _ (by omega)).trans q4
        refine ar_aloadn (k := 33) rfl rfl ?_
        refine br_getR (k := 34) rfl (hS.k (by decide)) flT_14_11 (by decide) rfl (hS.r rfl) ?_
        refine ar_dup (k := 35) rfl rfl ?_
        refine br_getIz (k := 36) (z := 19) rfl (hS.k (by decide)) flT_245_10 (by decide) rfl rfl ?_
        refine tw_top (y := s 4) (by exact (WN.bc hN3).trans q5) ?_
        refine ar_iconst (k := 37) rfl ?_
        refine ar_iadd (k := 38) rfl ?_
        refine br_putIz (k := 39) (z := 19) rfl (hS.k (by decide)) flT_245_10 (by decide) rfl (fun _ _ _ q => by cases q; exact ⟨rfl, rfl⟩) rfl ?_
        have hN4 : WN 1 (uI (uI (uI I 12 (s 4) u) 13 (s 4) t) 1 19 (s 4 + 1)) (up (up (up s (150 + s 4) u) (162 + s 4) t) 4 (s 4 + 1)) := by
          have z := hN3.u_bc (by omega) (by rw [q5, uI_off _ _ _ (by decide), uI_at, if_pos rfl, up_ne _ _ (by omega), up_at]) (by rw [q5, uI_at, if_pos rfl, up_at])
          rw [q5] at z
          exact z
        refine ar_aloadn (k := 40) rfl rfl ?_
        refine br_getR (k := 41) rfl (hS.k (by decide)) flT_14_11 (by decide) rfl (hS.r rfl) ?_
        refine br_getIz (k := 42) (z := 19) rfl (hS.k (by decide)) flT_245_10 (by decide) rfl rfl ?_
        refine tw_top (y := s 4 + 1) (by exact (WN.bc hN4).trans (up_at _ _ _)) ?_
        refine ar_iret (k := 43) rfl rfl rfl (Nat.le_refl _) ?_
        have e : rs_book s u t = (s 4 + 1, up (up (up s (150 + s 4) u) (162 + s 4) t) 4 (s 4 + 1)) := by unfold rs_book; (repeat' split) <;> first | rfl | (exfalso; omega)
        rw [e]
        exact ⟨congrArg (fun z => some (vi z)) (by omega), _, rfl, hN4, ((wo.rf.u (by decide)).u (by decide)).u (by decide)⟩
      · refine ar_bipush (k := 15) rfl (by decide) ?_
        refine ar_iret (k := 16) rfl rfl rfl (Nat.le_refl _) ?_
        have e : rs_book s u t = (-4, s) := by unfold rs_book; (repeat' split) <;> first | rfl | (exfalso; omega)
        rw [e]
        exact ⟨congrArg (fun z => some (vi z)) (by omega), _, rfl, hN, wo.rf⟩
    · refine ar_iconst (k := 8) rfl ?_
      refine ar_iret (k := 9) rfl rfl rfl (Nat.le_refl _) ?_
      have e : rs_book s u t = (-1, s) := by unfold rs_book; (repeat' split) <;> first | rfl | (exfalso; omega)
      rw [e]
      exact ⟨congrArg (fun z => some (vi z)) (by omega), _, rfl, hN, wo.rf⟩
/-- one bit cleared, or put -/
theorem ib_clr {x : Int} {t : Nat} (ht : t < 32) {j : Nat} (hj : j < 32) : ib (bAnd x (bXor (bShl 1 (t : Int)) (-1))) j = (ib x j && !decide (t = j)) := by
  rw [ib_and, ib_xor, ib_shl1 t ht j hj, (by decide +kernel : ∀ j, j < 32 → ib (-1) j = true) j hj]
  simp
theorem ib_put {x : Int} {t : Nat} (ht : t < 32) {j : Nat} (hj : j < 32) : ib (bOr x (bShl 1 (t : Int))) j = (ib x j || decide (t = j)) := by
  rw [ib_or, ib_shl1 t ht j hj]
theorem ib_new {x y z : Int} {t : Int} {m : Nat} (m1 : m ≤ 32) (t1 : 0 ≤ t ∧ t < m) (hz : z = if y = 1 then bOr (bAnd x (bXor (bShl 1 t) (-1))) (bShl 1 t) else bAnd x (bXor (bShl 1 t) (-1))) : ∀ j : Nat, j < m → ib z j = if j = t.toNat then decide (y = 1) else ib x j := by
  intro j hj
  obtain ⟨k, rfl⟩ : ∃ k : Nat, t = (k : Int) := ⟨t.toNat, by omega⟩
  rw [Int.toNat_natCast, hz]
  by_cases g : y = 1
  · rw [if_pos g, ib_put (by omega) (by omega), ib_clr (by omega) (by omega)]
    by_cases q : j = k
    · subst q; simp [g]
    · rw [if_neg q, decide_eq_false (fun z => q z.symm)]; simp
  · rw [if_neg g, ib_clr (by omega) (by omega)]
    by_cases q : j = k
    · subst q; simp [g]
    · rw [if_neg q, decide_eq_false (fun z => q z.symm)]; simp
theorem WN.bit {w : Nat} (h : WN w I s) {t : Int} (t1 : 0 ≤ t) (t2 : t < s 1) (b1 : s 1 ≤ 10) : bAnd (bShr (I w 11) t) 1 = if s (104 + t) = 1 then 1 else 0 := by
  obtain ⟨k, rfl⟩ : ∃ k : Nat, t = (k : Int) := ⟨t.toNat, by omega⟩
  rw [ib_bit _ (by omega)]
  have e := h.br t1 t2
  rw [Int.toNat_natCast] at e
  rw [e]
  simp
theorem WN.wbit {w : Nat} (h : WN w I s) {t : Int} (t1 : 0 ≤ t) (t2 : t < s 3) (b1 : s 3 ≤ 12) : bAnd (bShr (I w 15) t) 1 = if s (138 + t) = 1 then 1 else 0 := by
  obtain ⟨k, rfl⟩ : ∃ k : Nat, t = (k : Int) := ⟨t.toNat, by omega⟩
  rw [ib_bit _ (by omega)]
  have e := h.we t1 t2
  rw [Int.toNat_natCast] at e
  rw [e]
  simp
theorem c_T_broken {t : Int} {b : Int} (hS : tSt (K, I, Q, n)) (hN : WN 1 I s) (hR : RInv s) (t_t : tr t) (t_b : b = 0 ∨ b = 1) : tw_M l G 2 0 0 mT_broken [vr (some 0), vi t, vi b] (K, I, Q, n) (fun r h' => r = some (vi (rs_broken s t b).1) ∧ ∃ J, h' = (K, J, Q, n) ∧ WN 1 J (rs_broken s t b).2 ∧ wo I J) := by
  obtain ⟨h0, h1, h2, h3, h4, h5, h6, hp, hrw, ht, hr, hb, htp, hv⟩ := id hR
  refine tw_intro okT_broken (Nat.le_of_ble_eq_true rfl) ?_
  refine ar_aloadn (k := 0) rfl rfl ?_
  refine br_getR (k := 1) rfl (hS.k (by decide)) flT_14_11 (by decide) rfl (hS.r rfl) ?_
  refine ar_iloadn (k := 2) rfl rfl ?_
  refine ar_callV (k := 3) (as := [_]) rfl lvT_107 (hS.k (by decide)) rfl (c_W_hasTool hS hN hR (by omega)) rfl (by decide) (by decide) tw_m0 (Nat.le_of_ble_eq_true rfl) (fun r3 h3 p3 => ?_)
  obtain ⟨rfl, rfl⟩ := p3
  refine ar_if_ne (k := 4) rfl (by omega) (fun c4 => ?_) (fun c4 => ?_)
  · refine ar_aloadn (k := 7) rfl rfl ?_
    refine br_getR (k := 8) rfl (hS.k (by decide)) flT_14_11 (by decide) rfl (hS.r rfl) ?_
    refine br_getIz (k := 9) (z := 11) rfl (hS.k (by decide)) flT_120_10 (by decide) rfl rfl ?_
    refine ar_iloadn (k := 10) rfl rfl ?_
    refine ar_ishr (k := 11) rfl ?_
    refine ar_iconst (k := 12) rfl ?_
    refine ar_iand (k := 13) rfl ?_
    refine tw_top (y := s (104 + t)) (by rw [hN.bit (by omega) (by omega) (by omega)]; have := ht t (by omega) (by omega); split <;> omega) ?_
    refine ar_istoren (k := 14) (l2 := [(3, _), (0, _), (1, _), (2, _)]) rfl (by decide) rfl ?_
    refine ar_aloadn (k := 15) rfl rfl ?_
    refine br_getR (k := 16) rfl (hS.k (by decide)) flT_14_11 (by decide) rfl (hS.r rfl) ?_
    refine br_getIz (k := 17) (z := 11) rfl (hS.k (by decide)) flT_120_10 (by decide) rfl rfl ?_
    refine ar_iconst (k := 18) rfl ?_
    refine ar_iloadn (k := 19) rfl rfl ?_
    refine ar_ishl (k := 20) rfl ?_
    refine ar_iconst (k := 21) rfl ?_
    refine ar_ixor (k := 22) rfl ?_
    refine ar_iand (k := 23) rfl ?_
    refine ar_istore (k := 24) (l2 := [(4, _), (3, _), (0, _), (1, _), (2, _)]) rfl (by decide) rfl ?_
    refine ar_aloadn (k := 25) rfl rfl ?_
    refine br_getR (k := 26) rfl (hS.k (by decide)) flT_14_11 (by decide) rfl (hS.r rfl) ?_
    refine ar_iloadn (k := 27) rfl rfl ?_
    refine ar_if_eq (k := 28) rfl (by omega) (fun c28 => ?_) (fun c28 => ?_)
    · refine ar_iload (k := 35) rfl rfl ?_
      refine br_putIz (k := 36) (z := 11) rfl (hS.k (by decide)) flT_120_10 (by decide) rfl (fun _ _ _ q => by cases q; exact ⟨rfl, rfl⟩) rfl ?_
      refine ar_iloadn (k := 37) rfl rfl ?_
      refine ar_iret (k := 38) rfl rfl rfl (Nat.le_refl _) ?_
      have e : rs_broken s t b = (s (104 + t), up s (104 + t) (if b = 0 then 0 else 1)) := by unfold rs_broken; (repeat' split) <;> first | rfl | (exfalso; omega)
      rw [e]
      exact ⟨congrArg (fun z => some (vi z)) (by omega), _, rfl, hN.u_br (by omega) (ib_new (by decide) (by omega) (by rcases t_b with q | q <;> simp [q] <;> first | rfl | (exfalso; omega))), wo.rf.u (by decide)⟩
    · refine ar_iload (k := 29) rfl rfl ?_
      refine ar_iconst (k := 30) rfl ?_
      refine ar_iloadn (k := 31) rfl rfl ?_
      refine ar_ishl (k := 32) rfl ?_
      refine ar_ior (k := 33) rfl ?_
      refine ar_goto (k := 34) rfl ?_
      refine br_putIz (k := 36) (z := 11) rfl (hS.k (by decide)) flT_120_10 (by decide) rfl (fun _ _ _ q => by cases q; exact ⟨rfl, rfl⟩) rfl ?_
      refine ar_iloadn (k := 37) rfl rfl ?_
      refine ar_iret (k := 38) rfl rfl rfl (Nat.le_refl _) ?_
      have e : rs_broken s t b = (s (104 + t), up s (104 + t) (if b = 0 then 0 else 1)) := by unfold rs_broken; (repeat' split) <;> first | rfl | (exfalso; omega)
      rw [e]
      exact ⟨congrArg (fun z => some (vi z)) (by omega), _, rfl, hN.u_br (by omega) (ib_new (by decide) (by omega) (by rcases t_b with q | q <;> simp [q] <;> first | rfl | (exfalso; omega))), wo.rf.u (by decide)⟩
  · refine ar_iconst (k := 5) rfl ?_
    refine ar_iret (k := 6) rfl rfl rfl (Nat.le_refl _) ?_
    have e : rs_broken s t b = (-1, s) := by unfold rs_broken; (repeat' split) <;> first | rfl | (exfalso; omega)
    rw [e]
    exact ⟨congrArg (fun z => some (vi z)) (by omega), _, rfl, hN, wo.rf⟩
theorem c_W_addTool {a p : Int} (hS : tSt (K, I, Q, n)) (hN : WN 1 I s) (hR : RInv s) (h10 : s 1 < 10) : tw_F l G 1 0 0 mW_addTool [vr (some 1), vi a, vi p] (K, I, Q, n) none (K, uI (uI (uI (uI (uI I 7 (s 1) a) 8 (s 1) p) 9 (s 1) (-5)) 1 11 (bAnd (I 1 11) (bXor (bShl 1 (s 1)) (-1)))) 1 12 (s 1 + 1), Q, n) := by
  obtain ⟨h0, h1, h2, h3, h4, h5, h6, hp, hrw, ht, hr, hb, htp, hv⟩ := id hR
  have e12 : I 1 12 = s 1 := hN.tc
  refine tw_intro okW_addTool (Nat.le_of_ble_eq_true rfl) ?_
  refine ar_aloadn (k := 0) rfl rfl ?_
  refine br_getR (k := 1) rfl (hS.k (by decide)) flW_44_10 (by decide) rfl (hS.r rfl) ?_
  refine ar_aloadn (k := 2) rfl rfl ?_
  refine br_getIz (k := 3) (z := 12) rfl (hS.k (by decide)) flW_56_10 (by decide) rfl rfl ?_
  refine tw_top (y := s 1) (by first | exact e12 | (simp only [uI, up, Nat.reduceEqDiff, reduceIte, Int.reduceEq]; exact e12)) ?_
  refine ar_iloadn (k := 4) rfl rfl ?_
  refine br_iast (k := 5) rfl (hS.k (by decide)) (by omega) (by omega) (by decide) ?_
  refine ar_aloadn (k := 6) rfl rfl ?_
  refine br_getR (k := 7) rfl (hS.k (by decide)) flW_47_10 (by decide) rfl (hS.r rfl) ?_
  refine ar_aloadn (k := 8) rfl rfl ?_
  refine br_getIz (k := 9) (z := 12) rfl (hS.k (by decide)) flW_56_10 (by decide) rfl rfl ?_
  refine tw_top (y := s 1) (by first | exact e12 | (simp only [uI, up, Nat.reduceEqDiff, reduceIte, Int.reduceEq]; exact e12)) ?_
  refine ar_iloadn (k := 10) rfl rfl ?_
  refine br_iast (k := 11) rfl (hS.k (by decide)) (by omega) (by omega) (by decide) ?_
  refine ar_aloadn (k := 12) rfl rfl ?_
  refine br_getR (k := 13) rfl (hS.k (by decide)) flW_50_10 (by decide) rfl (hS.r rfl) ?_
  refine ar_aloadn (k := 14) rfl rfl ?_
  refine br_getIz (k := 15) (z := 12) rfl (hS.k (by decide)) flW_56_10 (by decide) rfl rfl ?_
  refine tw_top (y := s 1) (by first | exact e12 | (simp only [uI, up, Nat.reduceEqDiff, reduceIte, Int.reduceEq]; exact e12)) ?_
  refine ar_bipush (k := 16) rfl (by decide) ?_
  refine br_iast (k := 17) rfl (hS.k (by decide)) (by omega) (by omega) (by decide) ?_
  refine ar_aloadn (k := 18) rfl rfl ?_
  refine ar_dup (k := 19) rfl rfl ?_
  refine br_getIz (k := 20) (z := 11) rfl (hS.k (by decide)) flW_53_10 (by decide) rfl rfl ?_
  refine tw_top (y := I 1 11) (by first | rfl | simp only [uI, up, Nat.reduceEqDiff, reduceIte, Int.reduceEq]) ?_
  refine ar_iconst (k := 21) rfl ?_
  refine ar_aloadn (k := 22) rfl rfl ?_
  refine br_getIz (k := 23) (z := 12) rfl (hS.k (by decide)) flW_56_10 (by decide) rfl rfl ?_
  refine tw_top (y := s 1) (by first | exact e12 | (simp only [uI, up, Nat.reduceEqDiff, reduceIte, Int.reduceEq]; exact e12)) ?_
  refine ar_ishl (k := 24) rfl ?_
  refine ar_iconst (k := 25) rfl ?_
  refine ar_ixor (k := 26) rfl ?_
  refine ar_iand (k := 27) rfl ?_
  refine br_putIz (k := 28) (z := 11) rfl (hS.k (by decide)) flW_53_10 (by decide) rfl (fun _ _ _ q => by cases q; exact ⟨rfl, rfl⟩) rfl ?_
  refine ar_aloadn (k := 29) rfl rfl ?_
  refine ar_dup (k := 30) rfl rfl ?_
  refine br_getIz (k := 31) (z := 12) rfl (hS.k (by decide)) flW_56_10 (by decide) rfl rfl ?_
  refine tw_top (y := s 1) (by first | exact e12 | (simp only [uI, up, Nat.reduceEqDiff, reduceIte, Int.reduceEq]; exact e12)) ?_
  refine ar_iconst (k := 32) rfl ?_
  refine ar_iadd (k := 33) rfl ?_
  refine br_putIz (k := 34) (z := 12) rfl (hS.k (by decide)) flW_56_10 (by decide) rfl (fun _ _ _ q => by cases q; exact ⟨rfl, rfl⟩) rfl ?_
  refine ar_ret (k := 35) rfl rfl rfl (Nat.le_refl _) ?_
  exact ⟨rfl, rfl⟩
theorem c_T_tool {a : Int} {p : Int} (hS : tSt (K, I, Q, n)) (hN : WN 1 I s) (hR : RInv s) (t_a : tr a) (t_p : tr p) : tw_M l G 2 0 0 mT_tool [vr (some 0), vi a, vi p] (K, I, Q, n) (fun r h' => r = some (vi (rs_tool s a p).1) ∧ ∃ J, h' = (K, J, Q, n) ∧ WN 1 J (rs_tool s a p).2 ∧ wo I J) := by
  obtain ⟨h0, h1, h2, h3, h4, h5, h6, hp, hrw, ht, hr, hb, htp, hv⟩ := id hR
  refine tw_intro okT_tool (Nat.le_of_ble_eq_true rfl) ?_
  refine ar_aloadn (k := 0) rfl rfl ?_
  refine br_getR (k := 1) rfl (hS.k (by decide)) flT_14_11 (by decide) rfl (hS.r rfl) ?_
  refine ar_iloadn (k := 2) rfl rfl ?_
  refine ar_callV (k := 3) (as := [_]) rfl lvT_76 (hS.k (by decide)) rfl (c_W_hasPerson hS hN hR (by omega)) rfl (by decide) (by decide) tw_m0 (Nat.le_of_ble_eq_true rfl) (fun r3 h3 p3 => ?_)
  obtain ⟨rfl, rfl⟩ := p3
  refine ar_if_ne (k := 4) rfl (by omega) (fun c4 => ?_) (fun c4 => ?_)
  · refine ar_iloadn (k := 7) rfl rfl ?_
    refine ar_if_lt (k := 8) rfl (by omega) (fun c8 => ?_) (fun c8 => ?_)
    · refine ar_bipush (k := 12) rfl (by decide) ?_
      refine ar_iret (k := 13) rfl rfl rfl (Nat.le_refl _) ?_
      have e : rs_tool s a p = (-2, s) := by unfold rs_tool; (repeat' split) <;> first | rfl | (exfalso; omega)
      rw [e]
      exact ⟨congrArg (fun z => some (vi z)) (by omega), _, rfl, hN, wo.rf⟩
    · refine ar_iloadn (k := 9) rfl rfl ?_
      refine ar_iconst (k := 10) rfl ?_
      refine ar_icmp_lt (k := 11) rfl (by omega) (by omega) (fun c11 => ?_) (fun c11 => ?_)
      · refine ar_aloadn (k := 14) rfl rfl ?_
        refine br_getR (k := 15) rfl (hS.k (by decide)) flT_14_11 (by decide) rfl (hS.r rfl) ?_
        refine br_getIz (k := 16) (z := 12) rfl (hS.k (by decide)) flT_100_10 (by decide) rfl rfl ?_
        refine tw_top (WN.tc hN) ?_
        refine ar_bipush (k := 17) rfl (by decide) ?_
        refine ar_icmp_lt (k := 18) rfl (by omega) (by omega) (fun c18 => ?_) (fun c18 => ?_)
        · refine ar_aloadn (k := 21) rfl rfl ?_
          refine br_getR (k := 22) rfl (hS.k (by decide)) flT_14_11 (by decide) rfl (hS.r rfl) ?_
          refine ar_iloadn (k := 23) rfl rfl ?_
          refine ar_iloadn (k := 24) rfl rfl ?_
          refine ar_callV (k := 25) (as := [_, _]) rfl lvT_103 (hS.k (by decide)) rfl (c_W_addTool hS hN hR (by omega)) rfl (by decide) (by decide) tw_m0 (Nat.le_of_ble_eq_true rfl) (fun r25 h25 p25 => ?_)
          obtain ⟨rfl, rfl⟩ := p25
          have q1 : up (up (up (up s (74 + s 1) a) (84 + s 1) p) (94 + s 1) (-1)) (104 + s 1) 0 1 = s 1 := by rw [up_ne _ _ (by omega), up_ne _ _ (by omega), up_ne _ _ (by omega), up_ne _ _ (by omega)]
          have hN4 : WN 1 (uI (uI (uI (uI I 7 (s 1) a) 8 (s 1) p) 9 (s 1) (-5)) 1 11 (bAnd (I 1 11) (bXor (bShl 1 (s 1)) (-1)))) (up (up (up (up s (74 + s 1) a) (84 + s 1) p) (94 + s 1) (-1)) (104 + s 1) 0) := by
            refine WN.u_br (WN.u_tw (x := -1) (WN.u_ho (WN.u_so hN (by omega)) (by omega)) (by omega)) (by omega) ?_
            exact ib_new (by decide) (by omega) (by rw [if_neg (by decide)]; rfl)
          have hN5 : WN 1 (uI (uI (uI (uI (uI I 7 (s 1) a) 8 (s 1) p) 9 (s 1) (-5)) 1 11 (bAnd (I 1 11) (bXor (bShl 1 (s 1)) (-1)))) 1 12 (s 1 + 1)) (up (up (up (up (up s (74 + s 1) a) (84 + s 1) p) (94 + s 1) (-1)) (104 + s 1) 0) 1 (s 1 + 1)) := by
            have z := hN4.u_tc (by omega) (by rw [q1]; simp only [uI, up, Nat.reduceAdd, Nat.reduceEqDiff, reduceIte]; (repeat' split) <;> first | rfl | omega) (by rw [q1]; simp only [uI, up, Nat.reduceAdd, Nat.reduceEqDiff, reduceIte]; (repeat' split) <;> first | rfl | omega) (by rw [q1]; simp only [uI, up, Nat.reduceAdd, Nat.reduceEqDiff, reduceIte]; (repeat' split) <;> first | rfl | omega) (by
              rw [q1, up_at]
              have y := ib_new (x := I 1 11) (y := 0) (z := bAnd (I 1 11) (bXor (bShl 1 (s 1)) (-1))) (t := s 1) (m := 10) (by decide) (by omega) (by rw [if_neg (by decide)]) (s 1).toNat (by omega)
              rw [if_pos rfl] at y
              rw [uI_at, if_pos rfl]
              exact y)
            rw [q1] at z
            exact z
          refine ar_aloadn (k := 26) rfl rfl ?_
          refine br_getR (k := 27) rfl (hS.k (by decide)) flT_14_11 (by decide) rfl (hS.r rfl) ?_
          refine br_getIz (k := 28) (z := 12) rfl (hS.k (by decide)) flT_100_10 (by decide) rfl rfl ?_
          refine tw_top (y := s 1 + 1) (by exact (WN.tc hN5).trans (up_at _ _ _)) ?_
          refine ar_iconst (k := 29) rfl ?_
          refine ar_isub (k := 30) rfl ?_
          refine ar_iret (k := 31) rfl rfl rfl (Nat.le_refl _) ?_
          have e : rs_tool s a p = (s 1, up (up (up (up (up s (74 + s 1) a) (84 + s 1) p) (94 + s 1) (-1)) (104 + s 1) 0) 1 (s 1 + 1)) := by unfold rs_tool; (repeat' split) <;> first | rfl | (exfalso; omega)
          rw [e]
          exact ⟨congrArg (fun z => some (vi z)) (by omega), _, rfl, hN5, ((((wo.rf.u (by decide)).u (by decide)).u (by decide)).u (by decide)).u (by decide)⟩
        · refine ar_bipush (k := 19) rfl (by decide) ?_
          refine ar_iret (k := 20) rfl rfl rfl (Nat.le_refl _) ?_
          have e : rs_tool s a p = (-4, s) := by unfold rs_tool; (repeat' split) <;> first | rfl | (exfalso; omega)
          rw [e]
          exact ⟨congrArg (fun z => some (vi z)) (by omega), _, rfl, hN, wo.rf⟩
      · refine ar_bipush (k := 12) rfl (by decide) ?_
        refine ar_iret (k := 13) rfl rfl rfl (Nat.le_refl _) ?_
        have e : rs_tool s a p = (-2, s) := by unfold rs_tool; (repeat' split) <;> first | rfl | (exfalso; omega)
        rw [e]
        exact ⟨congrArg (fun z => some (vi z)) (by omega), _, rfl, hN, wo.rf⟩
  · refine ar_iconst (k := 5) rfl ?_
    refine ar_iret (k := 6) rfl rfl rfl (Nat.le_refl _) ?_
    have e : rs_tool s a p = (-1, s) := by unfold rs_tool; (repeat' split) <;> first | rfl | (exfalso; omega)
    rw [e]
    exact ⟨congrArg (fun z => some (vi z)) (by omega), _, rfl, hN, wo.rf⟩
theorem c_W_addTrial {a b x : Int} (hS : tSt (K, I, Q, n)) (hN : WN 1 I s) (hR : RInv s) (h10 : s 3 < 12) (tx : tr x) : tw_F l G 1 0 0 mW_addTrial [vr (some 1), vi a, vi b, vi x] (K, I, Q, n) none (K, uI (uI (uI (uI I 10 (s 3) a) 11 (s 3) b) 1 15 (if x = 0 then bAnd (I 1 15) (bXor (bShl 1 (s 3)) (-1)) else bOr (bAnd (I 1 15) (bXor (bShl 1 (s 3)) (-1))) (bShl 1 (s 3)))) 1 16 (s 3 + 1), Q, n) := by
  obtain ⟨h0, h1, h2, h3, h4, h5, h6, hp, hrw, ht, hr, hb, htp, hv⟩ := id hR
  have e12 : I 1 16 = s 3 := hN.rc
  refine tw_intro okW_addTrial (Nat.le_of_ble_eq_true rfl) ?_
  refine ar_aloadn (k := 0) rfl rfl ?_
  refine br_getR (k := 1) rfl (hS.k (by decide)) flW_59_10 (by decide) rfl (hS.r rfl) ?_
  refine ar_aloadn (k := 2) rfl rfl ?_
  refine br_getIz (k := 3) (z := 16) rfl (hS.k (by decide)) flW_68_10 (by decide) rfl rfl ?_
  refine tw_top (y := s 3) (by first | exact e12 | (simp only [uI, up, Nat.reduceEqDiff, reduceIte, Int.reduceEq]; exact e12)) ?_
  refine ar_iloadn (k := 4) rfl rfl ?_
  refine br_iast (k := 5) rfl (hS.k (by decide)) (by omega) (by omega) (by decide) ?_
  refine ar_aloadn (k := 6) rfl rfl ?_
  refine br_getR (k := 7) rfl (hS.k (by decide)) flW_62_10 (by decide) rfl (hS.r rfl) ?_
  refine ar_aloadn (k := 8) rfl rfl ?_
  refine br_getIz (k := 9) (z := 16) rfl (hS.k (by decide)) flW_68_10 (by decide) rfl rfl ?_
  refine tw_top (y := s 3) (by first | exact e12 | (simp only [uI, up, Nat.reduceEqDiff, reduceIte, Int.reduceEq]; exact e12)) ?_
  refine ar_iloadn (k := 10) rfl rfl ?_
  refine br_iast (k := 11) rfl (hS.k (by decide)) (by omega) (by omega) (by decide) ?_
  refine ar_aloadn (k := 12) rfl rfl ?_
  refine br_getIz (k := 13) (z := 15) rfl (hS.k (by decide)) flW_65_10 (by decide) rfl rfl ?_
  refine tw_top (y := I 1 15) (by first | rfl | simp only [uI, up, Nat.reduceEqDiff, reduceIte, Int.reduceEq]) ?_
  refine ar_iconst (k := 14) rfl ?_
  refine ar_aloadn (k := 15) rfl rfl ?_
  refine br_getIz (k := 16) (z := 16) rfl (hS.k (by decide)) flW_68_10 (by decide) rfl rfl ?_
  refine tw_top (y := s 3) (by first | exact e12 | (simp only [uI, up, Nat.reduceEqDiff, reduceIte, Int.reduceEq]; exact e12)) ?_
  refine ar_ishl (k := 17) rfl ?_
  refine ar_iconst (k := 18) rfl ?_
  refine ar_ixor (k := 19) rfl ?_
  refine ar_iand (k := 20) rfl ?_
  refine ar_istore (k := 21) (l2 := [(4, _), (0, _), (1, _), (2, _), (3, _)]) rfl (by decide) rfl ?_
  refine ar_aloadn (k := 22) rfl rfl ?_
  refine ar_iloadn (k := 23) rfl rfl ?_
  refine ar_if_eq (k := 24) rfl (by omega) (fun c24 => ?_) (fun c24 => ?_)
  · refine ar_iload (k := 32) rfl rfl ?_
    refine tw_top (y := if x = 0 then bAnd (I 1 15) (bXor (bShl 1 (s 3)) (-1)) else bOr (bAnd (I 1 15) (bXor (bShl 1 (s 3)) (-1))) (bShl 1 (s 3))) (by first | rw [if_pos (by omega)] | rw [if_neg (by omega)]) ?_
    refine br_putIz (k := 33) (z := 15) rfl (hS.k (by decide)) flW_65_10 (by decide) rfl (fun _ _ _ q => by cases q; exact ⟨rfl, rfl⟩) rfl ?_
    refine ar_aloadn (k := 34) rfl rfl ?_
    refine ar_dup (k := 35) rfl rfl ?_
    refine br_getIz (k := 36) (z := 16) rfl (hS.k (by decide)) flW_68_10 (by decide) rfl rfl ?_
    refine tw_top (y := s 3) (by first | exact e12 | (simp only [uI, up, Nat.reduceEqDiff, reduceIte, Int.reduceEq]; exact e12)) ?_
    refine ar_iconst (k := 37) rfl ?_
    refine ar_iadd (k := 38) rfl ?_
    refine br_putIz (k := 39) (z := 16) rfl (hS.k (by decide)) flW_68_10 (by decide) rfl (fun _ _ _ q => by cases q; exact ⟨rfl, rfl⟩) rfl ?_
    refine ar_ret (k := 40) rfl rfl rfl (Nat.le_refl _) ?_
    exact ⟨rfl, rfl⟩
  · refine ar_iload (k := 25) rfl rfl ?_
    refine ar_iconst (k := 26) rfl ?_
    refine ar_aloadn (k := 27) rfl rfl ?_
    refine br_getIz (k := 28) (z := 16) rfl (hS.k (by decide)) flW_68_10 (by decide) rfl rfl ?_
    refine tw_top (y := s 3) (by first | exact e12 | (simp only [uI, up, Nat.reduceEqDiff, reduceIte, Int.reduceEq]; exact e12)) ?_
    refine ar_ishl (k := 29) rfl ?_
    refine ar_ior (k := 30) rfl ?_
    refine ar_goto (k := 31) rfl ?_
    refine tw_top (y := if x = 0 then bAnd (I 1 15) (bXor (bShl 1 (s 3)) (-1)) else bOr (bAnd (I 1 15) (bXor (bShl 1 (s 3)) (-1))) (bShl 1 (s 3))) (by first | rw [if_pos (by omega)] | rw [if_neg (by omega)]) ?_
    refine br_putIz (k := 33) (z := 15) rfl (hS.k (by decide)) flW_65_10 (by decide) rfl (fun _ _ _ q => by cases q; exact ⟨rfl, rfl⟩) rfl ?_
    refine ar_aloadn (k := 34) rfl rfl ?_
    refine ar_dup (k := 35) rfl rfl ?_
    refine br_getIz (k := 36) (z := 16) rfl (hS.k (by decide)) flW_68_10 (by decide) rfl rfl ?_
    refine tw_top (y := s 3) (by first | exact e12 | (simp only [uI, up, Nat.reduceEqDiff, reduceIte, Int.reduceEq]; exact e12)) ?_
    refine ar_iconst (k := 37) rfl ?_
    refine ar_iadd (k := 38) rfl ?_
    refine br_putIz (k := 39) (z := 16) rfl (hS.k (by decide)) flW_68_10 (by decide) rfl (fun _ _ _ q => by cases q; exact ⟨rfl, rfl⟩) rfl ?_
    refine ar_ret (k := 40) rfl rfl rfl (Nat.le_refl _) ?_
    exact ⟨rfl, rfl⟩
theorem c_T_trial {a : Int} {b : Int} {x : Int} (hS : tSt (K, I, Q, n)) (hN : WN 1 I s) (hR : RInv s) (t_a : tr a) (t_b : tr b) (t_x : x = 0 ∨ x = 1) : tw_M l G 2 0 0 mT_trial [vr (some 0), vi a, vi b, vi x] (K, I, Q, n) (fun r h' => r = some (vi (rs_trial s a b x).1) ∧ ∃ J, h' = (K, J, Q, n) ∧ WN 1 J (rs_trial s a b x).2 ∧ wo I J) := by
  obtain ⟨h0, h1, h2, h3, h4, h5, h6, hp, hrw, ht, hr, hb, htp, hv⟩ := id hR
  refine tw_intro okT_trial (Nat.le_of_ble_eq_true rfl) ?_
  refine ar_aloadn (k := 0) rfl rfl ?_
  refine br_getR (k := 1) rfl (hS.k (by decide)) flT_14_11 (by decide) rfl (hS.r rfl) ?_
  refine ar_iloadn (k := 2) rfl rfl ?_
  refine ar_callV (k := 3) (as := [_]) rfl lvT_107 (hS.k (by decide)) rfl (c_W_hasTool hS hN hR (by omega)) rfl (by decide) (by decide) tw_m0 (Nat.le_of_ble_eq_true rfl) (fun r3 h3 p3 => ?_)
  obtain ⟨rfl, rfl⟩ := p3
  refine ar_if_eq (k := 4) rfl (by omega) (fun c4 => ?_) (fun c4 => ?_)
  · refine ar_iconst (k := 10) rfl ?_
    refine ar_iret (k := 11) rfl rfl rfl (Nat.le_refl _) ?_
    have e : rs_trial s a b x = (-1, s) := by unfold rs_trial; (repeat' split) <;> first | rfl | (exfalso; omega)
    rw [e]
    exact ⟨congrArg (fun z => some (vi z)) (by omega), _, rfl, hN, wo.rf⟩
  · refine ar_aloadn (k := 5) rfl rfl ?_
    refine br_getR (k := 6) rfl (hS.k (by decide)) flT_14_11 (by decide) rfl (hS.r rfl) ?_
    refine ar_iloadn (k := 7) rfl rfl ?_
    refine ar_callV (k := 8) (as := [_]) rfl lvT_107 (hS.k (by decide)) rfl (c_W_hasTool hS hN hR (by omega)) rfl (by decide) (by decide) tw_m0 (Nat.le_of_ble_eq_true rfl) (fun r8 h8 p8 => ?_)
    obtain ⟨rfl, rfl⟩ := p8
    refine ar_if_ne (k := 9) rfl (by omega) (fun c9 => ?_) (fun c9 => ?_)
    · refine ar_iloadn (k := 12) rfl rfl ?_
      refine ar_iloadn (k := 13) rfl rfl ?_
      refine ar_icmp_ne (k := 14) rfl (by omega) (by omega) (fun c14 => ?_) (fun c14 => ?_)
      · refine ar_aloadn (k := 17) rfl rfl ?_
        refine br_getR (k := 18) rfl (hS.k (by decide)) flT_14_11 (by decide) rfl (hS.r rfl) ?_
        refine br_getIz (k := 19) (z := 16) rfl (hS.k (by decide)) flT_221_10 (by decide) rfl rfl ?_
        refine tw_top (WN.rc hN) ?_
        refine ar_bipush (k := 20) rfl (by decide) ?_
        refine ar_icmp_lt (k := 21) rfl (by omega) (by omega) (fun c21 => ?_) (fun c21 => ?_)
        · refine ar_aloadn (k := 24) rfl rfl ?_
          refine br_getR (k := 25) rfl (hS.k (by decide)) flT_14_11 (by decide) rfl (hS.r rfl) ?_
          refine ar_iloadn (k := 26) rfl rfl ?_
          refine ar_iloadn (k := 27) rfl rfl ?_
          refine ar_iloadn (k := 28) rfl rfl ?_
          refine ar_callV (k := 29) (as := [_, _, _]) rfl lvT_224 (hS.k (by decide)) rfl (c_W_addTrial hS hN hR (by omega) (by omega)) rfl (by decide) (by decide) tw_m0 (Nat.le_of_ble_eq_true rfl) (fun r29 h29 p29 => ?_)
          obtain ⟨rfl, rfl⟩ := p29
          have q1 : up (up (up s (114 + s 3) a) (126 + s 3) b) (138 + s 3) (if x = 0 then 0 else 1) 3 = s 3 := by rw [up_ne _ _ (by omega), up_ne _ _ (by omega), up_ne _ _ (by omega)]
          have hz := ib_new (x := I 1 15) (y := if x = 0 then 0 else 1) (z := if x = 0 then bAnd (I 1 15) (bXor (bShl 1 (s 3)) (-1)) else bOr (bAnd (I 1 15) (bXor (bShl 1 (s 3)) (-1))) (bShl 1 (s 3))) (t := s 3) (m := 12) (by decide) (by omega) (by rcases t_x with q | q <;> simp [q])
          have hN4 := WN.u_we (WN.u_t2 (x := b) (WN.u_t1 (x := a) hN (r0 := s 3) (by omega)) (r0 := s 3) (by omega)) (r0 := s 3) (x := if x = 0 then 0 else 1) (by omega) hz
          have hN5 : WN 1 (uI (uI (uI (uI I 10 (s 3) a) 11 (s 3) b) 1 15 (if x = 0 then bAnd (I 1 15) (bXor (bShl 1 (s 3)) (-1)) else bOr (bAnd (I 1 15) (bXor (bShl 1 (s 3)) (-1))) (bShl 1 (s 3)))) 1 16 (s 3 + 1)) (up (up (up (up s (114 + s 3) a) (126 + s 3) b) (138 + s 3) (if x = 0 then 0 else 1)) 3 (s 3 + 1)) := by
            have z := hN4.u_rc (by omega) (by rw [q1]; simp only [uI, up, Nat.reduceAdd, Nat.reduceEqDiff, reduceIte]; (repeat' split) <;> first | rfl | omega) (by rw [q1]; simp only [uI, up, Nat.reduceAdd, Nat.reduceEqDiff, reduceIte]; (repeat' split) <;> first | rfl | omega) (by
              rw [q1, up_at]
              have y := hz (s 3).toNat (by omega)
              rw [if_pos rfl] at y
              rw [uI_at, if_pos rfl]
              exact y)
            rw [q1] at z
            exact z
          refine ar_aloadn (k := 30) rfl rfl ?_
          refine br_getR (k := 31) rfl (hS.k (by decide)) flT_14_11 (by decide) rfl (hS.r rfl) ?_
          refine br_getIz (k := 32) (z := 16) rfl (hS.k (by decide)) flT_221_10 (by decide) rfl rfl ?_
          refine tw_top (y := s 3 + 1) (by exact (WN.rc hN5).trans (up_at _ _ _)) ?_
          refine ar_iret (k := 33) rfl rfl rfl (Nat.le_refl _) ?_
          have e : rs_trial s a b x = (s 3 + 1, up (up (up (up s (114 + s 3) a) (126 + s 3) b) (138 + s 3) (if x = 0 then 0 else 1)) 3 (s 3 + 1)) := by unfold rs_trial; (repeat' split) <;> first | rfl | (exfalso; omega)
          rw [e]
          exact ⟨congrArg (fun z => some (vi z)) (by omega), _, rfl, hN5, (((wo.rf.u (by decide)).u (by decide)).u (by decide)).u (by decide)⟩
        · refine ar_bipush (k := 22) rfl (by decide) ?_
          refine ar_iret (k := 23) rfl rfl rfl (Nat.le_refl _) ?_
          have e : rs_trial s a b x = (-4, s) := by unfold rs_trial; (repeat' split) <;> first | rfl | (exfalso; omega)
          rw [e]
          exact ⟨congrArg (fun z => some (vi z)) (by omega), _, rfl, hN, wo.rf⟩
      · refine ar_bipush (k := 15) rfl (by decide) ?_
        refine ar_iret (k := 16) rfl rfl rfl (Nat.le_refl _) ?_
        have e : rs_trial s a b x = (-2, s) := by unfold rs_trial; (repeat' split) <;> first | rfl | (exfalso; omega)
        rw [e]
        exact ⟨congrArg (fun z => some (vi z)) (by omega), _, rfl, hN, wo.rf⟩
    · refine ar_iconst (k := 10) rfl ?_
      refine ar_iret (k := 11) rfl rfl rfl (Nat.le_refl _) ?_
      have e : rs_trial s a b x = (-1, s) := by unfold rs_trial; (repeat' split) <;> first | rfl | (exfalso; omega)
      rw [e]
      exact ⟨congrArg (fun z => some (vi z)) (by omega), _, rfl, hN, wo.rf⟩
theorem c_W_part1 {t : Int} (hS : tSt (K, I, Q, n)) (hN : WN 1 I s) (t1 : 0 ≤ t ∧ t < s 1) (s1 : s 1 ≤ 10) (t2 : s (94 + t) = -1 ∨ (0 ≤ s (94 + t) ∧ s (94 + t) < s 1)) : tw_M l G 1 0 0 mW_part [vr (some 1), vi t] (K, I, Q, n) (fun r h' => r = none ∧ ∃ J, h' = (K, J, Q, n) ∧ WN 1 J (rPart s t) ∧ ∀ b, b ≠ 9 → J b = I b) := by
  refine tw_intro okW_part (Nat.le_of_ble_eq_true rfl) ?_
  refine ar_aloadn (k := 0) rfl rfl ?_
  refine br_getR (k := 1) rfl (hS.k (by decide)) flW_50_10 (by decide) rfl (hS.r rfl) ?_
  refine ar_iloadn (k := 2) rfl rfl ?_
  refine br_iald (k := 3) rfl (hS.k (by decide)) (by omega) (by omega) (by decide) ?_
  refine tw_top (WN.tw hN (by omega) (by omega)) ?_
  refine ar_if_lt (k := 4) rfl (by omega) (fun c4 => ?_) (fun c4 => ?_)
  · refine ar_aloadn (k := 13) rfl rfl ?_
    refine br_getR (k := 14) rfl (hS.k (by decide)) flW_50_10 (by decide) rfl (hS.r rfl) ?_
    refine ar_iloadn (k := 15) rfl rfl ?_
    refine ar_bipush (k := 16) rfl (by decide) ?_
    refine br_iast (k := 17) rfl (hS.k (by decide)) (by omega) (by omega) (by decide) ?_
    refine ar_ret (k := 18) rfl rfl rfl (Nat.le_refl _) ?_
    first
      | (refine ⟨rfl, _, rfl, ?_, fun b hb => by rw [uI_off _ _ _ hb, uI_off _ _ _ hb]⟩
         have e : rPart s t = up (up s (94 + s (94 + t)) (-1)) (94 + t) (-1) := by unfold rPart; rw [if_pos (by omega)]
         rw [e]
         exact WN.u_tw (x := -1) (WN.u_tw (x := -1) hN (by omega)) (by omega))
      | (refine ⟨rfl, _, rfl, ?_, fun b hb => by rw [uI_off _ _ _ hb]⟩
         have e : rPart s t = up s (94 + t) (-1) := by
           unfold rPart
           have e2 : s (94 + t) = -1 := by omega
           rw [if_neg (by omega), ← e2, up_id]
         rw [e]
         exact WN.u_tw (x := -1) hN (by omega))
  · refine ar_aloadn (k := 5) rfl rfl ?_
    refine br_getR (k := 6) rfl (hS.k (by decide)) flW_50_10 (by decide) rfl (hS.r rfl) ?_
    refine ar_aloadn (k := 7) rfl rfl ?_
    refine br_getR (k := 8) rfl (hS.k (by decide)) flW_50_10 (by decide) rfl (hS.r rfl) ?_
    refine ar_iloadn (k := 9) rfl rfl ?_
    refine br_iald (k := 10) rfl (hS.k (by decide)) (by omega) (by omega) (by decide) ?_
    refine tw_top (y := s (94 + t)) (by rw [show I 9 t = _ from WN.tw hN (by omega) (by omega)]; split <;> omega) ?_
    refine ar_bipush (k := 11) rfl (by decide) ?_
    refine br_iast (k := 12) rfl (hS.k (by decide)) (by omega) (by omega) (by decide) ?_
    refine ar_aloadn (k := 13) rfl rfl ?_
    refine br_getR (k := 14) rfl (hS.k (by decide)) flW_50_10 (by decide) rfl (hS.r rfl) ?_
    refine ar_iloadn (k := 15) rfl rfl ?_
    refine ar_bipush (k := 16) rfl (by decide) ?_
    refine br_iast (k := 17) rfl (hS.k (by decide)) (by omega) (by omega) (by decide) ?_
    refine ar_ret (k := 18) rfl rfl rfl (Nat.le_refl _) ?_
    first
      | (refine ⟨rfl, _, rfl, ?_, fun b hb => by rw [uI_off _ _ _ hb, uI_off _ _ _ hb]⟩
         have e : rPart s t = up (up s (94 + s (94 + t)) (-1)) (94 + t) (-1) := by unfold rPart; rw [if_pos (by omega)]
         rw [e]
         exact WN.u_tw (x := -1) (WN.u_tw (x := -1) hN (by omega)) (by omega))
      | (refine ⟨rfl, _, rfl, ?_, fun b hb => by rw [uI_off _ _ _ hb]⟩
         have e : rPart s t = up s (94 + t) (-1) := by
           unfold rPart
           have e2 : s (94 + t) = -1 := by omega
           rw [if_neg (by omega), ← e2, up_id]
         rw [e]
         exact WN.u_tw (x := -1) hN (by omega))
theorem c_W_pairUp1 {a b : Int} (hS : tSt (K, I, Q, n)) (a1 : 0 ≤ a ∧ a < 10) (b1 : 0 ≤ b ∧ b < 10) : tw_F l G 1 0 0 mW_pairUp [vr (some 1), vi a, vi b] (K, I, Q, n) none (K, uI (uI I 9 a b) 9 b a, Q, n) := by
  refine tw_intro okW_pairUp (Nat.le_of_ble_eq_true rfl) ?_
  refine ar_aloadn (k := 0) rfl rfl ?_
  refine br_getR (k := 1) rfl (hS.k (by decide)) flW_50_10 (by decide) rfl (hS.r rfl) ?_
  refine ar_iloadn (k := 2) rfl rfl ?_
  refine ar_iloadn (k := 3) rfl rfl ?_
  refine br_iast (k := 4) rfl (hS.k (by decide)) (by omega) (by omega) (by decide) ?_
  refine ar_aloadn (k := 5) rfl rfl ?_
  refine br_getR (k := 6) rfl (hS.k (by decide)) flW_50_10 (by decide) rfl (hS.r rfl) ?_
  refine ar_iloadn (k := 7) rfl rfl ?_
  refine ar_iloadn (k := 8) rfl rfl ?_
  refine br_iast (k := 9) rfl (hS.k (by decide)) (by omega) (by omega) (by decide) ?_
  refine ar_ret (k := 10) rfl rfl rfl (Nat.le_refl _) ?_
  exact ⟨rfl, rfl⟩
theorem c_W_part27 {t : Int} (hS : tSt (K, I, Q, n)) (hN : WN 27 I s) (t1 : 0 ≤ t ∧ t < s 1) (s1 : s 1 ≤ 10) (t2 : s (94 + t) = -1 ∨ (0 ≤ s (94 + t) ∧ s (94 + t) < s 1)) : tw_M l G 1 0 0 mW_part [vr (some 27), vi t] (K, I, Q, n) (fun r h' => r = none ∧ ∃ J, h' = (K, J, Q, n) ∧ WN 27 J (rPart s t) ∧ ∀ b, b ≠ 35 → J b = I b) := by
  refine tw_intro okW_part (Nat.le_of_ble_eq_true rfl) ?_
  refine ar_aloadn (k := 0) rfl rfl ?_
  refine br_getR (k := 1) rfl (hS.k (by decide)) flW_50_10 (by decide) rfl (hS.r rfl) ?_
  refine ar_iloadn (k := 2) rfl rfl ?_
  refine br_iald (k := 3) rfl (hS.k (by decide)) (by omega) (by omega) (by decide) ?_
  refine tw_top (WN.tw hN (by omega) (by omega)) ?_
  refine ar_if_lt (k := 4) rfl (by omega) (fun c4 => ?_) (fun c4 => ?_)
  · refine ar_aloadn (k := 13) rfl rfl ?_
    refine br_getR (k := 14) rfl (hS.k (by decide)) flW_50_10 (by decide) rfl (hS.r rfl) ?_
    refine ar_iloadn (k := 15) rfl rfl ?_
    refine ar_bipush (k := 16) rfl (by decide) ?_
    refine br_iast (k := 17) rfl (hS.k (by decide)) (by omega) (by omega) (by decide) ?_
    refine ar_ret (k := 18) rfl rfl rfl (Nat.le_refl _) ?_
    first
      | (refine ⟨rfl, _, rfl, ?_, fun b hb => by rw [uI_off _ _ _ hb, uI_off _ _ _ hb]⟩
         have e : rPart s t = up (up s (94 + s (94 + t)) (-1)) (94 + t) (-1) := by unfold rPart; rw [if_pos (by omega)]
         rw [e]
         exact WN.u_tw (x := -1) (WN.u_tw (x := -1) hN (by omega)) (by omega))
      | (refine ⟨rfl, _, rfl, ?_, fun b hb => by rw [uI_off _ _ _ hb]⟩
         have e : rPart s t = up s (94 + t) (-1) := by
           unfold rPart
           have e2 : s (94 + t) = -1 := by omega
           rw [if_neg (by omega), ← e2, up_id]
         rw [e]
         exact WN.u_tw (x := -1) hN (by omega))
  · refine ar_aloadn (k := 5) rfl rfl ?_
    refine br_getR (k := 6) rfl (hS.k (by decide)) flW_50_10 (by decide) rfl (hS.r rfl) ?_
    refine ar_aloadn (k := 7) rfl rfl ?_
    refine br_getR (k := 8) rfl (hS.k (by decide)) flW_50_10 (by decide) rfl (hS.r rfl) ?_
    refine ar_iloadn (k := 9) rfl rfl ?_
    refine br_iald (k := 10) rfl (hS.k (by decide)) (by omega) (by omega) (by decide) ?_
    refine tw_top (y := s (94 + t)) (by rw [show I 35 t = _ from WN.tw hN (by omega) (by omega)]; split <;> omega) ?_
    refine ar_bipush (k := 11) rfl (by decide) ?_
    refine br_iast (k := 12) rfl (hS.k (by decide)) (by omega) (by omega) (by decide) ?_
    refine ar_aloadn (k := 13) rfl rfl ?_
    refine br_getR (k := 14) rfl (hS.k (by decide)) flW_50_10 (by decide) rfl (hS.r rfl) ?_
    refine ar_iloadn (k := 15) rfl rfl ?_
    refine ar_bipush (k := 16) rfl (by decide) ?_
    refine br_iast (k := 17) rfl (hS.k (by decide)) (by omega) (by omega) (by decide) ?_
    refine ar_ret (k := 18) rfl rfl rfl (Nat.le_refl _) ?_
    first
      | (refine ⟨rfl, _, rfl, ?_, fun b hb => by rw [uI_off _ _ _ hb, uI_off _ _ _ hb]⟩
         have e : rPart s t = up (up s (94 + s (94 + t)) (-1)) (94 + t) (-1) := by unfold rPart; rw [if_pos (by omega)]
         rw [e]
         exact WN.u_tw (x := -1) (WN.u_tw (x := -1) hN (by omega)) (by omega))
      | (refine ⟨rfl, _, rfl, ?_, fun b hb => by rw [uI_off _ _ _ hb]⟩
         have e : rPart s t = up s (94 + t) (-1) := by
           unfold rPart
           have e2 : s (94 + t) = -1 := by omega
           rw [if_neg (by omega), ← e2, up_id]
         rw [e]
         exact WN.u_tw (x := -1) hN (by omega))
theorem c_W_pairUp27 {a b : Int} (hS : tSt (K, I, Q, n)) (a1 : 0 ≤ a ∧ a < 10) (b1 : 0 ≤ b ∧ b < 10) : tw_F l G 1 0 0 mW_pairUp [vr (some 27), vi a, vi b] (K, I, Q, n) none (K, uI (uI I 35 a b) 35 b a, Q, n) := by
  refine tw_intro okW_pairUp (Nat.le_of_ble_eq_true rfl) ?_
  refine ar_aloadn (k := 0) rfl rfl ?_
  refine br_getR (k := 1) rfl (hS.k (by decide)) flW_50_10 (by decide) rfl (hS.r rfl) ?_
  refine ar_iloadn (k := 2) rfl rfl ?_
  refine ar_iloadn (k := 3) rfl rfl ?_
  refine br_iast (k := 4) rfl (hS.k (by decide)) (by omega) (by omega) (by decide) ?_
  refine ar_aloadn (k := 5) rfl rfl ?_
  refine br_getR (k := 6) rfl (hS.k (by decide)) flW_50_10 (by decide) rfl (hS.r rfl) ?_
  refine ar_iloadn (k := 7) rfl rfl ?_
  refine ar_iloadn (k := 8) rfl rfl ?_
  refine br_iast (k := 9) rfl (hS.k (by decide)) (by omega) (by omega) (by decide) ?_
  refine ar_ret (k := 10) rfl rfl rfl (Nat.le_refl _) ?_
  exact ⟨rfl, rfl⟩
theorem rPart_s1 {a : Int} (hR : RInv s) (a1 : 0 ≤ a ∧ a < s 1) : rPart s a 1 = s 1 := rPart_ne hR a1 (by omega)
theorem rPart_tw {a b : Int} (hR : RInv s) (a1 : 0 ≤ a ∧ a < s 1) (b1 : 0 ≤ b ∧ b < s 1) : rPart s a (94 + b) = -1 ∨ (0 ≤ rPart s a (94 + b) ∧ rPart s a (94 + b) < s 1) := by
  have h := (RInv_part a1 hR).2.2.2.2.2.2.2.2.2.1 b b1.1 (by rw [rPart_s1 hR a1]; exact b1.2)
  have h2 := h.2.2.1
  rw [rPart_s1 hR a1] at h2
  omega
theorem wo.k {I J L : Nat → Int → Int} {a : Nat} (h : wo I J) (ha : 1 ≤ a ∧ a ≤ 13) (g : ∀ b, b ≠ a → L b = J b) : wo I L := fun b hb => (g b (by omega)).trans (h b hb)
theorem c_T_twin {a : Int} {b : Int} (hS : tSt (K, I, Q, n)) (hN : WN 1 I s) (hR : RInv s) (t_a : tr a) (t_b : tr b) : tw_M l G 2 0 0 mT_twin [vr (some 0), vi a, vi b] (K, I, Q, n) (fun r h' => r = some (vi (rs_twin s a b).1) ∧ ∃ J, h' = (K, J, Q, n) ∧ WN 1 J (rs_twin s a b).2 ∧ wo I J) := by
  obtain ⟨h0, h1, h2, h3, h4, h5, h6, hp, hrw, ht, hr, hb, htp, hv⟩ := id hR
  refine tw_intro okT_twin (Nat.le_of_ble_eq_true rfl) ?_
  refine ar_aloadn (k := 0) rfl rfl ?_
  refine br_getR (k := 1) rfl (hS.k (by decide)) flT_14_11 (by decide) rfl (hS.r rfl) ?_
  refine ar_iloadn (k := 2) rfl rfl ?_
  refine ar_callV (k := 3) (as := [_]) rfl lvT_107 (hS.k (by decide)) rfl (c_W_hasTool hS hN hR (by omega)) rfl (by decide) (by decide) tw_m0 (Nat.le_of_ble_eq_true rfl) (fun r3 h3 p3 => ?_)
  obtain ⟨rfl, rfl⟩ := p3
  refine ar_if_eq (k := 4) rfl (by omega) (fun c4 => ?_) (fun c4 => ?_)
  · refine ar_iconst (k := 10) rfl ?_
    refine ar_iret (k := 11) rfl rfl rfl (Nat.le_refl _) ?_
    have e : rs_twin s a b = (-1, s) := by unfold rs_twin; (repeat' split) <;> first | rfl | (exfalso; omega)
    rw [e]
    exact ⟨congrArg (fun z => some (vi z)) (by omega), _, rfl, hN, wo.rf⟩
  · refine ar_aloadn (k := 5) rfl rfl ?_
    refine br_getR (k := 6) rfl (hS.k (by decide)) flT_14_11 (by decide) rfl (hS.r rfl) ?_
    refine ar_iloadn (k := 7) rfl rfl ?_
    refine ar_callV (k := 8) (as := [_]) rfl lvT_107 (hS.k (by decide)) rfl (c_W_hasTool hS hN hR (by omega)) rfl (by decide) (by decide) tw_m0 (Nat.le_of_ble_eq_true rfl) (fun r8 h8 p8 => ?_)
    obtain ⟨rfl, rfl⟩ := p8
    refine ar_if_ne (k := 9) rfl (by omega) (fun c9 => ?_) (fun c9 => ?_)
    · refine ar_iloadn (k := 12) rfl rfl ?_
      refine ar_iloadn (k := 13) rfl rfl ?_
      refine ar_icmp_ne (k := 14) rfl (by omega) (by omega) (fun c14 => ?_) (fun c14 => ?_)
      · have wa := ht a (by omega) (by omega)
        refine ar_aloadn (k := 17) rfl rfl ?_
        refine br_getR (k := 18) rfl (hS.k (by decide)) flT_14_11 (by decide) rfl (hS.r rfl) ?_
        refine br_getR (k := 19) rfl (hS.k (by decide)) flT_110_10 (by decide) rfl (hS.r rfl) ?_
        refine ar_iloadn (k := 20) rfl rfl ?_
        refine br_iald (k := 21) rfl (hS.k (by decide)) (by omega) (by omega) (by decide) ?_
        refine tw_top (WN.tw hN (by omega) (by omega)) ?_
        refine ar_iloadn (k := 22) rfl rfl ?_
        refine ar_icmp_ne (k := 23) rfl (by omega) (by omega) (fun c23 => ?_) (fun c23 => ?_)
        · have qa : rPart s a 1 = s 1 := rPart_s1 hR (by omega)
          refine ar_iconst (k := 26) rfl ?_
          refine ar_istoren (k := 27) (l2 := [(3, _), (0, _), (1, _), (2, _)]) rfl (by decide) rfl ?_
          refine ar_aloadn (k := 28) rfl rfl ?_
          refine br_getR (k := 29) rfl (hS.k (by decide)) flT_14_11 (by decide) rfl (hS.r rfl) ?_
          refine ar_iloadn (k := 30) rfl rfl ?_
          refine ar_callV (k := 31) (as := [_]) rfl lvT_113 (hS.k (by decide)) rfl (c_W_part1 hS hN (by omega) (by omega) (by have := ht a (by omega) (by omega); omega)) rfl (by decide) (by decide) tw_m0 (Nat.le_of_ble_eq_true rfl) (fun r31 h31 p31 => ?_)
          obtain ⟨rfl, I31, rfl, hN31, w31⟩ := p31
          refine ar_aloadn (k := 32) rfl rfl ?_
          refine br_getR (k := 33) rfl (hS.k (by decide)) flT_14_11 (by decide) rfl (hS.r rfl) ?_
          refine ar_iloadn (k := 34) rfl rfl ?_
          refine ar_callV (k := 35) (as := [_]) rfl lvT_113 (hS.k (by decide)) rfl (c_W_part1 hS hN31 (by rw [qa]; omega) (by rw [qa]; omega) (by rw [qa]; exact rPart_tw hR (by omega) (by omega))) rfl (by decide) (by decide) tw_m0 (Nat.le_of_ble_eq_true rfl) (fun r35 h35 p35 => ?_)
          obtain ⟨rfl, I35, rfl, hN35, w35⟩ := p35
          refine ar_aloadn (k := 36) rfl rfl ?_
          refine br_getR (k := 37) rfl (hS.k (by decide)) flT_14_11 (by decide) rfl (hS.r rfl) ?_
          refine ar_iloadn (k := 38) rfl rfl ?_
          refine ar_iloadn (k := 39) rfl rfl ?_
          refine ar_callV (k := 40) (as := [_, _]) rfl lvT_117 (hS.k (by decide)) rfl (c_W_pairUp1 hS (by omega) (by omega)) rfl (by decide) (by decide) tw_m0 (Nat.le_of_ble_eq_true rfl) (fun r40 h40 p40 => ?_)
          obtain ⟨rfl, rfl⟩ := p40
          have hN40 : WN 1 (uI (uI I35 9 a b) 9 b a) (up (up (rPart (rPart s a) b) (94 + a) b) (94 + b) a) := by
            have z := WN.u_tw (x := a) (t0 := b) (WN.u_tw (x := b) (t0 := a) hN35 (by omega)) (by omega)
            rw [if_neg (by omega), if_neg (by omega)] at z
            exact z
          refine ar_iloadn (k := 41) rfl rfl ?_
          refine ar_if_eq (k := 42) rfl (by omega) (fun c42 => ?_) (fun c42 => ?_)
          · refine ar_iconst (k := 45) rfl ?_
            refine ar_iret (k := 46) rfl rfl rfl (Nat.le_refl _) ?_
            have e : rs_twin s a b = (if s (94 + a) = b then 1 else 0, up (up (rPart (rPart s a) b) (94 + a) b) (94 + b) a) := by unfold rs_twin; (repeat' split) <;> first | rfl | (exfalso; omega)
            rw [e]
            exact ⟨congrArg (fun z => some (vi z)) (by omega), _, rfl, hN40, ((wo.k (wo.k wo.rf (by decide) w31) (by decide) w35).u (by decide)).u (by decide)⟩
          · refine ar_iconst (k := 43) rfl ?_
            refine ar_goto (k := 44) rfl ?_
            refine ar_iret (k := 46) rfl rfl rfl (Nat.le_refl _) ?_
            have e : rs_twin s a b = (if s (94 + a) = b then 1 else 0, up (up (rPart (rPart s a) b) (94 + a) b) (94 + b) a) := by unfold rs_twin; (repeat' split) <;> first | rfl | (exfalso; omega)
            rw [e]
            exact ⟨congrArg (fun z => some (vi z)) (by omega), _, rfl, hN40, ((wo.k (wo.k wo.rf (by decide) w31) (by decide) w35).u (by decide)).u (by decide)⟩
        · have qa : rPart s a 1 = s 1 := rPart_s1 hR (by omega)
          refine ar_iconst (k := 24) rfl ?_
          refine ar_goto (k := 25) rfl ?_
          refine ar_istoren (k := 27) (l2 := [(3, _), (0, _), (1, _), (2, _)]) rfl (by decide) rfl ?_
          refine ar_aloadn (k := 28) rfl rfl ?_
          refine br_getR (k := 29) rfl (hS.k (by decide)) flT_14_11 (by decide) rfl (hS.r rfl) ?_
          refine ar_iloadn (k := 30) rfl rfl ?_
          refine ar_callV (k := 31) (as := [_]) rfl lvT_113 (hS.k (by decide)) rfl (c_W_part1 hS hN (by omega) (by omega) (by have := ht a (by omega) (by omega); omega)) rfl (by decide) (by decide) tw_m0 (Nat.le_of_ble_eq_true rfl) (fun r31 h31 p31 => ?_)
          obtain ⟨rfl, I31, rfl, hN31, w31⟩ := p31
          refine ar_aloadn (k := 32) rfl rfl ?_
          refine br_getR (k := 33) rfl (hS.k (by decide)) flT_14_11 (by decide) rfl (hS.r rfl) ?_
          refine ar_iloadn (k := 34) rfl rfl ?_
          refine ar_callV (k := 35) (as := [_]) rfl lvT_113 (hS.k (by decide)) rfl (c_W_part1 hS hN31 (by rw [qa]; omega) (by rw [qa]; omega) (by rw [qa]; exact rPart_tw hR (by omega) (by omega))) rfl (by decide) (by decide) tw_m0 (Nat.le_of_ble_eq_true rfl) (fun r35 h35 p35 => ?_)
          obtain ⟨rfl, I35, rfl, hN35, w35⟩ := p35
          refine ar_aloadn (k := 36) rfl rfl ?_
          refine br_getR (k := 37) rfl (hS.k (by decide)) flT_14_11 (by decide) rfl (hS.r rfl) ?_
          refine ar_iloadn (k := 38) rfl rfl ?_
          refine ar_iloadn (k := 39) rfl rfl ?_
          refine ar_callV (k := 40) (as := [_, _]) rfl lvT_117 (hS.k (by decide)) rfl (c_W_pairUp1 hS (by omega) (by omega)) rfl (by decide) (by decide) tw_m0 (Nat.le_of_ble_eq_true rfl) (fun r40 h40 p40 => ?_)
          obtain ⟨rfl, rfl⟩ := p40
          have hN40 : WN 1 (uI (uI I35 9 a b) 9 b a) (up (up (rPart (rPart s a) b) (94 + a) b) (94 + b) a) := by
            have z := WN.u_tw (x := a) (t0 := b) (WN.u_tw (x := b) (t0 := a) hN35 (by omega)) (by omega)
            rw [if_neg (by omega), if_neg (by omega)] at z
            exact z
          refine ar_iloadn (k := 41) rfl rfl ?_
          refine ar_if_eq (k := 42) rfl (by omega) (fun c42 => ?_) (fun c42 => ?_)
          · refine ar_iconst (k := 45) rfl ?_
            refine ar_iret (k := 46) rfl rfl rfl (Nat.le_refl _) ?_
            have e : rs_twin s a b = (if s (94 + a) = b then 1 else 0, up (up (rPart (rPart s a) b) (94 + a) b) (94 + b) a) := by unfold rs_twin; (repeat' split) <;> first | rfl | (exfalso; omega)
            rw [e]
            exact ⟨congrArg (fun z => some (vi z)) (by omega), _, rfl, hN40, ((wo.k (wo.k wo.rf (by decide) w31) (by decide) w35).u (by decide)).u (by decide)⟩
          · refine ar_iconst (k := 43) rfl ?_
            refine ar_goto (k := 44) rfl ?_
            refine ar_iret (k := 46) rfl rfl rfl (Nat.le_refl _) ?_
            have e : rs_twin s a b = (if s (94 + a) = b then 1 else 0, up (up (rPart (rPart s a) b) (94 + a) b) (94 + b) a) := by unfold rs_twin; (repeat' split) <;> first | rfl | (exfalso; omega)
            rw [e]
            exact ⟨congrArg (fun z => some (vi z)) (by omega), _, rfl, hN40, ((wo.k (wo.k wo.rf (by decide) w31) (by decide) w35).u (by decide)).u (by decide)⟩
      · refine ar_bipush (k := 15) rfl (by decide) ?_
        refine ar_iret (k := 16) rfl rfl rfl (Nat.le_refl _) ?_
        have e : rs_twin s a b = (-2, s) := by unfold rs_twin; (repeat' split) <;> first | rfl | (exfalso; omega)
        rw [e]
        exact ⟨congrArg (fun z => some (vi z)) (by omega), _, rfl, hN, wo.rf⟩
    · refine ar_iconst (k := 10) rfl ?_
      refine ar_iret (k := 11) rfl rfl rfl (Nat.le_refl _) ?_
      have e : rs_twin s a b = (-1, s) := by unfold rs_twin; (repeat' split) <;> first | rfl | (exfalso; omega)
      rw [e]
      exact ⟨congrArg (fun z => some (vi z)) (by omega), _, rfl, hN, wo.rf⟩
end CM
