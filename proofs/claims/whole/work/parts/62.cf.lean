section CF
variable {l : Launch} {G : tG} {K : Nat → Nat × Nat} {I : Nat → Int → Int} {Q : Nat → Int → Option Nat} {n : Nat} {s : Int → Int}
theorem c_T_of {t w : Int} (hS : tSt (K, I, Q, n)) (hN : WN 1 I s) (hP : WP 1 K I Q n s) (hW : WV 1 K I Q n s) (hR : RInv s) (hV : RVal s) (h57 : I 57 0 = 0) (h59 : I 59 0 = 0) (tt : tr t) (tw : tr w) : tw_M l G 7 0 0 mT_of [vr (some 0), vi t, vi w] (K, I, Q, n) (fun r h' => r = some (vi (if ¬ ((0 ≤ t ∧ t ≤ s 1 - 1) ∧ (0 ≤ w ∧ w ≤ 4)) then -1 else if w < 4 then (if w = 2 ∧ s (74 + 10 * w + t) = -1 then -5 else s (74 + 10 * w + t)) else rGone s t)) ∧ ∃ J Q', h' = (K, J, Q', n) ∧ cq K I J ∧ (Q' = Q ∨ Q' = uQ Q 40 1 (some 1))) := by
  obtain ⟨h0, h1, h2, h3, h4, h5, h6, hp, hrw, ht, hr, hb, htp, hv⟩ := id hR
  refine tw_intro okT_of (Nat.le_of_ble_eq_true rfl) ?_
  refine ar_aloadn (k := 0) rfl rfl ?_
  refine br_getR (k := 1) rfl (hS.k (by decide)) flT_14_11 (by decide) rfl (hS.r rfl) ?_
  refine ar_iloadn (k := 2) rfl rfl ?_
  refine ar_callV (k := 3) (as := [_]) rfl lvT_107 (hS.k (by decide)) rfl (c_W_hasTool hS hN hR (by omega)) rfl (by decide) (by decide) tw_m0 (Nat.le_of_ble_eq_true rfl) (fun r3 h3 p3 => ?_)
  obtain ⟨rfl, rfl⟩ := p3
  refine ar_if_ne (k := 4) rfl (by omega) (fun c4 => ?_) (fun c4 => ?_)
  · refine ar_iloadn (k := 7) rfl rfl ?_
    rcases (show w = 0 ∨ w = 1 ∨ w = 2 ∨ w = 3 ∨ w = 4 ∨ (w < 0 ∨ 4 < w) by omega) with q8 | q8 | q8 | q8 | q8 | q8
    · refine ar_tswIn (k := 8) (t := 48) rfl (by omega) (by omega) (by omega) (by rw [q8]; rfl) (by decide) ?_
      refine ar_aloadn (k := 9) rfl rfl ?_
      refine br_getR (k := 10) rfl (hS.k (by decide)) flT_14_11 (by decide) rfl (hS.r rfl) ?_
      refine br_getR (k := 11) rfl (hS.k (by decide)) flT_126_10 (by decide) rfl (hS.r rfl) ?_
      refine ar_iloadn (k := 12) rfl rfl ?_
      refine br_iald (k := 13) rfl (hS.k (by decide)) (by omega) (by omega) (by decide) ?_
      refine tw_top (WN.so hN (by omega) (by omega)) ?_
      refine ar_iret (k := 14) rfl rfl rfl (Nat.le_refl _) ?_
      first
        | (exfalso; omega)
        | exact ⟨congrArg (fun z => some (vi z)) (by rw [if_neg (by omega), if_pos (by omega), if_neg (by omega), show 74 + 10 * w + t = 74 + t by omega]), I, Q, rfl, cq.rf, Or.inl rfl⟩
    · refine ar_tswIn (k := 8) (t := 58) rfl (by omega) (by omega) (by omega) (by rw [q8]; rfl) (by decide) ?_
      refine ar_aloadn (k := 15) rfl rfl ?_
      refine br_getR (k := 16) rfl (hS.k (by decide)) flT_14_11 (by decide) rfl (hS.r rfl) ?_
      refine br_getR (k := 17) rfl (hS.k (by decide)) flT_123_10 (by decide) rfl (hS.r rfl) ?_
      refine ar_iloadn (k := 18) rfl rfl ?_
      refine br_iald (k := 19) rfl (hS.k (by decide)) (by omega) (by omega) (by decide) ?_
      refine tw_top (WN.ho hN (by omega) (by omega)) ?_
      refine ar_iret (k := 20) rfl rfl rfl (Nat.le_refl _) ?_
      first
        | (exfalso; omega)
        | exact ⟨congrArg (fun z => some (vi z)) (by rw [if_neg (by omega), if_pos (by omega), if_neg (by omega), show 74 + 10 * w + t = 84 + t by omega]), I, Q, rfl, cq.rf, Or.inl rfl⟩
    · refine ar_tswIn (k := 8) (t := 68) rfl (by omega) (by omega) (by omega) (by rw [q8]; rfl) (by decide) ?_
      refine ar_aloadn (k := 21) rfl rfl ?_
      refine br_getR (k := 22) rfl (hS.k (by decide)) flT_14_11 (by decide) rfl (hS.r rfl) ?_
      refine br_getR (k := 23) rfl (hS.k (by decide)) flT_110_10 (by decide) rfl (hS.r rfl) ?_
      refine ar_iloadn (k := 24) rfl rfl ?_
      refine br_iald (k := 25) rfl (hS.k (by decide)) (by omega) (by omega) (by decide) ?_
      refine tw_top (WN.tw hN (by omega) (by omega)) ?_
      refine ar_iret (k := 26) rfl rfl rfl (Nat.le_refl _) ?_
      first
        | (exfalso; omega)
        | exact ⟨congrArg (fun z => some (vi z)) (by symm; rw [if_neg (by omega), if_pos (by omega), show 74 + 10 * w + t = 94 + t by omega]; by_cases g : s (94 + t) = -1 <;> simp [g, q8]), I, Q, rfl, cq.rf, Or.inl rfl⟩
    · refine ar_tswIn (k := 8) (t := 78) rfl (by omega) (by omega) (by omega) (by rw [q8]; rfl) (by decide) ?_
      refine ar_aloadn (k := 27) rfl rfl ?_
      refine br_getR (k := 28) rfl (hS.k (by decide)) flT_14_11 (by decide) rfl (hS.r rfl) ?_
      refine br_getIz (k := 29) (z := 11) rfl (hS.k (by decide)) flT_120_10 (by decide) rfl rfl ?_
      refine ar_iloadn (k := 30) rfl rfl ?_
      refine ar_ishr (k := 31) rfl ?_
      refine ar_iconst (k := 32) rfl ?_
      refine ar_iand (k := 33) rfl ?_
      refine tw_top (y := s (104 + t)) (by rw [hN.bit (by omega) (by omega) (by omega)]; have := ht t (by omega) (by omega); split <;> omega) ?_
      refine ar_iret (k := 34) rfl rfl rfl (Nat.le_refl _) ?_
      first
        | (exfalso; omega)
        | exact ⟨congrArg (fun z => some (vi z)) (by rw [if_neg (by omega), if_pos (by omega), if_neg (by omega), show 74 + 10 * w + t = 104 + t by omega]), I, Q, rfl, cq.rf, Or.inl rfl⟩
    · refine ar_tswIn (k := 8) (t := 90) rfl (by omega) (by omega) (by omega) (by rw [q8]; rfl) (by decide) ?_
      refine ar_aloadn (k := 35) rfl rfl ?_
      refine br_getR (k := 36) rfl (hS.k (by decide)) flT_28_11 (by decide) rfl (hS.r rfl) ?_
      refine ar_aloadn (k := 37) rfl rfl ?_
      refine br_getR (k := 38) rfl (hS.k (by decide)) flT_14_11 (by decide) rfl (hS.r rfl) ?_
      refine ar_callV (k := 39) (as := [_]) rfl lvT_129 (hS.k (by decide)) rfl (c_P_look1 hS hN hP hW hR hV h57) rfl (by decide) (by decide) tw_m0 (Nat.le_of_ble_eq_true rfl) (fun r39 h39 p39 => ?_)
      obtain ⟨rfl, I39, rfl, hk39, hB39, hT39⟩ := p39
      have hS := hS.q40 (some 1)
      have hq : uQ Q 40 1 (some 1) 40 1 = some 1 := q40_at _
      have hN := WN.q1 hN hS hk39
      have hP := WP.g1 hP hk39.g (qg.q40 (some 1))
      have hW9 : PW I39 s := hB39.2.2.2.2.2
      have h59 := hk39.2.2.1.trans h59
      refine ar_aloadn (k := 40) rfl rfl ?_
      refine br_getR (k := 41) rfl (hS.k (by decide)) flT_28_11 (by decide) rfl (hS.r rfl) ?_
      refine ar_iloadn (k := 42) rfl rfl ?_
      refine ar_callV (k := 43) (as := [_]) rfl lvT_133 (hS.k (by decide)) rfl (c_P_goneHours hS hq hN hR hV hB39 hP (by omega)) rfl (by decide) (by decide) tw_m0 (Nat.le_of_ble_eq_true rfl) (fun r43 h43 p43 => ?_)
      obtain ⟨rfl, rfl⟩ := p43
      refine ar_iret (k := 44) rfl rfl rfl (Nat.le_refl _) ?_
      first
        | (exfalso; omega)
        | exact ⟨congrArg (fun z => some (vi z)) (by rw [if_neg (by omega), if_neg (by omega)]), _, _, rfl, hk39, Or.inr rfl⟩
    · refine ar_tswOut (k := 8) (t := 110) rfl (by omega) (by omega) (by decide) ?_
      refine ar_iconst (k := 45) rfl ?_
      refine ar_iret (k := 46) rfl rfl rfl (Nat.le_refl _) ?_
      first
        | (exfalso; omega)
        | exact ⟨congrArg (fun z => some (vi z)) (by rw [if_pos (by omega)]), I, Q, rfl, cq.rf, Or.inl rfl⟩
  · refine ar_iconst (k := 5) rfl ?_
    refine ar_iret (k := 6) rfl rfl rfl (Nat.le_refl _) ?_
    first
      | (exfalso; omega)
      | exact ⟨congrArg (fun z => some (vi z)) (by rw [if_pos (by omega)]), I, Q, rfl, cq.rf, Or.inl rfl⟩
theorem c_T_at {p u : Int} (hS : tSt (K, I, Q, n)) (hN : WN 1 I s) (hP : WP 1 K I Q n s) (hW : WV 1 K I Q n s) (hR : RInv s) (hV : RVal s) (h57 : I 57 0 = 0) (h59 : I 59 0 = 0) (tp : tr p) (tu : tr u) : tw_M l G 6 0 0 mT_at [vr (some 0), vi p, vi u] (K, I, Q, n) (fun r h' => r = some (vi (if (0 ≤ p ∧ p ≤ s 0 - 1) ∧ (0 ≤ u ∧ u ≤ 23) then (if rAt s p u = -1 then -5 else rAt s p u) else -1)) ∧ ∃ J Q', h' = (K, J, Q', n) ∧ cq K I J ∧ (Q' = Q ∨ Q' = uQ Q 40 1 (some 1))) := by
  obtain ⟨h0, h1, h2, h3, h4, h5, h6, hp, hrw, ht, hr, hb, htp, hv⟩ := id hR
  refine tw_intro okT_at (Nat.le_of_ble_eq_true rfl) ?_
  by_cases hno : 0 ≤ p ∧ p ≤ s 0 - 1
  · skip
    refine ar_aloadn (k := 0) rfl rfl ?_
    obtain ⟨a, hQa, ha77, han, haK, ha0, ha1, ha2, ha3⟩ := hP p (by omega) (by omega)
    rcases (show s (10 + p) = 0 ∨ s (10 + p) = 1 ∨ s (10 + p) = 2 ∨ s (10 + p) = 3 ∨ s (10 + p) = 4 ∨ s (10 + p) = 5 ∨ s (10 + p) = 6 by have := hp p (by omega) (by omega); omega) with hq7 | hq7 | hq7 | hq7 | hq7 | hq7 | hq7
    · have hKa : tK (K, I, Q, n) a (2, 4) := ⟨by show K a = _; rw [haK, hq7]; rfl, han⟩
      refine br_getR (k := 1) rfl (hS.k (by decide)) flT_14_11 (by decide) rfl (hS.r rfl) ?_
      refine ar_iloadn (k := 2) rfl rfl ?_
      refine ar_callV (k := 3) (as := [_]) rfl lvT_136 (hS.k (by decide)) rfl (c_W_pYes hS hN hR hno hQa) rfl (by decide) (by decide) tw_m0 (Nat.le_of_ble_eq_true rfl) (fun r3 h3 p3 => ?_)
      obtain ⟨rfl, rfl⟩ := p3
      refine ar_astoren (k := 4) (l2 := [(3, _), (0, _), (1, _), (2, _)]) rfl (by decide) rfl ?_
      refine ar_aloadn (k := 5) rfl rfl ?_
      refine ar_ifnull (k := 6) rfl (fun c6 => ?_) (fun a6 c6 => ?_)
      · cases c6
      · refine ar_iloadn (k := 7) rfl rfl ?_
        refine ar_callS (k := 8) (as := [_]) rfl lsT_154 (c_T_isHour (by omega)) rfl (by decide) (by decide) tw_m0 (Nat.le_of_ble_eq_true rfl) (fun r8 h8 p8 => ?_)
        obtain ⟨rfl, rfl⟩ := p8
        refine ar_if_ne (k := 9) rfl (by omega) (fun c9 => ?_) (fun c9 => ?_)
        · refine ar_aloadn (k := 12) rfl rfl ?_
          refine br_getR (k := 13) rfl (hS.k (by decide)) flT_28_11 (by decide) rfl (hS.r rfl) ?_
          refine ar_aloadn (k := 14) rfl rfl ?_
          refine br_getR (k := 15) rfl (hS.k (by decide)) flT_14_11 (by decide) rfl (hS.r rfl) ?_
          refine ar_callV (k := 16) (as := [_]) rfl lvT_129 (hS.k (by decide)) rfl (c_P_look1 hS hN hP hW hR hV h57) rfl (by decide) (by decide) tw_m0 (Nat.le_of_ble_eq_true rfl) (fun r16 h16 p16 => ?_)
          obtain ⟨rfl, I16, rfl, hk16, hB16, hT16⟩ := p16
          have hS := hS.q40 (some 1)
          have hq : uQ Q 40 1 (some 1) 40 1 = some 1 := q40_at _
          have hN := WN.q1 hN hS hk16
          have hP := WP.g1 hP hk16.g (qg.q40 (some 1))
          have hW9 : PW I16 s := hB16.2.2.2.2.2
          have h59 := hk16.2.2.1.trans h59
          have hge : True ∧ I16 a = I a := ⟨trivial, hk16.1 a (by omega) (by rw [haK]; intro z; have := congrArg Prod.fst z; have := kC_lt (s (10 + p)); simp only at *; omega) (by rw [haK]; intro z; have := congrArg Prod.fst z; have := kC_lt (s (10 + p)); simp only at *; omega)⟩
          refine ar_aloadn (k := 17) rfl rfl ?_
          refine ar_aloadn (k := 18) rfl rfl ?_
          refine br_getR (k := 19) rfl (hS.k (by decide)) flT_28_11 (by decide) rfl (hS.r rfl) ?_
          refine ar_iloadn (k := 20) rfl rfl ?_
          refine ar_callU (k := 21) (as := [_, _]) rfl lvT_157_H hKa rfl (c_H_worksAt_H hS hq hN hR hV hB16 hKa ((congrFun (hge.2) _).trans ha1) ((congrFun (hge.2) _).trans ha2) (by omega) (by omega) hq7) rfl (by decide) (by decide) tw_m0 (Nat.le_of_ble_eq_true rfl) (fun r21 h21 p21 => ?_)
          obtain ⟨rfl, rfl⟩ := p21
          refine ar_iret (k := 22) rfl rfl rfl (Nat.le_refl _) ?_
          first
            | (exfalso; omega)
            | exact ⟨congrArg (fun z => some (vi z)) (by rw [if_pos (by omega)]; rfl), _, _, rfl, hk16, Or.inr rfl⟩
        · refine ar_iconst (k := 10) rfl ?_
          refine ar_iret (k := 11) rfl rfl rfl (Nat.le_refl _) ?_
          first
            | (exfalso; omega)
            | exact ⟨congrArg (fun z => some (vi z)) (by rw [if_neg (by omega)]), I, Q, rfl, cq.rf, Or.inl rfl⟩
    · have hKa : tK (K, I, Q, n) a (0, 4) := ⟨by show K a = _; rw [haK, hq7]; rfl, han⟩
      refine br_getR (k := 1) rfl (hS.k (by decide)) flT_14_11 (by decide) rfl (hS.r rfl) ?_
      refine ar_iloadn (k := 2) rfl rfl ?_
      refine ar_callV (k := 3) (as := [_]) rfl lvT_136 (hS.k (by decide)) rfl (c_W_pYes hS hN hR hno hQa) rfl (by decide) (by decide) tw_m0 (Nat.le_of_ble_eq_true rfl) (fun r3 h3 p3 => ?_)
      obtain ⟨rfl, rfl⟩ := p3
      refine ar_astoren (k := 4) (l2 := [(3, _), (0, _), (1, _), (2, _)]) rfl (by decide) rfl ?_
      refine ar_aloadn (k := 5) rfl rfl ?_
      refine ar_ifnull (k := 6) rfl (fun c6 => ?_) (fun a6 c6 => ?_)
      · cases c6
      · refine ar_iloadn (k := 7) rfl rfl ?_
        refine ar_callS (k := 8) (as := [_]) rfl lsT_154 (c_T_isHour (by omega)) rfl (by decide) (by decide) tw_m0 (Nat.le_of_ble_eq_true rfl) (fun r8 h8 p8 => ?_)
        obtain ⟨rfl, rfl⟩ := p8
        refine ar_if_ne (k := 9) rfl (by omega) (fun c9 => ?_) (fun c9 => ?_)
        · refine ar_aloadn (k := 12) rfl rfl ?_
          refine br_getR (k := 13) rfl (hS.k (by decide)) flT_28_11 (by decide) rfl (hS.r rfl) ?_
          refine ar_aloadn (k := 14) rfl rfl ?_
          refine br_getR (k := 15) rfl (hS.k (by decide)) flT_14_11 (by decide) rfl (hS.r rfl) ?_
          refine ar_callV (k := 16) (as := [_]) rfl lvT_129 (hS.k (by decide)) rfl (c_P_look1 hS hN hP hW hR hV h57) rfl (by decide) (by decide) tw_m0 (Nat.le_of_ble_eq_true rfl) (fun r16 h16 p16 => ?_)
          obtain ⟨rfl, I16, rfl, hk16, hB16, hT16⟩ := p16
          have hS := hS.q40 (some 1)
          have hq : uQ Q 40 1 (some 1) 40 1 = some 1 := q40_at _
          have hN := WN.q1 hN hS hk16
          have hP := WP.g1 hP hk16.g (qg.q40 (some 1))
          have hW9 : PW I16 s := hB16.2.2.2.2.2
          have h59 := hk16.2.2.1.trans h59
          have hge : True ∧ I16 a = I a := ⟨trivial, hk16.1 a (by omega) (by rw [haK]; intro z; have := congrArg Prod.fst z; have := kC_lt (s (10 + p)); simp only at *; omega) (by rw [haK]; intro z; have := congrArg Prod.fst z; have := kC_lt (s (10 + p)); simp only at *; omega)⟩
          refine ar_aloadn (k := 17) rfl rfl ?_
          refine ar_aloadn (k := 18) rfl rfl ?_
          refine br_getR (k := 19) rfl (hS.k (by decide)) flT_28_11 (by decide) rfl (hS.r rfl) ?_
          refine ar_iloadn (k := 20) rfl rfl ?_
          refine ar_callU (k := 21) (as := [_, _]) rfl lvT_157_B hKa rfl (c_H_worksAt_B hS hq hN hR hV hB16 hKa ((congrFun (hge.2) _).trans ha1) ((congrFun (hge.2) _).trans ha2) (by omega) (by omega) hq7) rfl (by decide) (by decide) tw_m0 (Nat.le_of_ble_eq_true rfl) (fun r21 h21 p21 => ?_)
          obtain ⟨rfl, rfl⟩ := p21
          refine ar_iret (k := 22) rfl rfl rfl (Nat.le_refl _) ?_
          first
            | (exfalso; omega)
            | exact ⟨congrArg (fun z => some (vi z)) (by rw [if_pos (by omega)]; rfl), _, _, rfl, hk16, Or.inr rfl⟩
        · refine ar_iconst (k := 10) rfl ?_
          refine ar_iret (k := 11) rfl rfl rfl (Nat.le_refl _) ?_
          first
            | (exfalso; omega)
            | exact ⟨congrArg (fun z => some (vi z)) (by rw [if_neg (by omega)]), I, Q, rfl, cq.rf, Or.inl rfl⟩
    · have hKa : tK (K, I, Q, n) a (3, 4) := ⟨by show K a = _; rw [haK, hq7]; rfl, han⟩
      refine br_getR (k := 1) rfl (hS.k (by decide)) flT_14_11 (by decide) rfl (hS.r rfl) ?_
      refine ar_iloadn (k := 2) rfl rfl ?_
      refine ar_callV (k := 3) (as := [_]) rfl lvT_136 (hS.k (by decide)) rfl (c_W_pYes hS hN hR hno hQa) rfl (by decide) (by decide) tw_m0 (Nat.le_of_ble_eq_true rfl) (fun r3 h3 p3 => ?_)
      obtain ⟨rfl, rfl⟩ := p3
      refine ar_astoren (k := 4) (l2 := [(3, _), (0, _), (1, _), (2, _)]) rfl (by decide) rfl ?_
      refine ar_aloadn (k := 5) rfl rfl ?_
      refine ar_ifnull (k := 6) rfl (fun c6 => ?_) (fun a6 c6 => ?_)
      · cases c6
      · refine ar_iloadn (k := 7) rfl rfl ?_
        refine ar_callS (k := 8) (as := [_]) rfl lsT_154 (c_T_isHour (by omega)) rfl (by decide) (by decide) tw_m0 (Nat.le_of_ble_eq_true rfl) (fun r8 h8 p8 => ?_)
        obtain ⟨rfl, rfl⟩ := p8
        refine ar_if_ne (k := 9) rfl (by omega) (fun c9 => ?_) (fun c9 => ?_)
        · refine ar_aloadn (k := 12) rfl rfl ?_
          refine br_getR (k := 13) rfl (hS.k (by decide)) flT_28_11 (by decide) rfl (hS.r rfl) ?_
          refine ar_aloadn (k := 14) rfl rfl ?_
          refine br_getR (k := 15) rfl (hS.k (by decide)) flT_14_11 (by decide) rfl (hS.r rfl) ?_
          refine ar_callV (k := 16) (as := [_]) rfl lvT_129 (hS.k (by decide)) rfl (c_P_look1 hS hN hP hW hR hV h57) rfl (by decide) (by decide) tw_m0 (Nat.le_of_ble_eq_true rfl) (fun r16 h16 p16 => ?_)
          obtain ⟨rfl, I16, rfl, hk16, hB16, hT16⟩ := p16
          have hS := hS.q40 (some 1)
          have hq : uQ Q 40 1 (some 1) 40 1 = some 1 := q40_at _
          have hN := WN.q1 hN hS hk16
          have hP := WP.g1 hP hk16.g (qg.q40 (some 1))
          have hW9 : PW I16 s := hB16.2.2.2.2.2
          have h59 := hk16.2.2.1.trans h59
          have hge : True ∧ I16 a = I a := ⟨trivial, hk16.1 a (by omega) (by rw [haK]; intro z; have := congrArg Prod.fst z; have := kC_lt (s (10 + p)); simp only at *; omega) (by rw [haK]; intro z; have := congrArg Prod.fst z; have := kC_lt (s (10 + p)); simp only at *; omega)⟩
          refine ar_aloadn (k := 17) rfl rfl ?_
          refine ar_aloadn (k := 18) rfl rfl ?_
          refine br_getR (k := 19) rfl (hS.k (by decide)) flT_28_11 (by decide) rfl (hS.r rfl) ?_
          refine ar_iloadn (k := 20) rfl rfl ?_
          refine ar_callU (k := 21) (as := [_, _]) rfl lvT_157_O hKa rfl (c_H_worksAt_O hS hq hN hR hV hB16 hKa ((congrFun (hge.2) _).trans ha1) ((congrFun (hge.2) _).trans ha2) (by omega) (by omega) hq7) rfl (by decide) (by decide) tw_m0 (Nat.le_of_ble_eq_true rfl) (fun r21 h21 p21 => ?_)
          obtain ⟨rfl, rfl⟩ := p21
          refine ar_iret (k := 22) rfl rfl rfl (Nat.le_refl _) ?_
          first
            | (exfalso; omega)
            | exact ⟨congrArg (fun z => some (vi z)) (by rw [if_pos (by omega)]; rfl), _, _, rfl, hk16, Or.inr rfl⟩
        · refine ar_iconst (k := 10) rfl ?_
          refine ar_iret (k := 11) rfl rfl rfl (Nat.le_refl _) ?_
          first
            | (exfalso; omega)
            | exact ⟨congrArg (fun z => some (vi z)) (by rw [if_neg (by omega)]), I, Q, rfl, cq.rf, Or.inl rfl⟩
    · have hKa : tK (K, I, Q, n) a (1, 4) := ⟨by show K a = _; rw [haK, hq7]; rfl, han⟩
      refine br_getR (k := 1) rfl (hS.k (by decide)) flT_14_11 (by decide) rfl (hS.r rfl) ?_
      refine ar_iloadn (k := 2) rfl rfl ?_
      refine ar_callV (k := 3) (as := [_]) rfl lvT_136 (hS.k (by decide)) rfl (c_W_pYes hS hN hR hno hQa) rfl (by decide) (by decide) tw_m0 (Nat.le_of_ble_eq_true rfl) (fun r3 h3 p3 => ?_)
      obtain ⟨rfl, rfl⟩ := p3
      refine ar_astoren (k := 4) (l2 := [(3, _), (0, _), (1, _), (2, _)]) rfl (by decide) rfl ?_
      refine ar_aloadn (k := 5) rfl rfl ?_
      refine ar_ifnull (k := 6) rfl (fun c6 => ?_) (fun a6 c6 => ?_)
      · cases c6
      · refine ar_iloadn (k := 7) rfl rfl ?_
        refine ar_callS (k := 8) (as := [_]) rfl lsT_154 (c_T_isHour (by omega)) rfl (by decide) (by decide) tw_m0 (Nat.le_of_ble_eq_true rfl) (fun r8 h8 p8 => ?_)
        obtain ⟨rfl, rfl⟩ := p8
        refine ar_if_ne (k := 9) rfl (by omega) (fun c9 => ?_) (fun c9 => ?_)
        · refine ar_aloadn (k := 12) rfl rfl ?_
          refine br_getR (k := 13) rfl (hS.k (by decide)) flT_28_11 (by decide) rfl (hS.r rfl) ?_
          refine ar_aloadn (k := 14) rfl rfl ?_
          refine br_getR (k := 15) rfl (hS.k (by decide)) flT_14_11 (by decide) rfl (hS.r rfl) ?_
          refine ar_callV (k := 16) (as := [_]) rfl lvT_129 (hS.k (by decide)) rfl (c_P_look1 hS hN hP hW hR hV h57) rfl (by decide) (by decide) tw_m0 (Nat.le_of_ble_eq_true rfl) (fun r16 h16 p16 => ?_)
          obtain ⟨rfl, I16, rfl, hk16, hB16, hT16⟩ := p16
          have hS := hS.q40 (some 1)
          have hq : uQ Q 40 1 (some 1) 40 1 = some 1 := q40_at _
          have hN := WN.q1 hN hS hk16
          have hP := WP.g1 hP hk16.g (qg.q40 (some 1))
          have hW9 : PW I16 s := hB16.2.2.2.2.2
          have h59 := hk16.2.2.1.trans h59
          have hge : True ∧ I16 a = I a := ⟨trivial, hk16.1 a (by omega) (by rw [haK]; intro z; have := congrArg Prod.fst z; have := kC_lt (s (10 + p)); simp only at *; omega) (by rw [haK]; intro z; have := congrArg Prod.fst z; have := kC_lt (s (10 + p)); simp only at *; omega)⟩
          refine ar_aloadn (k := 17) rfl rfl ?_
          refine ar_aloadn (k := 18) rfl rfl ?_
          refine br_getR (k := 19) rfl (hS.k (by decide)) flT_28_11 (by decide) rfl (hS.r rfl) ?_
          refine ar_iloadn (k := 20) rfl rfl ?_
          refine ar_callU (k := 21) (as := [_, _]) rfl lvT_157_G hKa rfl (c_H_worksAt_G hS hq hN hR hV hB16 hKa ((congrFun (hge.2) _).trans ha1) ((congrFun (hge.2) _).trans ha2) (by omega) (by omega) hq7) rfl (by decide) (by decide) tw_m0 (Nat.le_of_ble_eq_true rfl) (fun r21 h21 p21 => ?_)
          obtain ⟨rfl, rfl⟩ := p21
          refine ar_iret (k := 22) rfl rfl rfl (Nat.le_refl _) ?_
          first
            | (exfalso; omega)
            | exact ⟨congrArg (fun z => some (vi z)) (by rw [if_pos (by omega)]; rfl), _, _, rfl, hk16, Or.inr rfl⟩
        · refine ar_iconst (k := 10) rfl ?_
          refine ar_iret (k := 11) rfl rfl rfl (Nat.le_refl _) ?_
          first
            | (exfalso; omega)
            | exact ⟨congrArg (fun z => some (vi z)) (by rw [if_neg (by omega)]), I, Q, rfl, cq.rf, Or.inl rfl⟩
    · have hKa : tK (K, I, Q, n) a (5, 4) := ⟨by show K a = _; rw [haK, hq7]; rfl, han⟩
      refine br_getR (k := 1) rfl (hS.k (by decide)) flT_14_11 (by decide) rfl (hS.r rfl) ?_
      refine ar_iloadn (k := 2) rfl rfl ?_
      refine ar_callV (k := 3) (as := [_]) rfl lvT_136 (hS.k (by decide)) rfl (c_W_pYes hS hN hR hno hQa) rfl (by decide) (by decide) tw_m0 (Nat.le_of_ble_eq_true rfl) (fun r3 h3 p3 => ?_)
      obtain ⟨rfl, rfl⟩ := p3
      refine ar_astoren (k := 4) (l2 := [(3, _), (0, _), (1, _), (2, _)]) rfl (by decide) rfl ?_
      refine ar_aloadn (k := 5) rfl rfl ?_
      refine ar_ifnull (k := 6) rfl (fun c6 => ?_) (fun a6 c6 => ?_)
      · cases c6
      · refine ar_iloadn (k := 7) rfl rfl ?_
        refine ar_callS (k := 8) (as := [_]) rfl lsT_154 (c_T_isHour (by omega)) rfl (by decide) (by decide) tw_m0 (Nat.le_of_ble_eq_true rfl) (fun r8 h8 p8 => ?_)
        obtain ⟨rfl, rfl⟩ := p8
        refine ar_if_ne (k := 9) rfl (by omega) (fun c9 => ?_) (fun c9 => ?_)
        · refine ar_aloadn (k := 12) rfl rfl ?_
          refine br_getR (k := 13) rfl (hS.k (by decide)) flT_28_11 (by decide) rfl (hS.r rfl) ?_
          refine ar_aloadn (k := 14) rfl rfl ?_
          refine br_getR (k := 15) rfl (hS.k (by decide)) flT_14_11 (by decide) rfl (hS.r rfl) ?_
          refine ar_callV (k := 16) (as := [_]) rfl lvT_129 (hS.k (by decide)) rfl (c_P_look1 hS hN hP hW hR hV h57) rfl (by decide) (by decide) tw_m0 (Nat.le_of_ble_eq_true rfl) (fun r16 h16 p16 => ?_)
          obtain ⟨rfl, I16, rfl, hk16, hB16, hT16⟩ := p16
          have hS := hS.q40 (some 1)
          have hq : uQ Q 40 1 (some 1) 40 1 = some 1 := q40_at _
          have hN := WN.q1 hN hS hk16
          have hP := WP.g1 hP hk16.g (qg.q40 (some 1))
          have hW9 : PW I16 s := hB16.2.2.2.2.2
          have h59 := hk16.2.2.1.trans h59
          have hge : True ∧ I16 a = I a := ⟨trivial, hk16.1 a (by omega) (by rw [haK]; intro z; have := congrArg Prod.fst z; have := kC_lt (s (10 + p)); simp only at *; omega) (by rw [haK]; intro z; have := congrArg Prod.fst z; have := kC_lt (s (10 + p)); simp only at *; omega)⟩
          refine ar_aloadn (k := 17) rfl rfl ?_
          refine ar_aloadn (k := 18) rfl rfl ?_
          refine br_getR (k := 19) rfl (hS.k (by decide)) flT_28_11 (by decide) rfl (hS.r rfl) ?_
          refine ar_iloadn (k := 20) rfl rfl ?_
          refine ar_callU (k := 21) (as := [_, _]) rfl lvT_157_L hKa rfl (c_H_worksAt_L hS hq hN hR hV hB16 hKa ((congrFun (hge.2) _).trans ha1) ((congrFun (hge.2) _).trans ha2) (by omega) (by omega) hq7) rfl (by decide) (by decide) tw_m0 (Nat.le_of_ble_eq_true rfl) (fun r21 h21 p21 => ?_)
          obtain ⟨rfl, rfl⟩ := p21
          refine ar_iret (k := 22) rfl rfl rfl (Nat.le_refl _) ?_
          first
            | (exfalso; omega)
            | exact ⟨congrArg (fun z => some (vi z)) (by rw [if_pos (by omega)]; rfl), _, _, rfl, hk16, Or.inr rfl⟩
        · refine ar_iconst (k := 10) rfl ?_
          refine ar_iret (k := 11) rfl rfl rfl (Nat.le_refl _) ?_
          first
            | (exfalso; omega)
            | exact ⟨congrArg (fun z => some (vi z)) (by rw [if_neg (by omega)]), I, Q, rfl, cq.rf, Or.inl rfl⟩
    · have hKa : tK (K, I, Q, n) a (4, 4) := ⟨by show K a = _; rw [haK, hq7]; rfl, han⟩
      refine br_getR (k := 1) rfl (hS.k (by decide)) flT_14_11 (by decide) rfl (hS.r rfl) ?_
      refine ar_iloadn (k := 2) rfl rfl ?_
      refine ar_callV (k := 3) (as := [_]) rfl lvT_136 (hS.k (by decide)) rfl (c_W_pYes hS hN hR hno hQa) rfl (by decide) (by decide) tw_m0 (Nat.le_of_ble_eq_true rfl) (fun r3 h3 p3 => ?_)
      obtain ⟨rfl, rfl⟩ := p3
      refine ar_astoren (k := 4) (l2 := [(3, _), (0, _), (1, _), (2, _)]) rfl (by decide) rfl ?_
      refine ar_aloadn (k := 5) rfl rfl ?_
      refine ar_ifnull (k := 6) rfl (fun c6 => ?_) (fun a6 c6 => ?_)
      · cases c6
      · refine ar_iloadn (k := 7) rfl rfl ?_
        refine ar_callS (k := 8) (as := [_]) rfl lsT_154 (c_T_isHour (by omega)) rfl (by decide) (by decide) tw_m0 (Nat.le_of_ble_eq_true rfl) (fun r8 h8 p8 => ?_)
        obtain ⟨rfl, rfl⟩ := p8
        refine ar_if_ne (k := 9) rfl (by omega) (fun c9 => ?_) (fun c9 => ?_)
        · refine ar_aloadn (k := 12) rfl rfl ?_
          refine br_getR (k := 13) rfl (hS.k (by decide)) flT_28_11 (by decide) rfl (hS.r rfl) ?_
          refine ar_aloadn (k := 14) rfl rfl ?_
          refine br_getR (k := 15) rfl (hS.k (by decide)) flT_14_11 (by decide) rfl (hS.r rfl) ?_
          refine ar_callV (k := 16) (as := [_]) rfl lvT_129 (hS.k (by decide)) rfl (c_P_look1 hS hN hP hW hR hV h57) rfl (by decide) (by decide) tw_m0 (Nat.le_of_ble_eq_true rfl) (fun r16 h16 p16 => ?_)
          obtain ⟨rfl, I16, rfl, hk16, hB16, hT16⟩ := p16
          have hS := hS.q40 (some 1)
          have hq : uQ Q 40 1 (some 1) 40 1 = some 1 := q40_at _
          have hN := WN.q1 hN hS hk16
          have hP := WP.g1 hP hk16.g (qg.q40 (some 1))
          have hW9 : PW I16 s := hB16.2.2.2.2.2
          have h59 := hk16.2.2.1.trans h59
          have hge : True ∧ I16 a = I a := ⟨trivial, hk16.1 a (by omega) (by rw [haK]; intro z; have := congrArg Prod.fst z; have := kC_lt (s (10 + p)); simp only at *; omega) (by rw [haK]; intro z; have := congrArg Prod.fst z; have := kC_lt (s (10 + p)); simp only at *; omega)⟩
          refine ar_aloadn (k := 17) rfl rfl ?_
          refine ar_aloadn (k := 18) rfl rfl ?_
          refine br_getR (k := 19) rfl (hS.k (by decide)) flT_28_11 (by decide) rfl (hS.r rfl) ?_
          refine ar_iloadn (k := 20) rfl rfl ?_
          refine ar_callU (k := 21) (as := [_, _]) rfl lvT_157_A hKa rfl (c_H_worksAt_A hS hq hN hR hV hB16 hKa ((congrFun (hge.2) _).trans ha1) ((congrFun (hge.2) _).trans ha2) (by omega) (by omega) hq7) rfl (by decide) (by decide) tw_m0 (Nat.le_of_ble_eq_true rfl) (fun r21 h21 p21 => ?_)
          obtain ⟨rfl, rfl⟩ := p21
          refine ar_iret (k := 22) rfl rfl rfl (Nat.le_refl _) ?_
          first
            | (exfalso; omega)
            | exact ⟨congrArg (fun z => some (vi z)) (by rw [if_pos (by omega)]; rfl), _, _, rfl, hk16, Or.inr rfl⟩
        · refine ar_iconst (k := 10) rfl ?_
          refine ar_iret (k := 11) rfl rfl rfl (Nat.le_refl _) ?_
          first
            | (exfalso; omega)
            | exact ⟨congrArg (fun z => some (vi z)) (by rw [if_neg (by omega)]), I, Q, rfl, cq.rf, Or.inl rfl⟩
    · have hKa : tK (K, I, Q, n) a (7, 4) := ⟨by show K a = _; rw [haK, hq7]; rfl, han⟩
      refine br_getR (k := 1) rfl (hS.k (by decide)) flT_14_11 (by decide) rfl (hS.r rfl) ?_
      refine ar_iloadn (k := 2) rfl rfl ?_
      refine ar_callV (k := 3) (as := [_]) rfl lvT_136 (hS.k (by decide)) rfl (c_W_pYes hS hN hR hno hQa) rfl (by decide) (by decide) tw_m0 (Nat.le_of_ble_eq_true rfl) (fun r3 h3 p3 => ?_)
      obtain ⟨rfl, rfl⟩ := p3
      refine ar_astoren (k := 4) (l2 := [(3, _), (0, _), (1, _), (2, _)]) rfl (by decide) rfl ?_
      refine ar_aloadn (k := 5) rfl rfl ?_
      refine ar_ifnull (k := 6) rfl (fun c6 => ?_) (fun a6 c6 => ?_)
      · cases c6
      · refine ar_iloadn (k := 7) rfl rfl ?_
        refine ar_callS (k := 8) (as := [_]) rfl lsT_154 (c_T_isHour (by omega)) rfl (by decide) (by decide) tw_m0 (Nat.le_of_ble_eq_true rfl) (fun r8 h8 p8 => ?_)
        obtain ⟨rfl, rfl⟩ := p8
        refine ar_if_ne (k := 9) rfl (by omega) (fun c9 => ?_) (fun c9 => ?_)
        · refine ar_aloadn (k := 12) rfl rfl ?_
          refine br_getR (k := 13) rfl (hS.k (by decide)) flT_28_11 (by decide) rfl (hS.r rfl) ?_
          refine ar_aloadn (k := 14) rfl rfl ?_
          refine br_getR (k := 15) rfl (hS.k (by decide)) flT_14_11 (by decide) rfl (hS.r rfl) ?_
          refine ar_callV (k := 16) (as := [_]) rfl lvT_129 (hS.k (by decide)) rfl (c_P_look1 hS hN hP hW hR hV h57) rfl (by decide) (by decide) tw_m0 (Nat.le_of_ble_eq_true rfl) (fun r16 h16 p16 => ?_)
          obtain ⟨rfl, I16, rfl, hk16, hB16, hT16⟩ := p16
          have hS := hS.q40 (some 1)
          have hq : uQ Q 40 1 (some 1) 40 1 = some 1 := q40_at _
          have hN := WN.q1 hN hS hk16
          have hP := WP.g1 hP hk16.g (qg.q40 (some 1))
          have hW9 : PW I16 s := hB16.2.2.2.2.2
          have h59 := hk16.2.2.1.trans h59
          have hge : True ∧ I16 a = I a := ⟨trivial, hk16.1 a (by omega) (by rw [haK]; intro z; have := congrArg Prod.fst z; have := kC_lt (s (10 + p)); simp only at *; omega) (by rw [haK]; intro z; have := congrArg Prod.fst z; have := kC_lt (s (10 + p)); simp only at *; omega)⟩
          refine ar_aloadn (k := 17) rfl rfl ?_
          refine ar_aloadn (k := 18) rfl rfl ?_
          refine br_getR (k := 19) rfl (hS.k (by decide)) flT_28_11 (by decide) rfl (hS.r rfl) ?_
          refine ar_iloadn (k := 20) rfl rfl ?_
          refine ar_callU (k := 21) (as := [_, _]) rfl lvT_157_D hKa rfl (c_H_worksAt_D hS hq hN hR hV hB16 hKa ((congrFun (hge.2) _).trans ha1) ((congrFun (hge.2) _).trans ha2) (by omega) (by omega) hq7) rfl (by decide) (by decide) tw_m0 (Nat.le_of_ble_eq_true rfl) (fun r21 h21 p21 => ?_)
          obtain ⟨rfl, rfl⟩ := p21
          refine ar_iret (k := 22) rfl rfl rfl (Nat.le_refl _) ?_
          first
            | (exfalso; omega)
            | exact ⟨congrArg (fun z => some (vi z)) (by rw [if_pos (by omega)]; rfl), _, _, rfl, hk16, Or.inr rfl⟩
        · refine ar_iconst (k := 10) rfl ?_
          refine ar_iret (k := 11) rfl rfl rfl (Nat.le_refl _) ?_
          first
            | (exfalso; omega)
            | exact ⟨congrArg (fun z => some (vi z)) (by rw [if_neg (by omega)]), I, Q, rfl, cq.rf, Or.inl rfl⟩
  · skip
    refine ar_aloadn (k := 0) rfl rfl ?_
    skip
    · skip
      refine br_getR (k := 1) rfl (hS.k (by decide)) flT_14_11 (by decide) rfl (hS.r rfl) ?_
      refine ar_iloadn (k := 2) rfl rfl ?_
      refine ar_callV (k := 3) (as := [_]) rfl lvT_136 (hS.k (by decide)) rfl (c_W_pNo hS hN hR (by omega) hno) rfl (by decide) (by decide) tw_m0 (Nat.le_of_ble_eq_true rfl) (fun r3 h3 p3 => ?_)
      obtain ⟨rfl, rfl⟩ := p3
      refine ar_astoren (k := 4) (l2 := [(3, _), (0, _), (1, _), (2, _)]) rfl (by decide) rfl ?_
      refine ar_aloadn (k := 5) rfl rfl ?_
      refine ar_ifnull (k := 6) rfl (fun c6 => ?_) (fun a6 c6 => ?_)
      · refine ar_iconst (k := 10) rfl ?_
        refine ar_iret (k := 11) rfl rfl rfl (Nat.le_refl _) ?_
        first
          | (exfalso; omega)
          | exact ⟨congrArg (fun z => some (vi z)) (by rw [if_neg (by omega)]), I, Q, rfl, cq.rf, Or.inl rfl⟩
      · cases c6
theorem c_T_worth {t u : Int} (hS : tSt (K, I, Q, n)) (hN : WN 1 I s) (hP : WP 1 K I Q n s) (hW : WV 1 K I Q n s) (hR : RInv s) (hV : RVal s) (h57 : I 57 0 = 0) (h59 : I 59 0 = 0) (tt : tr t) (tu : tr u) : tw_M l G 6 0 0 mT_worth [vr (some 0), vi t, vi u] (K, I, Q, n) (fun r h' => r = some (vi (if (0 ≤ t ∧ t ≤ s 1 - 1) ∧ (0 ≤ u ∧ u ≤ 23) ∧ s (94 + t) ≠ -1 then rWorth s t u else -10001)) ∧ ∃ J Q', h' = (K, J, Q', n) ∧ cq K I J ∧ (Q' = Q ∨ Q' = uQ Q 40 1 (some 1))) := by
  obtain ⟨h0, h1, h2, h3, h4, h5, h6, hp, hrw, ht, hr, hb, htp, hv⟩ := id hR
  refine tw_intro okT_worth (Nat.le_of_ble_eq_true rfl) ?_
  refine ar_aloadn (k := 0) rfl rfl ?_
  refine br_getR (k := 1) rfl (hS.k (by decide)) flT_14_11 (by decide) rfl (hS.r rfl) ?_
  refine ar_iloadn (k := 2) rfl rfl ?_
  refine ar_callV (k := 3) (as := [_]) rfl lvT_107 (hS.k (by decide)) rfl (c_W_hasTool hS hN hR (by omega)) rfl (by decide) (by decide) tw_m0 (Nat.le_of_ble_eq_true rfl) (fun r3 h3 p3 => ?_)
  obtain ⟨rfl, rfl⟩ := p3
  refine ar_if_eq (k := 4) rfl (by omega) (fun c4 => ?_) (fun c4 => ?_)
  · refine ar_sipush (k := 14) rfl (by decide) ?_
    refine ar_iret (k := 15) rfl rfl rfl (Nat.le_refl _) ?_
    first
      | (exfalso; omega)
      | exact ⟨congrArg (fun z => some (vi z)) (by rw [if_neg (by omega)]), I, Q, rfl, cq.rf, Or.inl rfl⟩
  · refine ar_iloadn (k := 5) rfl rfl ?_
    refine ar_callS (k := 6) (as := [_]) rfl lsT_154 (c_T_isHour (by omega)) rfl (by decide) (by decide) tw_m0 (Nat.le_of_ble_eq_true rfl) (fun r6 h6 p6 => ?_)
    obtain ⟨rfl, rfl⟩ := p6
    refine ar_if_eq (k := 7) rfl (by omega) (fun c7 => ?_) (fun c7 => ?_)
    · refine ar_sipush (k := 14) rfl (by decide) ?_
      refine ar_iret (k := 15) rfl rfl rfl (Nat.le_refl _) ?_
      first
        | (exfalso; omega)
        | exact ⟨congrArg (fun z => some (vi z)) (by rw [if_neg (by omega)]), I, Q, rfl, cq.rf, Or.inl rfl⟩
    · refine ar_aloadn (k := 8) rfl rfl ?_
      refine br_getR (k := 9) rfl (hS.k (by decide)) flT_14_11 (by decide) rfl (hS.r rfl) ?_
      refine br_getR (k := 10) rfl (hS.k (by decide)) flT_110_10 (by decide) rfl (hS.r rfl) ?_
      refine ar_iloadn (k := 11) rfl rfl ?_
      refine br_iald (k := 12) rfl (hS.k (by decide)) (by omega) (by omega) (by decide) ?_
      refine tw_top (WN.tw hN (by omega) (by omega)) ?_
      have w1 := ht t (by omega) (by omega)
      refine ar_if_ge (k := 13) rfl (by omega) (fun c13 => ?_) (fun c13 => ?_)
      · refine ar_aloadn (k := 16) rfl rfl ?_
        refine br_getR (k := 17) rfl (hS.k (by decide)) flT_28_11 (by decide) rfl (hS.r rfl) ?_
        refine ar_aloadn (k := 18) rfl rfl ?_
        refine br_getR (k := 19) rfl (hS.k (by decide)) flT_14_11 (by decide) rfl (hS.r rfl) ?_
        refine ar_callV (k := 20) (as := [_]) rfl lvT_129 (hS.k (by decide)) rfl (c_P_look1 hS hN hP hW hR hV h57) rfl (by decide) (by decide) tw_m0 (Nat.le_of_ble_eq_true rfl) (fun r20 h20 p20 => ?_)
        obtain ⟨rfl, I20, rfl, hk20, hB20, hT20⟩ := p20
        have hS := hS.q40 (some 1)
        have hq : uQ Q 40 1 (some 1) 40 1 = some 1 := q40_at _
        have hN := WN.q1 hN hS hk20
        have hP := WP.g1 hP hk20.g (qg.q40 (some 1))
        have hW9 : PW I20 s := hB20.2.2.2.2.2
        have h59 := hk20.2.2.1.trans h59
        refine ar_aloadn (k := 21) rfl rfl ?_
        refine br_getR (k := 22) rfl (hS.k (by decide)) flT_28_11 (by decide) rfl (hS.r rfl) ?_
        refine br_getR (k := 23) rfl (hS.k (by decide)) flT_161_6 (by decide) rfl (hS.r rfl) ?_
        refine ar_iloadn (k := 24) rfl rfl ?_
        refine br_aald18 (k := 25) rfl (hS.k (by decide)) (by omega) (by omega) (by decide) (hS.row (by omega) (by omega)).1 ?_
        refine ar_iloadn (k := 26) rfl rfl ?_
        refine br_iald (k := 27) rfl (hS.row (by omega) (by omega)).2 (by omega) (by omega) (by decide) ?_
        refine tw_top (hW9 _ (by omega) (by omega) (by omega) _ (by omega) (by omega)) ?_
        refine ar_iret (k := 28) rfl rfl rfl (Nat.le_refl _) ?_
        first
          | (exfalso; omega)
          | exact ⟨congrArg (fun z => some (vi z)) (by rw [if_pos (by omega)]), _, _, rfl, hk20, Or.inr rfl⟩
      · refine ar_sipush (k := 14) rfl (by decide) ?_
        refine ar_iret (k := 15) rfl rfl rfl (Nat.le_refl _) ?_
        first
          | (exfalso; omega)
          | exact ⟨congrArg (fun z => some (vi z)) (by rw [if_neg (by omega)]), I, Q, rfl, cq.rf, Or.inl rfl⟩
theorem c_I_mostIn {u : Int} (hS : tSt (K, I, Q, n)) (hR : RInv s) (hV : RVal s) (hT : PT I s) (hW : PW I s) (h59 : I 59 0 = 0) (u1 : 0 ≤ u ∧ u ≤ 23) : tw_M l G 2 0 0 mP_mostIn [vr (some 40), vi u] (K, I, Q, n) (fun r h' => r = some (vi (rMost s u).1) ∧ ∃ J, h' = (K, J, Q, n) ∧ bs I J) := by
  have z := c_P_mostIn (l := l) (G := G) (u := u.toNat) hS hR hV hT hW h59 (by omega)
  rw [show ((u.toNat : Nat) : Int) = u by omega] at z
  exact z
theorem c_I_mostSetIn {u : Int} (hS : tSt (K, I, Q, n)) (hR : RInv s) (hV : RVal s) (hT : PT I s) (hW : PW I s) (h59 : I 59 0 = 0) (u1 : 0 ≤ u ∧ u ≤ 23) : tw_M l G 2 0 0 mP_mostSetIn [vr (some 40), vi u] (K, I, Q, n) (fun r h' => r = some (vi (rMost s u).2.1) ∧ ∃ J, h' = (K, J, Q, n) ∧ bs I J) := by
  have z := c_P_mostSetIn (l := l) (G := G) (u := u.toNat) hS hR hV hT hW h59 (by omega)
  rw [show ((u.toNat : Nat) : Int) = u by omega] at z
  exact z
theorem c_I_manyIn {u : Int} (hS : tSt (K, I, Q, n)) (hR : RInv s) (hV : RVal s) (hT : PT I s) (hW : PW I s) (h59 : I 59 0 = 0) (u1 : 0 ≤ u ∧ u ≤ 23) : tw_M l G 2 0 0 mP_manyIn [vr (some 40), vi u] (K, I, Q, n) (fun r h' => r = some (vi (rMost s u).2.2) ∧ h' = (K, I, Q, n)) := by
  have z := c_P_manyIn (l := l) (G := G) (u := u.toNat) hS hR hV hT hW h59 (by omega)
  rw [show ((u.toNat : Nat) : Int) = u by omega] at z
  exact z
theorem c_T_hour {u w : Int} (hS : tSt (K, I, Q, n)) (hN : WN 1 I s) (hP : WP 1 K I Q n s) (hW : WV 1 K I Q n s) (hR : RInv s) (hV : RVal s) (h57 : I 57 0 = 0) (h59 : I 59 0 = 0) (tu : tr u) (tw : tr w) : tw_M l G 6 0 0 mT_hour [vr (some 0), vi u, vi w] (K, I, Q, n) (fun r h' => r = some (vi (if ¬ (0 ≤ u ∧ u ≤ 23) then -10001 else if w = 0 then rGoing s u else if w = 1 then rWait s u else if w = 2 then (rMost s u).1 else if w = 3 then (rMost s u).2.1 else if w = 4 then (rMost s u).2.2 else -10001)) ∧ ∃ J Q', h' = (K, J, Q', n) ∧ cq K I J ∧ (Q' = Q ∨ Q' = uQ Q 40 1 (some 1))) := by
  obtain ⟨h0, h1, h2, h3, h4, h5, h6, hp, hrw, ht, hr, hb, htp, hv⟩ := id hR
  refine tw_intro okT_hour (Nat.le_of_ble_eq_true rfl) ?_
  refine ar_iloadn (k := 0) rfl rfl ?_
  refine ar_callS (k := 1) (as := [_]) rfl lsT_154 (c_T_isHour (by omega)) rfl (by decide) (by decide) tw_m0 (Nat.le_of_ble_eq_true rfl) (fun r1 h1 p1 => ?_)
  obtain ⟨rfl, rfl⟩ := p1
  refine ar_if_ne (k := 2) rfl (by omega) (fun c2 => ?_) (fun c2 => ?_)
  · refine ar_aloadn (k := 5) rfl rfl ?_
    refine br_getR (k := 6) rfl (hS.k (by decide)) flT_28_11 (by decide) rfl (hS.r rfl) ?_
    refine ar_aloadn (k := 7) rfl rfl ?_
    refine br_getR (k := 8) rfl (hS.k (by decide)) flT_14_11 (by decide) rfl (hS.r rfl) ?_
    refine ar_callV (k := 9) (as := [_]) rfl lvT_129 (hS.k (by decide)) rfl (c_P_look1 hS hN hP hW hR hV h57) rfl (by decide) (by decide) tw_m0 (Nat.le_of_ble_eq_true rfl) (fun r9 h9 p9 => ?_)
    obtain ⟨rfl, I9, rfl, hk9, hB9, hT9⟩ := p9
    have hS := hS.q40 (some 1)
    have hq : uQ Q 40 1 (some 1) 40 1 = some 1 := q40_at _
    have hN := WN.q1 hN hS hk9
    have hP := WP.g1 hP hk9.g (qg.q40 (some 1))
    have hW9 : PW I9 s := hB9.2.2.2.2.2
    have h59 := hk9.2.2.1.trans h59
    have eu : ((u.toNat : Nat) : Int) = u := by omega
    refine ar_iloadn (k := 10) rfl rfl ?_
    rcases (show w = 0 ∨ w = 1 ∨ w = 2 ∨ w = 3 ∨ w = 4 ∨ (w < 0 ∨ 4 < w) by omega) with q11 | q11 | q11 | q11 | q11 | q11
    · refine ar_tswIn (k := 11) (t := 56) rfl (by omega) (by omega) (by omega) (by rw [q11]; rfl) (by decide) ?_
      refine ar_aloadn (k := 12) rfl rfl ?_
      refine br_getR (k := 13) rfl (hS.k (by decide)) flT_28_11 (by decide) rfl (hS.r rfl) ?_
      refine ar_aloadn (k := 14) rfl rfl ?_
      refine br_getR (k := 15) rfl (hS.k (by decide)) flT_28_11 (by decide) rfl (hS.r rfl) ?_
      refine ar_iloadn (k := 16) rfl rfl ?_
      refine ar_callV (k := 17) (as := [_]) rfl lvT_165 (hS.k (by decide)) rfl (c_P_workedTools hS hq hN hR hV hB9 hP (by omega)) rfl (by decide) (by decide) tw_m0 (Nat.le_of_ble_eq_true rfl) (fun r17 h17 p17 => ?_)
      obtain ⟨rfl, rfl⟩ := p17
      refine ar_callV (k := 18) (as := [_]) rfl lvT_168 (hS.k (by decide)) rfl (c_P_goingPairs hS hq hN hR hV hB9 hP hT9.1) rfl (by decide) (by decide) tw_m0 (Nat.le_of_ble_eq_true rfl) (fun r18 h18 p18 => ?_)
      obtain ⟨rfl, rfl⟩ := p18
      refine ar_iret (k := 19) rfl rfl rfl (Nat.le_refl _) ?_
      first
        | (exfalso; omega)
        | exact ⟨congrArg (fun z => some (vi z)) (by rw [if_neg (by omega), if_pos (by omega)]), _, _, rfl, hk9, Or.inr rfl⟩
    · refine ar_tswIn (k := 11) (t := 72) rfl (by omega) (by omega) (by omega) (by rw [q11]; rfl) (by decide) ?_
      refine ar_aloadn (k := 20) rfl rfl ?_
      refine br_getR (k := 21) rfl (hS.k (by decide)) flT_28_11 (by decide) rfl (hS.r rfl) ?_
      refine ar_aloadn (k := 22) rfl rfl ?_
      refine br_getR (k := 23) rfl (hS.k (by decide)) flT_28_11 (by decide) rfl (hS.r rfl) ?_
      refine ar_iloadn (k := 24) rfl rfl ?_
      refine ar_callV (k := 25) (as := [_]) rfl lvT_165 (hS.k (by decide)) rfl (c_P_workedTools hS hq hN hR hV hB9 hP (by omega)) rfl (by decide) (by decide) tw_m0 (Nat.le_of_ble_eq_true rfl) (fun r25 h25 p25 => ?_)
      obtain ⟨rfl, rfl⟩ := p25
      refine ar_callV (k := 26) (as := [_]) rfl lvT_171 (hS.k (by decide)) rfl (c_P_waitingTools hS hq hN hR hV hB9 hP) rfl (by decide) (by decide) tw_m0 (Nat.le_of_ble_eq_true rfl) (fun r26 h26 p26 => ?_)
      obtain ⟨rfl, rfl⟩ := p26
      refine ar_iret (k := 27) rfl rfl rfl (Nat.le_refl _) ?_
      first
        | (exfalso; omega)
        | exact ⟨congrArg (fun z => some (vi z)) (by rw [if_neg (by omega), if_neg (by omega), if_pos (by omega)]), _, _, rfl, hk9, Or.inr rfl⟩
    · refine ar_tswIn (k := 11) (t := 88) rfl (by omega) (by omega) (by omega) (by rw [q11]; rfl) (by decide) ?_
      refine ar_aloadn (k := 28) rfl rfl ?_
      refine br_getR (k := 29) rfl (hS.k (by decide)) flT_28_11 (by decide) rfl (hS.r rfl) ?_
      refine ar_iloadn (k := 30) rfl rfl ?_
      refine ar_callV (k := 31) (as := [_]) rfl lvT_174 (hS.k (by decide)) rfl (c_I_mostIn hS hR hV hT9 hW9 h59 (by omega)) rfl (by decide) (by decide) tw_m0 (Nat.le_of_ble_eq_true rfl) (fun r31 h31 p31 => ?_)
      obtain ⟨rfl, I31, rfl, hb31⟩ := p31
      have hk31 := hk9.trans hb31.q
      refine ar_iret (k := 32) rfl rfl rfl (Nat.le_refl _) ?_
      first
        | (exfalso; omega)
        | exact ⟨congrArg (fun z => some (vi z)) (by rw [if_neg (by omega), if_neg (by omega), if_neg (by omega), if_pos (by omega)]), _, _, rfl, hk31, Or.inr rfl⟩
    · refine ar_tswIn (k := 11) (t := 97) rfl (by omega) (by omega) (by omega) (by rw [q11]; rfl) (by decide) ?_
      refine ar_aloadn (k := 33) rfl rfl ?_
      refine br_getR (k := 34) rfl (hS.k (by decide)) flT_28_11 (by decide) rfl (hS.r rfl) ?_
      refine ar_iloadn (k := 35) rfl rfl ?_
      refine ar_callV (k := 36) (as := [_]) rfl lvT_177 (hS.k (by decide)) rfl (c_I_mostSetIn hS hR hV hT9 hW9 h59 (by omega)) rfl (by decide) (by decide) tw_m0 (Nat.le_of_ble_eq_true rfl) (fun r36 h36 p36 => ?_)
      obtain ⟨rfl, I36, rfl, hb36⟩ := p36
      have hk36 := hk9.trans hb36.q
      refine ar_iret (k := 37) rfl rfl rfl (Nat.le_refl _) ?_
      first
        | (exfalso; omega)
        | exact ⟨congrArg (fun z => some (vi z)) (by rw [if_neg (by omega), if_neg (by omega), if_neg (by omega), if_neg (by omega), if_pos (by omega)]), _, _, rfl, hk36, Or.inr rfl⟩
    · refine ar_tswIn (k := 11) (t := 106) rfl (by omega) (by omega) (by omega) (by rw [q11]; rfl) (by decide) ?_
      refine ar_aloadn (k := 38) rfl rfl ?_
      refine br_getR (k := 39) rfl (hS.k (by decide)) flT_28_11 (by decide) rfl (hS.r rfl) ?_
      refine ar_iloadn (k := 40) rfl rfl ?_
      refine ar_callV (k := 41) (as := [_]) rfl lvT_180 (hS.k (by decide)) rfl (c_I_manyIn hS hR hV hT9 hW9 h59 (by omega)) rfl (by decide) (by decide) tw_m0 (Nat.le_of_ble_eq_true rfl) (fun r41 h41 p41 => ?_)
      obtain ⟨rfl, rfl⟩ := p41
      refine ar_iret (k := 42) rfl rfl rfl (Nat.le_refl _) ?_
      first
        | (exfalso; omega)
        | exact ⟨congrArg (fun z => some (vi z)) (by rw [if_neg (by omega), if_neg (by omega), if_neg (by omega), if_neg (by omega), if_neg (by omega), if_pos (by omega)]), _, _, rfl, hk9, Or.inr rfl⟩
    · refine ar_tswOut (k := 11) (t := 115) rfl (by omega) (by omega) (by decide) ?_
      refine ar_sipush (k := 43) rfl (by decide) ?_
      refine ar_iret (k := 44) rfl rfl rfl (Nat.le_refl _) ?_
      first
        | (exfalso; omega)
        | exact ⟨congrArg (fun z => some (vi z)) (by rw [if_neg (by omega), if_neg (by omega), if_neg (by omega), if_neg (by omega), if_neg (by omega), if_neg (by omega)]), _, _, rfl, hk9, Or.inr rfl⟩
  · refine ar_sipush (k := 3) rfl (by decide) ?_
    refine ar_iret (k := 4) rfl rfl rfl (Nat.le_refl _) ?_
    first
      | (exfalso; omega)
      | exact ⟨congrArg (fun z => some (vi z)) (by rw [if_pos (by omega)]), I, Q, rfl, cq.rf, Or.inl rfl⟩
theorem c_T_day {w : Int} (hS : tSt (K, I, Q, n)) (hN : WN 1 I s) (hP : WP 1 K I Q n s) (hW : WV 1 K I Q n s) (hR : RInv s) (hV : RVal s) (h57 : I 57 0 = 0) (h59 : I 59 0 = 0) (tw : tr w) : tw_M l G 8 0 0 mT_day [vr (some 0), vi w] (K, I, Q, n) (fun r h' => r = some (vi (if w = 0 then rAllW s 24 0 0 else if w = 1 then rAllWait s else if w = 2 then rBestDay s else if w = 3 then rBell s else -10001)) ∧ ∃ J Q', h' = (K, J, Q', n) ∧ cq K I J ∧ (Q' = Q ∨ Q' = uQ Q 40 1 (some 1))) := by
  obtain ⟨h0, h1, h2, h3, h4, h5, h6, hp, hrw, ht, hr, hb, htp, hv⟩ := id hR
  refine tw_intro okT_day (Nat.le_of_ble_eq_true rfl) ?_
  refine ar_aloadn (k := 0) rfl rfl ?_
  refine br_getR (k := 1) rfl (hS.k (by decide)) flT_28_11 (by decide) rfl (hS.r rfl) ?_
  refine ar_aloadn (k := 2) rfl rfl ?_
  refine br_getR (k := 3) rfl (hS.k (by decide)) flT_14_11 (by decide) rfl (hS.r rfl) ?_
  refine ar_callV (k := 4) (as := [_]) rfl lvT_129 (hS.k (by decide)) rfl (c_P_look1 hS hN hP hW hR hV h57) rfl (by decide) (by decide) tw_m0 (Nat.le_of_ble_eq_true rfl) (fun r4 h4 p4 => ?_)
  obtain ⟨rfl, I4, rfl, hk4, hB4, hT4⟩ := p4
  have hS := hS.q40 (some 1)
  have hq : uQ Q 40 1 (some 1) 40 1 = some 1 := q40_at _
  have hN := WN.q1 hN hS hk4
  have hP := WP.g1 hP hk4.g (qg.q40 (some 1))
  have hW9 : PW I4 s := hB4.2.2.2.2.2
  have h59 := hk4.2.2.1.trans h59
  refine ar_iloadn (k := 5) rfl rfl ?_
  rcases (show w = 0 ∨ w = 1 ∨ w = 2 ∨ w = 3 ∨ (w < 0 ∨ 3 < w) by omega) with q6 | q6 | q6 | q6 | q6
  · refine ar_tswIn (k := 6) (t := 44) rfl (by omega) (by omega) (by omega) (by rw [q6]; rfl) (by decide) ?_
    refine ar_aloadn (k := 7) rfl rfl ?_
    refine br_getR (k := 8) rfl (hS.k (by decide)) flT_28_11 (by decide) rfl (hS.r rfl) ?_
    refine ar_callV (k := 9) (as := []) rfl lvT_183 (hS.k (by decide)) rfl (c_P_allWorth hS hq hN hR hV hB4 hP hT4.1) rfl (by decide) (by decide) tw_m0 (Nat.le_of_ble_eq_true rfl) (fun r9 h9 p9 => ?_)
    obtain ⟨rfl, rfl⟩ := p9
    refine ar_iret (k := 10) rfl rfl rfl (Nat.le_refl _) ?_
    first
      | (exfalso; omega)
      | exact ⟨congrArg (fun z => some (vi z)) (by rw [if_pos (by omega)]), _, _, rfl, hk4, Or.inr rfl⟩
  · refine ar_tswIn (k := 6) (t := 52) rfl (by omega) (by omega) (by omega) (by rw [q6]; rfl) (by decide) ?_
    refine ar_aloadn (k := 11) rfl rfl ?_
    refine br_getR (k := 12) rfl (hS.k (by decide)) flT_28_11 (by decide) rfl (hS.r rfl) ?_
    refine ar_callV (k := 13) (as := []) rfl lvT_187 (hS.k (by decide)) rfl (c_P_waiting hS hq hN hR hV hB4 hP) rfl (by decide) (by decide) tw_m0 (Nat.le_of_ble_eq_true rfl) (fun r13 h13 p13 => ?_)
    obtain ⟨rfl, rfl⟩ := p13
    refine ar_iret (k := 14) rfl rfl rfl (Nat.le_refl _) ?_
    first
      | (exfalso; omega)
      | exact ⟨congrArg (fun z => some (vi z)) (by rw [if_neg (by omega), if_pos (by omega)]), _, _, rfl, hk4, Or.inr rfl⟩
  · refine ar_tswIn (k := 6) (t := 60) rfl (by omega) (by omega) (by omega) (by rw [q6]; rfl) (by decide) ?_
    refine ar_aloadn (k := 15) rfl rfl ?_
    refine br_getR (k := 16) rfl (hS.k (by decide)) flT_28_11 (by decide) rfl (hS.r rfl) ?_
    refine ar_callV (k := 17) (as := []) rfl lvT_190 (hS.k (by decide)) rfl (c_P_bestDay hS hR hV hT4 hW9 h59) rfl (by decide) (by decide) tw_m0 (Nat.le_of_ble_eq_true rfl) (fun r17 h17 p17 => ?_)
    obtain ⟨rfl, I17, rfl, hb17⟩ := p17
    have hk17 := hk4.trans hb17.q
    refine ar_iret (k := 18) rfl rfl rfl (Nat.le_refl _) ?_
    first
      | (exfalso; omega)
      | exact ⟨congrArg (fun z => some (vi z)) (by rw [if_neg (by omega), if_neg (by omega), if_pos (by omega)]), _, _, rfl, hk17, Or.inr rfl⟩
  · refine ar_tswIn (k := 6) (t := 68) rfl (by omega) (by omega) (by omega) (by rw [q6]; rfl) (by decide) ?_
    refine ar_aloadn (k := 19) rfl rfl ?_
    refine br_getR (k := 20) rfl (hS.k (by decide)) flT_28_11 (by decide) rfl (hS.r rfl) ?_
    refine br_getIz (k := 21) (z := 2) rfl (hS.k (by decide)) flT_193_6 (by decide) rfl rfl ?_
    refine tw_top hB4.1 ?_
    refine ar_iret (k := 22) rfl rfl rfl (Nat.le_refl _) ?_
    first
      | (exfalso; omega)
      | exact ⟨congrArg (fun z => some (vi z)) (by rw [if_neg (by omega), if_neg (by omega), if_neg (by omega), if_pos (by omega)]), _, _, rfl, hk4, Or.inr rfl⟩
  · refine ar_tswOut (k := 6) (t := 76) rfl (by omega) (by omega) (by decide) ?_
    refine ar_sipush (k := 23) rfl (by decide) ?_
    refine ar_iret (k := 24) rfl rfl rfl (Nat.le_refl _) ?_
    first
      | (exfalso; omega)
      | exact ⟨congrArg (fun z => some (vi z)) (by rw [if_neg (by omega), if_neg (by omega), if_neg (by omega), if_neg (by omega)]), _, _, rfl, hk4, Or.inr rfl⟩
theorem l_T_looked (hS : tSt (K, I, Q, n)) (hq : Q 40 1 = some 1) (hN : WN 1 I s) (hR : RInv s) (hV : RVal s) (hB : PB I s) (hP : WP 1 K I Q n s) : ∀ (k : Nat) (j : Nat), j + k = (s 4).toNat → tw_AW l G mT_looked 7 0 0 n 0 (tw_fn (some (vi (fstD (-5) (fun r : Nat => decide (¬ rGoP s (s (162 + (r : Int))) (rWork s (s (150 + (r : Int)))))) k j))) (K, I, Q, n)) 13 [(1, vi (j : Int)), (0, vr (some 0))] [] (K, I, Q, n) := by
  obtain ⟨h0, h1, h2, h3, h4, h5, h6, hp, hrw, ht, hr, hb, htp, hv⟩ := id hR
  intro k
  induction k with
  | zero =>
    intro j hj
    refine ar_iloadn (k := 7) rfl rfl ?_
    refine ar_aloadn (k := 8) rfl rfl ?_
    refine br_getR (k := 9) rfl (hS.k (by decide)) flT_14_11 (by decide) rfl (hS.r rfl) ?_
    refine br_getIz (k := 10) (z := 19) rfl (hS.k (by decide)) flT_245_10 (by decide) rfl rfl ?_
    refine tw_top (WN.bc hN) ?_
    refine ar_icmp_ge (k := 11) rfl (by omega) (by omega) (fun c11 => ?_) (fun c11 => ?_)
    · refine ar_bipush (k := 33) rfl (by decide) ?_
      refine ar_iret (k := 34) rfl rfl rfl (Nat.le_refl _) ?_
      exact ⟨rfl, rfl⟩
    · exfalso; omega
  | succ k ih =>
    intro j hj
    refine ar_iloadn (k := 7) rfl rfl ?_
    refine ar_aloadn (k := 8) rfl rfl ?_
    refine br_getR (k := 9) rfl (hS.k (by decide)) flT_14_11 (by decide) rfl (hS.r rfl) ?_
    refine br_getIz (k := 10) (z := 19) rfl (hS.k (by decide)) flT_245_10 (by decide) rfl rfl ?_
    refine tw_top (WN.bc hN) ?_
    refine ar_icmp_ge (k := 11) rfl (by omega) (by omega) (fun c11 => ?_) (fun c11 => ?_)
    · exfalso; omega
    · have w1 := hb (j : Int) (by omega) (by omega)
      refine ar_aloadn (k := 12) rfl rfl ?_
      refine br_getR (k := 13) rfl (hS.k (by decide)) flT_28_11 (by decide) rfl (hS.r rfl) ?_
      refine ar_aloadn (k := 14) rfl rfl ?_
      refine br_getR (k := 15) rfl (hS.k (by decide)) flT_14_11 (by decide) rfl (hS.r rfl) ?_
      refine br_getR (k := 16) rfl (hS.k (by decide)) flT_251_10 (by decide) rfl (hS.r rfl) ?_
      refine ar_iloadn (k := 17) rfl rfl ?_
      refine br_iald (k := 18) rfl (hS.k (by decide)) (by omega) (by omega) (by decide) ?_
      refine tw_top (WN.bo hN (by omega) (by omega)) ?_
      refine ar_aloadn (k := 19) rfl rfl ?_
      refine br_getR (k := 20) rfl (hS.k (by decide)) flT_28_11 (by decide) rfl (hS.r rfl) ?_
      refine ar_aloadn (k := 21) rfl rfl ?_
      refine br_getR (k := 22) rfl (hS.k (by decide)) flT_14_11 (by decide) rfl (hS.r rfl) ?_
      refine br_getR (k := 23) rfl (hS.k (by decide)) flT_248_10 (by decide) rfl (hS.r rfl) ?_
      refine ar_iloadn (k := 24) rfl rfl ?_
      refine br_iald (k := 25) rfl (hS.k (by decide)) (by omega) (by omega) (by decide) ?_
      refine tw_top (WN.bh hN (by omega) (by omega)) ?_
      refine ar_callV (k := 26) (as := [_]) rfl lvT_165 (hS.k (by decide)) rfl (c_P_workedTools hS hq hN hR hV hB hP (by omega)) rfl (by decide) (by decide) tw_m0 (Nat.le_of_ble_eq_true rfl) (fun r26 h26 p26 => ?_)
      obtain ⟨rfl, rfl⟩ := p26
      refine ar_callV (k := 27) (as := [_, _]) rfl lvT_254 (hS.k (by decide)) rfl (c_P_goes hS hq hN hR (by omega)) rfl (by decide) (by decide) tw_m0 (Nat.le_of_ble_eq_true rfl) (fun r27 h27 p27 => ?_)
      obtain ⟨rfl, rfl⟩ := p27
      have hgg : (if rGoP s (s (162 + (j : Int))) (rWork s (s (150 + (j : Int)))) then (1 : Int) else 0) = 0 ∨ (if rGoP s (s (162 + (j : Int))) (rWork s (s (150 + (j : Int)))) then (1 : Int) else 0) = 1 := by split <;> omega
      refine ar_if_ne (k := 28) rfl (by omega) (fun c28 => ?_) (fun c28 => ?_)
      · refine ar_iinc (k := 31) (l2 := [(1, _), (0, _)]) rfl (by decide) rfl rfl ?_
        refine ar_goto (k := 32) rfl ?_
        refine ar_sub (l2 := [(1, vi ((j + 1 : Nat) : Int)), (0, vr (some 0))]) (tw_s (tw_e 0 rfl (by omega)) (tw_s (tw_g 1 rfl) tw_s0)) ?_
        rw [fstD, if_neg (by rw [decide_eq_true_eq]; intro z; rw [if_neg z] at c28; exact c28 rfl)]
        exact ih (j + 1) (by omega)
      · refine ar_iloadn (k := 29) rfl rfl ?_
        refine ar_iret (k := 30) rfl rfl rfl (Nat.le_refl _) ?_
        rw [fstD, if_pos (by rw [decide_eq_true_eq]; intro z; rw [if_pos z] at c28; exact c28 (by decide))]
        exact ⟨rfl, rfl⟩
theorem c_T_looked (hS : tSt (K, I, Q, n)) (hN : WN 1 I s) (hP : WP 1 K I Q n s) (hW : WV 1 K I Q n s) (hR : RInv s) (hV : RVal s) (h57 : I 57 0 = 0) (h59 : I 59 0 = 0) : tw_M l G 7 0 0 mT_looked [vr (some 0)] (K, I, Q, n) (fun r h' => r = some (vi (rLook s)) ∧ ∃ J Q', h' = (K, J, Q', n) ∧ cq K I J ∧ (Q' = Q ∨ Q' = uQ Q 40 1 (some 1))) := by
  obtain ⟨h0, h1, h2, h3, h4, h5, h6, hp, hrw, ht, hr, hb, htp, hv⟩ := id hR
  refine tw_intro okT_looked (Nat.le_of_ble_eq_true rfl) ?_
  refine ar_aloadn (k := 0) rfl rfl ?_
  refine br_getR (k := 1) rfl (hS.k (by decide)) flT_28_11 (by decide) rfl (hS.r rfl) ?_
  refine ar_aloadn (k := 2) rfl rfl ?_
  refine br_getR (k := 3) rfl (hS.k (by decide)) flT_14_11 (by decide) rfl (hS.r rfl) ?_
  refine ar_callV (k := 4) (as := [_]) rfl lvT_129 (hS.k (by decide)) rfl (c_P_look1 hS hN hP hW hR hV h57) rfl (by decide) (by decide) tw_m0 (Nat.le_of_ble_eq_true rfl) (fun r4 h4 p4 => ?_)
  obtain ⟨rfl, I4, rfl, hk4, hB4, hT4⟩ := p4
  have hS := hS.q40 (some 1)
  have hq : uQ Q 40 1 (some 1) 40 1 = some 1 := q40_at _
  have hN := WN.q1 hN hS hk4
  have hP := WP.g1 hP hk4.g (qg.q40 (some 1))
  have hW9 : PW I4 s := hB4.2.2.2.2.2
  have h59 := hk4.2.2.1.trans h59
  refine ar_iconst (k := 5) rfl ?_
  refine ar_istoren (k := 6) (l2 := [(1, _), (0, _)]) rfl (by decide) rfl ?_
  refine ar_sub (l2 := [(1, vi ((0 : Nat) : Int)), (0, vr (some 0))]) (tw_s (tw_e 0 rfl (by rfl)) (tw_s (tw_g 1 rfl) tw_s0)) ?_
  refine tw_pst ?_ (l_T_looked (I := I4) hS hq hN hR hV hB4 hP (s 4).toNat 0 (by omega))
  intro r h' q
  exact ⟨q.1, _, _, q.2, hk4, Or.inr rfl⟩
end CF
