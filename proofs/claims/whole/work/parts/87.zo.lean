section ZO0
variable {l : Launch} {G : tG} {K : Nat → Nat × Nat} {I : Nat → Int → Int} {Q : Nat → Int → Option Nat} {n : Nat} {s : Int → Int}
theorem c_R_act2 {p a x : Int} (hS : tSt (K, I, Q, n)) (hs : I 70 = s) (hR : RInv s) (tp : tr p) (ta1 : tr a) : tw_M l G 8 0 0 mR_act [vr (some 69), vi p, vi a, vi x] (K, I, Q, n) (fun r h' => r = some (vi (wrp (rActQ s p a x).1)) ∧ ∃ J, h' = (K, J, Q, n) ∧ J 69 19 = ((rActQ s p a x).2.length : Int) ∧ (∀ i : Nat, i < (rActQ s p a x).2.length → J 76 (i : Int) = (rActQ s p a x).2.getD i 0) ∧ (∀ b, b ≠ 69 → b ≠ 76 → J b = I b) ∧ J 69 3 = I 69 3 ∧ J 69 16 = I 69 16) := by
  obtain ⟨h0, h1, h2, h3, h4, h5, h6, hp, hrw, ht, hr, hb, htp, hv⟩ := id hR
  refine tw_intro okR_act (Nat.le_of_ble_eq_true rfl) ?_
  refine ar_aloadn (k := 0) rfl rfl ?_
  refine ar_iconst (k := 1) rfl ?_
  refine br_putI (k := 2) rfl (hS.k (by decide)) flR_233_12 (by decide) rfl (fun _ _ _ q => by cases q; exact ⟨rfl, rfl⟩) ?_
  refine ar_aloadn (k := 3) rfl rfl ?_
  refine ar_iloadn (k := 4) rfl rfl ?_
  refine br_callV (k := 5) (as := [_]) rfl lvR_115 (hS.k (by decide)) rfl (c_S_isPerson (s := s) hS hs (by omega) h0) rfl (by decide) (by decide) tw_m0 (Nat.le_of_ble_eq_true rfl) ?_
  refine ar_if_eq (k := 6) rfl (by omega) (fun c6 => ?_) (fun c6 => ?_)
  · refine ar_iconst (k := 12) rfl ?_
    refine ar_iret (k := 13) rfl rfl rfl (Nat.le_refl _) ?_
    first
      | (rw [show rActQ s p a x = (0, []) by rw [rActQ, if_pos (by omega)]]; exact ⟨rfl, _, rfl, by rw [uI_at]; exact if_pos rfl, fun i hi => absurd hi (Nat.not_lt_zero i), fun b b1 b2 => uI_off _ _ _ b1, by rw [uI_at, if_neg (by decide)], by rw [uI_at, if_neg (by decide)]⟩)
  · refine ar_iloadn (k := 7) rfl rfl ?_
    refine ar_iconst (k := 8) rfl ?_
    refine ar_iconst (k := 9) rfl ?_
    refine br_callS (k := 10) (as := [_, _, _]) rfl lsR_38 (c_R_in (by omega) (by omega) (by omega)) rfl (by decide) (by decide) tw_m0 (Nat.le_of_ble_eq_true rfl) ?_
    refine ar_if_ne (k := 11) rfl (by omega) (fun c11 => ?_) (fun c11 => ?_)
    · have hw := hp p (by omega) (by omega)
      refine ar_aloadn (k := 14) rfl rfl ?_
      refine ar_aloadn (k := 15) rfl rfl ?_
      refine br_getR (k := 16) rfl (hS.k (by decide)) flR_9_12 (by decide) rfl (hS.r rfl) ?_
      refine ar_bipush (k := 17) rfl (by decide) ?_
      refine ar_iloadn (k := 18) rfl rfl ?_
      refine ar_iadd (k := 19) rfl ?_
      refine br_iald (k := 20) rfl (hS.k (by decide)) (by omega) (by omega) (by decide) ?_
      refine tw_top (y := s (10 + p)) (by exact congrFun hs _) ?_
      refine br_putI (k := 21) rfl (hS.k (by decide)) flR_242_12 (by decide) rfl (fun _ _ _ q => by cases q; exact ⟨rfl, rfl⟩) ?_
      refine ar_aloadn (k := 22) rfl rfl ?_
      refine ar_iloadn (k := 23) rfl rfl ?_
      refine br_putI (k := 24) rfl (hS.k (by decide)) flR_239_12 (by decide) rfl (fun _ _ _ q => by cases q; exact ⟨rfl, rfl⟩) ?_
      refine ar_aloadn (k := 25) rfl rfl ?_
      refine ar_aloadn (k := 26) rfl rfl ?_
      refine br_getR (k := 27) rfl (hS.k (by decide)) flR_9_12 (by decide) rfl (hS.r rfl) ?_
      refine ar_bipush (k := 28) rfl (by decide) ?_
      refine ar_iloadn (k := 29) rfl rfl ?_
      refine ar_iadd (k := 30) rfl ?_
      refine br_iald (k := 31) rfl (hS.k (by decide)) (by omega) (by omega) (by decide) ?_
      refine tw_top (y := s (18 + p)) (by exact congrFun hs _) ?_
      refine br_putI (k := 32) rfl (hS.k (by decide)) flR_254_12 (by decide) rfl (fun _ _ _ q => by cases q; exact ⟨rfl, rfl⟩) ?_
      obtain ⟨I0, e0⟩ : ∃ I0, I0 = uI (uI (uI (uI I 69 19 0) 69 20 (s (10 + p))) 69 21 p) 69 22 (s (18 + p)) := ⟨_, rfl⟩
      refine tw_hp (h' := (K, I0, Q, n)) (by rw [e0]; rfl) ?_
      have e20 : I0 69 20 = s (10 + p) := by rw [e0]; simp only [uI_at, Int.reduceEq, reduceIte]
      have e21 : I0 69 21 = p := by rw [e0]; simp only [uI_at, Int.reduceEq, reduceIte]
      have e22 : I0 69 22 = s (18 + p) := by rw [e0]; simp only [uI_at, Int.reduceEq, reduceIte]
      have hta0 : ta I0 I0 [] := ⟨by rw [e0]; simp only [uI_at, Int.reduceEq, reduceIte]; rfl, fun i hi => absurd hi (Nat.not_lt_zero i), fun _ _ _ => rfl, fun _ _ => rfl⟩
      refine ar_iloadn (k := 33) rfl rfl ?_
      refine ar_if_ne (k := 34) rfl (by omega) (fun c34 => ?_) (fun c34 => ?_)
      · refine ar_iloadn (k := 39) rfl rfl ?_
        refine ar_iconst (k := 40) rfl ?_
        refine ar_icmp_ne (k := 41) rfl (by omega) (by omega) (fun c41 => ?_) (fun c41 => ?_)
        · refine ar_aloadn (k := 46) rfl rfl ?_
          refine ar_iloadn (k := 47) rfl rfl ?_
          refine ar_callV (k := 48) (as := [_]) rfl lvR_266 (hS.k (by decide)) rfl (c_R_tellsActs (I := I0) (L := []) hS hta0 e20 e21 e22 hw.1 (by decide)) rfl (by decide) (by decide) tw_m0 (Nat.le_of_ble_eq_true rfl) (fun r h' hp => ?_)
          obtain ⟨rfl, I48, rfl, hk48⟩ := hp
          refine ar_wrap ?_
          refine ar_iret (k := 49) rfl rfl rfl (Nat.le_refl _) ?_
          rw [show rActQ s p a x = aT (s (10 + p)) p (s (18 + p)) x by rw [rActQ, if_neg (by omega)]; (repeat' split) <;> first | rfl | (exfalso; omega)]
          refine ⟨rfl, _, rfl, hk48.1, hk48.2.1, fun b b1 b2 => ?_, ?_⟩
          · rw [hk48.2.2.1 b b1 b2, e0]
            simp only [uI_off _ _ _ b1]
          · refine ⟨?_, ?_⟩
            · rw [hk48.2.2.2 3 (by decide), e0]
              simp only [uI_at, Int.reduceEq, reduceIte]
            · rw [hk48.2.2.2 16 (by decide), e0]
              simp only [uI_at, Int.reduceEq, reduceIte]
        · refine ar_aloadn (k := 42) rfl rfl ?_
          refine ar_iloadn (k := 43) rfl rfl ?_
          refine ar_callV (k := 44) (as := [_]) rfl lvR_260 (hS.k (by decide)) rfl (c_R_waitsActs (I := I0) (L := []) hS hta0 e20 e21 e22 hw.1 (by decide)) rfl (by decide) (by decide) tw_m0 (Nat.le_of_ble_eq_true rfl) (fun r h' hp => ?_)
          obtain ⟨rfl, I44, rfl, hk44⟩ := hp
          refine ar_goto (k := 45) rfl ?_
          refine ar_wrap ?_
          refine ar_iret (k := 49) rfl rfl rfl (Nat.le_refl _) ?_
          rw [show rActQ s p a x = aW (s (10 + p)) p (s (18 + p)) x by rw [rActQ, if_neg (by omega)]; (repeat' split) <;> first | rfl | (exfalso; omega)]
          refine ⟨rfl, _, rfl, hk44.1, hk44.2.1, fun b b1 b2 => ?_, ?_⟩
          · rw [hk44.2.2.1 b b1 b2, e0]
            simp only [uI_off _ _ _ b1]
          · refine ⟨?_, ?_⟩
            · rw [hk44.2.2.2 3 (by decide), e0]
              simp only [uI_at, Int.reduceEq, reduceIte]
            · rw [hk44.2.2.2 16 (by decide), e0]
              simp only [uI_at, Int.reduceEq, reduceIte]
      · refine ar_aloadn (k := 35) rfl rfl ?_
        refine ar_iloadn (k := 36) rfl rfl ?_
        refine ar_callV (k := 37) (as := [_]) rfl lvR_251 (hS.k (by decide)) rfl (c_R_liftsActs (I := I0) (L := []) hS hta0 e20 e21 e22 hw.1 (by decide)) rfl (by decide) (by decide) tw_m0 (Nat.le_of_ble_eq_true rfl) (fun r h' hp => ?_)
        obtain ⟨rfl, I37, rfl, hk37⟩ := hp
        refine ar_goto (k := 38) rfl ?_
        refine ar_wrap ?_
        refine ar_iret (k := 49) rfl rfl rfl (Nat.le_refl _) ?_
        rw [show rActQ s p a x = aL (s (10 + p)) p x by rw [rActQ, if_neg (by omega)]; (repeat' split) <;> first | rfl | (exfalso; omega)]
        refine ⟨rfl, _, rfl, hk37.1, hk37.2.1, fun b b1 b2 => ?_, ?_⟩
        · rw [hk37.2.2.1 b b1 b2, e0]
          simp only [uI_off _ _ _ b1]
        · refine ⟨?_, ?_⟩
          · rw [hk37.2.2.2 3 (by decide), e0]
            simp only [uI_at, Int.reduceEq, reduceIte]
          · rw [hk37.2.2.2 16 (by decide), e0]
            simp only [uI_at, Int.reduceEq, reduceIte]
    · refine ar_iconst (k := 12) rfl ?_
      refine ar_iret (k := 13) rfl rfl rfl (Nat.le_refl _) ?_
      first
        | (rw [show rActQ s p a x = (0, []) by rw [rActQ, if_pos (by omega)]]; exact ⟨rfl, _, rfl, by rw [uI_at]; exact if_pos rfl, fun i hi => absurd hi (Nat.not_lt_zero i), fun b b1 b2 => uI_off _ _ _ b1, by rw [uI_at, if_neg (by decide)], by rw [uI_at, if_neg (by decide)]⟩)
end ZO0
/-- what an act leaves behind: few, and small -/
theorem aL_b {q i x : Int} : (aL q i x).2.length ≤ 2 ∧ ∀ y ∈ (aL q i x).2, 0 ≤ y ∧ y ≤ 99 := by
  unfold aL
  (repeat' split) <;> refine ⟨by simp, fun y hy => ?_⟩ <;> simp at hy <;> omega
theorem aW_b {q i v x : Int} : (aW q i v x).2.length ≤ 4 ∧ ∀ y ∈ (aW q i v x).2, 0 ≤ y ∧ y ≤ 99 := by
  obtain ⟨h1, h2⟩ := aL_b (q := q) (i := i) (x := x)
  unfold aW aW0
  (repeat' split) <;> refine ⟨by simp only [List.length_cons]; omega, fun y hy => ?_⟩ <;> simp only [List.mem_cons] at hy
  · rcases hy with rfl | rfl | hy
    · omega
    · omega
    · exact h2 y hy
  · rcases hy with rfl | rfl | hy
    · omega
    · omega
    · exact h2 y hy
  · rcases hy with rfl | hy
    · omega
    · exact h2 y hy
theorem aT_b {q i v x : Int} : (aT q i v x).2.length ≤ 8 ∧ ∀ y ∈ (aT q i v x).2, 0 ≤ y ∧ y ≤ 99 := by
  obtain ⟨h1, h2⟩ := aW_b (q := q) (i := i) (v := v) (x := x)
  obtain ⟨g1, g2⟩ := aW_b (q := q) (i := i) (v := v) (x := x - 1)
  obtain ⟨k1, k2⟩ := aL_b (q := q) (i := i) (x := 2)
  unfold aT aT0
  (repeat' split) <;> refine ⟨by simp only [List.length_cons, List.length_append]; omega, fun y hy => ?_⟩ <;> simp only [List.mem_cons, List.mem_append] at hy
  · rcases hy with rfl | rfl | hy
    · omega
    · omega
    · exact h2 y hy
  · rcases hy with rfl | (rfl | hy) | hy
    · omega
    · omega
    · exact g2 y hy
    · exact k2 y hy
  · rcases hy with rfl | hy
    · omega
    · exact h2 y hy
theorem rActQ_b {s : Int → Int} {p a x : Int} : (rActQ s p a x).2.length ≤ 20 ∧ ∀ y ∈ (rActQ s p a x).2, tr y := by
  have h1 := aL_b (q := s (10 + p)) (i := p) (x := x)
  have h2 := aW_b (q := s (10 + p)) (i := p) (v := s (18 + p)) (x := x)
  have h3 := aT_b (q := s (10 + p)) (i := p) (v := s (18 + p)) (x := x)
  unfold rActQ
  split
  · exact ⟨by simp, fun y hy => by simp at hy⟩
  · split
    · exact ⟨by omega, fun y hy => by have := h1.2 y hy; omega⟩
    · split
      · exact ⟨by omega, fun y hy => by have := h2.2 y hy; omega⟩
      · exact ⟨by omega, fun y hy => by have := h3.2 y hy; omega⟩
section ZO
variable {l : Launch} {G : tG} {K : Nat → Nat × Nat} {I : Nat → Int → Int} {Q : Nat → Int → Option Nat} {n : Nat} {s : Int → Int}
theorem zo_of {t w : Int} (h : CInv K I Q n) (t_t : tr t) (t_w : tr w) : zOp l G mT_of mR_of [vi t, vi w] vi (K, I, Q, n) := by
  obtain ⟨hS, ⟨hN, hP, hW, hR, hV⟩, ⟨hH, hH2⟩, ⟨h57, h59⟩, -⟩ := id h
  exact zq h (c_T_of hS hN hP hW hR hV h57 h59 t_t t_w) (by decide) (ρ := rk) (fun _ _ q => q.q) (fun J Q' hS' e => c_R_of (s := I 70) hS' e hR hV t_t t_w) (by decide)
theorem zo_at {p u : Int} (h : CInv K I Q n) (t_p : tr p) (t_u : tr u) : zOp l G mT_at mR_at [vi p, vi u] vi (K, I, Q, n) := by
  obtain ⟨hS, ⟨hN, hP, hW, hR, hV⟩, ⟨hH, hH2⟩, ⟨h57, h59⟩, -⟩ := id h
  exact zq h (c_T_at hS hN hP hW hR hV h57 h59 t_p t_u) (by decide) (ρ := rk) (fun _ _ q => q.q) (fun J Q' hS' e => c_R_at (s := I 70) hS' e hR hV t_p t_u) (by decide)
theorem zo_worth {t u : Int} (h : CInv K I Q n) (t_t : tr t) (t_u : tr u) : zOp l G mT_worth mR_worth [vi t, vi u] vi (K, I, Q, n) := by
  obtain ⟨hS, ⟨hN, hP, hW, hR, hV⟩, ⟨hH, hH2⟩, ⟨h57, h59⟩, -⟩ := id h
  exact zq h (c_T_worth hS hN hP hW hR hV h57 h59 t_t t_u) (by decide) (ρ := rk) (fun _ _ q => q.q) (fun J Q' hS' e => c_R_worth (s := I 70) hS' e hR hV t_t t_u) (by decide)
theorem zo_hour {u w : Int} (h : CInv K I Q n) (t_u : tr u) (t_w : tr w) : zOp l G mT_hour mR_hour [vi u, vi w] vi (K, I, Q, n) := by
  obtain ⟨hS, ⟨hN, hP, hW, hR, hV⟩, ⟨hH, hH2⟩, ⟨h57, h59⟩, -⟩ := id h
  exact zq h (c_T_hour hS hN hP hW hR hV h57 h59 t_u t_w) (by decide) (ρ := rq) (fun _ _ q => q) (fun J Q' hS' e => c_R_hour (s := I 70) hS' e hR hV t_u t_w) (by decide)
theorem zo_day {w : Int} (h : CInv K I Q n) (t_w : tr w) : zOp l G mT_day mR_day [vi w] vi (K, I, Q, n) := by
  obtain ⟨hS, ⟨hN, hP, hW, hR, hV⟩, ⟨hH, hH2⟩, ⟨h57, h59⟩, -⟩ := id h
  exact zq h (c_T_day hS hN hP hW hR hV h57 h59 t_w) (by decide) (ρ := rq) (fun _ _ q => q) (fun J Q' hS' e => c_R_day (s := I 70) hS' e hR hV t_w) (by decide)
theorem zo_looked (h : CInv K I Q n)  : zOp l G mT_looked mR_looked [] vi (K, I, Q, n) := by
  obtain ⟨hS, ⟨hN, hP, hW, hR, hV⟩, ⟨hH, hH2⟩, ⟨h57, h59⟩, -⟩ := id h
  exact zq h (c_T_looked hS hN hP hW hR hV h57 h59 ) (by decide) (ρ := rk) (fun _ _ q => q.q) (fun J Q' hS' e => c_R_looked (s := I 70) hS' e hR hV ) (by decide)
theorem zo_change {w : Int} (h : CInv K I Q n) (t_w : tr w) : zOp l G mT_change mR_change [vi w] vi (K, I, Q, n) := by
  obtain ⟨hS, ⟨hN, hP, hW, hR, hV⟩, ⟨hH, hH2⟩, ⟨h57, h59⟩, -⟩ := id h
  exact zg h (c_T_change hS hN hP hW hH hR hV h57 h59 t_w) (by decide) (fun J Q' hS' e => c_R_change (s := I 70) hS' e hR hV t_w) (by decide)
theorem zo_away {p : Int} (h : CInv K I Q n) (t_p : tr p) : zOp l G mT_away mR_away [vi p] vi (K, I, Q, n) := by
  obtain ⟨hS, ⟨hN, hP, hW, hR, hV⟩, ⟨hH, hH2⟩, ⟨h57, h59⟩, -⟩ := id h
  exact zg h (c_T_away hS hN hP hW hH hR hV h57 h59 t_p) (by decide) (fun J Q' hS' e => c_R_away (s := I 70) hS' e hR hV t_p) (by decide)
theorem zo_worst (h : CInv K I Q n)  : zOp l G mT_worst mR_worst [] vi (K, I, Q, n) := by
  obtain ⟨hS, ⟨hN, hP, hW, hR, hV⟩, ⟨hH, hH2⟩, ⟨h57, h59⟩, -⟩ := id h
  exact zg h (c_T_worst hS hN hP hW hH hR hV h57 h59 ) (by decide) (fun J Q' hS' e => c_R_worst (s := I 70) hS' e hR hV ) (by decide)
theorem zo_who {p w : Int} (h : CInv K I Q n) (t_p : tr p) (t_w : tr w) : zOp l G mT_who mR_who [vi p, vi w] vi (K, I, Q, n) := by
  obtain ⟨hS, ⟨hN, hP, hW, hR, hV⟩, ⟨hH, hH2⟩, ⟨h57, h59⟩, -⟩ := id h
  exact zf h (c_T_who hS hN hR hP t_p t_w) (by decide) (c_R_who (s := I 70) hS rfl hR t_p t_w) (by decide)
theorem zo_find {w : Int} (h : CInv K I Q n) (t_w : tr w) : zOp l G mT_find mR_find [vi w] vi (K, I, Q, n) := by
  obtain ⟨hS, ⟨hN, hP, hW, hR, hV⟩, ⟨hH, hH2⟩, ⟨h57, h59⟩, -⟩ := id h
  exact zf h (c_T_find hS hN hR t_w) (by decide) (c_R_find (s := I 70) hS rfl hR t_w) (by decide)
theorem zo_fits {w : Int} (h : CInv K I Q n) (t_w : tr w) : zOp l G mT_fits mR_fits [vi w] vi (K, I, Q, n) := by
  obtain ⟨hS, ⟨hN, hP, hW, hR, hV⟩, ⟨hH, hH2⟩, ⟨h57, h59⟩, -⟩ := id h
  exact zf h (c_T_fits hS hN hR t_w) (by decide) (c_R_fits (s := I 70) hS rfl hR t_w) (by decide)
theorem zo_once {p q m w : Int} (h : CInv K I Q n) (t_p : tr p) (t_q : tr q) (t_m : tr m) (t_w : tr w) : zOp l G mT_once mR_once [vi p, vi q, vi m, vi w] vl (K, I, Q, n) := zf h (c_T_once t_p t_q t_m t_w) (by decide) (c_R_once t_p t_q t_m t_w) (by decide)
theorem zo_as {p b : Int} (h : CInv K I Q n) (t_p : tr p) (t_b : tr b) : zOp l G mT_as mR_as [vi p, vi b] vi (K, I, Q, n) := by
  obtain ⟨hS, ⟨hN, hP, hW, hR, hV⟩, ⟨hH, hH2⟩, ⟨h57, h59⟩, -⟩ := id h
  have e : (rs_as (I 70) p b).2 = I 70 := by unfold rs_as; split <;> rfl
  have c := c_R_as (l := l) (G := G) hS hR t_p t_b
  rw [e, setA_id] at c
  exact zf h (c_T_as hS hN hR hP t_p t_b) (by decide) c (by decide)
theorem zo_count {w : Int} (h : CInv K I Q n) (t_w : tr w) : zOp l G mT_count mR_count [vi w] vi (K, I, Q, n) := by
  obtain ⟨hS, ⟨hN, hP, hW, hR, hV⟩, ⟨hH, hH2⟩, ⟨h57, h59⟩, -⟩ := id h
  by_cases g : w = 6
  · subst g
    obtain ⟨-, -, -, -, -, -, ⟨T, t1, t2, t3, t4, t5⟩, -⟩ := id h
    exact zf h (c_T_count6 hS t3) (by decide) (c_R_count6 hS t4) (by decide)
  · have e : (rs_count (I 70) w).2 = I 70 := rfl
    have c := c_R_count (l := l) (G := G) hS hR t_w g
    rw [e, setA_id] at c
    exact zf h (c_T_count hS hN hR t_w g) (by decide) c (by decide)
theorem zo_trace {x : Int} (h : CInv K I Q n) (t_x : tr x) : zOp l G mT_trace mR_trace [vi x] vi (K, I, Q, n) := by
  obtain ⟨hS, ⟨hN, hP, hW, hR, hV⟩, ⟨hH, hH2⟩, ⟨h57, h59⟩, -⟩ := id h
  obtain ⟨-, -, -, -, -, -, ⟨T, t1, t2, t3, t4, t5⟩, -⟩ := id h
  have c1 := c_T_trace (l := l) (G := G) hS t_x t3 (by omega)
  have c2 := c_R_trace (l := l) (G := G) hS t_x t4 (by omega) (fun i hi => by
    rw [(t5 i hi).2, List.getD_eq_getElem?_getD, List.getElem?_eq_getElem hi]
    exact t2 _ (List.getElem_mem hi))
  have e : (if 0 ≤ x ∧ x ≤ (if (T.length : Int) < 20 then (T.length : Int) else 20) - 1 then I 62 x else -1) = (if 0 ≤ x ∧ x ≤ (if (T.length : Int) < 20 then (T.length : Int) else 20) - 1 then I 76 x else -1) := by
    by_cases g : 0 ≤ x ∧ x ≤ (if (T.length : Int) < 20 then (T.length : Int) else 20) - 1
    · rw [if_pos g, if_pos g]
      have hx : x < (T.length : Int) := by
        have g2 := g.2
        split at g2 <;> omega
      have g0 := g.1
      have ex : x = ((x.toNat : Nat) : Int) := by omega
      rw [ex]
      exact (t5 x.toNat (by omega)).1.trans (t5 x.toNat (by omega)).2.symm
    · rw [if_neg g, if_neg g]
  rw [e] at c1
  exact zf h c1 (by decide) c2 (by decide)
theorem zo_feed {x : Int} (h : CInv K I Q n) (t_x : tr x) : zOp l G mT_feed mR_feed [vi x] vi (K, I, Q, n) := by
  obtain ⟨hS, ⟨hN, hP, hW, hR, hV⟩, ⟨hH, hH2⟩, ⟨h57, h59⟩, -⟩ := id h
  obtain ⟨h0, h1, h2, h3, h4, h5, h6, hp, hrw, ht, hr, hb, htp, hv⟩ := id hR
  have hk : rsk (I 70) (rs_feed (I 70) x).2 := by
    unfold rs_feed
    split
    · exact rsk.rf
    · split
      · exact rsk.rf
      · exact (rsk.rf.up (by omega)).up (by omega)
  refine zc (A := rs_feed (I 70) x) (d2 := 2) h (c_T_feed hS hN hR t_x) (by decide) (fun J hS' e => ?_) (by decide) hk (RAll_feed ⟨hR, hV⟩)
  have c := c_R_feed (l := l) (G := G) hS' (by rw [e]; exact hR) t_x
  rw [e] at c
  exact c
theorem zo_free {p x : Int} (h : CInv K I Q n) (t_p : tr p) (t_x : tr x) : zOp l G mT_free mR_free [vi p, vi x] vi (K, I, Q, n) := by
  obtain ⟨hS, ⟨hN, hP, hW, hR, hV⟩, ⟨hH, hH2⟩, ⟨h57, h59⟩, -⟩ := id h
  obtain ⟨h0, h1, h2, h3, h4, h5, h6, hp, hrw, ht, hr, hb, htp, hv⟩ := id hR
  have hk : rsk (I 70) (rs_free (I 70) p x).2 := by
    unfold rs_free
    split
    · exact rsk.rf
    · split
      · exact rsk.rf
      · exact rsk.rf.up (by omega)
  refine zc (A := rs_free (I 70) p x) (d2 := 3) h (c_T_free hS hN hR t_p t_x) (by decide) (fun J hS' e => ?_) (by decide) hk (RAll_free ⟨hR, hV⟩)
  have c := c_R_free (l := l) (G := G) hS' (by rw [e]; exact hR) t_p t_x
  rw [e] at c
  exact c
theorem zo_row {p a t : Int} (h : CInv K I Q n) (t_p : tr p) (t_a : tr a) (t_t : tr t) : zOp l G mT_row mR_row [vi p, vi a, vi t] vi (K, I, Q, n) := by
  obtain ⟨hS, ⟨hN, hP, hW, hR, hV⟩, ⟨hH, hH2⟩, ⟨h57, h59⟩, -⟩ := id h
  obtain ⟨h0, h1, h2, h3, h4, h5, h6, hp, hrw, ht, hr, hb, htp, hv⟩ := id hR
  have hk : rsk (I 70) (rs_row (I 70) p a t).2 := by
    unfold rs_row
    split
    · exact rsk.rf
    · split
      · exact rsk.rf
      · split
        · exact rsk.rf
        · exact rsk.rf.up (by omega)
  refine zc (A := rs_row (I 70) p a t) (d2 := 3) h (c_T_row hS hN hR hP t_p t_a t_t) (by decide) (fun J hS' e => ?_) (by decide) hk (RAll_row ⟨hR, hV⟩)
  have c := c_R_row (l := l) (G := G) hS' (by rw [e]; exact hR) t_p t_a t_t
  rw [e] at c
  exact c
theorem zo_tool {a p : Int} (h : CInv K I Q n) (t_a : tr a) (t_p : tr p) : zOp l G mT_tool mR_tool [vi a, vi p] vi (K, I, Q, n) := by
  obtain ⟨hS, ⟨hN, hP, hW, hR, hV⟩, ⟨hH, hH2⟩, ⟨h57, h59⟩, -⟩ := id h
  obtain ⟨h0, h1, h2, h3, h4, h5, h6, hp, hrw, ht, hr, hb, htp, hv⟩ := id hR
  have hk : rsk (I 70) (rs_tool (I 70) a p).2 := by
    unfold rs_tool
    split
    · exact rsk.rf
    · split
      · exact rsk.rf
      · split
        · exact rsk.rf
        · exact ((((rsk.rf.up (by omega)).up (by omega)).up (by omega)).up (by omega)).up (by omega)
  refine zc (A := rs_tool (I 70) a p) (d2 := 3) h (c_T_tool hS hN hR t_a t_p) (by decide) (fun J hS' e => ?_) (by decide) hk (RAll_tool ⟨hR, hV⟩)
  have c := c_R_tool (l := l) (G := G) hS' (by rw [e]; exact hR) t_a t_p
  rw [e] at c
  exact c
theorem zo_broken {t b : Int} (h : CInv K I Q n) (t_t : tr t) (t_b : b = 0 ∨ b = 1) : zOp l G mT_broken mR_broken [vi t, vi b] vi (K, I, Q, n) := by
  obtain ⟨hS, ⟨hN, hP, hW, hR, hV⟩, ⟨hH, hH2⟩, ⟨h57, h59⟩, -⟩ := id h
  obtain ⟨h0, h1, h2, h3, h4, h5, h6, hp, hrw, ht, hr, hb, htp, hv⟩ := id hR
  have hk : rsk (I 70) (rs_broken (I 70) t b).2 := by
    unfold rs_broken
    split
    · exact rsk.rf
    · exact rsk.rf.up (by omega)
  refine zc (A := rs_broken (I 70) t b) (d2 := 3) h (c_T_broken hS hN hR t_t t_b) (by decide) (fun J hS' e => ?_) (by decide) hk (RAll_broken ⟨hR, hV⟩)
  have c := c_R_broken (l := l) (G := G) hS' (by rw [e]; exact hR) t_t (show tr b by omega)
  rw [e] at c
  exact c
theorem zo_give {t p : Int} (h : CInv K I Q n) (t_t : tr t) (t_p : tr p) : zOp l G mT_give mR_give [vi t, vi p] vi (K, I, Q, n) := by
  obtain ⟨hS, ⟨hN, hP, hW, hR, hV⟩, ⟨hH, hH2⟩, ⟨h57, h59⟩, -⟩ := id h
  obtain ⟨h0, h1, h2, h3, h4, h5, h6, hp, hrw, ht, hr, hb, htp, hv⟩ := id hR
  have hk : rsk (I 70) (rs_give (I 70) t p).2 := by
    unfold rs_give
    split
    · exact rsk.rf
    · exact rsk.rf.up (by omega)
  refine zc (A := rs_give (I 70) t p) (d2 := 3) h (c_T_give hS hN hR t_t t_p) (by decide) (fun J hS' e => ?_) (by decide) hk (RAll_give ⟨hR, hV⟩)
  have c := c_R_give (l := l) (G := G) hS' (by rw [e]; exact hR) t_t t_p
  rw [e] at c
  exact c
theorem zo_trial {a b x : Int} (h : CInv K I Q n) (t_a : tr a) (t_b : tr b) (t_x : x = 0 ∨ x = 1) : zOp l G mT_trial mR_trial [vi a, vi b, vi x] vi (K, I, Q, n) := by
  obtain ⟨hS, ⟨hN, hP, hW, hR, hV⟩, ⟨hH, hH2⟩, ⟨h57, h59⟩, -⟩ := id h
  obtain ⟨h0, h1, h2, h3, h4, h5, h6, hp, hrw, ht, hr, hb, htp, hv⟩ := id hR
  have hk : rsk (I 70) (rs_trial (I 70) a b x).2 := by
    unfold rs_trial
    split
    · exact rsk.rf
    · split
      · exact rsk.rf
      · split
        · exact rsk.rf
        · exact (((rsk.rf.up (by omega)).up (by omega)).up (by omega)).up (by omega)
  refine zc (A := rs_trial (I 70) a b x) (d2 := 3) h (c_T_trial hS hN hR t_a t_b t_x) (by decide) (fun J hS' e => ?_) (by decide) hk (RAll_trial ⟨hR, hV⟩)
  have c := c_R_trial (l := l) (G := G) hS' (by rw [e]; exact hR) t_a t_b (show tr x by omega)
  rw [e] at c
  exact c
theorem zo_book {u t : Int} (h : CInv K I Q n) (t_u : tr u) (t_t : tr t) : zOp l G mT_book mR_book [vi u, vi t] vi (K, I, Q, n) := by
  obtain ⟨hS, ⟨hN, hP, hW, hR, hV⟩, ⟨hH, hH2⟩, ⟨h57, h59⟩, -⟩ := id h
  obtain ⟨h0, h1, h2, h3, h4, h5, h6, hp, hrw, ht, hr, hb, htp, hv⟩ := id hR
  have hk : rsk (I 70) (rs_book (I 70) u t).2 := by
    unfold rs_book
    split
    · exact rsk.rf
    · split
      · exact rsk.rf
      · exact ((rsk.rf.up (by omega)).up (by omega)).up (by omega)
  refine zc (A := rs_book (I 70) u t) (d2 := 3) h (c_T_book hS hN hR t_u t_t) (by decide) (fun J hS' e => ?_) (by decide) hk (RAll_book ⟨hR, hV⟩)
  have c := c_R_book (l := l) (G := G) hS' (by rw [e]; exact hR) t_u t_t
  rw [e] at c
  exact c
theorem zo_clear (h : CInv K I Q n)  : zOp l G mT_clear mR_clear [] vi (K, I, Q, n) := by
  obtain ⟨hS, ⟨hN, hP, hW, hR, hV⟩, ⟨hH, hH2⟩, ⟨h57, h59⟩, -⟩ := id h
  obtain ⟨h0, h1, h2, h3, h4, h5, h6, hp, hrw, ht, hr, hb, htp, hv⟩ := id hR
  have hk : rsk (I 70) (rs_clear (I 70)).2 := rsk.rf.up (by omega)
  refine zc (A := rs_clear (I 70) ) (d2 := 1) h (c_T_clear hS hN hR ) (by decide) (fun J hS' e => ?_) (by decide) hk (RAll_clear ⟨hR, hV⟩)
  have c := c_R_clear (l := l) (G := G) hS' (by rw [e]; exact hR) 
  rw [e] at c
  exact c
theorem rPart_rsk {s s' : Int → Int} {t : Int} (h : rsk s s') (t1 : 0 ≤ t ∧ t < 10) (ht : s' (94 + t) = -1 ∨ (0 ≤ s' (94 + t) ∧ s' (94 + t) < 10)) : rsk s (rPart s' t) := by
  unfold rPart
  split
  · exact (h.up (by omega)).up (by omega)
  · exact h
theorem zo_twin {a b : Int} (h : CInv K I Q n) (t_a : tr a) (t_b : tr b) : zOp l G mT_twin mR_twin [vi a, vi b] vi (K, I, Q, n) := by
  obtain ⟨hS, ⟨hN, hP, hW, hR, hV⟩, ⟨hH, hH2⟩, ⟨h57, h59⟩, -⟩ := id h
  obtain ⟨h0, h1, h2, h3, h4, h5, h6, hp, hrw, ht, hr, hb, htp, hv⟩ := id hR
  have hk : rsk (I 70) (rs_twin (I 70) a b).2 := by
    unfold rs_twin
    split
    · exact rsk.rf
    · split
      · exact rsk.rf
      · have ha := (ht a (by omega) (by omega)).2.2.1
        have hb' := (ht b (by omega) (by omega)).2.2.1
        have e : rPart (I 70) a (94 + b) = -1 ∨ rPart (I 70) a (94 + b) = I 70 (94 + b) := by
          unfold rPart
          split
          · unfold up
            (repeat' split) <;> simp
          · exact Or.inr rfl
        refine ((rPart_rsk (rPart_rsk rsk.rf (by omega) (by omega)) (by omega) ?_).up (by omega)).up (by omega)
        rcases e with e | e
        · exact Or.inl e
        · rw [e]
          omega
  refine zc (A := rs_twin (I 70) a b) (d2 := 3) h (c_T_twin hS hN hR t_a t_b) (by decide) (fun J hS' e => ?_) (by decide) hk (RAll_twin ⟨hR, hV⟩)
  have c := c_R_twin (l := l) (G := G) hS' (by rw [e]; exact hR) t_a t_b
  rw [e] at c
  exact c
theorem zo_join {w : Int} (h : CInv K I Q n) (t_w : tr w) : zOp l G mT_join mR_join [vi w] vi (K, I, Q, n) := by
  obtain ⟨hS, ⟨hN, hP, hW, hR, hV⟩, ⟨hH, hH2⟩, ⟨h57, h59⟩, -⟩ := id h
  refine ⟨16, 0, 0, _, c_T_join (q := jq I) hS hN hP hW hH hR hV h57 h59 t_w, ⟨by decide, by decide, by decide⟩, fun r h1 hp => ?_⟩
  obtain ⟨rfl, J, Q', rfl, hq, gq, hS'⟩ := hp
  have e69 : J 69 = I 69 := hq.at hS (by omega)
  have e75 : J 75 = I 75 := by
    have e : K 75 = shp 75 := hS.1 75 (by decide)
    exact hq.1 75 (by decide) (by rw [e]; decide) (by rw [e]; decide)
  have ej : jq J = jq I := by
    show (J 69 17, J 69 16, J 75) = _
    rw [e69, e75]
  have hc := h.g hq gq hS'
  have c := c_R_join (l := l) (G := G) (s := I 70) (I := J) hS' (hq.at hS (by omega)) hR hV hc.2.2.2.2.2.2.2 t_w
  rw [ej] at c
  refine ⟨hS', _, rfl, 27, _, c, by decide, fun r2 h2 hp => ?_⟩
  obtain ⟨rfl, L, rfl, hy, hb⟩ := hp
  exact ⟨rfl, hc.r hy.1 hy.2.1 hy.2.2 hb⟩
theorem zo_act {p a x : Int} (h : CInv K I Q n) (t_p : tr p) (t_a : tr a) : zOp l G mT_act mR_act [vi p, vi a, vi x] vi (K, I, Q, n) := by
  obtain ⟨hS, ⟨hN, hP, hW, hR, hV⟩, ⟨hH, hH2⟩, ⟨h57, h59⟩, hsp, ⟨h5, h6⟩, -, h8⟩ := id h
  refine ⟨8, 0, 0, _, c_T_act (x := x) hS hN hR hP t_p t_a, ⟨by decide, by decide, by decide⟩, fun r h1 hp => ?_⟩
  obtain ⟨rfl, J, rfl, j1, j2, j3⟩ := hp
  refine ⟨hS.i, _, rfl, 8, _, c_R_act2 (x := x) (s := I 70) (I := J) hS.i (j3 70 (by decide) (by decide)) hR t_p t_a, by decide, fun r2 h2 hp => ?_⟩
  obtain ⟨rfl, L, rfl, l1, l2, l3, l4, l5⟩ := hp
  have e : ∀ b, b ≠ 61 → b ≠ 62 → b ≠ 69 → b ≠ 76 → L b = I b := fun b b1 b2 b3 b4 => (l3 b b3 b4).trans (j3 b b1 b2)
  have ef : ∀ b, b < 27 ∨ (63 ≤ b ∧ b ≤ 66) ∨ 78 ≤ b → L b = I b := fun b hb => e b (by omega) (by omega) (by omega) (by omega)
  have e70 : L 70 = I 70 := e 70 (by decide) (by decide) (by decide) (by decide)
  have e71 : L 71 = I 71 := e 71 (by decide) (by decide) (by decide) (by decide)
  have e69 : J 69 = I 69 := j3 69 (by decide) (by decide)
  have bb := rActQ_b (s := I 70) (p := p) (a := a) (x := x)
  refine ⟨rfl, hS.i, by rw [show (K, L, Q, n).2.1 70 = L 70 from rfl, e70]; exact CW.fr hS ⟨hN, hP, hW, hR, hV⟩ (Or.inl rfl) ef, ⟨hH, hH2⟩, ?_, hsp, ?_, ⟨(rActQ (I 70) p a x).2, bb.1, bb.2, ?_, l1, fun i hi => ⟨?_, l2 i hi⟩⟩, ?_⟩
  · show L 57 0 = 0 ∧ L 59 0 = 0
    rw [e 57 (by decide) (by decide) (by decide) (by decide), e 59 (by decide) (by decide) (by decide) (by decide)]
    exact ⟨h57, h59⟩
  · show L 0 2 = L 69 3 ∧ (L 0 2 = 0 ∨ (L 0 2 = 1 ∧ CW 14 K L Q n (L 71)))
    rw [ef 0 (by omega), l4, e69, e71]
    refine ⟨h5, ?_⟩
    rcases h6 with h6 | ⟨h6, h7⟩
    · exact Or.inl h6
    · exact Or.inr ⟨h6, h7.fr hS (Or.inr rfl) ef⟩
  · show L 61 1 = _
    rw [l3 61 (by decide) (by decide)]
    exact j1
  · show L 62 (i : Int) = _
    rw [l3 62 (by decide) (by decide)]
    exact j2 i hi
  · show -12000000 ≤ L 69 16 ∧ L 69 16 ≤ 12000000
    rw [l5, e69]
    exact h8
end ZO
