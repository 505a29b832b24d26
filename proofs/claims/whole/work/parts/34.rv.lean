theorem tpe_up {s : Int → Int} {j x : Int} (h : j < 174 ∨ 274 ≤ j) : tpe (up s j x) = tpe s := by
  funext i
  unfold tpe
  by_cases g : 0 ≤ i ∧ i < 100
  · rw [if_pos g, if_pos g, up_ne _ _ (by omega)]
  · rw [if_neg g, if_neg g]
theorem pB_up {s : Int → Int} {a e j x : Int} (h : j < 174 ∨ 274 ≤ j) (hB : pB s a e) : pB (up s j x) a e := ⟨hB.1, hB.2.1, fun i i1 i2 => by rw [up_ne _ _ (by omega)]; exact hB.2.2 i i1 i2⟩
theorem pW_up {s : Int → Int} {a x : Int} {o : List Int} (ha : 0 ≤ a ∧ a < 5) : up (pW s a o) (274 + a) x = pW (up s (274 + a) x) a o := by
  funext i
  unfold pW
  by_cases h : i = 274 + a
  · rw [h, up_at, if_neg (by omega), if_neg (by omega), up_at]
  · rw [up_ne _ _ h, up_ne _ _ h]
theorem pH.bl {I J L : Nat → Int → Int} {s : Int → Int} {a e op x : Int} {q : tP} (ha : 0 ≤ a ∧ a < 5) (h : pH I J s a e op q) (hL : L = uI J 70 (274 + a) x) : pH I L (up s (274 + a) x) a e op q := by
  subst hL
  obtain ⟨g1, g2, g3, g4, g5, g6, g7, g8⟩ := h
  refine ⟨?_, g2, g3, g4, g5, g6, fun b b1 b2 => ?_, g8⟩
  · rw [uI_set, setA_at, g1]
    exact pW_up ha
  · rw [uI_off _ _ _ b2]; exact g7 b b1 b2
section RV
variable {l : Launch} {G : tG} {K : Nat → Nat × Nat} {I J : Nat → Int → Int} {Q : Nat → Int → Option Nat} {n : Nat} {s : Int → Int} {a e op p : Int} {q : tP} {o : List Int}
theorem c_R_much {j : Nat} {x : Int} (hj : j < 6) (hx : tr x) (hS : tSt (K, J, Q, n)) (hB : pB s a e) (hk : pH I J s a e 0 q) (z : pZ e q) : tw_M l G 28 0 0 mR_much [vr (some 69), vi x, vr (some (1000000 + j))] (K, J, Q, n) (fun r h' => r = none ∧ ∃ L, h' = (K, L, Q, n) ∧ pH I L s a e 0 (pMuch (tpe s) e j x q)) := by
  have h1 := pSpl_ok (t := tpe s) hj z
  have z1 := h1.z z
  have h2 := pFig_ok hB z1
  have z2 := h2.z z1
  have g2 := (pFig_bd hB ⟨z1.1, z1.2.1⟩).2.2.2.1
  have h3 := pMust_ok (t := tpe s) (c := 32) (by decide) z2
  have z3 := h3.z z2
  have h4 := pSo_ok hB (pFac_ok hB 6) z3
  have z4 := h4.z z3
  refine tw_intro okR_much (Nat.le_of_ble_eq_true rfl) ?_
  refine ar_aloadn (k := 0) rfl rfl ?_
  refine ar_aloadn (k := 1) rfl rfl ?_
  refine ar_callV (k := 2) (as := [_]) rfl lvR_98 (hS.k (by decide)) rfl (c_R_spells hj hS hB hk ⟨z.1, z.2.1⟩) rfl (by decide) (by decide) tw_m0 (Nat.le_of_ble_eq_true rfl) (fun r h' hp => ?_)
  obtain ⟨rfl, I2, rfl, hk2⟩ := hp
  refine ar_aloadn (k := 3) rfl rfl ?_
  refine ar_callV (k := 4) (as := []) rfl lvR_92 (hS.k (by decide)) rfl (c_R_figures hS hB hk2 ⟨z1.1, z1.2.1⟩) rfl (by decide) (by decide) tw_m0 (Nat.le_of_ble_eq_true rfl) (fun r h' hp => ?_)
  obtain ⟨rfl, I4, rfl, hk4⟩ := hp
  refine ar_istoren (k := 5) (l2 := [(3, _), (0, _), (1, _), (2, _)]) rfl (by decide) rfl ?_
  refine ar_aloadn (k := 6) rfl rfl ?_
  refine ar_bipush (k := 7) rfl (by decide) ?_
  refine ar_callV (k := 8) (as := [_]) rfl lvR_65 (hS.k (by decide)) rfl (c_R_must (c := 32) hS hB hk4 ⟨z2.1, z2.2.1⟩ (by decide)) rfl (by decide) (by decide) tw_m0 (Nat.le_of_ble_eq_true rfl) (fun r h' hp => ?_)
  obtain ⟨rfl, I8, rfl, hk8⟩ := hp
  refine ar_aloadn (k := 9) rfl rfl ?_
  refine ar_callV (k := 10) (as := []) rfl lvR_81 (hS.k (by decide)) rfl (c_R_some hS hB hk8 z3) rfl (by decide) (by decide) tw_m0 (Nat.le_of_ble_eq_true rfl) (fun r h' hp => ?_)
  obtain ⟨rfl, I10, rfl, hk10⟩ := hp
  refine ar_aloadn (k := 11) rfl rfl ?_
  refine ar_iloadn (k := 12) rfl rfl ?_
  refine ar_iloadn (k := 13) rfl rfl ?_
  refine ar_isub (k := 14) rfl ?_
  refine ar_callV (k := 15) (as := [_]) rfl lvR_78 (hS.k (by decide)) rfl (c_R_emits hS hB hk10 ⟨z4.1, z4.2.1⟩ (z4.l hB)) rfl (by decide) (by decide) tw_m0 (Nat.le_of_ble_eq_true rfl) (fun r h' hp => ?_)
  obtain ⟨rfl, I15, rfl, hk15⟩ := hp
  refine ar_ret (k := 16) rfl rfl rfl (Nat.le_refl _) ?_
  exact ⟨rfl, I15, rfl, hk15⟩
theorem c_R_clauseHere {b : Int} (hS : tSt (K, J, Q, n)) (hB : pB s a e) (hk : pH I J (up s (274 + a) b) a e 0 q) (z : pZ e q) : tw_M l G 29 0 0 mR_clauseHere [vr (some 69)] (K, J, Q, n) (fun r h' => r = none ∧ ∃ L, h' = (K, L, Q, n) ∧ pH I L (up s (274 + a) (pCl (tpe s) e (q, b)).2) a e 0 (pCl (tpe s) e (q, b)).1) := by
  have ha := hB.1
  have hh0 := pHere_bd hB z.1
  have hB0 := hB
  rw [← tpe_up (s := s) (j := 274 + a) (x := b) (by omega)] at hh0 ⊢
  replace hB := pB_up (j := 274 + a) (x := b) (by omega) hB
  have h1 := pSpl_ok (t := tpe (up s (274 + a) b)) (j := 5) (by decide) z
  have z1 := h1.z z
  refine tw_intro okR_clauseHere (Nat.le_of_ble_eq_true rfl) ?_
  refine ar_aloadn (k := 0) rfl rfl ?_
  refine br_callV (k := 1) (as := []) rfl lvR_52 (hS.k (by decide)) rfl (c_R_here (p := q.1) hS hB hk ⟨z.1, z.2.1⟩ rfl) rfl (by decide) (by decide) tw_m0 (Nat.le_of_ble_eq_true rfl) ?_
  rcases (show pHere (tpe (up s (274 + a) b)) e q.1 = 98 ∨ pHere (tpe (up s (274 + a) b)) e q.1 = 108 ∨ pHere (tpe (up s (274 + a) b)) e q.1 = 119 ∨ (pHere (tpe (up s (274 + a) b)) e q.1 ≠ 98 ∧ pHere (tpe (up s (274 + a) b)) e q.1 ≠ 108 ∧ pHere (tpe (up s (274 + a) b)) e q.1 ≠ 119) by omega) with q2 | q2 | q2 | q2
  · refine ar_lsw (k := 2) (t := 63) (off := 59) rfl (by omega) rfl (by rw [q2]; rfl) (by decide) ?_
    refine ar_aloadn (k := 13) rfl rfl ?_
    refine ar_ldcS (k := 14) (tx := "bell ") (j := 5) rfl (by decide) (by decide) ?_
    refine ar_callV (k := 15) (as := [_]) rfl lvR_98 (hS.k (by decide)) rfl (c_R_spells (j := 5) (by decide) hS hB hk ⟨z.1, z.2.1⟩) rfl (by decide) (by decide) tw_m0 (Nat.le_of_ble_eq_true rfl) (fun r h' hp => ?_)
    obtain ⟨rfl, I15, rfl, hk15⟩ := hp
    refine ar_aloadn (k := 16) rfl rfl ?_
    refine ar_callV (k := 17) (as := []) rfl lvR_92 (hS.k (by decide)) rfl (c_R_figures hS hB hk15 ⟨z1.1, z1.2.1⟩) rfl (by decide) (by decide) tw_m0 (Nat.le_of_ble_eq_true rfl) (fun r h' hp => ?_)
    obtain ⟨rfl, I17, rfl, hk17⟩ := hp
    have wt : (if (pBel (tpe (up s (274 + a) b)) e q).2.2.1 = true then (1 : Int) else 0) = 0 ∨ (if (pBel (tpe (up s (274 + a) b)) e q).2.2.1 = true then (1 : Int) else 0) = 1 := by split <;> simp
    
    refine ar_istoren (k := 18) (l2 := [(1, _), (0, _)]) rfl (by decide) rfl ?_
    refine ar_aloadn (k := 19) rfl rfl ?_
    refine br_getI (k := 20) rfl (hS.k (by decide)) flR_48_12 (by decide) rfl ?_
    refine tw_top (y := (if (pBel (tpe (up s (274 + a) b)) e q).2.2.1 = true then 1 else 0)) (by exact hk17.2.2.2.2.1) ?_
    refine ar_if_ne (k := 21) rfl (by omega) (fun c21 => ?_) (fun c21 => ?_)
    · refine ar_ret (k := 34) rfl rfl rfl (Nat.le_refl _) ?_
      first
        | (refine ⟨rfl, I17, rfl, ?_⟩; rw [pCl, if_pos (by exact q2)]; exact hk17)
        | (refine ⟨rfl, I17, rfl, ?_⟩; rw [pCl, if_neg (by simp only; omega), if_pos (by exact q2)]; exact hk17)
        | (have hw : (pBel (tpe (up s (274 + a) b)) e q).2.2.1 = true := (by
             by_cases y : (pBel (tpe (up s (274 + a) b)) e q).2.2.1 = true
             · exact y
             · rw [if_neg y] at c21; exfalso; omega)
           refine ⟨rfl, I17, rfl, ?_⟩; rw [pCl, if_neg (by simp only; omega), if_neg (by simp only; omega), if_pos (by exact q2)]
           simp only
           rw [if_pos hw]; exact hk17)
        | (have hw : ¬ (pBel (tpe (up s (274 + a) b)) e q).2.2.1 = true := (by
             by_cases y : (pBel (tpe (up s (274 + a) b)) e q).2.2.1 = true
             · rw [if_pos y] at c21; exfalso; omega
             · exact y)
           refine ⟨rfl, _, rfl, ?_⟩; rw [pCl, if_neg (by simp only; omega), if_neg (by simp only; omega), if_pos (by exact q2)]
           simp only
           rw [if_neg hw]
           have hb := pH.bl (x := (pBel (tpe (up s (274 + a) b)) e q).1) ha hk17 rfl
           rw [up_up] at hb; exact hb)
        | (refine ⟨rfl, I17, rfl, ?_⟩; rw [pCl, if_neg (by simp only; omega), if_neg (by simp only; omega), if_neg (by simp only; omega)]; exact hk17)
    · refine ar_aloadn (k := 22) rfl rfl ?_
      refine br_getR (k := 23) rfl (hS.k (by decide)) flR_9_12 (by decide) rfl (hS.r rfl) ?_
      refine ar_sipush (k := 24) rfl (by decide) ?_
      refine ar_aloadn (k := 25) rfl rfl ?_
      refine br_getI (k := 26) rfl (hS.k (by decide)) flR_69_12 (by decide) rfl ?_
      refine tw_top (y := a) (by exact hk17.2.1) ?_
      refine ar_iadd (k := 27) rfl ?_
      refine ar_iloadn (k := 28) rfl rfl ?_
      refine br_iast (k := 29) rfl (hS.k (by decide)) (by omega) (by omega) (by decide) ?_
      refine ar_goto (k := 30) rfl ?_
      refine ar_ret (k := 34) rfl rfl rfl (Nat.le_refl _) ?_
      first
        | (refine ⟨rfl, I17, rfl, ?_⟩; rw [pCl, if_pos (by exact q2)]; exact hk17)
        | (refine ⟨rfl, I17, rfl, ?_⟩; rw [pCl, if_neg (by simp only; omega), if_pos (by exact q2)]; exact hk17)
        | (have hw : (pBel (tpe (up s (274 + a) b)) e q).2.2.1 = true := (by
             by_cases y : (pBel (tpe (up s (274 + a) b)) e q).2.2.1 = true
             · exact y
             · rw [if_neg y] at c21; exfalso; omega)
           refine ⟨rfl, I17, rfl, ?_⟩; rw [pCl, if_neg (by simp only; omega), if_neg (by simp only; omega), if_pos (by exact q2)]
           simp only
           rw [if_pos hw]; exact hk17)
        | (have hw : ¬ (pBel (tpe (up s (274 + a) b)) e q).2.2.1 = true := (by
             by_cases y : (pBel (tpe (up s (274 + a) b)) e q).2.2.1 = true
             · rw [if_pos y] at c21; exfalso; omega
             · exact y)
           refine ⟨rfl, _, rfl, ?_⟩; rw [pCl, if_neg (by simp only; omega), if_neg (by simp only; omega), if_pos (by exact q2)]
           simp only
           rw [if_neg hw]
           have hb := pH.bl (x := (pBel (tpe (up s (274 + a) b)) e q).1) ha hk17 rfl
           rw [up_up] at hb; exact hb)
        | (refine ⟨rfl, I17, rfl, ?_⟩; rw [pCl, if_neg (by simp only; omega), if_neg (by simp only; omega), if_neg (by simp only; omega)]; exact hk17)
  · refine ar_lsw (k := 2) (t := 51) (off := 47) rfl (by omega) rfl (by rw [q2]; rfl) (by decide) ?_
    refine ar_aloadn (k := 8) rfl rfl ?_
    refine ar_sipush (k := 9) rfl (by decide) ?_
    refine ar_ldcS (k := 10) (tx := "less ") (j := 4) rfl (by decide) (by decide) ?_
    refine ar_callV (k := 11) (as := [_, _]) rfl lvR_104 (hS.k (by decide)) rfl (c_R_much (j := 4) (x := -200) (by decide) (by decide) hS hB hk z) rfl (by decide) (by decide) tw_m0 (Nat.le_of_ble_eq_true rfl) (fun r h' hp => ?_)
    obtain ⟨rfl, I11, rfl, hk11⟩ := hp
    refine ar_goto (k := 12) rfl ?_
    refine ar_ret (k := 34) rfl rfl rfl (Nat.le_refl _) ?_
    first
      | (refine ⟨rfl, I11, rfl, ?_⟩; rw [pCl, if_pos (by exact q2)]; exact hk11)
      | (refine ⟨rfl, I11, rfl, ?_⟩; rw [pCl, if_neg (by simp only; omega), if_pos (by exact q2)]; exact hk11)
      | (have hw : (pBel (tpe (up s (274 + a) b)) e q).2.2.1 = true := (by
           by_cases y : (pBel (tpe (up s (274 + a) b)) e q).2.2.1 = true
           · exact y
           · rw [if_neg y] at c21; exfalso; omega)
         refine ⟨rfl, I11, rfl, ?_⟩; rw [pCl, if_neg (by simp only; omega), if_neg (by simp only; omega), if_pos (by exact q2)]
         simp only
         rw [if_pos hw]; exact hk11)
      | (have hw : ¬ (pBel (tpe (up s (274 + a) b)) e q).2.2.1 = true := (by
           by_cases y : (pBel (tpe (up s (274 + a) b)) e q).2.2.1 = true
           · rw [if_pos y] at c21; exfalso; omega
           · exact y)
         refine ⟨rfl, _, rfl, ?_⟩; rw [pCl, if_neg (by simp only; omega), if_neg (by simp only; omega), if_pos (by exact q2)]
         simp only
         rw [if_neg hw]
         have hb := pH.bl (x := (pBel (tpe (up s (274 + a) b)) e q).1) ha hk11 rfl
         rw [up_up] at hb; exact hb)
      | (refine ⟨rfl, I11, rfl, ?_⟩; rw [pCl, if_neg (by simp only; omega), if_neg (by simp only; omega), if_neg (by simp only; omega)]; exact hk11)
  · refine ar_lsw (k := 2) (t := 40) (off := 36) rfl (by omega) rfl (by rw [q2]; rfl) (by decide) ?_
    refine ar_aloadn (k := 3) rfl rfl ?_
    refine ar_bipush (k := 4) rfl (by decide) ?_
    refine ar_ldcS (k := 5) (tx := "worth ") (j := 0) rfl (by decide) (by decide) ?_
    refine ar_callV (k := 6) (as := [_, _]) rfl lvR_104 (hS.k (by decide)) rfl (c_R_much (j := 0) (x := -10) (by decide) (by decide) hS hB hk z) rfl (by decide) (by decide) tw_m0 (Nat.le_of_ble_eq_true rfl) (fun r h' hp => ?_)
    obtain ⟨rfl, I6, rfl, hk6⟩ := hp
    refine ar_goto (k := 7) rfl ?_
    refine ar_ret (k := 34) rfl rfl rfl (Nat.le_refl _) ?_
    first
      | (refine ⟨rfl, I6, rfl, ?_⟩; rw [pCl, if_pos (by exact q2)]; exact hk6)
      | (refine ⟨rfl, I6, rfl, ?_⟩; rw [pCl, if_neg (by simp only; omega), if_pos (by exact q2)]; exact hk6)
      | (have hw : (pBel (tpe (up s (274 + a) b)) e q).2.2.1 = true := (by
           by_cases y : (pBel (tpe (up s (274 + a) b)) e q).2.2.1 = true
           · exact y
           · rw [if_neg y] at c21; exfalso; omega)
         refine ⟨rfl, I6, rfl, ?_⟩; rw [pCl, if_neg (by simp only; omega), if_neg (by simp only; omega), if_pos (by exact q2)]
         simp only
         rw [if_pos hw]; exact hk6)
      | (have hw : ¬ (pBel (tpe (up s (274 + a) b)) e q).2.2.1 = true := (by
           by_cases y : (pBel (tpe (up s (274 + a) b)) e q).2.2.1 = true
           · rw [if_pos y] at c21; exfalso; omega
           · exact y)
         refine ⟨rfl, _, rfl, ?_⟩; rw [pCl, if_neg (by simp only; omega), if_neg (by simp only; omega), if_pos (by exact q2)]
         simp only
         rw [if_neg hw]
         have hb := pH.bl (x := (pBel (tpe (up s (274 + a) b)) e q).1) ha hk6 rfl
         rw [up_up] at hb; exact hb)
      | (refine ⟨rfl, I6, rfl, ?_⟩; rw [pCl, if_neg (by simp only; omega), if_neg (by simp only; omega), if_neg (by simp only; omega)]; exact hk6)
  · refine ar_lsw (k := 2) (t := 98) (off := 94) rfl (by omega) rfl (by show Op.lookupswitch.offset [(98, 59), (108, 47), (119, 36)] _ _ = _; rw [Op.lookupswitch.offset_cons, if_neg (by omega), Op.lookupswitch.offset_cons, if_neg (by omega), Op.lookupswitch.offset_cons, if_neg (by omega)]; rfl) (by decide) ?_
    refine ar_aloadn (k := 31) rfl rfl ?_
    refine ar_iconst (k := 32) rfl ?_
    refine br_putZJ (k := 33) rfl (hS.k (by decide)) flR_48_12 (by decide) rfl (by omega) (fun _ _ _ q => by cases q; exact ⟨rfl, rfl⟩) (fun I33 e33 => ?_)
    change _ = uI _ 69 7 _ at e33
    have hk33 := pH.w7 hk e33 (y := true) (by rfl)
    refine ar_ret (k := 34) rfl rfl rfl (Nat.le_refl _) ?_
    first
      | (refine ⟨rfl, I33, rfl, ?_⟩; rw [pCl, if_pos (by exact q2)]; exact hk33)
      | (refine ⟨rfl, I33, rfl, ?_⟩; rw [pCl, if_neg (by simp only; omega), if_pos (by exact q2)]; exact hk33)
      | (have hw : (pBel (tpe (up s (274 + a) b)) e q).2.2.1 = true := (by
           by_cases y : (pBel (tpe (up s (274 + a) b)) e q).2.2.1 = true
           · exact y
           · rw [if_neg y] at c21; exfalso; omega)
         refine ⟨rfl, I33, rfl, ?_⟩; rw [pCl, if_neg (by simp only; omega), if_neg (by simp only; omega), if_pos (by exact q2)]
         simp only
         rw [if_pos hw]; exact hk33)
      | (have hw : ¬ (pBel (tpe (up s (274 + a) b)) e q).2.2.1 = true := (by
           by_cases y : (pBel (tpe (up s (274 + a) b)) e q).2.2.1 = true
           · rw [if_pos y] at c21; exfalso; omega
           · exact y)
         refine ⟨rfl, _, rfl, ?_⟩; rw [pCl, if_neg (by simp only; omega), if_neg (by simp only; omega), if_pos (by exact q2)]
         simp only
         rw [if_neg hw]
         have hb := pH.bl (x := (pBel (tpe (up s (274 + a) b)) e q).1) ha hk33 rfl
         rw [up_up] at hb; exact hb)
      | (refine ⟨rfl, I33, rfl, ?_⟩; rw [pCl, if_neg (by simp only; omega), if_neg (by simp only; omega), if_neg (by simp only; omega)]; exact hk33)
theorem pH.st {I L : Nat → Int → Int} {s : Int → Int} {a e : Int} (e1 : L = uI (uI (uI (uI (uI (uI (uI (uI I 69 4 a) 69 6 e) 70 5 0) 70 (274 + a) 6) 70 (279 + a) 0) 69 5 0) 69 7 0) 69 8 0) (hs : I 70 = s) (ha : 0 ≤ a ∧ a < 5) : pH I L (up (up s 5 0) (274 + a) 6) a e 0 (0, false, []) := by
  subst e1; subst hs
  refine ⟨?_, rfl, rfl, rfl, rfl, rfl, fun b b1 b2 => ?_, fun k k1 k2 k3 k4 k5 => ?_⟩
  · show up (up (up (I 70) 5 0) (274 + a) 6) (279 + a) 0 = _
    funext i
    unfold pW
    by_cases h : i = 279 + a
    · rw [h, up_at, if_pos rfl]; rfl
    · rw [up_ne _ _ h, if_neg h, if_neg (by simp only [List.length_nil]; omega)]
  · rw [uI_off _ _ _ b1, uI_off _ _ _ b1, uI_off _ _ _ b1, uI_off _ _ _ b2, uI_off _ _ _ b2, uI_off _ _ _ b2, uI_off _ _ _ b1, uI_off _ _ _ b1]
  · rw [uI_at, if_neg k5, uI_at, if_neg k4, uI_at, if_neg k2, uI_off _ _ _ (by decide), uI_off _ _ _ (by decide), uI_off _ _ _ (by decide), uI_at, if_neg k3, uI_at, if_neg k1]
def rQ (I L : Nat → Int → Int) : Prop := (∀ b, b ≠ 69 → b ≠ 70 → L b = I b) ∧ ∀ k, k ≠ 4 → k ≠ 5 → k ≠ 6 → k ≠ 7 → k ≠ 8 → L 69 k = I 69 k
theorem l_R_valley {s0 : Int → Int} (hS : tSt (K, J, Q, n)) (h2 : 0 ≤ s0 2 ∧ s0 2 < 5) (ha : a = s0 2) (he : e = s0 5) (hB : pB (up s0 5 0) a e) : ∀ (k : Nat) (m : Int) (x : tP × Int) (J : Nat → Int → Int), m + (k : Int) = 10 → 1 ≤ m → pH I J (up (up s0 5 0) (274 + a) x.2) a e 0 x.1 → pZ e x.1 → (0 ≤ x.2 ∧ x.2 ≤ 99) → pVal (tpe s0) e k x = rRead s0 → tw_AW l G mR_valley 30 0 0 n 0 (fun r h' => r = some (vi (rValA s0)) ∧ ∃ L, h' = (K, L, Q, n) ∧ L 70 = rValS s0 ∧ rQ I L) 90 [(1, vi m), (0, vr (some 69))] [] (K, J, Q, n) := by
  have ha5 := hB.1
  have ht0 : tpe (up s0 5 0) = tpe s0 := tpe_up (by omega)
  intro k
  induction k with
  | zero =>
    intro m x J hm m1 hk z hb hr
    obtain ⟨⟨p, w, o⟩, b⟩ := x
    obtain ⟨z1, z2, z3⟩ := id z
    simp only at z1 z2 z3 hk hb
    have hB2 := pB_up (j := 274 + a) (x := b) (by omega) hB
    have ht2 : tpe (up (up s0 5 0) (274 + a) b) = tpe s0 := (tpe_up (by omega)).trans ht0
    have hh0 := pHere_bd hB2 z1
    rw [ht2] at hh0
    cases w
    ·
      refine ar_aloadn (k := 54) rfl rfl ?_
      refine br_getI (k := 55) rfl (hS.k (by decide)) flR_48_12 (by decide) rfl ?_
      refine tw_top (y := 0) (by exact hk.2.2.2.2.1) ?_
      refine ar_if_ne (k := 56) rfl (by omega) (fun c56 => ?_) (fun c56 => ?_)
      · refine ar_aloadn (k := 74) rfl rfl ?_
        refine br_getI (k := 75) rfl (hS.k (by decide)) flR_48_12 (by decide) rfl ?_
        refine tw_top (y := 0) (by exact hk.2.2.2.2.1) ?_
        refine ar_if_ne (k := 76) rfl (by omega) (fun c76 => ?_) (fun c76 => ?_)
        · refine ar_bipush (k := 82) rfl (by decide) ?_
          refine ar_aloadn (k := 83) rfl rfl ?_
          refine br_getI (k := 84) rfl (hS.k (by decide)) flR_42_12 (by decide) rfl ?_
          refine tw_top (y := p) (by exact hk.2.2.1) ?_
          refine ar_isub (k := 85) rfl ?_
          refine ar_iret (k := 86) rfl rfl rfl (Nat.le_refl _) ?_
          first
            | (exfalso; omega)
            | (have hr3 := (show rRead s0 = ((p, false, o), b) by rw [← hr]; rfl)
               refine ⟨?_, J, rfl, ?_, hk.2.2.2.2.2.2.1, hk.2.2.2.2.2.2.2⟩
               · rw [rValA, if_neg (by omega), hr3, if_pos (by simp <;> omega)]
               · rw [rValS, if_neg (by omega), hr3, if_pos (by simp <;> omega), rPut, hr3, hk.1, ha])
        · refine ar_aloadn (k := 77) rfl rfl ?_
          refine br_getI (k := 78) rfl (hS.k (by decide)) flR_42_12 (by decide) rfl ?_
          refine tw_top (y := p) (by exact hk.2.2.1) ?_
          refine ar_aloadn (k := 79) rfl rfl ?_
          refine br_getI (k := 80) rfl (hS.k (by decide)) flR_45_12 (by decide) rfl ?_
          refine tw_top (y := e) (by exact hk.2.2.2.1) ?_
          refine ar_icmp_eq (k := 81) rfl (by omega) (by omega) (fun c81 => ?_) (fun c81 => ?_)
          · refine ar_aloadn (k := 87) rfl rfl ?_
            refine br_getR (k := 88) rfl (hS.k (by decide)) flR_9_12 (by decide) rfl (hS.r rfl) ?_
            refine ar_iconst (k := 89) rfl ?_
            refine ar_dup2 (k := 90) rfl rfl rfl ?_
            refine br_iald (k := 91) rfl (hS.k (by decide)) (by omega) (by omega) (by decide) ?_
            refine tw_top (y := s0 2) (by rw [hk.1]; unfold pW; rw [if_neg (by omega), if_neg (by omega), up_ne _ _ (by omega), up_ne _ _ (by omega)]) ?_
            refine ar_iconst (k := 92) rfl ?_
            refine ar_iadd (k := 93) rfl ?_
            refine br_iast (k := 94) rfl (hS.k (by decide)) (by omega) (by omega) (by decide) ?_
            refine ar_aloadn (k := 95) rfl rfl ?_
            refine br_getR (k := 96) rfl (hS.k (by decide)) flR_9_12 (by decide) rfl (hS.r rfl) ?_
            refine ar_bipush (k := 97) rfl (by decide) ?_
            refine ar_aloadn (k := 98) rfl rfl ?_
            refine br_getI (k := 99) rfl (hS.k (by decide)) flR_69_12 (by decide) rfl ?_
            refine tw_top (y := a) (by exact hk.2.1) ?_
            refine tw_top (y := s0 2) (by exact ha) ?_
            refine br_iast (k := 100) rfl (hS.k (by decide)) (by omega) (by omega) (by decide) ?_
            refine ar_aloadn (k := 101) rfl rfl ?_
            refine br_getI (k := 102) rfl (hS.k (by decide)) flR_69_12 (by decide) rfl ?_
            refine tw_top (y := a) (by exact hk.2.1) ?_
            refine tw_top (y := s0 2) (by exact ha) ?_
            refine ar_iret (k := 103) rfl rfl rfl (Nat.le_refl _) ?_
            first
              | (exfalso; omega)
              | (have hr3 := (show rRead s0 = ((p, false, o), b) by rw [← hr]; rfl)
                 refine ⟨?_, _, rfl, ?_, fun b b1 b2 => ?_, fun k k1 k2 k3 k4 k5 => ?_⟩
                 · rw [rValA, if_neg (by omega), hr3, if_neg (by simp <;> omega)]
                 · rw [rValS, if_neg (by omega), hr3, if_neg (by simp <;> omega), rPut, hr3]
                   rw [uI_set, setA_at, uI_set, setA_at, hk.1, ha]
                 · rw [uI_off _ _ _ b2, uI_off _ _ _ b2]; exact hk.2.2.2.2.2.2.1 b b1 b2
                 · rw [uI_off _ _ _ (by decide), uI_off _ _ _ (by decide)]; exact hk.2.2.2.2.2.2.2 k k1 k2 k3 k4 k5)
          · refine ar_bipush (k := 82) rfl (by decide) ?_
            refine ar_aloadn (k := 83) rfl rfl ?_
            refine br_getI (k := 84) rfl (hS.k (by decide)) flR_42_12 (by decide) rfl ?_
            refine tw_top (y := p) (by exact hk.2.2.1) ?_
            refine ar_isub (k := 85) rfl ?_
            refine ar_iret (k := 86) rfl rfl rfl (Nat.le_refl _) ?_
            first
              | (exfalso; omega)
              | (have hr3 := (show rRead s0 = ((p, false, o), b) by rw [← hr]; rfl)
                 refine ⟨?_, J, rfl, ?_, hk.2.2.2.2.2.2.1, hk.2.2.2.2.2.2.2⟩
                 · rw [rValA, if_neg (by omega), hr3, if_pos (by simp <;> omega)]
                 · rw [rValS, if_neg (by omega), hr3, if_pos (by simp <;> omega), rPut, hr3, hk.1, ha])
      · refine ar_iloadn (k := 57) rfl rfl ?_
        refine ar_bipush (k := 58) rfl (by decide) ?_
        refine ar_icmp_ge (k := 59) rfl (by omega) (by omega) (fun c59 => ?_) (fun c59 => ?_)
        · refine ar_aloadn (k := 74) rfl rfl ?_
          refine br_getI (k := 75) rfl (hS.k (by decide)) flR_48_12 (by decide) rfl ?_
          refine tw_top (y := 0) (by exact hk.2.2.2.2.1) ?_
          refine ar_if_ne (k := 76) rfl (by omega) (fun c76 => ?_) (fun c76 => ?_)
          · refine ar_bipush (k := 82) rfl (by decide) ?_
            refine ar_aloadn (k := 83) rfl rfl ?_
            refine br_getI (k := 84) rfl (hS.k (by decide)) flR_42_12 (by decide) rfl ?_
            refine tw_top (y := p) (by exact hk.2.2.1) ?_
            refine ar_isub (k := 85) rfl ?_
            refine ar_iret (k := 86) rfl rfl rfl (Nat.le_refl _) ?_
            first
              | (exfalso; omega)
              | (have hr3 := (show rRead s0 = ((p, false, o), b) by rw [← hr]; rfl)
                 refine ⟨?_, J, rfl, ?_, hk.2.2.2.2.2.2.1, hk.2.2.2.2.2.2.2⟩
                 · rw [rValA, if_neg (by omega), hr3, if_pos (by simp <;> omega)]
                 · rw [rValS, if_neg (by omega), hr3, if_pos (by simp <;> omega), rPut, hr3, hk.1, ha])
          · refine ar_aloadn (k := 77) rfl rfl ?_
            refine br_getI (k := 78) rfl (hS.k (by decide)) flR_42_12 (by decide) rfl ?_
            refine tw_top (y := p) (by exact hk.2.2.1) ?_
            refine ar_aloadn (k := 79) rfl rfl ?_
            refine br_getI (k := 80) rfl (hS.k (by decide)) flR_45_12 (by decide) rfl ?_
            refine tw_top (y := e) (by exact hk.2.2.2.1) ?_
            refine ar_icmp_eq (k := 81) rfl (by omega) (by omega) (fun c81 => ?_) (fun c81 => ?_)
            · refine ar_aloadn (k := 87) rfl rfl ?_
              refine br_getR (k := 88) rfl (hS.k (by decide)) flR_9_12 (by decide) rfl (hS.r rfl) ?_
              refine ar_iconst (k := 89) rfl ?_
              refine ar_dup2 (k := 90) rfl rfl rfl ?_
              refine br_iald (k := 91) rfl (hS.k (by decide)) (by omega) (by omega) (by decide) ?_
              refine tw_top (y := s0 2) (by rw [hk.1]; unfold pW; rw [if_neg (by omega), if_neg (by omega), up_ne _ _ (by omega), up_ne _ _ (by omega)]) ?_
              refine ar_iconst (k := 92) rfl ?_
              refine ar_iadd (k := 93) rfl ?_
              refine br_iast (k := 94) rfl (hS.k (by decide)) (by omega) (by omega) (by decide) ?_
              refine ar_aloadn (k := 95) rfl rfl ?_
              refine br_getR (k := 96) rfl (hS.k (by decide)) flR_9_12 (by decide) rfl (hS.r rfl) ?_
              refine ar_bipush (k := 97) rfl (by decide) ?_
              refine ar_aloadn (k := 98) rfl rfl ?_
              refine br_getI (k := 99) rfl (hS.k (by decide)) flR_69_12 (by decide) rfl ?_
              refine tw_top (y := a) (by exact hk.2.1) ?_
              refine tw_top (y := s0 2) (by exact ha) ?_
              refine br_iast (k := 100) rfl (hS.k (by decide)) (by omega) (by omega) (by decide) ?_
              refine ar_aloadn (k := 101) rfl rfl ?_
              refine br_getI (k := 102) rfl (hS.k (by decide)) flR_69_12 (by decide) rfl ?_
              refine tw_top (y := a) (by exact hk.2.1) ?_
              refine tw_top (y := s0 2) (by exact ha) ?_
              refine ar_iret (k := 103) rfl rfl rfl (Nat.le_refl _) ?_
              first
                | (exfalso; omega)
                | (have hr3 := (show rRead s0 = ((p, false, o), b) by rw [← hr]; rfl)
                   refine ⟨?_, _, rfl, ?_, fun b b1 b2 => ?_, fun k k1 k2 k3 k4 k5 => ?_⟩
                   · rw [rValA, if_neg (by omega), hr3, if_neg (by simp <;> omega)]
                   · rw [rValS, if_neg (by omega), hr3, if_neg (by simp <;> omega), rPut, hr3]
                     rw [uI_set, setA_at, uI_set, setA_at, hk.1, ha]
                   · rw [uI_off _ _ _ b2, uI_off _ _ _ b2]; exact hk.2.2.2.2.2.2.1 b b1 b2
                   · rw [uI_off _ _ _ (by decide), uI_off _ _ _ (by decide)]; exact hk.2.2.2.2.2.2.2 k k1 k2 k3 k4 k5)
            · refine ar_bipush (k := 82) rfl (by decide) ?_
              refine ar_aloadn (k := 83) rfl rfl ?_
              refine br_getI (k := 84) rfl (hS.k (by decide)) flR_42_12 (by decide) rfl ?_
              refine tw_top (y := p) (by exact hk.2.2.1) ?_
              refine ar_isub (k := 85) rfl ?_
              refine ar_iret (k := 86) rfl rfl rfl (Nat.le_refl _) ?_
              first
                | (exfalso; omega)
                | (have hr3 := (show rRead s0 = ((p, false, o), b) by rw [← hr]; rfl)
                   refine ⟨?_, J, rfl, ?_, hk.2.2.2.2.2.2.1, hk.2.2.2.2.2.2.2⟩
                   · rw [rValA, if_neg (by omega), hr3, if_pos (by simp <;> omega)]
                   · rw [rValS, if_neg (by omega), hr3, if_pos (by simp <;> omega), rPut, hr3, hk.1, ha])
        · exfalso; omega
    ·
      refine ar_aloadn (k := 54) rfl rfl ?_
      refine br_getI (k := 55) rfl (hS.k (by decide)) flR_48_12 (by decide) rfl ?_
      refine tw_top (y := 1) (by exact hk.2.2.2.2.1) ?_
      refine ar_if_ne (k := 56) rfl (by omega) (fun c56 => ?_) (fun c56 => ?_)
      · refine ar_aloadn (k := 74) rfl rfl ?_
        refine br_getI (k := 75) rfl (hS.k (by decide)) flR_48_12 (by decide) rfl ?_
        refine tw_top (y := 1) (by exact hk.2.2.2.2.1) ?_
        refine ar_if_ne (k := 76) rfl (by omega) (fun c76 => ?_) (fun c76 => ?_)
        · refine ar_bipush (k := 82) rfl (by decide) ?_
          refine ar_aloadn (k := 83) rfl rfl ?_
          refine br_getI (k := 84) rfl (hS.k (by decide)) flR_42_12 (by decide) rfl ?_
          refine tw_top (y := p) (by exact hk.2.2.1) ?_
          refine ar_isub (k := 85) rfl ?_
          refine ar_iret (k := 86) rfl rfl rfl (Nat.le_refl _) ?_
          first
            | (exfalso; omega)
            | (have hr3 := (show rRead s0 = ((p, true, o), b) by rw [← hr]; rfl)
               refine ⟨?_, J, rfl, ?_, hk.2.2.2.2.2.2.1, hk.2.2.2.2.2.2.2⟩
               · rw [rValA, if_neg (by omega), hr3, if_pos (by simp <;> omega)]
               · rw [rValS, if_neg (by omega), hr3, if_pos (by simp <;> omega), rPut, hr3, hk.1, ha])
        · refine ar_aloadn (k := 77) rfl rfl ?_
          refine br_getI (k := 78) rfl (hS.k (by decide)) flR_42_12 (by decide) rfl ?_
          refine tw_top (y := p) (by exact hk.2.2.1) ?_
          refine ar_aloadn (k := 79) rfl rfl ?_
          refine br_getI (k := 80) rfl (hS.k (by decide)) flR_45_12 (by decide) rfl ?_
          refine tw_top (y := e) (by exact hk.2.2.2.1) ?_
          refine ar_icmp_eq (k := 81) rfl (by omega) (by omega) (fun c81 => ?_) (fun c81 => ?_)
          · refine ar_aloadn (k := 87) rfl rfl ?_
            refine br_getR (k := 88) rfl (hS.k (by decide)) flR_9_12 (by decide) rfl (hS.r rfl) ?_
            refine ar_iconst (k := 89) rfl ?_
            refine ar_dup2 (k := 90) rfl rfl rfl ?_
            refine br_iald (k := 91) rfl (hS.k (by decide)) (by omega) (by omega) (by decide) ?_
            refine tw_top (y := s0 2) (by rw [hk.1]; unfold pW; rw [if_neg (by omega), if_neg (by omega), up_ne _ _ (by omega), up_ne _ _ (by omega)]) ?_
            refine ar_iconst (k := 92) rfl ?_
            refine ar_iadd (k := 93) rfl ?_
            refine br_iast (k := 94) rfl (hS.k (by decide)) (by omega) (by omega) (by decide) ?_
            refine ar_aloadn (k := 95) rfl rfl ?_
            refine br_getR (k := 96) rfl (hS.k (by decide)) flR_9_12 (by decide) rfl (hS.r rfl) ?_
            refine ar_bipush (k := 97) rfl (by decide) ?_
            refine ar_aloadn (k := 98) rfl rfl ?_
            refine br_getI (k := 99) rfl (hS.k (by decide)) flR_69_12 (by decide) rfl ?_
            refine tw_top (y := a) (by exact hk.2.1) ?_
            refine tw_top (y := s0 2) (by exact ha) ?_
            refine br_iast (k := 100) rfl (hS.k (by decide)) (by omega) (by omega) (by decide) ?_
            refine ar_aloadn (k := 101) rfl rfl ?_
            refine br_getI (k := 102) rfl (hS.k (by decide)) flR_69_12 (by decide) rfl ?_
            refine tw_top (y := a) (by exact hk.2.1) ?_
            refine tw_top (y := s0 2) (by exact ha) ?_
            refine ar_iret (k := 103) rfl rfl rfl (Nat.le_refl _) ?_
            first
              | (exfalso; omega)
              | (have hr3 := (show rRead s0 = ((p, true, o), b) by rw [← hr]; rfl)
                 refine ⟨?_, _, rfl, ?_, fun b b1 b2 => ?_, fun k k1 k2 k3 k4 k5 => ?_⟩
                 · rw [rValA, if_neg (by omega), hr3, if_neg (by simp <;> omega)]
                 · rw [rValS, if_neg (by omega), hr3, if_neg (by simp <;> omega), rPut, hr3]
                   rw [uI_set, setA_at, uI_set, setA_at, hk.1, ha]
                 · rw [uI_off _ _ _ b2, uI_off _ _ _ b2]; exact hk.2.2.2.2.2.2.1 b b1 b2
                 · rw [uI_off _ _ _ (by decide), uI_off _ _ _ (by decide)]; exact hk.2.2.2.2.2.2.2 k k1 k2 k3 k4 k5)
          · refine ar_bipush (k := 82) rfl (by decide) ?_
            refine ar_aloadn (k := 83) rfl rfl ?_
            refine br_getI (k := 84) rfl (hS.k (by decide)) flR_42_12 (by decide) rfl ?_
            refine tw_top (y := p) (by exact hk.2.2.1) ?_
            refine ar_isub (k := 85) rfl ?_
            refine ar_iret (k := 86) rfl rfl rfl (Nat.le_refl _) ?_
            first
              | (exfalso; omega)
              | (have hr3 := (show rRead s0 = ((p, true, o), b) by rw [← hr]; rfl)
                 refine ⟨?_, J, rfl, ?_, hk.2.2.2.2.2.2.1, hk.2.2.2.2.2.2.2⟩
                 · rw [rValA, if_neg (by omega), hr3, if_pos (by simp <;> omega)]
                 · rw [rValS, if_neg (by omega), hr3, if_pos (by simp <;> omega), rPut, hr3, hk.1, ha])
      · refine ar_iloadn (k := 57) rfl rfl ?_
        refine ar_bipush (k := 58) rfl (by decide) ?_
        refine ar_icmp_ge (k := 59) rfl (by omega) (by omega) (fun c59 => ?_) (fun c59 => ?_)
        · refine ar_aloadn (k := 74) rfl rfl ?_
          refine br_getI (k := 75) rfl (hS.k (by decide)) flR_48_12 (by decide) rfl ?_
          refine tw_top (y := 1) (by exact hk.2.2.2.2.1) ?_
          refine ar_if_ne (k := 76) rfl (by omega) (fun c76 => ?_) (fun c76 => ?_)
          · refine ar_bipush (k := 82) rfl (by decide) ?_
            refine ar_aloadn (k := 83) rfl rfl ?_
            refine br_getI (k := 84) rfl (hS.k (by decide)) flR_42_12 (by decide) rfl ?_
            refine tw_top (y := p) (by exact hk.2.2.1) ?_
            refine ar_isub (k := 85) rfl ?_
            refine ar_iret (k := 86) rfl rfl rfl (Nat.le_refl _) ?_
            first
              | (exfalso; omega)
              | (have hr3 := (show rRead s0 = ((p, true, o), b) by rw [← hr]; rfl)
                 refine ⟨?_, J, rfl, ?_, hk.2.2.2.2.2.2.1, hk.2.2.2.2.2.2.2⟩
                 · rw [rValA, if_neg (by omega), hr3, if_pos (by simp <;> omega)]
                 · rw [rValS, if_neg (by omega), hr3, if_pos (by simp <;> omega), rPut, hr3, hk.1, ha])
          · refine ar_aloadn (k := 77) rfl rfl ?_
            refine br_getI (k := 78) rfl (hS.k (by decide)) flR_42_12 (by decide) rfl ?_
            refine tw_top (y := p) (by exact hk.2.2.1) ?_
            refine ar_aloadn (k := 79) rfl rfl ?_
            refine br_getI (k := 80) rfl (hS.k (by decide)) flR_45_12 (by decide) rfl ?_
            refine tw_top (y := e) (by exact hk.2.2.2.1) ?_
            refine ar_icmp_eq (k := 81) rfl (by omega) (by omega) (fun c81 => ?_) (fun c81 => ?_)
            · refine ar_aloadn (k := 87) rfl rfl ?_
              refine br_getR (k := 88) rfl (hS.k (by decide)) flR_9_12 (by decide) rfl (hS.r rfl) ?_
              refine ar_iconst (k := 89) rfl ?_
              refine ar_dup2 (k := 90) rfl rfl rfl ?_
              refine br_iald (k := 91) rfl (hS.k (by decide)) (by omega) (by omega) (by decide) ?_
              refine tw_top (y := s0 2) (by rw [hk.1]; unfold pW; rw [if_neg (by omega), if_neg (by omega), up_ne _ _ (by omega), up_ne _ _ (by omega)]) ?_
              refine ar_iconst (k := 92) rfl ?_
              refine ar_iadd (k := 93) rfl ?_
              refine br_iast (k := 94) rfl (hS.k (by decide)) (by omega) (by omega) (by decide) ?_
              refine ar_aloadn (k := 95) rfl rfl ?_
              refine br_getR (k := 96) rfl (hS.k (by decide)) flR_9_12 (by decide) rfl (hS.r rfl) ?_
              refine ar_bipush (k := 97) rfl (by decide) ?_
              refine ar_aloadn (k := 98) rfl rfl ?_
              refine br_getI (k := 99) rfl (hS.k (by decide)) flR_69_12 (by decide) rfl ?_
              refine tw_top (y := a) (by exact hk.2.1) ?_
              refine tw_top (y := s0 2) (by exact ha) ?_
              refine br_iast (k := 100) rfl (hS.k (by decide)) (by omega) (by omega) (by decide) ?_
              refine ar_aloadn (k := 101) rfl rfl ?_
              refine br_getI (k := 102) rfl (hS.k (by decide)) flR_69_12 (by decide) rfl ?_
              refine tw_top (y := a) (by exact hk.2.1) ?_
              refine tw_top (y := s0 2) (by exact ha) ?_
              refine ar_iret (k := 103) rfl rfl rfl (Nat.le_refl _) ?_
              first
                | (exfalso; omega)
                | (have hr3 := (show rRead s0 = ((p, true, o), b) by rw [← hr]; rfl)
                   refine ⟨?_, _, rfl, ?_, fun b b1 b2 => ?_, fun k k1 k2 k3 k4 k5 => ?_⟩
                   · rw [rValA, if_neg (by omega), hr3, if_neg (by simp <;> omega)]
                   · rw [rValS, if_neg (by omega), hr3, if_neg (by simp <;> omega), rPut, hr3]
                     rw [uI_set, setA_at, uI_set, setA_at, hk.1, ha]
                   · rw [uI_off _ _ _ b2, uI_off _ _ _ b2]; exact hk.2.2.2.2.2.2.1 b b1 b2
                   · rw [uI_off _ _ _ (by decide), uI_off _ _ _ (by decide)]; exact hk.2.2.2.2.2.2.2 k k1 k2 k3 k4 k5)
            · refine ar_bipush (k := 82) rfl (by decide) ?_
              refine ar_aloadn (k := 83) rfl rfl ?_
              refine br_getI (k := 84) rfl (hS.k (by decide)) flR_42_12 (by decide) rfl ?_
              refine tw_top (y := p) (by exact hk.2.2.1) ?_
              refine ar_isub (k := 85) rfl ?_
              refine ar_iret (k := 86) rfl rfl rfl (Nat.le_refl _) ?_
              first
                | (exfalso; omega)
                | (have hr3 := (show rRead s0 = ((p, true, o), b) by rw [← hr]; rfl)
                   refine ⟨?_, J, rfl, ?_, hk.2.2.2.2.2.2.1, hk.2.2.2.2.2.2.2⟩
                   · rw [rValA, if_neg (by omega), hr3, if_pos (by simp <;> omega)]
                   · rw [rValS, if_neg (by omega), hr3, if_pos (by simp <;> omega), rPut, hr3, hk.1, ha])
        · exfalso; omega
  | succ k ih =>
    intro m x J hm m1 hk z hb hr
    obtain ⟨⟨p, w, o⟩, b⟩ := x
    obtain ⟨z1, z2, z3⟩ := id z
    simp only at z1 z2 z3 hk hb
    have hB2 := pB_up (j := 274 + a) (x := b) (by omega) hB
    have ht2 : tpe (up (up s0 5 0) (274 + a) b) = tpe s0 := (tpe_up (by omega)).trans ht0
    have hh0 := pHere_bd hB2 z1
    rw [ht2] at hh0
    cases w
    ·
      refine ar_aloadn (k := 54) rfl rfl ?_
      refine br_getI (k := 55) rfl (hS.k (by decide)) flR_48_12 (by decide) rfl ?_
      refine tw_top (y := 0) (by exact hk.2.2.2.2.1) ?_
      refine ar_if_ne (k := 56) rfl (by omega) (fun c56 => ?_) (fun c56 => ?_)
      · refine ar_aloadn (k := 74) rfl rfl ?_
        refine br_getI (k := 75) rfl (hS.k (by decide)) flR_48_12 (by decide) rfl ?_
        refine tw_top (y := 0) (by exact hk.2.2.2.2.1) ?_
        refine ar_if_ne (k := 76) rfl (by omega) (fun c76 => ?_) (fun c76 => ?_)
        · refine ar_bipush (k := 82) rfl (by decide) ?_
          refine ar_aloadn (k := 83) rfl rfl ?_
          refine br_getI (k := 84) rfl (hS.k (by decide)) flR_42_12 (by decide) rfl ?_
          refine tw_top (y := p) (by exact hk.2.2.1) ?_
          refine ar_isub (k := 85) rfl ?_
          refine ar_iret (k := 86) rfl rfl rfl (Nat.le_refl _) ?_
          first
            | (exfalso; omega)
            | (have hr3 := (show rRead s0 = ((p, false, o), b) by rw [← hr]; rw [pVal, if_neg (by simp <;> omega)])
               refine ⟨?_, J, rfl, ?_, hk.2.2.2.2.2.2.1, hk.2.2.2.2.2.2.2⟩
               · rw [rValA, if_neg (by omega), hr3, if_pos (by simp <;> omega)]
               · rw [rValS, if_neg (by omega), hr3, if_pos (by simp <;> omega), rPut, hr3, hk.1, ha])
        · refine ar_aloadn (k := 77) rfl rfl ?_
          refine br_getI (k := 78) rfl (hS.k (by decide)) flR_42_12 (by decide) rfl ?_
          refine tw_top (y := p) (by exact hk.2.2.1) ?_
          refine ar_aloadn (k := 79) rfl rfl ?_
          refine br_getI (k := 80) rfl (hS.k (by decide)) flR_45_12 (by decide) rfl ?_
          refine tw_top (y := e) (by exact hk.2.2.2.1) ?_
          refine ar_icmp_eq (k := 81) rfl (by omega) (by omega) (fun c81 => ?_) (fun c81 => ?_)
          · refine ar_aloadn (k := 87) rfl rfl ?_
            refine br_getR (k := 88) rfl (hS.k (by decide)) flR_9_12 (by decide) rfl (hS.r rfl) ?_
            refine ar_iconst (k := 89) rfl ?_
            refine ar_dup2 (k := 90) rfl rfl rfl ?_
            refine br_iald (k := 91) rfl (hS.k (by decide)) (by omega) (by omega) (by decide) ?_
            refine tw_top (y := s0 2) (by rw [hk.1]; unfold pW; rw [if_neg (by omega), if_neg (by omega), up_ne _ _ (by omega), up_ne _ _ (by omega)]) ?_
            refine ar_iconst (k := 92) rfl ?_
            refine ar_iadd (k := 93) rfl ?_
            refine br_iast (k := 94) rfl (hS.k (by decide)) (by omega) (by omega) (by decide) ?_
            refine ar_aloadn (k := 95) rfl rfl ?_
            refine br_getR (k := 96) rfl (hS.k (by decide)) flR_9_12 (by decide) rfl (hS.r rfl) ?_
            refine ar_bipush (k := 97) rfl (by decide) ?_
            refine ar_aloadn (k := 98) rfl rfl ?_
            refine br_getI (k := 99) rfl (hS.k (by decide)) flR_69_12 (by decide) rfl ?_
            refine tw_top (y := a) (by exact hk.2.1) ?_
            refine tw_top (y := s0 2) (by exact ha) ?_
            refine br_iast (k := 100) rfl (hS.k (by decide)) (by omega) (by omega) (by decide) ?_
            refine ar_aloadn (k := 101) rfl rfl ?_
            refine br_getI (k := 102) rfl (hS.k (by decide)) flR_69_12 (by decide) rfl ?_
            refine tw_top (y := a) (by exact hk.2.1) ?_
            refine tw_top (y := s0 2) (by exact ha) ?_
            refine ar_iret (k := 103) rfl rfl rfl (Nat.le_refl _) ?_
            first
              | (exfalso; omega)
              | (have hr3 := (show rRead s0 = ((p, false, o), b) by rw [← hr]; rw [pVal, if_neg (by simp <;> omega)])
                 refine ⟨?_, _, rfl, ?_, fun b b1 b2 => ?_, fun k k1 k2 k3 k4 k5 => ?_⟩
                 · rw [rValA, if_neg (by omega), hr3, if_neg (by simp <;> omega)]
                 · rw [rValS, if_neg (by omega), hr3, if_neg (by simp <;> omega), rPut, hr3]
                   rw [uI_set, setA_at, uI_set, setA_at, hk.1, ha]
                 · rw [uI_off _ _ _ b2, uI_off _ _ _ b2]; exact hk.2.2.2.2.2.2.1 b b1 b2
                 · rw [uI_off _ _ _ (by decide), uI_off _ _ _ (by decide)]; exact hk.2.2.2.2.2.2.2 k k1 k2 k3 k4 k5)
          · refine ar_bipush (k := 82) rfl (by decide) ?_
            refine ar_aloadn (k := 83) rfl rfl ?_
            refine br_getI (k := 84) rfl (hS.k (by decide)) flR_42_12 (by decide) rfl ?_
            refine tw_top (y := p) (by exact hk.2.2.1) ?_
            refine ar_isub (k := 85) rfl ?_
            refine ar_iret (k := 86) rfl rfl rfl (Nat.le_refl _) ?_
            first
              | (exfalso; omega)
              | (have hr3 := (show rRead s0 = ((p, false, o), b) by rw [← hr]; rw [pVal, if_neg (by simp <;> omega)])
                 refine ⟨?_, J, rfl, ?_, hk.2.2.2.2.2.2.1, hk.2.2.2.2.2.2.2⟩
                 · rw [rValA, if_neg (by omega), hr3, if_pos (by simp <;> omega)]
                 · rw [rValS, if_neg (by omega), hr3, if_pos (by simp <;> omega), rPut, hr3, hk.1, ha])
      · refine ar_iloadn (k := 57) rfl rfl ?_
        refine ar_bipush (k := 58) rfl (by decide) ?_
        refine ar_icmp_ge (k := 59) rfl (by omega) (by omega) (fun c59 => ?_) (fun c59 => ?_)
        · refine ar_aloadn (k := 74) rfl rfl ?_
          refine br_getI (k := 75) rfl (hS.k (by decide)) flR_48_12 (by decide) rfl ?_
          refine tw_top (y := 0) (by exact hk.2.2.2.2.1) ?_
          refine ar_if_ne (k := 76) rfl (by omega) (fun c76 => ?_) (fun c76 => ?_)
          · refine ar_bipush (k := 82) rfl (by decide) ?_
            refine ar_aloadn (k := 83) rfl rfl ?_
            refine br_getI (k := 84) rfl (hS.k (by decide)) flR_42_12 (by decide) rfl ?_
            refine tw_top (y := p) (by exact hk.2.2.1) ?_
            refine ar_isub (k := 85) rfl ?_
            refine ar_iret (k := 86) rfl rfl rfl (Nat.le_refl _) ?_
            first
              | (exfalso; omega)
              | (have hr3 := (show rRead s0 = ((p, false, o), b) by rw [← hr]; rw [pVal, if_neg (by simp <;> omega)])
                 refine ⟨?_, J, rfl, ?_, hk.2.2.2.2.2.2.1, hk.2.2.2.2.2.2.2⟩
                 · rw [rValA, if_neg (by omega), hr3, if_pos (by simp <;> omega)]
                 · rw [rValS, if_neg (by omega), hr3, if_pos (by simp <;> omega), rPut, hr3, hk.1, ha])
          · refine ar_aloadn (k := 77) rfl rfl ?_
            refine br_getI (k := 78) rfl (hS.k (by decide)) flR_42_12 (by decide) rfl ?_
            refine tw_top (y := p) (by exact hk.2.2.1) ?_
            refine ar_aloadn (k := 79) rfl rfl ?_
            refine br_getI (k := 80) rfl (hS.k (by decide)) flR_45_12 (by decide) rfl ?_
            refine tw_top (y := e) (by exact hk.2.2.2.1) ?_
            refine ar_icmp_eq (k := 81) rfl (by omega) (by omega) (fun c81 => ?_) (fun c81 => ?_)
            · refine ar_aloadn (k := 87) rfl rfl ?_
              refine br_getR (k := 88) rfl (hS.k (by decide)) flR_9_12 (by decide) rfl (hS.r rfl) ?_
              refine ar_iconst (k := 89) rfl ?_
              refine ar_dup2 (k := 90) rfl rfl rfl ?_
              refine br_iald (k := 91) rfl (hS.k (by decide)) (by omega) (by omega) (by decide) ?_
              refine tw_top (y := s0 2) (by rw [hk.1]; unfold pW; rw [if_neg (by omega), if_neg (by omega), up_ne _ _ (by omega), up_ne _ _ (by omega)]) ?_
              refine ar_iconst (k := 92) rfl ?_
              refine ar_iadd (k := 93) rfl ?_
              refine br_iast (k := 94) rfl (hS.k (by decide)) (by omega) (by omega) (by decide) ?_
              refine ar_aloadn (k := 95) rfl rfl ?_
              refine br_getR (k := 96) rfl (hS.k (by decide)) flR_9_12 (by decide) rfl (hS.r rfl) ?_
              refine ar_bipush (k := 97) rfl (by decide) ?_
              refine ar_aloadn (k := 98) rfl rfl ?_
              refine br_getI (k := 99) rfl (hS.k (by decide)) flR_69_12 (by decide) rfl ?_
              refine tw_top (y := a) (by exact hk.2.1) ?_
              refine tw_top (y := s0 2) (by exact ha) ?_
              refine br_iast (k := 100) rfl (hS.k (by decide)) (by omega) (by omega) (by decide) ?_
              refine ar_aloadn (k := 101) rfl rfl ?_
              refine br_getI (k := 102) rfl (hS.k (by decide)) flR_69_12 (by decide) rfl ?_
              refine tw_top (y := a) (by exact hk.2.1) ?_
              refine tw_top (y := s0 2) (by exact ha) ?_
              refine ar_iret (k := 103) rfl rfl rfl (Nat.le_refl _) ?_
              first
                | (exfalso; omega)
                | (have hr3 := (show rRead s0 = ((p, false, o), b) by rw [← hr]; rw [pVal, if_neg (by simp <;> omega)])
                   refine ⟨?_, _, rfl, ?_, fun b b1 b2 => ?_, fun k k1 k2 k3 k4 k5 => ?_⟩
                   · rw [rValA, if_neg (by omega), hr3, if_neg (by simp <;> omega)]
                   · rw [rValS, if_neg (by omega), hr3, if_neg (by simp <;> omega), rPut, hr3]
                     rw [uI_set, setA_at, uI_set, setA_at, hk.1, ha]
                   · rw [uI_off _ _ _ b2, uI_off _ _ _ b2]; exact hk.2.2.2.2.2.2.1 b b1 b2
                   · rw [uI_off _ _ _ (by decide), uI_off _ _ _ (by decide)]; exact hk.2.2.2.2.2.2.2 k k1 k2 k3 k4 k5)
            · refine ar_bipush (k := 82) rfl (by decide) ?_
              refine ar_aloadn (k := 83) rfl rfl ?_
              refine br_getI (k := 84) rfl (hS.k (by decide)) flR_42_12 (by decide) rfl ?_
              refine tw_top (y := p) (by exact hk.2.2.1) ?_
              refine ar_isub (k := 85) rfl ?_
              refine ar_iret (k := 86) rfl rfl rfl (Nat.le_refl _) ?_
              first
                | (exfalso; omega)
                | (have hr3 := (show rRead s0 = ((p, false, o), b) by rw [← hr]; rw [pVal, if_neg (by simp <;> omega)])
                   refine ⟨?_, J, rfl, ?_, hk.2.2.2.2.2.2.1, hk.2.2.2.2.2.2.2⟩
                   · rw [rValA, if_neg (by omega), hr3, if_pos (by simp <;> omega)]
                   · rw [rValS, if_neg (by omega), hr3, if_pos (by simp <;> omega), rPut, hr3, hk.1, ha])
        · refine ar_aloadn (k := 60) rfl rfl ?_
          refine br_callV (k := 61) (as := []) rfl lvR_52 (hS.k (by decide)) rfl (c_R_here (p := p) hS hB2 hk ⟨z1, z2⟩ rfl) rfl (by decide) (by decide) tw_m0 (Nat.le_of_ble_eq_true rfl) ?_
          rw [ht2]
          refine ar_bipush (k := 62) rfl (by decide) ?_
          refine ar_icmp_ne (k := 63) rfl (by omega) (by omega) (fun c63 => ?_) (fun c63 => ?_)
          · refine ar_aloadn (k := 74) rfl rfl ?_
            refine br_getI (k := 75) rfl (hS.k (by decide)) flR_48_12 (by decide) rfl ?_
            refine tw_top (y := 0) (by exact hk.2.2.2.2.1) ?_
            refine ar_if_ne (k := 76) rfl (by omega) (fun c76 => ?_) (fun c76 => ?_)
            · refine ar_bipush (k := 82) rfl (by decide) ?_
              refine ar_aloadn (k := 83) rfl rfl ?_
              refine br_getI (k := 84) rfl (hS.k (by decide)) flR_42_12 (by decide) rfl ?_
              refine tw_top (y := p) (by exact hk.2.2.1) ?_
              refine ar_isub (k := 85) rfl ?_
              refine ar_iret (k := 86) rfl rfl rfl (Nat.le_refl _) ?_
              first
                | (exfalso; omega)
                | (have hr3 := (show rRead s0 = ((p, false, o), b) by rw [← hr]; rw [pVal, if_neg (by simp <;> omega)])
                   refine ⟨?_, J, rfl, ?_, hk.2.2.2.2.2.2.1, hk.2.2.2.2.2.2.2⟩
                   · rw [rValA, if_neg (by omega), hr3, if_pos (by simp <;> omega)]
                   · rw [rValS, if_neg (by omega), hr3, if_pos (by simp <;> omega), rPut, hr3, hk.1, ha])
            · refine ar_aloadn (k := 77) rfl rfl ?_
              refine br_getI (k := 78) rfl (hS.k (by decide)) flR_42_12 (by decide) rfl ?_
              refine tw_top (y := p) (by exact hk.2.2.1) ?_
              refine ar_aloadn (k := 79) rfl rfl ?_
              refine br_getI (k := 80) rfl (hS.k (by decide)) flR_45_12 (by decide) rfl ?_
              refine tw_top (y := e) (by exact hk.2.2.2.1) ?_
              refine ar_icmp_eq (k := 81) rfl (by omega) (by omega) (fun c81 => ?_) (fun c81 => ?_)
              · refine ar_aloadn (k := 87) rfl rfl ?_
                refine br_getR (k := 88) rfl (hS.k (by decide)) flR_9_12 (by decide) rfl (hS.r rfl) ?_
                refine ar_iconst (k := 89) rfl ?_
                refine ar_dup2 (k := 90) rfl rfl rfl ?_
                refine br_iald (k := 91) rfl (hS.k (by decide)) (by omega) (by omega) (by decide) ?_
                refine tw_top (y := s0 2) (by rw [hk.1]; unfold pW; rw [if_neg (by omega), if_neg (by omega), up_ne _ _ (by omega), up_ne _ _ (by omega)]) ?_
                refine ar_iconst (k := 92) rfl ?_
                refine ar_iadd (k := 93) rfl ?_
                refine br_iast (k := 94) rfl (hS.k (by decide)) (by omega) (by omega) (by decide) ?_
                refine ar_aloadn (k := 95) rfl rfl ?_
                refine br_getR (k := 96) rfl (hS.k (by decide)) flR_9_12 (by decide) rfl (hS.r rfl) ?_
                refine ar_bipush (k := 97) rfl (by decide) ?_
                refine ar_aloadn (k := 98) rfl rfl ?_
                refine br_getI (k := 99) rfl (hS.k (by decide)) flR_69_12 (by decide) rfl ?_
                refine tw_top (y := a) (by exact hk.2.1) ?_
                refine tw_top (y := s0 2) (by exact ha) ?_
                refine br_iast (k := 100) rfl (hS.k (by decide)) (by omega) (by omega) (by decide) ?_
                refine ar_aloadn (k := 101) rfl rfl ?_
                refine br_getI (k := 102) rfl (hS.k (by decide)) flR_69_12 (by decide) rfl ?_
                refine tw_top (y := a) (by exact hk.2.1) ?_
                refine tw_top (y := s0 2) (by exact ha) ?_
                refine ar_iret (k := 103) rfl rfl rfl (Nat.le_refl _) ?_
                first
                  | (exfalso; omega)
                  | (have hr3 := (show rRead s0 = ((p, false, o), b) by rw [← hr]; rw [pVal, if_neg (by simp <;> omega)])
                     refine ⟨?_, _, rfl, ?_, fun b b1 b2 => ?_, fun k k1 k2 k3 k4 k5 => ?_⟩
                     · rw [rValA, if_neg (by omega), hr3, if_neg (by simp <;> omega)]
                     · rw [rValS, if_neg (by omega), hr3, if_neg (by simp <;> omega), rPut, hr3]
                       rw [uI_set, setA_at, uI_set, setA_at, hk.1, ha]
                     · rw [uI_off _ _ _ b2, uI_off _ _ _ b2]; exact hk.2.2.2.2.2.2.1 b b1 b2
                     · rw [uI_off _ _ _ (by decide), uI_off _ _ _ (by decide)]; exact hk.2.2.2.2.2.2.2 k k1 k2 k3 k4 k5)
              · refine ar_bipush (k := 82) rfl (by decide) ?_
                refine ar_aloadn (k := 83) rfl rfl ?_
                refine br_getI (k := 84) rfl (hS.k (by decide)) flR_42_12 (by decide) rfl ?_
                refine tw_top (y := p) (by exact hk.2.2.1) ?_
                refine ar_isub (k := 85) rfl ?_
                refine ar_iret (k := 86) rfl rfl rfl (Nat.le_refl _) ?_
                first
                  | (exfalso; omega)
                  | (have hr3 := (show rRead s0 = ((p, false, o), b) by rw [← hr]; rw [pVal, if_neg (by simp <;> omega)])
                     refine ⟨?_, J, rfl, ?_, hk.2.2.2.2.2.2.1, hk.2.2.2.2.2.2.2⟩
                     · rw [rValA, if_neg (by omega), hr3, if_pos (by simp <;> omega)]
                     · rw [rValS, if_neg (by omega), hr3, if_pos (by simp <;> omega), rPut, hr3, hk.1, ha])
          · refine ar_aloadn (k := 64) rfl rfl ?_
            refine ar_dup (k := 65) rfl rfl ?_
            refine br_getI (k := 66) rfl (hS.k (by decide)) flR_42_12 (by decide) rfl ?_
            refine tw_top (y := p) (by exact hk.2.2.1) ?_
            refine ar_iconst (k := 67) rfl ?_
            refine ar_iadd (k := 68) rfl ?_
            refine br_putIJ (k := 69) rfl (hS.k (by decide)) flR_42_12 (by decide) rfl (fun _ _ _ q => by cases q; exact ⟨rfl, rfl⟩) (fun I69 e69 => ?_)
            change _ = uI _ 69 5 _ at e69
            have hk69 := pH.p5 hk e69 (y := p + 1) (by omega)
            refine ar_aloadn (k := 70) rfl rfl ?_
            have zz : pZ e (p + 1, false, o) := ⟨by show 0 ≤ p + 1; omega, by show p + 1 ≤ e; omega, by show (o.length : Int) ≤ p + 1; omega⟩
            refine ar_callV (k := 71) (as := []) rfl lvR_112 (hS.k (by decide)) rfl (c_R_clauseHere hS hB hk69 zz) rfl (by decide) (by decide) tw_m0 (Nat.le_of_ble_eq_true rfl) (fun r h' hp => ?_)
            obtain ⟨rfl, I71, rfl, hk71⟩ := hp
            refine ar_iinc (k := 72) (l2 := [(1, _), (0, _)]) rfl (by decide) rfl rfl ?_
            refine ar_goto (k := 73) rfl ?_
            rw [ht0] at hk71
            have hr2 : pVal (tpe s0) e k (pCl (tpe s0) e ((p + 1, false, o), b)) = rRead s0 := by
              rw [← hr, pVal, if_pos ⟨rfl, by show pHere (tpe s0) e p = _; omega⟩]
            have hBs : pB s0 a e := ⟨hB.1, hB.2.1, fun i i1 i2 => by have := hB.2.2 i i1 i2; rw [up_ne _ _ (by omega)] at this; exact this⟩
            refine ar_sub (l2 := [(1, vi (m + 1)), (0, vr (some 69))]) (tw_s (tw_e 0 rfl rfl) (tw_s (tw_g 1 rfl) tw_s0)) ?_
            exact ih (m + 1) _ _ (by omega) (by omega) hk71 ((pCl_ok (x := ((p + 1, false, o), b)) hBs zz).z zz) (pCl_bell (x := ((p + 1, false, o), b)) hBs zz hb) hr2
    ·
      refine ar_aloadn (k := 54) rfl rfl ?_
      refine br_getI (k := 55) rfl (hS.k (by decide)) flR_48_12 (by decide) rfl ?_
      refine tw_top (y := 1) (by exact hk.2.2.2.2.1) ?_
      refine ar_if_ne (k := 56) rfl (by omega) (fun c56 => ?_) (fun c56 => ?_)
      · refine ar_aloadn (k := 74) rfl rfl ?_
        refine br_getI (k := 75) rfl (hS.k (by decide)) flR_48_12 (by decide) rfl ?_
        refine tw_top (y := 1) (by exact hk.2.2.2.2.1) ?_
        refine ar_if_ne (k := 76) rfl (by omega) (fun c76 => ?_) (fun c76 => ?_)
        · refine ar_bipush (k := 82) rfl (by decide) ?_
          refine ar_aloadn (k := 83) rfl rfl ?_
          refine br_getI (k := 84) rfl (hS.k (by decide)) flR_42_12 (by decide) rfl ?_
          refine tw_top (y := p) (by exact hk.2.2.1) ?_
          refine ar_isub (k := 85) rfl ?_
          refine ar_iret (k := 86) rfl rfl rfl (Nat.le_refl _) ?_
          first
            | (exfalso; omega)
            | (have hr3 := (show rRead s0 = ((p, true, o), b) by rw [← hr]; rw [pVal, if_neg (by simp <;> omega)])
               refine ⟨?_, J, rfl, ?_, hk.2.2.2.2.2.2.1, hk.2.2.2.2.2.2.2⟩
               · rw [rValA, if_neg (by omega), hr3, if_pos (by simp <;> omega)]
               · rw [rValS, if_neg (by omega), hr3, if_pos (by simp <;> omega), rPut, hr3, hk.1, ha])
        · refine ar_aloadn (k := 77) rfl rfl ?_
          refine br_getI (k := 78) rfl (hS.k (by decide)) flR_42_12 (by decide) rfl ?_
          refine tw_top (y := p) (by exact hk.2.2.1) ?_
          refine ar_aloadn (k := 79) rfl rfl ?_
          refine br_getI (k := 80) rfl (hS.k (by decide)) flR_45_12 (by decide) rfl ?_
          refine tw_top (y := e) (by exact hk.2.2.2.1) ?_
          refine ar_icmp_eq (k := 81) rfl (by omega) (by omega) (fun c81 => ?_) (fun c81 => ?_)
          · refine ar_aloadn (k := 87) rfl rfl ?_
            refine br_getR (k := 88) rfl (hS.k (by decide)) flR_9_12 (by decide) rfl (hS.r rfl) ?_
            refine ar_iconst (k := 89) rfl ?_
            refine ar_dup2 (k := 90) rfl rfl rfl ?_
            refine br_iald (k := 91) rfl (hS.k (by decide)) (by omega) (by omega) (by decide) ?_
            refine tw_top (y := s0 2) (by rw [hk.1]; unfold pW; rw [if_neg (by omega), if_neg (by omega), up_ne _ _ (by omega), up_ne _ _ (by omega)]) ?_
            refine ar_iconst (k := 92) rfl ?_
            refine ar_iadd (k := 93) rfl ?_
            refine br_iast (k := 94) rfl (hS.k (by decide)) (by omega) (by omega) (by decide) ?_
            refine ar_aloadn (k := 95) rfl rfl ?_
            refine br_getR (k := 96) rfl (hS.k (by decide)) flR_9_12 (by decide) rfl (hS.r rfl) ?_
            refine ar_bipush (k := 97) rfl (by decide) ?_
            refine ar_aloadn (k := 98) rfl rfl ?_
            refine br_getI (k := 99) rfl (hS.k (by decide)) flR_69_12 (by decide) rfl ?_
            refine tw_top (y := a) (by exact hk.2.1) ?_
            refine tw_top (y := s0 2) (by exact ha) ?_
            refine br_iast (k := 100) rfl (hS.k (by decide)) (by omega) (by omega) (by decide) ?_
            refine ar_aloadn (k := 101) rfl rfl ?_
            refine br_getI (k := 102) rfl (hS.k (by decide)) flR_69_12 (by decide) rfl ?_
            refine tw_top (y := a) (by exact hk.2.1) ?_
            refine tw_top (y := s0 2) (by exact ha) ?_
            refine ar_iret (k := 103) rfl rfl rfl (Nat.le_refl _) ?_
            first
              | (exfalso; omega)
              | (have hr3 := (show rRead s0 = ((p, true, o), b) by rw [← hr]; rw [pVal, if_neg (by simp <;> omega)])
                 refine ⟨?_, _, rfl, ?_, fun b b1 b2 => ?_, fun k k1 k2 k3 k4 k5 => ?_⟩
                 · rw [rValA, if_neg (by omega), hr3, if_neg (by simp <;> omega)]
                 · rw [rValS, if_neg (by omega), hr3, if_neg (by simp <;> omega), rPut, hr3]
                   rw [uI_set, setA_at, uI_set, setA_at, hk.1, ha]
                 · rw [uI_off _ _ _ b2, uI_off _ _ _ b2]; exact hk.2.2.2.2.2.2.1 b b1 b2
                 · rw [uI_off _ _ _ (by decide), uI_off _ _ _ (by decide)]; exact hk.2.2.2.2.2.2.2 k k1 k2 k3 k4 k5)
          · refine ar_bipush (k := 82) rfl (by decide) ?_
            refine ar_aloadn (k := 83) rfl rfl ?_
            refine br_getI (k := 84) rfl (hS.k (by decide)) flR_42_12 (by decide) rfl ?_
            refine tw_top (y := p) (by exact hk.2.2.1) ?_
            refine ar_isub (k := 85) rfl ?_
            refine ar_iret (k := 86) rfl rfl rfl (Nat.le_refl _) ?_
            first
              | (exfalso; omega)
              | (have hr3 := (show rRead s0 = ((p, true, o), b) by rw [← hr]; rw [pVal, if_neg (by simp <;> omega)])
                 refine ⟨?_, J, rfl, ?_, hk.2.2.2.2.2.2.1, hk.2.2.2.2.2.2.2⟩
                 · rw [rValA, if_neg (by omega), hr3, if_pos (by simp <;> omega)]
                 · rw [rValS, if_neg (by omega), hr3, if_pos (by simp <;> omega), rPut, hr3, hk.1, ha])
      · exfalso; omega
theorem c_R_valley (hS : tSt (K, I, Q, n)) (hs : I 70 = s) (hR : RInv s) : tw_M l G 30 0 0 mR_valley [vr (some 69)] (K, I, Q, n) (fun r h' => r = some (vi (rValA s)) ∧ ∃ L, h' = (K, L, Q, n) ∧ L 70 = rValS s ∧ rQ I L) := by
  obtain ⟨h0, h1, h2, h3, h4, h5, h6, hp, hrw, ht, hr, hb, htp, hv⟩ := id hR
  refine tw_intro okR_valley (Nat.le_of_ble_eq_true rfl) ?_
  refine ar_aloadn (k := 0) rfl rfl ?_
  refine br_getR (k := 1) rfl (hS.k (by decide)) flR_9_12 (by decide) rfl (hS.r rfl) ?_
  refine ar_iconst (k := 2) rfl ?_
  refine br_iald (k := 3) rfl (hS.k (by decide)) (by omega) (by omega) (by decide) ?_
  refine tw_top (y := s 2) (by rw [hs]) ?_
  refine ar_iconst (k := 4) rfl ?_
  refine ar_icmp_ne (k := 5) rfl (by omega) (by omega) (fun c5 => ?_) (fun c5 => ?_)
  · refine ar_aloadn (k := 8) rfl rfl ?_
    refine ar_aloadn (k := 9) rfl rfl ?_
    refine br_getR (k := 10) rfl (hS.k (by decide)) flR_9_12 (by decide) rfl (hS.r rfl) ?_
    refine ar_iconst (k := 11) rfl ?_
    refine br_iald (k := 12) rfl (hS.k (by decide)) (by omega) (by omega) (by decide) ?_
    refine tw_top (y := s 2) (by rw [hs]) ?_
    refine br_putI (k := 13) rfl (hS.k (by decide)) flR_69_12 (by decide) rfl (fun _ _ _ q => by cases q; exact ⟨rfl, rfl⟩) ?_
    refine ar_aloadn (k := 14) rfl rfl ?_
    refine ar_aloadn (k := 15) rfl rfl ?_
    refine br_getR (k := 16) rfl (hS.k (by decide)) flR_9_12 (by decide) rfl (hS.r rfl) ?_
    refine ar_iconst (k := 17) rfl ?_
    refine br_iald (k := 18) rfl (hS.k (by decide)) (by omega) (by omega) (by decide) ?_
    refine tw_top (y := s 5) (by show I 70 5 = _; rw [hs]) ?_
    refine br_putI (k := 19) rfl (hS.k (by decide)) flR_45_12 (by decide) rfl (fun _ _ _ q => by cases q; exact ⟨rfl, rfl⟩) ?_
    refine ar_aloadn (k := 20) rfl rfl ?_
    refine br_getR (k := 21) rfl (hS.k (by decide)) flR_9_12 (by decide) rfl (hS.r rfl) ?_
    refine ar_iconst (k := 22) rfl ?_
    refine ar_iconst (k := 23) rfl ?_
    refine br_iast (k := 24) rfl (hS.k (by decide)) (by omega) (by omega) (by decide) ?_
    refine ar_aloadn (k := 25) rfl rfl ?_
    refine br_getR (k := 26) rfl (hS.k (by decide)) flR_9_12 (by decide) rfl (hS.r rfl) ?_
    refine ar_sipush (k := 27) rfl (by decide) ?_
    refine ar_aloadn (k := 28) rfl rfl ?_
    refine br_getI (k := 29) rfl (hS.k (by decide)) flR_69_12 (by decide) rfl ?_
    refine tw_top (y := s 2) (by rfl) ?_
    refine ar_iadd (k := 30) rfl ?_
    refine ar_bipush (k := 31) rfl (by decide) ?_
    refine br_iast (k := 32) rfl (hS.k (by decide)) (by omega) (by omega) (by decide) ?_
    refine ar_aloadn (k := 33) rfl rfl ?_
    refine br_getR (k := 34) rfl (hS.k (by decide)) flR_9_12 (by decide) rfl (hS.r rfl) ?_
    refine ar_sipush (k := 35) rfl (by decide) ?_
    refine ar_aloadn (k := 36) rfl rfl ?_
    refine br_getI (k := 37) rfl (hS.k (by decide)) flR_69_12 (by decide) rfl ?_
    refine tw_top (y := s 2) (by rfl) ?_
    refine ar_iadd (k := 38) rfl ?_
    refine ar_iconst (k := 39) rfl ?_
    refine br_iast (k := 40) rfl (hS.k (by decide)) (by omega) (by omega) (by decide) ?_
    refine ar_aloadn (k := 41) rfl rfl ?_
    refine ar_iconst (k := 42) rfl ?_
    refine br_putI (k := 43) rfl (hS.k (by decide)) flR_42_12 (by decide) rfl (fun _ _ _ q => by cases q; exact ⟨rfl, rfl⟩) ?_
    refine ar_aloadn (k := 44) rfl rfl ?_
    refine ar_iconst (k := 45) rfl ?_
    refine br_putZ (k := 46) rfl (hS.k (by decide)) flR_48_12 (by decide) rfl (by omega) (fun _ _ _ q => by cases q; exact ⟨rfl, rfl⟩) ?_
    refine ar_aloadn (k := 47) rfl rfl ?_
    refine ar_iconst (k := 48) rfl ?_
    refine br_putI (k := 49) rfl (hS.k (by decide)) flR_72_12 (by decide) rfl (fun _ _ _ q => by cases q; exact ⟨rfl, rfl⟩) ?_
    refine ar_iconst (k := 50) rfl ?_
    refine ar_istoren (k := 51) (l2 := [(1, _), (0, _)]) rfl (by decide) rfl ?_
    have ha : 0 ≤ s 2 ∧ s 2 < 5 := by omega
    obtain ⟨L, eL⟩ : ∃ L, L = uI (uI (uI (uI (uI (uI (uI (uI I 69 4 (s 2)) 69 6 (s 5)) 70 5 0) 70 (274 + s 2) 6) 70 (279 + s 2) 0) 69 5 0) 69 7 0) 69 8 0 := ⟨_, rfl⟩
    refine tw_hp (h' := (K, L, Q, n)) (by rw [eL]; rfl) ?_
    have hk := pH.st eL hs ha
    have hB : pB (up s 5 0) (s 2) (s 5) := pB_up (by omega) ⟨ha, h5, htp⟩
    have zz : pZ (s 5) (0, false, []) := ⟨Int.le_refl _, h5.1, Int.le_refl _⟩
    refine ar_aloadn (k := 52) rfl rfl ?_
    refine ar_callV (k := 53) (as := []) rfl lvR_112 (hS.k (by decide)) rfl (c_R_clauseHere hS hB hk zz) rfl (by decide) (by decide) tw_m0 (Nat.le_of_ble_eq_true rfl) (fun r h' hp => ?_)
    obtain ⟨rfl, I53, rfl, hk53⟩ := hp
    have ht0 : tpe (up s 5 0) = tpe s := tpe_up (by omega)
    rw [ht0] at hk53
    have hBs : pB s (s 2) (s 5) := ⟨ha, h5, htp⟩
    exact l_R_valley hS ha rfl rfl hB 9 1 (pCl (tpe s) (s 5) ((0, false, []), 6)) I53 (by decide) (by decide) hk53 ((pCl_ok (x := ((0, false, []), 6)) hBs zz).z zz) (pCl_bell (x := ((0, false, []), 6)) hBs zz (by decide)) rfl
  · refine ar_bipush (k := 6) rfl (by decide) ?_
    refine ar_iret (k := 7) rfl rfl rfl (Nat.le_refl _) ?_
    first
      | exact ⟨by rw [rValA, if_pos (by omega)], I, rfl, by rw [rValS, if_pos (by omega)]; exact hs, ⟨fun _ _ _ => rfl, fun _ _ _ _ _ _ => rfl⟩⟩
end RV
