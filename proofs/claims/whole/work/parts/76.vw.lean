theorem pFig_t {t : Int → Int} {e p : Int} {r : List Int} : pFig t e (p, true, r) = (0, p, true, r) := by rw [pFig, if_pos (Or.inl rfl)]
theorem pAmt_t {t : Int → Int} {e x p : Int} {r : List Int} : pAmt t e x (p, true, r) = (p, true, r) := by
  unfold pAmt
  rw [pFig_t, pMust_t, pSo_w rfl, pEmit_t]
theorem pVal_w {t : Int → Int} {e p b : Int} {r : List Int} : ∀ f, pVal t e f ((p, true, r), b) = ((p, true, r), b)
  | 0 => rfl
  | f + 1 => by rw [pVal, if_neg (fun h => by cases h.1)]
theorem pVal_n {t : Int → Int} {e p b : Int} {r : List Int} (h : pHere t e p ≠ 59) : ∀ f, pVal t e f ((p, false, r), b) = ((p, false, r), b)
  | 0 => rfl
  | f + 1 => by rw [pVal, if_neg (fun g => h g.2)]
theorem vF.rf {I : Nat → Int → Int} {v : Nat} : vF I I v := ⟨fun _ _ _ _ _ => rfl, rfl⟩
section CR4
variable {l : Launch} {G : tG} {K : Nat → Nat × Nat} {I J : Nat → Int → Int} {Q : Nat → Int → Option Nat} {n : Nat} {s : Int → Int} {v : Nat} {a e p b : Int} {C : tCL}
theorem c_V_readClause (hS : tSt (K, I, Q, n)) (hv : VS K Q n v) (hT : vT I s v e) (hB : pB s a e) (hD : VD I v C) (hC : C.length < 10) (hp : I v 10 = p) (hbl : I v 0 = bl b) (z : pZ e (p, false, cFl C)) : tw_M l G 32 0 0 mV_readClause [vr (some v)] (K, I, Q, n) (fun y h' => y = some (vi (if (pCl (tpe s) e ((p, false, cFl C), b)).1.2.1 = true then 0 else 1)) ∧ ∃ L, h' = (K, L, Q, n) ∧ vF I L v ∧ L v 10 = (pCl (tpe s) e ((p, false, cFl C), b)).1.1 ∧ ((pCl (tpe s) e ((p, false, cFl C), b)).1.2.1 = false → L v 0 = bl (pCl (tpe s) e ((p, false, cFl C), b)).2 ∧ ∃ C', (pCl (tpe s) e ((p, false, cFl C), b)).1.2.2 = cFl C' ∧ VD L v C' ∧ C'.length ≤ C.length + 1)) := by
  obtain ⟨z1, z2, z3⟩ := id z
  simp only at z1 z2 z3
  have hw := pHere_w hB z1
  have he := hB.2.1
  have hv1 := hv.1
  have hvx := vX_gt v
  have hk := hD.vs hp
  have ol := cSs_cFl C
  obtain ⟨N, hN⟩ : ∃ N, N = if p < e then tpe s p else 0 := ⟨_, rfl⟩
  have hN2 : (p < e ∧ N = pHere (tpe s) e p ∧ 0 ≤ N ∧ N ≤ 127) ∨ (¬ p < e ∧ N = 0) := by
    by_cases g : p < e
    · rw [if_pos g] at hN; omega
    · rw [if_neg g] at hN; omega
  refine tw_intro okV_readClause (Nat.le_of_ble_eq_true rfl) ?_
  refine ar_aloadn (k := 0) rfl rfl ?_
  refine ar_callV (k := 1) (as := []) rfl lvV_70 hv.k0 rfl (c_V_next hS hv hT hB hk ⟨z1, z2⟩) rfl (by decide) (by decide) tw_m0 (Nat.le_of_ble_eq_true rfl) (fun r1 h1 p1 => ?_)
  obtain ⟨rfl, rfl⟩ := p1
  refine tw_top (y := N) hN.symm ?_
  rcases (show N = 98 ∨ N = 108 ∨ N = 119 ∨ (N ≠ 98 ∧ N ≠ 108 ∧ N ≠ 119) by omega) with q2 | q2 | q2 | q2
  · refine ar_lsw (k := 2) (t := 86) (off := 82) rfl (by omega) rfl (by rw [q2]; rfl) (by decide) ?_
    obtain ⟨⟨sp, sb, sr⟩, hSp⟩ : ∃ X, X = pSpl (tpe s) e 5 (sN 5) 0 (p, false, cFl C) := ⟨_, rfl⟩
    have hsb := pSpl_bd (t := tpe s) (e := e) (j := 5) (by decide) (sN 5) 0 (p, false, cFl C) (by omega) ⟨z1, z2⟩
    rw [← hSp] at hsb
    obtain ⟨s1, s2, s3⟩ := hsb
    simp only at s1 s2 s3
    subst s3
    have zs : pZ e (sp, false, cFl C) := ⟨by show 0 ≤ sp; omega, s2, by show ((cFl C).length : Int) ≤ sp; omega⟩
    obtain ⟨⟨yx, yp, yw, yr⟩, hY⟩ : ∃ X, X = pFig (tpe s) e (sp, false, cFl C) := ⟨_, rfl⟩
    have y3 : yr = cFl C := by
      have := (pFig_bd (q := (sp, false, cFl C)) hB ⟨zs.1, zs.2.1⟩).2.2.1
      rw [← hY] at this
      exact this
    refine ar_aloadn (k := 27) rfl rfl ?_
    refine ar_ldcS (k := 28) (tx := "bell ") (j := 5) rfl (by decide) (by decide) ?_
    refine ar_callV (k := 29) (as := [_]) rfl lvV_76 hv.k0 rfl (c_V_takeAll (r := cFl C) (j := 5) (by decide) hS hv hT hB hk ⟨z1, z2⟩) rfl (by decide) (by decide) tw_m0 (Nat.le_of_ble_eq_true rfl) (fun r29 h29 p29 => ?_)
    rw [← hSp] at p29
    obtain ⟨rfl, L29, rfl, hk29⟩ := p29
    simp only at hk29
    cases sb
    · refine tw_top (y := 1) rfl ?_
      refine ar_if_eq (k := 30) rfl (by omega) (fun c30 => ?_) (fun c30 => ?_)
      · exfalso; omega
      · refine ar_aloadn (k := 31) rfl rfl ?_
        refine ar_callV (k := 32) (as := []) rfl lvV_88 hv.k0 rfl (c_V_readBell (r := cFl C) hS hv hT hB hD hk29 zs) rfl (by decide) (by decide) tw_m0 (Nat.le_of_ble_eq_true rfl) (fun r32 h32 p32 => ?_)
        rw [← hY] at p32
        obtain ⟨rfl, L32, rfl, f32, l32, w32⟩ := p32
        simp only at l32 w32
        cases yw
        · refine tw_top (y := 1) rfl ?_
          refine ar_if_eq (k := 33) rfl (by omega) (fun c33 => ?_) (fun c33 => ?_)
          · exfalso; omega
          · refine ar_iconst (k := 34) rfl ?_
            refine ar_goto (k := 35) rfl ?_
            refine ar_zret (k := 37) rfl rfl (by omega) rfl (Nat.le_refl _) ?_
            rw [show pCl (tpe s) e ((p, false, cFl C), b) = ((yp, false, yr), yx) by unfold pCl; rw [if_neg (by show ¬ pHere (tpe s) e p = 119; omega), if_neg (by show ¬ pHere (tpe s) e p = 108; omega), if_pos (by show pHere (tpe s) e p = 98; omega)]; unfold pBel; dsimp only; rw [← hSp, ← hY]; rfl]
            refine ⟨rfl, L32, rfl, f32, l32, fun _ => ?_⟩
            obtain ⟨u0, u2⟩ := w32 rfl
            exact ⟨u0, C, y3, u2, by omega⟩
        · refine tw_top (y := 0) rfl ?_
          refine ar_if_eq (k := 33) rfl (by omega) (fun c33 => ?_) (fun c33 => ?_)
          · refine ar_iconst (k := 36) rfl ?_
            refine ar_zret (k := 37) rfl rfl (by omega) rfl (Nat.le_refl _) ?_
            rw [show pCl (tpe s) e ((p, false, cFl C), b) = ((yp, true, yr), b) by unfold pCl; rw [if_neg (by show ¬ pHere (tpe s) e p = 119; omega), if_neg (by show ¬ pHere (tpe s) e p = 108; omega), if_pos (by show pHere (tpe s) e p = 98; omega)]; unfold pBel; dsimp only; rw [← hSp, ← hY]; rfl]
            exact ⟨rfl, L32, rfl, f32, l32, fun q => by cases q⟩
          · exfalso; omega
    · refine tw_top (y := 0) rfl ?_
      refine ar_if_eq (k := 30) rfl (by omega) (fun c30 => ?_) (fun c30 => ?_)
      · refine ar_iconst (k := 36) rfl ?_
        refine ar_zret (k := 37) rfl rfl (by omega) rfl (Nat.le_refl _) ?_
        rw [show pCl (tpe s) e ((p, false, cFl C), b) = ((sp, true, cFl C), b) by unfold pCl; rw [if_neg (by show ¬ pHere (tpe s) e p = 119; omega), if_neg (by show ¬ pHere (tpe s) e p = 108; omega), if_pos (by show pHere (tpe s) e p = 98; omega)]; unfold pBel; dsimp only; rw [← hSp, pFig_t]; rfl]
        exact ⟨rfl, L29, rfl, hk29.fr, hk29.1, fun q => by cases q⟩
      · exfalso; omega
  · refine ar_lsw (k := 2) (t := 63) (off := 59) rfl (by omega) rfl (by rw [q2]; rfl) (by decide) ?_
    obtain ⟨⟨sp, sb, sr⟩, hSp⟩ : ∃ X, X = pSpl (tpe s) e 4 (sN 4) 0 (p, false, cFl C) := ⟨_, rfl⟩
    have hsb := pSpl_bd (t := tpe s) (e := e) (j := 4) (by decide) (sN 4) 0 (p, false, cFl C) (by omega) ⟨z1, z2⟩
    rw [← hSp] at hsb
    obtain ⟨s1, s2, s3⟩ := hsb
    simp only at s1 s2 s3
    subst s3
    have zs : pZ e (sp, false, cFl C) := ⟨by show 0 ≤ sp; omega, s2, by show ((cFl C).length : Int) ≤ sp; omega⟩
    obtain ⟨⟨yp, yw, yr⟩, hY⟩ : ∃ X, X = pAmt (tpe s) e (-200) (sp, false, cFl C) := ⟨_, rfl⟩
    refine ar_aloadn (k := 15) rfl rfl ?_
    refine ar_ldcS (k := 16) (tx := "less ") (j := 4) rfl (by decide) (by decide) ?_
    refine ar_callV (k := 17) (as := [_]) rfl lvV_76 hv.k0 rfl (c_V_takeAll (r := cFl C) (j := 4) (by decide) hS hv hT hB hk ⟨z1, z2⟩) rfl (by decide) (by decide) tw_m0 (Nat.le_of_ble_eq_true rfl) (fun r17 h17 p17 => ?_)
    rw [← hSp] at p17
    obtain ⟨rfl, L17, rfl, hk17⟩ := p17
    simp only at hk17
    cases sb
    · refine tw_top (y := 1) rfl ?_
      refine ar_if_eq (k := 18) rfl (by omega) (fun c18 => ?_) (fun c18 => ?_)
      · exfalso; omega
      · refine ar_aloadn (k := 19) rfl rfl ?_
        refine ar_iconst (k := 20) rfl ?_
        refine ar_callV (k := 21) (as := [_]) rfl lvV_80 hv.k0 rfl (c_V_readAmount (x := -200) (r := cFl C) (Or.inr ⟨rfl, rfl⟩) hS hv hT hB hD hC hk17 zs (by omega)) rfl (by decide) (by decide) tw_m0 (Nat.le_of_ble_eq_true rfl) (fun r21 h21 p21 => ?_)
        rw [← hY] at p21
        obtain ⟨rfl, L21, rfl, f21, l21, w21⟩ := p21
        simp only at l21 w21
        cases yw
        · refine tw_top (y := 1) rfl ?_
          refine ar_if_eq (k := 22) rfl (by omega) (fun c22 => ?_) (fun c22 => ?_)
          · exfalso; omega
          · refine ar_iconst (k := 23) rfl ?_
            refine ar_goto (k := 24) rfl ?_
            refine ar_zret (k := 26) rfl rfl (by omega) rfl (Nat.le_refl _) ?_
            rw [show pCl (tpe s) e ((p, false, cFl C), b) = ((yp, false, yr), b) by unfold pCl; rw [if_neg (by show ¬ pHere (tpe s) e p = 119; omega), if_pos (by show pHere (tpe s) e p = 108; omega)]; show (pAmt (tpe s) e (-200) (pSpl (tpe s) e 4 (sN 4) 0 (p, false, cFl C)), b) = _; rw [← hSp, ← hY]]
            refine ⟨rfl, L21, rfl, f21, l21, fun _ => ?_⟩
            obtain ⟨u0, c, u1, u2⟩ := w21 rfl
            exact ⟨u0.trans hbl, C ++ [c], by rw [cFl_app]; exact u1, u2, by rw [List.length_append]; exact Nat.le_refl _⟩
        · refine tw_top (y := 0) rfl ?_
          refine ar_if_eq (k := 22) rfl (by omega) (fun c22 => ?_) (fun c22 => ?_)
          · refine ar_iconst (k := 25) rfl ?_
            refine ar_zret (k := 26) rfl rfl (by omega) rfl (Nat.le_refl _) ?_
            rw [show pCl (tpe s) e ((p, false, cFl C), b) = ((yp, true, yr), b) by unfold pCl; rw [if_neg (by show ¬ pHere (tpe s) e p = 119; omega), if_pos (by show pHere (tpe s) e p = 108; omega)]; show (pAmt (tpe s) e (-200) (pSpl (tpe s) e 4 (sN 4) 0 (p, false, cFl C)), b) = _; rw [← hSp, ← hY]]
            exact ⟨rfl, L21, rfl, f21, l21, fun q => by cases q⟩
          · exfalso; omega
    · refine tw_top (y := 0) rfl ?_
      refine ar_if_eq (k := 18) rfl (by omega) (fun c18 => ?_) (fun c18 => ?_)
      · refine ar_iconst (k := 25) rfl ?_
        refine ar_zret (k := 26) rfl rfl (by omega) rfl (Nat.le_refl _) ?_
        rw [show pCl (tpe s) e ((p, false, cFl C), b) = ((sp, true, cFl C), b) by unfold pCl; rw [if_neg (by show ¬ pHere (tpe s) e p = 119; omega), if_pos (by show pHere (tpe s) e p = 108; omega)]; show (pAmt (tpe s) e (-200) (pSpl (tpe s) e 4 (sN 4) 0 (p, false, cFl C)), b) = _; rw [← hSp, pAmt_t]]
        exact ⟨rfl, L17, rfl, hk17.fr, hk17.1, fun q => by cases q⟩
      · exfalso; omega
  · refine ar_lsw (k := 2) (t := 40) (off := 36) rfl (by omega) rfl (by rw [q2]; rfl) (by decide) ?_
    obtain ⟨⟨sp, sb, sr⟩, hSp⟩ : ∃ X, X = pSpl (tpe s) e 0 (sN 0) 0 (p, false, cFl C) := ⟨_, rfl⟩
    have hsb := pSpl_bd (t := tpe s) (e := e) (j := 0) (by decide) (sN 0) 0 (p, false, cFl C) (by omega) ⟨z1, z2⟩
    rw [← hSp] at hsb
    obtain ⟨s1, s2, s3⟩ := hsb
    simp only at s1 s2 s3
    subst s3
    have zs : pZ e (sp, false, cFl C) := ⟨by show 0 ≤ sp; omega, s2, by show ((cFl C).length : Int) ≤ sp; omega⟩
    obtain ⟨⟨yp, yw, yr⟩, hY⟩ : ∃ X, X = pAmt (tpe s) e (-10) (sp, false, cFl C) := ⟨_, rfl⟩
    refine ar_aloadn (k := 3) rfl rfl ?_
    refine ar_ldcS (k := 4) (tx := "worth ") (j := 0) rfl (by decide) (by decide) ?_
    refine ar_callV (k := 5) (as := [_]) rfl lvV_76 hv.k0 rfl (c_V_takeAll (r := cFl C) (j := 0) (by decide) hS hv hT hB hk ⟨z1, z2⟩) rfl (by decide) (by decide) tw_m0 (Nat.le_of_ble_eq_true rfl) (fun r5 h5 p5 => ?_)
    rw [← hSp] at p5
    obtain ⟨rfl, L5, rfl, hk5⟩ := p5
    simp only at hk5
    cases sb
    · refine tw_top (y := 1) rfl ?_
      refine ar_if_eq (k := 6) rfl (by omega) (fun c6 => ?_) (fun c6 => ?_)
      · exfalso; omega
      · refine ar_aloadn (k := 7) rfl rfl ?_
        refine ar_iconst (k := 8) rfl ?_
        refine ar_callV (k := 9) (as := [_]) rfl lvV_80 hv.k0 rfl (c_V_readAmount (x := -10) (r := cFl C) (Or.inl ⟨rfl, rfl⟩) hS hv hT hB hD hC hk5 zs (by omega)) rfl (by decide) (by decide) tw_m0 (Nat.le_of_ble_eq_true rfl) (fun r9 h9 p9 => ?_)
        rw [← hY] at p9
        obtain ⟨rfl, L9, rfl, f9, l9, w9⟩ := p9
        simp only at l9 w9
        cases yw
        · refine tw_top (y := 1) rfl ?_
          refine ar_if_eq (k := 10) rfl (by omega) (fun c10 => ?_) (fun c10 => ?_)
          · exfalso; omega
          · refine ar_iconst (k := 11) rfl ?_
            refine ar_goto (k := 12) rfl ?_
            refine ar_zret (k := 14) rfl rfl (by omega) rfl (Nat.le_refl _) ?_
            rw [show pCl (tpe s) e ((p, false, cFl C), b) = ((yp, false, yr), b) by unfold pCl; rw [if_pos (by show pHere (tpe s) e p = 119; omega)]; show (pAmt (tpe s) e (-10) (pSpl (tpe s) e 0 (sN 0) 0 (p, false, cFl C)), b) = _; rw [← hSp, ← hY]]
            refine ⟨rfl, L9, rfl, f9, l9, fun _ => ?_⟩
            obtain ⟨u0, c, u1, u2⟩ := w9 rfl
            exact ⟨u0.trans hbl, C ++ [c], by rw [cFl_app]; exact u1, u2, by rw [List.length_append]; exact Nat.le_refl _⟩
        · refine tw_top (y := 0) rfl ?_
          refine ar_if_eq (k := 10) rfl (by omega) (fun c10 => ?_) (fun c10 => ?_)
          · refine ar_iconst (k := 13) rfl ?_
            refine ar_zret (k := 14) rfl rfl (by omega) rfl (Nat.le_refl _) ?_
            rw [show pCl (tpe s) e ((p, false, cFl C), b) = ((yp, true, yr), b) by unfold pCl; rw [if_pos (by show pHere (tpe s) e p = 119; omega)]; show (pAmt (tpe s) e (-10) (pSpl (tpe s) e 0 (sN 0) 0 (p, false, cFl C)), b) = _; rw [← hSp, ← hY]]
            exact ⟨rfl, L9, rfl, f9, l9, fun q => by cases q⟩
          · exfalso; omega
    · refine tw_top (y := 0) rfl ?_
      refine ar_if_eq (k := 6) rfl (by omega) (fun c6 => ?_) (fun c6 => ?_)
      · refine ar_iconst (k := 13) rfl ?_
        refine ar_zret (k := 14) rfl rfl (by omega) rfl (Nat.le_refl _) ?_
        rw [show pCl (tpe s) e ((p, false, cFl C), b) = ((sp, true, cFl C), b) by unfold pCl; rw [if_pos (by show pHere (tpe s) e p = 119; omega)]; show (pAmt (tpe s) e (-10) (pSpl (tpe s) e 0 (sN 0) 0 (p, false, cFl C)), b) = _; rw [← hSp, pAmt_t]]
        exact ⟨rfl, L5, rfl, hk5.fr, hk5.1, fun q => by cases q⟩
      · exfalso; omega
  · refine ar_lsw (k := 2) (t := 108) (off := 104) rfl (by omega) rfl (by show Op.lookupswitch.offset [(98, 82), (108, 59), (119, 36)] _ _ = _; rw [Op.lookupswitch.offset_cons, if_neg (by omega), Op.lookupswitch.offset_cons, if_neg (by omega), Op.lookupswitch.offset_cons, if_neg (by omega)]; rfl) (by decide) ?_
    refine ar_iconst (k := 38) rfl ?_
    refine ar_zret (k := 39) rfl rfl (by omega) rfl (Nat.le_refl _) ?_
    rw [show pCl (tpe s) e ((p, false, cFl C), b) = ((p, true, cFl C), b) by unfold pCl; rw [if_neg (by show ¬ pHere (tpe s) e p = 119; omega), if_neg (by show ¬ pHere (tpe s) e p = 108; omega), if_neg (by show ¬ pHere (tpe s) e p = 98; omega)]]
    exact ⟨rfl, I, rfl, vF.rf, hp, fun q => by cases q⟩
def vG (I L : Nat → Int → Int) (v : Nat) : Prop := ∀ b, b ≠ v → b ≠ v + 1 → b ≠ v + 2 → b ≠ v + 3 → b ≠ vX v → L b = I b
def vW (K : Nat → Nat × Nat) (I : Nat → Int → Int) (Q : Nat → Int → Option Nat) (n v : Nat) (e : Int) (U : tP × Int) : Option tV → tH → Prop := fun y h' => y = some (vi (if U.1.2.1 = true ∨ U.1.1 ≠ e then U.1.1 else -1)) ∧ ∃ L, h' = (K, L, Q, n) ∧ vG I L v ∧ (¬ (U.1.2.1 = true ∨ U.1.1 ≠ e) → L v 0 = bl U.2 ∧ ∃ C, U.1.2.2 = cFl C ∧ VD L v C)
theorem l_V_read {U : tP × Int} {m : Int} (hS : tSt (K, I, Q, n)) (hv : VS K Q n v) (hB : pB s a e) : ∀ (f : Nat) (i p b : Int) (C : tCL) (J : Nat → Int → Int), i + (f : Int) = 10 → 1 ≤ i → vT J s v e → vG I J v → VD J v C → (C.length : Int) < i → J v 10 = p → J v 0 = bl b → pZ e (p, false, cFl C) → pVal (tpe s) e f (pCl (tpe s) e ((p, false, cFl C), b)) = U → tw_AW l G mV_read 33 0 0 n 0 (vW K I Q n v e U) 45 [(3, vi i), (0, vr (some v)), (2, vi m)] [] (K, J, Q, n) := by
  intro f
  induction f with
  | zero =>
    intro i p b C J hf hi hT hg hD hC hp hbl z hU
    obtain ⟨z1, z2, z3⟩ := id z
    simp only at z1 z2 z3
    have hw := pHere_w hB z1
    have he := hB.2.1
    have hv1 := hv.1
    have hvx := vX_gt v
    obtain ⟨⟨⟨xp, xw, xr⟩, xb⟩, hX⟩ : ∃ X, X = pCl (tpe s) e ((p, false, cFl C), b) := ⟨_, rfl⟩
    have ok := pCl_ok (x := ((p, false, cFl C), b)) hB z
    rw [← hX] at ok hU
    obtain ⟨ok1, ok2, ok3⟩ := ok
    simp only at ok1 ok2 ok3
    have hwx := pHere_w (p := xp) hB (by omega)
    refine ar_iloadn (k := 26) rfl rfl ?_
    refine ar_bipush (k := 27) rfl (by decide) ?_
    refine ar_icmp_gt (k := 28) rfl (by omega) (by omega) (fun c28 => ?_) (fun c28 => ?_)
    · exfalso; omega
    · refine ar_aloadn (k := 29) rfl rfl ?_
      refine ar_callV (k := 30) (as := []) rfl lvV_62 hv.k0 rfl (c_V_readClause hS hv hT hB hD (by omega) hp hbl z) rfl (by decide) (by decide) tw_m0 (Nat.le_of_ble_eq_true rfl) (fun r30 h30 p30 => ?_)
      rw [← hX] at p30
      obtain ⟨rfl, L30, rfl, f30, pl30, ok30⟩ := p30
      simp only at pl30 ok30
      have g30 : vG I L30 v := fun d d1 d2 d3 d4 d5 => (f30.1 d d1 d2 d3 d4).trans (hg d d1 d2 d3 d4 d5)
      have sz30 : L30 v 9 = e := f30.2.trans hT.1
      have t30 : vT L30 s v e := ⟨sz30, fun j j1 j2 => by rw [f30.1 (vX v) (by omega) (by omega) (by omega) (by omega)]; exact hT.2 j j1 j2⟩
      cases xw
      · refine tw_top (y := 1) rfl ?_
        obtain ⟨w0, C1, w1, w2, w3⟩ := ok30 rfl
        have hk30 := w2.vs pl30
        refine ar_if_ne (k := 31) rfl (by omega) (fun c31 => ?_) (fun c31 => ?_)
        · refine ar_aloadn (k := 35) rfl rfl ?_
          refine br_getIz (k := 36) (z := 10) rfl hv.k0 flV_44_9 (by decide) rfl rfl ?_
          refine tw_top (y := xp) (by exact pl30) ?_
          refine ar_aloadn (k := 37) rfl rfl ?_
          refine br_getIz (k := 38) (z := 9) rfl hv.k0 flV_41_9 (by decide) rfl rfl ?_
          refine tw_top (y := e) (by exact sz30) ?_
          refine ar_icmp_lt (k := 39) rfl (by omega) (by omega) (fun c39 => ?_) (fun c39 => ?_)
          · refine ar_iloadn (k := 42) rfl rfl ?_
            refine ar_bipush (k := 43) rfl (by decide) ?_
            refine ar_icmp_eq (k := 44) rfl (by omega) (by omega) (fun c44 => ?_) (fun c44 => ?_)
            · refine ar_aloadn (k := 49) rfl rfl ?_
              refine br_getIz (k := 50) (z := 10) rfl hv.k0 flV_44_9 (by decide) rfl rfl ?_
              refine tw_top (y := xp) (by exact pl30) ?_
              refine ar_iret (k := 51) rfl rfl rfl (Nat.le_refl _) ?_
              subst hU
              exact ⟨by rw [show pVal (tpe s) e 0 ((xp, false, xr), xb) = ((xp, false, xr), xb) from rfl, if_pos (Or.inr (by show xp ≠ e; omega))], L30, rfl, g30, fun q => absurd (Or.inr (by show xp ≠ e; omega)) q⟩
            · exfalso; omega
          · refine ar_iconst (k := 40) rfl ?_
            refine ar_iret (k := 41) rfl rfl rfl (Nat.le_refl _) ?_
            rw [pVal_n (by omega)] at hU
            subst hU
            refine ⟨by rw [if_neg (by simp only [Bool.false_eq_true, false_or]; omega)], L30, rfl, g30, fun _ => ⟨w0, C1, w1, w2⟩⟩
        · exfalso; omega
      · refine tw_top (y := 0) rfl ?_
        refine ar_if_ne (k := 31) rfl (by omega) (fun c31 => ?_) (fun c31 => ?_)
        · exfalso; omega
        · refine ar_aloadn (k := 32) rfl rfl ?_
          refine br_getIz (k := 33) (z := 10) rfl hv.k0 flV_44_9 (by decide) rfl rfl ?_
          refine tw_top (y := xp) (by exact pl30) ?_
          refine ar_iret (k := 34) rfl rfl rfl (Nat.le_refl _) ?_
          rw [pVal_w] at hU
          subst hU
          exact ⟨by rw [if_pos (Or.inl rfl)], L30, rfl, g30, fun q => absurd (Or.inl rfl) q⟩
  | succ f ih =>
    intro i p b C J hf hi hT hg hD hC hp hbl z hU
    obtain ⟨z1, z2, z3⟩ := id z
    simp only at z1 z2 z3
    have hw := pHere_w hB z1
    have he := hB.2.1
    have hv1 := hv.1
    have hvx := vX_gt v
    obtain ⟨⟨⟨xp, xw, xr⟩, xb⟩, hX⟩ : ∃ X, X = pCl (tpe s) e ((p, false, cFl C), b) := ⟨_, rfl⟩
    have ok := pCl_ok (x := ((p, false, cFl C), b)) hB z
    rw [← hX] at ok hU
    obtain ⟨ok1, ok2, ok3⟩ := ok
    simp only at ok1 ok2 ok3
    have hwx := pHere_w (p := xp) hB (by omega)
    refine ar_iloadn (k := 26) rfl rfl ?_
    refine ar_bipush (k := 27) rfl (by decide) ?_
    refine ar_icmp_gt (k := 28) rfl (by omega) (by omega) (fun c28 => ?_) (fun c28 => ?_)
    · exfalso; omega
    · refine ar_aloadn (k := 29) rfl rfl ?_
      refine ar_callV (k := 30) (as := []) rfl lvV_62 hv.k0 rfl (c_V_readClause hS hv hT hB hD (by omega) hp hbl z) rfl (by decide) (by decide) tw_m0 (Nat.le_of_ble_eq_true rfl) (fun r30 h30 p30 => ?_)
      rw [← hX] at p30
      obtain ⟨rfl, L30, rfl, f30, pl30, ok30⟩ := p30
      simp only at pl30 ok30
      have g30 : vG I L30 v := fun d d1 d2 d3 d4 d5 => (f30.1 d d1 d2 d3 d4).trans (hg d d1 d2 d3 d4 d5)
      have sz30 : L30 v 9 = e := f30.2.trans hT.1
      have t30 : vT L30 s v e := ⟨sz30, fun j j1 j2 => by rw [f30.1 (vX v) (by omega) (by omega) (by omega) (by omega)]; exact hT.2 j j1 j2⟩
      cases xw
      · refine tw_top (y := 1) rfl ?_
        obtain ⟨w0, C1, w1, w2, w3⟩ := ok30 rfl
        have hk30 := w2.vs pl30
        refine ar_if_ne (k := 31) rfl (by omega) (fun c31 => ?_) (fun c31 => ?_)
        · refine ar_aloadn (k := 35) rfl rfl ?_
          refine br_getIz (k := 36) (z := 10) rfl hv.k0 flV_44_9 (by decide) rfl rfl ?_
          refine tw_top (y := xp) (by exact pl30) ?_
          refine ar_aloadn (k := 37) rfl rfl ?_
          refine br_getIz (k := 38) (z := 9) rfl hv.k0 flV_41_9 (by decide) rfl rfl ?_
          refine tw_top (y := e) (by exact sz30) ?_
          refine ar_icmp_lt (k := 39) rfl (by omega) (by omega) (fun c39 => ?_) (fun c39 => ?_)
          · refine ar_iloadn (k := 42) rfl rfl ?_
            refine ar_bipush (k := 43) rfl (by decide) ?_
            refine ar_icmp_eq (k := 44) rfl (by omega) (by omega) (fun c44 => ?_) (fun c44 => ?_)
            · refine ar_aloadn (k := 49) rfl rfl ?_
              refine br_getIz (k := 50) (z := 10) rfl hv.k0 flV_44_9 (by decide) rfl rfl ?_
              refine tw_top (y := xp) (by exact pl30) ?_
              refine ar_iret (k := 51) rfl rfl rfl (Nat.le_refl _) ?_
              exfalso; omega
            · refine ar_aloadn (k := 45) rfl rfl ?_
              refine ar_bipush (k := 46) rfl (by decide) ?_
              refine ar_callV (k := 47) (as := [_]) rfl lvV_66 hv.k0 rfl (c_V_take hS hv t30 hB hk30 (by omega) (by omega)) rfl (by decide) (by decide) tw_m0 (Nat.le_of_ble_eq_true rfl) (fun r47 h47 p47 => ?_)
              obtain ⟨rfl, L47, rfl, hk47⟩ := p47
              by_cases g : pHere (tpe s) e xp = 59
              · refine tw_top (y := 1) (by rw [if_pos g]) ?_
                rw [if_pos g] at hk47
                refine ar_if_ne (k := 48) rfl (by omega) (fun c48 => ?_) (fun c48 => ?_)
                · refine ar_iinc (k := 52) (l2 := [(3, _), (0, _), (2, _)]) rfl (by decide) rfl rfl ?_
                  refine ar_goto (k := 53) rfl ?_
                  refine ar_sub (l2 := [(3, vi (i + 1)), (0, vr (some v)), (2, vi m)]) (tw_s (tw_g 0 rfl) (tw_s (tw_g 1 rfl) (tw_s (tw_g 2 rfl) tw_s0))) ?_
                  refine ih (i + 1) (xp + 1) xb C1 L47 (by omega) (by omega) ⟨hk47.fr.2.trans sz30, fun j j1 j2 => by rw [hk47.2.2.2.1 (vX v) (by omega) (by omega)]; exact t30.2 j j1 j2⟩ (fun d d1 d2 d3 d4 d5 => (hk47.2.2.2.1 d d1 d4).trans (g30 d d1 d2 d3 d4 d5)) (w2.vh hk47) (by omega) hk47.1 ((hk47.2.2.2.2 0 (by decide) (by decide) (by decide)).trans w0) ⟨by show 0 ≤ xp + 1; omega, by show xp + 1 ≤ e; omega, ?_⟩ ?_
                  · show ((cFl C1).length : Int) ≤ xp + 1
                    rw [← w1]; omega
                  · rw [pVal, if_pos ⟨rfl, g⟩] at hU
                    simp only at hU
                    rw [← w1]; exact hU
                · exfalso; omega
              · refine tw_top (y := 0) (by rw [if_neg g]) ?_
                rw [if_neg g] at hk47
                refine ar_if_ne (k := 48) rfl (by omega) (fun c48 => ?_) (fun c48 => ?_)
                · exfalso; omega
                · refine ar_aloadn (k := 49) rfl rfl ?_
                  refine br_getIz (k := 50) (z := 10) rfl hv.k0 flV_44_9 (by decide) rfl rfl ?_
                  refine tw_top (y := xp) (by exact hk47.1) ?_
                  refine ar_iret (k := 51) rfl rfl rfl (Nat.le_refl _) ?_
                  rw [pVal_n g] at hU
                  subst hU
                  exact ⟨by rw [if_pos (Or.inr (by show xp ≠ e; omega))], L47, rfl, fun d d1 d2 d3 d4 d5 => (hk47.2.2.2.1 d d1 d4).trans (g30 d d1 d2 d3 d4 d5), fun q => absurd (Or.inr (by show xp ≠ e; omega)) q⟩
          · refine ar_iconst (k := 40) rfl ?_
            refine ar_iret (k := 41) rfl rfl rfl (Nat.le_refl _) ?_
            rw [pVal_n (by omega)] at hU
            subst hU
            refine ⟨by rw [if_neg (by simp only [Bool.false_eq_true, false_or]; omega)], L30, rfl, g30, fun _ => ⟨w0, C1, w1, w2⟩⟩
        · exfalso; omega
      · refine tw_top (y := 0) rfl ?_
        refine ar_if_ne (k := 31) rfl (by omega) (fun c31 => ?_) (fun c31 => ?_)
        · exfalso; omega
        · refine ar_aloadn (k := 32) rfl rfl ?_
          refine br_getIz (k := 33) (z := 10) rfl hv.k0 flV_44_9 (by decide) rfl rfl ?_
          refine tw_top (y := xp) (by exact pl30) ?_
          refine ar_iret (k := 34) rfl rfl rfl (Nat.le_refl _) ?_
          rw [pVal_w] at hU
          subst hU
          exact ⟨by rw [if_pos (Or.inl rfl)], L30, rfl, g30, fun q => absurd (Or.inl rfl) q⟩
theorem c_V_read (hS : tSt (K, I, Q, n)) (hv : VS K Q n v) (hB : pB s a e) (ht : ∀ i, 0 ≤ i → i < 100 → I 2 i = s (174 + i)) : tw_M l G 33 0 0 mV_read [vr (some v), vr (some 2), vi e] (K, I, Q, n) (vW K I Q n v e (pVal (tpe s) e 9 (pCl (tpe s) e ((0, false, []), 6)))) := by
  have he := hB.2.1
  have hv1 := hv.1
  have hvx := vX_gt v
  refine tw_intro okV_read (Nat.le_of_ble_eq_true rfl) ?_
  refine ar_aloadn (k := 0) rfl rfl ?_
  refine ar_bipush (k := 1) rfl (by decide) ?_
  refine br_putIJ (k := 2) rfl hv.k0 flV_11_9 (by decide) rfl (fun _ _ _ q => by cases q; exact ⟨rfl, rfl⟩) (fun I2 e2 => ?_)
  change _ = uI _ _ 0 _ at e2
  skip
  refine ar_aloadn (k := 3) rfl rfl ?_
  refine ar_iconst (k := 4) rfl ?_
  refine br_putIJ (k := 5) rfl hv.k0 flV_22_9 (by decide) rfl (fun _ _ _ q => by cases q; exact ⟨rfl, rfl⟩) (fun I5 e5 => ?_)
  change _ = uI _ _ 3 _ at e5
  skip
  refine ar_aloadn (k := 6) rfl rfl ?_
  refine ar_iconst (k := 7) rfl ?_
  refine br_putIJ (k := 8) rfl hv.k0 flV_28_9 (by decide) rfl (fun _ _ _ q => by cases q; exact ⟨rfl, rfl⟩) (fun I8 e8 => ?_)
  change _ = uI _ _ 5 _ at e8
  skip
  refine ar_aloadn (k := 9) rfl rfl ?_
  refine ar_iloadn (k := 10) rfl rfl ?_
  refine ar_bipush (k := 11) rfl (by decide) ?_
  refine ar_callS (k := 12) (as := [_, _]) rfl lsV_50 (c_J9_min (by omega) (by omega)) rfl (by decide) (by decide) tw_m0 (Nat.le_of_ble_eq_true rfl) (fun r12 h12 p12 => ?_)
  obtain ⟨rfl, rfl⟩ := p12
  refine tw_top (y := e) (by omega) ?_
  refine br_putIJ (k := 13) rfl hv.k0 flV_41_9 (by decide) rfl (fun _ _ _ q => by cases q; exact ⟨rfl, rfl⟩) (fun I13 e13 => ?_)
  change _ = uI _ _ 9 _ at e13
  skip
  have eo : ∀ d, d ≠ v → I13 d = I d := fun d hd => by rw [e13, uI_off _ _ _ hd, e8, uI_off _ _ _ hd, e5, uI_off _ _ _ hd, e2, uI_off _ _ _ hd]
  refine ar_aloadn (k := 14) rfl rfl ?_
  refine ar_iconst (k := 15) rfl ?_
  refine ar_aloadn (k := 16) rfl rfl ?_
  refine br_getR (k := 17) rfl hv.k0 flV_37_9 (by decide) rfl hv.q8 ?_
  refine ar_iconst (k := 18) rfl ?_
  refine ar_bipush (k := 19) rfl (by decide) ?_
  refine ar_copybJ (k := 20) (n := 100) rfl lcV_56 (hS.k (by decide)) hv.kx rfl (by decide) (fun j j1 j2 => by rw [eo 2 (by omega), ht j j1 (by omega)]; have := hB.2.2 j j1 (by omega); omega) (by decide) (Nat.le_of_ble_eq_true rfl) (fun I20 e20 f20 => ?_)
  refine ar_aloadn (k := 21) rfl rfl ?_
  refine ar_iconst (k := 22) rfl ?_
  refine br_putIJ (k := 23) rfl hv.k0 flV_44_9 (by decide) rfl (fun _ _ _ q => by cases q; exact ⟨rfl, rfl⟩) (fun I23 e23 => ?_)
  change _ = uI _ _ 10 _ at e23
  skip
  refine ar_iconst (k := 24) rfl ?_
  refine ar_istoren (k := 25) (l2 := [(3, _), (0, _), (1, _), (2, _)]) rfl (by decide) rfl ?_
  refine ar_sub (l2 := [(3, vi 1), (0, vr (some v)), (2, vi e)]) (tw_s (tw_g 0 rfl) (tw_s (tw_g 1 rfl) (tw_s (tw_g 3 rfl) tw_s0))) ?_
  have ev : ∀ k : Int, k ≠ 10 → I23 v k = I13 v k := fun k hk => by rw [e23, uI_at, if_neg hk, e20 v (by omega)]
  exact l_V_read hS hv hB 9 1 0 6 [] I23 (by decide) (by decide) ⟨by rw [ev 9 (by decide), e13, uI_at, if_pos rfl], fun j j1 j2 => by rw [e23, uI_off _ _ _ (by omega), f20, if_pos ⟨j1, by omega⟩, eo 2 (by omega)]; exact ht j j1 j2⟩ (fun d d1 d2 d3 d4 d5 => by rw [e23, uI_off _ _ _ d1, e20 d d5]; exact eo d d1) ⟨by rw [ev 3 (by decide), e13, uI_at, if_neg (by decide), e8, uI_at, if_neg (by decide), e5, uI_at, if_pos rfl]; rfl, by decide, by rw [ev 5 (by decide), e13, uI_at, if_neg (by decide), e8, uI_at, if_pos rfl]; rfl, by decide, fun c hc => absurd hc (Nat.not_lt_zero _), fun c hc => absurd hc (Nat.not_lt_zero _), fun c hc => by cases hc⟩ (by decide) (by rw [e23, uI_at, if_pos rfl]) (by rw [ev 0 (by decide), e13, uI_at, if_neg (by decide), e8, uI_at, if_neg (by decide), e5, uI_at, if_neg (by decide), e2, uI_at, if_pos rfl]; rfl) ⟨Int.le_refl _, he.1, Int.le_refl _⟩ rfl
end CR4
