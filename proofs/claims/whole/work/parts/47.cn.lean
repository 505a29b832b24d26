section CN
variable {l : Launch} {G : tG} {K : Nat → Nat × Nat} {I : Nat → Int → Int} {Q : Nat → Int → Option Nat} {n : Nat} {s : Int → Int}
theorem c_W_pNo {p : Int} (hS : tSt (K, I, Q, n)) (hN : WN 1 I s) (hR : RInv s) (tp : tr p) (hno : ¬ (0 ≤ p ∧ p ≤ s 0 - 1)) : tw_F l G 2 0 0 mW_personOrNull [vr (some 1), vi p] (K, I, Q, n) (some (vr none)) (K, I, Q, n) := by
  obtain ⟨h0, h1, h2, h3, h4, h5, h6, hp, hrw, ht, hr, hb, htp, hv⟩ := id hR
  refine tw_intro okW_personOrNull (Nat.le_of_ble_eq_true rfl) ?_
  refine ar_aloadn (k := 0) rfl rfl ?_
  refine ar_iloadn (k := 1) rfl rfl ?_
  refine ar_callV (k := 2) (as := [_]) rfl lvW_96 (hS.k (by decide)) rfl (c_W_hasPerson hS hN hR (by omega)) rfl (by decide) (by decide) tw_m0 (Nat.le_of_ble_eq_true rfl) (fun r2 h2 p2 => ?_)
  obtain ⟨rfl, rfl⟩ := p2
  refine ar_if_eq (k := 3) rfl (by omega) (fun c3 => ?_) (fun c3 => ?_)
  · refine ar_null (k := 9) rfl ?_
    refine ar_aret (k := 10) rfl rfl rfl (Nat.le_refl _) ?_
    exact ⟨rfl, rfl⟩
  · exfalso; omega
theorem c_W_pYes {p : Int} {a : Nat} (hS : tSt (K, I, Q, n)) (hN : WN 1 I s) (hR : RInv s) (hno : 0 ≤ p ∧ p ≤ s 0 - 1) (hQa : Q 4 p = some a) : tw_F l G 2 0 0 mW_personOrNull [vr (some 1), vi p] (K, I, Q, n) (some (vr (some a))) (K, I, Q, n) := by
  obtain ⟨h0, h1, h2, h3, h4, h5, h6, hp, hrw, ht, hr, hb, htp, hv⟩ := id hR
  refine tw_intro okW_personOrNull (Nat.le_of_ble_eq_true rfl) ?_
  refine ar_aloadn (k := 0) rfl rfl ?_
  refine ar_iloadn (k := 1) rfl rfl ?_
  refine ar_callV (k := 2) (as := [_]) rfl lvW_96 (hS.k (by decide)) rfl (c_W_hasPerson hS hN hR (by omega)) rfl (by decide) (by decide) tw_m0 (Nat.le_of_ble_eq_true rfl) (fun r2 h2 p2 => ?_)
  obtain ⟨rfl, rfl⟩ := p2
  refine ar_if_eq (k := 3) rfl (by omega) (fun c3 => ?_) (fun c3 => ?_)
  · exfalso; omega
  · refine ar_aloadn (k := 4) rfl rfl ?_
    refine br_getR (k := 5) rfl (hS.k (by decide)) flW_30_10 (by decide) rfl (hS.r rfl) ?_
    refine ar_iloadn (k := 6) rfl rfl ?_
    refine br_aald16 (k := 7) rfl (hS.k (by decide)) (by omega) (by omega) (by decide) hQa ?_
    refine ar_goto (k := 8) rfl ?_
    refine ar_aret (k := 10) rfl rfl rfl (Nat.le_refl _) ?_
    exact ⟨rfl, rfl⟩
theorem c_T_isOfKind {a : Nat} {q b : Int} (hq6 : 0 ≤ q ∧ q ≤ 6) (hb : 0 ≤ b ∧ b ≤ 6) (han : a < n) (haK : K a = (kC q, 4)) : tw_F l G 1 0 0 mT_isOfKind [vr (some a), vi b] (K, I, Q, n) (some (vi (if uP q b then 1 else 0))) (K, I, Q, n) := by
  rcases (show q = 0 ∨ q = 1 ∨ q = 2 ∨ q = 3 ∨ q = 4 ∨ q = 5 ∨ q = 6 by omega) with rfl | rfl | rfl | rfl | rfl | rfl | rfl
  · have hKa : tK (K, I, Q, n) a (2, 4) := ⟨by show K a = _; rw [haK]; rfl, han⟩
    refine tw_intro okT_isOfKind (Nat.le_of_ble_eq_true rfl) ?_
    refine ar_iloadn (k := 0) rfl rfl ?_
    rcases (show b = 1 ∨ b = 2 ∨ b = 3 ∨ b = 4 ∨ b = 5 ∨ b = 6 ∨ (b < 1 ∨ 6 < b) by omega) with q1 | q1 | q1 | q1 | q1 | q1 | q1
    · refine ar_tswIn (k := 1) (t := 40) rfl (by omega) (by omega) (by omega) (by rw [q1]; rfl) (by decide) ?_
      refine ar_aloadn (k := 2) rfl rfl ?_
      refine ar_inst (k := 3) (b := 0) rfl klT_284 hKa rfl (by decide) ?_
      refine ar_zret (k := 4) rfl rfl (by omega) rfl (Nat.le_refl _) ?_
      first
        | exact ⟨congrArg (fun z => some (vi z)) (by omega), rfl⟩
        | (exfalso; omega)
    · refine ar_tswIn (k := 1) (t := 45) rfl (by omega) (by omega) (by omega) (by rw [q1]; rfl) (by decide) ?_
      refine ar_aloadn (k := 5) rfl rfl ?_
      refine ar_inst (k := 6) (b := 0) rfl klT_289 hKa rfl (by decide) ?_
      refine ar_zret (k := 7) rfl rfl (by omega) rfl (Nat.le_refl _) ?_
      first
        | exact ⟨congrArg (fun z => some (vi z)) (by omega), rfl⟩
        | (exfalso; omega)
    · refine ar_tswIn (k := 1) (t := 50) rfl (by omega) (by omega) (by omega) (by rw [q1]; rfl) (by decide) ?_
      refine ar_aloadn (k := 8) rfl rfl ?_
      refine ar_inst (k := 9) (b := 0) rfl klT_292 hKa rfl (by decide) ?_
      refine ar_zret (k := 10) rfl rfl (by omega) rfl (Nat.le_refl _) ?_
      first
        | exact ⟨congrArg (fun z => some (vi z)) (by omega), rfl⟩
        | (exfalso; omega)
    · refine ar_tswIn (k := 1) (t := 55) rfl (by omega) (by omega) (by omega) (by rw [q1]; rfl) (by decide) ?_
      refine ar_aloadn (k := 11) rfl rfl ?_
      refine ar_inst (k := 12) (b := 0) rfl klT_295 hKa rfl (by decide) ?_
      refine ar_zret (k := 13) rfl rfl (by omega) rfl (Nat.le_refl _) ?_
      first
        | exact ⟨congrArg (fun z => some (vi z)) (by omega), rfl⟩
        | (exfalso; omega)
    · refine ar_tswIn (k := 1) (t := 60) rfl (by omega) (by omega) (by omega) (by rw [q1]; rfl) (by decide) ?_
      refine ar_aloadn (k := 14) rfl rfl ?_
      refine ar_inst (k := 15) (b := 0) rfl klT_298 hKa rfl (by decide) ?_
      refine ar_zret (k := 16) rfl rfl (by omega) rfl (Nat.le_refl _) ?_
      first
        | exact ⟨congrArg (fun z => some (vi z)) (by omega), rfl⟩
        | (exfalso; omega)
    · refine ar_tswIn (k := 1) (t := 65) rfl (by omega) (by omega) (by omega) (by rw [q1]; rfl) (by decide) ?_
      refine ar_aloadn (k := 17) rfl rfl ?_
      refine ar_inst (k := 18) (b := 0) rfl klT_95 hKa rfl (by decide) ?_
      refine ar_zret (k := 19) rfl rfl (by omega) rfl (Nat.le_refl _) ?_
      first
        | exact ⟨congrArg (fun z => some (vi z)) (by omega), rfl⟩
        | (exfalso; omega)
    · refine ar_tswOut (k := 1) (t := 70) rfl (by omega) (by omega) (by decide) ?_
      refine ar_iconst (k := 20) rfl ?_
      refine ar_zret (k := 21) rfl rfl (by omega) rfl (Nat.le_refl _) ?_
      first
        | exact ⟨congrArg (fun z => some (vi z)) (by omega), rfl⟩
        | (exfalso; omega)
  · have hKa : tK (K, I, Q, n) a (0, 4) := ⟨by show K a = _; rw [haK]; rfl, han⟩
    refine tw_intro okT_isOfKind (Nat.le_of_ble_eq_true rfl) ?_
    refine ar_iloadn (k := 0) rfl rfl ?_
    rcases (show b = 1 ∨ b = 2 ∨ b = 3 ∨ b = 4 ∨ b = 5 ∨ b = 6 ∨ (b < 1 ∨ 6 < b) by omega) with q1 | q1 | q1 | q1 | q1 | q1 | q1
    · refine ar_tswIn (k := 1) (t := 40) rfl (by omega) (by omega) (by omega) (by rw [q1]; rfl) (by decide) ?_
      refine ar_aloadn (k := 2) rfl rfl ?_
      refine ar_inst (k := 3) (b := 1) rfl klT_284 hKa rfl (by decide) ?_
      refine ar_zret (k := 4) rfl rfl (by omega) rfl (Nat.le_refl _) ?_
      first
        | exact ⟨congrArg (fun z => some (vi z)) (by omega), rfl⟩
        | (exfalso; omega)
    · refine ar_tswIn (k := 1) (t := 45) rfl (by omega) (by omega) (by omega) (by rw [q1]; rfl) (by decide) ?_
      refine ar_aloadn (k := 5) rfl rfl ?_
      refine ar_inst (k := 6) (b := 0) rfl klT_289 hKa rfl (by decide) ?_
      refine ar_zret (k := 7) rfl rfl (by omega) rfl (Nat.le_refl _) ?_
      first
        | exact ⟨congrArg (fun z => some (vi z)) (by omega), rfl⟩
        | (exfalso; omega)
    · refine ar_tswIn (k := 1) (t := 50) rfl (by omega) (by omega) (by omega) (by rw [q1]; rfl) (by decide) ?_
      refine ar_aloadn (k := 8) rfl rfl ?_
      refine ar_inst (k := 9) (b := 0) rfl klT_292 hKa rfl (by decide) ?_
      refine ar_zret (k := 10) rfl rfl (by omega) rfl (Nat.le_refl _) ?_
      first
        | exact ⟨congrArg (fun z => some (vi z)) (by omega), rfl⟩
        | (exfalso; omega)
    · refine ar_tswIn (k := 1) (t := 55) rfl (by omega) (by omega) (by omega) (by rw [q1]; rfl) (by decide) ?_
      refine ar_aloadn (k := 11) rfl rfl ?_
      refine ar_inst (k := 12) (b := 0) rfl klT_295 hKa rfl (by decide) ?_
      refine ar_zret (k := 13) rfl rfl (by omega) rfl (Nat.le_refl _) ?_
      first
        | exact ⟨congrArg (fun z => some (vi z)) (by omega), rfl⟩
        | (exfalso; omega)
    · refine ar_tswIn (k := 1) (t := 60) rfl (by omega) (by omega) (by omega) (by rw [q1]; rfl) (by decide) ?_
      refine ar_aloadn (k := 14) rfl rfl ?_
      refine ar_inst (k := 15) (b := 0) rfl klT_298 hKa rfl (by decide) ?_
      refine ar_zret (k := 16) rfl rfl (by omega) rfl (Nat.le_refl _) ?_
      first
        | exact ⟨congrArg (fun z => some (vi z)) (by omega), rfl⟩
        | (exfalso; omega)
    · refine ar_tswIn (k := 1) (t := 65) rfl (by omega) (by omega) (by omega) (by rw [q1]; rfl) (by decide) ?_
      refine ar_aloadn (k := 17) rfl rfl ?_
      refine ar_inst (k := 18) (b := 0) rfl klT_95 hKa rfl (by decide) ?_
      refine ar_zret (k := 19) rfl rfl (by omega) rfl (Nat.le_refl _) ?_
      first
        | exact ⟨congrArg (fun z => some (vi z)) (by omega), rfl⟩
        | (exfalso; omega)
    · refine ar_tswOut (k := 1) (t := 70) rfl (by omega) (by omega) (by decide) ?_
      refine ar_iconst (k := 20) rfl ?_
      refine ar_zret (k := 21) rfl rfl (by omega) rfl (Nat.le_refl _) ?_
      first
        | exact ⟨congrArg (fun z => some (vi z)) (by omega), rfl⟩
        | (exfalso; omega)
  · have hKa : tK (K, I, Q, n) a (3, 4) := ⟨by show K a = _; rw [haK]; rfl, han⟩
    refine tw_intro okT_isOfKind (Nat.le_of_ble_eq_true rfl) ?_
    refine ar_iloadn (k := 0) rfl rfl ?_
    rcases (show b = 1 ∨ b = 2 ∨ b = 3 ∨ b = 4 ∨ b = 5 ∨ b = 6 ∨ (b < 1 ∨ 6 < b) by omega) with q1 | q1 | q1 | q1 | q1 | q1 | q1
    · refine ar_tswIn (k := 1) (t := 40) rfl (by omega) (by omega) (by omega) (by rw [q1]; rfl) (by decide) ?_
      refine ar_aloadn (k := 2) rfl rfl ?_
      refine ar_inst (k := 3) (b := 0) rfl klT_284 hKa rfl (by decide) ?_
      refine ar_zret (k := 4) rfl rfl (by omega) rfl (Nat.le_refl _) ?_
      first
        | exact ⟨congrArg (fun z => some (vi z)) (by omega), rfl⟩
        | (exfalso; omega)
    · refine ar_tswIn (k := 1) (t := 45) rfl (by omega) (by omega) (by omega) (by rw [q1]; rfl) (by decide) ?_
      refine ar_aloadn (k := 5) rfl rfl ?_
      refine ar_inst (k := 6) (b := 1) rfl klT_289 hKa rfl (by decide) ?_
      refine ar_zret (k := 7) rfl rfl (by omega) rfl (Nat.le_refl _) ?_
      first
        | exact ⟨congrArg (fun z => some (vi z)) (by omega), rfl⟩
        | (exfalso; omega)
    · refine ar_tswIn (k := 1) (t := 50) rfl (by omega) (by omega) (by omega) (by rw [q1]; rfl) (by decide) ?_
      refine ar_aloadn (k := 8) rfl rfl ?_
      refine ar_inst (k := 9) (b := 0) rfl klT_292 hKa rfl (by decide) ?_
      refine ar_zret (k := 10) rfl rfl (by omega) rfl (Nat.le_refl _) ?_
      first
        | exact ⟨congrArg (fun z => some (vi z)) (by omega), rfl⟩
        | (exfalso; omega)
    · refine ar_tswIn (k := 1) (t := 55) rfl (by omega) (by omega) (by omega) (by rw [q1]; rfl) (by decide) ?_
      refine ar_aloadn (k := 11) rfl rfl ?_
      refine ar_inst (k := 12) (b := 0) rfl klT_295 hKa rfl (by decide) ?_
      refine ar_zret (k := 13) rfl rfl (by omega) rfl (Nat.le_refl _) ?_
      first
        | exact ⟨congrArg (fun z => some (vi z)) (by omega), rfl⟩
        | (exfalso; omega)
    · refine ar_tswIn (k := 1) (t := 60) rfl (by omega) (by omega) (by omega) (by rw [q1]; rfl) (by decide) ?_
      refine ar_aloadn (k := 14) rfl rfl ?_
      refine ar_inst (k := 15) (b := 0) rfl klT_298 hKa rfl (by decide) ?_
      refine ar_zret (k := 16) rfl rfl (by omega) rfl (Nat.le_refl _) ?_
      first
        | exact ⟨congrArg (fun z => some (vi z)) (by omega), rfl⟩
        | (exfalso; omega)
    · refine ar_tswIn (k := 1) (t := 65) rfl (by omega) (by omega) (by omega) (by rw [q1]; rfl) (by decide) ?_
      refine ar_aloadn (k := 17) rfl rfl ?_
      refine ar_inst (k := 18) (b := 0) rfl klT_95 hKa rfl (by decide) ?_
      refine ar_zret (k := 19) rfl rfl (by omega) rfl (Nat.le_refl _) ?_
      first
        | exact ⟨congrArg (fun z => some (vi z)) (by omega), rfl⟩
        | (exfalso; omega)
    · refine ar_tswOut (k := 1) (t := 70) rfl (by omega) (by omega) (by decide) ?_
      refine ar_iconst (k := 20) rfl ?_
      refine ar_zret (k := 21) rfl rfl (by omega) rfl (Nat.le_refl _) ?_
      first
        | exact ⟨congrArg (fun z => some (vi z)) (by omega), rfl⟩
        | (exfalso; omega)
  · have hKa : tK (K, I, Q, n) a (1, 4) := ⟨by show K a = _; rw [haK]; rfl, han⟩
    refine tw_intro okT_isOfKind (Nat.le_of_ble_eq_true rfl) ?_
    refine ar_iloadn (k := 0) rfl rfl ?_
    rcases (show b = 1 ∨ b = 2 ∨ b = 3 ∨ b = 4 ∨ b = 5 ∨ b = 6 ∨ (b < 1 ∨ 6 < b) by omega) with q1 | q1 | q1 | q1 | q1 | q1 | q1
    · refine ar_tswIn (k := 1) (t := 40) rfl (by omega) (by omega) (by omega) (by rw [q1]; rfl) (by decide) ?_
      refine ar_aloadn (k := 2) rfl rfl ?_
      refine ar_inst (k := 3) (b := 0) rfl klT_284 hKa rfl (by decide) ?_
      refine ar_zret (k := 4) rfl rfl (by omega) rfl (Nat.le_refl _) ?_
      first
        | exact ⟨congrArg (fun z => some (vi z)) (by omega), rfl⟩
        | (exfalso; omega)
    · refine ar_tswIn (k := 1) (t := 45) rfl (by omega) (by omega) (by omega) (by rw [q1]; rfl) (by decide) ?_
      refine ar_aloadn (k := 5) rfl rfl ?_
      refine ar_inst (k := 6) (b := 0) rfl klT_289 hKa rfl (by decide) ?_
      refine ar_zret (k := 7) rfl rfl (by omega) rfl (Nat.le_refl _) ?_
      first
        | exact ⟨congrArg (fun z => some (vi z)) (by omega), rfl⟩
        | (exfalso; omega)
    · refine ar_tswIn (k := 1) (t := 50) rfl (by omega) (by omega) (by omega) (by rw [q1]; rfl) (by decide) ?_
      refine ar_aloadn (k := 8) rfl rfl ?_
      refine ar_inst (k := 9) (b := 1) rfl klT_292 hKa rfl (by decide) ?_
      refine ar_zret (k := 10) rfl rfl (by omega) rfl (Nat.le_refl _) ?_
      first
        | exact ⟨congrArg (fun z => some (vi z)) (by omega), rfl⟩
        | (exfalso; omega)
    · refine ar_tswIn (k := 1) (t := 55) rfl (by omega) (by omega) (by omega) (by rw [q1]; rfl) (by decide) ?_
      refine ar_aloadn (k := 11) rfl rfl ?_
      refine ar_inst (k := 12) (b := 0) rfl klT_295 hKa rfl (by decide) ?_
      refine ar_zret (k := 13) rfl rfl (by omega) rfl (Nat.le_refl _) ?_
      first
        | exact ⟨congrArg (fun z => some (vi z)) (by omega), rfl⟩
        | (exfalso; omega)
    · refine ar_tswIn (k := 1) (t := 60) rfl (by omega) (by omega) (by omega) (by rw [q1]; rfl) (by decide) ?_
      refine ar_aloadn (k := 14) rfl rfl ?_
      refine ar_inst (k := 15) (b := 0) rfl klT_298 hKa rfl (by decide) ?_
      refine ar_zret (k := 16) rfl rfl (by omega) rfl (Nat.le_refl _) ?_
      first
        | exact ⟨congrArg (fun z => some (vi z)) (by omega), rfl⟩
        | (exfalso; omega)
    · refine ar_tswIn (k := 1) (t := 65) rfl (by omega) (by omega) (by omega) (by rw [q1]; rfl) (by decide) ?_
      refine ar_aloadn (k := 17) rfl rfl ?_
      refine ar_inst (k := 18) (b := 0) rfl klT_95 hKa rfl (by decide) ?_
      refine ar_zret (k := 19) rfl rfl (by omega) rfl (Nat.le_refl _) ?_
      first
        | exact ⟨congrArg (fun z => some (vi z)) (by omega), rfl⟩
        | (exfalso; omega)
    · refine ar_tswOut (k := 1) (t := 70) rfl (by omega) (by omega) (by decide) ?_
      refine ar_iconst (k := 20) rfl ?_
      refine ar_zret (k := 21) rfl rfl (by omega) rfl (Nat.le_refl _) ?_
      first
        | exact ⟨congrArg (fun z => some (vi z)) (by omega), rfl⟩
        | (exfalso; omega)
  · have hKa : tK (K, I, Q, n) a (5, 4) := ⟨by show K a = _; rw [haK]; rfl, han⟩
    refine tw_intro okT_isOfKind (Nat.le_of_ble_eq_true rfl) ?_
    refine ar_iloadn (k := 0) rfl rfl ?_
    rcases (show b = 1 ∨ b = 2 ∨ b = 3 ∨ b = 4 ∨ b = 5 ∨ b = 6 ∨ (b < 1 ∨ 6 < b) by omega) with q1 | q1 | q1 | q1 | q1 | q1 | q1
    · refine ar_tswIn (k := 1) (t := 40) rfl (by omega) (by omega) (by omega) (by rw [q1]; rfl) (by decide) ?_
      refine ar_aloadn (k := 2) rfl rfl ?_
      refine ar_inst (k := 3) (b := 1) rfl klT_284 hKa rfl (by decide) ?_
      refine ar_zret (k := 4) rfl rfl (by omega) rfl (Nat.le_refl _) ?_
      first
        | exact ⟨congrArg (fun z => some (vi z)) (by omega), rfl⟩
        | (exfalso; omega)
    · refine ar_tswIn (k := 1) (t := 45) rfl (by omega) (by omega) (by omega) (by rw [q1]; rfl) (by decide) ?_
      refine ar_aloadn (k := 5) rfl rfl ?_
      refine ar_inst (k := 6) (b := 0) rfl klT_289 hKa rfl (by decide) ?_
      refine ar_zret (k := 7) rfl rfl (by omega) rfl (Nat.le_refl _) ?_
      first
        | exact ⟨congrArg (fun z => some (vi z)) (by omega), rfl⟩
        | (exfalso; omega)
    · refine ar_tswIn (k := 1) (t := 50) rfl (by omega) (by omega) (by omega) (by rw [q1]; rfl) (by decide) ?_
      refine ar_aloadn (k := 8) rfl rfl ?_
      refine ar_inst (k := 9) (b := 0) rfl klT_292 hKa rfl (by decide) ?_
      refine ar_zret (k := 10) rfl rfl (by omega) rfl (Nat.le_refl _) ?_
      first
        | exact ⟨congrArg (fun z => some (vi z)) (by omega), rfl⟩
        | (exfalso; omega)
    · refine ar_tswIn (k := 1) (t := 55) rfl (by omega) (by omega) (by omega) (by rw [q1]; rfl) (by decide) ?_
      refine ar_aloadn (k := 11) rfl rfl ?_
      refine ar_inst (k := 12) (b := 1) rfl klT_295 hKa rfl (by decide) ?_
      refine ar_zret (k := 13) rfl rfl (by omega) rfl (Nat.le_refl _) ?_
      first
        | exact ⟨congrArg (fun z => some (vi z)) (by omega), rfl⟩
        | (exfalso; omega)
    · refine ar_tswIn (k := 1) (t := 60) rfl (by omega) (by omega) (by omega) (by rw [q1]; rfl) (by decide) ?_
      refine ar_aloadn (k := 14) rfl rfl ?_
      refine ar_inst (k := 15) (b := 0) rfl klT_298 hKa rfl (by decide) ?_
      refine ar_zret (k := 16) rfl rfl (by omega) rfl (Nat.le_refl _) ?_
      first
        | exact ⟨congrArg (fun z => some (vi z)) (by omega), rfl⟩
        | (exfalso; omega)
    · refine ar_tswIn (k := 1) (t := 65) rfl (by omega) (by omega) (by omega) (by rw [q1]; rfl) (by decide) ?_
      refine ar_aloadn (k := 17) rfl rfl ?_
      refine ar_inst (k := 18) (b := 0) rfl klT_95 hKa rfl (by decide) ?_
      refine ar_zret (k := 19) rfl rfl (by omega) rfl (Nat.le_refl _) ?_
      first
        | exact ⟨congrArg (fun z => some (vi z)) (by omega), rfl⟩
        | (exfalso; omega)
    · refine ar_tswOut (k := 1) (t := 70) rfl (by omega) (by omega) (by decide) ?_
      refine ar_iconst (k := 20) rfl ?_
      refine ar_zret (k := 21) rfl rfl (by omega) rfl (Nat.le_refl _) ?_
      first
        | exact ⟨congrArg (fun z => some (vi z)) (by omega), rfl⟩
        | (exfalso; omega)
  · have hKa : tK (K, I, Q, n) a (4, 4) := ⟨by show K a = _; rw [haK]; rfl, han⟩
    refine tw_intro okT_isOfKind (Nat.le_of_ble_eq_true rfl) ?_
    refine ar_iloadn (k := 0) rfl rfl ?_
    rcases (show b = 1 ∨ b = 2 ∨ b = 3 ∨ b = 4 ∨ b = 5 ∨ b = 6 ∨ (b < 1 ∨ 6 < b) by omega) with q1 | q1 | q1 | q1 | q1 | q1 | q1
    · refine ar_tswIn (k := 1) (t := 40) rfl (by omega) (by omega) (by omega) (by rw [q1]; rfl) (by decide) ?_
      refine ar_aloadn (k := 2) rfl rfl ?_
      refine ar_inst (k := 3) (b := 0) rfl klT_284 hKa rfl (by decide) ?_
      refine ar_zret (k := 4) rfl rfl (by omega) rfl (Nat.le_refl _) ?_
      first
        | exact ⟨congrArg (fun z => some (vi z)) (by omega), rfl⟩
        | (exfalso; omega)
    · refine ar_tswIn (k := 1) (t := 45) rfl (by omega) (by omega) (by omega) (by rw [q1]; rfl) (by decide) ?_
      refine ar_aloadn (k := 5) rfl rfl ?_
      refine ar_inst (k := 6) (b := 1) rfl klT_289 hKa rfl (by decide) ?_
      refine ar_zret (k := 7) rfl rfl (by omega) rfl (Nat.le_refl _) ?_
      first
        | exact ⟨congrArg (fun z => some (vi z)) (by omega), rfl⟩
        | (exfalso; omega)
    · refine ar_tswIn (k := 1) (t := 50) rfl (by omega) (by omega) (by omega) (by rw [q1]; rfl) (by decide) ?_
      refine ar_aloadn (k := 8) rfl rfl ?_
      refine ar_inst (k := 9) (b := 0) rfl klT_292 hKa rfl (by decide) ?_
      refine ar_zret (k := 10) rfl rfl (by omega) rfl (Nat.le_refl _) ?_
      first
        | exact ⟨congrArg (fun z => some (vi z)) (by omega), rfl⟩
        | (exfalso; omega)
    · refine ar_tswIn (k := 1) (t := 55) rfl (by omega) (by omega) (by omega) (by rw [q1]; rfl) (by decide) ?_
      refine ar_aloadn (k := 11) rfl rfl ?_
      refine ar_inst (k := 12) (b := 0) rfl klT_295 hKa rfl (by decide) ?_
      refine ar_zret (k := 13) rfl rfl (by omega) rfl (Nat.le_refl _) ?_
      first
        | exact ⟨congrArg (fun z => some (vi z)) (by omega), rfl⟩
        | (exfalso; omega)
    · refine ar_tswIn (k := 1) (t := 60) rfl (by omega) (by omega) (by omega) (by rw [q1]; rfl) (by decide) ?_
      refine ar_aloadn (k := 14) rfl rfl ?_
      refine ar_inst (k := 15) (b := 1) rfl klT_298 hKa rfl (by decide) ?_
      refine ar_zret (k := 16) rfl rfl (by omega) rfl (Nat.le_refl _) ?_
      first
        | exact ⟨congrArg (fun z => some (vi z)) (by omega), rfl⟩
        | (exfalso; omega)
    · refine ar_tswIn (k := 1) (t := 65) rfl (by omega) (by omega) (by omega) (by rw [q1]; rfl) (by decide) ?_
      refine ar_aloadn (k := 17) rfl rfl ?_
      refine ar_inst (k := 18) (b := 0) rfl klT_95 hKa rfl (by decide) ?_
      refine ar_zret (k := 19) rfl rfl (by omega) rfl (Nat.le_refl _) ?_
      first
        | exact ⟨congrArg (fun z => some (vi z)) (by omega), rfl⟩
        | (exfalso; omega)
    · refine ar_tswOut (k := 1) (t := 70) rfl (by omega) (by omega) (by decide) ?_
      refine ar_iconst (k := 20) rfl ?_
      refine ar_zret (k := 21) rfl rfl (by omega) rfl (Nat.le_refl _) ?_
      first
        | exact ⟨congrArg (fun z => some (vi z)) (by omega), rfl⟩
        | (exfalso; omega)
  · have hKa : tK (K, I, Q, n) a (7, 4) := ⟨by show K a = _; rw [haK]; rfl, han⟩
    refine tw_intro okT_isOfKind (Nat.le_of_ble_eq_true rfl) ?_
    refine ar_iloadn (k := 0) rfl rfl ?_
    rcases (show b = 1 ∨ b = 2 ∨ b = 3 ∨ b = 4 ∨ b = 5 ∨ b = 6 ∨ (b < 1 ∨ 6 < b) by omega) with q1 | q1 | q1 | q1 | q1 | q1 | q1
    · refine ar_tswIn (k := 1) (t := 40) rfl (by omega) (by omega) (by omega) (by rw [q1]; rfl) (by decide) ?_
      refine ar_aloadn (k := 2) rfl rfl ?_
      refine ar_inst (k := 3) (b := 0) rfl klT_284 hKa rfl (by decide) ?_
      refine ar_zret (k := 4) rfl rfl (by omega) rfl (Nat.le_refl _) ?_
      first
        | exact ⟨congrArg (fun z => some (vi z)) (by omega), rfl⟩
        | (exfalso; omega)
    · refine ar_tswIn (k := 1) (t := 45) rfl (by omega) (by omega) (by omega) (by rw [q1]; rfl) (by decide) ?_
      refine ar_aloadn (k := 5) rfl rfl ?_
      refine ar_inst (k := 6) (b := 0) rfl klT_289 hKa rfl (by decide) ?_
      refine ar_zret (k := 7) rfl rfl (by omega) rfl (Nat.le_refl _) ?_
      first
        | exact ⟨congrArg (fun z => some (vi z)) (by omega), rfl⟩
        | (exfalso; omega)
    · refine ar_tswIn (k := 1) (t := 50) rfl (by omega) (by omega) (by omega) (by rw [q1]; rfl) (by decide) ?_
      refine ar_aloadn (k := 8) rfl rfl ?_
      refine ar_inst (k := 9) (b := 1) rfl klT_292 hKa rfl (by decide) ?_
      refine ar_zret (k := 10) rfl rfl (by omega) rfl (Nat.le_refl _) ?_
      first
        | exact ⟨congrArg (fun z => some (vi z)) (by omega), rfl⟩
        | (exfalso; omega)
    · refine ar_tswIn (k := 1) (t := 55) rfl (by omega) (by omega) (by omega) (by rw [q1]; rfl) (by decide) ?_
      refine ar_aloadn (k := 11) rfl rfl ?_
      refine ar_inst (k := 12) (b := 0) rfl klT_295 hKa rfl (by decide) ?_
      refine ar_zret (k := 13) rfl rfl (by omega) rfl (Nat.le_refl _) ?_
      first
        | exact ⟨congrArg (fun z => some (vi z)) (by omega), rfl⟩
        | (exfalso; omega)
    · refine ar_tswIn (k := 1) (t := 60) rfl (by omega) (by omega) (by omega) (by rw [q1]; rfl) (by decide) ?_
      refine ar_aloadn (k := 14) rfl rfl ?_
      refine ar_inst (k := 15) (b := 0) rfl klT_298 hKa rfl (by decide) ?_
      refine ar_zret (k := 16) rfl rfl (by omega) rfl (Nat.le_refl _) ?_
      first
        | exact ⟨congrArg (fun z => some (vi z)) (by omega), rfl⟩
        | (exfalso; omega)
    · refine ar_tswIn (k := 1) (t := 65) rfl (by omega) (by omega) (by omega) (by rw [q1]; rfl) (by decide) ?_
      refine ar_aloadn (k := 17) rfl rfl ?_
      refine ar_inst (k := 18) (b := 1) rfl klT_95 hKa rfl (by decide) ?_
      refine ar_zret (k := 19) rfl rfl (by omega) rfl (Nat.le_refl _) ?_
      first
        | exact ⟨congrArg (fun z => some (vi z)) (by omega), rfl⟩
        | (exfalso; omega)
    · refine ar_tswOut (k := 1) (t := 70) rfl (by omega) (by omega) (by decide) ?_
      refine ar_iconst (k := 20) rfl ?_
      refine ar_zret (k := 21) rfl rfl (by omega) rfl (Nat.le_refl _) ?_
      first
        | exact ⟨congrArg (fun z => some (vi z)) (by omega), rfl⟩
        | (exfalso; omega)
theorem c_T_as {p b : Int} (hS : tSt (K, I, Q, n)) (hN : WN 1 I s) (hR : RInv s) (hP : WP 1 K I Q n s) (tp : tr p) (tb : tr b) : tw_F l G 3 0 0 mT_as [vr (some 0), vi p, vi b] (K, I, Q, n) (some (vi (rs_as s p b).1)) (K, I, Q, n) := by
  obtain ⟨h0, h1, h2, h3, h4, h5, h6, hp, hrw, ht, hr, hb, htp, hv⟩ := id hR
  refine tw_intro okT_as (Nat.le_of_ble_eq_true rfl) ?_
  by_cases hno : 0 ≤ p ∧ p ≤ s 0 - 1
  · skip
    refine ar_aloadn (k := 0) rfl rfl ?_
    obtain ⟨a, hQa, ha77, han, haK, ha0, ha1, ha2, ha3⟩ := hP p (by omega) (by omega)
    rcases (show s (10 + p) = 0 ∨ s (10 + p) = 1 ∨ s (10 + p) = 2 ∨ s (10 + p) = 3 ∨ s (10 + p) = 4 ∨ s (10 + p) = 5 ∨ s (10 + p) = 6 by have := hp p (by omega) (by omega); omega) with hq | hq | hq | hq | hq | hq | hq
    · have hKa : tK (K, I, Q, n) a (2, 4) := ⟨by show K a = _; rw [haK, hq]; rfl, han⟩
      refine br_getR (k := 1) rfl (hS.k (by decide)) flT_14_11 (by decide) rfl (hS.r rfl) ?_
      refine ar_iloadn (k := 2) rfl rfl ?_
      refine ar_callV (k := 3) (as := [_]) rfl lvT_136 (hS.k (by decide)) rfl (c_W_pYes hS hN hR hno hQa) rfl (by decide) (by decide) tw_m0 (Nat.le_of_ble_eq_true rfl) (fun r3 h3 p3 => ?_)
      obtain ⟨rfl, rfl⟩ := p3
      refine ar_astoren (k := 4) (l2 := [(3, _), (0, _), (1, _), (2, _)]) rfl (by decide) rfl ?_
      refine ar_aloadn (k := 5) rfl rfl ?_
      refine ar_ifnull (k := 6) rfl (fun c6 => ?_) (fun a6 c6 => ?_)
      · cases c6
      · refine ar_iloadn (k := 7) rfl rfl ?_
        refine ar_if_lt (k := 8) rfl (by omega) (fun c8 => ?_) (fun c8 => ?_)
        · refine ar_iconst (k := 12) rfl ?_
          refine ar_iret (k := 13) rfl rfl rfl (Nat.le_refl _) ?_
          unfold rs_as
          split <;> first | (exfalso; omega) | exact ⟨congrArg (fun z => some (vi z)) (by omega), rfl⟩
        · refine ar_iloadn (k := 9) rfl rfl ?_
          refine ar_bipush (k := 10) rfl (by decide) ?_
          refine ar_icmp_le (k := 11) rfl (by omega) (by omega) (fun c11 => ?_) (fun c11 => ?_)
          · refine ar_aloadn (k := 14) rfl rfl ?_
            refine ar_iloadn (k := 15) rfl rfl ?_
            refine ar_callS (k := 16) (as := [_, _]) rfl lsT_277 (c_T_isOfKind (q := s (10 + p)) (by omega) (by omega) han haK) rfl (by decide) (by decide) tw_m0 (Nat.le_of_ble_eq_true rfl) (fun r16 h16 p16 => ?_)
            obtain ⟨rfl, rfl⟩ := p16
            refine ar_if_eq (k := 17) rfl (by omega) (fun c17 => ?_) (fun c17 => ?_)
            · refine ar_bipush (k := 21) rfl (by decide) ?_
              refine ar_iret (k := 22) rfl rfl rfl (Nat.le_refl _) ?_
              unfold rs_as
              split <;> first | (exfalso; omega) | exact ⟨congrArg (fun z => some (vi z)) (by omega), rfl⟩
            · refine ar_aloadn (k := 18) rfl rfl ?_
              refine br_getIz (k := 19) (z := 2) rfl hKa flT_145_2 (by decide) rfl rfl ?_
              refine tw_top ha2 ?_
              refine ar_goto (k := 20) rfl ?_
              refine ar_iret (k := 22) rfl rfl rfl (Nat.le_refl _) ?_
              unfold rs_as
              split <;> first | (exfalso; omega) | exact ⟨congrArg (fun z => some (vi z)) (by omega), rfl⟩
          · refine ar_iconst (k := 12) rfl ?_
            refine ar_iret (k := 13) rfl rfl rfl (Nat.le_refl _) ?_
            unfold rs_as
            split <;> first | (exfalso; omega) | exact ⟨congrArg (fun z => some (vi z)) (by omega), rfl⟩
    · have hKa : tK (K, I, Q, n) a (0, 4) := ⟨by show K a = _; rw [haK, hq]; rfl, han⟩
      refine br_getR (k := 1) rfl (hS.k (by decide)) flT_14_11 (by decide) rfl (hS.r rfl) ?_
      refine ar_iloadn (k := 2) rfl rfl ?_
      refine ar_callV (k := 3) (as := [_]) rfl lvT_136 (hS.k (by decide)) rfl (c_W_pYes hS hN hR hno hQa) rfl (by decide) (by decide) tw_m0 (Nat.le_of_ble_eq_true rfl) (fun r3 h3 p3 => ?_)
      obtain ⟨rfl, rfl⟩ := p3
      refine ar_astoren (k := 4) (l2 := [(3, _), (0, _), (1, _), (2, _)]) rfl (by decide) rfl ?_
      refine ar_aloadn (k := 5) rfl rfl ?_
      refine ar_ifnull (k := 6) rfl (fun c6 => ?_) (fun a6 c6 => ?_)
      · cases c6
      · refine ar_iloadn (k := 7) rfl rfl ?_
        refine ar_if_lt (k := 8) rfl (by omega) (fun c8 => ?_) (fun c8 => ?_)
        · refine ar_iconst (k := 12) rfl ?_
          refine ar_iret (k := 13) rfl rfl rfl (Nat.le_refl _) ?_
          unfold rs_as
          split <;> first | (exfalso; omega) | exact ⟨congrArg (fun z => some (vi z)) (by omega), rfl⟩
        · refine ar_iloadn (k := 9) rfl rfl ?_
          refine ar_bipush (k := 10) rfl (by decide) ?_
          refine ar_icmp_le (k := 11) rfl (by omega) (by omega) (fun c11 => ?_) (fun c11 => ?_)
          · refine ar_aloadn (k := 14) rfl rfl ?_
            refine ar_iloadn (k := 15) rfl rfl ?_
            refine ar_callS (k := 16) (as := [_, _]) rfl lsT_277 (c_T_isOfKind (q := s (10 + p)) (by omega) (by omega) han haK) rfl (by decide) (by decide) tw_m0 (Nat.le_of_ble_eq_true rfl) (fun r16 h16 p16 => ?_)
            obtain ⟨rfl, rfl⟩ := p16
            refine ar_if_eq (k := 17) rfl (by omega) (fun c17 => ?_) (fun c17 => ?_)
            · refine ar_bipush (k := 21) rfl (by decide) ?_
              refine ar_iret (k := 22) rfl rfl rfl (Nat.le_refl _) ?_
              unfold rs_as
              split <;> first | (exfalso; omega) | exact ⟨congrArg (fun z => some (vi z)) (by omega), rfl⟩
            · refine ar_aloadn (k := 18) rfl rfl ?_
              refine br_getIz (k := 19) (z := 2) rfl hKa flT_145_0 (by decide) rfl rfl ?_
              refine tw_top ha2 ?_
              refine ar_goto (k := 20) rfl ?_
              refine ar_iret (k := 22) rfl rfl rfl (Nat.le_refl _) ?_
              unfold rs_as
              split <;> first | (exfalso; omega) | exact ⟨congrArg (fun z => some (vi z)) (by omega), rfl⟩
          · refine ar_iconst (k := 12) rfl ?_
            refine ar_iret (k := 13) rfl rfl rfl (Nat.le_refl _) ?_
            unfold rs_as
            split <;> first | (exfalso; omega) | exact ⟨congrArg (fun z => some (vi z)) (by omega), rfl⟩
    · have hKa : tK (K, I, Q, n) a (3, 4) := ⟨by show K a = _; rw [haK, hq]; rfl, han⟩
      refine br_getR (k := 1) rfl (hS.k (by decide)) flT_14_11 (by decide) rfl (hS.r rfl) ?_
      refine ar_iloadn (k := 2) rfl rfl ?_
      refine ar_callV (k := 3) (as := [_]) rfl lvT_136 (hS.k (by decide)) rfl (c_W_pYes hS hN hR hno hQa) rfl (by decide) (by decide) tw_m0 (Nat.le_of_ble_eq_true rfl) (fun r3 h3 p3 => ?_)
      obtain ⟨rfl, rfl⟩ := p3
      refine ar_astoren (k := 4) (l2 := [(3, _), (0, _), (1, _), (2, _)]) rfl (by decide) rfl ?_
      refine ar_aloadn (k := 5) rfl rfl ?_
      refine ar_ifnull (k := 6) rfl (fun c6 => ?_) (fun a6 c6 => ?_)
      · cases c6
      · refine ar_iloadn (k := 7) rfl rfl ?_
        refine ar_if_lt (k := 8) rfl (by omega) (fun c8 => ?_) (fun c8 => ?_)
        · refine ar_iconst (k := 12) rfl ?_
          refine ar_iret (k := 13) rfl rfl rfl (Nat.le_refl _) ?_
          unfold rs_as
          split <;> first | (exfalso; omega) | exact ⟨congrArg (fun z => some (vi z)) (by omega), rfl⟩
        · refine ar_iloadn (k := 9) rfl rfl ?_
          refine ar_bipush (k := 10) rfl (by decide) ?_
          refine ar_icmp_le (k := 11) rfl (by omega) (by omega) (fun c11 => ?_) (fun c11 => ?_)
          · refine ar_aloadn (k := 14) rfl rfl ?_
            refine ar_iloadn (k := 15) rfl rfl ?_
            refine ar_callS (k := 16) (as := [_, _]) rfl lsT_277 (c_T_isOfKind (q := s (10 + p)) (by omega) (by omega) han haK) rfl (by decide) (by decide) tw_m0 (Nat.le_of_ble_eq_true rfl) (fun r16 h16 p16 => ?_)
            obtain ⟨rfl, rfl⟩ := p16
            refine ar_if_eq (k := 17) rfl (by omega) (fun c17 => ?_) (fun c17 => ?_)
            · refine ar_bipush (k := 21) rfl (by decide) ?_
              refine ar_iret (k := 22) rfl rfl rfl (Nat.le_refl _) ?_
              unfold rs_as
              split <;> first | (exfalso; omega) | exact ⟨congrArg (fun z => some (vi z)) (by omega), rfl⟩
            · refine ar_aloadn (k := 18) rfl rfl ?_
              refine br_getIz (k := 19) (z := 2) rfl hKa flT_145_3 (by decide) rfl rfl ?_
              refine tw_top ha2 ?_
              refine ar_goto (k := 20) rfl ?_
              refine ar_iret (k := 22) rfl rfl rfl (Nat.le_refl _) ?_
              unfold rs_as
              split <;> first | (exfalso; omega) | exact ⟨congrArg (fun z => some (vi z)) (by omega), rfl⟩
          · refine ar_iconst (k := 12) rfl ?_
            refine ar_iret (k := 13) rfl rfl rfl (Nat.le_refl _) ?_
            unfold rs_as
            split <;> first | (exfalso; omega) | exact ⟨congrArg (fun z => some (vi z)) (by omega), rfl⟩
    · have hKa : tK (K, I, Q, n) a (1, 4) := ⟨by show K a = _; rw [haK, hq]; rfl, han⟩
      refine br_getR (k := 1) rfl (hS.k (by decide)) flT_14_11 (by decide) rfl (hS.r rfl) ?_
      refine ar_iloadn (k := 2) rfl rfl ?_
      refine ar_callV (k := 3) (as := [_]) rfl lvT_136 (hS.k (by decide)) rfl (c_W_pYes hS hN hR hno hQa) rfl (by decide) (by decide) tw_m0 (Nat.le_of_ble_eq_true rfl) (fun r3 h3 p3 => ?_)
      obtain ⟨rfl, rfl⟩ := p3
      refine ar_astoren (k := 4) (l2 := [(3, _), (0, _), (1, _), (2, _)]) rfl (by decide) rfl ?_
      refine ar_aloadn (k := 5) rfl rfl ?_
      refine ar_ifnull (k := 6) rfl (fun c6 => ?_) (fun a6 c6 => ?_)
      · cases c6
      · refine ar_iloadn (k := 7) rfl rfl ?_
        refine ar_if_lt (k := 8) rfl (by omega) (fun c8 => ?_) (fun c8 => ?_)
        · refine ar_iconst (k := 12) rfl ?_
          refine ar_iret (k := 13) rfl rfl rfl (Nat.le_refl _) ?_
          unfold rs_as
          split <;> first | (exfalso; omega) | exact ⟨congrArg (fun z => some (vi z)) (by omega), rfl⟩
        · refine ar_iloadn (k := 9) rfl rfl ?_
          refine ar_bipush (k := 10) rfl (by decide) ?_
          refine ar_icmp_le (k := 11) rfl (by omega) (by omega) (fun c11 => ?_) (fun c11 => ?_)
          · refine ar_aloadn (k := 14) rfl rfl ?_
            refine ar_iloadn (k := 15) rfl rfl ?_
            refine ar_callS (k := 16) (as := [_, _]) rfl lsT_277 (c_T_isOfKind (q := s (10 + p)) (by omega) (by omega) han haK) rfl (by decide) (by decide) tw_m0 (Nat.le_of_ble_eq_true rfl) (fun r16 h16 p16 => ?_)
            obtain ⟨rfl, rfl⟩ := p16
            refine ar_if_eq (k := 17) rfl (by omega) (fun c17 => ?_) (fun c17 => ?_)
            · refine ar_bipush (k := 21) rfl (by decide) ?_
              refine ar_iret (k := 22) rfl rfl rfl (Nat.le_refl _) ?_
              unfold rs_as
              split <;> first | (exfalso; omega) | exact ⟨congrArg (fun z => some (vi z)) (by omega), rfl⟩
            · refine ar_aloadn (k := 18) rfl rfl ?_
              refine br_getIz (k := 19) (z := 2) rfl hKa flT_145_1 (by decide) rfl rfl ?_
              refine tw_top ha2 ?_
              refine ar_goto (k := 20) rfl ?_
              refine ar_iret (k := 22) rfl rfl rfl (Nat.le_refl _) ?_
              unfold rs_as
              split <;> first | (exfalso; omega) | exact ⟨congrArg (fun z => some (vi z)) (by omega), rfl⟩
          · refine ar_iconst (k := 12) rfl ?_
            refine ar_iret (k := 13) rfl rfl rfl (Nat.le_refl _) ?_
            unfold rs_as
            split <;> first | (exfalso; omega) | exact ⟨congrArg (fun z => some (vi z)) (by omega), rfl⟩
    · have hKa : tK (K, I, Q, n) a (5, 4) := ⟨by show K a = _; rw [haK, hq]; rfl, han⟩
      refine br_getR (k := 1) rfl (hS.k (by decide)) flT_14_11 (by decide) rfl (hS.r rfl) ?_
      refine ar_iloadn (k := 2) rfl rfl ?_
      refine ar_callV (k := 3) (as := [_]) rfl lvT_136 (hS.k (by decide)) rfl (c_W_pYes hS hN hR hno hQa) rfl (by decide) (by decide) tw_m0 (Nat.le_of_ble_eq_true rfl) (fun r3 h3 p3 => ?_)
      obtain ⟨rfl, rfl⟩ := p3
      refine ar_astoren (k := 4) (l2 := [(3, _), (0, _), (1, _), (2, _)]) rfl (by decide) rfl ?_
      refine ar_aloadn (k := 5) rfl rfl ?_
      refine ar_ifnull (k := 6) rfl (fun c6 => ?_) (fun a6 c6 => ?_)
      · cases c6
      · refine ar_iloadn (k := 7) rfl rfl ?_
        refine ar_if_lt (k := 8) rfl (by omega) (fun c8 => ?_) (fun c8 => ?_)
        · refine ar_iconst (k := 12) rfl ?_
          refine ar_iret (k := 13) rfl rfl rfl (Nat.le_refl _) ?_
          unfold rs_as
          split <;> first | (exfalso; omega) | exact ⟨congrArg (fun z => some (vi z)) (by omega), rfl⟩
        · refine ar_iloadn (k := 9) rfl rfl ?_
          refine ar_bipush (k := 10) rfl (by decide) ?_
          refine ar_icmp_le (k := 11) rfl (by omega) (by omega) (fun c11 => ?_) (fun c11 => ?_)
          · refine ar_aloadn (k := 14) rfl rfl ?_
            refine ar_iloadn (k := 15) rfl rfl ?_
            refine ar_callS (k := 16) (as := [_, _]) rfl lsT_277 (c_T_isOfKind (q := s (10 + p)) (by omega) (by omega) han haK) rfl (by decide) (by decide) tw_m0 (Nat.le_of_ble_eq_true rfl) (fun r16 h16 p16 => ?_)
            obtain ⟨rfl, rfl⟩ := p16
            refine ar_if_eq (k := 17) rfl (by omega) (fun c17 => ?_) (fun c17 => ?_)
            · refine ar_bipush (k := 21) rfl (by decide) ?_
              refine ar_iret (k := 22) rfl rfl rfl (Nat.le_refl _) ?_
              unfold rs_as
              split <;> first | (exfalso; omega) | exact ⟨congrArg (fun z => some (vi z)) (by omega), rfl⟩
            · refine ar_aloadn (k := 18) rfl rfl ?_
              refine br_getIz (k := 19) (z := 2) rfl hKa flT_145_5 (by decide) rfl rfl ?_
              refine tw_top ha2 ?_
              refine ar_goto (k := 20) rfl ?_
              refine ar_iret (k := 22) rfl rfl rfl (Nat.le_refl _) ?_
              unfold rs_as
              split <;> first | (exfalso; omega) | exact ⟨congrArg (fun z => some (vi z)) (by omega), rfl⟩
          · refine ar_iconst (k := 12) rfl ?_
            refine ar_iret (k := 13) rfl rfl rfl (Nat.le_refl _) ?_
            unfold rs_as
            split <;> first | (exfalso; omega) | exact ⟨congrArg (fun z => some (vi z)) (by omega), rfl⟩
    · have hKa : tK (K, I, Q, n) a (4, 4) := ⟨by show K a = _; rw [haK, hq]; rfl, han⟩
      refine br_getR (k := 1) rfl (hS.k (by decide)) flT_14_11 (by decide) rfl (hS.r rfl) ?_
      refine ar_iloadn (k := 2) rfl rfl ?_
      refine ar_callV (k := 3) (as := [_]) rfl lvT_136 (hS.k (by decide)) rfl (c_W_pYes hS hN hR hno hQa) rfl (by decide) (by decide) tw_m0 (Nat.le_of_ble_eq_true rfl) (fun r3 h3 p3 => ?_)
      obtain ⟨rfl, rfl⟩ := p3
      refine ar_astoren (k := 4) (l2 := [(3, _), (0, _), (1, _), (2, _)]) rfl (by decide) rfl ?_
      refine ar_aloadn (k := 5) rfl rfl ?_
      refine ar_ifnull (k := 6) rfl (fun c6 => ?_) (fun a6 c6 => ?_)
      · cases c6
      · refine ar_iloadn (k := 7) rfl rfl ?_
        refine ar_if_lt (k := 8) rfl (by omega) (fun c8 => ?_) (fun c8 => ?_)
        · refine ar_iconst (k := 12) rfl ?_
          refine ar_iret (k := 13) rfl rfl rfl (Nat.le_refl _) ?_
          unfold rs_as
          split <;> first | (exfalso; omega) | exact ⟨congrArg (fun z => some (vi z)) (by omega), rfl⟩
        · refine ar_iloadn (k := 9) rfl rfl ?_
          refine ar_bipush (k := 10) rfl (by decide) ?_
          refine ar_icmp_le (k := 11) rfl (by omega) (by omega) (fun c11 => ?_) (fun c11 => ?_)
          · refine ar_aloadn (k := 14) rfl rfl ?_
            refine ar_iloadn (k := 15) rfl rfl ?_
            refine ar_callS (k := 16) (as := [_, _]) rfl lsT_277 (c_T_isOfKind (q := s (10 + p)) (by omega) (by omega) han haK) rfl (by decide) (by decide) tw_m0 (Nat.le_of_ble_eq_true rfl) (fun r16 h16 p16 => ?_)
            obtain ⟨rfl, rfl⟩ := p16
            refine ar_if_eq (k := 17) rfl (by omega) (fun c17 => ?_) (fun c17 => ?_)
            · refine ar_bipush (k := 21) rfl (by decide) ?_
              refine ar_iret (k := 22) rfl rfl rfl (Nat.le_refl _) ?_
              unfold rs_as
              split <;> first | (exfalso; omega) | exact ⟨congrArg (fun z => some (vi z)) (by omega), rfl⟩
            · refine ar_aloadn (k := 18) rfl rfl ?_
              refine br_getIz (k := 19) (z := 2) rfl hKa flT_145_4 (by decide) rfl rfl ?_
              refine tw_top ha2 ?_
              refine ar_goto (k := 20) rfl ?_
              refine ar_iret (k := 22) rfl rfl rfl (Nat.le_refl _) ?_
              unfold rs_as
              split <;> first | (exfalso; omega) | exact ⟨congrArg (fun z => some (vi z)) (by omega), rfl⟩
          · refine ar_iconst (k := 12) rfl ?_
            refine ar_iret (k := 13) rfl rfl rfl (Nat.le_refl _) ?_
            unfold rs_as
            split <;> first | (exfalso; omega) | exact ⟨congrArg (fun z => some (vi z)) (by omega), rfl⟩
    · have hKa : tK (K, I, Q, n) a (7, 4) := ⟨by show K a = _; rw [haK, hq]; rfl, han⟩
      refine br_getR (k := 1) rfl (hS.k (by decide)) flT_14_11 (by decide) rfl (hS.r rfl) ?_
      refine ar_iloadn (k := 2) rfl rfl ?_
      refine ar_callV (k := 3) (as := [_]) rfl lvT_136 (hS.k (by decide)) rfl (c_W_pYes hS hN hR hno hQa) rfl (by decide) (by decide) tw_m0 (Nat.le_of_ble_eq_true rfl) (fun r3 h3 p3 => ?_)
      obtain ⟨rfl, rfl⟩ := p3
      refine ar_astoren (k := 4) (l2 := [(3, _), (0, _), (1, _), (2, _)]) rfl (by decide) rfl ?_
      refine ar_aloadn (k := 5) rfl rfl ?_
      refine ar_ifnull (k := 6) rfl (fun c6 => ?_) (fun a6 c6 => ?_)
      · cases c6
      · refine ar_iloadn (k := 7) rfl rfl ?_
        refine ar_if_lt (k := 8) rfl (by omega) (fun c8 => ?_) (fun c8 => ?_)
        · refine ar_iconst (k := 12) rfl ?_
          refine ar_iret (k := 13) rfl rfl rfl (Nat.le_refl _) ?_
          unfold rs_as
          split <;> first | (exfalso; omega) | exact ⟨congrArg (fun z => some (vi z)) (by omega), rfl⟩
        · refine ar_iloadn (k := 9) rfl rfl ?_
          refine ar_bipush (k := 10) rfl (by decide) ?_
          refine ar_icmp_le (k := 11) rfl (by omega) (by omega) (fun c11 => ?_) (fun c11 => ?_)
          · refine ar_aloadn (k := 14) rfl rfl ?_
            refine ar_iloadn (k := 15) rfl rfl ?_
            refine ar_callS (k := 16) (as := [_, _]) rfl lsT_277 (c_T_isOfKind (q := s (10 + p)) (by omega) (by omega) han haK) rfl (by decide) (by decide) tw_m0 (Nat.le_of_ble_eq_true rfl) (fun r16 h16 p16 => ?_)
            obtain ⟨rfl, rfl⟩ := p16
            refine ar_if_eq (k := 17) rfl (by omega) (fun c17 => ?_) (fun c17 => ?_)
            · refine ar_bipush (k := 21) rfl (by decide) ?_
              refine ar_iret (k := 22) rfl rfl rfl (Nat.le_refl _) ?_
              unfold rs_as
              split <;> first | (exfalso; omega) | exact ⟨congrArg (fun z => some (vi z)) (by omega), rfl⟩
            · refine ar_aloadn (k := 18) rfl rfl ?_
              refine br_getIz (k := 19) (z := 2) rfl hKa flT_145_7 (by decide) rfl rfl ?_
              refine tw_top ha2 ?_
              refine ar_goto (k := 20) rfl ?_
              refine ar_iret (k := 22) rfl rfl rfl (Nat.le_refl _) ?_
              unfold rs_as
              split <;> first | (exfalso; omega) | exact ⟨congrArg (fun z => some (vi z)) (by omega), rfl⟩
          · refine ar_iconst (k := 12) rfl ?_
            refine ar_iret (k := 13) rfl rfl rfl (Nat.le_refl _) ?_
            unfold rs_as
            split <;> first | (exfalso; omega) | exact ⟨congrArg (fun z => some (vi z)) (by omega), rfl⟩
  · skip
    refine ar_aloadn (k := 0) rfl rfl ?_
    skip
    · skip
      refine br_getR (k := 1) rfl (hS.k (by decide)) flT_14_11 (by decide) rfl (hS.r rfl) ?_
      refine ar_iloadn (k := 2) rfl rfl ?_
      refine ar_callV (k := 3) (as := [_]) rfl lvT_136 (hS.k (by decide)) rfl (c_W_pNo hS hN hR (by omega) hno) rfl (by decide) (by decide) tw_m0 (Nat.le_of_ble_eq_true rfl) (fun r3 h3 p3 => ?_)
      obtain ⟨rfl, rfl⟩ := p3
      refine ar_astoren (k := 4) (l2 := [(3, _), (0, _), (1, _), (2, _)]) rfl (by decide) rfl ?_
      refine ar_aloadn (k := 5) rfl rfl ?_
      refine ar_ifnull (k := 6) rfl (fun c6 => ?_) (fun a6 c6 => ?_)
      · refine ar_iconst (k := 12) rfl ?_
        refine ar_iret (k := 13) rfl rfl rfl (Nat.le_refl _) ?_
        unfold rs_as
        split <;> first | (exfalso; omega) | exact ⟨congrArg (fun z => some (vi z)) (by omega), rfl⟩
      · cases c6
theorem l_W_heldBy {p : Int} (hS : tSt (K, I, Q, n)) (hN : WN 1 I s) (hR : RInv s) (tp : tr p) : ∀ (k : Nat) (j : Nat) (a : Int), j + k = (s 1).toNat → tw_AW l G mW_heldBy 1 0 0 n 0 (tw_fn (some (vi (smV (fun t => if s (84 + (t : Int)) = p then 1 else 0) k j a))) (K, I, Q, n)) 4 [(3, vi (j : Int)), (2, vi a), (0, vr (some 1)), (1, vi p)] [] (K, I, Q, n) := by
  obtain ⟨h0, h1, h2, h3, h4, h5, h6, hp, hrw, ht, hr, hb, htp, hv⟩ := id hR
  intro k
  induction k with
  | zero =>
    intro j a hj
    refine ar_iloadn (k := 4) rfl rfl ?_
    refine ar_aloadn (k := 5) rfl rfl ?_
    refine br_getIz (k := 6) (z := 12) rfl (hS.k (by decide)) flW_56_10 (by decide) rfl rfl ?_
    refine tw_top (WN.tc hN) ?_
    refine ar_icmp_ge (k := 7) rfl (by omega) (by omega) (fun c7 => ?_) (fun c7 => ?_)
    · refine ar_iloadn (k := 17) rfl rfl ?_
      refine ar_iret (k := 18) rfl rfl rfl (Nat.le_refl _) ?_
      exact ⟨rfl, rfl⟩
    · exfalso; omega
  | succ k ih =>
    intro j a hj
    refine ar_iloadn (k := 4) rfl rfl ?_
    refine ar_aloadn (k := 5) rfl rfl ?_
    refine br_getIz (k := 6) (z := 12) rfl (hS.k (by decide)) flW_56_10 (by decide) rfl rfl ?_
    refine tw_top (WN.tc hN) ?_
    refine ar_icmp_ge (k := 7) rfl (by omega) (by omega) (fun c7 => ?_) (fun c7 => ?_)
    · exfalso; omega
    · have hw := ht (j : Int) (by omega) (by omega)
      refine ar_aloadn (k := 8) rfl rfl ?_
      refine br_getR (k := 9) rfl (hS.k (by decide)) flW_47_10 (by decide) rfl (hS.r rfl) ?_
      refine ar_iloadn (k := 10) rfl rfl ?_
      refine br_iald (k := 11) rfl (hS.k (by decide)) (by omega) (by omega) (by decide) ?_
      refine tw_top (WN.ho hN (by omega) (by omega)) ?_
      refine ar_iloadn (k := 12) rfl rfl ?_
      refine ar_icmp_ne (k := 13) rfl (by omega) (by omega) (fun c13 => ?_) (fun c13 => ?_)
      · refine ar_iinc (k := 15) (l2 := [(3, _), (2, _), (0, _), (1, _)]) rfl (by decide) rfl rfl ?_
        refine ar_goto (k := 16) rfl ?_
        refine ar_sub (l2 := [(3, vi ((j + 1 : Nat) : Int)), (2, vi (a + (if s (84 + (j : Int)) = p then 1 else 0))), (0, vr (some 1)), (1, vi p)]) (tw_s (tw_e 0 rfl (by omega)) (tw_s (tw_e 1 rfl (by first | (rw [if_pos (by omega)]) | (rw [if_neg (by omega)]; omega))) (tw_s (tw_g 2 rfl) (tw_s (tw_g 3 rfl) tw_s0)))) ?_
        exact ih (j + 1) _ (by omega)
      · refine ar_iinc (k := 14) (l2 := [(2, _), (3, _), (0, _), (1, _)]) rfl (by decide) rfl rfl ?_
        refine ar_iinc (k := 15) (l2 := [(3, _), (2, _), (0, _), (1, _)]) rfl (by decide) rfl rfl ?_
        refine ar_goto (k := 16) rfl ?_
        refine ar_sub (l2 := [(3, vi ((j + 1 : Nat) : Int)), (2, vi (a + (if s (84 + (j : Int)) = p then 1 else 0))), (0, vr (some 1)), (1, vi p)]) (tw_s (tw_e 0 rfl (by omega)) (tw_s (tw_e 1 rfl (by first | (rw [if_pos (by omega)]) | (rw [if_neg (by omega)]; omega))) (tw_s (tw_g 2 rfl) (tw_s (tw_g 3 rfl) tw_s0)))) ?_
        exact ih (j + 1) _ (by omega)
theorem c_W_heldBy {p : Int} (hS : tSt (K, I, Q, n)) (hN : WN 1 I s) (hR : RInv s) (tp : tr p) : tw_F l G 1 0 0 mW_heldBy [vr (some 1), vi p] (K, I, Q, n) (some (vi (smV (fun t => if s (84 + (t : Int)) = p then 1 else 0) (s 1).toNat 0 0))) (K, I, Q, n) := by
  refine tw_intro okW_heldBy (Nat.le_of_ble_eq_true rfl) ?_
  refine ar_iconst (k := 0) rfl ?_
  refine ar_istoren (k := 1) (l2 := [(2, _), (0, _), (1, _)]) rfl (by decide) rfl ?_
  refine ar_iconst (k := 2) rfl ?_
  refine ar_istoren (k := 3) (l2 := [(3, _), (2, _), (0, _), (1, _)]) rfl (by decide) rfl ?_
  refine ar_sub (l2 := [(3, vi ((0 : Nat) : Int)), (2, vi 0), (0, vr (some 1)), (1, vi p)]) (tw_s (tw_e 0 rfl (by rfl)) (tw_s (tw_g 1 rfl) (tw_s (tw_g 2 rfl) (tw_s (tw_g 3 rfl) tw_s0)))) ?_
  exact l_W_heldBy hS hN hR tp (s 1).toNat 0 0 (by omega)
theorem c_T_who {p w : Int} (hS : tSt (K, I, Q, n)) (hN : WN 1 I s) (hR : RInv s) (hP : WP 1 K I Q n s) (tp : tr p) (tw : tr w) : tw_F l G 3 0 0 mT_who [vr (some 0), vi p, vi w] (K, I, Q, n) (some (vi (if ¬ ((0 ≤ p ∧ p ≤ s 0 - 1) ∧ (0 ≤ w ∧ w ≤ 4)) then -1 else if w < 4 then s (10 + 8 * w + p) else smV (fun t => if s (84 + (t : Int)) = p then 1 else 0) (s 1).toNat 0 0))) (K, I, Q, n) := by
  obtain ⟨h0, h1, h2, h3, h4, h5, h6, hp, hrw, ht, hr, hb, htp, hv⟩ := id hR
  refine tw_intro okT_who (Nat.le_of_ble_eq_true rfl) ?_
  by_cases hno : 0 ≤ p ∧ p ≤ s 0 - 1
  · skip
    refine ar_aloadn (k := 0) rfl rfl ?_
    obtain ⟨a, hQa, ha77, han, haK, ha0, ha1, ha2, ha3⟩ := hP p (by omega) (by omega)
    rcases (show s (10 + p) = 0 ∨ s (10 + p) = 1 ∨ s (10 + p) = 2 ∨ s (10 + p) = 3 ∨ s (10 + p) = 4 ∨ s (10 + p) = 5 ∨ s (10 + p) = 6 by have := hp p (by omega) (by omega); omega) with hq | hq | hq | hq | hq | hq | hq
    · have hKa : tK (K, I, Q, n) a (2, 4) := ⟨by show K a = _; rw [haK, hq]; rfl, han⟩
      refine br_getR (k := 1) rfl (hS.k (by decide)) flT_14_11 (by decide) rfl (hS.r rfl) ?_
      refine ar_iloadn (k := 2) rfl rfl ?_
      refine ar_callV (k := 3) (as := [_]) rfl lvT_136 (hS.k (by decide)) rfl (c_W_pYes hS hN hR hno hQa) rfl (by decide) (by decide) tw_m0 (Nat.le_of_ble_eq_true rfl) (fun r3 h3 p3 => ?_)
      obtain ⟨rfl, rfl⟩ := p3
      refine ar_astoren (k := 4) (l2 := [(3, _), (0, _), (1, _), (2, _)]) rfl (by decide) rfl ?_
      refine ar_aloadn (k := 5) rfl rfl ?_
      refine ar_ifnonnull (k := 6) rfl (fun a6 c6 => ?_) (fun c6 => ?_)
      · refine ar_iloadn (k := 9) rfl rfl ?_
        rcases (show w = 0 ∨ w = 1 ∨ w = 2 ∨ w = 3 ∨ w = 4 ∨ (w < 0 ∨ 4 < w) by omega) with q10 | q10 | q10 | q10 | q10 | q10
        · refine ar_tswIn (k := 10) (t := 52) rfl (by omega) (by omega) (by omega) (by rw [q10]; rfl) (by decide) ?_
          refine ar_aloadn (k := 11) rfl rfl ?_
          refine br_getIz (k := 12) (z := 0) rfl hKa flT_140_2 (by decide) rfl rfl ?_
          refine tw_top ha0 ?_
          refine ar_iret (k := 13) rfl rfl rfl (Nat.le_refl _) ?_
          first
            | exact ⟨congrArg (fun z => some (vi z)) (by rw [if_pos (by omega)]), rfl⟩
            | exact ⟨congrArg (fun z => some (vi z)) (by rw [if_neg (by omega), if_neg (by omega)]), rfl⟩
            | exact ⟨congrArg (fun z => some (vi z)) (by rw [if_neg (by omega), if_pos (by omega)]; congr 1; omega), rfl⟩
        · refine ar_tswIn (k := 10) (t := 57) rfl (by omega) (by omega) (by omega) (by rw [q10]; rfl) (by decide) ?_
          refine ar_aloadn (k := 14) rfl rfl ?_
          refine br_getIz (k := 15) (z := 2) rfl hKa flT_145_2 (by decide) rfl rfl ?_
          refine tw_top ha2 ?_
          refine ar_iret (k := 16) rfl rfl rfl (Nat.le_refl _) ?_
          first
            | exact ⟨congrArg (fun z => some (vi z)) (by rw [if_pos (by omega)]), rfl⟩
            | exact ⟨congrArg (fun z => some (vi z)) (by rw [if_neg (by omega), if_neg (by omega)]), rfl⟩
            | exact ⟨congrArg (fun z => some (vi z)) (by rw [if_neg (by omega), if_pos (by omega)]; congr 1; omega), rfl⟩
        · refine ar_tswIn (k := 10) (t := 62) rfl (by omega) (by omega) (by omega) (by rw [q10]; rfl) (by decide) ?_
          refine ar_aloadn (k := 17) rfl rfl ?_
          refine br_getIz (k := 18) (z := 3) rfl hKa flT_148_2 (by decide) rfl rfl ?_
          refine tw_top ha3 ?_
          refine ar_iret (k := 19) rfl rfl rfl (Nat.le_refl _) ?_
          first
            | exact ⟨congrArg (fun z => some (vi z)) (by rw [if_pos (by omega)]), rfl⟩
            | exact ⟨congrArg (fun z => some (vi z)) (by rw [if_neg (by omega), if_neg (by omega)]), rfl⟩
            | exact ⟨congrArg (fun z => some (vi z)) (by rw [if_neg (by omega), if_pos (by omega)]; congr 1; omega), rfl⟩
        · refine ar_tswIn (k := 10) (t := 67) rfl (by omega) (by omega) (by omega) (by rw [q10]; rfl) (by decide) ?_
          refine ar_aloadn (k := 20) rfl rfl ?_
          refine br_getR (k := 21) rfl (hS.k (by decide)) flT_14_11 (by decide) rfl (hS.r rfl) ?_
          refine br_getR (k := 22) rfl (hS.k (by decide)) flT_81_10 (by decide) rfl (hS.r rfl) ?_
          refine ar_iloadn (k := 23) rfl rfl ?_
          refine br_iald (k := 24) rfl (hS.k (by decide)) (by omega) (by omega) (by decide) ?_
          refine tw_top (WN.fr hN (by omega) (by omega)) ?_
          refine ar_iret (k := 25) rfl rfl rfl (Nat.le_refl _) ?_
          first
            | exact ⟨congrArg (fun z => some (vi z)) (by rw [if_pos (by omega)]), rfl⟩
            | exact ⟨congrArg (fun z => some (vi z)) (by rw [if_neg (by omega), if_neg (by omega)]), rfl⟩
            | exact ⟨congrArg (fun z => some (vi z)) (by rw [if_neg (by omega), if_pos (by omega)]; congr 1; omega), rfl⟩
        · refine ar_tswIn (k := 10) (t := 77) rfl (by omega) (by omega) (by omega) (by rw [q10]; rfl) (by decide) ?_
          refine ar_aloadn (k := 26) rfl rfl ?_
          refine br_getR (k := 27) rfl (hS.k (by decide)) flT_14_11 (by decide) rfl (hS.r rfl) ?_
          refine ar_iloadn (k := 28) rfl rfl ?_
          refine ar_callV (k := 29) (as := [_]) rfl lvT_151 (hS.k (by decide)) rfl (c_W_heldBy hS hN hR (by omega)) rfl (by decide) (by decide) tw_m0 (Nat.le_of_ble_eq_true rfl) (fun r29 h29 p29 => ?_)
          obtain ⟨rfl, rfl⟩ := p29
          refine ar_iret (k := 30) rfl rfl rfl (Nat.le_refl _) ?_
          first
            | exact ⟨congrArg (fun z => some (vi z)) (by rw [if_pos (by omega)]), rfl⟩
            | exact ⟨congrArg (fun z => some (vi z)) (by rw [if_neg (by omega), if_neg (by omega)]), rfl⟩
            | exact ⟨congrArg (fun z => some (vi z)) (by rw [if_neg (by omega), if_pos (by omega)]; congr 1; omega), rfl⟩
        · refine ar_tswOut (k := 10) (t := 86) rfl (by omega) (by omega) (by decide) ?_
          refine ar_iconst (k := 31) rfl ?_
          refine ar_iret (k := 32) rfl rfl rfl (Nat.le_refl _) ?_
          first
            | exact ⟨congrArg (fun z => some (vi z)) (by rw [if_pos (by omega)]), rfl⟩
            | exact ⟨congrArg (fun z => some (vi z)) (by rw [if_neg (by omega), if_neg (by omega)]), rfl⟩
            | exact ⟨congrArg (fun z => some (vi z)) (by rw [if_neg (by omega), if_pos (by omega)]; congr 1; omega), rfl⟩
      · cases c6
    · have hKa : tK (K, I, Q, n) a (0, 4) := ⟨by show K a = _; rw [haK, hq]; rfl, han⟩
      refine br_getR (k := 1) rfl (hS.k (by decide)) flT_14_11 (by decide) rfl (hS.r rfl) ?_
      refine ar_iloadn (k := 2) rfl rfl ?_
      refine ar_callV (k := 3) (as := [_]) rfl lvT_136 (hS.k (by decide)) rfl (c_W_pYes hS hN hR hno hQa) rfl (by decide) (by decide) tw_m0 (Nat.le_of_ble_eq_true rfl) (fun r3 h3 p3 => ?_)
      obtain ⟨rfl, rfl⟩ := p3
      refine ar_astoren (k := 4) (l2 := [(3, _), (0, _), (1, _), (2, _)]) rfl (by decide) rfl ?_
      refine ar_aloadn (k := 5) rfl rfl ?_
      refine ar_ifnonnull (k := 6) rfl (fun a6 c6 => ?_) (fun c6 => ?_)
      · refine ar_iloadn (k := 9) rfl rfl ?_
        rcases (show w = 0 ∨ w = 1 ∨ w = 2 ∨ w = 3 ∨ w = 4 ∨ (w < 0 ∨ 4 < w) by omega) with q10 | q10 | q10 | q10 | q10 | q10
        · refine ar_tswIn (k := 10) (t := 52) rfl (by omega) (by omega) (by omega) (by rw [q10]; rfl) (by decide) ?_
          refine ar_aloadn (k := 11) rfl rfl ?_
          refine br_getIz (k := 12) (z := 0) rfl hKa flT_140_0 (by decide) rfl rfl ?_
          refine tw_top ha0 ?_
          refine ar_iret (k := 13) rfl rfl rfl (Nat.le_refl _) ?_
          first
            | exact ⟨congrArg (fun z => some (vi z)) (by rw [if_pos (by omega)]), rfl⟩
            | exact ⟨congrArg (fun z => some (vi z)) (by rw [if_neg (by omega), if_neg (by omega)]), rfl⟩
            | exact ⟨congrArg (fun z => some (vi z)) (by rw [if_neg (by omega), if_pos (by omega)]; congr 1; omega), rfl⟩
        · refine ar_tswIn (k := 10) (t := 57) rfl (by omega) (by omega) (by omega) (by rw [q10]; rfl) (by decide) ?_
          refine ar_aloadn (k := 14) rfl rfl ?_
          refine br_getIz (k := 15) (z := 2) rfl hKa flT_145_0 (by decide) rfl rfl ?_
          refine tw_top ha2 ?_
          refine ar_iret (k := 16) rfl rfl rfl (Nat.le_refl _) ?_
          first
            | exact ⟨congrArg (fun z => some (vi z)) (by rw [if_pos (by omega)]), rfl⟩
            | exact ⟨congrArg (fun z => some (vi z)) (by rw [if_neg (by omega), if_neg (by omega)]), rfl⟩
            | exact ⟨congrArg (fun z => some (vi z)) (by rw [if_neg (by omega), if_pos (by omega)]; congr 1; omega), rfl⟩
        · refine ar_tswIn (k := 10) (t := 62) rfl (by omega) (by omega) (by omega) (by rw [q10]; rfl) (by decide) ?_
          refine ar_aloadn (k := 17) rfl rfl ?_
          refine br_getIz (k := 18) (z := 3) rfl hKa flT_148_0 (by decide) rfl rfl ?_
          refine tw_top ha3 ?_
          refine ar_iret (k := 19) rfl rfl rfl (Nat.le_refl _) ?_
          first
            | exact ⟨congrArg (fun z => some (vi z)) (by rw [if_pos (by omega)]), rfl⟩
            | exact ⟨congrArg (fun z => some (vi z)) (by rw [if_neg (by omega), if_neg (by omega)]), rfl⟩
            | exact ⟨congrArg (fun z => some (vi z)) (by rw [if_neg (by omega), if_pos (by omega)]; congr 1; omega), rfl⟩
        · refine ar_tswIn (k := 10) (t := 67) rfl (by omega) (by omega) (by omega) (by rw [q10]; rfl) (by decide) ?_
          refine ar_aloadn (k := 20) rfl rfl ?_
          refine br_getR (k := 21) rfl (hS.k (by decide)) flT_14_11 (by decide) rfl (hS.r rfl) ?_
          refine br_getR (k := 22) rfl (hS.k (by decide)) flT_81_10 (by decide) rfl (hS.r rfl) ?_
          refine ar_iloadn (k := 23) rfl rfl ?_
          refine br_iald (k := 24) rfl (hS.k (by decide)) (by omega) (by omega) (by decide) ?_
          refine tw_top (WN.fr hN (by omega) (by omega)) ?_
          refine ar_iret (k := 25) rfl rfl rfl (Nat.le_refl _) ?_
          first
            | exact ⟨congrArg (fun z => some (vi z)) (by rw [if_pos (by omega)]), rfl⟩
            | exact ⟨congrArg (fun z => some (vi z)) (by rw [if_neg (by omega), if_neg (by omega)]), rfl⟩
            | exact ⟨congrArg (fun z => some (vi z)) (by rw [if_neg (by omega), if_pos (by omega)]; congr 1; omega), rfl⟩
        · refine ar_tswIn (k := 10) (t := 77) rfl (by omega) (by omega) (by omega) (by rw [q10]; rfl) (by decide) ?_
          refine ar_aloadn (k := 26) rfl rfl ?_
          refine br_getR (k := 27) rfl (hS.k (by decide)) flT_14_11 (by decide) rfl (hS.r rfl) ?_
          refine ar_iloadn (k := 28) rfl rfl ?_
          refine ar_callV (k := 29) (as := [_]) rfl lvT_151 (hS.k (by decide)) rfl (c_W_heldBy hS hN hR (by omega)) rfl (by decide) (by decide) tw_m0 (Nat.le_of_ble_eq_true rfl) (fun r29 h29 p29 => ?_)
          obtain ⟨rfl, rfl⟩ := p29
          refine ar_iret (k := 30) rfl rfl rfl (Nat.le_refl _) ?_
          first
            | exact ⟨congrArg (fun z => some (vi z)) (by rw [if_pos (by omega)]), rfl⟩
            | exact ⟨congrArg (fun z => some (vi z)) (by rw [if_neg (by omega), if_neg (by omega)]), rfl⟩
            | exact ⟨congrArg (fun z => some (vi z)) (by rw [if_neg (by omega), if_pos (by omega)]; congr 1; omega), rfl⟩
        · refine ar_tswOut (k := 10) (t := 86) rfl (by omega) (by omega) (by decide) ?_
          refine ar_iconst (k := 31) rfl ?_
          refine ar_iret (k := 32) rfl rfl rfl (Nat.le_refl _) ?_
          first
            | exact ⟨congrArg (fun z => some (vi z)) (by rw [if_pos (by omega)]), rfl⟩
            | exact ⟨congrArg (fun z => some (vi z)) (by rw [if_neg (by omega), if_neg (by omega)]), rfl⟩
            | exact ⟨congrArg (fun z => some (vi z)) (by rw [if_neg (by omega), if_pos (by omega)]; congr 1; omega), rfl⟩
      · cases c6
    · have hKa : tK (K, I, Q, n) a (3, 4) := ⟨by show K a = _; rw [haK, hq]; rfl, han⟩
      refine br_getR (k := 1) rfl (hS.k (by decide)) flT_14_11 (by decide) rfl (hS.r rfl) ?_
      refine ar_iloadn (k := 2) rfl rfl ?_
      refine ar_callV (k := 3) (as := [_]) rfl lvT_136 (hS.k (by decide)) rfl (c_W_pYes hS hN hR hno hQa) rfl (by decide) (by decide) tw_m0 (Nat.le_of_ble_eq_true rfl) (fun r3 h3 p3 => ?_)
      obtain ⟨rfl, rfl⟩ := p3
      refine ar_astoren (k := 4) (l2 := [(3, _), (0, _), (1, _), (2, _)]) rfl (by decide) rfl ?_
      refine ar_aloadn (k := 5) rfl rfl ?_
      refine ar_ifnonnull (k := 6) rfl (fun a6 c6 => ?_) (fun c6 => ?_)
      · refine ar_iloadn (k := 9) rfl rfl ?_
        rcases (show w = 0 ∨ w = 1 ∨ w = 2 ∨ w = 3 ∨ w = 4 ∨ (w < 0 ∨ 4 < w) by omega) with q10 | q10 | q10 | q10 | q10 | q10
        · refine ar_tswIn (k := 10) (t := 52) rfl (by omega) (by omega) (by omega) (by rw [q10]; rfl) (by decide) ?_
          refine ar_aloadn (k := 11) rfl rfl ?_
          refine br_getIz (k := 12) (z := 0) rfl hKa flT_140_3 (by decide) rfl rfl ?_
          refine tw_top ha0 ?_
          refine ar_iret (k := 13) rfl rfl rfl (Nat.le_refl _) ?_
          first
            | exact ⟨congrArg (fun z => some (vi z)) (by rw [if_pos (by omega)]), rfl⟩
            | exact ⟨congrArg (fun z => some (vi z)) (by rw [if_neg (by omega), if_neg (by omega)]), rfl⟩
            | exact ⟨congrArg (fun z => some (vi z)) (by rw [if_neg (by omega), if_pos (by omega)]; congr 1; omega), rfl⟩
        · refine ar_tswIn (k := 10) (t := 57) rfl (by omega) (by omega) (by omega) (by rw [q10]; rfl) (by decide) ?_
          refine ar_aloadn (k := 14) rfl rfl ?_
          refine br_getIz (k := 15) (z := 2) rfl hKa flT_145_3 (by decide) rfl rfl ?_
          refine tw_top ha2 ?_
          refine ar_iret (k := 16) rfl rfl rfl (Nat.le_refl _) ?_
          first
            | exact ⟨congrArg (fun z => some (vi z)) (by rw [if_pos (by omega)]), rfl⟩
            | exact ⟨congrArg (fun z => some (vi z)) (by rw [if_neg (by omega), if_neg (by omega)]), rfl⟩
            | exact ⟨congrArg (fun z => some (vi z)) (by rw [if_neg (by omega), if_pos (by omega)]; congr 1; omega), rfl⟩
        · refine ar_tswIn (k := 10) (t := 62) rfl (by omega) (by omega) (by omega) (by rw [q10]; rfl) (by decide) ?_
          refine ar_aloadn (k := 17) rfl rfl ?_
          refine br_getIz (k := 18) (z := 3) rfl hKa flT_148_3 (by decide) rfl rfl ?_
          refine tw_top ha3 ?_
          refine ar_iret (k := 19) rfl rfl rfl (Nat.le_refl _) ?_
          first
            | exact ⟨congrArg (fun z => some (vi z)) (by rw [if_pos (by omega)]), rfl⟩
            | exact ⟨congrArg (fun z => some (vi z)) (by rw [if_neg (by omega), if_neg (by omega)]), rfl⟩
            | exact ⟨congrArg (fun z => some (vi z)) (by rw [if_neg (by omega), if_pos (by omega)]; congr 1; omega), rfl⟩
        · refine ar_tswIn (k := 10) (t := 67) rfl (by omega) (by omega) (by omega) (by rw [q10]; rfl) (by decide) ?_
          refine ar_aloadn (k := 20) rfl rfl ?_
          refine br_getR (k := 21) rfl (hS.k (by decide)) flT_14_11 (by decide) rfl (hS.r rfl) ?_
          refine br_getR (k := 22) rfl (hS.k (by decide)) flT_81_10 (by decide) rfl (hS.r rfl) ?_
          refine ar_iloadn (k := 23) rfl rfl ?_
          refine br_iald (k := 24) rfl (hS.k (by decide)) (by omega) (by omega) (by decide) ?_
          refine tw_top (WN.fr hN (by omega) (by omega)) ?_
          refine ar_iret (k := 25) rfl rfl rfl (Nat.le_refl _) ?_
          first
            | exact ⟨congrArg (fun z => some (vi z)) (by rw [if_pos (by omega)]), rfl⟩
            | exact ⟨congrArg (fun z => some (vi z)) (by rw [if_neg (by omega), if_neg (by omega)]), rfl⟩
            | exact ⟨congrArg (fun z => some (vi z)) (by rw [if_neg (by omega), if_pos (by omega)]; congr 1; omega), rfl⟩
        · refine ar_tswIn (k := 10) (t := 77) rfl (by omega) (by omega) (by omega) (by rw [q10]; rfl) (by decide) ?_
          refine ar_aloadn (k := 26) rfl rfl ?_
          refine br_getR (k := 27) rfl (hS.k (by decide)) flT_14_11 (by decide) rfl (hS.r rfl) ?_
          refine ar_iloadn (k := 28) rfl rfl ?_
          refine ar_callV (k := 29) (as := [_]) rfl lvT_151 (hS.k (by decide)) rfl (c_W_heldBy hS hN hR (by omega)) rfl (by decide) (by decide) tw_m0 (Nat.le_of_ble_eq_true rfl) (fun r29 h29 p29 => ?_)
          obtain ⟨rfl, rfl⟩ := p29
          refine ar_iret (k := 30) rfl rfl rfl (Nat.le_refl _) ?_
          first
            | exact ⟨congrArg (fun z => some (vi z)) (by rw [if_pos (by omega)]), rfl⟩
            | exact ⟨congrArg (fun z => some (vi z)) (by rw [if_neg (by omega), if_neg (by omega)]), rfl⟩
            | exact ⟨congrArg (fun z => some (vi z)) (by rw [if_neg (by omega), if_pos (by omega)]; congr 1; omega), rfl⟩
        · refine ar_tswOut (k := 10) (t := 86) rfl (by omega) (by omega) (by decide) ?_
          refine ar_iconst (k := 31) rfl ?_
          refine ar_iret (k := 32) rfl rfl rfl (Nat.le_refl _) ?_
          first
            | exact ⟨congrArg (fun z => some (vi z)) (by rw [if_pos (by omega)]), rfl⟩
            | exact ⟨congrArg (fun z => some (vi z)) (by rw [if_neg (by omega), if_neg (by omega)]), rfl⟩
            | exact ⟨congrArg (fun z => some (vi z)) (by rw [if_neg (by omega), if_pos (by omega)]; congr 1; omega), rfl⟩
      · cases c6
    · have hKa : tK (K, I, Q, n) a (1, 4) := ⟨by show K a = _; rw [haK, hq]; rfl, han⟩
      refine br_getR (k := 1) rfl (hS.k (by decide)) flT_14_11 (by decide) rfl (hS.r rfl) ?_
      refine ar_iloadn (k := 2) rfl rfl ?_
      refine ar_callV (k := 3) (as := [_]) rfl lvT_136 (hS.k (by decide)) rfl (c_W_pYes hS hN hR hno hQa) rfl (by decide) (by decide) tw_m0 (Nat.le_of_ble_eq_true rfl) (fun r3 h3 p3 => ?_)
      obtain ⟨rfl, rfl⟩ := p3
      refine ar_astoren (k := 4) (l2 := [(3, _), (0, _), (1, _), (2, _)]) rfl (by decide) rfl ?_
      refine ar_aloadn (k := 5) rfl rfl ?_
      refine ar_ifnonnull (k := 6) rfl (fun a6 c6 => ?_) (fun c6 => ?_)
      · refine ar_iloadn (k := 9) rfl rfl ?_
        rcases (show w = 0 ∨ w = 1 ∨ w = 2 ∨ w = 3 ∨ w = 4 ∨ (w < 0 ∨ 4 < w) by omega) with q10 | q10 | q10 | q10 | q10 | q10
        · refine ar_tswIn (k := 10) (t := 52) rfl (by omega) (by omega) (by omega) (by rw [q10]; rfl) (by decide) ?_
          refine ar_aloadn (k := 11) rfl rfl ?_
          refine br_getIz (k := 12) (z := 0) rfl hKa flT_140_1 (by decide) rfl rfl ?_
          refine tw_top ha0 ?_
          refine ar_iret (k := 13) rfl rfl rfl (Nat.le_refl _) ?_
          first
            | exact ⟨congrArg (fun z => some (vi z)) (by rw [if_pos (by omega)]), rfl⟩
            | exact ⟨congrArg (fun z => some (vi z)) (by rw [if_neg (by omega), if_neg (by omega)]), rfl⟩
            | exact ⟨congrArg (fun z => some (vi z)) (by rw [if_neg (by omega), if_pos (by omega)]; congr 1; omega), rfl⟩
        · refine ar_tswIn (k := 10) (t := 57) rfl (by omega) (by omega) (by omega) (by rw [q10]; rfl) (by decide) ?_
          refine ar_aloadn (k := 14) rfl rfl ?_
          refine br_getIz (k := 15) (z := 2) rfl hKa flT_145_1 (by decide) rfl rfl ?_
          refine tw_top ha2 ?_
          refine ar_iret (k := 16) rfl rfl rfl (Nat.le_refl _) ?_
          first
            | exact ⟨congrArg (fun z => some (vi z)) (by rw [if_pos (by omega)]), rfl⟩
            | exact ⟨congrArg (fun z => some (vi z)) (by rw [if_neg (by omega), if_neg (by omega)]), rfl⟩
            | exact ⟨congrArg (fun z => some (vi z)) (by rw [if_neg (by omega), if_pos (by omega)]; congr 1; omega), rfl⟩
        · refine ar_tswIn (k := 10) (t := 62) rfl (by omega) (by omega) (by omega) (by rw [q10]; rfl) (by decide) ?_
          refine ar_aloadn (k := 17) rfl rfl ?_
          refine br_getIz (k := 18) (z := 3) rfl hKa flT_148_1 (by decide) rfl rfl ?_
          refine tw_top ha3 ?_
          refine ar_iret (k := 19) rfl rfl rfl (Nat.le_refl _) ?_
          first
            | exact ⟨congrArg (fun z => some (vi z)) (by rw [if_pos (by omega)]), rfl⟩
            | exact ⟨congrArg (fun z => some (vi z)) (by rw [if_neg (by omega), if_neg (by omega)]), rfl⟩
            | exact ⟨congrArg (fun z => some (vi z)) (by rw [if_neg (by omega), if_pos (by omega)]; congr 1; omega), rfl⟩
        · refine ar_tswIn (k := 10) (t := 67) rfl (by omega) (by omega) (by omega) (by rw [q10]; rfl) (by decide) ?_
          refine ar_aloadn (k := 20) rfl rfl ?_
          refine br_getR (k := 21) rfl (hS.k (by decide)) flT_14_11 (by decide) rfl (hS.r rfl) ?_
          refine br_getR (k := 22) rfl (hS.k (by decide)) flT_81_10 (by decide) rfl (hS.r rfl) ?_
          refine ar_iloadn (k := 23) rfl rfl ?_
          refine br_iald (k := 24) rfl (hS.k (by decide)) (by omega) (by omega) (by decide) ?_
          refine tw_top (WN.fr hN (by omega) (by omega)) ?_
          refine ar_iret (k := 25) rfl rfl rfl (Nat.le_refl _) ?_
          first
            | exact ⟨congrArg (fun z => some (vi z)) (by rw [if_pos (by omega)]), rfl⟩
            | exact ⟨congrArg (fun z => some (vi z)) (by rw [if_neg (by omega), if_neg (by omega)]), rfl⟩
            | exact ⟨congrArg (fun z => some (vi z)) (by rw [if_neg (by omega), if_pos (by omega)]; congr 1; omega), rfl⟩
        · refine ar_tswIn (k := 10) (t := 77) rfl (by omega) (by omega) (by omega) (by rw [q10]; rfl) (by decide) ?_
          refine ar_aloadn (k := 26) rfl rfl ?_
          refine br_getR (k := 27) rfl (hS.k (by decide)) flT_14_11 (by decide) rfl (hS.r rfl) ?_
          refine ar_iloadn (k := 28) rfl rfl ?_
          refine ar_callV (k := 29) (as := [_]) rfl lvT_151 (hS.k (by decide)) rfl (c_W_heldBy hS hN hR (by omega)) rfl (by decide) (by decide) tw_m0 (Nat.le_of_ble_eq_true rfl) (fun r29 h29 p29 => ?_)
          obtain ⟨rfl, rfl⟩ := p29
          refine ar_iret (k := 30) rfl rfl rfl (Nat.le_refl _) ?_
          first
            | exact ⟨congrArg (fun z => some (vi z)) (by rw [if_pos (by omega)]), rfl⟩
            | exact ⟨congrArg (fun z => some (vi z)) (by rw [if_neg (by omega), if_neg (by omega)]), rfl⟩
            | exact ⟨congrArg (fun z => some (vi z)) (by rw [if_neg (by omega), if_pos (by omega)]; congr 1; omega), rfl⟩
        · refine ar_tswOut (k := 10) (t := 86) rfl (by omega) (by omega) (by decide) ?_
          refine ar_iconst (k := 31) rfl ?_
          refine ar_iret (k := 32) rfl rfl rfl (Nat.le_refl _) ?_
          first
            | exact ⟨congrArg (fun z => some (vi z)) (by rw [if_pos (by omega)]), rfl⟩
            | exact ⟨congrArg (fun z => some (vi z)) (by rw [if_neg (by omega), if_neg (by omega)]), rfl⟩
            | exact ⟨congrArg (fun z => some (vi z)) (by rw [if_neg (by omega), if_pos (by omega)]; congr 1; omega), rfl⟩
      · cases c6
    · have hKa : tK (K, I, Q, n) a (5, 4) := ⟨by show K a = _; rw [haK, hq]; rfl, han⟩
      refine br_getR (k := 1) rfl (hS.k (by decide)) flT_14_11 (by decide) rfl (hS.r rfl) ?_
      refine ar_iloadn (k := 2) rfl rfl ?_
      refine ar_callV (k := 3) (as := [_]) rfl lvT_136 (hS.k (by decide)) rfl (c_W_pYes hS hN hR hno hQa) rfl (by decide) (by decide) tw_m0 (Nat.le_of_ble_eq_true rfl) (fun r3 h3 p3 => ?_)
      obtain ⟨rfl, rfl⟩ := p3
      refine ar_astoren (k := 4) (l2 := [(3, _), (0, _), (1, _), (2, _)]) rfl (by decide) rfl ?_
      refine ar_aloadn (k := 5) rfl rfl ?_
      refine ar_ifnonnull (k := 6) rfl (fun a6 c6 => ?_) (fun c6 => ?_)
      · refine ar_iloadn (k := 9) rfl rfl ?_
        rcases (show w = 0 ∨ w = 1 ∨ w = 2 ∨ w = 3 ∨ w = 4 ∨ (w < 0 ∨ 4 < w) by omega) with q10 | q10 | q10 | q10 | q10 | q10
        · refine ar_tswIn (k := 10) (t := 52) rfl (by omega) (by omega) (by omega) (by rw [q10]; rfl) (by decide) ?_
          refine ar_aloadn (k := 11) rfl rfl ?_
          refine br_getIz (k := 12) (z := 0) rfl hKa flT_140_5 (by decide) rfl rfl ?_
          refine tw_top ha0 ?_
          refine ar_iret (k := 13) rfl rfl rfl (Nat.le_refl _) ?_
          first
            | exact ⟨congrArg (fun z => some (vi z)) (by rw [if_pos (by omega)]), rfl⟩
            | exact ⟨congrArg (fun z => some (vi z)) (by rw [if_neg (by omega), if_neg (by omega)]), rfl⟩
            | exact ⟨congrArg (fun z => some (vi z)) (by rw [if_neg (by omega), if_pos (by omega)]; congr 1; omega), rfl⟩
        · refine ar_tswIn (k := 10) (t := 57) rfl (by omega) (by omega) (by omega) (by rw [q10]; rfl) (by decide) ?_
          refine ar_aloadn (k := 14) rfl rfl ?_
          refine br_getIz (k := 15) (z := 2) rfl hKa flT_145_5 (by decide) rfl rfl ?_
          refine tw_top ha2 ?_
          refine ar_iret (k := 16) rfl rfl rfl (Nat.le_refl _) ?_
          first
            | exact ⟨congrArg (fun z => some (vi z)) (by rw [if_pos (by omega)]), rfl⟩
            | exact ⟨congrArg (fun z => some (vi z)) (by rw [if_neg (by omega), if_neg (by omega)]), rfl⟩
            | exact ⟨congrArg (fun z => some (vi z)) (by rw [if_neg (by omega), if_pos (by omega)]; congr 1; omega), rfl⟩
        · refine ar_tswIn (k := 10) (t := 62) rfl (by omega) (by omega) (by omega) (by rw [q10]; rfl) (by decide) ?_
          refine ar_aloadn (k := 17) rfl rfl ?_
          refine br_getIz (k := 18) (z := 3) rfl hKa flT_148_5 (by decide) rfl rfl ?_
          refine tw_top ha3 ?_
          refine ar_iret (k := 19) rfl rfl rfl (Nat.le_refl _) ?_
          first
            | exact ⟨congrArg (fun z => some (vi z)) (by rw [if_pos (by omega)]), rfl⟩
            | exact ⟨congrArg (fun z => some (vi z)) (by rw [if_neg (by omega), if_neg (by omega)]), rfl⟩
            | exact ⟨congrArg (fun z => some (vi z)) (by rw [if_neg (by omega), if_pos (by omega)]; congr 1; omega), rfl⟩
        · refine ar_tswIn (k := 10) (t := 67) rfl (by omega) (by omega) (by omega) (by rw [q10]; rfl) (by decide) ?_
          refine ar_aloadn (k := 20) rfl rfl ?_
          refine br_getR (k := 21) rfl (hS.k (by decide)) flT_14_11 (by decide) rfl (hS.r rfl) ?_
          refine br_getR (k := 22) rfl (hS.k (by decide)) flT_81_10 (by decide) rfl (hS.r rfl) ?_
          refine ar_iloadn (k := 23) rfl rfl ?_
          refine br_iald (k := 24) rfl (hS.k (by decide)) (by omega) (by omega) (by decide) ?_
          refine tw_top (WN.fr hN (by omega) (by omega)) ?_
          refine ar_iret (k := 25) rfl rfl rfl (Nat.le_refl _) ?_
          first
            | exact ⟨congrArg (fun z => some (vi z)) (by rw [if_pos (by omega)]), rfl⟩
            | exact ⟨congrArg (fun z => some (vi z)) (by rw [if_neg (by omega), if_neg (by omega)]), rfl⟩
            | exact ⟨congrArg (fun z => some (vi z)) (by rw [if_neg (by omega), if_pos (by omega)]; congr 1; omega), rfl⟩
        · refine ar_tswIn (k := 10) (t := 77) rfl (by omega) (by omega) (by omega) (by rw [q10]; rfl) (by decide) ?_
          refine ar_aloadn (k := 26) rfl rfl ?_
          refine br_getR (k := 27) rfl (hS.k (by decide)) flT_14_11 (by decide) rfl (hS.r rfl) ?_
          refine ar_iloadn (k := 28) rfl rfl ?_
          refine ar_callV (k := 29) (as := [_]) rfl lvT_151 (hS.k (by decide)) rfl (c_W_heldBy hS hN hR (by omega)) rfl (by decide) (by decide) tw_m0 (Nat.le_of_ble_eq_true rfl) (fun r29 h29 p29 => ?_)
          obtain ⟨rfl, rfl⟩ := p29
          refine ar_iret (k := 30) rfl rfl rfl (Nat.le_refl _) ?_
          first
            | exact ⟨congrArg (fun z => some (vi z)) (by rw [if_pos (by omega)]), rfl⟩
            | exact ⟨congrArg (fun z => some (vi z)) (by rw [if_neg (by omega), if_neg (by omega)]), rfl⟩
            | exact ⟨congrArg (fun z => some (vi z)) (by rw [if_neg (by omega), if_pos (by omega)]; congr 1; omega), rfl⟩
        · refine ar_tswOut (k := 10) (t := 86) rfl (by omega) (by omega) (by decide) ?_
          refine ar_iconst (k := 31) rfl ?_
          refine ar_iret (k := 32) rfl rfl rfl (Nat.le_refl _) ?_
          first
            | exact ⟨congrArg (fun z => some (vi z)) (by rw [if_pos (by omega)]), rfl⟩
            | exact ⟨congrArg (fun z => some (vi z)) (by rw [if_neg (by omega), if_neg (by omega)]), rfl⟩
            | exact ⟨congrArg (fun z => some (vi z)) (by rw [if_neg (by omega), if_pos (by omega)]; congr 1; omega), rfl⟩
      · cases c6
    · have hKa : tK (K, I, Q, n) a (4, 4) := ⟨by show K a = _; rw [haK, hq]; rfl, han⟩
      refine br_getR (k := 1) rfl (hS.k (by decide)) flT_14_11 (by decide) rfl (hS.r rfl) ?_
      refine ar_iloadn (k := 2) rfl rfl ?_
      refine ar_callV (k := 3) (as := [_]) rfl lvT_136 (hS.k (by decide)) rfl (c_W_pYes hS hN hR hno hQa) rfl (by decide) (by decide) tw_m0 (Nat.le_of_ble_eq_true rfl) (fun r3 h3 p3 => ?_)
      obtain ⟨rfl, rfl⟩ := p3
      refine ar_astoren (k := 4) (l2 := [(3, _), (0, _), (1, _), (2, _)]) rfl (by decide) rfl ?_
      refine ar_aloadn (k := 5) rfl rfl ?_
      refine ar_ifnonnull (k := 6) rfl (fun a6 c6 => ?_) (fun c6 => ?_)
      · refine ar_iloadn (k := 9) rfl rfl ?_
        rcases (show w = 0 ∨ w = 1 ∨ w = 2 ∨ w = 3 ∨ w = 4 ∨ (w < 0 ∨ 4 < w) by omega) with q10 | q10 | q10 | q10 | q10 | q10
        · refine ar_tswIn (k := 10) (t := 52) rfl (by omega) (by omega) (by omega) (by rw [q10]; rfl) (by decide) ?_
          refine ar_aloadn (k := 11) rfl rfl ?_
          refine br_getIz (k := 12) (z := 0) rfl hKa flT_140_4 (by decide) rfl rfl ?_
          refine tw_top ha0 ?_
          refine ar_iret (k := 13) rfl rfl rfl (Nat.le_refl _) ?_
          first
            | exact ⟨congrArg (fun z => some (vi z)) (by rw [if_pos (by omega)]), rfl⟩
            | exact ⟨congrArg (fun z => some (vi z)) (by rw [if_neg (by omega), if_neg (by omega)]), rfl⟩
            | exact ⟨congrArg (fun z => some (vi z)) (by rw [if_neg (by omega), if_pos (by omega)]; congr 1; omega), rfl⟩
        · refine ar_tswIn (k := 10) (t := 57) rfl (by omega) (by omega) (by omega) (by rw [q10]; rfl) (by decide) ?_
          refine ar_aloadn (k := 14) rfl rfl ?_
          refine br_getIz (k := 15) (z := 2) rfl hKa flT_145_4 (by decide) rfl rfl ?_
          refine tw_top ha2 ?_
          refine ar_iret (k := 16) rfl rfl rfl (Nat.le_refl _) ?_
          first
            | exact ⟨congrArg (fun z => some (vi z)) (by rw [if_pos (by omega)]), rfl⟩
            | exact ⟨congrArg (fun z => some (vi z)) (by rw [if_neg (by omega), if_neg (by omega)]), rfl⟩
            | exact ⟨congrArg (fun z => some (vi z)) (by rw [if_neg (by omega), if_pos (by omega)]; congr 1; omega), rfl⟩
        · refine ar_tswIn (k := 10) (t := 62) rfl (by omega) (by omega) (by omega) (by rw [q10]; rfl) (by decide) ?_
          refine ar_aloadn (k := 17) rfl rfl ?_
          refine br_getIz (k := 18) (z := 3) rfl hKa flT_148_4 (by decide) rfl rfl ?_
          refine tw_top ha3 ?_
          refine ar_iret (k := 19) rfl rfl rfl (Nat.le_refl _) ?_
          first
            | exact ⟨congrArg (fun z => some (vi z)) (by rw [if_pos (by omega)]), rfl⟩
            | exact ⟨congrArg (fun z => some (vi z)) (by rw [if_neg (by omega), if_neg (by omega)]), rfl⟩
            | exact ⟨congrArg (fun z => some (vi z)) (by rw [if_neg (by omega), if_pos (by omega)]; congr 1; omega), rfl⟩
        · refine ar_tswIn (k := 10) (t := 67) rfl (by omega) (by omega) (by omega) (by rw [q10]; rfl) (by decide) ?_
          refine ar_aloadn (k := 20) rfl rfl ?_
          refine br_getR (k := 21) rfl (hS.k (by decide)) flT_14_11 (by decide) rfl (hS.r rfl) ?_
          refine br_getR (k := 22) rfl (hS.k (by decide)) flT_81_10 (by decide) rfl (hS.r rfl) ?_
          refine ar_iloadn (k := 23) rfl rfl ?_
          refine br_iald (k := 24) rfl (hS.k (by decide)) (by omega) (by omega) (by decide) ?_
          refine tw_top (WN.fr hN (by omega) (by omega)) ?_
          refine ar_iret (k := 25) rfl rfl rfl (Nat.le_refl _) ?_
          first
            | exact ⟨congrArg (fun z => some (vi z)) (by rw [if_pos (by omega)]), rfl⟩
            | exact ⟨congrArg (fun z => some (vi z)) (by rw [if_neg (by omega), if_neg (by omega)]), rfl⟩
            | exact ⟨congrArg (fun z => some (vi z)) (by rw [if_neg (by omega), if_pos (by omega)]; congr 1; omega), rfl⟩
        · refine ar_tswIn (k := 10) (t := 77) rfl (by omega) (by omega) (by omega) (by rw [q10]; rfl) (by decide) ?_
          refine ar_aloadn (k := 26) rfl rfl ?_
          refine br_getR (k := 27) rfl (hS.k (by decide)) flT_14_11 (by decide) rfl (hS.r rfl) ?_
          refine ar_iloadn (k := 28) rfl rfl ?_
          refine ar_callV (k := 29) (as := [_]) rfl lvT_151 (hS.k (by decide)) rfl (c_W_heldBy hS hN hR (by omega)) rfl (by decide) (by decide) tw_m0 (Nat.le_of_ble_eq_true rfl) (fun r29 h29 p29 => ?_)
          obtain ⟨rfl, rfl⟩ := p29
          refine ar_iret (k := 30) rfl rfl rfl (Nat.le_refl _) ?_
          first
            | exact ⟨congrArg (fun z => some (vi z)) (by rw [if_pos (by omega)]), rfl⟩
            | exact ⟨congrArg (fun z => some (vi z)) (by rw [if_neg (by omega), if_neg (by omega)]), rfl⟩
            | exact ⟨congrArg (fun z => some (vi z)) (by rw [if_neg (by omega), if_pos (by omega)]; congr 1; omega), rfl⟩
        · refine ar_tswOut (k := 10) (t := 86) rfl (by omega) (by omega) (by decide) ?_
          refine ar_iconst (k := 31) rfl ?_
          refine ar_iret (k := 32) rfl rfl rfl (Nat.le_refl _) ?_
          first
            | exact ⟨congrArg (fun z => some (vi z)) (by rw [if_pos (by omega)]), rfl⟩
            | exact ⟨congrArg (fun z => some (vi z)) (by rw [if_neg (by omega), if_neg (by omega)]), rfl⟩
            | exact ⟨congrArg (fun z => some (vi z)) (by rw [if_neg (by omega), if_pos (by omega)]; congr 1; omega), rfl⟩
      · cases c6
    · have hKa : tK (K, I, Q, n) a (7, 4) := ⟨by show K a = _; rw [haK, hq]; rfl, han⟩
      refine br_getR (k := 1) rfl (hS.k (by decide)) flT_14_11 (by decide) rfl (hS.r rfl) ?_
      refine ar_iloadn (k := 2) rfl rfl ?_
      refine ar_callV (k := 3) (as := [_]) rfl lvT_136 (hS.k (by decide)) rfl (c_W_pYes hS hN hR hno hQa) rfl (by decide) (by decide) tw_m0 (Nat.le_of_ble_eq_true rfl) (fun r3 h3 p3 => ?_)
      obtain ⟨rfl, rfl⟩ := p3
      refine ar_astoren (k := 4) (l2 := [(3, _), (0, _), (1, _), (2, _)]) rfl (by decide) rfl ?_
      refine ar_aloadn (k := 5) rfl rfl ?_
      refine ar_ifnonnull (k := 6) rfl (fun a6 c6 => ?_) (fun c6 => ?_)
      · refine ar_iloadn (k := 9) rfl rfl ?_
        rcases (show w = 0 ∨ w = 1 ∨ w = 2 ∨ w = 3 ∨ w = 4 ∨ (w < 0 ∨ 4 < w) by omega) with q10 | q10 | q10 | q10 | q10 | q10
        · refine ar_tswIn (k := 10) (t := 52) rfl (by omega) (by omega) (by omega) (by rw [q10]; rfl) (by decide) ?_
          refine ar_aloadn (k := 11) rfl rfl ?_
          refine br_getIz (k := 12) (z := 0) rfl hKa flT_140_7 (by decide) rfl rfl ?_
          refine tw_top ha0 ?_
          refine ar_iret (k := 13) rfl rfl rfl (Nat.le_refl _) ?_
          first
            | exact ⟨congrArg (fun z => some (vi z)) (by rw [if_pos (by omega)]), rfl⟩
            | exact ⟨congrArg (fun z => some (vi z)) (by rw [if_neg (by omega), if_neg (by omega)]), rfl⟩
            | exact ⟨congrArg (fun z => some (vi z)) (by rw [if_neg (by omega), if_pos (by omega)]; congr 1; omega), rfl⟩
        · refine ar_tswIn (k := 10) (t := 57) rfl (by omega) (by omega) (by omega) (by rw [q10]; rfl) (by decide) ?_
          refine ar_aloadn (k := 14) rfl rfl ?_
          refine br_getIz (k := 15) (z := 2) rfl hKa flT_145_7 (by decide) rfl rfl ?_
          refine tw_top ha2 ?_
          refine ar_iret (k := 16) rfl rfl rfl (Nat.le_refl _) ?_
          first
            | exact ⟨congrArg (fun z => some (vi z)) (by rw [if_pos (by omega)]), rfl⟩
            | exact ⟨congrArg (fun z => some (vi z)) (by rw [if_neg (by omega), if_neg (by omega)]), rfl⟩
            | exact ⟨congrArg (fun z => some (vi z)) (by rw [if_neg (by omega), if_pos (by omega)]; congr 1; omega), rfl⟩
        · refine ar_tswIn (k := 10) (t := 62) rfl (by omega) (by omega) (by omega) (by rw [q10]; rfl) (by decide) ?_
          refine ar_aloadn (k := 17) rfl rfl ?_
          refine br_getIz (k := 18) (z := 3) rfl hKa flT_148_7 (by decide) rfl rfl ?_
          refine tw_top ha3 ?_
          refine ar_iret (k := 19) rfl rfl rfl (Nat.le_refl _) ?_
          first
            | exact ⟨congrArg (fun z => some (vi z)) (by rw [if_pos (by omega)]), rfl⟩
            | exact ⟨congrArg (fun z => some (vi z)) (by rw [if_neg (by omega), if_neg (by omega)]), rfl⟩
            | exact ⟨congrArg (fun z => some (vi z)) (by rw [if_neg (by omega), if_pos (by omega)]; congr 1; omega), rfl⟩
        · refine ar_tswIn (k := 10) (t := 67) rfl (by omega) (by omega) (by omega) (by rw [q10]; rfl) (by decide) ?_
          refine ar_aloadn (k := 20) rfl rfl ?_
          refine br_getR (k := 21) rfl (hS.k (by decide)) flT_14_11 (by decide) rfl (hS.r rfl) ?_
          refine br_getR (k := 22) rfl (hS.k (by decide)) flT_81_10 (by decide) rfl (hS.r rfl) ?_
          refine ar_iloadn (k := 23) rfl rfl ?_
          refine br_iald (k := 24) rfl (hS.k (by decide)) (by omega) (by omega) (by decide) ?_
          refine tw_top (WN.fr hN (by omega) (by omega)) ?_
          refine ar_iret (k := 25) rfl rfl rfl (Nat.le_refl _) ?_
          first
            | exact ⟨congrArg (fun z => some (vi z)) (by rw [if_pos (by omega)]), rfl⟩
            | exact ⟨congrArg (fun z => some (vi z)) (by rw [if_neg (by omega), if_neg (by omega)]), rfl⟩
            | exact ⟨congrArg (fun z => some (vi z)) (by rw [if_neg (by omega), if_pos (by omega)]; congr 1; omega), rfl⟩
        · refine ar_tswIn (k := 10) (t := 77) rfl (by omega) (by omega) (by omega) (by rw [q10]; rfl) (by decide) ?_
          refine ar_aloadn (k := 26) rfl rfl ?_
          refine br_getR (k := 27) rfl (hS.k (by decide)) flT_14_11 (by decide) rfl (hS.r rfl) ?_
          refine ar_iloadn (k := 28) rfl rfl ?_
          refine ar_callV (k := 29) (as := [_]) rfl lvT_151 (hS.k (by decide)) rfl (c_W_heldBy hS hN hR (by omega)) rfl (by decide) (by decide) tw_m0 (Nat.le_of_ble_eq_true rfl) (fun r29 h29 p29 => ?_)
          obtain ⟨rfl, rfl⟩ := p29
          refine ar_iret (k := 30) rfl rfl rfl (Nat.le_refl _) ?_
          first
            | exact ⟨congrArg (fun z => some (vi z)) (by rw [if_pos (by omega)]), rfl⟩
            | exact ⟨congrArg (fun z => some (vi z)) (by rw [if_neg (by omega), if_neg (by omega)]), rfl⟩
            | exact ⟨congrArg (fun z => some (vi z)) (by rw [if_neg (by omega), if_pos (by omega)]; congr 1; omega), rfl⟩
        · refine ar_tswOut (k := 10) (t := 86) rfl (by omega) (by omega) (by decide) ?_
          refine ar_iconst (k := 31) rfl ?_
          refine ar_iret (k := 32) rfl rfl rfl (Nat.le_refl _) ?_
          first
            | exact ⟨congrArg (fun z => some (vi z)) (by rw [if_pos (by omega)]), rfl⟩
            | exact ⟨congrArg (fun z => some (vi z)) (by rw [if_neg (by omega), if_neg (by omega)]), rfl⟩
            | exact ⟨congrArg (fun z => some (vi z)) (by rw [if_neg (by omega), if_pos (by omega)]; congr 1; omega), rfl⟩
      · cases c6
  · skip
    refine ar_aloadn (k := 0) rfl rfl ?_
    skip
    · skip
      refine br_getR (k := 1) rfl (hS.k (by decide)) flT_14_11 (by decide) rfl (hS.r rfl) ?_
      refine ar_iloadn (k := 2) rfl rfl ?_
      refine ar_callV (k := 3) (as := [_]) rfl lvT_136 (hS.k (by decide)) rfl (c_W_pNo hS hN hR (by omega) hno) rfl (by decide) (by decide) tw_m0 (Nat.le_of_ble_eq_true rfl) (fun r3 h3 p3 => ?_)
      obtain ⟨rfl, rfl⟩ := p3
      refine ar_astoren (k := 4) (l2 := [(3, _), (0, _), (1, _), (2, _)]) rfl (by decide) rfl ?_
      refine ar_aloadn (k := 5) rfl rfl ?_
      refine ar_ifnonnull (k := 6) rfl (fun a6 c6 => ?_) (fun c6 => ?_)
      · cases c6
      · refine ar_iconst (k := 7) rfl ?_
        refine ar_iret (k := 8) rfl rfl rfl (Nat.le_refl _) ?_
        first
          | exact ⟨congrArg (fun z => some (vi z)) (by rw [if_pos (by omega)]), rfl⟩
          | exact ⟨congrArg (fun z => some (vi z)) (by rw [if_neg (by omega), if_neg (by omega)]), rfl⟩
          | exact ⟨congrArg (fun z => some (vi z)) (by rw [if_neg (by omega), if_pos (by omega)]; congr 1; omega), rfl⟩
theorem c_T_count {w : Int} (hS : tSt (K, I, Q, n)) (hN : WN 1 I s) (hR : RInv s) (tw : tr w) (hw : w ≠ 6) : tw_F l G 1 0 0 mT_count [vr (some 0), vi w] (K, I, Q, n) (some (vi (rs_count s w).1)) (K, I, Q, n) := by
  obtain ⟨h0, h1, h2, h3, h4, h5, h6, hp, hrw, ht, hr, hb, htp, hv⟩ := id hR
  refine tw_intro okT_count (Nat.le_of_ble_eq_true rfl) ?_
  refine ar_iloadn (k := 0) rfl rfl ?_
  rcases (show w = 0 ∨ w = 1 ∨ w = 2 ∨ w = 3 ∨ w = 4 ∨ w = 5 ∨ w = 6 ∨ (w < 0 ∨ 6 < w) by omega) with q1 | q1 | q1 | q1 | q1 | q1 | q1 | q1
  · refine ar_tswIn (k := 1) (t := 44) rfl (by omega) (by omega) (by omega) (by rw [q1]; rfl) (by decide) ?_
    refine ar_aloadn (k := 2) rfl rfl ?_
    refine br_getR (k := 3) rfl (hS.k (by decide)) flT_14_11 (by decide) rfl (hS.r rfl) ?_
    refine br_getIz (k := 4) (z := 5) rfl (hS.k (by decide)) flT_65_10 (by decide) rfl rfl ?_
    refine tw_top (WN.pc hN) ?_
    refine ar_iret (k := 5) rfl rfl rfl (Nat.le_refl _) ?_
    unfold rs_count
    first
      | (exfalso; omega)
      | exact ⟨congrArg (fun z => some (vi z)) (by simp only []; omega), rfl⟩
  · refine ar_tswIn (k := 1) (t := 52) rfl (by omega) (by omega) (by omega) (by rw [q1]; rfl) (by decide) ?_
    refine ar_aloadn (k := 6) rfl rfl ?_
    refine br_getR (k := 7) rfl (hS.k (by decide)) flT_14_11 (by decide) rfl (hS.r rfl) ?_
    refine br_getIz (k := 8) (z := 12) rfl (hS.k (by decide)) flT_100_10 (by decide) rfl rfl ?_
    refine tw_top (WN.tc hN) ?_
    refine ar_iret (k := 9) rfl rfl rfl (Nat.le_refl _) ?_
    unfold rs_count
    first
      | (exfalso; omega)
      | exact ⟨congrArg (fun z => some (vi z)) (by simp only []; omega), rfl⟩
  · refine ar_tswIn (k := 1) (t := 60) rfl (by omega) (by omega) (by omega) (by rw [q1]; rfl) (by decide) ?_
    refine ar_aloadn (k := 10) rfl rfl ?_
    refine br_getR (k := 11) rfl (hS.k (by decide)) flT_14_11 (by decide) rfl (hS.r rfl) ?_
    refine br_getIz (k := 12) (z := 3) rfl (hS.k (by decide)) flT_54_10 (by decide) rfl rfl ?_
    refine tw_top (WN.vc hN) ?_
    refine ar_iret (k := 13) rfl rfl rfl (Nat.le_refl _) ?_
    unfold rs_count
    first
      | (exfalso; omega)
      | exact ⟨congrArg (fun z => some (vi z)) (by simp only []; omega), rfl⟩
  · refine ar_tswIn (k := 1) (t := 68) rfl (by omega) (by omega) (by omega) (by rw [q1]; rfl) (by decide) ?_
    refine ar_aloadn (k := 14) rfl rfl ?_
    refine br_getR (k := 15) rfl (hS.k (by decide)) flT_14_11 (by decide) rfl (hS.r rfl) ?_
    refine br_getIz (k := 16) (z := 16) rfl (hS.k (by decide)) flT_221_10 (by decide) rfl rfl ?_
    refine tw_top (WN.rc hN) ?_
    refine ar_iret (k := 17) rfl rfl rfl (Nat.le_refl _) ?_
    unfold rs_count
    first
      | (exfalso; omega)
      | exact ⟨congrArg (fun z => some (vi z)) (by simp only []; omega), rfl⟩
  · refine ar_tswIn (k := 1) (t := 76) rfl (by omega) (by omega) (by omega) (by rw [q1]; rfl) (by decide) ?_
    refine ar_aloadn (k := 18) rfl rfl ?_
    refine br_getR (k := 19) rfl (hS.k (by decide)) flT_14_11 (by decide) rfl (hS.r rfl) ?_
    refine br_getIz (k := 20) (z := 19) rfl (hS.k (by decide)) flT_245_10 (by decide) rfl rfl ?_
    refine tw_top (WN.bc hN) ?_
    refine ar_iret (k := 21) rfl rfl rfl (Nat.le_refl _) ?_
    unfold rs_count
    first
      | (exfalso; omega)
      | exact ⟨congrArg (fun z => some (vi z)) (by simp only []; omega), rfl⟩
  · refine ar_tswIn (k := 1) (t := 84) rfl (by omega) (by omega) (by omega) (by rw [q1]; rfl) (by decide) ?_
    refine ar_aloadn (k := 22) rfl rfl ?_
    refine br_getR (k := 23) rfl (hS.k (by decide)) flT_14_11 (by decide) rfl (hS.r rfl) ?_
    refine br_getIz (k := 24) (z := 1) rfl (hS.k (by decide)) flT_46_10 (by decide) rfl rfl ?_
    refine tw_top (WN.sg hN) ?_
    refine ar_iret (k := 25) rfl rfl rfl (Nat.le_refl _) ?_
    unfold rs_count
    first
      | (exfalso; omega)
      | exact ⟨congrArg (fun z => some (vi z)) (by simp only []; omega), rfl⟩
  · refine ar_tswIn (k := 1) (t := 92) rfl (by omega) (by omega) (by omega) (by rw [q1]; rfl) (by decide) ?_
    refine ar_aloadn (k := 26) rfl rfl ?_
    refine br_getR (k := 27) rfl (hS.k (by decide)) flT_35_11 (by decide) rfl (hS.r rfl) ?_
    refine br_getIz (k := 28) (z := 1) rfl (hS.k (by decide)) flT_271_8 (by decide) rfl rfl ?_
    refine ar_iret (k := 29) rfl rfl rfl (Nat.le_refl _) ?_
    unfold rs_count
    first
      | (exfalso; omega)
      | exact ⟨congrArg (fun z => some (vi z)) (by simp only []; omega), rfl⟩
  · refine ar_tswOut (k := 1) (t := 100) rfl (by omega) (by omega) (by decide) ?_
    refine ar_iconst (k := 30) rfl ?_
    refine ar_iret (k := 31) rfl rfl rfl (Nat.le_refl _) ?_
    unfold rs_count
    first
      | (exfalso; omega)
      | exact ⟨congrArg (fun z => some (vi z)) (by simp only []; omega), rfl⟩
theorem c_T_count6 {m : Int} (hS : tSt (K, I, Q, n)) (hm : I 61 1 = m) : tw_F l G 1 0 0 mT_count [vr (some 0), vi 6] (K, I, Q, n) (some (vi m)) (K, I, Q, n) := by
  refine tw_intro okT_count (Nat.le_of_ble_eq_true rfl) ?_
  refine ar_iloadn (k := 0) rfl rfl ?_
  rcases (show (6 : Int) = 0 ∨ (6 : Int) = 1 ∨ (6 : Int) = 2 ∨ (6 : Int) = 3 ∨ (6 : Int) = 4 ∨ (6 : Int) = 5 ∨ (6 : Int) = 6 ∨ ((6 : Int) < 0 ∨ 6 < (6 : Int)) by omega) with q1 | q1 | q1 | q1 | q1 | q1 | q1 | q1
  · exfalso; omega
  · exfalso; omega
  · exfalso; omega
  · exfalso; omega
  · exfalso; omega
  · exfalso; omega
  · refine ar_tswIn (k := 1) (t := 92) rfl (by omega) (by omega) (by omega) (by rw [q1]; rfl) (by decide) ?_
    refine ar_aloadn (k := 26) rfl rfl ?_
    refine br_getR (k := 27) rfl (hS.k (by decide)) flT_35_11 (by decide) rfl (hS.r rfl) ?_
    refine br_getIz (k := 28) (z := 1) rfl (hS.k (by decide)) flT_271_8 (by decide) rfl rfl ?_
    refine tw_top hm ?_
    refine ar_iret (k := 29) rfl rfl rfl (Nat.le_refl _) ?_
    exact ⟨rfl, rfl⟩
  · exfalso; omega
theorem c_T_trace {x m : Int} (hS : tSt (K, I, Q, n)) (tx : tr x) (hm : I 61 1 = m) (m1 : 0 ≤ m ∧ m < 1000) : tw_F l G 1 0 0 mT_trace [vr (some 0), vi x] (K, I, Q, n) (some (vi (if 0 ≤ x ∧ x ≤ (if m < 20 then m else 20) - 1 then I 62 x else -1))) (K, I, Q, n) := by
  refine tw_intro okT_trace (Nat.le_of_ble_eq_true rfl) ?_
  refine ar_iloadn (k := 0) rfl rfl ?_
  refine ar_if_lt (k := 1) rfl (by omega) (fun c1 => ?_) (fun c1 => ?_)
  · refine ar_iconst (k := 16) rfl ?_
    refine ar_iret (k := 17) rfl rfl rfl (Nat.le_refl _) ?_
    first
      | exact ⟨congrArg (fun z => some (vi z)) (by rw [if_pos (by omega)]), rfl⟩
      | exact ⟨congrArg (fun z => some (vi z)) (by rw [if_neg (by omega)]), rfl⟩
  · refine ar_iloadn (k := 2) rfl rfl ?_
    refine ar_bipush (k := 3) rfl (by decide) ?_
    refine ar_icmp_ge (k := 4) rfl (by omega) (by omega) (fun c4 => ?_) (fun c4 => ?_)
    · refine ar_iconst (k := 16) rfl ?_
      refine ar_iret (k := 17) rfl rfl rfl (Nat.le_refl _) ?_
      first
        | exact ⟨congrArg (fun z => some (vi z)) (by rw [if_pos (by omega)]), rfl⟩
        | exact ⟨congrArg (fun z => some (vi z)) (by rw [if_neg (by omega)]), rfl⟩
    · refine ar_iloadn (k := 5) rfl rfl ?_
      refine ar_aloadn (k := 6) rfl rfl ?_
      refine br_getR (k := 7) rfl (hS.k (by decide)) flT_35_11 (by decide) rfl (hS.r rfl) ?_
      refine br_getIz (k := 8) (z := 1) rfl (hS.k (by decide)) flT_271_8 (by decide) rfl rfl ?_
      refine tw_top hm ?_
      refine ar_icmp_ge (k := 9) rfl (by omega) (by omega) (fun c9 => ?_) (fun c9 => ?_)
      · refine ar_iconst (k := 16) rfl ?_
        refine ar_iret (k := 17) rfl rfl rfl (Nat.le_refl _) ?_
        first
          | exact ⟨congrArg (fun z => some (vi z)) (by rw [if_pos (by omega)]), rfl⟩
          | exact ⟨congrArg (fun z => some (vi z)) (by rw [if_neg (by omega)]), rfl⟩
      · refine ar_aloadn (k := 10) rfl rfl ?_
        refine br_getR (k := 11) rfl (hS.k (by decide)) flT_35_11 (by decide) rfl (hS.r rfl) ?_
        refine br_getR (k := 12) rfl (hS.k (by decide)) flT_274_8 (by decide) rfl (hS.r rfl) ?_
        refine ar_iloadn (k := 13) rfl rfl ?_
        refine br_iald (k := 14) rfl (hS.k (by decide)) (by omega) (by omega) (by decide) ?_
        refine ar_goto (k := 15) rfl ?_
        refine ar_iret (k := 17) rfl rfl rfl (Nat.le_refl _) ?_
        first
          | exact ⟨congrArg (fun z => some (vi z)) (by rw [if_pos (by omega)]), rfl⟩
          | exact ⟨congrArg (fun z => some (vi z)) (by rw [if_neg (by omega)]), rfl⟩
theorem c_T_row {p a0 t : Int} (hS : tSt (K, I, Q, n)) (hN : WN 1 I s) (hR : RInv s) (hP : WP 1 K I Q n s) (t_p : tr p) (t_a : tr a0) (t_t : tr t) : tw_M l G 2 0 0 mT_row [vr (some 0), vi p, vi a0, vi t] (K, I, Q, n) (fun r h' => r = some (vi (rs_row s p a0 t).1) ∧ ∃ J, h' = (K, J, Q, n) ∧ WN 1 J (rs_row s p a0 t).2 ∧ wo I J) := by
  obtain ⟨h0, h1, h2, h3, h4, h5, h6, hp, hrw, ht, hr, hb, htp, hv⟩ := id hR
  refine tw_intro okT_row (Nat.le_of_ble_eq_true rfl) ?_
  refine ar_aloadn (k := 0) rfl rfl ?_
  refine br_getR (k := 1) rfl (hS.k (by decide)) flT_14_11 (by decide) rfl (hS.r rfl) ?_
  refine ar_iloadn (k := 2) rfl rfl ?_
  refine ar_callV (k := 3) (as := [_]) rfl lvT_76 (hS.k (by decide)) rfl (c_W_hasPerson hS hN hR (by omega)) rfl (by decide) (by decide) tw_m0 (Nat.le_of_ble_eq_true rfl) (fun r3 h3 p3 => ?_)
  obtain ⟨rfl, rfl⟩ := p3
  refine ar_if_eq (k := 4) rfl (by omega) (fun c4 => ?_) (fun c4 => ?_)
  · refine ar_iconst (k := 10) rfl ?_
    refine ar_iret (k := 11) rfl rfl rfl (Nat.le_refl _) ?_
    first
      | (exfalso; omega)
      | (have e : rs_row s p a0 t = (-1, s) := by unfold rs_row; (repeat' split) <;> first | rfl | (exfalso; omega)
         rw [e]
         exact ⟨congrArg (fun z => some (vi z)) (by omega), _, rfl, hN, wo.rf⟩)
  · refine ar_iloadn (k := 5) rfl rfl ?_
    refine ar_if_lt (k := 6) rfl (by omega) (fun c6 => ?_) (fun c6 => ?_)
    · refine ar_iconst (k := 10) rfl ?_
      refine ar_iret (k := 11) rfl rfl rfl (Nat.le_refl _) ?_
      first
        | (exfalso; omega)
        | (have e : rs_row s p a0 t = (-1, s) := by unfold rs_row; (repeat' split) <;> first | rfl | (exfalso; omega)
           rw [e]
           exact ⟨congrArg (fun z => some (vi z)) (by omega), _, rfl, hN, wo.rf⟩)
    · refine ar_iloadn (k := 7) rfl rfl ?_
      refine ar_iconst (k := 8) rfl ?_
      refine ar_icmp_lt (k := 9) rfl (by omega) (by omega) (fun c9 => ?_) (fun c9 => ?_)
      · refine ar_iloadn (k := 12) rfl rfl ?_
        refine ar_iconst (k := 13) rfl ?_
        refine ar_icmp_lt (k := 14) rfl (by omega) (by omega) (fun c14 => ?_) (fun c14 => ?_)
        · refine ar_bipush (k := 18) rfl (by decide) ?_
          refine ar_iret (k := 19) rfl rfl rfl (Nat.le_refl _) ?_
          first
            | (exfalso; omega)
            | (have e : rs_row s p a0 t = (-2, s) := by unfold rs_row; (repeat' split) <;> first | rfl | (exfalso; omega)
               rw [e]
               exact ⟨congrArg (fun z => some (vi z)) (by omega), _, rfl, hN, wo.rf⟩)
        · refine ar_iloadn (k := 15) rfl rfl ?_
          refine ar_bipush (k := 16) rfl (by decide) ?_
          refine ar_icmp_lt (k := 17) rfl (by omega) (by omega) (fun c17 => ?_) (fun c17 => ?_)
          · obtain ⟨a, hQa, ha77, han, haK, ha0, ha1, ha2, ha3⟩ := hP p (by omega) (by omega)
            rcases (show s (10 + p) = 0 ∨ s (10 + p) = 1 ∨ s (10 + p) = 2 ∨ s (10 + p) = 3 ∨ s (10 + p) = 4 ∨ s (10 + p) = 5 ∨ s (10 + p) = 6 by have := hp p (by omega) (by omega); omega) with hq | hq | hq | hq | hq | hq | hq
            · have hKa : tK (K, I, Q, n) a (2, 4) := ⟨by show K a = _; rw [haK, hq]; rfl, han⟩
              refine ar_aloadn (k := 20) rfl rfl ?_
              refine br_getR (k := 21) rfl (hS.k (by decide)) flT_14_11 (by decide) rfl (hS.r rfl) ?_
              refine br_getR (k := 22) rfl (hS.k (by decide)) flT_91_10 (by decide) rfl (hS.r rfl) ?_
              refine ar_iloadn (k := 23) rfl rfl ?_
              refine br_aald16 (k := 24) rfl (hS.k (by decide)) (by omega) (by omega) (by decide) hQa ?_
              refine ar_inst (k := 25) (b := 0) rfl klT_95 hKa rfl (by decide) ?_
              refine ar_if_ne (k := 26) rfl (by omega) (fun c26 => ?_) (fun c26 => ?_)
              · exfalso; exact absurd rfl c26
              · refine ar_bipush (k := 27) rfl (by decide) ?_
                refine ar_iret (k := 28) rfl rfl rfl (Nat.le_refl _) ?_
                first
                  | (exfalso; omega)
                  | (have e : rs_row s p a0 t = (-3, s) := by unfold rs_row; (repeat' split) <;> first | rfl | (exfalso; omega)
                     rw [e]
                     exact ⟨congrArg (fun z => some (vi z)) (by omega), _, rfl, hN, wo.rf⟩)
            · have hKa : tK (K, I, Q, n) a (0, 4) := ⟨by show K a = _; rw [haK, hq]; rfl, han⟩
              refine ar_aloadn (k := 20) rfl rfl ?_
              refine br_getR (k := 21) rfl (hS.k (by decide)) flT_14_11 (by decide) rfl (hS.r rfl) ?_
              refine br_getR (k := 22) rfl (hS.k (by decide)) flT_91_10 (by decide) rfl (hS.r rfl) ?_
              refine ar_iloadn (k := 23) rfl rfl ?_
              refine br_aald16 (k := 24) rfl (hS.k (by decide)) (by omega) (by omega) (by decide) hQa ?_
              refine ar_inst (k := 25) (b := 0) rfl klT_95 hKa rfl (by decide) ?_
              refine ar_if_ne (k := 26) rfl (by omega) (fun c26 => ?_) (fun c26 => ?_)
              · exfalso; exact absurd rfl c26
              · refine ar_bipush (k := 27) rfl (by decide) ?_
                refine ar_iret (k := 28) rfl rfl rfl (Nat.le_refl _) ?_
                first
                  | (exfalso; omega)
                  | (have e : rs_row s p a0 t = (-3, s) := by unfold rs_row; (repeat' split) <;> first | rfl | (exfalso; omega)
                     rw [e]
                     exact ⟨congrArg (fun z => some (vi z)) (by omega), _, rfl, hN, wo.rf⟩)
            · have hKa : tK (K, I, Q, n) a (3, 4) := ⟨by show K a = _; rw [haK, hq]; rfl, han⟩
              refine ar_aloadn (k := 20) rfl rfl ?_
              refine br_getR (k := 21) rfl (hS.k (by decide)) flT_14_11 (by decide) rfl (hS.r rfl) ?_
              refine br_getR (k := 22) rfl (hS.k (by decide)) flT_91_10 (by decide) rfl (hS.r rfl) ?_
              refine ar_iloadn (k := 23) rfl rfl ?_
              refine br_aald16 (k := 24) rfl (hS.k (by decide)) (by omega) (by omega) (by decide) hQa ?_
              refine ar_inst (k := 25) (b := 0) rfl klT_95 hKa rfl (by decide) ?_
              refine ar_if_ne (k := 26) rfl (by omega) (fun c26 => ?_) (fun c26 => ?_)
              · exfalso; exact absurd rfl c26
              · refine ar_bipush (k := 27) rfl (by decide) ?_
                refine ar_iret (k := 28) rfl rfl rfl (Nat.le_refl _) ?_
                first
                  | (exfalso; omega)
                  | (have e : rs_row s p a0 t = (-3, s) := by unfold rs_row; (repeat' split) <;> first | rfl | (exfalso; omega)
                     rw [e]
                     exact ⟨congrArg (fun z => some (vi z)) (by omega), _, rfl, hN, wo.rf⟩)
            · have hKa : tK (K, I, Q, n) a (1, 4) := ⟨by show K a = _; rw [haK, hq]; rfl, han⟩
              refine ar_aloadn (k := 20) rfl rfl ?_
              refine br_getR (k := 21) rfl (hS.k (by decide)) flT_14_11 (by decide) rfl (hS.r rfl) ?_
              refine br_getR (k := 22) rfl (hS.k (by decide)) flT_91_10 (by decide) rfl (hS.r rfl) ?_
              refine ar_iloadn (k := 23) rfl rfl ?_
              refine br_aald16 (k := 24) rfl (hS.k (by decide)) (by omega) (by omega) (by decide) hQa ?_
              refine ar_inst (k := 25) (b := 0) rfl klT_95 hKa rfl (by decide) ?_
              refine ar_if_ne (k := 26) rfl (by omega) (fun c26 => ?_) (fun c26 => ?_)
              · exfalso; exact absurd rfl c26
              · refine ar_bipush (k := 27) rfl (by decide) ?_
                refine ar_iret (k := 28) rfl rfl rfl (Nat.le_refl _) ?_
                first
                  | (exfalso; omega)
                  | (have e : rs_row s p a0 t = (-3, s) := by unfold rs_row; (repeat' split) <;> first | rfl | (exfalso; omega)
                     rw [e]
                     exact ⟨congrArg (fun z => some (vi z)) (by omega), _, rfl, hN, wo.rf⟩)
            · have hKa : tK (K, I, Q, n) a (5, 4) := ⟨by show K a = _; rw [haK, hq]; rfl, han⟩
              refine ar_aloadn (k := 20) rfl rfl ?_
              refine br_getR (k := 21) rfl (hS.k (by decide)) flT_14_11 (by decide) rfl (hS.r rfl) ?_
              refine br_getR (k := 22) rfl (hS.k (by decide)) flT_91_10 (by decide) rfl (hS.r rfl) ?_
              refine ar_iloadn (k := 23) rfl rfl ?_
              refine br_aald16 (k := 24) rfl (hS.k (by decide)) (by omega) (by omega) (by decide) hQa ?_
              refine ar_inst (k := 25) (b := 0) rfl klT_95 hKa rfl (by decide) ?_
              refine ar_if_ne (k := 26) rfl (by omega) (fun c26 => ?_) (fun c26 => ?_)
              · exfalso; exact absurd rfl c26
              · refine ar_bipush (k := 27) rfl (by decide) ?_
                refine ar_iret (k := 28) rfl rfl rfl (Nat.le_refl _) ?_
                first
                  | (exfalso; omega)
                  | (have e : rs_row s p a0 t = (-3, s) := by unfold rs_row; (repeat' split) <;> first | rfl | (exfalso; omega)
                     rw [e]
                     exact ⟨congrArg (fun z => some (vi z)) (by omega), _, rfl, hN, wo.rf⟩)
            · have hKa : tK (K, I, Q, n) a (4, 4) := ⟨by show K a = _; rw [haK, hq]; rfl, han⟩
              refine ar_aloadn (k := 20) rfl rfl ?_
              refine br_getR (k := 21) rfl (hS.k (by decide)) flT_14_11 (by decide) rfl (hS.r rfl) ?_
              refine br_getR (k := 22) rfl (hS.k (by decide)) flT_91_10 (by decide) rfl (hS.r rfl) ?_
              refine ar_iloadn (k := 23) rfl rfl ?_
              refine br_aald16 (k := 24) rfl (hS.k (by decide)) (by omega) (by omega) (by decide) hQa ?_
              refine ar_inst (k := 25) (b := 0) rfl klT_95 hKa rfl (by decide) ?_
              refine ar_if_ne (k := 26) rfl (by omega) (fun c26 => ?_) (fun c26 => ?_)
              · exfalso; exact absurd rfl c26
              · refine ar_bipush (k := 27) rfl (by decide) ?_
                refine ar_iret (k := 28) rfl rfl rfl (Nat.le_refl _) ?_
                first
                  | (exfalso; omega)
                  | (have e : rs_row s p a0 t = (-3, s) := by unfold rs_row; (repeat' split) <;> first | rfl | (exfalso; omega)
                     rw [e]
                     exact ⟨congrArg (fun z => some (vi z)) (by omega), _, rfl, hN, wo.rf⟩)
            · have hKa : tK (K, I, Q, n) a (7, 4) := ⟨by show K a = _; rw [haK, hq]; rfl, han⟩
              refine ar_aloadn (k := 20) rfl rfl ?_
              refine br_getR (k := 21) rfl (hS.k (by decide)) flT_14_11 (by decide) rfl (hS.r rfl) ?_
              refine br_getR (k := 22) rfl (hS.k (by decide)) flT_91_10 (by decide) rfl (hS.r rfl) ?_
              refine ar_iloadn (k := 23) rfl rfl ?_
              refine br_aald16 (k := 24) rfl (hS.k (by decide)) (by omega) (by omega) (by decide) hQa ?_
              refine ar_inst (k := 25) (b := 1) rfl klT_95 hKa rfl (by decide) ?_
              refine ar_if_ne (k := 26) rfl (by omega) (fun c26 => ?_) (fun c26 => ?_)
              · have hw9 := hrw (4 * p + a0) (by omega) (by omega)
                rw [show 42 + (4 * p + a0) = 42 + 4 * p + a0 by omega] at hw9
                have hN9 : WN 1 (uI I 6 (p * 4 + a0) (if t = -1 then -5 else t)) (up s (42 + 4 * p + a0) t) := by rw [show 42 + 4 * p + a0 = 42 + (p * 4 + a0) by omega]; exact hN.u_rw (by omega)
                refine ar_iloadn (k := 29) rfl rfl ?_
                refine ar_iconst (k := 30) rfl ?_
                refine ar_imul (k := 31) rfl ?_
                refine ar_iloadn (k := 32) rfl rfl ?_
                refine ar_iadd (k := 33) rfl ?_
                refine ar_istore (k := 34) (l2 := [(4, _), (0, _), (1, _), (2, _), (3, _)]) rfl (by decide) rfl ?_
                refine ar_aloadn (k := 35) rfl rfl ?_
                refine br_getR (k := 36) rfl (hS.k (by decide)) flT_14_11 (by decide) rfl (hS.r rfl) ?_
                refine br_getR (k := 37) rfl (hS.k (by decide)) flT_97_10 (by decide) rfl (hS.r rfl) ?_
                refine ar_iload (k := 38) rfl rfl ?_
                refine br_iald (k := 39) rfl (hS.k (by decide)) (by omega) (by omega) (by decide) ?_
                refine tw_top (y := if s (42 + 4 * p + a0) = -1 then -5 else s (42 + 4 * p + a0)) (by rw [show 42 + 4 * p + a0 = 42 + (p * 4 + a0) by omega]; exact WN.rw hN (by omega) (by omega)) ?_
                refine ar_istore (k := 40) (l2 := [(5, _), (4, _), (0, _), (1, _), (2, _), (3, _)]) rfl (by decide) rfl ?_
                refine ar_aloadn (k := 41) rfl rfl ?_
                refine br_getR (k := 42) rfl (hS.k (by decide)) flT_14_11 (by decide) rfl (hS.r rfl) ?_
                refine br_getR (k := 43) rfl (hS.k (by decide)) flT_97_10 (by decide) rfl (hS.r rfl) ?_
                refine ar_iload (k := 44) rfl rfl ?_
                refine ar_iloadn (k := 45) rfl rfl ?_
                refine ar_iconst (k := 46) rfl ?_
                refine ar_icmp_ne (k := 47) rfl (by omega) (by omega) (fun c47 => ?_) (fun c47 => ?_)
                · refine ar_iloadn (k := 50) rfl rfl ?_
                  refine tw_top (y := if t = -1 then -5 else t) (by first | rw [if_pos (by omega)] | rw [if_neg (by omega)]) ?_
                  refine br_iast (k := 51) rfl (hS.k (by decide)) (by omega) (by omega) (by decide) ?_
                  refine ar_iload (k := 52) rfl rfl ?_
                  refine ar_iret (k := 53) rfl rfl rfl (Nat.le_refl _) ?_
                  first
                    | (exfalso; omega)
                    | (have e : rs_row s p a0 t = (if s (42 + 4 * p + a0) = -1 then -5 else s (42 + 4 * p + a0), up s (42 + 4 * p + a0) t) := by unfold rs_row; (repeat' split) <;> first | rfl | (exfalso; omega)
                       rw [e]
                       exact ⟨congrArg (fun z => some (vi z)) (by omega), _, rfl, hN9, wo.rf.u (by decide)⟩)
                · refine ar_bipush (k := 48) rfl (by decide) ?_
                  refine ar_goto (k := 49) rfl ?_
                  refine tw_top (y := if t = -1 then -5 else t) (by first | rw [if_pos (by omega)] | rw [if_neg (by omega)]) ?_
                  refine br_iast (k := 51) rfl (hS.k (by decide)) (by omega) (by omega) (by decide) ?_
                  refine ar_iload (k := 52) rfl rfl ?_
                  refine ar_iret (k := 53) rfl rfl rfl (Nat.le_refl _) ?_
                  first
                    | (exfalso; omega)
                    | (have e : rs_row s p a0 t = (if s (42 + 4 * p + a0) = -1 then -5 else s (42 + 4 * p + a0), up s (42 + 4 * p + a0) t) := by unfold rs_row; (repeat' split) <;> first | rfl | (exfalso; omega)
                       rw [e]
                       exact ⟨congrArg (fun z => some (vi z)) (by omega), _, rfl, hN9, wo.rf.u (by decide)⟩)
              · refine ar_bipush (k := 27) rfl (by decide) ?_
                refine ar_iret (k := 28) rfl rfl rfl (Nat.le_refl _) ?_
                first
                  | (exfalso; omega)
                  | (have e : rs_row s p a0 t = (-3, s) := by unfold rs_row; (repeat' split) <;> first | rfl | (exfalso; omega)
                     rw [e]
                     exact ⟨congrArg (fun z => some (vi z)) (by omega), _, rfl, hN, wo.rf⟩)
          · refine ar_bipush (k := 18) rfl (by decide) ?_
            refine ar_iret (k := 19) rfl rfl rfl (Nat.le_refl _) ?_
            first
              | (exfalso; omega)
              | (have e : rs_row s p a0 t = (-2, s) := by unfold rs_row; (repeat' split) <;> first | rfl | (exfalso; omega)
                 rw [e]
                 exact ⟨congrArg (fun z => some (vi z)) (by omega), _, rfl, hN, wo.rf⟩)
      · refine ar_iconst (k := 10) rfl ?_
        refine ar_iret (k := 11) rfl rfl rfl (Nat.le_refl _) ?_
        first
          | (exfalso; omega)
          | (have e : rs_row s p a0 t = (-1, s) := by unfold rs_row; (repeat' split) <;> first | rfl | (exfalso; omega)
             rw [e]
             exact ⟨congrArg (fun z => some (vi z)) (by omega), _, rfl, hN, wo.rf⟩)
end CN
