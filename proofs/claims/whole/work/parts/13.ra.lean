section RA
variable {l : Launch} {G : tG} {K : Nat → Nat × Nat} {I : Nat → Int → Int} {Q : Nat → Int → Option Nat} {n : Nat}
theorem c_R_in {h : tH} {z lo hi : Int} (hz : tr z) (hlo : tr lo) (hhi : tr hi) : tw_F l G 1 0 0 mR_in [vi z, vi lo, vi hi] h (some (vi (if lo ≤ z ∧ z ≤ hi then 1 else 0))) h := by
  refine tw_intro okR_in (Nat.le_of_ble_eq_true rfl) ?_
  refine ar_iloadn (k := 0) rfl rfl ?_
  refine ar_iloadn (k := 1) rfl rfl ?_
  refine ar_icmp_lt (k := 2) rfl (by omega) (by omega) (fun c2 => ?_) (fun c2 => ?_)
  · refine ar_iconst (k := 8) rfl ?_
    refine ar_zret (k := 9) rfl rfl (by omega) rfl (Nat.le_refl _) ?_
    exact ⟨congrArg (fun z => some (vi z)) (by omega), rfl⟩
  · refine ar_iloadn (k := 3) rfl rfl ?_
    refine ar_iloadn (k := 4) rfl rfl ?_
    refine ar_icmp_gt (k := 5) rfl (by omega) (by omega) (fun c5 => ?_) (fun c5 => ?_)
    · refine ar_iconst (k := 8) rfl ?_
      refine ar_zret (k := 9) rfl rfl (by omega) rfl (Nat.le_refl _) ?_
      exact ⟨congrArg (fun z => some (vi z)) (by omega), rfl⟩
    · refine ar_iconst (k := 6) rfl ?_
      refine ar_goto (k := 7) rfl ?_
      refine ar_zret (k := 9) rfl rfl (by omega) rfl (Nat.le_refl _) ?_
      exact ⟨congrArg (fun z => some (vi z)) (by omega), rfl⟩
theorem c_R_isPerson {p : Int} (hS : tSt (K, I, Q, n)) (hp : tr p) (h0 : 0 ≤ I 70 0 ∧ I 70 0 ≤ 8) : tw_F l G 2 0 0 mR_isPerson [vr (some 69), vi p] (K, I, Q, n) (some (vi (if 0 ≤ p ∧ p ≤ I 70 0 - 1 then 1 else 0))) (K, I, Q, n) := by
  refine tw_intro okR_isPerson (Nat.le_of_ble_eq_true rfl) ?_
  refine ar_iloadn (k := 0) rfl rfl ?_
  refine ar_iconst (k := 1) rfl ?_
  refine ar_aloadn (k := 2) rfl rfl ?_
  refine br_getR (k := 3) rfl (hS.k (by decide)) flR_9_12 (by decide) rfl (hS.r rfl) ?_
  refine ar_iconst (k := 4) rfl ?_
  refine br_iald (k := 5) rfl (hS.k (by decide)) (by omega) (by omega) (by decide) ?_
  refine ar_iconst (k := 6) rfl ?_
  refine ar_isub (k := 7) rfl ?_
  refine br_callS (k := 8) (as := [_, _, _]) rfl lsR_38 (c_R_in (by omega) (by omega) (by omega)) rfl (by decide) (by decide) tw_m0 (Nat.le_of_ble_eq_true rfl) ?_
  refine ar_zret (k := 9) rfl rfl (by omega) rfl (Nat.le_refl _) ?_
  exact ⟨congrArg (fun z => some (vi z)) (by omega), rfl⟩
theorem c_R_isTool {p : Int} (hS : tSt (K, I, Q, n)) (hp : tr p) (h1 : 0 ≤ I 70 1 ∧ I 70 1 ≤ 10) : tw_F l G 2 0 0 mR_isTool [vr (some 69), vi p] (K, I, Q, n) (some (vi (if 0 ≤ p ∧ p ≤ I 70 1 - 1 then 1 else 0))) (K, I, Q, n) := by
  refine tw_intro okR_isTool (Nat.le_of_ble_eq_true rfl) ?_
  refine ar_iloadn (k := 0) rfl rfl ?_
  refine ar_iconst (k := 1) rfl ?_
  refine ar_aloadn (k := 2) rfl rfl ?_
  refine br_getR (k := 3) rfl (hS.k (by decide)) flR_9_12 (by decide) rfl (hS.r rfl) ?_
  refine ar_iconst (k := 4) rfl ?_
  refine br_iald (k := 5) rfl (hS.k (by decide)) (by omega) (by omega) (by decide) ?_
  refine ar_iconst (k := 6) rfl ?_
  refine ar_isub (k := 7) rfl ?_
  refine br_callS (k := 8) (as := [_, _, _]) rfl lsR_38 (c_R_in (by omega) (by omega) (by omega)) rfl (by decide) (by decide) tw_m0 (Nat.le_of_ble_eq_true rfl) ?_
  refine ar_zret (k := 9) rfl rfl (by omega) rfl (Nat.le_refl _) ?_
  exact ⟨congrArg (fun z => some (vi z)) (by omega), rfl⟩
theorem c_R_isHour {h : tH} {p : Int} (hp : tr p) : tw_F l G 2 0 0 mR_isHour [vi p] h (some (vi (if 0 ≤ p ∧ p ≤ 23 then 1 else 0))) h := by
  refine tw_intro okR_isHour (Nat.le_of_ble_eq_true rfl) ?_
  refine ar_iloadn (k := 0) rfl rfl ?_
  refine ar_iconst (k := 1) rfl ?_
  refine ar_bipush (k := 2) rfl (by decide) ?_
  refine br_callS (k := 3) (as := [_, _, _]) rfl lsR_38 (c_R_in (by omega) (by omega) (by omega)) rfl (by decide) (by decide) tw_m0 (Nat.le_of_ble_eq_true rfl) ?_
  refine ar_zret (k := 4) rfl rfl (by omega) rfl (Nat.le_refl _) ?_
  exact ⟨congrArg (fun z => some (vi z)) (by omega), rfl⟩
end RA
