section RB
variable {l : Launch} {G : tG} {K : Nat → Nat × Nat} {I : Nat → Int → Int} {Q : Nat → Int → Option Nat} {n : Nat}
def rs_feed (s : Int → Int) (x : Int) : Int × (Int → Int) := if ¬ (0 ≤ x ∧ x ≤ 127) then (-2, s) else if s 5 = 100 then (-4, s) else (s 5 + 1, up (up s (174 + s 5) x) 5 (s 5 + 1))
theorem c_R_feed {x : Int} (hS : tSt (K, I, Q, n)) (hR : RInv (I 70)) (t_x : tr x) : tw_F l G 2 0 0 mR_feed [vr (some 69), vi x] (K, I, Q, n) (some (vi (rs_feed (I 70) x).1)) (K, setA I 70 (rs_feed (I 70) x).2, Q, n) := by
  obtain ⟨h0, h1, h2, h3, h4, h5, h6, hp, hrw, ht, hr, hb, htp, hv⟩ := hR
  refine tw_intro okR_feed (Nat.le_of_ble_eq_true rfl) ?_
  refine ar_iloadn (k := 0) rfl rfl ?_
  refine ar_iconst (k := 1) rfl ?_
  refine ar_bipush (k := 2) rfl (by decide) ?_
  refine br_callS (k := 3) (as := [_, _, _]) rfl lsR_38 (c_R_in (by omega) (by omega) (by omega)) rfl (by decide) (by decide) tw_m0 (Nat.le_of_ble_eq_true rfl) ?_
  refine ar_if_ne (k := 4) rfl (by omega) (fun c4 => ?_) (fun c4 => ?_)
  · refine ar_aloadn (k := 7) rfl rfl ?_
    refine br_getR (k := 8) rfl (hS.k (by decide)) flR_9_12 (by decide) rfl (hS.r rfl) ?_
    refine ar_iconst (k := 9) rfl ?_
    refine br_iald (k := 10) rfl (hS.k (by decide)) (by omega) (by omega) (by decide) ?_
    refine ar_bipush (k := 11) rfl (by decide) ?_
    refine ar_icmp_ne (k := 12) rfl (by omega) (by omega) (fun c12 => ?_) (fun c12 => ?_)
    · refine ar_aloadn (k := 15) rfl rfl ?_
      refine br_getR (k := 16) rfl (hS.k (by decide)) flR_9_12 (by decide) rfl (hS.r rfl) ?_
      refine ar_sipush (k := 17) rfl (by decide) ?_
      refine ar_aloadn (k := 18) rfl rfl ?_
      refine br_getR (k := 19) rfl (hS.k (by decide)) flR_9_12 (by decide) rfl (hS.r rfl) ?_
      refine ar_iconst (k := 20) rfl ?_
      refine br_iald (k := 21) rfl (hS.k (by decide)) (by omega) (by omega) (by decide) ?_
      refine ar_iadd (k := 22) rfl ?_
      refine ar_iloadn (k := 23) rfl rfl ?_
      refine br_iast (k := 24) rfl (hS.k (by decide)) (by omega) (by omega) (by decide) ?_
      refine ar_aloadn (k := 25) rfl rfl ?_
      refine br_getR (k := 26) rfl (hS.k (by decide)) flR_9_12 (by decide) rfl (hS.r rfl) ?_
      refine ar_iconst (k := 27) rfl ?_
      refine ar_dup2 (k := 28) rfl rfl rfl ?_
      refine br_iald (k := 29) rfl (hS.k (by decide)) (by omega) (by omega) (by decide) ?_
      refine tw_top (y := I 70 5) (by simp only [uI_at]; omega) ?_
      refine ar_iconst (k := 30) rfl ?_
      refine ar_iadd (k := 31) rfl ?_
      refine br_iast (k := 32) rfl (hS.k (by decide)) (by omega) (by omega) (by decide) ?_
      refine ar_aloadn (k := 33) rfl rfl ?_
      refine br_getR (k := 34) rfl (hS.k (by decide)) flR_9_12 (by decide) rfl (hS.r rfl) ?_
      refine ar_iconst (k := 35) rfl ?_
      refine br_iald (k := 36) rfl (hS.k (by decide)) (by omega) (by omega) (by decide) ?_
      refine tw_top (y := I 70 5 + 1) (by rw [uI_at, if_pos rfl]) ?_
      refine ar_iret (k := 37) rfl rfl rfl (Nat.le_refl _) ?_
      unfold rs_feed
      (repeat' split) <;> first
        | (exfalso; omega)
        | exact ⟨rfl, by rw [setA_id]⟩
        | exact ⟨rfl, by simp only [uI_set, setA_setA, setA_at]⟩
    · refine ar_bipush (k := 13) rfl (by decide) ?_
      refine ar_iret (k := 14) rfl rfl rfl (Nat.le_refl _) ?_
      unfold rs_feed
      (repeat' split) <;> first
        | (exfalso; omega)
        | exact ⟨rfl, by rw [setA_id]⟩
        | exact ⟨rfl, by simp only [uI_set, setA_setA, setA_at]⟩
  · refine ar_bipush (k := 5) rfl (by decide) ?_
    refine ar_iret (k := 6) rfl rfl rfl (Nat.le_refl _) ?_
    unfold rs_feed
    (repeat' split) <;> first
      | (exfalso; omega)
      | exact ⟨rfl, by rw [setA_id]⟩
      | exact ⟨rfl, by simp only [uI_set, setA_setA, setA_at]⟩
def rs_row (s : Int → Int) (p : Int) (a : Int) (t : Int) : Int × (Int → Int) := if ¬ (0 ≤ p ∧ p ≤ s 0 - 1 ∧ 0 ≤ a ∧ a ≤ 3) then (-1, s) else if ¬ (-1 ≤ t ∧ t ≤ 9) then (-2, s) else if s (10 + p) ≠ 6 then (-3, s) else (if s (42 + 4 * p + a) = -1 then -5 else s (42 + 4 * p + a), up s (42 + 4 * p + a) t)
theorem c_R_row {p : Int} {a : Int} {t : Int} (hS : tSt (K, I, Q, n)) (hR : RInv (I 70)) (t_p : tr p) (t_a : tr a) (t_t : tr t) : tw_F l G 3 0 0 mR_row [vr (some 69), vi p, vi a, vi t] (K, I, Q, n) (some (vi (rs_row (I 70) p a t).1)) (K, setA I 70 (rs_row (I 70) p a t).2, Q, n) := by
  obtain ⟨h0, h1, h2, h3, h4, h5, h6, hp, hrw, ht, hr, hb, htp, hv⟩ := hR
  refine tw_intro okR_row (Nat.le_of_ble_eq_true rfl) ?_
  refine ar_aloadn (k := 0) rfl rfl ?_
  refine ar_iloadn (k := 1) rfl rfl ?_
  refine br_callV (k := 2) (as := [_]) rfl lvR_115 (hS.k (by decide)) rfl (c_R_isPerson hS (by omega) h0) rfl (by decide) (by decide) tw_m0 (Nat.le_of_ble_eq_true rfl) ?_
  refine ar_if_eq (k := 3) rfl (by omega) (fun c3 => ?_) (fun c3 => ?_)
  · refine ar_iconst (k := 9) rfl ?_
    refine ar_iret (k := 10) rfl rfl rfl (Nat.le_refl _) ?_
    unfold rs_row
    (repeat' split) <;> first
      | (exfalso; omega)
      | exact ⟨rfl, by rw [setA_id]⟩
      | exact ⟨rfl, by simp only [uI_set, setA_setA, setA_at]⟩
  · refine ar_iloadn (k := 4) rfl rfl ?_
    refine ar_iconst (k := 5) rfl ?_
    refine ar_iconst (k := 6) rfl ?_
    refine br_callS (k := 7) (as := [_, _, _]) rfl lsR_38 (c_R_in (by omega) (by omega) (by omega)) rfl (by decide) (by decide) tw_m0 (Nat.le_of_ble_eq_true rfl) ?_
    refine ar_if_ne (k := 8) rfl (by omega) (fun c8 => ?_) (fun c8 => ?_)
    · refine ar_iloadn (k := 11) rfl rfl ?_
      refine ar_iconst (k := 12) rfl ?_
      refine ar_bipush (k := 13) rfl (by decide) ?_
      refine br_callS (k := 14) (as := [_, _, _]) rfl lsR_38 (c_R_in (by omega) (by omega) (by omega)) rfl (by decide) (by decide) tw_m0 (Nat.le_of_ble_eq_true rfl) ?_
      refine ar_if_ne (k := 15) rfl (by omega) (fun c15 => ?_) (fun c15 => ?_)
      · have hk := hp p (by omega) (by omega)
        have hq := hrw (4 * p + a) (by omega) (by omega)
        rw [← Int.add_assoc] at hq
        refine ar_aloadn (k := 18) rfl rfl ?_
        refine br_getR (k := 19) rfl (hS.k (by decide)) flR_9_12 (by decide) rfl (hS.r rfl) ?_
        refine ar_bipush (k := 20) rfl (by decide) ?_
        refine ar_iloadn (k := 21) rfl rfl ?_
        refine ar_iadd (k := 22) rfl ?_
        refine br_iald (k := 23) rfl (hS.k (by decide)) (by omega) (by omega) (by decide) ?_
        refine ar_bipush (k := 24) rfl (by decide) ?_
        refine ar_icmp_eq (k := 25) rfl (by omega) (by omega) (fun c25 => ?_) (fun c25 => ?_)
        · refine ar_aloadn (k := 28) rfl rfl ?_
          refine br_getR (k := 29) rfl (hS.k (by decide)) flR_9_12 (by decide) rfl (hS.r rfl) ?_
          refine ar_bipush (k := 30) rfl (by decide) ?_
          refine ar_iconst (k := 31) rfl ?_
          refine ar_iloadn (k := 32) rfl rfl ?_
          refine ar_imul (k := 33) rfl ?_
          refine ar_iadd (k := 34) rfl ?_
          refine ar_iloadn (k := 35) rfl rfl ?_
          refine ar_iadd (k := 36) rfl ?_
          refine br_iald (k := 37) rfl (hS.k (by decide)) (by omega) (by omega) (by decide) ?_
          refine ar_istore (k := 38) (l2 := [(4, _), (0, _), (1, _), (2, _), (3, _)]) rfl (by decide) rfl ?_
          refine ar_aloadn (k := 39) rfl rfl ?_
          refine br_getR (k := 40) rfl (hS.k (by decide)) flR_9_12 (by decide) rfl (hS.r rfl) ?_
          refine ar_bipush (k := 41) rfl (by decide) ?_
          refine ar_iconst (k := 42) rfl ?_
          refine ar_iloadn (k := 43) rfl rfl ?_
          refine ar_imul (k := 44) rfl ?_
          refine ar_iadd (k := 45) rfl ?_
          refine ar_iloadn (k := 46) rfl rfl ?_
          refine ar_iadd (k := 47) rfl ?_
          refine ar_iloadn (k := 48) rfl rfl ?_
          refine br_iast (k := 49) rfl (hS.k (by decide)) (by omega) (by omega) (by decide) ?_
          refine ar_iload (k := 50) rfl rfl ?_
          refine ar_iconst (k := 51) rfl ?_
          refine ar_icmp_ne (k := 52) rfl (by omega) (by omega) (fun c52 => ?_) (fun c52 => ?_)
          · refine ar_iload (k := 55) rfl rfl ?_
            refine ar_iret (k := 56) rfl rfl rfl (Nat.le_refl _) ?_
            unfold rs_row
            (repeat' split) <;> first
              | (exfalso; omega)
              | exact ⟨rfl, by rw [setA_id]⟩
              | exact ⟨rfl, by simp only [uI_set, setA_setA, setA_at]⟩
          · refine ar_bipush (k := 53) rfl (by decide) ?_
            refine ar_goto (k := 54) rfl ?_
            refine ar_iret (k := 56) rfl rfl rfl (Nat.le_refl _) ?_
            unfold rs_row
            (repeat' split) <;> first
              | (exfalso; omega)
              | exact ⟨rfl, by rw [setA_id]⟩
              | exact ⟨rfl, by simp only [uI_set, setA_setA, setA_at]⟩
        · refine ar_bipush (k := 26) rfl (by decide) ?_
          refine ar_iret (k := 27) rfl rfl rfl (Nat.le_refl _) ?_
          unfold rs_row
          (repeat' split) <;> first
            | (exfalso; omega)
            | exact ⟨rfl, by rw [setA_id]⟩
            | exact ⟨rfl, by simp only [uI_set, setA_setA, setA_at]⟩
      · refine ar_bipush (k := 16) rfl (by decide) ?_
        refine ar_iret (k := 17) rfl rfl rfl (Nat.le_refl _) ?_
        unfold rs_row
        (repeat' split) <;> first
          | (exfalso; omega)
          | exact ⟨rfl, by rw [setA_id]⟩
          | exact ⟨rfl, by simp only [uI_set, setA_setA, setA_at]⟩
    · refine ar_iconst (k := 9) rfl ?_
      refine ar_iret (k := 10) rfl rfl rfl (Nat.le_refl _) ?_
      unfold rs_row
      (repeat' split) <;> first
        | (exfalso; omega)
        | exact ⟨rfl, by rw [setA_id]⟩
        | exact ⟨rfl, by simp only [uI_set, setA_setA, setA_at]⟩
def rs_tool (s : Int → Int) (a : Int) (p : Int) : Int × (Int → Int) := if ¬ (0 ≤ p ∧ p ≤ s 0 - 1) then (-1, s) else if ¬ (0 ≤ a ∧ a ≤ 3) then (-2, s) else if s 1 = 10 then (-4, s) else (s 1, up (up (up (up (up s (74 + s 1) a) (84 + s 1) p) (94 + s 1) (-1)) (104 + s 1) 0) 1 (s 1 + 1))
theorem c_R_tool {a : Int} {p : Int} (hS : tSt (K, I, Q, n)) (hR : RInv (I 70)) (t_a : tr a) (t_p : tr p) : tw_F l G 3 0 0 mR_tool [vr (some 69), vi a, vi p] (K, I, Q, n) (some (vi (rs_tool (I 70) a p).1)) (K, setA I 70 (rs_tool (I 70) a p).2, Q, n) := by
  obtain ⟨h0, h1, h2, h3, h4, h5, h6, hp, hrw, ht, hr, hb, htp, hv⟩ := hR
  refine tw_intro okR_tool (Nat.le_of_ble_eq_true rfl) ?_
  refine ar_aloadn (k := 0) rfl rfl ?_
  refine ar_iloadn (k := 1) rfl rfl ?_
  refine br_callV (k := 2) (as := [_]) rfl lvR_115 (hS.k (by decide)) rfl (c_R_isPerson hS (by omega) h0) rfl (by decide) (by decide) tw_m0 (Nat.le_of_ble_eq_true rfl) ?_
  refine ar_if_ne (k := 3) rfl (by omega) (fun c3 => ?_) (fun c3 => ?_)
  · refine ar_iloadn (k := 6) rfl rfl ?_
    refine ar_iconst (k := 7) rfl ?_
    refine ar_iconst (k := 8) rfl ?_
    refine br_callS (k := 9) (as := [_, _, _]) rfl lsR_38 (c_R_in (by omega) (by omega) (by omega)) rfl (by decide) (by decide) tw_m0 (Nat.le_of_ble_eq_true rfl) ?_
    refine ar_if_ne (k := 10) rfl (by omega) (fun c10 => ?_) (fun c10 => ?_)
    · refine ar_aloadn (k := 13) rfl rfl ?_
      refine br_getR (k := 14) rfl (hS.k (by decide)) flR_9_12 (by decide) rfl (hS.r rfl) ?_
      refine ar_iconst (k := 15) rfl ?_
      refine br_iald (k := 16) rfl (hS.k (by decide)) (by omega) (by omega) (by decide) ?_
      refine ar_bipush (k := 17) rfl (by decide) ?_
      refine ar_icmp_ne (k := 18) rfl (by omega) (by omega) (fun c18 => ?_) (fun c18 => ?_)
      · refine ar_aloadn (k := 21) rfl rfl ?_
        refine br_getR (k := 22) rfl (hS.k (by decide)) flR_9_12 (by decide) rfl (hS.r rfl) ?_
        refine ar_iconst (k := 23) rfl ?_
        refine br_iald (k := 24) rfl (hS.k (by decide)) (by omega) (by omega) (by decide) ?_
        refine ar_istoren (k := 25) (l2 := [(3, _), (0, _), (1, _), (2, _)]) rfl (by decide) rfl ?_
        refine ar_aloadn (k := 26) rfl rfl ?_
        refine br_getR (k := 27) rfl (hS.k (by decide)) flR_9_12 (by decide) rfl (hS.r rfl) ?_
        refine ar_bipush (k := 28) rfl (by decide) ?_
        refine ar_iloadn (k := 29) rfl rfl ?_
        refine ar_iadd (k := 30) rfl ?_
        refine ar_iloadn (k := 31) rfl rfl ?_
        refine br_iast (k := 32) rfl (hS.k (by decide)) (by omega) (by omega) (by decide) ?_
        refine ar_aloadn (k := 33) rfl rfl ?_
        refine br_getR (k := 34) rfl (hS.k (by decide)) flR_9_12 (by decide) rfl (hS.r rfl) ?_
        refine ar_bipush (k := 35) rfl (by decide) ?_
        refine ar_iloadn (k := 36) rfl rfl ?_
        refine ar_iadd (k := 37) rfl ?_
        refine ar_iloadn (k := 38) rfl rfl ?_
        refine br_iast (k := 39) rfl (hS.k (by decide)) (by omega) (by omega) (by decide) ?_
        refine ar_aloadn (k := 40) rfl rfl ?_
        refine br_getR (k := 41) rfl (hS.k (by decide)) flR_9_12 (by decide) rfl (hS.r rfl) ?_
        refine ar_bipush (k := 42) rfl (by decide) ?_
        refine ar_iloadn (k := 43) rfl rfl ?_
        refine ar_iadd (k := 44) rfl ?_
        refine ar_iconst (k := 45) rfl ?_
        refine br_iast (k := 46) rfl (hS.k (by decide)) (by omega) (by omega) (by decide) ?_
        refine ar_aloadn (k := 47) rfl rfl ?_
        refine br_getR (k := 48) rfl (hS.k (by decide)) flR_9_12 (by decide) rfl (hS.r rfl) ?_
        refine ar_bipush (k := 49) rfl (by decide) ?_
        refine ar_iloadn (k := 50) rfl rfl ?_
        refine ar_iadd (k := 51) rfl ?_
        refine ar_iconst (k := 52) rfl ?_
        refine br_iast (k := 53) rfl (hS.k (by decide)) (by omega) (by omega) (by decide) ?_
        refine ar_aloadn (k := 54) rfl rfl ?_
        refine br_getR (k := 55) rfl (hS.k (by decide)) flR_9_12 (by decide) rfl (hS.r rfl) ?_
        refine ar_iconst (k := 56) rfl ?_
        refine ar_dup2 (k := 57) rfl rfl rfl ?_
        refine br_iald (k := 58) rfl (hS.k (by decide)) (by omega) (by omega) (by decide) ?_
        refine tw_top (y := I 70 1) (by simp only [uI_at]; omega) ?_
        refine ar_iconst (k := 59) rfl ?_
        refine ar_iadd (k := 60) rfl ?_
        refine br_iast (k := 61) rfl (hS.k (by decide)) (by omega) (by omega) (by decide) ?_
        refine ar_iloadn (k := 62) rfl rfl ?_
        refine ar_iret (k := 63) rfl rfl rfl (Nat.le_refl _) ?_
        unfold rs_tool
        (repeat' split) <;> first
          | (exfalso; omega)
          | exact ⟨rfl, by rw [setA_id]⟩
          | exact ⟨rfl, by simp only [uI_set, setA_setA, setA_at]⟩
      · refine ar_bipush (k := 19) rfl (by decide) ?_
        refine ar_iret (k := 20) rfl rfl rfl (Nat.le_refl _) ?_
        unfold rs_tool
        (repeat' split) <;> first
          | (exfalso; omega)
          | exact ⟨rfl, by rw [setA_id]⟩
          | exact ⟨rfl, by simp only [uI_set, setA_setA, setA_at]⟩
    · refine ar_bipush (k := 11) rfl (by decide) ?_
      refine ar_iret (k := 12) rfl rfl rfl (Nat.le_refl _) ?_
      unfold rs_tool
      (repeat' split) <;> first
        | (exfalso; omega)
        | exact ⟨rfl, by rw [setA_id]⟩
        | exact ⟨rfl, by simp only [uI_set, setA_setA, setA_at]⟩
  · refine ar_iconst (k := 4) rfl ?_
    refine ar_iret (k := 5) rfl rfl rfl (Nat.le_refl _) ?_
    unfold rs_tool
    (repeat' split) <;> first
      | (exfalso; omega)
      | exact ⟨rfl, by rw [setA_id]⟩
      | exact ⟨rfl, by simp only [uI_set, setA_setA, setA_at]⟩
def rs_broken (s : Int → Int) (t : Int) (b : Int) : Int × (Int → Int) := if ¬ (0 ≤ t ∧ t ≤ s 1 - 1) then (-1, s) else (s (104 + t), up s (104 + t) (if b = 0 then 0 else 1))
theorem c_R_broken {t : Int} {b : Int} (hS : tSt (K, I, Q, n)) (hR : RInv (I 70)) (t_t : tr t) (t_b : tr b) : tw_F l G 3 0 0 mR_broken [vr (some 69), vi t, vi b] (K, I, Q, n) (some (vi (rs_broken (I 70) t b).1)) (K, setA I 70 (rs_broken (I 70) t b).2, Q, n) := by
  obtain ⟨h0, h1, h2, h3, h4, h5, h6, hp, hrw, ht, hr, hb, htp, hv⟩ := hR
  refine tw_intro okR_broken (Nat.le_of_ble_eq_true rfl) ?_
  refine ar_aloadn (k := 0) rfl rfl ?_
  refine ar_iloadn (k := 1) rfl rfl ?_
  refine br_callV (k := 2) (as := [_]) rfl lvR_120 (hS.k (by decide)) rfl (c_R_isTool hS (by omega) h1) rfl (by decide) (by decide) tw_m0 (Nat.le_of_ble_eq_true rfl) ?_
  refine ar_if_ne (k := 3) rfl (by omega) (fun c3 => ?_) (fun c3 => ?_)
  · refine ar_aloadn (k := 6) rfl rfl ?_
    refine br_getR (k := 7) rfl (hS.k (by decide)) flR_9_12 (by decide) rfl (hS.r rfl) ?_
    refine ar_bipush (k := 8) rfl (by decide) ?_
    refine ar_iloadn (k := 9) rfl rfl ?_
    refine ar_iadd (k := 10) rfl ?_
    refine br_iald (k := 11) rfl (hS.k (by decide)) (by omega) (by omega) (by decide) ?_
    refine ar_istoren (k := 12) (l2 := [(3, _), (0, _), (1, _), (2, _)]) rfl (by decide) rfl ?_
    refine ar_aloadn (k := 13) rfl rfl ?_
    refine br_getR (k := 14) rfl (hS.k (by decide)) flR_9_12 (by decide) rfl (hS.r rfl) ?_
    refine ar_bipush (k := 15) rfl (by decide) ?_
    refine ar_iloadn (k := 16) rfl rfl ?_
    refine ar_iadd (k := 17) rfl ?_
    refine ar_iloadn (k := 18) rfl rfl ?_
    refine ar_if_eq (k := 19) rfl (by omega) (fun c19 => ?_) (fun c19 => ?_)
    · refine ar_iconst (k := 22) rfl ?_
      refine br_iast (k := 23) rfl (hS.k (by decide)) (by omega) (by omega) (by decide) ?_
      refine ar_iloadn (k := 24) rfl rfl ?_
      refine ar_iret (k := 25) rfl rfl rfl (Nat.le_refl _) ?_
      unfold rs_broken
      (repeat' split) <;> first
        | (exfalso; omega)
        | exact ⟨rfl, by rw [setA_id]⟩
        | exact ⟨rfl, by simp only [uI_set, setA_setA, setA_at]⟩
    · refine ar_iconst (k := 20) rfl ?_
      refine ar_goto (k := 21) rfl ?_
      refine br_iast (k := 23) rfl (hS.k (by decide)) (by omega) (by omega) (by decide) ?_
      refine ar_iloadn (k := 24) rfl rfl ?_
      refine ar_iret (k := 25) rfl rfl rfl (Nat.le_refl _) ?_
      unfold rs_broken
      (repeat' split) <;> first
        | (exfalso; omega)
        | exact ⟨rfl, by rw [setA_id]⟩
        | exact ⟨rfl, by simp only [uI_set, setA_setA, setA_at]⟩
  · refine ar_iconst (k := 4) rfl ?_
    refine ar_iret (k := 5) rfl rfl rfl (Nat.le_refl _) ?_
    unfold rs_broken
    (repeat' split) <;> first
      | (exfalso; omega)
      | exact ⟨rfl, by rw [setA_id]⟩
      | exact ⟨rfl, by simp only [uI_set, setA_setA, setA_at]⟩
def rs_give (s : Int → Int) (t : Int) (p : Int) : Int × (Int → Int) := if ¬ (0 ≤ t ∧ t ≤ s 1 - 1 ∧ 0 ≤ p ∧ p ≤ s 0 - 1) then (-1, s) else (s (84 + t), up s (84 + t) p)
theorem c_R_give {t : Int} {p : Int} (hS : tSt (K, I, Q, n)) (hR : RInv (I 70)) (t_t : tr t) (t_p : tr p) : tw_F l G 3 0 0 mR_give [vr (some 69), vi t, vi p] (K, I, Q, n) (some (vi (rs_give (I 70) t p).1)) (K, setA I 70 (rs_give (I 70) t p).2, Q, n) := by
  obtain ⟨h0, h1, h2, h3, h4, h5, h6, hp, hrw, ht, hr, hb, htp, hv⟩ := hR
  refine tw_intro okR_give (Nat.le_of_ble_eq_true rfl) ?_
  refine ar_aloadn (k := 0) rfl rfl ?_
  refine ar_iloadn (k := 1) rfl rfl ?_
  refine br_callV (k := 2) (as := [_]) rfl lvR_120 (hS.k (by decide)) rfl (c_R_isTool hS (by omega) h1) rfl (by decide) (by decide) tw_m0 (Nat.le_of_ble_eq_true rfl) ?_
  refine ar_if_eq (k := 3) rfl (by omega) (fun c3 => ?_) (fun c3 => ?_)
  · refine ar_iconst (k := 8) rfl ?_
    refine ar_iret (k := 9) rfl rfl rfl (Nat.le_refl _) ?_
    unfold rs_give
    (repeat' split) <;> first
      | (exfalso; omega)
      | exact ⟨rfl, by rw [setA_id]⟩
      | exact ⟨rfl, by simp only [uI_set, setA_setA, setA_at]⟩
  · refine ar_aloadn (k := 4) rfl rfl ?_
    refine ar_iloadn (k := 5) rfl rfl ?_
    refine br_callV (k := 6) (as := [_]) rfl lvR_115 (hS.k (by decide)) rfl (c_R_isPerson hS (by omega) h0) rfl (by decide) (by decide) tw_m0 (Nat.le_of_ble_eq_true rfl) ?_
    refine ar_if_ne (k := 7) rfl (by omega) (fun c7 => ?_) (fun c7 => ?_)
    · refine ar_aloadn (k := 10) rfl rfl ?_
      refine br_getR (k := 11) rfl (hS.k (by decide)) flR_9_12 (by decide) rfl (hS.r rfl) ?_
      refine ar_bipush (k := 12) rfl (by decide) ?_
      refine ar_iloadn (k := 13) rfl rfl ?_
      refine ar_iadd (k := 14) rfl ?_
      refine br_iald (k := 15) rfl (hS.k (by decide)) (by omega) (by omega) (by decide) ?_
      refine ar_istoren (k := 16) (l2 := [(3, _), (0, _), (1, _), (2, _)]) rfl (by decide) rfl ?_
      refine ar_aloadn (k := 17) rfl rfl ?_
      refine br_getR (k := 18) rfl (hS.k (by decide)) flR_9_12 (by decide) rfl (hS.r rfl) ?_
      refine ar_bipush (k := 19) rfl (by decide) ?_
      refine ar_iloadn (k := 20) rfl rfl ?_
      refine ar_iadd (k := 21) rfl ?_
      refine ar_iloadn (k := 22) rfl rfl ?_
      refine br_iast (k := 23) rfl (hS.k (by decide)) (by omega) (by omega) (by decide) ?_
      refine ar_iloadn (k := 24) rfl rfl ?_
      refine ar_iret (k := 25) rfl rfl rfl (Nat.le_refl _) ?_
      unfold rs_give
      (repeat' split) <;> first
        | (exfalso; omega)
        | exact ⟨rfl, by rw [setA_id]⟩
        | exact ⟨rfl, by simp only [uI_set, setA_setA, setA_at]⟩
    · refine ar_iconst (k := 8) rfl ?_
      refine ar_iret (k := 9) rfl rfl rfl (Nat.le_refl _) ?_
      unfold rs_give
      (repeat' split) <;> first
        | (exfalso; omega)
        | exact ⟨rfl, by rw [setA_id]⟩
        | exact ⟨rfl, by simp only [uI_set, setA_setA, setA_at]⟩
def rs_trial (s : Int → Int) (a : Int) (b : Int) (w : Int) : Int × (Int → Int) := if ¬ (0 ≤ a ∧ a ≤ s 1 - 1 ∧ 0 ≤ b ∧ b ≤ s 1 - 1) then (-1, s) else if a = b then (-2, s) else if s 3 = 12 then (-4, s) else (s 3 + 1, up (up (up (up s (114 + s 3) a) (126 + s 3) b) (138 + s 3) (if w = 0 then 0 else 1)) 3 (s 3 + 1))
theorem c_R_trial {a : Int} {b : Int} {w : Int} (hS : tSt (K, I, Q, n)) (hR : RInv (I 70)) (t_a : tr a) (t_b : tr b) (t_w : tr w) : tw_F l G 3 0 0 mR_trial [vr (some 69), vi a, vi b, vi w] (K, I, Q, n) (some (vi (rs_trial (I 70) a b w).1)) (K, setA I 70 (rs_trial (I 70) a b w).2, Q, n) := by
  obtain ⟨h0, h1, h2, h3, h4, h5, h6, hp, hrw, ht, hr, hb, htp, hv⟩ := hR
  refine tw_intro okR_trial (Nat.le_of_ble_eq_true rfl) ?_
  refine ar_aloadn (k := 0) rfl rfl ?_
  refine ar_iloadn (k := 1) rfl rfl ?_
  refine br_callV (k := 2) (as := [_]) rfl lvR_120 (hS.k (by decide)) rfl (c_R_isTool hS (by omega) h1) rfl (by decide) (by decide) tw_m0 (Nat.le_of_ble_eq_true rfl) ?_
  refine ar_if_eq (k := 3) rfl (by omega) (fun c3 => ?_) (fun c3 => ?_)
  · refine ar_iconst (k := 8) rfl ?_
    refine ar_iret (k := 9) rfl rfl rfl (Nat.le_refl _) ?_
    unfold rs_trial
    (repeat' split) <;> first
      | (exfalso; omega)
      | exact ⟨rfl, by rw [setA_id]⟩
      | exact ⟨rfl, by simp only [uI_set, setA_setA, setA_at]⟩
  · refine ar_aloadn (k := 4) rfl rfl ?_
    refine ar_iloadn (k := 5) rfl rfl ?_
    refine br_callV (k := 6) (as := [_]) rfl lvR_120 (hS.k (by decide)) rfl (c_R_isTool hS (by omega) h1) rfl (by decide) (by decide) tw_m0 (Nat.le_of_ble_eq_true rfl) ?_
    refine ar_if_ne (k := 7) rfl (by omega) (fun c7 => ?_) (fun c7 => ?_)
    · refine ar_iloadn (k := 10) rfl rfl ?_
      refine ar_iloadn (k := 11) rfl rfl ?_
      refine ar_icmp_ne (k := 12) rfl (by omega) (by omega) (fun c12 => ?_) (fun c12 => ?_)
      · refine ar_aloadn (k := 15) rfl rfl ?_
        refine br_getR (k := 16) rfl (hS.k (by decide)) flR_9_12 (by decide) rfl (hS.r rfl) ?_
        refine ar_iconst (k := 17) rfl ?_
        refine br_iald (k := 18) rfl (hS.k (by decide)) (by omega) (by omega) (by decide) ?_
        refine ar_bipush (k := 19) rfl (by decide) ?_
        refine ar_icmp_ne (k := 20) rfl (by omega) (by omega) (fun c20 => ?_) (fun c20 => ?_)
        · refine ar_aloadn (k := 23) rfl rfl ?_
          refine br_getR (k := 24) rfl (hS.k (by decide)) flR_9_12 (by decide) rfl (hS.r rfl) ?_
          refine ar_iconst (k := 25) rfl ?_
          refine br_iald (k := 26) rfl (hS.k (by decide)) (by omega) (by omega) (by decide) ?_
          refine ar_istore (k := 27) (l2 := [(4, _), (0, _), (1, _), (2, _), (3, _)]) rfl (by decide) rfl ?_
          refine ar_aloadn (k := 28) rfl rfl ?_
          refine br_getR (k := 29) rfl (hS.k (by decide)) flR_9_12 (by decide) rfl (hS.r rfl) ?_
          refine ar_bipush (k := 30) rfl (by decide) ?_
          refine ar_iload (k := 31) rfl rfl ?_
          refine ar_iadd (k := 32) rfl ?_
          refine ar_iloadn (k := 33) rfl rfl ?_
          refine br_iast (k := 34) rfl (hS.k (by decide)) (by omega) (by omega) (by decide) ?_
          refine ar_aloadn (k := 35) rfl rfl ?_
          refine br_getR (k := 36) rfl (hS.k (by decide)) flR_9_12 (by decide) rfl (hS.r rfl) ?_
          refine ar_bipush (k := 37) rfl (by decide) ?_
          refine ar_iload (k := 38) rfl rfl ?_
          refine ar_iadd (k := 39) rfl ?_
          refine ar_iloadn (k := 40) rfl rfl ?_
          refine br_iast (k := 41) rfl (hS.k (by decide)) (by omega) (by omega) (by decide) ?_
          refine ar_aloadn (k := 42) rfl rfl ?_
          refine br_getR (k := 43) rfl (hS.k (by decide)) flR_9_12 (by decide) rfl (hS.r rfl) ?_
          refine ar_sipush (k := 44) rfl (by decide) ?_
          refine ar_iload (k := 45) rfl rfl ?_
          refine ar_iadd (k := 46) rfl ?_
          refine ar_iloadn (k := 47) rfl rfl ?_
          refine ar_if_eq (k := 48) rfl (by omega) (fun c48 => ?_) (fun c48 => ?_)
          · refine ar_iconst (k := 51) rfl ?_
            refine br_iast (k := 52) rfl (hS.k (by decide)) (by omega) (by omega) (by decide) ?_
            refine ar_aloadn (k := 53) rfl rfl ?_
            refine br_getR (k := 54) rfl (hS.k (by decide)) flR_9_12 (by decide) rfl (hS.r rfl) ?_
            refine ar_iconst (k := 55) rfl ?_
            refine ar_dup2 (k := 56) rfl rfl rfl ?_
            refine br_iald (k := 57) rfl (hS.k (by decide)) (by omega) (by omega) (by decide) ?_
            refine tw_top (y := I 70 3) (by simp only [uI_at]; omega) ?_
            refine ar_iconst (k := 58) rfl ?_
            refine ar_iadd (k := 59) rfl ?_
            refine br_iast (k := 60) rfl (hS.k (by decide)) (by omega) (by omega) (by decide) ?_
            refine ar_aloadn (k := 61) rfl rfl ?_
            refine br_getR (k := 62) rfl (hS.k (by decide)) flR_9_12 (by decide) rfl (hS.r rfl) ?_
            refine ar_iconst (k := 63) rfl ?_
            refine br_iald (k := 64) rfl (hS.k (by decide)) (by omega) (by omega) (by decide) ?_
            refine tw_top (y := I 70 3 + 1) (by rw [uI_at, if_pos rfl]) ?_
            refine ar_iret (k := 65) rfl rfl rfl (Nat.le_refl _) ?_
            unfold rs_trial
            (repeat' split) <;> first
              | (exfalso; omega)
              | exact ⟨rfl, by rw [setA_id]⟩
              | exact ⟨rfl, by simp only [uI_set, setA_setA, setA_at]⟩
          · refine ar_iconst (k := 49) rfl ?_
            refine ar_goto (k := 50) rfl ?_
            refine br_iast (k := 52) rfl (hS.k (by decide)) (by omega) (by omega) (by decide) ?_
            refine ar_aloadn (k := 53) rfl rfl ?_
            refine br_getR (k := 54) rfl (hS.k (by decide)) flR_9_12 (by decide) rfl (hS.r rfl) ?_
            refine ar_iconst (k := 55) rfl ?_
            refine ar_dup2 (k := 56) rfl rfl rfl ?_
            refine br_iald (k := 57) rfl (hS.k (by decide)) (by omega) (by omega) (by decide) ?_
            refine tw_top (y := I 70 3) (by simp only [uI_at]; omega) ?_
            refine ar_iconst (k := 58) rfl ?_
            refine ar_iadd (k := 59) rfl ?_
            refine br_iast (k := 60) rfl (hS.k (by decide)) (by omega) (by omega) (by decide) ?_
            refine ar_aloadn (k := 61) rfl rfl ?_
            refine br_getR (k := 62) rfl (hS.k (by decide)) flR_9_12 (by decide) rfl (hS.r rfl) ?_
            refine ar_iconst (k := 63) rfl ?_
            refine br_iald (k := 64) rfl (hS.k (by decide)) (by omega) (by omega) (by decide) ?_
            refine tw_top (y := I 70 3 + 1) (by rw [uI_at, if_pos rfl]) ?_
            refine ar_iret (k := 65) rfl rfl rfl (Nat.le_refl _) ?_
            unfold rs_trial
            (repeat' split) <;> first
              | (exfalso; omega)
              | exact ⟨rfl, by rw [setA_id]⟩
              | exact ⟨rfl, by simp only [uI_set, setA_setA, setA_at]⟩
        · refine ar_bipush (k := 21) rfl (by decide) ?_
          refine ar_iret (k := 22) rfl rfl rfl (Nat.le_refl _) ?_
          unfold rs_trial
          (repeat' split) <;> first
            | (exfalso; omega)
            | exact ⟨rfl, by rw [setA_id]⟩
            | exact ⟨rfl, by simp only [uI_set, setA_setA, setA_at]⟩
      · refine ar_bipush (k := 13) rfl (by decide) ?_
        refine ar_iret (k := 14) rfl rfl rfl (Nat.le_refl _) ?_
        unfold rs_trial
        (repeat' split) <;> first
          | (exfalso; omega)
          | exact ⟨rfl, by rw [setA_id]⟩
          | exact ⟨rfl, by simp only [uI_set, setA_setA, setA_at]⟩
    · refine ar_iconst (k := 8) rfl ?_
      refine ar_iret (k := 9) rfl rfl rfl (Nat.le_refl _) ?_
      unfold rs_trial
      (repeat' split) <;> first
        | (exfalso; omega)
        | exact ⟨rfl, by rw [setA_id]⟩
        | exact ⟨rfl, by simp only [uI_set, setA_setA, setA_at]⟩
def rs_clear (s : Int → Int)  : Int × (Int → Int) := (s 3, up s 3 0)
theorem c_R_clear  (hS : tSt (K, I, Q, n)) (hR : RInv (I 70))  : tw_F l G 1 0 0 mR_clear [vr (some 69)] (K, I, Q, n) (some (vi (rs_clear (I 70)).1)) (K, setA I 70 (rs_clear (I 70)).2, Q, n) := by
  obtain ⟨h0, h1, h2, h3, h4, h5, h6, hp, hrw, ht, hr, hb, htp, hv⟩ := hR
  refine tw_intro okR_clear (Nat.le_of_ble_eq_true rfl) ?_
  refine ar_aloadn (k := 0) rfl rfl ?_
  refine br_getR (k := 1) rfl (hS.k (by decide)) flR_9_12 (by decide) rfl (hS.r rfl) ?_
  refine ar_iconst (k := 2) rfl ?_
  refine br_iald (k := 3) rfl (hS.k (by decide)) (by omega) (by omega) (by decide) ?_
  refine ar_istoren (k := 4) (l2 := [(1, _), (0, _)]) rfl (by decide) rfl ?_
  refine ar_aloadn (k := 5) rfl rfl ?_
  refine br_getR (k := 6) rfl (hS.k (by decide)) flR_9_12 (by decide) rfl (hS.r rfl) ?_
  refine ar_iconst (k := 7) rfl ?_
  refine ar_iconst (k := 8) rfl ?_
  refine br_iast (k := 9) rfl (hS.k (by decide)) (by omega) (by omega) (by decide) ?_
  refine ar_iloadn (k := 10) rfl rfl ?_
  refine ar_iret (k := 11) rfl rfl rfl (Nat.le_refl _) ?_
  unfold rs_clear
  (repeat' split) <;> first
    | (exfalso; omega)
    | exact ⟨rfl, by rw [setA_id]⟩
    | exact ⟨rfl, by simp only [uI_set, setA_setA, setA_at]⟩
def rs_book (s : Int → Int) (u : Int) (t : Int) : Int × (Int → Int) := if ¬ (0 ≤ u ∧ u ≤ 23 ∧ 0 ≤ t ∧ t ≤ s 1 - 1) then (-1, s) else if s 4 = 12 then (-4, s) else (s 4 + 1, up (up (up s (150 + s 4) u) (162 + s 4) t) 4 (s 4 + 1))
theorem c_R_book {u : Int} {t : Int} (hS : tSt (K, I, Q, n)) (hR : RInv (I 70)) (t_u : tr u) (t_t : tr t) : tw_F l G 3 0 0 mR_book [vr (some 69), vi u, vi t] (K, I, Q, n) (some (vi (rs_book (I 70) u t).1)) (K, setA I 70 (rs_book (I 70) u t).2, Q, n) := by
  obtain ⟨h0, h1, h2, h3, h4, h5, h6, hp, hrw, ht, hr, hb, htp, hv⟩ := hR
  refine tw_intro okR_book (Nat.le_of_ble_eq_true rfl) ?_
  refine ar_iloadn (k := 0) rfl rfl ?_
  refine br_callS (k := 1) (as := [_]) rfl lsR_130 (c_R_isHour (by omega)) rfl (by decide) (by decide) tw_m0 (Nat.le_of_ble_eq_true rfl) ?_
  refine ar_if_eq (k := 2) rfl (by omega) (fun c2 => ?_) (fun c2 => ?_)
  · refine ar_iconst (k := 7) rfl ?_
    refine ar_iret (k := 8) rfl rfl rfl (Nat.le_refl _) ?_
    unfold rs_book
    (repeat' split) <;> first
      | (exfalso; omega)
      | exact ⟨rfl, by rw [setA_id]⟩
      | exact ⟨rfl, by simp only [uI_set, setA_setA, setA_at]⟩
  · refine ar_aloadn (k := 3) rfl rfl ?_
    refine ar_iloadn (k := 4) rfl rfl ?_
    refine br_callV (k := 5) (as := [_]) rfl lvR_120 (hS.k (by decide)) rfl (c_R_isTool hS (by omega) h1) rfl (by decide) (by decide) tw_m0 (Nat.le_of_ble_eq_true rfl) ?_
    refine ar_if_ne (k := 6) rfl (by omega) (fun c6 => ?_) (fun c6 => ?_)
    · refine ar_aloadn (k := 9) rfl rfl ?_
      refine br_getR (k := 10) rfl (hS.k (by decide)) flR_9_12 (by decide) rfl (hS.r rfl) ?_
      refine ar_iconst (k := 11) rfl ?_
      refine br_iald (k := 12) rfl (hS.k (by decide)) (by omega) (by omega) (by decide) ?_
      refine ar_bipush (k := 13) rfl (by decide) ?_
      refine ar_icmp_ne (k := 14) rfl (by omega) (by omega) (fun c14 => ?_) (fun c14 => ?_)
      · refine ar_aloadn (k := 17) rfl rfl ?_
        refine br_getR (k := 18) rfl (hS.k (by decide)) flR_9_12 (by decide) rfl (hS.r rfl) ?_
        refine ar_sipush (k := 19) rfl (by decide) ?_
        refine ar_aloadn (k := 20) rfl rfl ?_
        refine br_getR (k := 21) rfl (hS.k (by decide)) flR_9_12 (by decide) rfl (hS.r rfl) ?_
        refine ar_iconst (k := 22) rfl ?_
        refine br_iald (k := 23) rfl (hS.k (by decide)) (by omega) (by omega) (by decide) ?_
        refine ar_iadd (k := 24) rfl ?_
        refine ar_iloadn (k := 25) rfl rfl ?_
        refine br_iast (k := 26) rfl (hS.k (by decide)) (by omega) (by omega) (by decide) ?_
        refine ar_aloadn (k := 27) rfl rfl ?_
        refine br_getR (k := 28) rfl (hS.k (by decide)) flR_9_12 (by decide) rfl (hS.r rfl) ?_
        refine ar_sipush (k := 29) rfl (by decide) ?_
        refine ar_aloadn (k := 30) rfl rfl ?_
        refine br_getR (k := 31) rfl (hS.k (by decide)) flR_9_12 (by decide) rfl (hS.r rfl) ?_
        refine ar_iconst (k := 32) rfl ?_
        refine br_iald (k := 33) rfl (hS.k (by decide)) (by omega) (by omega) (by decide) ?_
        refine tw_top (y := I 70 4) (by simp only [uI_at]; omega) ?_
        refine ar_iadd (k := 34) rfl ?_
        refine ar_iloadn (k := 35) rfl rfl ?_
        refine br_iast (k := 36) rfl (hS.k (by decide)) (by omega) (by omega) (by decide) ?_
        refine ar_aloadn (k := 37) rfl rfl ?_
        refine br_getR (k := 38) rfl (hS.k (by decide)) flR_9_12 (by decide) rfl (hS.r rfl) ?_
        refine ar_iconst (k := 39) rfl ?_
        refine ar_dup2 (k := 40) rfl rfl rfl ?_
        refine br_iald (k := 41) rfl (hS.k (by decide)) (by omega) (by omega) (by decide) ?_
        refine tw_top (y := I 70 4) (by simp only [uI_at]; omega) ?_
        refine ar_iconst (k := 42) rfl ?_
        refine ar_iadd (k := 43) rfl ?_
        refine br_iast (k := 44) rfl (hS.k (by decide)) (by omega) (by omega) (by decide) ?_
        refine ar_aloadn (k := 45) rfl rfl ?_
        refine br_getR (k := 46) rfl (hS.k (by decide)) flR_9_12 (by decide) rfl (hS.r rfl) ?_
        refine ar_iconst (k := 47) rfl ?_
        refine br_iald (k := 48) rfl (hS.k (by decide)) (by omega) (by omega) (by decide) ?_
        refine tw_top (y := I 70 4 + 1) (by rw [uI_at, if_pos rfl]) ?_
        refine ar_iret (k := 49) rfl rfl rfl (Nat.le_refl _) ?_
        unfold rs_book
        (repeat' split) <;> first
          | (exfalso; omega)
          | exact ⟨rfl, by rw [setA_id]⟩
          | exact ⟨rfl, by simp only [uI_set, setA_setA, setA_at]⟩
      · refine ar_bipush (k := 15) rfl (by decide) ?_
        refine ar_iret (k := 16) rfl rfl rfl (Nat.le_refl _) ?_
        unfold rs_book
        (repeat' split) <;> first
          | (exfalso; omega)
          | exact ⟨rfl, by rw [setA_id]⟩
          | exact ⟨rfl, by simp only [uI_set, setA_setA, setA_at]⟩
    · refine ar_iconst (k := 7) rfl ?_
      refine ar_iret (k := 8) rfl rfl rfl (Nat.le_refl _) ?_
      unfold rs_book
      (repeat' split) <;> first
        | (exfalso; omega)
        | exact ⟨rfl, by rw [setA_id]⟩
        | exact ⟨rfl, by simp only [uI_set, setA_setA, setA_at]⟩
theorem c_R_isUnder {h : tH} {a b : Int} (ta : tr a) (tb : -100 ≤ b ∧ b ≤ 100) : tw_F l G 1 0 0 mR_isUnder [vi a, vi b] h (some (vi (if b = 0 ∨ b = a ∨ (0 < b ∧ b < 4 ∧ a = b + 3) then 1 else 0))) h := by
  refine tw_intro okR_isUnder (Nat.le_of_ble_eq_true rfl) ?_
  refine ar_iloadn (k := 0) rfl rfl ?_
  refine ar_if_eq (k := 1) rfl (by omega) (fun c1 => ?_) (fun c1 => ?_)
  · refine ar_iconst (k := 15) rfl ?_
    refine ar_goto (k := 16) rfl ?_
    refine ar_zret (k := 18) rfl rfl (by omega) rfl (Nat.le_refl _) ?_
    exact ⟨congrArg (fun z => some (vi z)) (by omega), rfl⟩
  · refine ar_iloadn (k := 2) rfl rfl ?_
    refine ar_iloadn (k := 3) rfl rfl ?_
    refine ar_icmp_eq (k := 4) rfl (by omega) (by omega) (fun c4 => ?_) (fun c4 => ?_)
    · refine ar_iconst (k := 15) rfl ?_
      refine ar_goto (k := 16) rfl ?_
      refine ar_zret (k := 18) rfl rfl (by omega) rfl (Nat.le_refl _) ?_
      exact ⟨congrArg (fun z => some (vi z)) (by omega), rfl⟩
    · refine ar_iloadn (k := 5) rfl rfl ?_
      refine ar_if_le (k := 6) rfl (by omega) (fun c6 => ?_) (fun c6 => ?_)
      · refine ar_iconst (k := 17) rfl ?_
        refine ar_zret (k := 18) rfl rfl (by omega) rfl (Nat.le_refl _) ?_
        exact ⟨congrArg (fun z => some (vi z)) (by omega), rfl⟩
      · refine ar_iloadn (k := 7) rfl rfl ?_
        refine ar_iconst (k := 8) rfl ?_
        refine ar_icmp_ge (k := 9) rfl (by omega) (by omega) (fun c9 => ?_) (fun c9 => ?_)
        · refine ar_iconst (k := 17) rfl ?_
          refine ar_zret (k := 18) rfl rfl (by omega) rfl (Nat.le_refl _) ?_
          exact ⟨congrArg (fun z => some (vi z)) (by omega), rfl⟩
        · refine ar_iloadn (k := 10) rfl rfl ?_
          refine ar_iloadn (k := 11) rfl rfl ?_
          refine ar_iconst (k := 12) rfl ?_
          refine ar_iadd (k := 13) rfl ?_
          refine ar_icmp_ne (k := 14) rfl (by omega) (by omega) (fun c14 => ?_) (fun c14 => ?_)
          · refine ar_iconst (k := 17) rfl ?_
            refine ar_zret (k := 18) rfl rfl (by omega) rfl (Nat.le_refl _) ?_
            exact ⟨congrArg (fun z => some (vi z)) (by omega), rfl⟩
          · refine ar_iconst (k := 15) rfl ?_
            refine ar_goto (k := 16) rfl ?_
            refine ar_zret (k := 18) rfl rfl (by omega) rfl (Nat.le_refl _) ?_
            exact ⟨congrArg (fun z => some (vi z)) (by omega), rfl⟩
def rs_as (s : Int → Int) (p : Int) (b : Int) : Int × (Int → Int) := if ¬ (0 ≤ p ∧ p ≤ s 0 - 1 ∧ 0 ≤ b ∧ b ≤ 6) then (-1, s) else (if b = 0 ∨ b = s (10 + p) ∨ (0 < b ∧ b < 4 ∧ s (10 + p) = b + 3) then s (18 + p) else -6, s)
theorem c_R_as {p : Int} {b : Int} (hS : tSt (K, I, Q, n)) (hR : RInv (I 70)) (t_p : tr p) (t_b : tr b) : tw_F l G 3 0 0 mR_as [vr (some 69), vi p, vi b] (K, I, Q, n) (some (vi (rs_as (I 70) p b).1)) (K, setA I 70 (rs_as (I 70) p b).2, Q, n) := by
  obtain ⟨h0, h1, h2, h3, h4, h5, h6, hp, hrw, ht, hr, hb, htp, hv⟩ := hR
  refine tw_intro okR_as (Nat.le_of_ble_eq_true rfl) ?_
  refine ar_aloadn (k := 0) rfl rfl ?_
  refine ar_iloadn (k := 1) rfl rfl ?_
  refine br_callV (k := 2) (as := [_]) rfl lvR_115 (hS.k (by decide)) rfl (c_R_isPerson hS (by omega) h0) rfl (by decide) (by decide) tw_m0 (Nat.le_of_ble_eq_true rfl) ?_
  refine ar_if_eq (k := 3) rfl (by omega) (fun c3 => ?_) (fun c3 => ?_)
  · refine ar_iconst (k := 9) rfl ?_
    refine ar_iret (k := 10) rfl rfl rfl (Nat.le_refl _) ?_
    unfold rs_as
    (repeat' split) <;> first
      | (exfalso; omega)
      | exact ⟨rfl, by rw [setA_id]⟩
      | exact ⟨rfl, by simp only [uI_set, setA_setA, setA_at]⟩
  · refine ar_iloadn (k := 4) rfl rfl ?_
    refine ar_iconst (k := 5) rfl ?_
    refine ar_bipush (k := 6) rfl (by decide) ?_
    refine br_callS (k := 7) (as := [_, _, _]) rfl lsR_38 (c_R_in (by omega) (by omega) (by omega)) rfl (by decide) (by decide) tw_m0 (Nat.le_of_ble_eq_true rfl) ?_
    refine ar_if_ne (k := 8) rfl (by omega) (fun c8 => ?_) (fun c8 => ?_)
    · have hk := hp p (by omega) (by omega)
      refine ar_aloadn (k := 11) rfl rfl ?_
      refine br_getR (k := 12) rfl (hS.k (by decide)) flR_9_12 (by decide) rfl (hS.r rfl) ?_
      refine ar_bipush (k := 13) rfl (by decide) ?_
      refine ar_iloadn (k := 14) rfl rfl ?_
      refine ar_iadd (k := 15) rfl ?_
      refine br_iald (k := 16) rfl (hS.k (by decide)) (by omega) (by omega) (by decide) ?_
      refine ar_iloadn (k := 17) rfl rfl ?_
      refine br_callS (k := 18) (as := [_, _]) rfl lsR_245 (c_R_isUnder (by omega) (by omega)) rfl (by decide) (by decide) tw_m0 (Nat.le_of_ble_eq_true rfl) ?_
      refine ar_if_eq (k := 19) rfl (by omega) (fun c19 => ?_) (fun c19 => ?_)
      · refine ar_bipush (k := 27) rfl (by decide) ?_
        refine ar_iret (k := 28) rfl rfl rfl (Nat.le_refl _) ?_
        unfold rs_as
        (repeat' split) <;> first
          | (exfalso; omega)
          | exact ⟨rfl, by rw [setA_id]⟩
          | exact ⟨rfl, by simp only [uI_set, setA_setA, setA_at]⟩
      · refine ar_aloadn (k := 20) rfl rfl ?_
        refine br_getR (k := 21) rfl (hS.k (by decide)) flR_9_12 (by decide) rfl (hS.r rfl) ?_
        refine ar_bipush (k := 22) rfl (by decide) ?_
        refine ar_iloadn (k := 23) rfl rfl ?_
        refine ar_iadd (k := 24) rfl ?_
        refine br_iald (k := 25) rfl (hS.k (by decide)) (by omega) (by omega) (by decide) ?_
        refine ar_goto (k := 26) rfl ?_
        refine ar_iret (k := 28) rfl rfl rfl (Nat.le_refl _) ?_
        unfold rs_as
        (repeat' split) <;> first
          | (exfalso; omega)
          | exact ⟨rfl, by rw [setA_id]⟩
          | exact ⟨rfl, by simp only [uI_set, setA_setA, setA_at]⟩
    · refine ar_iconst (k := 9) rfl ?_
      refine ar_iret (k := 10) rfl rfl rfl (Nat.le_refl _) ?_
      unfold rs_as
      (repeat' split) <;> first
        | (exfalso; omega)
        | exact ⟨rfl, by rw [setA_id]⟩
        | exact ⟨rfl, by simp only [uI_set, setA_setA, setA_at]⟩
def rs_count (s : Int → Int) (w : Int) : Int × (Int → Int) := (if w = 0 then s 0 else if w = 1 then s 1 else if w = 2 then s 2 else if w = 3 then s 3 else if w = 4 then s 4 else if w = 5 then s 5 else -1, s)
theorem c_R_count {w : Int} (hS : tSt (K, I, Q, n)) (hR : RInv (I 70)) (t_w : tr w) (hw : w ≠ 6) : tw_F l G 1 0 0 mR_count [vr (some 69), vi w] (K, I, Q, n) (some (vi (rs_count (I 70) w).1)) (K, setA I 70 (rs_count (I 70) w).2, Q, n) := by
  obtain ⟨h0, h1, h2, h3, h4, h5, h6, hp, hrw, ht, hr, hb, htp, hv⟩ := hR
  refine tw_intro okR_count (Nat.le_of_ble_eq_true rfl) ?_
  refine ar_iloadn (k := 0) rfl rfl ?_
  rcases (show w = 0 ∨ w = 1 ∨ w = 2 ∨ w = 3 ∨ w = 4 ∨ w = 5 ∨ w = 6 ∨ (w < 0 ∨ 6 < w) by omega) with q1 | q1 | q1 | q1 | q1 | q1 | q1 | q1
  · refine ar_tswIn (k := 1) (t := 44) rfl (by omega) (by omega) (by omega) (by rw [q1]; rfl) (by decide) ?_
    refine ar_aloadn (k := 2) rfl rfl ?_
    refine br_getR (k := 3) rfl (hS.k (by decide)) flR_9_12 (by decide) rfl (hS.r rfl) ?_
    refine ar_iconst (k := 4) rfl ?_
    refine br_iald (k := 5) rfl (hS.k (by decide)) (by omega) (by omega) (by decide) ?_
    refine ar_iret (k := 6) rfl rfl rfl (Nat.le_refl _) ?_
    unfold rs_count
    refine ⟨congrArg (fun z => some (vi z)) (by omega), by rw [setA_id]⟩
  · refine ar_tswIn (k := 1) (t := 51) rfl (by omega) (by omega) (by omega) (by rw [q1]; rfl) (by decide) ?_
    refine ar_aloadn (k := 7) rfl rfl ?_
    refine br_getR (k := 8) rfl (hS.k (by decide)) flR_9_12 (by decide) rfl (hS.r rfl) ?_
    refine ar_iconst (k := 9) rfl ?_
    refine br_iald (k := 10) rfl (hS.k (by decide)) (by omega) (by omega) (by decide) ?_
    refine ar_iret (k := 11) rfl rfl rfl (Nat.le_refl _) ?_
    unfold rs_count
    refine ⟨congrArg (fun z => some (vi z)) (by omega), by rw [setA_id]⟩
  · refine ar_tswIn (k := 1) (t := 58) rfl (by omega) (by omega) (by omega) (by rw [q1]; rfl) (by decide) ?_
    refine ar_aloadn (k := 12) rfl rfl ?_
    refine br_getR (k := 13) rfl (hS.k (by decide)) flR_9_12 (by decide) rfl (hS.r rfl) ?_
    refine ar_iconst (k := 14) rfl ?_
    refine br_iald (k := 15) rfl (hS.k (by decide)) (by omega) (by omega) (by decide) ?_
    refine ar_iret (k := 16) rfl rfl rfl (Nat.le_refl _) ?_
    unfold rs_count
    refine ⟨congrArg (fun z => some (vi z)) (by omega), by rw [setA_id]⟩
  · refine ar_tswIn (k := 1) (t := 65) rfl (by omega) (by omega) (by omega) (by rw [q1]; rfl) (by decide) ?_
    refine ar_aloadn (k := 17) rfl rfl ?_
    refine br_getR (k := 18) rfl (hS.k (by decide)) flR_9_12 (by decide) rfl (hS.r rfl) ?_
    refine ar_iconst (k := 19) rfl ?_
    refine br_iald (k := 20) rfl (hS.k (by decide)) (by omega) (by omega) (by decide) ?_
    refine ar_iret (k := 21) rfl rfl rfl (Nat.le_refl _) ?_
    unfold rs_count
    refine ⟨congrArg (fun z => some (vi z)) (by omega), by rw [setA_id]⟩
  · refine ar_tswIn (k := 1) (t := 72) rfl (by omega) (by omega) (by omega) (by rw [q1]; rfl) (by decide) ?_
    refine ar_aloadn (k := 22) rfl rfl ?_
    refine br_getR (k := 23) rfl (hS.k (by decide)) flR_9_12 (by decide) rfl (hS.r rfl) ?_
    refine ar_iconst (k := 24) rfl ?_
    refine br_iald (k := 25) rfl (hS.k (by decide)) (by omega) (by omega) (by decide) ?_
    refine ar_iret (k := 26) rfl rfl rfl (Nat.le_refl _) ?_
    unfold rs_count
    refine ⟨congrArg (fun z => some (vi z)) (by omega), by rw [setA_id]⟩
  · refine ar_tswIn (k := 1) (t := 79) rfl (by omega) (by omega) (by omega) (by rw [q1]; rfl) (by decide) ?_
    refine ar_aloadn (k := 27) rfl rfl ?_
    refine br_getR (k := 28) rfl (hS.k (by decide)) flR_9_12 (by decide) rfl (hS.r rfl) ?_
    refine ar_iconst (k := 29) rfl ?_
    refine br_iald (k := 30) rfl (hS.k (by decide)) (by omega) (by omega) (by decide) ?_
    refine ar_iret (k := 31) rfl rfl rfl (Nat.le_refl _) ?_
    unfold rs_count
    refine ⟨congrArg (fun z => some (vi z)) (by omega), by rw [setA_id]⟩
  · refine ar_tswIn (k := 1) (t := 86) rfl (by omega) (by omega) (by omega) (by rw [q1]; rfl) (by decide) ?_
    refine ar_aloadn (k := 32) rfl rfl ?_
    refine br_getI (k := 33) rfl (hS.k (by decide)) flR_233_12 (by decide) rfl ?_
    refine ar_iret (k := 34) rfl rfl rfl (Nat.le_refl _) ?_
    unfold rs_count
    refine ⟨congrArg (fun z => some (vi z)) (by omega), by rw [setA_id]⟩
  · refine ar_tswOut (k := 1) (t := 91) rfl (by omega) (by omega) (by decide) ?_
    refine ar_iconst (k := 35) rfl ?_
    refine ar_iret (k := 36) rfl rfl rfl (Nat.le_refl _) ?_
    unfold rs_count
    refine ⟨congrArg (fun z => some (vi z)) (by omega), by rw [setA_id]⟩
end RB
