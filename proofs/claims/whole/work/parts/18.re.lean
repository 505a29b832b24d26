theorem rRun_bd {b s : Int → Int} {f : Int} : ∀ (j : Nat) {d : Nat}, rDeeps s f j = some d → -300 * (j : Int) ≤ (rRun b s f j).2 ∧ (rRun b s f j).2 ≤ 300 * (j : Int)
  | 0, d, _ => by simp [rRun]
  | j + 1, d, h => by
    rw [rDeeps] at h
    cases h0 : rDeeps s f j with
    | none => rw [h0] at h; cases h
    | some d0 =>
      rw [h0] at h
      have hD : rDeep d0 (s (f + (j : Int))) = some d := h
      have ih := rRun_bd (b := b) j h0
      rw [rRun, rStep]
      split
      · show _ ≤ (rRun b s f j).2 ∧ (rRun b s f j).2 ≤ _
        omega
      · split
        · show _ ≤ (rRun b s f j).2 ∧ (rRun b s f j).2 ≤ _
          omega
        · split
          · show _ ≤ (rRun b s f j).2 ∧ (rRun b s f j).2 ≤ _
            omega
          · have hc := rDeep_c hD (by omega)
            show _ ≤ (rRun b s f j).2 + _ ∧ (rRun b s f j).2 + _ ≤ _
            split
            · split <;> omega
            · omega
theorem rWorth_bd {s : Int → Int} {t u : Int} (hR : RInv s) (hV : RVal s) : -42000 ≤ rWorth s t u ∧ rWorth s t u ≤ 42000 := by
  obtain ⟨h0, h1, h2, h3, h4, h5, h6, hp, hrw, ht, hr, hb, htp, hv⟩ := hR
  unfold rWorth
  split
  · omega
  · have hw := hv (s 6) (by omega) (by omega)
    have := rRun_bd (b := rBy s t u) _ (hV (s 6) (by omega) (by omega))
    omega
theorem fstD_bd {d : Int} {p : Nat → Bool} {N : Int} : ∀ (k j : Nat), ((j + k : Nat) : Int) ≤ N → -1 ≤ d → d < N → -1 ≤ fstD d p k j ∧ fstD d p k j < N
  | 0, j, _, h1, h2 => ⟨h1, h2⟩
  | k + 1, j, h, h1, h2 => by
    rw [fstD]
    split
    · omega
    · exact fstD_bd k (j + 1) (by omega) h1 h2
theorem fstD_bd' {d : Int} {p : Nat → Bool} {N : Int} : ∀ (k j : Nat), ((j + k : Nat) : Int) ≤ N → (d = -1 ∨ (0 ≤ d ∧ d < N)) → (fstD d p k j = -1 ∨ (0 ≤ fstD d p k j ∧ fstD d p k j < N))
  | 0, j, _, h => h
  | k + 1, j, h, h1 => by
    rw [fstD]
    split
    · omega
    · exact fstD_bd' k (j + 1) (by omega) h1
/-- the best, gone through from j on, of k places -/
def bstN (s : Int → Int) (p u g : Int) : Nat → Nat → Int → Int → Int
  | 0, _, b, _ => b
  | k + 1, j, b, m => if rFitP s p j ∧ (g = 0 ∨ (s (84 + s (94 + (j : Int))) ≠ p ∧ rFreeP s (s (84 + s (94 + (j : Int)))) u)) ∧ (b = -1 ∨ m < rWorth s j u) then bstN s p u g k (j + 1) j (rWorth s j u) else bstN s p u g k (j + 1) b m
theorem bstN_bd {s : Int → Int} {p u g N : Int} : ∀ (k j : Nat) (b m : Int), ((j + k : Nat) : Int) ≤ N → (b = -1 ∨ (0 ≤ b ∧ b < N)) → (bstN s p u g k j b m = -1 ∨ (0 ≤ bstN s p u g k j b m ∧ bstN s p u g k j b m < N))
  | 0, j, b, m, _, h => h
  | k + 1, j, b, m, h, h1 => by
    rw [bstN]
    split
    · exact bstN_bd k (j + 1) _ _ (by omega) (by omega)
    · exact bstN_bd k (j + 1) _ _ (by omega) h1
def rBest (s : Int → Int) (p u g : Int) : Int := bstN s p u g (s 1).toNat 0 (-1) 0
/-- where one works -/
def rAt (s : Int → Int) (p u : Int) : Int :=
  if s (10 + p) = 1 then (if rFreeP s p u ∧ u % rBell s = 0 then rBest s p u 0 else -1)
  else if s (10 + p) = 2 then (if rFreeP s p u then rHome s p else -1)
  else if s (10 + p) = 3 then (if rFreeP s p u then rBest s p u 1 else -1)
  else if s (10 + p) = 4 then (if (if rFreeP s p u ∧ u % rBell s = 0 then rBest s p u 0 else -1) = -1 ∧ (0 ≤ s (18 + p) ∧ s (18 + p) ≤ s 1 - 1) ∧ rFitP s p (s (18 + p)) then s (18 + p) else (if rFreeP s p u ∧ u % rBell s = 0 then rBest s p u 0 else -1))
  else if s (10 + p) = 5 then (if rFreeP s p ((u - s (18 + p) + 24) % 24) then rHome s p else -1)
  else if s (10 + p) = 6 then (if ¬ rFreeP s p u then -1 else if (0 ≤ s (42 + 4 * p + u % 4) ∧ s (42 + 4 * p + u % 4) ≤ s 1 - 1) ∧ s (84 + s (42 + 4 * p + u % 4)) = p then s (42 + 4 * p + u % 4) else rBest s p u 1)
  else (if rFreeP s p u then rLeast s p else -1)
theorem rLeast_bd {s : Int → Int} {p : Int} (h1 : 0 ≤ s 1) : rLeast s p = -1 ∨ (0 ≤ rLeast s p ∧ rLeast s p < s 1) := fstD_bd' _ _ (by omega) (Or.inl rfl)
theorem rHome_bd {s : Int → Int} {p : Int} (h1 : 0 ≤ s 1) : rHome s p = -1 ∨ (0 ≤ rHome s p ∧ rHome s p < s 1) := fstD_bd' _ _ (by omega) (rLeast_bd h1)
theorem rBest_bd {s : Int → Int} {p u g : Int} (h1 : 0 ≤ s 1) : rBest s p u g = -1 ∨ (0 ≤ rBest s p u g ∧ rBest s p u g < s 1) := bstN_bd _ _ _ _ (by omega) (Or.inl rfl)
theorem rAt_bd {s : Int → Int} {p u : Int} (h1 : 0 ≤ s 1) : rAt s p u = -1 ∨ (0 ≤ rAt s p u ∧ rAt s p u < s 1) := by
  have a1 := rLeast_bd (p := p) h1
  have a2 := rHome_bd (p := p) h1
  have a3 := rBest_bd (p := p) (u := u) (g := 0) h1
  have a4 := rBest_bd (p := p) (u := u) (g := 1) h1
  unfold rAt
  (repeat' split) <;> omega
theorem rBell_bd {s : Int → Int} (hR : RInv s) : 1 ≤ rBell s ∧ rBell s ≤ 99 := by
  obtain ⟨h0, h1, h2, h3, h4, h5, h6, hp, hrw, ht, hr, hb, htp, hv⟩ := hR
  unfold rBell
  by_cases g : s 6 = -1
  · rw [if_pos g]; omega
  · rw [if_neg g]
    have := hv (s 6) (by omega) (by omega)
    omega
section RE
variable {l : Launch} {G : tG} {K : Nat → Nat × Nat} {I : Nat → Int → Int} {Q : Nat → Int → Option Nat} {n : Nat} {s : Int → Int}
theorem c_R_worth {t u : Int} (hS : tSt (K, I, Q, n)) (hs : I 70 = s) (hR : RInv s) (hV : RVal s) (tt : tr t) (tu : tr u) : tw_R l G 3 mR_worth [vr (some 69), vi t, vi u] K I Q n (some (vi (if (0 ≤ t ∧ t ≤ s 1 - 1) ∧ (0 ≤ u ∧ u ≤ 23) ∧ s (94 + t) ≠ -1 then rWorth s t u else -10001))) := by
  obtain ⟨h0, h1, h2, h3, h4, h5, h6, hp, hrw, ht, hr, hb, htp, hv⟩ := id hR
  have hk : rk I I := rk.rf
  refine tw_intro okR_worth (Nat.le_of_ble_eq_true rfl) ?_
  refine ar_aloadn (k := 0) rfl rfl ?_
  refine ar_iloadn (k := 1) rfl rfl ?_
  refine br_callV (k := 2) (as := [_]) rfl lvR_120 (hS.k (by decide)) rfl (c_S_isTool hS hs (by omega) h1) rfl (by decide) (by decide) tw_m0 (Nat.le_of_ble_eq_true rfl) ?_
  refine ar_if_eq (k := 3) rfl (by omega) (fun c3 => ?_) (fun c3 => ?_)
  · refine ar_sipush (k := 20) rfl (by decide) ?_
    refine ar_iret (k := 21) rfl rfl rfl (Nat.le_refl _) ?_
    exact ⟨congrArg (fun z => some (vi z)) (by omega), I, rfl, hk⟩
  · refine ar_iloadn (k := 4) rfl rfl ?_
    refine br_callS (k := 5) (as := [_]) rfl lsR_130 (c_R_isHour (by omega)) rfl (by decide) (by decide) tw_m0 (Nat.le_of_ble_eq_true rfl) ?_
    refine ar_if_eq (k := 6) rfl (by omega) (fun c6 => ?_) (fun c6 => ?_)
    · refine ar_sipush (k := 20) rfl (by decide) ?_
      refine ar_iret (k := 21) rfl rfl rfl (Nat.le_refl _) ?_
      exact ⟨congrArg (fun z => some (vi z)) (by omega), I, rfl, hk⟩
    · have hw := ht t (by omega) (by omega)
      refine ar_aloadn (k := 7) rfl rfl ?_
      refine br_getR (k := 8) rfl (hS.k (by decide)) flR_9_12 (by decide) rfl (hS.r rfl) ?_
      refine ar_bipush (k := 9) rfl (by decide) ?_
      refine ar_iloadn (k := 10) rfl rfl ?_
      refine ar_iadd (k := 11) rfl ?_
      refine br_iads (k := 12) rfl (hS.k (by decide)) (by omega) (by omega) (by decide) hs ?_
      refine ar_iconst (k := 13) rfl ?_
      refine ar_icmp_eq (k := 14) rfl (by omega) (by omega) (fun c14 => ?_) (fun c14 => ?_)
      · refine ar_sipush (k := 20) rfl (by decide) ?_
        refine ar_iret (k := 21) rfl rfl rfl (Nat.le_refl _) ?_
        exact ⟨congrArg (fun z => some (vi z)) (by omega), I, rfl, hk⟩
      · refine ar_aloadn (k := 15) rfl rfl ?_
        refine ar_iloadn (k := 16) rfl rfl ?_
        refine ar_iloadn (k := 17) rfl rfl ?_
        refine br_callVR (k := 18) (as := [_, _]) rfl lvR_133 (hS.k (by decide)) rfl (c_R_worthOf hS hs hR hV (by omega) (by omega) (by omega)) rfl (by decide) (by decide) tw_m0 (Nat.le_of_ble_eq_true rfl) (fun I18 q18 => ?_)
        have hs18 : I18 70 = s := q18.s.trans hs
        have hk18 := rk.trans hk q18
        refine ar_goto (k := 19) rfl ?_
        refine ar_iret (k := 21) rfl rfl rfl (Nat.le_refl _) ?_
        exact ⟨congrArg (fun z => some (vi z)) (by omega), I18, rfl, hk18⟩
theorem l_R_atBest {p u g : Int} (hS : tSt (K, I, Q, n)) (hR : RInv s) (hV : RVal s) (p1 : 0 ≤ p ∧ p < 8) (u1 : 0 ≤ u ∧ u ≤ 23) (g1 : g = 0 ∨ g = 1) : ∀ (k : Nat) (j : Nat) (b m : Int) (J : Nat → Int → Int), j + k = (s 1).toNat → J 70 = s → rk I J → (b = -1 ∨ (0 ≤ b ∧ b < 10)) → (-42000 ≤ m ∧ m ≤ 42000) → tw_AW l G mR_atBest 3 0 0 n 0 (fun r h' => r = some (vi (bstN s p u g k j b m)) ∧ ∃ L, h' = (K, L, Q, n) ∧ rk I L) 9 [(6, vi (j : Int)), (5, vi m), (4, vi b), (0, vr (some 69)), (1, vi p), (2, vi u), (3, vi g)] [] (K, J, Q, n) := by
  obtain ⟨h0, h1, h2, h3, h4, h5, h6, hp, hrw, ht, hr, hb, htp, hv⟩ := id hR
  intro k
  induction k with
  | zero =>
    intro j b m J hj hs hk hbb hmm
    refine ar_iload (k := 6) rfl rfl ?_
    refine ar_aloadn (k := 7) rfl rfl ?_
    refine br_getR (k := 8) rfl (hS.k (by decide)) flR_9_12 (by decide) rfl (hS.r rfl) ?_
    refine ar_iconst (k := 9) rfl ?_
    refine br_iads (k := 10) rfl (hS.k (by decide)) (by omega) (by omega) (by decide) hs ?_
    refine ar_icmp_ge (k := 11) rfl (by omega) (by omega) (fun c11 => ?_) (fun c11 => ?_)
    · refine ar_iload (k := 74) rfl rfl ?_
      refine ar_iret (k := 75) rfl rfl rfl (Nat.le_refl _) ?_
      exact ⟨rfl, J, rfl, hk⟩
    · exfalso; omega
  | succ k ih =>
    intro j b m J hj hs hk hbb hmm
    refine ar_iload (k := 6) rfl rfl ?_
    refine ar_aloadn (k := 7) rfl rfl ?_
    refine br_getR (k := 8) rfl (hS.k (by decide)) flR_9_12 (by decide) rfl (hS.r rfl) ?_
    refine ar_iconst (k := 9) rfl ?_
    refine br_iads (k := 10) rfl (hS.k (by decide)) (by omega) (by omega) (by decide) hs ?_
    refine ar_icmp_ge (k := 11) rfl (by omega) (by omega) (fun c11 => ?_) (fun c11 => ?_)
    · exfalso; omega
    · refine ar_aloadn (k := 12) rfl rfl ?_
      refine ar_iloadn (k := 13) rfl rfl ?_
      refine ar_iload (k := 14) rfl rfl ?_
      refine br_callV (k := 15) (as := [_, _]) rfl lvR_137 (hS.k (by decide)) rfl (c_R_isFit hS hs hR (by omega) (by omega)) rfl (by decide) (by decide) tw_m0 (Nat.le_of_ble_eq_true rfl) ?_
      refine ar_if_eq (k := 16) rfl (by omega) (fun c16 => ?_) (fun c16 => ?_)
      · first
          | (exfalso; omega)
          | (refine ar_iinc (k := 72) (l2 := [(6, _), (5, _), (4, _), (0, _), (1, _), (2, _), (3, _)]) rfl (by decide) rfl rfl ?_; refine ar_goto (k := 73) rfl ?_; refine ar_sub (l2 := [(6, vi ((j + 1 : Nat) : Int)), (5, vi (rWorth s j u)), (4, vi ((j : Int))), (0, vr (some 69)), (1, vi p), (2, vi u), (3, vi g)]) (tw_s (tw_e 0 rfl (by omega)) (tw_s (tw_g 1 rfl) (tw_s (tw_g 2 rfl) (tw_s (tw_g 3 rfl) (tw_s (tw_g 4 rfl) (tw_s (tw_g 5 rfl) (tw_s (tw_g 6 rfl) tw_s0))))))) ?_; rw [show bstN s p u g (k + 1) j b m = bstN s p u g k (j + 1) j (rWorth s j u) by rw [bstN, if_pos (by refine ⟨by omega, by omega, by omega⟩)]]; exact ih (j + 1) _ _ J (by omega) hs hk (by omega) (by omega))
          | (refine ar_iinc (k := 72) (l2 := [(6, _), (5, _), (4, _), (0, _), (1, _), (2, _), (3, _)]) rfl (by decide) rfl rfl ?_; refine ar_goto (k := 73) rfl ?_; refine ar_sub (l2 := [(6, vi ((j + 1 : Nat) : Int)), (5, vi (m)), (4, vi (b)), (0, vr (some 69)), (1, vi p), (2, vi u), (3, vi g)]) (tw_s (tw_e 0 rfl (by omega)) (tw_s (tw_g 1 rfl) (tw_s (tw_g 2 rfl) (tw_s (tw_g 3 rfl) (tw_s (tw_g 4 rfl) (tw_s (tw_g 5 rfl) (tw_s (tw_g 6 rfl) tw_s0))))))) ?_; rw [show bstN s p u g (k + 1) j b m = bstN s p u g k (j + 1) b m by rw [bstN, if_neg (by omega)]]; exact ih (j + 1) _ _ J (by omega) hs hk (by omega) (by omega))
      · have hw := ht j (by omega) (by omega)
        have hw2 := ht (s (94 + (j : Int))) (by omega) (by omega)
        have hw3 := rWorth_bd (t := (j : Int)) (u := u) hR hV
        refine ar_aloadn (k := 17) rfl rfl ?_
        refine br_getR (k := 18) rfl (hS.k (by decide)) flR_9_12 (by decide) rfl (hS.r rfl) ?_
        refine ar_bipush (k := 19) rfl (by decide) ?_
        refine ar_aloadn (k := 20) rfl rfl ?_
        refine br_getR (k := 21) rfl (hS.k (by decide)) flR_9_12 (by decide) rfl (hS.r rfl) ?_
        refine ar_bipush (k := 22) rfl (by decide) ?_
        refine ar_iload (k := 23) rfl rfl ?_
        refine ar_iadd (k := 24) rfl ?_
        refine br_iads (k := 25) rfl (hS.k (by decide)) (by omega) (by omega) (by decide) hs ?_
        refine ar_iadd (k := 26) rfl ?_
        refine br_iads (k := 27) rfl (hS.k (by decide)) (by omega) (by omega) (by decide) hs ?_
        refine ar_istore (k := 28) (l2 := [(7, _), (6, _), (5, _), (4, _), (0, _), (1, _), (2, _), (3, _)]) rfl (by decide) rfl ?_
        refine ar_aloadn (k := 29) rfl rfl ?_
        refine ar_iload (k := 30) rfl rfl ?_
        refine ar_iloadn (k := 31) rfl rfl ?_
        refine br_callVR (k := 32) (as := [_, _]) rfl lvR_133 (hS.k (by decide)) rfl (c_R_worthOf hS hs hR hV (by omega) (by omega) (by omega)) rfl (by decide) (by decide) tw_m0 (Nat.le_of_ble_eq_true rfl) (fun I32 q32 => ?_)
        have hs32 : I32 70 = s := q32.s.trans hs
        have hk32 := rk.trans hk q32
        refine ar_istore (k := 33) (l2 := [(8, _), (7, _), (6, _), (5, _), (4, _), (0, _), (1, _), (2, _), (3, _)]) rfl (by decide) rfl ?_
        refine ar_iloadn (k := 34) rfl rfl ?_
        refine ar_if_eq (k := 35) rfl (by omega) (fun c35 => ?_) (fun c35 => ?_)
        · refine ar_iconst (k := 44) rfl ?_
          refine ar_goto (k := 45) rfl ?_
          refine ar_istore (k := 47) (l2 := [(9, _), (8, _), (7, _), (6, _), (5, _), (4, _), (0, _), (1, _), (2, _), (3, _)]) rfl (by decide) rfl ?_
          refine ar_iload (k := 48) rfl rfl ?_
          refine ar_if_eq (k := 49) rfl (by omega) (fun c49 => ?_) (fun c49 => ?_)
          · refine ar_iconst (k := 58) rfl ?_
            refine ar_istore (k := 59) (l2 := [(10, _), (9, _), (8, _), (7, _), (6, _), (5, _), (4, _), (0, _), (1, _), (2, _), (3, _)]) rfl (by decide) rfl ?_
            refine ar_iload (k := 60) rfl rfl ?_
            refine ar_if_eq (k := 61) rfl (by omega) (fun c61 => ?_) (fun c61 => ?_)
            · refine ar_iload (k := 64) rfl rfl ?_
              refine ar_istore (k := 65) (l2 := [(4, _), (10, _), (9, _), (8, _), (7, _), (6, _), (5, _), (0, _), (1, _), (2, _), (3, _)]) rfl (by decide) rfl ?_
              refine ar_iload (k := 66) rfl rfl ?_
              refine ar_if_eq (k := 67) rfl (by omega) (fun c67 => ?_) (fun c67 => ?_)
              · refine ar_iload (k := 70) rfl rfl ?_
                refine ar_istore (k := 71) (l2 := [(5, _), (4, _), (10, _), (9, _), (8, _), (7, _), (6, _), (0, _), (1, _), (2, _), (3, _)]) rfl (by decide) rfl ?_
                first
                  | (exfalso; omega)
                  | (refine ar_iinc (k := 72) (l2 := [(6, _), (5, _), (4, _), (10, _), (9, _), (8, _), (7, _), (0, _), (1, _), (2, _), (3, _)]) rfl (by decide) rfl rfl ?_; refine ar_goto (k := 73) rfl ?_; refine ar_sub (l2 := [(6, vi ((j + 1 : Nat) : Int)), (5, vi (rWorth s j u)), (4, vi ((j : Int))), (0, vr (some 69)), (1, vi p), (2, vi u), (3, vi g)]) (tw_s (tw_e 0 rfl (by omega)) (tw_s (tw_g 1 rfl) (tw_s (tw_g 2 rfl) (tw_s (tw_g 7 rfl) (tw_s (tw_g 8 rfl) (tw_s (tw_g 9 rfl) (tw_s (tw_g 10 rfl) tw_s0))))))) ?_; rw [show bstN s p u g (k + 1) j b m = bstN s p u g k (j + 1) j (rWorth s j u) by rw [bstN, if_pos (by refine ⟨by omega, by omega, by omega⟩)]]; exact ih (j + 1) _ _ I32 (by omega) hs32 hk32 (by omega) (by omega))
                  | (refine ar_iinc (k := 72) (l2 := [(6, _), (5, _), (4, _), (10, _), (9, _), (8, _), (7, _), (0, _), (1, _), (2, _), (3, _)]) rfl (by decide) rfl rfl ?_; refine ar_goto (k := 73) rfl ?_; refine ar_sub (l2 := [(6, vi ((j + 1 : Nat) : Int)), (5, vi (m)), (4, vi (b)), (0, vr (some 69)), (1, vi p), (2, vi u), (3, vi g)]) (tw_s (tw_e 0 rfl (by omega)) (tw_s (tw_g 1 rfl) (tw_s (tw_g 2 rfl) (tw_s (tw_g 7 rfl) (tw_s (tw_g 8 rfl) (tw_s (tw_g 9 rfl) (tw_s (tw_g 10 rfl) tw_s0))))))) ?_; rw [show bstN s p u g (k + 1) j b m = bstN s p u g k (j + 1) b m by rw [bstN, if_neg (by omega)]]; exact ih (j + 1) _ _ I32 (by omega) hs32 hk32 (by omega) (by omega))
              · refine ar_iload (k := 68) rfl rfl ?_
                refine ar_goto (k := 69) rfl ?_
                refine ar_istore (k := 71) (l2 := [(5, _), (4, _), (10, _), (9, _), (8, _), (7, _), (6, _), (0, _), (1, _), (2, _), (3, _)]) rfl (by decide) rfl ?_
                first
                  | (exfalso; omega)
                  | (refine ar_iinc (k := 72) (l2 := [(6, _), (5, _), (4, _), (10, _), (9, _), (8, _), (7, _), (0, _), (1, _), (2, _), (3, _)]) rfl (by decide) rfl rfl ?_; refine ar_goto (k := 73) rfl ?_; refine ar_sub (l2 := [(6, vi ((j + 1 : Nat) : Int)), (5, vi (rWorth s j u)), (4, vi ((j : Int))), (0, vr (some 69)), (1, vi p), (2, vi u), (3, vi g)]) (tw_s (tw_e 0 rfl (by omega)) (tw_s (tw_g 1 rfl) (tw_s (tw_g 2 rfl) (tw_s (tw_g 7 rfl) (tw_s (tw_g 8 rfl) (tw_s (tw_g 9 rfl) (tw_s (tw_g 10 rfl) tw_s0))))))) ?_; rw [show bstN s p u g (k + 1) j b m = bstN s p u g k (j + 1) j (rWorth s j u) by rw [bstN, if_pos (by refine ⟨by omega, by omega, by omega⟩)]]; exact ih (j + 1) _ _ I32 (by omega) hs32 hk32 (by omega) (by omega))
                  | (refine ar_iinc (k := 72) (l2 := [(6, _), (5, _), (4, _), (10, _), (9, _), (8, _), (7, _), (0, _), (1, _), (2, _), (3, _)]) rfl (by decide) rfl rfl ?_; refine ar_goto (k := 73) rfl ?_; refine ar_sub (l2 := [(6, vi ((j + 1 : Nat) : Int)), (5, vi (m)), (4, vi (b)), (0, vr (some 69)), (1, vi p), (2, vi u), (3, vi g)]) (tw_s (tw_e 0 rfl (by omega)) (tw_s (tw_g 1 rfl) (tw_s (tw_g 2 rfl) (tw_s (tw_g 7 rfl) (tw_s (tw_g 8 rfl) (tw_s (tw_g 9 rfl) (tw_s (tw_g 10 rfl) tw_s0))))))) ?_; rw [show bstN s p u g (k + 1) j b m = bstN s p u g k (j + 1) b m by rw [bstN, if_neg (by omega)]]; exact ih (j + 1) _ _ I32 (by omega) hs32 hk32 (by omega) (by omega))
            · refine ar_iload (k := 62) rfl rfl ?_
              refine ar_goto (k := 63) rfl ?_
              refine ar_istore (k := 65) (l2 := [(4, _), (10, _), (9, _), (8, _), (7, _), (6, _), (5, _), (0, _), (1, _), (2, _), (3, _)]) rfl (by decide) rfl ?_
              refine ar_iload (k := 66) rfl rfl ?_
              refine ar_if_eq (k := 67) rfl (by omega) (fun c67 => ?_) (fun c67 => ?_)
              · refine ar_iload (k := 70) rfl rfl ?_
                refine ar_istore (k := 71) (l2 := [(5, _), (4, _), (10, _), (9, _), (8, _), (7, _), (6, _), (0, _), (1, _), (2, _), (3, _)]) rfl (by decide) rfl ?_
                first
                  | (exfalso; omega)
                  | (refine ar_iinc (k := 72) (l2 := [(6, _), (5, _), (4, _), (10, _), (9, _), (8, _), (7, _), (0, _), (1, _), (2, _), (3, _)]) rfl (by decide) rfl rfl ?_; refine ar_goto (k := 73) rfl ?_; refine ar_sub (l2 := [(6, vi ((j + 1 : Nat) : Int)), (5, vi (rWorth s j u)), (4, vi ((j : Int))), (0, vr (some 69)), (1, vi p), (2, vi u), (3, vi g)]) (tw_s (tw_e 0 rfl (by omega)) (tw_s (tw_g 1 rfl) (tw_s (tw_g 2 rfl) (tw_s (tw_g 7 rfl) (tw_s (tw_g 8 rfl) (tw_s (tw_g 9 rfl) (tw_s (tw_g 10 rfl) tw_s0))))))) ?_; rw [show bstN s p u g (k + 1) j b m = bstN s p u g k (j + 1) j (rWorth s j u) by rw [bstN, if_pos (by refine ⟨by omega, by omega, by omega⟩)]]; exact ih (j + 1) _ _ I32 (by omega) hs32 hk32 (by omega) (by omega))
                  | (refine ar_iinc (k := 72) (l2 := [(6, _), (5, _), (4, _), (10, _), (9, _), (8, _), (7, _), (0, _), (1, _), (2, _), (3, _)]) rfl (by decide) rfl rfl ?_; refine ar_goto (k := 73) rfl ?_; refine ar_sub (l2 := [(6, vi ((j + 1 : Nat) : Int)), (5, vi (m)), (4, vi (b)), (0, vr (some 69)), (1, vi p), (2, vi u), (3, vi g)]) (tw_s (tw_e 0 rfl (by omega)) (tw_s (tw_g 1 rfl) (tw_s (tw_g 2 rfl) (tw_s (tw_g 7 rfl) (tw_s (tw_g 8 rfl) (tw_s (tw_g 9 rfl) (tw_s (tw_g 10 rfl) tw_s0))))))) ?_; rw [show bstN s p u g (k + 1) j b m = bstN s p u g k (j + 1) b m by rw [bstN, if_neg (by omega)]]; exact ih (j + 1) _ _ I32 (by omega) hs32 hk32 (by omega) (by omega))
              · refine ar_iload (k := 68) rfl rfl ?_
                refine ar_goto (k := 69) rfl ?_
                refine ar_istore (k := 71) (l2 := [(5, _), (4, _), (10, _), (9, _), (8, _), (7, _), (6, _), (0, _), (1, _), (2, _), (3, _)]) rfl (by decide) rfl ?_
                first
                  | (exfalso; omega)
                  | (refine ar_iinc (k := 72) (l2 := [(6, _), (5, _), (4, _), (10, _), (9, _), (8, _), (7, _), (0, _), (1, _), (2, _), (3, _)]) rfl (by decide) rfl rfl ?_; refine ar_goto (k := 73) rfl ?_; refine ar_sub (l2 := [(6, vi ((j + 1 : Nat) : Int)), (5, vi (rWorth s j u)), (4, vi ((j : Int))), (0, vr (some 69)), (1, vi p), (2, vi u), (3, vi g)]) (tw_s (tw_e 0 rfl (by omega)) (tw_s (tw_g 1 rfl) (tw_s (tw_g 2 rfl) (tw_s (tw_g 7 rfl) (tw_s (tw_g 8 rfl) (tw_s (tw_g 9 rfl) (tw_s (tw_g 10 rfl) tw_s0))))))) ?_; rw [show bstN s p u g (k + 1) j b m = bstN s p u g k (j + 1) j (rWorth s j u) by rw [bstN, if_pos (by refine ⟨by omega, by omega, by omega⟩)]]; exact ih (j + 1) _ _ I32 (by omega) hs32 hk32 (by omega) (by omega))
                  | (refine ar_iinc (k := 72) (l2 := [(6, _), (5, _), (4, _), (10, _), (9, _), (8, _), (7, _), (0, _), (1, _), (2, _), (3, _)]) rfl (by decide) rfl rfl ?_; refine ar_goto (k := 73) rfl ?_; refine ar_sub (l2 := [(6, vi ((j + 1 : Nat) : Int)), (5, vi (m)), (4, vi (b)), (0, vr (some 69)), (1, vi p), (2, vi u), (3, vi g)]) (tw_s (tw_e 0 rfl (by omega)) (tw_s (tw_g 1 rfl) (tw_s (tw_g 2 rfl) (tw_s (tw_g 7 rfl) (tw_s (tw_g 8 rfl) (tw_s (tw_g 9 rfl) (tw_s (tw_g 10 rfl) tw_s0))))))) ?_; rw [show bstN s p u g (k + 1) j b m = bstN s p u g k (j + 1) b m by rw [bstN, if_neg (by omega)]]; exact ih (j + 1) _ _ I32 (by omega) hs32 hk32 (by omega) (by omega))
          · refine ar_iload (k := 50) rfl rfl ?_
            refine ar_iconst (k := 51) rfl ?_
            refine ar_icmp_eq (k := 52) rfl (by omega) (by omega) (fun c52 => ?_) (fun c52 => ?_)
            · refine ar_iconst (k := 56) rfl ?_
              refine ar_goto (k := 57) rfl ?_
              refine ar_istore (k := 59) (l2 := [(10, _), (9, _), (8, _), (7, _), (6, _), (5, _), (4, _), (0, _), (1, _), (2, _), (3, _)]) rfl (by decide) rfl ?_
              refine ar_iload (k := 60) rfl rfl ?_
              refine ar_if_eq (k := 61) rfl (by omega) (fun c61 => ?_) (fun c61 => ?_)
              · refine ar_iload (k := 64) rfl rfl ?_
                refine ar_istore (k := 65) (l2 := [(4, _), (10, _), (9, _), (8, _), (7, _), (6, _), (5, _), (0, _), (1, _), (2, _), (3, _)]) rfl (by decide) rfl ?_
                refine ar_iload (k := 66) rfl rfl ?_
                refine ar_if_eq (k := 67) rfl (by omega) (fun c67 => ?_) (fun c67 => ?_)
                · refine ar_iload (k := 70) rfl rfl ?_
                  refine ar_istore (k := 71) (l2 := [(5, _), (4, _), (10, _), (9, _), (8, _), (7, _), (6, _), (0, _), (1, _), (2, _), (3, _)]) rfl (by decide) rfl ?_
                  first
                    | (exfalso; omega)
                    | (refine ar_iinc (k := 72) (l2 := [(6, _), (5, _), (4, _), (10, _), (9, _), (8, _), (7, _), (0, _), (1, _), (2, _), (3, _)]) rfl (by decide) rfl rfl ?_; refine ar_goto (k := 73) rfl ?_; refine ar_sub (l2 := [(6, vi ((j + 1 : Nat) : Int)), (5, vi (rWorth s j u)), (4, vi ((j : Int))), (0, vr (some 69)), (1, vi p), (2, vi u), (3, vi g)]) (tw_s (tw_e 0 rfl (by omega)) (tw_s (tw_g 1 rfl) (tw_s (tw_g 2 rfl) (tw_s (tw_g 7 rfl) (tw_s (tw_g 8 rfl) (tw_s (tw_g 9 rfl) (tw_s (tw_g 10 rfl) tw_s0))))))) ?_; rw [show bstN s p u g (k + 1) j b m = bstN s p u g k (j + 1) j (rWorth s j u) by rw [bstN, if_pos (by refine ⟨by omega, by omega, by omega⟩)]]; exact ih (j + 1) _ _ I32 (by omega) hs32 hk32 (by omega) (by omega))
                    | (refine ar_iinc (k := 72) (l2 := [(6, _), (5, _), (4, _), (10, _), (9, _), (8, _), (7, _), (0, _), (1, _), (2, _), (3, _)]) rfl (by decide) rfl rfl ?_; refine ar_goto (k := 73) rfl ?_; refine ar_sub (l2 := [(6, vi ((j + 1 : Nat) : Int)), (5, vi (m)), (4, vi (b)), (0, vr (some 69)), (1, vi p), (2, vi u), (3, vi g)]) (tw_s (tw_e 0 rfl (by omega)) (tw_s (tw_g 1 rfl) (tw_s (tw_g 2 rfl) (tw_s (tw_g 7 rfl) (tw_s (tw_g 8 rfl) (tw_s (tw_g 9 rfl) (tw_s (tw_g 10 rfl) tw_s0))))))) ?_; rw [show bstN s p u g (k + 1) j b m = bstN s p u g k (j + 1) b m by rw [bstN, if_neg (by omega)]]; exact ih (j + 1) _ _ I32 (by omega) hs32 hk32 (by omega) (by omega))
                · refine ar_iload (k := 68) rfl rfl ?_
                  refine ar_goto (k := 69) rfl ?_
                  refine ar_istore (k := 71) (l2 := [(5, _), (4, _), (10, _), (9, _), (8, _), (7, _), (6, _), (0, _), (1, _), (2, _), (3, _)]) rfl (by decide) rfl ?_
                  first
                    | (exfalso; omega)
                    | (refine ar_iinc (k := 72) (l2 := [(6, _), (5, _), (4, _), (10, _), (9, _), (8, _), (7, _), (0, _), (1, _), (2, _), (3, _)]) rfl (by decide) rfl rfl ?_; refine ar_goto (k := 73) rfl ?_; refine ar_sub (l2 := [(6, vi ((j + 1 : Nat) : Int)), (5, vi (rWorth s j u)), (4, vi ((j : Int))), (0, vr (some 69)), (1, vi p), (2, vi u), (3, vi g)]) (tw_s (tw_e 0 rfl (by omega)) (tw_s (tw_g 1 rfl) (tw_s (tw_g 2 rfl) (tw_s (tw_g 7 rfl) (tw_s (tw_g 8 rfl) (tw_s (tw_g 9 rfl) (tw_s (tw_g 10 rfl) tw_s0))))))) ?_; rw [show bstN s p u g (k + 1) j b m = bstN s p u g k (j + 1) j (rWorth s j u) by rw [bstN, if_pos (by refine ⟨by omega, by omega, by omega⟩)]]; exact ih (j + 1) _ _ I32 (by omega) hs32 hk32 (by omega) (by omega))
                    | (refine ar_iinc (k := 72) (l2 := [(6, _), (5, _), (4, _), (10, _), (9, _), (8, _), (7, _), (0, _), (1, _), (2, _), (3, _)]) rfl (by decide) rfl rfl ?_; refine ar_goto (k := 73) rfl ?_; refine ar_sub (l2 := [(6, vi ((j + 1 : Nat) : Int)), (5, vi (m)), (4, vi (b)), (0, vr (some 69)), (1, vi p), (2, vi u), (3, vi g)]) (tw_s (tw_e 0 rfl (by omega)) (tw_s (tw_g 1 rfl) (tw_s (tw_g 2 rfl) (tw_s (tw_g 7 rfl) (tw_s (tw_g 8 rfl) (tw_s (tw_g 9 rfl) (tw_s (tw_g 10 rfl) tw_s0))))))) ?_; rw [show bstN s p u g (k + 1) j b m = bstN s p u g k (j + 1) b m by rw [bstN, if_neg (by omega)]]; exact ih (j + 1) _ _ I32 (by omega) hs32 hk32 (by omega) (by omega))
              · refine ar_iload (k := 62) rfl rfl ?_
                refine ar_goto (k := 63) rfl ?_
                refine ar_istore (k := 65) (l2 := [(4, _), (10, _), (9, _), (8, _), (7, _), (6, _), (5, _), (0, _), (1, _), (2, _), (3, _)]) rfl (by decide) rfl ?_
                refine ar_iload (k := 66) rfl rfl ?_
                refine ar_if_eq (k := 67) rfl (by omega) (fun c67 => ?_) (fun c67 => ?_)
                · refine ar_iload (k := 70) rfl rfl ?_
                  refine ar_istore (k := 71) (l2 := [(5, _), (4, _), (10, _), (9, _), (8, _), (7, _), (6, _), (0, _), (1, _), (2, _), (3, _)]) rfl (by decide) rfl ?_
                  first
                    | (exfalso; omega)
                    | (refine ar_iinc (k := 72) (l2 := [(6, _), (5, _), (4, _), (10, _), (9, _), (8, _), (7, _), (0, _), (1, _), (2, _), (3, _)]) rfl (by decide) rfl rfl ?_; refine ar_goto (k := 73) rfl ?_; refine ar_sub (l2 := [(6, vi ((j + 1 : Nat) : Int)), (5, vi (rWorth s j u)), (4, vi ((j : Int))), (0, vr (some 69)), (1, vi p), (2, vi u), (3, vi g)]) (tw_s (tw_e 0 rfl (by omega)) (tw_s (tw_g 1 rfl) (tw_s (tw_g 2 rfl) (tw_s (tw_g 7 rfl) (tw_s (tw_g 8 rfl) (tw_s (tw_g 9 rfl) (tw_s (tw_g 10 rfl) tw_s0))))))) ?_; rw [show bstN s p u g (k + 1) j b m = bstN s p u g k (j + 1) j (rWorth s j u) by rw [bstN, if_pos (by refine ⟨by omega, by omega, by omega⟩)]]; exact ih (j + 1) _ _ I32 (by omega) hs32 hk32 (by omega) (by omega))
                    | (refine ar_iinc (k := 72) (l2 := [(6, _), (5, _), (4, _), (10, _), (9, _), (8, _), (7, _), (0, _), (1, _), (2, _), (3, _)]) rfl (by decide) rfl rfl ?_; refine ar_goto (k := 73) rfl ?_; refine ar_sub (l2 := [(6, vi ((j + 1 : Nat) : Int)), (5, vi (m)), (4, vi (b)), (0, vr (some 69)), (1, vi p), (2, vi u), (3, vi g)]) (tw_s (tw_e 0 rfl (by omega)) (tw_s (tw_g 1 rfl) (tw_s (tw_g 2 rfl) (tw_s (tw_g 7 rfl) (tw_s (tw_g 8 rfl) (tw_s (tw_g 9 rfl) (tw_s (tw_g 10 rfl) tw_s0))))))) ?_; rw [show bstN s p u g (k + 1) j b m = bstN s p u g k (j + 1) b m by rw [bstN, if_neg (by omega)]]; exact ih (j + 1) _ _ I32 (by omega) hs32 hk32 (by omega) (by omega))
                · refine ar_iload (k := 68) rfl rfl ?_
                  refine ar_goto (k := 69) rfl ?_
                  refine ar_istore (k := 71) (l2 := [(5, _), (4, _), (10, _), (9, _), (8, _), (7, _), (6, _), (0, _), (1, _), (2, _), (3, _)]) rfl (by decide) rfl ?_
                  first
                    | (exfalso; omega)
                    | (refine ar_iinc (k := 72) (l2 := [(6, _), (5, _), (4, _), (10, _), (9, _), (8, _), (7, _), (0, _), (1, _), (2, _), (3, _)]) rfl (by decide) rfl rfl ?_; refine ar_goto (k := 73) rfl ?_; refine ar_sub (l2 := [(6, vi ((j + 1 : Nat) : Int)), (5, vi (rWorth s j u)), (4, vi ((j : Int))), (0, vr (some 69)), (1, vi p), (2, vi u), (3, vi g)]) (tw_s (tw_e 0 rfl (by omega)) (tw_s (tw_g 1 rfl) (tw_s (tw_g 2 rfl) (tw_s (tw_g 7 rfl) (tw_s (tw_g 8 rfl) (tw_s (tw_g 9 rfl) (tw_s (tw_g 10 rfl) tw_s0))))))) ?_; rw [show bstN s p u g (k + 1) j b m = bstN s p u g k (j + 1) j (rWorth s j u) by rw [bstN, if_pos (by refine ⟨by omega, by omega, by omega⟩)]]; exact ih (j + 1) _ _ I32 (by omega) hs32 hk32 (by omega) (by omega))
                    | (refine ar_iinc (k := 72) (l2 := [(6, _), (5, _), (4, _), (10, _), (9, _), (8, _), (7, _), (0, _), (1, _), (2, _), (3, _)]) rfl (by decide) rfl rfl ?_; refine ar_goto (k := 73) rfl ?_; refine ar_sub (l2 := [(6, vi ((j + 1 : Nat) : Int)), (5, vi (m)), (4, vi (b)), (0, vr (some 69)), (1, vi p), (2, vi u), (3, vi g)]) (tw_s (tw_e 0 rfl (by omega)) (tw_s (tw_g 1 rfl) (tw_s (tw_g 2 rfl) (tw_s (tw_g 7 rfl) (tw_s (tw_g 8 rfl) (tw_s (tw_g 9 rfl) (tw_s (tw_g 10 rfl) tw_s0))))))) ?_; rw [show bstN s p u g (k + 1) j b m = bstN s p u g k (j + 1) b m by rw [bstN, if_neg (by omega)]]; exact ih (j + 1) _ _ I32 (by omega) hs32 hk32 (by omega) (by omega))
            · refine ar_iload (k := 53) rfl rfl ?_
              refine ar_iload (k := 54) rfl rfl ?_
              refine ar_icmp_le (k := 55) rfl (by omega) (by omega) (fun c55 => ?_) (fun c55 => ?_)
              · refine ar_iconst (k := 58) rfl ?_
                refine ar_istore (k := 59) (l2 := [(10, _), (9, _), (8, _), (7, _), (6, _), (5, _), (4, _), (0, _), (1, _), (2, _), (3, _)]) rfl (by decide) rfl ?_
                refine ar_iload (k := 60) rfl rfl ?_
                refine ar_if_eq (k := 61) rfl (by omega) (fun c61 => ?_) (fun c61 => ?_)
                · refine ar_iload (k := 64) rfl rfl ?_
                  refine ar_istore (k := 65) (l2 := [(4, _), (10, _), (9, _), (8, _), (7, _), (6, _), (5, _), (0, _), (1, _), (2, _), (3, _)]) rfl (by decide) rfl ?_
                  refine ar_iload (k := 66) rfl rfl ?_
                  refine ar_if_eq (k := 67) rfl (by omega) (fun c67 => ?_) (fun c67 => ?_)
                  · refine ar_iload (k := 70) rfl rfl ?_
                    refine ar_istore (k := 71) (l2 := [(5, _), (4, _), (10, _), (9, _), (8, _), (7, _), (6, _), (0, _), (1, _), (2, _), (3, _)]) rfl (by decide) rfl ?_
                    first
                      | (exfalso; omega)
                      | (refine ar_iinc (k := 72) (l2 := [(6, _), (5, _), (4, _), (10, _), (9, _), (8, _), (7, _), (0, _), (1, _), (2, _), (3, _)]) rfl (by decide) rfl rfl ?_; refine ar_goto (k := 73) rfl ?_; refine ar_sub (l2 := [(6, vi ((j + 1 : Nat) : Int)), (5, vi (rWorth s j u)), (4, vi ((j : Int))), (0, vr (some 69)), (1, vi p), (2, vi u), (3, vi g)]) (tw_s (tw_e 0 rfl (by omega)) (tw_s (tw_g 1 rfl) (tw_s (tw_g 2 rfl) (tw_s (tw_g 7 rfl) (tw_s (tw_g 8 rfl) (tw_s (tw_g 9 rfl) (tw_s (tw_g 10 rfl) tw_s0))))))) ?_; rw [show bstN s p u g (k + 1) j b m = bstN s p u g k (j + 1) j (rWorth s j u) by rw [bstN, if_pos (by refine ⟨by omega, by omega, by omega⟩)]]; exact ih (j + 1) _ _ I32 (by omega) hs32 hk32 (by omega) (by omega))
                      | (refine ar_iinc (k := 72) (l2 := [(6, _), (5, _), (4, _), (10, _), (9, _), (8, _), (7, _), (0, _), (1, _), (2, _), (3, _)]) rfl (by decide) rfl rfl ?_; refine ar_goto (k := 73) rfl ?_; refine ar_sub (l2 := [(6, vi ((j + 1 : Nat) : Int)), (5, vi (m)), (4, vi (b)), (0, vr (some 69)), (1, vi p), (2, vi u), (3, vi g)]) (tw_s (tw_e 0 rfl (by omega)) (tw_s (tw_g 1 rfl) (tw_s (tw_g 2 rfl) (tw_s (tw_g 7 rfl) (tw_s (tw_g 8 rfl) (tw_s (tw_g 9 rfl) (tw_s (tw_g 10 rfl) tw_s0))))))) ?_; rw [show bstN s p u g (k + 1) j b m = bstN s p u g k (j + 1) b m by rw [bstN, if_neg (by omega)]]; exact ih (j + 1) _ _ I32 (by omega) hs32 hk32 (by omega) (by omega))
                  · refine ar_iload (k := 68) rfl rfl ?_
                    refine ar_goto (k := 69) rfl ?_
                    refine ar_istore (k := 71) (l2 := [(5, _), (4, _), (10, _), (9, _), (8, _), (7, _), (6, _), (0, _), (1, _), (2, _), (3, _)]) rfl (by decide) rfl ?_
                    first
                      | (exfalso; omega)
                      | (refine ar_iinc (k := 72) (l2 := [(6, _), (5, _), (4, _), (10, _), (9, _), (8, _), (7, _), (0, _), (1, _), (2, _), (3, _)]) rfl (by decide) rfl rfl ?_; refine ar_goto (k := 73) rfl ?_; refine ar_sub (l2 := [(6, vi ((j + 1 : Nat) : Int)), (5, vi (rWorth s j u)), (4, vi ((j : Int))), (0, vr (some 69)), (1, vi p), (2, vi u), (3, vi g)]) (tw_s (tw_e 0 rfl (by omega)) (tw_s (tw_g 1 rfl) (tw_s (tw_g 2 rfl) (tw_s (tw_g 7 rfl) (tw_s (tw_g 8 rfl) (tw_s (tw_g 9 rfl) (tw_s (tw_g 10 rfl) tw_s0))))))) ?_; rw [show bstN s p u g (k + 1) j b m = bstN s p u g k (j + 1) j (rWorth s j u) by rw [bstN, if_pos (by refine ⟨by omega, by omega, by omega⟩)]]; exact ih (j + 1) _ _ I32 (by omega) hs32 hk32 (by omega) (by omega))
                      | (refine ar_iinc (k := 72) (l2 := [(6, _), (5, _), (4, _), (10, _), (9, _), (8, _), (7, _), (0, _), (1, _), (2, _), (3, _)]) rfl (by decide) rfl rfl ?_; refine ar_goto (k := 73) rfl ?_; refine ar_sub (l2 := [(6, vi ((j + 1 : Nat) : Int)), (5, vi (m)), (4, vi (b)), (0, vr (some 69)), (1, vi p), (2, vi u), (3, vi g)]) (tw_s (tw_e 0 rfl (by omega)) (tw_s (tw_g 1 rfl) (tw_s (tw_g 2 rfl) (tw_s (tw_g 7 rfl) (tw_s (tw_g 8 rfl) (tw_s (tw_g 9 rfl) (tw_s (tw_g 10 rfl) tw_s0))))))) ?_; rw [show bstN s p u g (k + 1) j b m = bstN s p u g k (j + 1) b m by rw [bstN, if_neg (by omega)]]; exact ih (j + 1) _ _ I32 (by omega) hs32 hk32 (by omega) (by omega))
                · refine ar_iload (k := 62) rfl rfl ?_
                  refine ar_goto (k := 63) rfl ?_
                  refine ar_istore (k := 65) (l2 := [(4, _), (10, _), (9, _), (8, _), (7, _), (6, _), (5, _), (0, _), (1, _), (2, _), (3, _)]) rfl (by decide) rfl ?_
                  refine ar_iload (k := 66) rfl rfl ?_
                  refine ar_if_eq (k := 67) rfl (by omega) (fun c67 => ?_) (fun c67 => ?_)
                  · refine ar_iload (k := 70) rfl rfl ?_
                    refine ar_istore (k := 71) (l2 := [(5, _), (4, _), (10, _), (9, _), (8, _), (7, _), (6, _), (0, _), (1, _), (2, _), (3, _)]) rfl (by decide) rfl ?_
                    first
                      | (exfalso; omega)
                      | (refine ar_iinc (k := 72) (l2 := [(6, _), (5, _), (4, _), (10, _), (9, _), (8, _), (7, _), (0, _), (1, _), (2, _), (3, _)]) rfl (by decide) rfl rfl ?_; refine ar_goto (k := 73) rfl ?_; refine ar_sub (l2 := [(6, vi ((j + 1 : Nat) : Int)), (5, vi (rWorth s j u)), (4, vi ((j : Int))), (0, vr (some 69)), (1, vi p), (2, vi u), (3, vi g)]) (tw_s (tw_e 0 rfl (by omega)) (tw_s (tw_g 1 rfl) (tw_s (tw_g 2 rfl) (tw_s (tw_g 7 rfl) (tw_s (tw_g 8 rfl) (tw_s (tw_g 9 rfl) (tw_s (tw_g 10 rfl) tw_s0))))))) ?_; rw [show bstN s p u g (k + 1) j b m = bstN s p u g k (j + 1) j (rWorth s j u) by rw [bstN, if_pos (by refine ⟨by omega, by omega, by omega⟩)]]; exact ih (j + 1) _ _ I32 (by omega) hs32 hk32 (by omega) (by omega))
                      | (refine ar_iinc (k := 72) (l2 := [(6, _), (5, _), (4, _), (10, _), (9, _), (8, _), (7, _), (0, _), (1, _), (2, _), (3, _)]) rfl (by decide) rfl rfl ?_; refine ar_goto (k := 73) rfl ?_; refine ar_sub (l2 := [(6, vi ((j + 1 : Nat) : Int)), (5, vi (m)), (4, vi (b)), (0, vr (some 69)), (1, vi p), (2, vi u), (3, vi g)]) (tw_s (tw_e 0 rfl (by omega)) (tw_s (tw_g 1 rfl) (tw_s (tw_g 2 rfl) (tw_s (tw_g 7 rfl) (tw_s (tw_g 8 rfl) (tw_s (tw_g 9 rfl) (tw_s (tw_g 10 rfl) tw_s0))))))) ?_; rw [show bstN s p u g (k + 1) j b m = bstN s p u g k (j + 1) b m by rw [bstN, if_neg (by omega)]]; exact ih (j + 1) _ _ I32 (by omega) hs32 hk32 (by omega) (by omega))
                  · refine ar_iload (k := 68) rfl rfl ?_
                    refine ar_goto (k := 69) rfl ?_
                    refine ar_istore (k := 71) (l2 := [(5, _), (4, _), (10, _), (9, _), (8, _), (7, _), (6, _), (0, _), (1, _), (2, _), (3, _)]) rfl (by decide) rfl ?_
                    first
                      | (exfalso; omega)
                      | (refine ar_iinc (k := 72) (l2 := [(6, _), (5, _), (4, _), (10, _), (9, _), (8, _), (7, _), (0, _), (1, _), (2, _), (3, _)]) rfl (by decide) rfl rfl ?_; refine ar_goto (k := 73) rfl ?_; refine ar_sub (l2 := [(6, vi ((j + 1 : Nat) : Int)), (5, vi (rWorth s j u)), (4, vi ((j : Int))), (0, vr (some 69)), (1, vi p), (2, vi u), (3, vi g)]) (tw_s (tw_e 0 rfl (by omega)) (tw_s (tw_g 1 rfl) (tw_s (tw_g 2 rfl) (tw_s (tw_g 7 rfl) (tw_s (tw_g 8 rfl) (tw_s (tw_g 9 rfl) (tw_s (tw_g 10 rfl) tw_s0))))))) ?_; rw [show bstN s p u g (k + 1) j b m = bstN s p u g k (j + 1) j (rWorth s j u) by rw [bstN, if_pos (by refine ⟨by omega, by omega, by omega⟩)]]; exact ih (j + 1) _ _ I32 (by omega) hs32 hk32 (by omega) (by omega))
                      | (refine ar_iinc (k := 72) (l2 := [(6, _), (5, _), (4, _), (10, _), (9, _), (8, _), (7, _), (0, _), (1, _), (2, _), (3, _)]) rfl (by decide) rfl rfl ?_; refine ar_goto (k := 73) rfl ?_; refine ar_sub (l2 := [(6, vi ((j + 1 : Nat) : Int)), (5, vi (m)), (4, vi (b)), (0, vr (some 69)), (1, vi p), (2, vi u), (3, vi g)]) (tw_s (tw_e 0 rfl (by omega)) (tw_s (tw_g 1 rfl) (tw_s (tw_g 2 rfl) (tw_s (tw_g 7 rfl) (tw_s (tw_g 8 rfl) (tw_s (tw_g 9 rfl) (tw_s (tw_g 10 rfl) tw_s0))))))) ?_; rw [show bstN s p u g (k + 1) j b m = bstN s p u g k (j + 1) b m by rw [bstN, if_neg (by omega)]]; exact ih (j + 1) _ _ I32 (by omega) hs32 hk32 (by omega) (by omega))
              · refine ar_iconst (k := 56) rfl ?_
                refine ar_goto (k := 57) rfl ?_
                refine ar_istore (k := 59) (l2 := [(10, _), (9, _), (8, _), (7, _), (6, _), (5, _), (4, _), (0, _), (1, _), (2, _), (3, _)]) rfl (by decide) rfl ?_
                refine ar_iload (k := 60) rfl rfl ?_
                refine ar_if_eq (k := 61) rfl (by omega) (fun c61 => ?_) (fun c61 => ?_)
                · refine ar_iload (k := 64) rfl rfl ?_
                  refine ar_istore (k := 65) (l2 := [(4, _), (10, _), (9, _), (8, _), (7, _), (6, _), (5, _), (0, _), (1, _), (2, _), (3, _)]) rfl (by decide) rfl ?_
                  refine ar_iload (k := 66) rfl rfl ?_
                  refine ar_if_eq (k := 67) rfl (by omega) (fun c67 => ?_) (fun c67 => ?_)
                  · refine ar_iload (k := 70) rfl rfl ?_
                    refine ar_istore (k := 71) (l2 := [(5, _), (4, _), (10, _), (9, _), (8, _), (7, _), (6, _), (0, _), (1, _), (2, _), (3, _)]) rfl (by decide) rfl ?_
                    first
                      | (exfalso; omega)
                      | (refine ar_iinc (k := 72) (l2 := [(6, _), (5, _), (4, _), (10, _), (9, _), (8, _), (7, _), (0, _), (1, _), (2, _), (3, _)]) rfl (by decide) rfl rfl ?_; refine ar_goto (k := 73) rfl ?_; refine ar_sub (l2 := [(6, vi ((j + 1 : Nat) : Int)), (5, vi (rWorth s j u)), (4, vi ((j : Int))), (0, vr (some 69)), (1, vi p), (2, vi u), (3, vi g)]) (tw_s (tw_e 0 rfl (by omega)) (tw_s (tw_g 1 rfl) (tw_s (tw_g 2 rfl) (tw_s (tw_g 7 rfl) (tw_s (tw_g 8 rfl) (tw_s (tw_g 9 rfl) (tw_s (tw_g 10 rfl) tw_s0))))))) ?_; rw [show bstN s p u g (k + 1) j b m = bstN s p u g k (j + 1) j (rWorth s j u) by rw [bstN, if_pos (by refine ⟨by omega, by omega, by omega⟩)]]; exact ih (j + 1) _ _ I32 (by omega) hs32 hk32 (by omega) (by omega))
                      | (refine ar_iinc (k := 72) (l2 := [(6, _), (5, _), (4, _), (10, _), (9, _), (8, _), (7, _), (0, _), (1, _), (2, _), (3, _)]) rfl (by decide) rfl rfl ?_; refine ar_goto (k := 73) rfl ?_; refine ar_sub (l2 := [(6, vi ((j + 1 : Nat) : Int)), (5, vi (m)), (4, vi (b)), (0, vr (some 69)), (1, vi p), (2, vi u), (3, vi g)]) (tw_s (tw_e 0 rfl (by omega)) (tw_s (tw_g 1 rfl) (tw_s (tw_g 2 rfl) (tw_s (tw_g 7 rfl) (tw_s (tw_g 8 rfl) (tw_s (tw_g 9 rfl) (tw_s (tw_g 10 rfl) tw_s0))))))) ?_; rw [show bstN s p u g (k + 1) j b m = bstN s p u g k (j + 1) b m by rw [bstN, if_neg (by omega)]]; exact ih (j + 1) _ _ I32 (by omega) hs32 hk32 (by omega) (by omega))
                  · refine ar_iload (k := 68) rfl rfl ?_
                    refine ar_goto (k := 69) rfl ?_
                    refine ar_istore (k := 71) (l2 := [(5, _), (4, _), (10, _), (9, _), (8, _), (7, _), (6, _), (0, _), (1, _), (2, _), (3, _)]) rfl (by decide) rfl ?_
                    first
                      | (exfalso; omega)
                      | (refine ar_iinc (k := 72) (l2 := [(6, _), (5, _), (4, _), (10, _), (9, _), (8, _), (7, _), (0, _), (1, _), (2, _), (3, _)]) rfl (by decide) rfl rfl ?_; refine ar_goto (k := 73) rfl ?_; refine ar_sub (l2 := [(6, vi ((j + 1 : Nat) : Int)), (5, vi (rWorth s j u)), (4, vi ((j : Int))), (0, vr (some 69)), (1, vi p), (2, vi u), (3, vi g)]) (tw_s (tw_e 0 rfl (by omega)) (tw_s (tw_g 1 rfl) (tw_s (tw_g 2 rfl) (tw_s (tw_g 7 rfl) (tw_s (tw_g 8 rfl) (tw_s (tw_g 9 rfl) (tw_s (tw_g 10 rfl) tw_s0))))))) ?_; rw [show bstN s p u g (k + 1) j b m = bstN s p u g k (j + 1) j (rWorth s j u) by rw [bstN, if_pos (by refine ⟨by omega, by omega, by omega⟩)]]; exact ih (j + 1) _ _ I32 (by omega) hs32 hk32 (by omega) (by omega))
                      | (refine ar_iinc (k := 72) (l2 := [(6, _), (5, _), (4, _), (10, _), (9, _), (8, _), (7, _), (0, _), (1, _), (2, _), (3, _)]) rfl (by decide) rfl rfl ?_; refine ar_goto (k := 73) rfl ?_; refine ar_sub (l2 := [(6, vi ((j + 1 : Nat) : Int)), (5, vi (m)), (4, vi (b)), (0, vr (some 69)), (1, vi p), (2, vi u), (3, vi g)]) (tw_s (tw_e 0 rfl (by omega)) (tw_s (tw_g 1 rfl) (tw_s (tw_g 2 rfl) (tw_s (tw_g 7 rfl) (tw_s (tw_g 8 rfl) (tw_s (tw_g 9 rfl) (tw_s (tw_g 10 rfl) tw_s0))))))) ?_; rw [show bstN s p u g (k + 1) j b m = bstN s p u g k (j + 1) b m by rw [bstN, if_neg (by omega)]]; exact ih (j + 1) _ _ I32 (by omega) hs32 hk32 (by omega) (by omega))
                · refine ar_iload (k := 62) rfl rfl ?_
                  refine ar_goto (k := 63) rfl ?_
                  refine ar_istore (k := 65) (l2 := [(4, _), (10, _), (9, _), (8, _), (7, _), (6, _), (5, _), (0, _), (1, _), (2, _), (3, _)]) rfl (by decide) rfl ?_
                  refine ar_iload (k := 66) rfl rfl ?_
                  refine ar_if_eq (k := 67) rfl (by omega) (fun c67 => ?_) (fun c67 => ?_)
                  · refine ar_iload (k := 70) rfl rfl ?_
                    refine ar_istore (k := 71) (l2 := [(5, _), (4, _), (10, _), (9, _), (8, _), (7, _), (6, _), (0, _), (1, _), (2, _), (3, _)]) rfl (by decide) rfl ?_
                    first
                      | (exfalso; omega)
                      | (refine ar_iinc (k := 72) (l2 := [(6, _), (5, _), (4, _), (10, _), (9, _), (8, _), (7, _), (0, _), (1, _), (2, _), (3, _)]) rfl (by decide) rfl rfl ?_; refine ar_goto (k := 73) rfl ?_; refine ar_sub (l2 := [(6, vi ((j + 1 : Nat) : Int)), (5, vi (rWorth s j u)), (4, vi ((j : Int))), (0, vr (some 69)), (1, vi p), (2, vi u), (3, vi g)]) (tw_s (tw_e 0 rfl (by omega)) (tw_s (tw_g 1 rfl) (tw_s (tw_g 2 rfl) (tw_s (tw_g 7 rfl) (tw_s (tw_g 8 rfl) (tw_s (tw_g 9 rfl) (tw_s (tw_g 10 rfl) tw_s0))))))) ?_; rw [show bstN s p u g (k + 1) j b m = bstN s p u g k (j + 1) j (rWorth s j u) by rw [bstN, if_pos (by refine ⟨by omega, by omega, by omega⟩)]]; exact ih (j + 1) _ _ I32 (by omega) hs32 hk32 (by omega) (by omega))
                      | (refine ar_iinc (k := 72) (l2 := [(6, _), (5, _), (4, _), (10, _), (9, _), (8, _), (7, _), (0, _), (1, _), (2, _), (3, _)]) rfl (by decide) rfl rfl ?_; refine ar_goto (k := 73) rfl ?_; refine ar_sub (l2 := [(6, vi ((j + 1 : Nat) : Int)), (5, vi (m)), (4, vi (b)), (0, vr (some 69)), (1, vi p), (2, vi u), (3, vi g)]) (tw_s (tw_e 0 rfl (by omega)) (tw_s (tw_g 1 rfl) (tw_s (tw_g 2 rfl) (tw_s (tw_g 7 rfl) (tw_s (tw_g 8 rfl) (tw_s (tw_g 9 rfl) (tw_s (tw_g 10 rfl) tw_s0))))))) ?_; rw [show bstN s p u g (k + 1) j b m = bstN s p u g k (j + 1) b m by rw [bstN, if_neg (by omega)]]; exact ih (j + 1) _ _ I32 (by omega) hs32 hk32 (by omega) (by omega))
                  · refine ar_iload (k := 68) rfl rfl ?_
                    refine ar_goto (k := 69) rfl ?_
                    refine ar_istore (k := 71) (l2 := [(5, _), (4, _), (10, _), (9, _), (8, _), (7, _), (6, _), (0, _), (1, _), (2, _), (3, _)]) rfl (by decide) rfl ?_
                    first
                      | (exfalso; omega)
                      | (refine ar_iinc (k := 72) (l2 := [(6, _), (5, _), (4, _), (10, _), (9, _), (8, _), (7, _), (0, _), (1, _), (2, _), (3, _)]) rfl (by decide) rfl rfl ?_; refine ar_goto (k := 73) rfl ?_; refine ar_sub (l2 := [(6, vi ((j + 1 : Nat) : Int)), (5, vi (rWorth s j u)), (4, vi ((j : Int))), (0, vr (some 69)), (1, vi p), (2, vi u), (3, vi g)]) (tw_s (tw_e 0 rfl (by omega)) (tw_s (tw_g 1 rfl) (tw_s (tw_g 2 rfl) (tw_s (tw_g 7 rfl) (tw_s (tw_g 8 rfl) (tw_s (tw_g 9 rfl) (tw_s (tw_g 10 rfl) tw_s0))))))) ?_; rw [show bstN s p u g (k + 1) j b m = bstN s p u g k (j + 1) j (rWorth s j u) by rw [bstN, if_pos (by refine ⟨by omega, by omega, by omega⟩)]]; exact ih (j + 1) _ _ I32 (by omega) hs32 hk32 (by omega) (by omega))
                      | (refine ar_iinc (k := 72) (l2 := [(6, _), (5, _), (4, _), (10, _), (9, _), (8, _), (7, _), (0, _), (1, _), (2, _), (3, _)]) rfl (by decide) rfl rfl ?_; refine ar_goto (k := 73) rfl ?_; refine ar_sub (l2 := [(6, vi ((j + 1 : Nat) : Int)), (5, vi (m)), (4, vi (b)), (0, vr (some 69)), (1, vi p), (2, vi u), (3, vi g)]) (tw_s (tw_e 0 rfl (by omega)) (tw_s (tw_g 1 rfl) (tw_s (tw_g 2 rfl) (tw_s (tw_g 7 rfl) (tw_s (tw_g 8 rfl) (tw_s (tw_g 9 rfl) (tw_s (tw_g 10 rfl) tw_s0))))))) ?_; rw [show bstN s p u g (k + 1) j b m = bstN s p u g k (j + 1) b m by rw [bstN, if_neg (by omega)]]; exact ih (j + 1) _ _ I32 (by omega) hs32 hk32 (by omega) (by omega))
        · refine ar_iload (k := 36) rfl rfl ?_
          refine ar_iloadn (k := 37) rfl rfl ?_
          refine ar_icmp_eq (k := 38) rfl (by omega) (by omega) (fun c38 => ?_) (fun c38 => ?_)
          · refine ar_iconst (k := 46) rfl ?_
            refine ar_istore (k := 47) (l2 := [(9, _), (8, _), (7, _), (6, _), (5, _), (4, _), (0, _), (1, _), (2, _), (3, _)]) rfl (by decide) rfl ?_
            refine ar_iload (k := 48) rfl rfl ?_
            refine ar_if_eq (k := 49) rfl (by omega) (fun c49 => ?_) (fun c49 => ?_)
            · refine ar_iconst (k := 58) rfl ?_
              refine ar_istore (k := 59) (l2 := [(10, _), (9, _), (8, _), (7, _), (6, _), (5, _), (4, _), (0, _), (1, _), (2, _), (3, _)]) rfl (by decide) rfl ?_
              refine ar_iload (k := 60) rfl rfl ?_
              refine ar_if_eq (k := 61) rfl (by omega) (fun c61 => ?_) (fun c61 => ?_)
              · refine ar_iload (k := 64) rfl rfl ?_
                refine ar_istore (k := 65) (l2 := [(4, _), (10, _), (9, _), (8, _), (7, _), (6, _), (5, _), (0, _), (1, _), (2, _), (3, _)]) rfl (by decide) rfl ?_
                refine ar_iload (k := 66) rfl rfl ?_
                refine ar_if_eq (k := 67) rfl (by omega) (fun c67 => ?_) (fun c67 => ?_)
                · refine ar_iload (k := 70) rfl rfl ?_
                  refine ar_istore (k := 71) (l2 := [(5, _), (4, _), (10, _), (9, _), (8, _), (7, _), (6, _), (0, _), (1, _), (2, _), (3, _)]) rfl (by decide) rfl ?_
                  first
                    | (exfalso; omega)
                    | (refine ar_iinc (k := 72) (l2 := [(6, _), (5, _), (4, _), (10, _), (9, _), (8, _), (7, _), (0, _), (1, _), (2, _), (3, _)]) rfl (by decide) rfl rfl ?_; refine ar_goto (k := 73) rfl ?_; refine ar_sub (l2 := [(6, vi ((j + 1 : Nat) : Int)), (5, vi (rWorth s j u)), (4, vi ((j : Int))), (0, vr (some 69)), (1, vi p), (2, vi u), (3, vi g)]) (tw_s (tw_e 0 rfl (by omega)) (tw_s (tw_g 1 rfl) (tw_s (tw_g 2 rfl) (tw_s (tw_g 7 rfl) (tw_s (tw_g 8 rfl) (tw_s (tw_g 9 rfl) (tw_s (tw_g 10 rfl) tw_s0))))))) ?_; rw [show bstN s p u g (k + 1) j b m = bstN s p u g k (j + 1) j (rWorth s j u) by rw [bstN, if_pos (by refine ⟨by omega, by omega, by omega⟩)]]; exact ih (j + 1) _ _ I32 (by omega) hs32 hk32 (by omega) (by omega))
                    | (refine ar_iinc (k := 72) (l2 := [(6, _), (5, _), (4, _), (10, _), (9, _), (8, _), (7, _), (0, _), (1, _), (2, _), (3, _)]) rfl (by decide) rfl rfl ?_; refine ar_goto (k := 73) rfl ?_; refine ar_sub (l2 := [(6, vi ((j + 1 : Nat) : Int)), (5, vi (m)), (4, vi (b)), (0, vr (some 69)), (1, vi p), (2, vi u), (3, vi g)]) (tw_s (tw_e 0 rfl (by omega)) (tw_s (tw_g 1 rfl) (tw_s (tw_g 2 rfl) (tw_s (tw_g 7 rfl) (tw_s (tw_g 8 rfl) (tw_s (tw_g 9 rfl) (tw_s (tw_g 10 rfl) tw_s0))))))) ?_; rw [show bstN s p u g (k + 1) j b m = bstN s p u g k (j + 1) b m by rw [bstN, if_neg (by omega)]]; exact ih (j + 1) _ _ I32 (by omega) hs32 hk32 (by omega) (by omega))
                · refine ar_iload (k := 68) rfl rfl ?_
                  refine ar_goto (k := 69) rfl ?_
                  refine ar_istore (k := 71) (l2 := [(5, _), (4, _), (10, _), (9, _), (8, _), (7, _), (6, _), (0, _), (1, _), (2, _), (3, _)]) rfl (by decide) rfl ?_
                  first
                    | (exfalso; omega)
                    | (refine ar_iinc (k := 72) (l2 := [(6, _), (5, _), (4, _), (10, _), (9, _), (8, _), (7, _), (0, _), (1, _), (2, _), (3, _)]) rfl (by decide) rfl rfl ?_; refine ar_goto (k := 73) rfl ?_; refine ar_sub (l2 := [(6, vi ((j + 1 : Nat) : Int)), (5, vi (rWorth s j u)), (4, vi ((j : Int))), (0, vr (some 69)), (1, vi p), (2, vi u), (3, vi g)]) (tw_s (tw_e 0 rfl (by omega)) (tw_s (tw_g 1 rfl) (tw_s (tw_g 2 rfl) (tw_s (tw_g 7 rfl) (tw_s (tw_g 8 rfl) (tw_s (tw_g 9 rfl) (tw_s (tw_g 10 rfl) tw_s0))))))) ?_; rw [show bstN s p u g (k + 1) j b m = bstN s p u g k (j + 1) j (rWorth s j u) by rw [bstN, if_pos (by refine ⟨by omega, by omega, by omega⟩)]]; exact ih (j + 1) _ _ I32 (by omega) hs32 hk32 (by omega) (by omega))
                    | (refine ar_iinc (k := 72) (l2 := [(6, _), (5, _), (4, _), (10, _), (9, _), (8, _), (7, _), (0, _), (1, _), (2, _), (3, _)]) rfl (by decide) rfl rfl ?_; refine ar_goto (k := 73) rfl ?_; refine ar_sub (l2 := [(6, vi ((j + 1 : Nat) : Int)), (5, vi (m)), (4, vi (b)), (0, vr (some 69)), (1, vi p), (2, vi u), (3, vi g)]) (tw_s (tw_e 0 rfl (by omega)) (tw_s (tw_g 1 rfl) (tw_s (tw_g 2 rfl) (tw_s (tw_g 7 rfl) (tw_s (tw_g 8 rfl) (tw_s (tw_g 9 rfl) (tw_s (tw_g 10 rfl) tw_s0))))))) ?_; rw [show bstN s p u g (k + 1) j b m = bstN s p u g k (j + 1) b m by rw [bstN, if_neg (by omega)]]; exact ih (j + 1) _ _ I32 (by omega) hs32 hk32 (by omega) (by omega))
              · refine ar_iload (k := 62) rfl rfl ?_
                refine ar_goto (k := 63) rfl ?_
                refine ar_istore (k := 65) (l2 := [(4, _), (10, _), (9, _), (8, _), (7, _), (6, _), (5, _), (0, _), (1, _), (2, _), (3, _)]) rfl (by decide) rfl ?_
                refine ar_iload (k := 66) rfl rfl ?_
                refine ar_if_eq (k := 67) rfl (by omega) (fun c67 => ?_) (fun c67 => ?_)
                · refine ar_iload (k := 70) rfl rfl ?_
                  refine ar_istore (k := 71) (l2 := [(5, _), (4, _), (10, _), (9, _), (8, _), (7, _), (6, _), (0, _), (1, _), (2, _), (3, _)]) rfl (by decide) rfl ?_
                  first
                    | (exfalso; omega)
                    | (refine ar_iinc (k := 72) (l2 := [(6, _), (5, _), (4, _), (10, _), (9, _), (8, _), (7, _), (0, _), (1, _), (2, _), (3, _)]) rfl (by decide) rfl rfl ?_; refine ar_goto (k := 73) rfl ?_; refine ar_sub (l2 := [(6, vi ((j + 1 : Nat) : Int)), (5, vi (rWorth s j u)), (4, vi ((j : Int))), (0, vr (some 69)), (1, vi p), (2, vi u), (3, vi g)]) (tw_s (tw_e 0 rfl (by omega)) (tw_s (tw_g 1 rfl) (tw_s (tw_g 2 rfl) (tw_s (tw_g 7 rfl) (tw_s (tw_g 8 rfl) (tw_s (tw_g 9 rfl) (tw_s (tw_g 10 rfl) tw_s0))))))) ?_; rw [show bstN s p u g (k + 1) j b m = bstN s p u g k (j + 1) j (rWorth s j u) by rw [bstN, if_pos (by refine ⟨by omega, by omega, by omega⟩)]]; exact ih (j + 1) _ _ I32 (by omega) hs32 hk32 (by omega) (by omega))
                    | (refine ar_iinc (k := 72) (l2 := [(6, _), (5, _), (4, _), (10, _), (9, _), (8, _), (7, _), (0, _), (1, _), (2, _), (3, _)]) rfl (by decide) rfl rfl ?_; refine ar_goto (k := 73) rfl ?_; refine ar_sub (l2 := [(6, vi ((j + 1 : Nat) : Int)), (5, vi (m)), (4, vi (b)), (0, vr (some 69)), (1, vi p), (2, vi u), (3, vi g)]) (tw_s (tw_e 0 rfl (by omega)) (tw_s (tw_g 1 rfl) (tw_s (tw_g 2 rfl) (tw_s (tw_g 7 rfl) (tw_s (tw_g 8 rfl) (tw_s (tw_g 9 rfl) (tw_s (tw_g 10 rfl) tw_s0))))))) ?_; rw [show bstN s p u g (k + 1) j b m = bstN s p u g k (j + 1) b m by rw [bstN, if_neg (by omega)]]; exact ih (j + 1) _ _ I32 (by omega) hs32 hk32 (by omega) (by omega))
                · refine ar_iload (k := 68) rfl rfl ?_
                  refine ar_goto (k := 69) rfl ?_
                  refine ar_istore (k := 71) (l2 := [(5, _), (4, _), (10, _), (9, _), (8, _), (7, _), (6, _), (0, _), (1, _), (2, _), (3, _)]) rfl (by decide) rfl ?_
                  first
                    | (exfalso; omega)
                    | (refine ar_iinc (k := 72) (l2 := [(6, _), (5, _), (4, _), (10, _), (9, _), (8, _), (7, _), (0, _), (1, _), (2, _), (3, _)]) rfl (by decide) rfl rfl ?_; refine ar_goto (k := 73) rfl ?_; refine ar_sub (l2 := [(6, vi ((j + 1 : Nat) : Int)), (5, vi (rWorth s j u)), (4, vi ((j : Int))), (0, vr (some 69)), (1, vi p), (2, vi u), (3, vi g)]) (tw_s (tw_e 0 rfl (by omega)) (tw_s (tw_g 1 rfl) (tw_s (tw_g 2 rfl) (tw_s (tw_g 7 rfl) (tw_s (tw_g 8 rfl) (tw_s (tw_g 9 rfl) (tw_s (tw_g 10 rfl) tw_s0))))))) ?_; rw [show bstN s p u g (k + 1) j b m = bstN s p u g k (j + 1) j (rWorth s j u) by rw [bstN, if_pos (by refine ⟨by omega, by omega, by omega⟩)]]; exact ih (j + 1) _ _ I32 (by omega) hs32 hk32 (by omega) (by omega))
                    | (refine ar_iinc (k := 72) (l2 := [(6, _), (5, _), (4, _), (10, _), (9, _), (8, _), (7, _), (0, _), (1, _), (2, _), (3, _)]) rfl (by decide) rfl rfl ?_; refine ar_goto (k := 73) rfl ?_; refine ar_sub (l2 := [(6, vi ((j + 1 : Nat) : Int)), (5, vi (m)), (4, vi (b)), (0, vr (some 69)), (1, vi p), (2, vi u), (3, vi g)]) (tw_s (tw_e 0 rfl (by omega)) (tw_s (tw_g 1 rfl) (tw_s (tw_g 2 rfl) (tw_s (tw_g 7 rfl) (tw_s (tw_g 8 rfl) (tw_s (tw_g 9 rfl) (tw_s (tw_g 10 rfl) tw_s0))))))) ?_; rw [show bstN s p u g (k + 1) j b m = bstN s p u g k (j + 1) b m by rw [bstN, if_neg (by omega)]]; exact ih (j + 1) _ _ I32 (by omega) hs32 hk32 (by omega) (by omega))
            · refine ar_iload (k := 50) rfl rfl ?_
              refine ar_iconst (k := 51) rfl ?_
              refine ar_icmp_eq (k := 52) rfl (by omega) (by omega) (fun c52 => ?_) (fun c52 => ?_)
              · refine ar_iconst (k := 56) rfl ?_
                refine ar_goto (k := 57) rfl ?_
                refine ar_istore (k := 59) (l2 := [(10, _), (9, _), (8, _), (7, _), (6, _), (5, _), (4, _), (0, _), (1, _), (2, _), (3, _)]) rfl (by decide) rfl ?_
                refine ar_iload (k := 60) rfl rfl ?_
                refine ar_if_eq (k := 61) rfl (by omega) (fun c61 => ?_) (fun c61 => ?_)
                · refine ar_iload (k := 64) rfl rfl ?_
                  refine ar_istore (k := 65) (l2 := [(4, _), (10, _), (9, _), (8, _), (7, _), (6, _), (5, _), (0, _), (1, _), (2, _), (3, _)]) rfl (by decide) rfl ?_
                  refine ar_iload (k := 66) rfl rfl ?_
                  refine ar_if_eq (k := 67) rfl (by omega) (fun c67 => ?_) (fun c67 => ?_)
                  · refine ar_iload (k := 70) rfl rfl ?_
                    refine ar_istore (k := 71) (l2 := [(5, _), (4, _), (10, _), (9, _), (8, _), (7, _), (6, _), (0, _), (1, _), (2, _), (3, _)]) rfl (by decide) rfl ?_
                    first
                      | (exfalso; omega)
                      | (refine ar_iinc (k := 72) (l2 := [(6, _), (5, _), (4, _), (10, _), (9, _), (8, _), (7, _), (0, _), (1, _), (2, _), (3, _)]) rfl (by decide) rfl rfl ?_; refine ar_goto (k := 73) rfl ?_; refine ar_sub (l2 := [(6, vi ((j + 1 : Nat) : Int)), (5, vi (rWorth s j u)), (4, vi ((j : Int))), (0, vr (some 69)), (1, vi p), (2, vi u), (3, vi g)]) (tw_s (tw_e 0 rfl (by omega)) (tw_s (tw_g 1 rfl) (tw_s (tw_g 2 rfl) (tw_s (tw_g 7 rfl) (tw_s (tw_g 8 rfl) (tw_s (tw_g 9 rfl) (tw_s (tw_g 10 rfl) tw_s0))))))) ?_; rw [show bstN s p u g (k + 1) j b m = bstN s p u g k (j + 1) j (rWorth s j u) by rw [bstN, if_pos (by refine ⟨by omega, by omega, by omega⟩)]]; exact ih (j + 1) _ _ I32 (by omega) hs32 hk32 (by omega) (by omega))
                      | (refine ar_iinc (k := 72) (l2 := [(6, _), (5, _), (4, _), (10, _), (9, _), (8, _), (7, _), (0, _), (1, _), (2, _), (3, _)]) rfl (by decide) rfl rfl ?_; refine ar_goto (k := 73) rfl ?_; refine ar_sub (l2 := [(6, vi ((j + 1 : Nat) : Int)), (5, vi (m)), (4, vi (b)), (0, vr (some 69)), (1, vi p), (2, vi u), (3, vi g)]) (tw_s (tw_e 0 rfl (by omega)) (tw_s (tw_g 1 rfl) (tw_s (tw_g 2 rfl) (tw_s (tw_g 7 rfl) (tw_s (tw_g 8 rfl) (tw_s (tw_g 9 rfl) (tw_s (tw_g 10 rfl) tw_s0))))))) ?_; rw [show bstN s p u g (k + 1) j b m = bstN s p u g k (j + 1) b m by rw [bstN, if_neg (by omega)]]; exact ih (j + 1) _ _ I32 (by omega) hs32 hk32 (by omega) (by omega))
                  · refine ar_iload (k := 68) rfl rfl ?_
                    refine ar_goto (k := 69) rfl ?_
                    refine ar_istore (k := 71) (l2 := [(5, _), (4, _), (10, _), (9, _), (8, _), (7, _), (6, _), (0, _), (1, _), (2, _), (3, _)]) rfl (by decide) rfl ?_
                    first
                      | (exfalso; omega)
                      | (refine ar_iinc (k := 72) (l2 := [(6, _), (5, _), (4, _), (10, _), (9, _), (8, _), (7, _), (0, _), (1, _), (2, _), (3, _)]) rfl (by decide) rfl rfl ?_; refine ar_goto (k := 73) rfl ?_; refine ar_sub (l2 := [(6, vi ((j + 1 : Nat) : Int)), (5, vi (rWorth s j u)), (4, vi ((j : Int))), (0, vr (some 69)), (1, vi p), (2, vi u), (3, vi g)]) (tw_s (tw_e 0 rfl (by omega)) (tw_s (tw_g 1 rfl) (tw_s (tw_g 2 rfl) (tw_s (tw_g 7 rfl) (tw_s (tw_g 8 rfl) (tw_s (tw_g 9 rfl) (tw_s (tw_g 10 rfl) tw_s0))))))) ?_; rw [show bstN s p u g (k + 1) j b m = bstN s p u g k (j + 1) j (rWorth s j u) by rw [bstN, if_pos (by refine ⟨by omega, by omega, by omega⟩)]]; exact ih (j + 1) _ _ I32 (by omega) hs32 hk32 (by omega) (by omega))
                      | (refine ar_iinc (k := 72) (l2 := [(6, _), (5, _), (4, _), (10, _), (9, _), (8, _), (7, _), (0, _), (1, _), (2, _), (3, _)]) rfl (by decide) rfl rfl ?_; refine ar_goto (k := 73) rfl ?_; refine ar_sub (l2 := [(6, vi ((j + 1 : Nat) : Int)), (5, vi (m)), (4, vi (b)), (0, vr (some 69)), (1, vi p), (2, vi u), (3, vi g)]) (tw_s (tw_e 0 rfl (by omega)) (tw_s (tw_g 1 rfl) (tw_s (tw_g 2 rfl) (tw_s (tw_g 7 rfl) (tw_s (tw_g 8 rfl) (tw_s (tw_g 9 rfl) (tw_s (tw_g 10 rfl) tw_s0))))))) ?_; rw [show bstN s p u g (k + 1) j b m = bstN s p u g k (j + 1) b m by rw [bstN, if_neg (by omega)]]; exact ih (j + 1) _ _ I32 (by omega) hs32 hk32 (by omega) (by omega))
                · refine ar_iload (k := 62) rfl rfl ?_
                  refine ar_goto (k := 63) rfl ?_
                  refine ar_istore (k := 65) (l2 := [(4, _), (10, _), (9, _), (8, _), (7, _), (6, _), (5, _), (0, _), (1, _), (2, _), (3, _)]) rfl (by decide) rfl ?_
                  refine ar_iload (k := 66) rfl rfl ?_
                  refine ar_if_eq (k := 67) rfl (by omega) (fun c67 => ?_) (fun c67 => ?_)
                  · refine ar_iload (k := 70) rfl rfl ?_
                    refine ar_istore (k := 71) (l2 := [(5, _), (4, _), (10, _), (9, _), (8, _), (7, _), (6, _), (0, _), (1, _), (2, _), (3, _)]) rfl (by decide) rfl ?_
                    first
                      | (exfalso; omega)
                      | (refine ar_iinc (k := 72) (l2 := [(6, _), (5, _), (4, _), (10, _), (9, _), (8, _), (7, _), (0, _), (1, _), (2, _), (3, _)]) rfl (by decide) rfl rfl ?_; refine ar_goto (k := 73) rfl ?_; refine ar_sub (l2 := [(6, vi ((j + 1 : Nat) : Int)), (5, vi (rWorth s j u)), (4, vi ((j : Int))), (0, vr (some 69)), (1, vi p), (2, vi u), (3, vi g)]) (tw_s (tw_e 0 rfl (by omega)) (tw_s (tw_g 1 rfl) (tw_s (tw_g 2 rfl) (tw_s (tw_g 7 rfl) (tw_s (tw_g 8 rfl) (tw_s (tw_g 9 rfl) (tw_s (tw_g 10 rfl) tw_s0))))))) ?_; rw [show bstN s p u g (k + 1) j b m = bstN s p u g k (j + 1) j (rWorth s j u) by rw [bstN, if_pos (by refine ⟨by omega, by omega, by omega⟩)]]; exact ih (j + 1) _ _ I32 (by omega) hs32 hk32 (by omega) (by omega))
                      | (refine ar_iinc (k := 72) (l2 := [(6, _), (5, _), (4, _), (10, _), (9, _), (8, _), (7, _), (0, _), (1, _), (2, _), (3, _)]) rfl (by decide) rfl rfl ?_; refine ar_goto (k := 73) rfl ?_; refine ar_sub (l2 := [(6, vi ((j + 1 : Nat) : Int)), (5, vi (m)), (4, vi (b)), (0, vr (some 69)), (1, vi p), (2, vi u), (3, vi g)]) (tw_s (tw_e 0 rfl (by omega)) (tw_s (tw_g 1 rfl) (tw_s (tw_g 2 rfl) (tw_s (tw_g 7 rfl) (tw_s (tw_g 8 rfl) (tw_s (tw_g 9 rfl) (tw_s (tw_g 10 rfl) tw_s0))))))) ?_; rw [show bstN s p u g (k + 1) j b m = bstN s p u g k (j + 1) b m by rw [bstN, if_neg (by omega)]]; exact ih (j + 1) _ _ I32 (by omega) hs32 hk32 (by omega) (by omega))
                  · refine ar_iload (k := 68) rfl rfl ?_
                    refine ar_goto (k := 69) rfl ?_
                    refine ar_istore (k := 71) (l2 := [(5, _), (4, _), (10, _), (9, _), (8, _), (7, _), (6, _), (0, _), (1, _), (2, _), (3, _)]) rfl (by decide) rfl ?_
                    first
                      | (exfalso; omega)
                      | (refine ar_iinc (k := 72) (l2 := [(6, _), (5, _), (4, _), (10, _), (9, _), (8, _), (7, _), (0, _), (1, _), (2, _), (3, _)]) rfl (by decide) rfl rfl ?_; refine ar_goto (k := 73) rfl ?_; refine ar_sub (l2 := [(6, vi ((j + 1 : Nat) : Int)), (5, vi (rWorth s j u)), (4, vi ((j : Int))), (0, vr (some 69)), (1, vi p), (2, vi u), (3, vi g)]) (tw_s (tw_e 0 rfl (by omega)) (tw_s (tw_g 1 rfl) (tw_s (tw_g 2 rfl) (tw_s (tw_g 7 rfl) (tw_s (tw_g 8 rfl) (tw_s (tw_g 9 rfl) (tw_s (tw_g 10 rfl) tw_s0))))))) ?_; rw [show bstN s p u g (k + 1) j b m = bstN s p u g k (j + 1) j (rWorth s j u) by rw [bstN, if_pos (by refine ⟨by omega, by omega, by omega⟩)]]; exact ih (j + 1) _ _ I32 (by omega) hs32 hk32 (by omega) (by omega))
                      | (refine ar_iinc (k := 72) (l2 := [(6, _), (5, _), (4, _), (10, _), (9, _), (8, _), (7, _), (0, _), (1, _), (2, _), (3, _)]) rfl (by decide) rfl rfl ?_; refine ar_goto (k := 73) rfl ?_; refine ar_sub (l2 := [(6, vi ((j + 1 : Nat) : Int)), (5, vi (m)), (4, vi (b)), (0, vr (some 69)), (1, vi p), (2, vi u), (3, vi g)]) (tw_s (tw_e 0 rfl (by omega)) (tw_s (tw_g 1 rfl) (tw_s (tw_g 2 rfl) (tw_s (tw_g 7 rfl) (tw_s (tw_g 8 rfl) (tw_s (tw_g 9 rfl) (tw_s (tw_g 10 rfl) tw_s0))))))) ?_; rw [show bstN s p u g (k + 1) j b m = bstN s p u g k (j + 1) b m by rw [bstN, if_neg (by omega)]]; exact ih (j + 1) _ _ I32 (by omega) hs32 hk32 (by omega) (by omega))
              · refine ar_iload (k := 53) rfl rfl ?_
                refine ar_iload (k := 54) rfl rfl ?_
                refine ar_icmp_le (k := 55) rfl (by omega) (by omega) (fun c55 => ?_) (fun c55 => ?_)
                · refine ar_iconst (k := 58) rfl ?_
                  refine ar_istore (k := 59) (l2 := [(10, _), (9, _), (8, _), (7, _), (6, _), (5, _), (4, _), (0, _), (1, _), (2, _), (3, _)]) rfl (by decide) rfl ?_
                  refine ar_iload (k := 60) rfl rfl ?_
                  refine ar_if_eq (k := 61) rfl (by omega) (fun c61 => ?_) (fun c61 => ?_)
                  · refine ar_iload (k := 64) rfl rfl ?_
                    refine ar_istore (k := 65) (l2 := [(4, _), (10, _), (9, _), (8, _), (7, _), (6, _), (5, _), (0, _), (1, _), (2, _), (3, _)]) rfl (by decide) rfl ?_
                    refine ar_iload (k := 66) rfl rfl ?_
                    refine ar_if_eq (k := 67) rfl (by omega) (fun c67 => ?_) (fun c67 => ?_)
                    · refine ar_iload (k := 70) rfl rfl ?_
                      refine ar_istore (k := 71) (l2 := [(5, _), (4, _), (10, _), (9, _), (8, _), (7, _), (6, _), (0, _), (1, _), (2, _), (3, _)]) rfl (by decide) rfl ?_
                      first
                        | (exfalso; omega)
                        | (refine ar_iinc (k := 72) (l2 := [(6, _), (5, _), (4, _), (10, _), (9, _), (8, _), (7, _), (0, _), (1, _), (2, _), (3, _)]) rfl (by decide) rfl rfl ?_; refine ar_goto (k := 73) rfl ?_; refine ar_sub (l2 := [(6, vi ((j + 1 : Nat) : Int)), (5, vi (rWorth s j u)), (4, vi ((j : Int))), (0, vr (some 69)), (1, vi p), (2, vi u), (3, vi g)]) (tw_s (tw_e 0 rfl (by omega)) (tw_s (tw_g 1 rfl) (tw_s (tw_g 2 rfl) (tw_s (tw_g 7 rfl) (tw_s (tw_g 8 rfl) (tw_s (tw_g 9 rfl) (tw_s (tw_g 10 rfl) tw_s0))))))) ?_; rw [show bstN s p u g (k + 1) j b m = bstN s p u g k (j + 1) j (rWorth s j u) by rw [bstN, if_pos (by refine ⟨by omega, by omega, by omega⟩)]]; exact ih (j + 1) _ _ I32 (by omega) hs32 hk32 (by omega) (by omega))
                        | (refine ar_iinc (k := 72) (l2 := [(6, _), (5, _), (4, _), (10, _), (9, _), (8, _), (7, _), (0, _), (1, _), (2, _), (3, _)]) rfl (by decide) rfl rfl ?_; refine ar_goto (k := 73) rfl ?_; refine ar_sub (l2 := [(6, vi ((j + 1 : Nat) : Int)), (5, vi (m)), (4, vi (b)), (0, vr (some 69)), (1, vi p), (2, vi u), (3, vi g)]) (tw_s (tw_e 0 rfl (by omega)) (tw_s (tw_g 1 rfl) (tw_s (tw_g 2 rfl) (tw_s (tw_g 7 rfl) (tw_s (tw_g 8 rfl) (tw_s (tw_g 9 rfl) (tw_s (tw_g 10 rfl) tw_s0))))))) ?_; rw [show bstN s p u g (k + 1) j b m = bstN s p u g k (j + 1) b m by rw [bstN, if_neg (by omega)]]; exact ih (j + 1) _ _ I32 (by omega) hs32 hk32 (by omega) (by omega))
                    · refine ar_iload (k := 68) rfl rfl ?_
                      refine ar_goto (k := 69) rfl ?_
                      refine ar_istore (k := 71) (l2 := [(5, _), (4, _), (10, _), (9, _), (8, _), (7, _), (6, _), (0, _), (1, _), (2, _), (3, _)]) rfl (by decide) rfl ?_
                      first
                        | (exfalso; omega)
                        | (refine ar_iinc (k := 72) (l2 := [(6, _), (5, _), (4, _), (10, _), (9, _), (8, _), (7, _), (0, _), (1, _), (2, _), (3, _)]) rfl (by decide) rfl rfl ?_; refine ar_goto (k := 73) rfl ?_; refine ar_sub (l2 := [(6, vi ((j + 1 : Nat) : Int)), (5, vi (rWorth s j u)), (4, vi ((j : Int))), (0, vr (some 69)), (1, vi p), (2, vi u), (3, vi g)]) (tw_s (tw_e 0 rfl (by omega)) (tw_s (tw_g 1 rfl) (tw_s (tw_g 2 rfl) (tw_s (tw_g 7 rfl) (tw_s (tw_g 8 rfl) (tw_s (tw_g 9 rfl) (tw_s (tw_g 10 rfl) tw_s0))))))) ?_; rw [show bstN s p u g (k + 1) j b m = bstN s p u g k (j + 1) j (rWorth s j u) by rw [bstN, if_pos (by refine ⟨by omega, by omega, by omega⟩)]]; exact ih (j + 1) _ _ I32 (by omega) hs32 hk32 (by omega) (by omega))
                        | (refine ar_iinc (k := 72) (l2 := [(6, _), (5, _), (4, _), (10, _), (9, _), (8, _), (7, _), (0, _), (1, _), (2, _), (3, _)]) rfl (by decide) rfl rfl ?_; refine ar_goto (k := 73) rfl ?_; refine ar_sub (l2 := [(6, vi ((j + 1 : Nat) : Int)), (5, vi (m)), (4, vi (b)), (0, vr (some 69)), (1, vi p), (2, vi u), (3, vi g)]) (tw_s (tw_e 0 rfl (by omega)) (tw_s (tw_g 1 rfl) (tw_s (tw_g 2 rfl) (tw_s (tw_g 7 rfl) (tw_s (tw_g 8 rfl) (tw_s (tw_g 9 rfl) (tw_s (tw_g 10 rfl) tw_s0))))))) ?_; rw [show bstN s p u g (k + 1) j b m = bstN s p u g k (j + 1) b m by rw [bstN, if_neg (by omega)]]; exact ih (j + 1) _ _ I32 (by omega) hs32 hk32 (by omega) (by omega))
                  · refine ar_iload (k := 62) rfl rfl ?_
                    refine ar_goto (k := 63) rfl ?_
                    refine ar_istore (k := 65) (l2 := [(4, _), (10, _), (9, _), (8, _), (7, _), (6, _), (5, _), (0, _), (1, _), (2, _), (3, _)]) rfl (by decide) rfl ?_
                    refine ar_iload (k := 66) rfl rfl ?_
                    refine ar_if_eq (k := 67) rfl (by omega) (fun c67 => ?_) (fun c67 => ?_)
                    · refine ar_iload (k := 70) rfl rfl ?_
                      refine ar_istore (k := 71) (l2 := [(5, _), (4, _), (10, _), (9, _), (8, _), (7, _), (6, _), (0, _), (1, _), (2, _), (3, _)]) rfl (by decide) rfl ?_
                      first
                        | (exfalso; omega)
                        | (refine ar_iinc (k := 72) (l2 := [(6, _), (5, _), (4, _), (10, _), (9, _), (8, _), (7, _), (0, _), (1, _), (2, _), (3, _)]) rfl (by decide) rfl rfl ?_; refine ar_goto (k := 73) rfl ?_; refine ar_sub (l2 := [(6, vi ((j + 1 : Nat) : Int)), (5, vi (rWorth s j u)), (4, vi ((j : Int))), (0, vr (some 69)), (1, vi p), (2, vi u), (3, vi g)]) (tw_s (tw_e 0 rfl (by omega)) (tw_s (tw_g 1 rfl) (tw_s (tw_g 2 rfl) (tw_s (tw_g 7 rfl) (tw_s (tw_g 8 rfl) (tw_s (tw_g 9 rfl) (tw_s (tw_g 10 rfl) tw_s0))))))) ?_; rw [show bstN s p u g (k + 1) j b m = bstN s p u g k (j + 1) j (rWorth s j u) by rw [bstN, if_pos (by refine ⟨by omega, by omega, by omega⟩)]]; exact ih (j + 1) _ _ I32 (by omega) hs32 hk32 (by omega) (by omega))
                        | (refine ar_iinc (k := 72) (l2 := [(6, _), (5, _), (4, _), (10, _), (9, _), (8, _), (7, _), (0, _), (1, _), (2, _), (3, _)]) rfl (by decide) rfl rfl ?_; refine ar_goto (k := 73) rfl ?_; refine ar_sub (l2 := [(6, vi ((j + 1 : Nat) : Int)), (5, vi (m)), (4, vi (b)), (0, vr (some 69)), (1, vi p), (2, vi u), (3, vi g)]) (tw_s (tw_e 0 rfl (by omega)) (tw_s (tw_g 1 rfl) (tw_s (tw_g 2 rfl) (tw_s (tw_g 7 rfl) (tw_s (tw_g 8 rfl) (tw_s (tw_g 9 rfl) (tw_s (tw_g 10 rfl) tw_s0))))))) ?_; rw [show bstN s p u g (k + 1) j b m = bstN s p u g k (j + 1) b m by rw [bstN, if_neg (by omega)]]; exact ih (j + 1) _ _ I32 (by omega) hs32 hk32 (by omega) (by omega))
                    · refine ar_iload (k := 68) rfl rfl ?_
                      refine ar_goto (k := 69) rfl ?_
                      refine ar_istore (k := 71) (l2 := [(5, _), (4, _), (10, _), (9, _), (8, _), (7, _), (6, _), (0, _), (1, _), (2, _), (3, _)]) rfl (by decide) rfl ?_
                      first
                        | (exfalso; omega)
                        | (refine ar_iinc (k := 72) (l2 := [(6, _), (5, _), (4, _), (10, _), (9, _), (8, _), (7, _), (0, _), (1, _), (2, _), (3, _)]) rfl (by decide) rfl rfl ?_; refine ar_goto (k := 73) rfl ?_; refine ar_sub (l2 := [(6, vi ((j + 1 : Nat) : Int)), (5, vi (rWorth s j u)), (4, vi ((j : Int))), (0, vr (some 69)), (1, vi p), (2, vi u), (3, vi g)]) (tw_s (tw_e 0 rfl (by omega)) (tw_s (tw_g 1 rfl) (tw_s (tw_g 2 rfl) (tw_s (tw_g 7 rfl) (tw_s (tw_g 8 rfl) (tw_s (tw_g 9 rfl) (tw_s (tw_g 10 rfl) tw_s0))))))) ?_; rw [show bstN s p u g (k + 1) j b m = bstN s p u g k (j + 1) j (rWorth s j u) by rw [bstN, if_pos (by refine ⟨by omega, by omega, by omega⟩)]]; exact ih (j + 1) _ _ I32 (by omega) hs32 hk32 (by omega) (by omega))
                        | (refine ar_iinc (k := 72) (l2 := [(6, _), (5, _), (4, _), (10, _), (9, _), (8, _), (7, _), (0, _), (1, _), (2, _), (3, _)]) rfl (by decide) rfl rfl ?_; refine ar_goto (k := 73) rfl ?_; refine ar_sub (l2 := [(6, vi ((j + 1 : Nat) : Int)), (5, vi (m)), (4, vi (b)), (0, vr (some 69)), (1, vi p), (2, vi u), (3, vi g)]) (tw_s (tw_e 0 rfl (by omega)) (tw_s (tw_g 1 rfl) (tw_s (tw_g 2 rfl) (tw_s (tw_g 7 rfl) (tw_s (tw_g 8 rfl) (tw_s (tw_g 9 rfl) (tw_s (tw_g 10 rfl) tw_s0))))))) ?_; rw [show bstN s p u g (k + 1) j b m = bstN s p u g k (j + 1) b m by rw [bstN, if_neg (by omega)]]; exact ih (j + 1) _ _ I32 (by omega) hs32 hk32 (by omega) (by omega))
                · refine ar_iconst (k := 56) rfl ?_
                  refine ar_goto (k := 57) rfl ?_
                  refine ar_istore (k := 59) (l2 := [(10, _), (9, _), (8, _), (7, _), (6, _), (5, _), (4, _), (0, _), (1, _), (2, _), (3, _)]) rfl (by decide) rfl ?_
                  refine ar_iload (k := 60) rfl rfl ?_
                  refine ar_if_eq (k := 61) rfl (by omega) (fun c61 => ?_) (fun c61 => ?_)
                  · refine ar_iload (k := 64) rfl rfl ?_
                    refine ar_istore (k := 65) (l2 := [(4, _), (10, _), (9, _), (8, _), (7, _), (6, _), (5, _), (0, _), (1, _), (2, _), (3, _)]) rfl (by decide) rfl ?_
                    refine ar_iload (k := 66) rfl rfl ?_
                    refine ar_if_eq (k := 67) rfl (by omega) (fun c67 => ?_) (fun c67 => ?_)
                    · refine ar_iload (k := 70) rfl rfl ?_
                      refine ar_istore (k := 71) (l2 := [(5, _), (4, _), (10, _), (9, _), (8, _), (7, _), (6, _), (0, _), (1, _), (2, _), (3, _)]) rfl (by decide) rfl ?_
                      first
                        | (exfalso; omega)
                        | (refine ar_iinc (k := 72) (l2 := [(6, _), (5, _), (4, _), (10, _), (9, _), (8, _), (7, _), (0, _), (1, _), (2, _), (3, _)]) rfl (by decide) rfl rfl ?_; refine ar_goto (k := 73) rfl ?_; refine ar_sub (l2 := [(6, vi ((j + 1 : Nat) : Int)), (5, vi (rWorth s j u)), (4, vi ((j : Int))), (0, vr (some 69)), (1, vi p), (2, vi u), (3, vi g)]) (tw_s (tw_e 0 rfl (by omega)) (tw_s (tw_g 1 rfl) (tw_s (tw_g 2 rfl) (tw_s (tw_g 7 rfl) (tw_s (tw_g 8 rfl) (tw_s (tw_g 9 rfl) (tw_s (tw_g 10 rfl) tw_s0))))))) ?_; rw [show bstN s p u g (k + 1) j b m = bstN s p u g k (j + 1) j (rWorth s j u) by rw [bstN, if_pos (by refine ⟨by omega, by omega, by omega⟩)]]; exact ih (j + 1) _ _ I32 (by omega) hs32 hk32 (by omega) (by omega))
                        | (refine ar_iinc (k := 72) (l2 := [(6, _), (5, _), (4, _), (10, _), (9, _), (8, _), (7, _), (0, _), (1, _), (2, _), (3, _)]) rfl (by decide) rfl rfl ?_; refine ar_goto (k := 73) rfl ?_; refine ar_sub (l2 := [(6, vi ((j + 1 : Nat) : Int)), (5, vi (m)), (4, vi (b)), (0, vr (some 69)), (1, vi p), (2, vi u), (3, vi g)]) (tw_s (tw_e 0 rfl (by omega)) (tw_s (tw_g 1 rfl) (tw_s (tw_g 2 rfl) (tw_s (tw_g 7 rfl) (tw_s (tw_g 8 rfl) (tw_s (tw_g 9 rfl) (tw_s (tw_g 10 rfl) tw_s0))))))) ?_; rw [show bstN s p u g (k + 1) j b m = bstN s p u g k (j + 1) b m by rw [bstN, if_neg (by omega)]]; exact ih (j + 1) _ _ I32 (by omega) hs32 hk32 (by omega) (by omega))
                    · refine ar_iload (k := 68) rfl rfl ?_
                      refine ar_goto (k := 69) rfl ?_
                      refine ar_istore (k := 71) (l2 := [(5, _), (4, _), (10, _), (9, _), (8, _), (7, _), (6, _), (0, _), (1, _), (2, _), (3, _)]) rfl (by decide) rfl ?_
                      first
                        | (exfalso; omega)
                        | (refine ar_iinc (k := 72) (l2 := [(6, _), (5, _), (4, _), (10, _), (9, _), (8, _), (7, _), (0, _), (1, _), (2, _), (3, _)]) rfl (by decide) rfl rfl ?_; refine ar_goto (k := 73) rfl ?_; refine ar_sub (l2 := [(6, vi ((j + 1 : Nat) : Int)), (5, vi (rWorth s j u)), (4, vi ((j : Int))), (0, vr (some 69)), (1, vi p), (2, vi u), (3, vi g)]) (tw_s (tw_e 0 rfl (by omega)) (tw_s (tw_g 1 rfl) (tw_s (tw_g 2 rfl) (tw_s (tw_g 7 rfl) (tw_s (tw_g 8 rfl) (tw_s (tw_g 9 rfl) (tw_s (tw_g 10 rfl) tw_s0))))))) ?_; rw [show bstN s p u g (k + 1) j b m = bstN s p u g k (j + 1) j (rWorth s j u) by rw [bstN, if_pos (by refine ⟨by omega, by omega, by omega⟩)]]; exact ih (j + 1) _ _ I32 (by omega) hs32 hk32 (by omega) (by omega))
                        | (refine ar_iinc (k := 72) (l2 := [(6, _), (5, _), (4, _), (10, _), (9, _), (8, _), (7, _), (0, _), (1, _), (2, _), (3, _)]) rfl (by decide) rfl rfl ?_; refine ar_goto (k := 73) rfl ?_; refine ar_sub (l2 := [(6, vi ((j + 1 : Nat) : Int)), (5, vi (m)), (4, vi (b)), (0, vr (some 69)), (1, vi p), (2, vi u), (3, vi g)]) (tw_s (tw_e 0 rfl (by omega)) (tw_s (tw_g 1 rfl) (tw_s (tw_g 2 rfl) (tw_s (tw_g 7 rfl) (tw_s (tw_g 8 rfl) (tw_s (tw_g 9 rfl) (tw_s (tw_g 10 rfl) tw_s0))))))) ?_; rw [show bstN s p u g (k + 1) j b m = bstN s p u g k (j + 1) b m by rw [bstN, if_neg (by omega)]]; exact ih (j + 1) _ _ I32 (by omega) hs32 hk32 (by omega) (by omega))
                  · refine ar_iload (k := 62) rfl rfl ?_
                    refine ar_goto (k := 63) rfl ?_
                    refine ar_istore (k := 65) (l2 := [(4, _), (10, _), (9, _), (8, _), (7, _), (6, _), (5, _), (0, _), (1, _), (2, _), (3, _)]) rfl (by decide) rfl ?_
                    refine ar_iload (k := 66) rfl rfl ?_
                    refine ar_if_eq (k := 67) rfl (by omega) (fun c67 => ?_) (fun c67 => ?_)
                    · refine ar_iload (k := 70) rfl rfl ?_
                      refine ar_istore (k := 71) (l2 := [(5, _), (4, _), (10, _), (9, _), (8, _), (7, _), (6, _), (0, _), (1, _), (2, _), (3, _)]) rfl (by decide) rfl ?_
                      first
                        | (exfalso; omega)
                        | (refine ar_iinc (k := 72) (l2 := [(6, _), (5, _), (4, _), (10, _), (9, _), (8, _), (7, _), (0, _), (1, _), (2, _), (3, _)]) rfl (by decide) rfl rfl ?_; refine ar_goto (k := 73) rfl ?_; refine ar_sub (l2 := [(6, vi ((j + 1 : Nat) : Int)), (5, vi (rWorth s j u)), (4, vi ((j : Int))), (0, vr (some 69)), (1, vi p), (2, vi u), (3, vi g)]) (tw_s (tw_e 0 rfl (by omega)) (tw_s (tw_g 1 rfl) (tw_s (tw_g 2 rfl) (tw_s (tw_g 7 rfl) (tw_s (tw_g 8 rfl) (tw_s (tw_g 9 rfl) (tw_s (tw_g 10 rfl) tw_s0))))))) ?_; rw [show bstN s p u g (k + 1) j b m = bstN s p u g k (j + 1) j (rWorth s j u) by rw [bstN, if_pos (by refine ⟨by omega, by omega, by omega⟩)]]; exact ih (j + 1) _ _ I32 (by omega) hs32 hk32 (by omega) (by omega))
                        | (refine ar_iinc (k := 72) (l2 := [(6, _), (5, _), (4, _), (10, _), (9, _), (8, _), (7, _), (0, _), (1, _), (2, _), (3, _)]) rfl (by decide) rfl rfl ?_; refine ar_goto (k := 73) rfl ?_; refine ar_sub (l2 := [(6, vi ((j + 1 : Nat) : Int)), (5, vi (m)), (4, vi (b)), (0, vr (some 69)), (1, vi p), (2, vi u), (3, vi g)]) (tw_s (tw_e 0 rfl (by omega)) (tw_s (tw_g 1 rfl) (tw_s (tw_g 2 rfl) (tw_s (tw_g 7 rfl) (tw_s (tw_g 8 rfl) (tw_s (tw_g 9 rfl) (tw_s (tw_g 10 rfl) tw_s0))))))) ?_; rw [show bstN s p u g (k + 1) j b m = bstN s p u g k (j + 1) b m by rw [bstN, if_neg (by omega)]]; exact ih (j + 1) _ _ I32 (by omega) hs32 hk32 (by omega) (by omega))
                    · refine ar_iload (k := 68) rfl rfl ?_
                      refine ar_goto (k := 69) rfl ?_
                      refine ar_istore (k := 71) (l2 := [(5, _), (4, _), (10, _), (9, _), (8, _), (7, _), (6, _), (0, _), (1, _), (2, _), (3, _)]) rfl (by decide) rfl ?_
                      first
                        | (exfalso; omega)
                        | (refine ar_iinc (k := 72) (l2 := [(6, _), (5, _), (4, _), (10, _), (9, _), (8, _), (7, _), (0, _), (1, _), (2, _), (3, _)]) rfl (by decide) rfl rfl ?_; refine ar_goto (k := 73) rfl ?_; refine ar_sub (l2 := [(6, vi ((j + 1 : Nat) : Int)), (5, vi (rWorth s j u)), (4, vi ((j : Int))), (0, vr (some 69)), (1, vi p), (2, vi u), (3, vi g)]) (tw_s (tw_e 0 rfl (by omega)) (tw_s (tw_g 1 rfl) (tw_s (tw_g 2 rfl) (tw_s (tw_g 7 rfl) (tw_s (tw_g 8 rfl) (tw_s (tw_g 9 rfl) (tw_s (tw_g 10 rfl) tw_s0))))))) ?_; rw [show bstN s p u g (k + 1) j b m = bstN s p u g k (j + 1) j (rWorth s j u) by rw [bstN, if_pos (by refine ⟨by omega, by omega, by omega⟩)]]; exact ih (j + 1) _ _ I32 (by omega) hs32 hk32 (by omega) (by omega))
                        | (refine ar_iinc (k := 72) (l2 := [(6, _), (5, _), (4, _), (10, _), (9, _), (8, _), (7, _), (0, _), (1, _), (2, _), (3, _)]) rfl (by decide) rfl rfl ?_; refine ar_goto (k := 73) rfl ?_; refine ar_sub (l2 := [(6, vi ((j + 1 : Nat) : Int)), (5, vi (m)), (4, vi (b)), (0, vr (some 69)), (1, vi p), (2, vi u), (3, vi g)]) (tw_s (tw_e 0 rfl (by omega)) (tw_s (tw_g 1 rfl) (tw_s (tw_g 2 rfl) (tw_s (tw_g 7 rfl) (tw_s (tw_g 8 rfl) (tw_s (tw_g 9 rfl) (tw_s (tw_g 10 rfl) tw_s0))))))) ?_; rw [show bstN s p u g (k + 1) j b m = bstN s p u g k (j + 1) b m by rw [bstN, if_neg (by omega)]]; exact ih (j + 1) _ _ I32 (by omega) hs32 hk32 (by omega) (by omega))
          · refine ar_aloadn (k := 39) rfl rfl ?_
            refine ar_iload (k := 40) rfl rfl ?_
            refine ar_iloadn (k := 41) rfl rfl ?_
            refine br_callV (k := 42) (as := [_, _]) rfl lvR_141 (hS.k (by decide)) rfl (c_R_isFree hS hs32 hR (by omega)) rfl (by decide) (by decide) tw_m0 (Nat.le_of_ble_eq_true rfl) ?_
            refine ar_if_eq (k := 43) rfl (by omega) (fun c43 => ?_) (fun c43 => ?_)
            · refine ar_iconst (k := 46) rfl ?_
              refine ar_istore (k := 47) (l2 := [(9, _), (8, _), (7, _), (6, _), (5, _), (4, _), (0, _), (1, _), (2, _), (3, _)]) rfl (by decide) rfl ?_
              refine ar_iload (k := 48) rfl rfl ?_
              refine ar_if_eq (k := 49) rfl (by omega) (fun c49 => ?_) (fun c49 => ?_)
              · refine ar_iconst (k := 58) rfl ?_
                refine ar_istore (k := 59) (l2 := [(10, _), (9, _), (8, _), (7, _), (6, _), (5, _), (4, _), (0, _), (1, _), (2, _), (3, _)]) rfl (by decide) rfl ?_
                refine ar_iload (k := 60) rfl rfl ?_
                refine ar_if_eq (k := 61) rfl (by omega) (fun c61 => ?_) (fun c61 => ?_)
                · refine ar_iload (k := 64) rfl rfl ?_
                  refine ar_istore (k := 65) (l2 := [(4, _), (10, _), (9, _), (8, _), (7, _), (6, _), (5, _), (0, _), (1, _), (2, _), (3, _)]) rfl (by decide) rfl ?_
                  refine ar_iload (k := 66) rfl rfl ?_
                  refine ar_if_eq (k := 67) rfl (by omega) (fun c67 => ?_) (fun c67 => ?_)
                  · refine ar_iload (k := 70) rfl rfl ?_
                    refine ar_istore (k := 71) (l2 := [(5, _), (4, _), (10, _), (9, _), (8, _), (7, _), (6, _), (0, _), (1, _), (2, _), (3, _)]) rfl (by decide) rfl ?_
                    first
                      | (exfalso; omega)
                      | (refine ar_iinc (k := 72) (l2 := [(6, _), (5, _), (4, _), (10, _), (9, _), (8, _), (7, _), (0, _), (1, _), (2, _), (3, _)]) rfl (by decide) rfl rfl ?_; refine ar_goto (k := 73) rfl ?_; refine ar_sub (l2 := [(6, vi ((j + 1 : Nat) : Int)), (5, vi (rWorth s j u)), (4, vi ((j : Int))), (0, vr (some 69)), (1, vi p), (2, vi u), (3, vi g)]) (tw_s (tw_e 0 rfl (by omega)) (tw_s (tw_g 1 rfl) (tw_s (tw_g 2 rfl) (tw_s (tw_g 7 rfl) (tw_s (tw_g 8 rfl) (tw_s (tw_g 9 rfl) (tw_s (tw_g 10 rfl) tw_s0))))))) ?_; rw [show bstN s p u g (k + 1) j b m = bstN s p u g k (j + 1) j (rWorth s j u) by rw [bstN, if_pos (by refine ⟨by omega, by omega, by omega⟩)]]; exact ih (j + 1) _ _ I32 (by omega) hs32 hk32 (by omega) (by omega))
                      | (refine ar_iinc (k := 72) (l2 := [(6, _), (5, _), (4, _), (10, _), (9, _), (8, _), (7, _), (0, _), (1, _), (2, _), (3, _)]) rfl (by decide) rfl rfl ?_; refine ar_goto (k := 73) rfl ?_; refine ar_sub (l2 := [(6, vi ((j + 1 : Nat) : Int)), (5, vi (m)), (4, vi (b)), (0, vr (some 69)), (1, vi p), (2, vi u), (3, vi g)]) (tw_s (tw_e 0 rfl (by omega)) (tw_s (tw_g 1 rfl) (tw_s (tw_g 2 rfl) (tw_s (tw_g 7 rfl) (tw_s (tw_g 8 rfl) (tw_s (tw_g 9 rfl) (tw_s (tw_g 10 rfl) tw_s0))))))) ?_; rw [show bstN s p u g (k + 1) j b m = bstN s p u g k (j + 1) b m by rw [bstN, if_neg (by omega)]]; exact ih (j + 1) _ _ I32 (by omega) hs32 hk32 (by omega) (by omega))
                  · refine ar_iload (k := 68) rfl rfl ?_
                    refine ar_goto (k := 69) rfl ?_
                    refine ar_istore (k := 71) (l2 := [(5, _), (4, _), (10, _), (9, _), (8, _), (7, _), (6, _), (0, _), (1, _), (2, _), (3, _)]) rfl (by decide) rfl ?_
                    first
                      | (exfalso; omega)
                      | (refine ar_iinc (k := 72) (l2 := [(6, _), (5, _), (4, _), (10, _), (9, _), (8, _), (7, _), (0, _), (1, _), (2, _), (3, _)]) rfl (by decide) rfl rfl ?_; refine ar_goto (k := 73) rfl ?_; refine ar_sub (l2 := [(6, vi ((j + 1 : Nat) : Int)), (5, vi (rWorth s j u)), (4, vi ((j : Int))), (0, vr (some 69)), (1, vi p), (2, vi u), (3, vi g)]) (tw_s (tw_e 0 rfl (by omega)) (tw_s (tw_g 1 rfl) (tw_s (tw_g 2 rfl) (tw_s (tw_g 7 rfl) (tw_s (tw_g 8 rfl) (tw_s (tw_g 9 rfl) (tw_s (tw_g 10 rfl) tw_s0))))))) ?_; rw [show bstN s p u g (k + 1) j b m = bstN s p u g k (j + 1) j (rWorth s j u) by rw [bstN, if_pos (by refine ⟨by omega, by omega, by omega⟩)]]; exact ih (j + 1) _ _ I32 (by omega) hs32 hk32 (by omega) (by omega))
                      | (refine ar_iinc (k := 72) (l2 := [(6, _), (5, _), (4, _), (10, _), (9, _), (8, _), (7, _), (0, _), (1, _), (2, _), (3, _)]) rfl (by decide) rfl rfl ?_; refine ar_goto (k := 73) rfl ?_; refine ar_sub (l2 := [(6, vi ((j + 1 : Nat) : Int)), (5, vi (m)), (4, vi (b)), (0, vr (some 69)), (1, vi p), (2, vi u), (3, vi g)]) (tw_s (tw_e 0 rfl (by omega)) (tw_s (tw_g 1 rfl) (tw_s (tw_g 2 rfl) (tw_s (tw_g 7 rfl) (tw_s (tw_g 8 rfl) (tw_s (tw_g 9 rfl) (tw_s (tw_g 10 rfl) tw_s0))))))) ?_; rw [show bstN s p u g (k + 1) j b m = bstN s p u g k (j + 1) b m by rw [bstN, if_neg (by omega)]]; exact ih (j + 1) _ _ I32 (by omega) hs32 hk32 (by omega) (by omega))
                · refine ar_iload (k := 62) rfl rfl ?_
                  refine ar_goto (k := 63) rfl ?_
                  refine ar_istore (k := 65) (l2 := [(4, _), (10, _), (9, _), (8, _), (7, _), (6, _), (5, _), (0, _), (1, _), (2, _), (3, _)]) rfl (by decide) rfl ?_
                  refine ar_iload (k := 66) rfl rfl ?_
                  refine ar_if_eq (k := 67) rfl (by omega) (fun c67 => ?_) (fun c67 => ?_)
                  · refine ar_iload (k := 70) rfl rfl ?_
                    refine ar_istore (k := 71) (l2 := [(5, _), (4, _), (10, _), (9, _), (8, _), (7, _), (6, _), (0, _), (1, _), (2, _), (3, _)]) rfl (by decide) rfl ?_
                    first
                      | (exfalso; omega)
                      | (refine ar_iinc (k := 72) (l2 := [(6, _), (5, _), (4, _), (10, _), (9, _), (8, _), (7, _), (0, _), (1, _), (2, _), (3, _)]) rfl (by decide) rfl rfl ?_; refine ar_goto (k := 73) rfl ?_; refine ar_sub (l2 := [(6, vi ((j + 1 : Nat) : Int)), (5, vi (rWorth s j u)), (4, vi ((j : Int))), (0, vr (some 69)), (1, vi p), (2, vi u), (3, vi g)]) (tw_s (tw_e 0 rfl (by omega)) (tw_s (tw_g 1 rfl) (tw_s (tw_g 2 rfl) (tw_s (tw_g 7 rfl) (tw_s (tw_g 8 rfl) (tw_s (tw_g 9 rfl) (tw_s (tw_g 10 rfl) tw_s0))))))) ?_; rw [show bstN s p u g (k + 1) j b m = bstN s p u g k (j + 1) j (rWorth s j u) by rw [bstN, if_pos (by refine ⟨by omega, by omega, by omega⟩)]]; exact ih (j + 1) _ _ I32 (by omega) hs32 hk32 (by omega) (by omega))
                      | (refine ar_iinc (k := 72) (l2 := [(6, _), (5, _), (4, _), (10, _), (9, _), (8, _), (7, _), (0, _), (1, _), (2, _), (3, _)]) rfl (by decide) rfl rfl ?_; refine ar_goto (k := 73) rfl ?_; refine ar_sub (l2 := [(6, vi ((j + 1 : Nat) : Int)), (5, vi (m)), (4, vi (b)), (0, vr (some 69)), (1, vi p), (2, vi u), (3, vi g)]) (tw_s (tw_e 0 rfl (by omega)) (tw_s (tw_g 1 rfl) (tw_s (tw_g 2 rfl) (tw_s (tw_g 7 rfl) (tw_s (tw_g 8 rfl) (tw_s (tw_g 9 rfl) (tw_s (tw_g 10 rfl) tw_s0))))))) ?_; rw [show bstN s p u g (k + 1) j b m = bstN s p u g k (j + 1) b m by rw [bstN, if_neg (by omega)]]; exact ih (j + 1) _ _ I32 (by omega) hs32 hk32 (by omega) (by omega))
                  · refine ar_iload (k := 68) rfl rfl ?_
                    refine ar_goto (k := 69) rfl ?_
                    refine ar_istore (k := 71) (l2 := [(5, _), (4, _), (10, _), (9, _), (8, _), (7, _), (6, _), (0, _), (1, _), (2, _), (3, _)]) rfl (by decide) rfl ?_
                    first
                      | (exfalso; omega)
                      | (refine ar_iinc (k := 72) (l2 := [(6, _), (5, _), (4, _), (10, _), (9, _), (8, _), (7, _), (0, _), (1, _), (2, _), (3, _)]) rfl (by decide) rfl rfl ?_; refine ar_goto (k := 73) rfl ?_; refine ar_sub (l2 := [(6, vi ((j + 1 : Nat) : Int)), (5, vi (rWorth s j u)), (4, vi ((j : Int))), (0, vr (some 69)), (1, vi p), (2, vi u), (3, vi g)]) (tw_s (tw_e 0 rfl (by omega)) (tw_s (tw_g 1 rfl) (tw_s (tw_g 2 rfl) (tw_s (tw_g 7 rfl) (tw_s (tw_g 8 rfl) (tw_s (tw_g 9 rfl) (tw_s (tw_g 10 rfl) tw_s0))))))) ?_; rw [show bstN s p u g (k + 1) j b m = bstN s p u g k (j + 1) j (rWorth s j u) by rw [bstN, if_pos (by refine ⟨by omega, by omega, by omega⟩)]]; exact ih (j + 1) _ _ I32 (by omega) hs32 hk32 (by omega) (by omega))
                      | (refine ar_iinc (k := 72) (l2 := [(6, _), (5, _), (4, _), (10, _), (9, _), (8, _), (7, _), (0, _), (1, _), (2, _), (3, _)]) rfl (by decide) rfl rfl ?_; refine ar_goto (k := 73) rfl ?_; refine ar_sub (l2 := [(6, vi ((j + 1 : Nat) : Int)), (5, vi (m)), (4, vi (b)), (0, vr (some 69)), (1, vi p), (2, vi u), (3, vi g)]) (tw_s (tw_e 0 rfl (by omega)) (tw_s (tw_g 1 rfl) (tw_s (tw_g 2 rfl) (tw_s (tw_g 7 rfl) (tw_s (tw_g 8 rfl) (tw_s (tw_g 9 rfl) (tw_s (tw_g 10 rfl) tw_s0))))))) ?_; rw [show bstN s p u g (k + 1) j b m = bstN s p u g k (j + 1) b m by rw [bstN, if_neg (by omega)]]; exact ih (j + 1) _ _ I32 (by omega) hs32 hk32 (by omega) (by omega))
              · refine ar_iload (k := 50) rfl rfl ?_
                refine ar_iconst (k := 51) rfl ?_
                refine ar_icmp_eq (k := 52) rfl (by omega) (by omega) (fun c52 => ?_) (fun c52 => ?_)
                · refine ar_iconst (k := 56) rfl ?_
                  refine ar_goto (k := 57) rfl ?_
                  refine ar_istore (k := 59) (l2 := [(10, _), (9, _), (8, _), (7, _), (6, _), (5, _), (4, _), (0, _), (1, _), (2, _), (3, _)]) rfl (by decide) rfl ?_
                  refine ar_iload (k := 60) rfl rfl ?_
                  refine ar_if_eq (k := 61) rfl (by omega) (fun c61 => ?_) (fun c61 => ?_)
                  · refine ar_iload (k := 64) rfl rfl ?_
                    refine ar_istore (k := 65) (l2 := [(4, _), (10, _), (9, _), (8, _), (7, _), (6, _), (5, _), (0, _), (1, _), (2, _), (3, _)]) rfl (by decide) rfl ?_
                    refine ar_iload (k := 66) rfl rfl ?_
                    refine ar_if_eq (k := 67) rfl (by omega) (fun c67 => ?_) (fun c67 => ?_)
                    · refine ar_iload (k := 70) rfl rfl ?_
                      refine ar_istore (k := 71) (l2 := [(5, _), (4, _), (10, _), (9, _), (8, _), (7, _), (6, _), (0, _), (1, _), (2, _), (3, _)]) rfl (by decide) rfl ?_
                      first
                        | (exfalso; omega)
                        | (refine ar_iinc (k := 72) (l2 := [(6, _), (5, _), (4, _), (10, _), (9, _), (8, _), (7, _), (0, _), (1, _), (2, _), (3, _)]) rfl (by decide) rfl rfl ?_; refine ar_goto (k := 73) rfl ?_; refine ar_sub (l2 := [(6, vi ((j + 1 : Nat) : Int)), (5, vi (rWorth s j u)), (4, vi ((j : Int))), (0, vr (some 69)), (1, vi p), (2, vi u), (3, vi g)]) (tw_s (tw_e 0 rfl (by omega)) (tw_s (tw_g 1 rfl) (tw_s (tw_g 2 rfl) (tw_s (tw_g 7 rfl) (tw_s (tw_g 8 rfl) (tw_s (tw_g 9 rfl) (tw_s (tw_g 10 rfl) tw_s0))))))) ?_; rw [show bstN s p u g (k + 1) j b m = bstN s p u g k (j + 1) j (rWorth s j u) by rw [bstN, if_pos (by refine ⟨by omega, by omega, by omega⟩)]]; exact ih (j + 1) _ _ I32 (by omega) hs32 hk32 (by omega) (by omega))
                        | (refine ar_iinc (k := 72) (l2 := [(6, _), (5, _), (4, _), (10, _), (9, _), (8, _), (7, _), (0, _), (1, _), (2, _), (3, _)]) rfl (by decide) rfl rfl ?_; refine ar_goto (k := 73) rfl ?_; refine ar_sub (l2 := [(6, vi ((j + 1 : Nat) : Int)), (5, vi (m)), (4, vi (b)), (0, vr (some 69)), (1, vi p), (2, vi u), (3, vi g)]) (tw_s (tw_e 0 rfl (by omega)) (tw_s (tw_g 1 rfl) (tw_s (tw_g 2 rfl) (tw_s (tw_g 7 rfl) (tw_s (tw_g 8 rfl) (tw_s (tw_g 9 rfl) (tw_s (tw_g 10 rfl) tw_s0))))))) ?_; rw [show bstN s p u g (k + 1) j b m = bstN s p u g k (j + 1) b m by rw [bstN, if_neg (by omega)]]; exact ih (j + 1) _ _ I32 (by omega) hs32 hk32 (by omega) (by omega))
                    · refine ar_iload (k := 68) rfl rfl ?_
                      refine ar_goto (k := 69) rfl ?_
                      refine ar_istore (k := 71) (l2 := [(5, _), (4, _), (10, _), (9, _), (8, _), (7, _), (6, _), (0, _), (1, _), (2, _), (3, _)]) rfl (by decide) rfl ?_
                      first
                        | (exfalso; omega)
                        | (refine ar_iinc (k := 72) (l2 := [(6, _), (5, _), (4, _), (10, _), (9, _), (8, _), (7, _), (0, _), (1, _), (2, _), (3, _)]) rfl (by decide) rfl rfl ?_; refine ar_goto (k := 73) rfl ?_; refine ar_sub (l2 := [(6, vi ((j + 1 : Nat) : Int)), (5, vi (rWorth s j u)), (4, vi ((j : Int))), (0, vr (some 69)), (1, vi p), (2, vi u), (3, vi g)]) (tw_s (tw_e 0 rfl (by omega)) (tw_s (tw_g 1 rfl) (tw_s (tw_g 2 rfl) (tw_s (tw_g 7 rfl) (tw_s (tw_g 8 rfl) (tw_s (tw_g 9 rfl) (tw_s (tw_g 10 rfl) tw_s0))))))) ?_; rw [show bstN s p u g (k + 1) j b m = bstN s p u g k (j + 1) j (rWorth s j u) by rw [bstN, if_pos (by refine ⟨by omega, by omega, by omega⟩)]]; exact ih (j + 1) _ _ I32 (by omega) hs32 hk32 (by omega) (by omega))
                        | (refine ar_iinc (k := 72) (l2 := [(6, _), (5, _), (4, _), (10, _), (9, _), (8, _), (7, _), (0, _), (1, _), (2, _), (3, _)]) rfl (by decide) rfl rfl ?_; refine ar_goto (k := 73) rfl ?_; refine ar_sub (l2 := [(6, vi ((j + 1 : Nat) : Int)), (5, vi (m)), (4, vi (b)), (0, vr (some 69)), (1, vi p), (2, vi u), (3, vi g)]) (tw_s (tw_e 0 rfl (by omega)) (tw_s (tw_g 1 rfl) (tw_s (tw_g 2 rfl) (tw_s (tw_g 7 rfl) (tw_s (tw_g 8 rfl) (tw_s (tw_g 9 rfl) (tw_s (tw_g 10 rfl) tw_s0))))))) ?_; rw [show bstN s p u g (k + 1) j b m = bstN s p u g k (j + 1) b m by rw [bstN, if_neg (by omega)]]; exact ih (j + 1) _ _ I32 (by omega) hs32 hk32 (by omega) (by omega))
                  · refine ar_iload (k := 62) rfl rfl ?_
                    refine ar_goto (k := 63) rfl ?_
                    refine ar_istore (k := 65) (l2 := [(4, _), (10, _), (9, _), (8, _), (7, _), (6, _), (5, _), (0, _), (1, _), (2, _), (3, _)]) rfl (by decide) rfl ?_
                    refine ar_iload (k := 66) rfl rfl ?_
                    refine ar_if_eq (k := 67) rfl (by omega) (fun c67 => ?_) (fun c67 => ?_)
                    · refine ar_iload (k := 70) rfl rfl ?_
                      refine ar_istore (k := 71) (l2 := [(5, _), (4, _), (10, _), (9, _), (8, _), (7, _), (6, _), (0, _), (1, _), (2, _), (3, _)]) rfl (by decide) rfl ?_
                      first
                        | (exfalso; omega)
                        | (refine ar_iinc (k := 72) (l2 := [(6, _), (5, _), (4, _), (10, _), (9, _), (8, _), (7, _), (0, _), (1, _), (2, _), (3, _)]) rfl (by decide) rfl rfl ?_; refine ar_goto (k := 73) rfl ?_; refine ar_sub (l2 := [(6, vi ((j + 1 : Nat) : Int)), (5, vi (rWorth s j u)), (4, vi ((j : Int))), (0, vr (some 69)), (1, vi p), (2, vi u), (3, vi g)]) (tw_s (tw_e 0 rfl (by omega)) (tw_s (tw_g 1 rfl) (tw_s (tw_g 2 rfl) (tw_s (tw_g 7 rfl) (tw_s (tw_g 8 rfl) (tw_s (tw_g 9 rfl) (tw_s (tw_g 10 rfl) tw_s0))))))) ?_; rw [show bstN s p u g (k + 1) j b m = bstN s p u g k (j + 1) j (rWorth s j u) by rw [bstN, if_pos (by refine ⟨by omega, by omega, by omega⟩)]]; exact ih (j + 1) _ _ I32 (by omega) hs32 hk32 (by omega) (by omega))
                        | (refine ar_iinc (k := 72) (l2 := [(6, _), (5, _), (4, _), (10, _), (9, _), (8, _), (7, _), (0, _), (1, _), (2, _), (3, _)]) rfl (by decide) rfl rfl ?_; refine ar_goto (k := 73) rfl ?_; refine ar_sub (l2 := [(6, vi ((j + 1 : Nat) : Int)), (5, vi (m)), (4, vi (b)), (0, vr (some 69)), (1, vi p), (2, vi u), (3, vi g)]) (tw_s (tw_e 0 rfl (by omega)) (tw_s (tw_g 1 rfl) (tw_s (tw_g 2 rfl) (tw_s (tw_g 7 rfl) (tw_s (tw_g 8 rfl) (tw_s (tw_g 9 rfl) (tw_s (tw_g 10 rfl) tw_s0))))))) ?_; rw [show bstN s p u g (k + 1) j b m = bstN s p u g k (j + 1) b m by rw [bstN, if_neg (by omega)]]; exact ih (j + 1) _ _ I32 (by omega) hs32 hk32 (by omega) (by omega))
                    · refine ar_iload (k := 68) rfl rfl ?_
                      refine ar_goto (k := 69) rfl ?_
                      refine ar_istore (k := 71) (l2 := [(5, _), (4, _), (10, _), (9, _), (8, _), (7, _), (6, _), (0, _), (1, _), (2, _), (3, _)]) rfl (by decide) rfl ?_
                      first
                        | (exfalso; omega)
                        | (refine ar_iinc (k := 72) (l2 := [(6, _), (5, _), (4, _), (10, _), (9, _), (8, _), (7, _), (0, _), (1, _), (2, _), (3, _)]) rfl (by decide) rfl rfl ?_; refine ar_goto (k := 73) rfl ?_; refine ar_sub (l2 := [(6, vi ((j + 1 : Nat) : Int)), (5, vi (rWorth s j u)), (4, vi ((j : Int))), (0, vr (some 69)), (1, vi p), (2, vi u), (3, vi g)]) (tw_s (tw_e 0 rfl (by omega)) (tw_s (tw_g 1 rfl) (tw_s (tw_g 2 rfl) (tw_s (tw_g 7 rfl) (tw_s (tw_g 8 rfl) (tw_s (tw_g 9 rfl) (tw_s (tw_g 10 rfl) tw_s0))))))) ?_; rw [show bstN s p u g (k + 1) j b m = bstN s p u g k (j + 1) j (rWorth s j u) by rw [bstN, if_pos (by refine ⟨by omega, by omega, by omega⟩)]]; exact ih (j + 1) _ _ I32 (by omega) hs32 hk32 (by omega) (by omega))
                        | (refine ar_iinc (k := 72) (l2 := [(6, _), (5, _), (4, _), (10, _), (9, _), (8, _), (7, _), (0, _), (1, _), (2, _), (3, _)]) rfl (by decide) rfl rfl ?_; refine ar_goto (k := 73) rfl ?_; refine ar_sub (l2 := [(6, vi ((j + 1 : Nat) : Int)), (5, vi (m)), (4, vi (b)), (0, vr (some 69)), (1, vi p), (2, vi u), (3, vi g)]) (tw_s (tw_e 0 rfl (by omega)) (tw_s (tw_g 1 rfl) (tw_s (tw_g 2 rfl) (tw_s (tw_g 7 rfl) (tw_s (tw_g 8 rfl) (tw_s (tw_g 9 rfl) (tw_s (tw_g 10 rfl) tw_s0))))))) ?_; rw [show bstN s p u g (k + 1) j b m = bstN s p u g k (j + 1) b m by rw [bstN, if_neg (by omega)]]; exact ih (j + 1) _ _ I32 (by omega) hs32 hk32 (by omega) (by omega))
                · refine ar_iload (k := 53) rfl rfl ?_
                  refine ar_iload (k := 54) rfl rfl ?_
                  refine ar_icmp_le (k := 55) rfl (by omega) (by omega) (fun c55 => ?_) (fun c55 => ?_)
                  · refine ar_iconst (k := 58) rfl ?_
                    refine ar_istore (k := 59) (l2 := [(10, _), (9, _), (8, _), (7, _), (6, _), (5, _), (4, _), (0, _), (1, _), (2, _), (3, _)]) rfl (by decide) rfl ?_
                    refine ar_iload (k := 60) rfl rfl ?_
                    refine ar_if_eq (k := 61) rfl (by omega) (fun c61 => ?_) (fun c61 => ?_)
                    · refine ar_iload (k := 64) rfl rfl ?_
                      refine ar_istore (k := 65) (l2 := [(4, _), (10, _), (9, _), (8, _), (7, _), (6, _), (5, _), (0, _), (1, _), (2, _), (3, _)]) rfl (by decide) rfl ?_
                      refine ar_iload (k := 66) rfl rfl ?_
                      refine ar_if_eq (k := 67) rfl (by omega) (fun c67 => ?_) (fun c67 => ?_)
                      · refine ar_iload (k := 70) rfl rfl ?_
                        refine ar_istore (k := 71) (l2 := [(5, _), (4, _), (10, _), (9, _), (8, _), (7, _), (6, _), (0, _), (1, _), (2, _), (3, _)]) rfl (by decide) rfl ?_
                        first
                          | (exfalso; omega)
                          | (refine ar_iinc (k := 72) (l2 := [(6, _), (5, _), (4, _), (10, _), (9, _), (8, _), (7, _), (0, _), (1, _), (2, _), (3, _)]) rfl (by decide) rfl rfl ?_; refine ar_goto (k := 73) rfl ?_; refine ar_sub (l2 := [(6, vi ((j + 1 : Nat) : Int)), (5, vi (rWorth s j u)), (4, vi ((j : Int))), (0, vr (some 69)), (1, vi p), (2, vi u), (3, vi g)]) (tw_s (tw_e 0 rfl (by omega)) (tw_s (tw_g 1 rfl) (tw_s (tw_g 2 rfl) (tw_s (tw_g 7 rfl) (tw_s (tw_g 8 rfl) (tw_s (tw_g 9 rfl) (tw_s (tw_g 10 rfl) tw_s0))))))) ?_; rw [show bstN s p u g (k + 1) j b m = bstN s p u g k (j + 1) j (rWorth s j u) by rw [bstN, if_pos (by refine ⟨by omega, by omega, by omega⟩)]]; exact ih (j + 1) _ _ I32 (by omega) hs32 hk32 (by omega) (by omega))
                          | (refine ar_iinc (k := 72) (l2 := [(6, _), (5, _), (4, _), (10, _), (9, _), (8, _), (7, _), (0, _), (1, _), (2, _), (3, _)]) rfl (by decide) rfl rfl ?_; refine ar_goto (k := 73) rfl ?_; refine ar_sub (l2 := [(6, vi ((j + 1 : Nat) : Int)), (5, vi (m)), (4, vi (b)), (0, vr (some 69)), (1, vi p), (2, vi u), (3, vi g)]) (tw_s (tw_e 0 rfl (by omega)) (tw_s (tw_g 1 rfl) (tw_s (tw_g 2 rfl) (tw_s (tw_g 7 rfl) (tw_s (tw_g 8 rfl) (tw_s (tw_g 9 rfl) (tw_s (tw_g 10 rfl) tw_s0))))))) ?_; rw [show bstN s p u g (k + 1) j b m = bstN s p u g k (j + 1) b m by rw [bstN, if_neg (by omega)]]; exact ih (j + 1) _ _ I32 (by omega) hs32 hk32 (by omega) (by omega))
                      · refine ar_iload (k := 68) rfl rfl ?_
                        refine ar_goto (k := 69) rfl ?_
                        refine ar_istore (k := 71) (l2 := [(5, _), (4, _), (10, _), (9, _), (8, _), (7, _), (6, _), (0, _), (1, _), (2, _), (3, _)]) rfl (by decide) rfl ?_
                        first
                          | (exfalso; omega)
                          | (refine ar_iinc (k := 72) (l2 := [(6, _), (5, _), (4, _), (10, _), (9, _), (8, _), (7, _), (0, _), (1, _), (2, _), (3, _)]) rfl (by decide) rfl rfl ?_; refine ar_goto (k := 73) rfl ?_; refine ar_sub (l2 := [(6, vi ((j + 1 : Nat) : Int)), (5, vi (rWorth s j u)), (4, vi ((j : Int))), (0, vr (some 69)), (1, vi p), (2, vi u), (3, vi g)]) (tw_s (tw_e 0 rfl (by omega)) (tw_s (tw_g 1 rfl) (tw_s (tw_g 2 rfl) (tw_s (tw_g 7 rfl) (tw_s (tw_g 8 rfl) (tw_s (tw_g 9 rfl) (tw_s (tw_g 10 rfl) tw_s0))))))) ?_; rw [show bstN s p u g (k + 1) j b m = bstN s p u g k (j + 1) j (rWorth s j u) by rw [bstN, if_pos (by refine ⟨by omega, by omega, by omega⟩)]]; exact ih (j + 1) _ _ I32 (by omega) hs32 hk32 (by omega) (by omega))
                          | (refine ar_iinc (k := 72) (l2 := [(6, _), (5, _), (4, _), (10, _), (9, _), (8, _), (7, _), (0, _), (1, _), (2, _), (3, _)]) rfl (by decide) rfl rfl ?_; refine ar_goto (k := 73) rfl ?_; refine ar_sub (l2 := [(6, vi ((j + 1 : Nat) : Int)), (5, vi (m)), (4, vi (b)), (0, vr (some 69)), (1, vi p), (2, vi u), (3, vi g)]) (tw_s (tw_e 0 rfl (by omega)) (tw_s (tw_g 1 rfl) (tw_s (tw_g 2 rfl) (tw_s (tw_g 7 rfl) (tw_s (tw_g 8 rfl) (tw_s (tw_g 9 rfl) (tw_s (tw_g 10 rfl) tw_s0))))))) ?_; rw [show bstN s p u g (k + 1) j b m = bstN s p u g k (j + 1) b m by rw [bstN, if_neg (by omega)]]; exact ih (j + 1) _ _ I32 (by omega) hs32 hk32 (by omega) (by omega))
                    · refine ar_iload (k := 62) rfl rfl ?_
                      refine ar_goto (k := 63) rfl ?_
                      refine ar_istore (k := 65) (l2 := [(4, _), (10, _), (9, _), (8, _), (7, _), (6, _), (5, _), (0, _), (1, _), (2, _), (3, _)]) rfl (by decide) rfl ?_
                      refine ar_iload (k := 66) rfl rfl ?_
                      refine ar_if_eq (k := 67) rfl (by omega) (fun c67 => ?_) (fun c67 => ?_)
                      · refine ar_iload (k := 70) rfl rfl ?_
                        refine ar_istore (k := 71) (l2 := [(5, _), (4, _), (10, _), (9, _), (8, _), (7, _), (6, _), (0, _), (1, _), (2, _), (3, _)]) rfl (by decide) rfl ?_
                        first
                          | (exfalso; omega)
                          | (refine ar_iinc (k := 72) (l2 := [(6, _), (5, _), (4, _), (10, _), (9, _), (8, _), (7, _), (0, _), (1, _), (2, _), (3, _)]) rfl (by decide) rfl rfl ?_; refine ar_goto (k := 73) rfl ?_; refine ar_sub (l2 := [(6, vi ((j + 1 : Nat) : Int)), (5, vi (rWorth s j u)), (4, vi ((j : Int))), (0, vr (some 69)), (1, vi p), (2, vi u), (3, vi g)]) (tw_s (tw_e 0 rfl (by omega)) (tw_s (tw_g 1 rfl) (tw_s (tw_g 2 rfl) (tw_s (tw_g 7 rfl) (tw_s (tw_g 8 rfl) (tw_s (tw_g 9 rfl) (tw_s (tw_g 10 rfl) tw_s0))))))) ?_; rw [show bstN s p u g (k + 1) j b m = bstN s p u g k (j + 1) j (rWorth s j u) by rw [bstN, if_pos (by refine ⟨by omega, by omega, by omega⟩)]]; exact ih (j + 1) _ _ I32 (by omega) hs32 hk32 (by omega) (by omega))
                          | (refine ar_iinc (k := 72) (l2 := [(6, _), (5, _), (4, _), (10, _), (9, _), (8, _), (7, _), (0, _), (1, _), (2, _), (3, _)]) rfl (by decide) rfl rfl ?_; refine ar_goto (k := 73) rfl ?_; refine ar_sub (l2 := [(6, vi ((j + 1 : Nat) : Int)), (5, vi (m)), (4, vi (b)), (0, vr (some 69)), (1, vi p), (2, vi u), (3, vi g)]) (tw_s (tw_e 0 rfl (by omega)) (tw_s (tw_g 1 rfl) (tw_s (tw_g 2 rfl) (tw_s (tw_g 7 rfl) (tw_s (tw_g 8 rfl) (tw_s (tw_g 9 rfl) (tw_s (tw_g 10 rfl) tw_s0))))))) ?_; rw [show bstN s p u g (k + 1) j b m = bstN s p u g k (j + 1) b m by rw [bstN, if_neg (by omega)]]; exact ih (j + 1) _ _ I32 (by omega) hs32 hk32 (by omega) (by omega))
                      · refine ar_iload (k := 68) rfl rfl ?_
                        refine ar_goto (k := 69) rfl ?_
                        refine ar_istore (k := 71) (l2 := [(5, _), (4, _), (10, _), (9, _), (8, _), (7, _), (6, _), (0, _), (1, _), (2, _), (3, _)]) rfl (by decide) rfl ?_
                        first
                          | (exfalso; omega)
                          | (refine ar_iinc (k := 72) (l2 := [(6, _), (5, _), (4, _), (10, _), (9, _), (8, _), (7, _), (0, _), (1, _), (2, _), (3, _)]) rfl (by decide) rfl rfl ?_; refine ar_goto (k := 73) rfl ?_; refine ar_sub (l2 := [(6, vi ((j + 1 : Nat) : Int)), (5, vi (rWorth s j u)), (4, vi ((j : Int))), (0, vr (some 69)), (1, vi p), (2, vi u), (3, vi g)]) (tw_s (tw_e 0 rfl (by omega)) (tw_s (tw_g 1 rfl) (tw_s (tw_g 2 rfl) (tw_s (tw_g 7 rfl) (tw_s (tw_g 8 rfl) (tw_s (tw_g 9 rfl) (tw_s (tw_g 10 rfl) tw_s0))))))) ?_; rw [show bstN s p u g (k + 1) j b m = bstN s p u g k (j + 1) j (rWorth s j u) by rw [bstN, if_pos (by refine ⟨by omega, by omega, by omega⟩)]]; exact ih (j + 1) _ _ I32 (by omega) hs32 hk32 (by omega) (by omega))
                          | (refine ar_iinc (k := 72) (l2 := [(6, _), (5, _), (4, _), (10, _), (9, _), (8, _), (7, _), (0, _), (1, _), (2, _), (3, _)]) rfl (by decide) rfl rfl ?_; refine ar_goto (k := 73) rfl ?_; refine ar_sub (l2 := [(6, vi ((j + 1 : Nat) : Int)), (5, vi (m)), (4, vi (b)), (0, vr (some 69)), (1, vi p), (2, vi u), (3, vi g)]) (tw_s (tw_e 0 rfl (by omega)) (tw_s (tw_g 1 rfl) (tw_s (tw_g 2 rfl) (tw_s (tw_g 7 rfl) (tw_s (tw_g 8 rfl) (tw_s (tw_g 9 rfl) (tw_s (tw_g 10 rfl) tw_s0))))))) ?_; rw [show bstN s p u g (k + 1) j b m = bstN s p u g k (j + 1) b m by rw [bstN, if_neg (by omega)]]; exact ih (j + 1) _ _ I32 (by omega) hs32 hk32 (by omega) (by omega))
                  · refine ar_iconst (k := 56) rfl ?_
                    refine ar_goto (k := 57) rfl ?_
                    refine ar_istore (k := 59) (l2 := [(10, _), (9, _), (8, _), (7, _), (6, _), (5, _), (4, _), (0, _), (1, _), (2, _), (3, _)]) rfl (by decide) rfl ?_
                    refine ar_iload (k := 60) rfl rfl ?_
                    refine ar_if_eq (k := 61) rfl (by omega) (fun c61 => ?_) (fun c61 => ?_)
                    · refine ar_iload (k := 64) rfl rfl ?_
                      refine ar_istore (k := 65) (l2 := [(4, _), (10, _), (9, _), (8, _), (7, _), (6, _), (5, _), (0, _), (1, _), (2, _), (3, _)]) rfl (by decide) rfl ?_
                      refine ar_iload (k := 66) rfl rfl ?_
                      refine ar_if_eq (k := 67) rfl (by omega) (fun c67 => ?_) (fun c67 => ?_)
                      · refine ar_iload (k := 70) rfl rfl ?_
                        refine ar_istore (k := 71) (l2 := [(5, _), (4, _), (10, _), (9, _), (8, _), (7, _), (6, _), (0, _), (1, _), (2, _), (3, _)]) rfl (by decide) rfl ?_
                        first
                          | (exfalso; omega)
                          | (refine ar_iinc (k := 72) (l2 := [(6, _), (5, _), (4, _), (10, _), (9, _), (8, _), (7, _), (0, _), (1, _), (2, _), (3, _)]) rfl (by decide) rfl rfl ?_; refine ar_goto (k := 73) rfl ?_; refine ar_sub (l2 := [(6, vi ((j + 1 : Nat) : Int)), (5, vi (rWorth s j u)), (4, vi ((j : Int))), (0, vr (some 69)), (1, vi p), (2, vi u), (3, vi g)]) (tw_s (tw_e 0 rfl (by omega)) (tw_s (tw_g 1 rfl) (tw_s (tw_g 2 rfl) (tw_s (tw_g 7 rfl) (tw_s (tw_g 8 rfl) (tw_s (tw_g 9 rfl) (tw_s (tw_g 10 rfl) tw_s0))))))) ?_; rw [show bstN s p u g (k + 1) j b m = bstN s p u g k (j + 1) j (rWorth s j u) by rw [bstN, if_pos (by refine ⟨by omega, by omega, by omega⟩)]]; exact ih (j + 1) _ _ I32 (by omega) hs32 hk32 (by omega) (by omega))
                          | (refine ar_iinc (k := 72) (l2 := [(6, _), (5, _), (4, _), (10, _), (9, _), (8, _), (7, _), (0, _), (1, _), (2, _), (3, _)]) rfl (by decide) rfl rfl ?_; refine ar_goto (k := 73) rfl ?_; refine ar_sub (l2 := [(6, vi ((j + 1 : Nat) : Int)), (5, vi (m)), (4, vi (b)), (0, vr (some 69)), (1, vi p), (2, vi u), (3, vi g)]) (tw_s (tw_e 0 rfl (by omega)) (tw_s (tw_g 1 rfl) (tw_s (tw_g 2 rfl) (tw_s (tw_g 7 rfl) (tw_s (tw_g 8 rfl) (tw_s (tw_g 9 rfl) (tw_s (tw_g 10 rfl) tw_s0))))))) ?_; rw [show bstN s p u g (k + 1) j b m = bstN s p u g k (j + 1) b m by rw [bstN, if_neg (by omega)]]; exact ih (j + 1) _ _ I32 (by omega) hs32 hk32 (by omega) (by omega))
                      · refine ar_iload (k := 68) rfl rfl ?_
                        refine ar_goto (k := 69) rfl ?_
                        refine ar_istore (k := 71) (l2 := [(5, _), (4, _), (10, _), (9, _), (8, _), (7, _), (6, _), (0, _), (1, _), (2, _), (3, _)]) rfl (by decide) rfl ?_
                        first
                          | (exfalso; omega)
                          | (refine ar_iinc (k := 72) (l2 := [(6, _), (5, _), (4, _), (10, _), (9, _), (8, _), (7, _), (0, _), (1, _), (2, _), (3, _)]) rfl (by decide) rfl rfl ?_; refine ar_goto (k := 73) rfl ?_; refine ar_sub (l2 := [(6, vi ((j + 1 : Nat) : Int)), (5, vi (rWorth s j u)), (4, vi ((j : Int))), (0, vr (some 69)), (1, vi p), (2, vi u), (3, vi g)]) (tw_s (tw_e 0 rfl (by omega)) (tw_s (tw_g 1 rfl) (tw_s (tw_g 2 rfl) (tw_s (tw_g 7 rfl) (tw_s (tw_g 8 rfl) (tw_s (tw_g 9 rfl) (tw_s (tw_g 10 rfl) tw_s0))))))) ?_; rw [show bstN s p u g (k + 1) j b m = bstN s p u g k (j + 1) j (rWorth s j u) by rw [bstN, if_pos (by refine ⟨by omega, by omega, by omega⟩)]]; exact ih (j + 1) _ _ I32 (by omega) hs32 hk32 (by omega) (by omega))
                          | (refine ar_iinc (k := 72) (l2 := [(6, _), (5, _), (4, _), (10, _), (9, _), (8, _), (7, _), (0, _), (1, _), (2, _), (3, _)]) rfl (by decide) rfl rfl ?_; refine ar_goto (k := 73) rfl ?_; refine ar_sub (l2 := [(6, vi ((j + 1 : Nat) : Int)), (5, vi (m)), (4, vi (b)), (0, vr (some 69)), (1, vi p), (2, vi u), (3, vi g)]) (tw_s (tw_e 0 rfl (by omega)) (tw_s (tw_g 1 rfl) (tw_s (tw_g 2 rfl) (tw_s (tw_g 7 rfl) (tw_s (tw_g 8 rfl) (tw_s (tw_g 9 rfl) (tw_s (tw_g 10 rfl) tw_s0))))))) ?_; rw [show bstN s p u g (k + 1) j b m = bstN s p u g k (j + 1) b m by rw [bstN, if_neg (by omega)]]; exact ih (j + 1) _ _ I32 (by omega) hs32 hk32 (by omega) (by omega))
                    · refine ar_iload (k := 62) rfl rfl ?_
                      refine ar_goto (k := 63) rfl ?_
                      refine ar_istore (k := 65) (l2 := [(4, _), (10, _), (9, _), (8, _), (7, _), (6, _), (5, _), (0, _), (1, _), (2, _), (3, _)]) rfl (by decide) rfl ?_
                      refine ar_iload (k := 66) rfl rfl ?_
                      refine ar_if_eq (k := 67) rfl (by omega) (fun c67 => ?_) (fun c67 => ?_)
                      · refine ar_iload (k := 70) rfl rfl ?_
                        refine ar_istore (k := 71) (l2 := [(5, _), (4, _), (10, _), (9, _), (8, _), (7, _), (6, _), (0, _), (1, _), (2, _), (3, _)]) rfl (by decide) rfl ?_
                        first
                          | (exfalso; omega)
                          | (refine ar_iinc (k := 72) (l2 := [(6, _), (5, _), (4, _), (10, _), (9, _), (8, _), (7, _), (0, _), (1, _), (2, _), (3, _)]) rfl (by decide) rfl rfl ?_; refine ar_goto (k := 73) rfl ?_; refine ar_sub (l2 := [(6, vi ((j + 1 : Nat) : Int)), (5, vi (rWorth s j u)), (4, vi ((j : Int))), (0, vr (some 69)), (1, vi p), (2, vi u), (3, vi g)]) (tw_s (tw_e 0 rfl (by omega)) (tw_s (tw_g 1 rfl) (tw_s (tw_g 2 rfl) (tw_s (tw_g 7 rfl) (tw_s (tw_g 8 rfl) (tw_s (tw_g 9 rfl) (tw_s (tw_g 10 rfl) tw_s0))))))) ?_; rw [show bstN s p u g (k + 1) j b m = bstN s p u g k (j + 1) j (rWorth s j u) by rw [bstN, if_pos (by refine ⟨by omega, by omega, by omega⟩)]]; exact ih (j + 1) _ _ I32 (by omega) hs32 hk32 (by omega) (by omega))
                          | (refine ar_iinc (k := 72) (l2 := [(6, _), (5, _), (4, _), (10, _), (9, _), (8, _), (7, _), (0, _), (1, _), (2, _), (3, _)]) rfl (by decide) rfl rfl ?_; refine ar_goto (k := 73) rfl ?_; refine ar_sub (l2 := [(6, vi ((j + 1 : Nat) : Int)), (5, vi (m)), (4, vi (b)), (0, vr (some 69)), (1, vi p), (2, vi u), (3, vi g)]) (tw_s (tw_e 0 rfl (by omega)) (tw_s (tw_g 1 rfl) (tw_s (tw_g 2 rfl) (tw_s (tw_g 7 rfl) (tw_s (tw_g 8 rfl) (tw_s (tw_g 9 rfl) (tw_s (tw_g 10 rfl) tw_s0))))))) ?_; rw [show bstN s p u g (k + 1) j b m = bstN s p u g k (j + 1) b m by rw [bstN, if_neg (by omega)]]; exact ih (j + 1) _ _ I32 (by omega) hs32 hk32 (by omega) (by omega))
                      · refine ar_iload (k := 68) rfl rfl ?_
                        refine ar_goto (k := 69) rfl ?_
                        refine ar_istore (k := 71) (l2 := [(5, _), (4, _), (10, _), (9, _), (8, _), (7, _), (6, _), (0, _), (1, _), (2, _), (3, _)]) rfl (by decide) rfl ?_
                        first
                          | (exfalso; omega)
                          | (refine ar_iinc (k := 72) (l2 := [(6, _), (5, _), (4, _), (10, _), (9, _), (8, _), (7, _), (0, _), (1, _), (2, _), (3, _)]) rfl (by decide) rfl rfl ?_; refine ar_goto (k := 73) rfl ?_; refine ar_sub (l2 := [(6, vi ((j + 1 : Nat) : Int)), (5, vi (rWorth s j u)), (4, vi ((j : Int))), (0, vr (some 69)), (1, vi p), (2, vi u), (3, vi g)]) (tw_s (tw_e 0 rfl (by omega)) (tw_s (tw_g 1 rfl) (tw_s (tw_g 2 rfl) (tw_s (tw_g 7 rfl) (tw_s (tw_g 8 rfl) (tw_s (tw_g 9 rfl) (tw_s (tw_g 10 rfl) tw_s0))))))) ?_; rw [show bstN s p u g (k + 1) j b m = bstN s p u g k (j + 1) j (rWorth s j u) by rw [bstN, if_pos (by refine ⟨by omega, by omega, by omega⟩)]]; exact ih (j + 1) _ _ I32 (by omega) hs32 hk32 (by omega) (by omega))
                          | (refine ar_iinc (k := 72) (l2 := [(6, _), (5, _), (4, _), (10, _), (9, _), (8, _), (7, _), (0, _), (1, _), (2, _), (3, _)]) rfl (by decide) rfl rfl ?_; refine ar_goto (k := 73) rfl ?_; refine ar_sub (l2 := [(6, vi ((j + 1 : Nat) : Int)), (5, vi (m)), (4, vi (b)), (0, vr (some 69)), (1, vi p), (2, vi u), (3, vi g)]) (tw_s (tw_e 0 rfl (by omega)) (tw_s (tw_g 1 rfl) (tw_s (tw_g 2 rfl) (tw_s (tw_g 7 rfl) (tw_s (tw_g 8 rfl) (tw_s (tw_g 9 rfl) (tw_s (tw_g 10 rfl) tw_s0))))))) ?_; rw [show bstN s p u g (k + 1) j b m = bstN s p u g k (j + 1) b m by rw [bstN, if_neg (by omega)]]; exact ih (j + 1) _ _ I32 (by omega) hs32 hk32 (by omega) (by omega))
            · refine ar_iconst (k := 44) rfl ?_
              refine ar_goto (k := 45) rfl ?_
              refine ar_istore (k := 47) (l2 := [(9, _), (8, _), (7, _), (6, _), (5, _), (4, _), (0, _), (1, _), (2, _), (3, _)]) rfl (by decide) rfl ?_
              refine ar_iload (k := 48) rfl rfl ?_
              refine ar_if_eq (k := 49) rfl (by omega) (fun c49 => ?_) (fun c49 => ?_)
              · refine ar_iconst (k := 58) rfl ?_
                refine ar_istore (k := 59) (l2 := [(10, _), (9, _), (8, _), (7, _), (6, _), (5, _), (4, _), (0, _), (1, _), (2, _), (3, _)]) rfl (by decide) rfl ?_
                refine ar_iload (k := 60) rfl rfl ?_
                refine ar_if_eq (k := 61) rfl (by omega) (fun c61 => ?_) (fun c61 => ?_)
                · refine ar_iload (k := 64) rfl rfl ?_
                  refine ar_istore (k := 65) (l2 := [(4, _), (10, _), (9, _), (8, _), (7, _), (6, _), (5, _), (0, _), (1, _), (2, _), (3, _)]) rfl (by decide) rfl ?_
                  refine ar_iload (k := 66) rfl rfl ?_
                  refine ar_if_eq (k := 67) rfl (by omega) (fun c67 => ?_) (fun c67 => ?_)
                  · refine ar_iload (k := 70) rfl rfl ?_
                    refine ar_istore (k := 71) (l2 := [(5, _), (4, _), (10, _), (9, _), (8, _), (7, _), (6, _), (0, _), (1, _), (2, _), (3, _)]) rfl (by decide) rfl ?_
                    first
                      | (exfalso; omega)
                      | (refine ar_iinc (k := 72) (l2 := [(6, _), (5, _), (4, _), (10, _), (9, _), (8, _), (7, _), (0, _), (1, _), (2, _), (3, _)]) rfl (by decide) rfl rfl ?_; refine ar_goto (k := 73) rfl ?_; refine ar_sub (l2 := [(6, vi ((j + 1 : Nat) : Int)), (5, vi (rWorth s j u)), (4, vi ((j : Int))), (0, vr (some 69)), (1, vi p), (2, vi u), (3, vi g)]) (tw_s (tw_e 0 rfl (by omega)) (tw_s (tw_g 1 rfl) (tw_s (tw_g 2 rfl) (tw_s (tw_g 7 rfl) (tw_s (tw_g 8 rfl) (tw_s (tw_g 9 rfl) (tw_s (tw_g 10 rfl) tw_s0))))))) ?_; rw [show bstN s p u g (k + 1) j b m = bstN s p u g k (j + 1) j (rWorth s j u) by rw [bstN, if_pos (by refine ⟨by omega, by omega, by omega⟩)]]; exact ih (j + 1) _ _ I32 (by omega) hs32 hk32 (by omega) (by omega))
                      | (refine ar_iinc (k := 72) (l2 := [(6, _), (5, _), (4, _), (10, _), (9, _), (8, _), (7, _), (0, _), (1, _), (2, _), (3, _)]) rfl (by decide) rfl rfl ?_; refine ar_goto (k := 73) rfl ?_; refine ar_sub (l2 := [(6, vi ((j + 1 : Nat) : Int)), (5, vi (m)), (4, vi (b)), (0, vr (some 69)), (1, vi p), (2, vi u), (3, vi g)]) (tw_s (tw_e 0 rfl (by omega)) (tw_s (tw_g 1 rfl) (tw_s (tw_g 2 rfl) (tw_s (tw_g 7 rfl) (tw_s (tw_g 8 rfl) (tw_s (tw_g 9 rfl) (tw_s (tw_g 10 rfl) tw_s0))))))) ?_; rw [show bstN s p u g (k + 1) j b m = bstN s p u g k (j + 1) b m by rw [bstN, if_neg (by omega)]]; exact ih (j + 1) _ _ I32 (by omega) hs32 hk32 (by omega) (by omega))
                  · refine ar_iload (k := 68) rfl rfl ?_
                    refine ar_goto (k := 69) rfl ?_
                    refine ar_istore (k := 71) (l2 := [(5, _), (4, _), (10, _), (9, _), (8, _), (7, _), (6, _), (0, _), (1, _), (2, _), (3, _)]) rfl (by decide) rfl ?_
                    first
                      | (exfalso; omega)
                      | (refine ar_iinc (k := 72) (l2 := [(6, _), (5, _), (4, _), (10, _), (9, _), (8, _), (7, _), (0, _), (1, _), (2, _), (3, _)]) rfl (by decide) rfl rfl ?_; refine ar_goto (k := 73) rfl ?_; refine ar_sub (l2 := [(6, vi ((j + 1 : Nat) : Int)), (5, vi (rWorth s j u)), (4, vi ((j : Int))), (0, vr (some 69)), (1, vi p), (2, vi u), (3, vi g)]) (tw_s (tw_e 0 rfl (by omega)) (tw_s (tw_g 1 rfl) (tw_s (tw_g 2 rfl) (tw_s (tw_g 7 rfl) (tw_s (tw_g 8 rfl) (tw_s (tw_g 9 rfl) (tw_s (tw_g 10 rfl) tw_s0))))))) ?_; rw [show bstN s p u g (k + 1) j b m = bstN s p u g k (j + 1) j (rWorth s j u) by rw [bstN, if_pos (by refine ⟨by omega, by omega, by omega⟩)]]; exact ih (j + 1) _ _ I32 (by omega) hs32 hk32 (by omega) (by omega))
                      | (refine ar_iinc (k := 72) (l2 := [(6, _), (5, _), (4, _), (10, _), (9, _), (8, _), (7, _), (0, _), (1, _), (2, _), (3, _)]) rfl (by decide) rfl rfl ?_; refine ar_goto (k := 73) rfl ?_; refine ar_sub (l2 := [(6, vi ((j + 1 : Nat) : Int)), (5, vi (m)), (4, vi (b)), (0, vr (some 69)), (1, vi p), (2, vi u), (3, vi g)]) (tw_s (tw_e 0 rfl (by omega)) (tw_s (tw_g 1 rfl) (tw_s (tw_g 2 rfl) (tw_s (tw_g 7 rfl) (tw_s (tw_g 8 rfl) (tw_s (tw_g 9 rfl) (tw_s (tw_g 10 rfl) tw_s0))))))) ?_; rw [show bstN s p u g (k + 1) j b m = bstN s p u g k (j + 1) b m by rw [bstN, if_neg (by omega)]]; exact ih (j + 1) _ _ I32 (by omega) hs32 hk32 (by omega) (by omega))
                · refine ar_iload (k := 62) rfl rfl ?_
                  refine ar_goto (k := 63) rfl ?_
                  refine ar_istore (k := 65) (l2 := [(4, _), (10, _), (9, _), (8, _), (7, _), (6, _), (5, _), (0, _), (1, _), (2, _), (3, _)]) rfl (by decide) rfl ?_
                  refine ar_iload (k := 66) rfl rfl ?_
                  refine ar_if_eq (k := 67) rfl (by omega) (fun c67 => ?_) (fun c67 => ?_)
                  · refine ar_iload (k := 70) rfl rfl ?_
                    refine ar_istore (k := 71) (l2 := [(5, _), (4, _), (10, _), (9, _), (8, _), (7, _), (6, _), (0, _), (1, _), (2, _), (3, _)]) rfl (by decide) rfl ?_
                    first
                      | (exfalso; omega)
                      | (refine ar_iinc (k := 72) (l2 := [(6, _), (5, _), (4, _), (10, _), (9, _), (8, _), (7, _), (0, _), (1, _), (2, _), (3, _)]) rfl (by decide) rfl rfl ?_; refine ar_goto (k := 73) rfl ?_; refine ar_sub (l2 := [(6, vi ((j + 1 : Nat) : Int)), (5, vi (rWorth s j u)), (4, vi ((j : Int))), (0, vr (some 69)), (1, vi p), (2, vi u), (3, vi g)]) (tw_s (tw_e 0 rfl (by omega)) (tw_s (tw_g 1 rfl) (tw_s (tw_g 2 rfl) (tw_s (tw_g 7 rfl) (tw_s (tw_g 8 rfl) (tw_s (tw_g 9 rfl) (tw_s (tw_g 10 rfl) tw_s0))))))) ?_; rw [show bstN s p u g (k + 1) j b m = bstN s p u g k (j + 1) j (rWorth s j u) by rw [bstN, if_pos (by refine ⟨by omega, by omega, by omega⟩)]]; exact ih (j + 1) _ _ I32 (by omega) hs32 hk32 (by omega) (by omega))
                      | (refine ar_iinc (k := 72) (l2 := [(6, _), (5, _), (4, _), (10, _), (9, _), (8, _), (7, _), (0, _), (1, _), (2, _), (3, _)]) rfl (by decide) rfl rfl ?_; refine ar_goto (k := 73) rfl ?_; refine ar_sub (l2 := [(6, vi ((j + 1 : Nat) : Int)), (5, vi (m)), (4, vi (b)), (0, vr (some 69)), (1, vi p), (2, vi u), (3, vi g)]) (tw_s (tw_e 0 rfl (by omega)) (tw_s (tw_g 1 rfl) (tw_s (tw_g 2 rfl) (tw_s (tw_g 7 rfl) (tw_s (tw_g 8 rfl) (tw_s (tw_g 9 rfl) (tw_s (tw_g 10 rfl) tw_s0))))))) ?_; rw [show bstN s p u g (k + 1) j b m = bstN s p u g k (j + 1) b m by rw [bstN, if_neg (by omega)]]; exact ih (j + 1) _ _ I32 (by omega) hs32 hk32 (by omega) (by omega))
                  · refine ar_iload (k := 68) rfl rfl ?_
                    refine ar_goto (k := 69) rfl ?_
                    refine ar_istore (k := 71) (l2 := [(5, _), (4, _), (10, _), (9, _), (8, _), (7, _), (6, _), (0, _), (1, _), (2, _), (3, _)]) rfl (by decide) rfl ?_
                    first
                      | (exfalso; omega)
                      | (refine ar_iinc (k := 72) (l2 := [(6, _), (5, _), (4, _), (10, _), (9, _), (8, _), (7, _), (0, _), (1, _), (2, _), (3, _)]) rfl (by decide) rfl rfl ?_; refine ar_goto (k := 73) rfl ?_; refine ar_sub (l2 := [(6, vi ((j + 1 : Nat) : Int)), (5, vi (rWorth s j u)), (4, vi ((j : Int))), (0, vr (some 69)), (1, vi p), (2, vi u), (3, vi g)]) (tw_s (tw_e 0 rfl (by omega)) (tw_s (tw_g 1 rfl) (tw_s (tw_g 2 rfl) (tw_s (tw_g 7 rfl) (tw_s (tw_g 8 rfl) (tw_s (tw_g 9 rfl) (tw_s (tw_g 10 rfl) tw_s0))))))) ?_; rw [show bstN s p u g (k + 1) j b m = bstN s p u g k (j + 1) j (rWorth s j u) by rw [bstN, if_pos (by refine ⟨by omega, by omega, by omega⟩)]]; exact ih (j + 1) _ _ I32 (by omega) hs32 hk32 (by omega) (by omega))
                      | (refine ar_iinc (k := 72) (l2 := [(6, _), (5, _), (4, _), (10, _), (9, _), (8, _), (7, _), (0, _), (1, _), (2, _), (3, _)]) rfl (by decide) rfl rfl ?_; refine ar_goto (k := 73) rfl ?_; refine ar_sub (l2 := [(6, vi ((j + 1 : Nat) : Int)), (5, vi (m)), (4, vi (b)), (0, vr (some 69)), (1, vi p), (2, vi u), (3, vi g)]) (tw_s (tw_e 0 rfl (by omega)) (tw_s (tw_g 1 rfl) (tw_s (tw_g 2 rfl) (tw_s (tw_g 7 rfl) (tw_s (tw_g 8 rfl) (tw_s (tw_g 9 rfl) (tw_s (tw_g 10 rfl) tw_s0))))))) ?_; rw [show bstN s p u g (k + 1) j b m = bstN s p u g k (j + 1) b m by rw [bstN, if_neg (by omega)]]; exact ih (j + 1) _ _ I32 (by omega) hs32 hk32 (by omega) (by omega))
              · refine ar_iload (k := 50) rfl rfl ?_
                refine ar_iconst (k := 51) rfl ?_
                refine ar_icmp_eq (k := 52) rfl (by omega) (by omega) (fun c52 => ?_) (fun c52 => ?_)
                · refine ar_iconst (k := 56) rfl ?_
                  refine ar_goto (k := 57) rfl ?_
                  refine ar_istore (k := 59) (l2 := [(10, _), (9, _), (8, _), (7, _), (6, _), (5, _), (4, _), (0, _), (1, _), (2, _), (3, _)]) rfl (by decide) rfl ?_
                  refine ar_iload (k := 60) rfl rfl ?_
                  refine ar_if_eq (k := 61) rfl (by omega) (fun c61 => ?_) (fun c61 => ?_)
                  · refine ar_iload (k := 64) rfl rfl ?_
                    refine ar_istore (k := 65) (l2 := [(4, _), (10, _), (9, _), (8, _), (7, _), (6, _), (5, _), (0, _), (1, _), (2, _), (3, _)]) rfl (by decide) rfl ?_
                    refine ar_iload (k := 66) rfl rfl ?_
                    refine ar_if_eq (k := 67) rfl (by omega) (fun c67 => ?_) (fun c67 => ?_)
                    · refine ar_iload (k := 70) rfl rfl ?_
                      refine ar_istore (k := 71) (l2 := [(5, _), (4, _), (10, _), (9, _), (8, _), (7, _), (6, _), (0, _), (1, _), (2, _), (3, _)]) rfl (by decide) rfl ?_
                      first
                        | (exfalso; omega)
                        | (refine ar_iinc (k := 72) (l2 := [(6, _), (5, _), (4, _), (10, _), (9, _), (8, _), (7, _), (0, _), (1, _), (2, _), (3, _)]) rfl (by decide) rfl rfl ?_; refine ar_goto (k := 73) rfl ?_; refine ar_sub (l2 := [(6, vi ((j + 1 : Nat) : Int)), (5, vi (rWorth s j u)), (4, vi ((j : Int))), (0, vr (some 69)), (1, vi p), (2, vi u), (3, vi g)]) (tw_s (tw_e 0 rfl (by omega)) (tw_s (tw_g 1 rfl) (tw_s (tw_g 2 rfl) (tw_s (tw_g 7 rfl) (tw_s (tw_g 8 rfl) (tw_s (tw_g 9 rfl) (tw_s (tw_g 10 rfl) tw_s0))))))) ?_; rw [show bstN s p u g (k + 1) j b m = bstN s p u g k (j + 1) j (rWorth s j u) by rw [bstN, if_pos (by refine ⟨by omega, by omega, by omega⟩)]]; exact ih (j + 1) _ _ I32 (by omega) hs32 hk32 (by omega) (by omega))
                        | (refine ar_iinc (k := 72) (l2 := [(6, _), (5, _), (4, _), (10, _), (9, _), (8, _), (7, _), (0, _), (1, _), (2, _), (3, _)]) rfl (by decide) rfl rfl ?_; refine ar_goto (k := 73) rfl ?_; refine ar_sub (l2 := [(6, vi ((j + 1 : Nat) : Int)), (5, vi (m)), (4, vi (b)), (0, vr (some 69)), (1, vi p), (2, vi u), (3, vi g)]) (tw_s (tw_e 0 rfl (by omega)) (tw_s (tw_g 1 rfl) (tw_s (tw_g 2 rfl) (tw_s (tw_g 7 rfl) (tw_s (tw_g 8 rfl) (tw_s (tw_g 9 rfl) (tw_s (tw_g 10 rfl) tw_s0))))))) ?_; rw [show bstN s p u g (k + 1) j b m = bstN s p u g k (j + 1) b m by rw [bstN, if_neg (by omega)]]; exact ih (j + 1) _ _ I32 (by omega) hs32 hk32 (by omega) (by omega))
                    · refine ar_iload (k := 68) rfl rfl ?_
                      refine ar_goto (k := 69) rfl ?_
                      refine ar_istore (k := 71) (l2 := [(5, _), (4, _), (10, _), (9, _), (8, _), (7, _), (6, _), (0, _), (1, _), (2, _), (3, _)]) rfl (by decide) rfl ?_
                      first
                        | (exfalso; omega)
                        | (refine ar_iinc (k := 72) (l2 := [(6, _), (5, _), (4, _), (10, _), (9, _), (8, _), (7, _), (0, _), (1, _), (2, _), (3, _)]) rfl (by decide) rfl rfl ?_; refine ar_goto (k := 73) rfl ?_; refine ar_sub (l2 := [(6, vi ((j + 1 : Nat) : Int)), (5, vi (rWorth s j u)), (4, vi ((j : Int))), (0, vr (some 69)), (1, vi p), (2, vi u), (3, vi g)]) (tw_s (tw_e 0 rfl (by omega)) (tw_s (tw_g 1 rfl) (tw_s (tw_g 2 rfl) (tw_s (tw_g 7 rfl) (tw_s (tw_g 8 rfl) (tw_s (tw_g 9 rfl) (tw_s (tw_g 10 rfl) tw_s0))))))) ?_; rw [show bstN s p u g (k + 1) j b m = bstN s p u g k (j + 1) j (rWorth s j u) by rw [bstN, if_pos (by refine ⟨by omega, by omega, by omega⟩)]]; exact ih (j + 1) _ _ I32 (by omega) hs32 hk32 (by omega) (by omega))
                        | (refine ar_iinc (k := 72) (l2 := [(6, _), (5, _), (4, _), (10, _), (9, _), (8, _), (7, _), (0, _), (1, _), (2, _), (3, _)]) rfl (by decide) rfl rfl ?_; refine ar_goto (k := 73) rfl ?_; refine ar_sub (l2 := [(6, vi ((j + 1 : Nat) : Int)), (5, vi (m)), (4, vi (b)), (0, vr (some 69)), (1, vi p), (2, vi u), (3, vi g)]) (tw_s (tw_e 0 rfl (by omega)) (tw_s (tw_g 1 rfl) (tw_s (tw_g 2 rfl) (tw_s (tw_g 7 rfl) (tw_s (tw_g 8 rfl) (tw_s (tw_g 9 rfl) (tw_s (tw_g 10 rfl) tw_s0))))))) ?_; rw [show bstN s p u g (k + 1) j b m = bstN s p u g k (j + 1) b m by rw [bstN, if_neg (by omega)]]; exact ih (j + 1) _ _ I32 (by omega) hs32 hk32 (by omega) (by omega))
                  · refine ar_iload (k := 62) rfl rfl ?_
                    refine ar_goto (k := 63) rfl ?_
                    refine ar_istore (k := 65) (l2 := [(4, _), (10, _), (9, _), (8, _), (7, _), (6, _), (5, _), (0, _), (1, _), (2, _), (3, _)]) rfl (by decide) rfl ?_
                    refine ar_iload (k := 66) rfl rfl ?_
                    refine ar_if_eq (k := 67) rfl (by omega) (fun c67 => ?_) (fun c67 => ?_)
                    · refine ar_iload (k := 70) rfl rfl ?_
                      refine ar_istore (k := 71) (l2 := [(5, _), (4, _), (10, _), (9, _), (8, _), (7, _), (6, _), (0, _), (1, _), (2, _), (3, _)]) rfl (by decide) rfl ?_
                      first
                        | (exfalso; omega)
                        | (refine ar_iinc (k := 72) (l2 := [(6, _), (5, _), (4, _), (10, _), (9, _), (8, _), (7, _), (0, _), (1, _), (2, _), (3, _)]) rfl (by decide) rfl rfl ?_; refine ar_goto (k := 73) rfl ?_; refine ar_sub (l2 := [(6, vi ((j + 1 : Nat) : Int)), (5, vi (rWorth s j u)), (4, vi ((j : Int))), (0, vr (some 69)), (1, vi p), (2, vi u), (3, vi g)]) (tw_s (tw_e 0 rfl (by omega)) (tw_s (tw_g 1 rfl) (tw_s (tw_g 2 rfl) (tw_s (tw_g 7 rfl) (tw_s (tw_g 8 rfl) (tw_s (tw_g 9 rfl) (tw_s (tw_g 10 rfl) tw_s0))))))) ?_; rw [show bstN s p u g (k + 1) j b m = bstN s p u g k (j + 1) j (rWorth s j u) by rw [bstN, if_pos (by refine ⟨by omega, by omega, by omega⟩)]]; exact ih (j + 1) _ _ I32 (by omega) hs32 hk32 (by omega) (by omega))
                        | (refine ar_iinc (k := 72) (l2 := [(6, _), (5, _), (4, _), (10, _), (9, _), (8, _), (7, _), (0, _), (1, _), (2, _), (3, _)]) rfl (by decide) rfl rfl ?_; refine ar_goto (k := 73) rfl ?_; refine ar_sub (l2 := [(6, vi ((j + 1 : Nat) : Int)), (5, vi (m)), (4, vi (b)), (0, vr (some 69)), (1, vi p), (2, vi u), (3, vi g)]) (tw_s (tw_e 0 rfl (by omega)) (tw_s (tw_g 1 rfl) (tw_s (tw_g 2 rfl) (tw_s (tw_g 7 rfl) (tw_s (tw_g 8 rfl) (tw_s (tw_g 9 rfl) (tw_s (tw_g 10 rfl) tw_s0))))))) ?_; rw [show bstN s p u g (k + 1) j b m = bstN s p u g k (j + 1) b m by rw [bstN, if_neg (by omega)]]; exact ih (j + 1) _ _ I32 (by omega) hs32 hk32 (by omega) (by omega))
                    · refine ar_iload (k := 68) rfl rfl ?_
                      refine ar_goto (k := 69) rfl ?_
                      refine ar_istore (k := 71) (l2 := [(5, _), (4, _), (10, _), (9, _), (8, _), (7, _), (6, _), (0, _), (1, _), (2, _), (3, _)]) rfl (by decide) rfl ?_
                      first
                        | (exfalso; omega)
                        | (refine ar_iinc (k := 72) (l2 := [(6, _), (5, _), (4, _), (10, _), (9, _), (8, _), (7, _), (0, _), (1, _), (2, _), (3, _)]) rfl (by decide) rfl rfl ?_; refine ar_goto (k := 73) rfl ?_; refine ar_sub (l2 := [(6, vi ((j + 1 : Nat) : Int)), (5, vi (rWorth s j u)), (4, vi ((j : Int))), (0, vr (some 69)), (1, vi p), (2, vi u), (3, vi g)]) (tw_s (tw_e 0 rfl (by omega)) (tw_s (tw_g 1 rfl) (tw_s (tw_g 2 rfl) (tw_s (tw_g 7 rfl) (tw_s (tw_g 8 rfl) (tw_s (tw_g 9 rfl) (tw_s (tw_g 10 rfl) tw_s0))))))) ?_; rw [show bstN s p u g (k + 1) j b m = bstN s p u g k (j + 1) j (rWorth s j u) by rw [bstN, if_pos (by refine ⟨by omega, by omega, by omega⟩)]]; exact ih (j + 1) _ _ I32 (by omega) hs32 hk32 (by omega) (by omega))
                        | (refine ar_iinc (k := 72) (l2 := [(6, _), (5, _), (4, _), (10, _), (9, _), (8, _), (7, _), (0, _), (1, _), (2, _), (3, _)]) rfl (by decide) rfl rfl ?_; refine ar_goto (k := 73) rfl ?_; refine ar_sub (l2 := [(6, vi ((j + 1 : Nat) : Int)), (5, vi (m)), (4, vi (b)), (0, vr (some 69)), (1, vi p), (2, vi u), (3, vi g)]) (tw_s (tw_e 0 rfl (by omega)) (tw_s (tw_g 1 rfl) (tw_s (tw_g 2 rfl) (tw_s (tw_g 7 rfl) (tw_s (tw_g 8 rfl) (tw_s (tw_g 9 rfl) (tw_s (tw_g 10 rfl) tw_s0))))))) ?_; rw [show bstN s p u g (k + 1) j b m = bstN s p u g k (j + 1) b m by rw [bstN, if_neg (by omega)]]; exact ih (j + 1) _ _ I32 (by omega) hs32 hk32 (by omega) (by omega))
                · refine ar_iload (k := 53) rfl rfl ?_
                  refine ar_iload (k := 54) rfl rfl ?_
                  refine ar_icmp_le (k := 55) rfl (by omega) (by omega) (fun c55 => ?_) (fun c55 => ?_)
                  · refine ar_iconst (k := 58) rfl ?_
                    refine ar_istore (k := 59) (l2 := [(10, _), (9, _), (8, _), (7, _), (6, _), (5, _), (4, _), (0, _), (1, _), (2, _), (3, _)]) rfl (by decide) rfl ?_
                    refine ar_iload (k := 60) rfl rfl ?_
                    refine ar_if_eq (k := 61) rfl (by omega) (fun c61 => ?_) (fun c61 => ?_)
                    · refine ar_iload (k := 64) rfl rfl ?_
                      refine ar_istore (k := 65) (l2 := [(4, _), (10, _), (9, _), (8, _), (7, _), (6, _), (5, _), (0, _), (1, _), (2, _), (3, _)]) rfl (by decide) rfl ?_
                      refine ar_iload (k := 66) rfl rfl ?_
                      refine ar_if_eq (k := 67) rfl (by omega) (fun c67 => ?_) (fun c67 => ?_)
                      · refine ar_iload (k := 70) rfl rfl ?_
                        refine ar_istore (k := 71) (l2 := [(5, _), (4, _), (10, _), (9, _), (8, _), (7, _), (6, _), (0, _), (1, _), (2, _), (3, _)]) rfl (by decide) rfl ?_
                        first
                          | (exfalso; omega)
                          | (refine ar_iinc (k := 72) (l2 := [(6, _), (5, _), (4, _), (10, _), (9, _), (8, _), (7, _), (0, _), (1, _), (2, _), (3, _)]) rfl (by decide) rfl rfl ?_; refine ar_goto (k := 73) rfl ?_; refine ar_sub (l2 := [(6, vi ((j + 1 : Nat) : Int)), (5, vi (rWorth s j u)), (4, vi ((j : Int))), (0, vr (some 69)), (1, vi p), (2, vi u), (3, vi g)]) (tw_s (tw_e 0 rfl (by omega)) (tw_s (tw_g 1 rfl) (tw_s (tw_g 2 rfl) (tw_s (tw_g 7 rfl) (tw_s (tw_g 8 rfl) (tw_s (tw_g 9 rfl) (tw_s (tw_g 10 rfl) tw_s0))))))) ?_; rw [show bstN s p u g (k + 1) j b m = bstN s p u g k (j + 1) j (rWorth s j u) by rw [bstN, if_pos (by refine ⟨by omega, by omega, by omega⟩)]]; exact ih (j + 1) _ _ I32 (by omega) hs32 hk32 (by omega) (by omega))
                          | (refine ar_iinc (k := 72) (l2 := [(6, _), (5, _), (4, _), (10, _), (9, _), (8, _), (7, _), (0, _), (1, _), (2, _), (3, _)]) rfl (by decide) rfl rfl ?_; refine ar_goto (k := 73) rfl ?_; refine ar_sub (l2 := [(6, vi ((j + 1 : Nat) : Int)), (5, vi (m)), (4, vi (b)), (0, vr (some 69)), (1, vi p), (2, vi u), (3, vi g)]) (tw_s (tw_e 0 rfl (by omega)) (tw_s (tw_g 1 rfl) (tw_s (tw_g 2 rfl) (tw_s (tw_g 7 rfl) (tw_s (tw_g 8 rfl) (tw_s (tw_g 9 rfl) (tw_s (tw_g 10 rfl) tw_s0))))))) ?_; rw [show bstN s p u g (k + 1) j b m = bstN s p u g k (j + 1) b m by rw [bstN, if_neg (by omega)]]; exact ih (j + 1) _ _ I32 (by omega) hs32 hk32 (by omega) (by omega))
                      · refine ar_iload (k := 68) rfl rfl ?_
                        refine ar_goto (k := 69) rfl ?_
                        refine ar_istore (k := 71) (l2 := [(5, _), (4, _), (10, _), (9, _), (8, _), (7, _), (6, _), (0, _), (1, _), (2, _), (3, _)]) rfl (by decide) rfl ?_
                        first
                          | (exfalso; omega)
                          | (refine ar_iinc (k := 72) (l2 := [(6, _), (5, _), (4, _), (10, _), (9, _), (8, _), (7, _), (0, _), (1, _), (2, _), (3, _)]) rfl (by decide) rfl rfl ?_; refine ar_goto (k := 73) rfl ?_; refine ar_sub (l2 := [(6, vi ((j + 1 : Nat) : Int)), (5, vi (rWorth s j u)), (4, vi ((j : Int))), (0, vr (some 69)), (1, vi p), (2, vi u), (3, vi g)]) (tw_s (tw_e 0 rfl (by omega)) (tw_s (tw_g 1 rfl) (tw_s (tw_g 2 rfl) (tw_s (tw_g 7 rfl) (tw_s (tw_g 8 rfl) (tw_s (tw_g 9 rfl) (tw_s (tw_g 10 rfl) tw_s0))))))) ?_; rw [show bstN s p u g (k + 1) j b m = bstN s p u g k (j + 1) j (rWorth s j u) by rw [bstN, if_pos (by refine ⟨by omega, by omega, by omega⟩)]]; exact ih (j + 1) _ _ I32 (by omega) hs32 hk32 (by omega) (by omega))
                          | (refine ar_iinc (k := 72) (l2 := [(6, _), (5, _), (4, _), (10, _), (9, _), (8, _), (7, _), (0, _), (1, _), (2, _), (3, _)]) rfl (by decide) rfl rfl ?_; refine ar_goto (k := 73) rfl ?_; refine ar_sub (l2 := [(6, vi ((j + 1 : Nat) : Int)), (5, vi (m)), (4, vi (b)), (0, vr (some 69)), (1, vi p), (2, vi u), (3, vi g)]) (tw_s (tw_e 0 rfl (by omega)) (tw_s (tw_g 1 rfl) (tw_s (tw_g 2 rfl) (tw_s (tw_g 7 rfl) (tw_s (tw_g 8 rfl) (tw_s (tw_g 9 rfl) (tw_s (tw_g 10 rfl) tw_s0))))))) ?_; rw [show bstN s p u g (k + 1) j b m = bstN s p u g k (j + 1) b m by rw [bstN, if_neg (by omega)]]; exact ih (j + 1) _ _ I32 (by omega) hs32 hk32 (by omega) (by omega))
                    · refine ar_iload (k := 62) rfl rfl ?_
                      refine ar_goto (k := 63) rfl ?_
                      refine ar_istore (k := 65) (l2 := [(4, _), (10, _), (9, _), (8, _), (7, _), (6, _), (5, _), (0, _), (1, _), (2, _), (3, _)]) rfl (by decide) rfl ?_
                      refine ar_iload (k := 66) rfl rfl ?_
                      refine ar_if_eq (k := 67) rfl (by omega) (fun c67 => ?_) (fun c67 => ?_)
                      · refine ar_iload (k := 70) rfl rfl ?_
                        refine ar_istore (k := 71) (l2 := [(5, _), (4, _), (10, _), (9, _), (8, _), (7, _), (6, _), (0, _), (1, _), (2, _), (3, _)]) rfl (by decide) rfl ?_
                        first
                          | (exfalso; omega)
                          | (refine ar_iinc (k := 72) (l2 := [(6, _), (5, _), (4, _), (10, _), (9, _), (8, _), (7, _), (0, _), (1, _), (2, _), (3, _)]) rfl (by decide) rfl rfl ?_; refine ar_goto (k := 73) rfl ?_; refine ar_sub (l2 := [(6, vi ((j + 1 : Nat) : Int)), (5, vi (rWorth s j u)), (4, vi ((j : Int))), (0, vr (some 69)), (1, vi p), (2, vi u), (3, vi g)]) (tw_s (tw_e 0 rfl (by omega)) (tw_s (tw_g 1 rfl) (tw_s (tw_g 2 rfl) (tw_s (tw_g 7 rfl) (tw_s (tw_g 8 rfl) (tw_s (tw_g 9 rfl) (tw_s (tw_g 10 rfl) tw_s0))))))) ?_; rw [show bstN s p u g (k + 1) j b m = bstN s p u g k (j + 1) j (rWorth s j u) by rw [bstN, if_pos (by refine ⟨by omega, by omega, by omega⟩)]]; exact ih (j + 1) _ _ I32 (by omega) hs32 hk32 (by omega) (by omega))
                          | (refine ar_iinc (k := 72) (l2 := [(6, _), (5, _), (4, _), (10, _), (9, _), (8, _), (7, _), (0, _), (1, _), (2, _), (3, _)]) rfl (by decide) rfl rfl ?_; refine ar_goto (k := 73) rfl ?_; refine ar_sub (l2 := [(6, vi ((j + 1 : Nat) : Int)), (5, vi (m)), (4, vi (b)), (0, vr (some 69)), (1, vi p), (2, vi u), (3, vi g)]) (tw_s (tw_e 0 rfl (by omega)) (tw_s (tw_g 1 rfl) (tw_s (tw_g 2 rfl) (tw_s (tw_g 7 rfl) (tw_s (tw_g 8 rfl) (tw_s (tw_g 9 rfl) (tw_s (tw_g 10 rfl) tw_s0))))))) ?_; rw [show bstN s p u g (k + 1) j b m = bstN s p u g k (j + 1) b m by rw [bstN, if_neg (by omega)]]; exact ih (j + 1) _ _ I32 (by omega) hs32 hk32 (by omega) (by omega))
                      · refine ar_iload (k := 68) rfl rfl ?_
                        refine ar_goto (k := 69) rfl ?_
                        refine ar_istore (k := 71) (l2 := [(5, _), (4, _), (10, _), (9, _), (8, _), (7, _), (6, _), (0, _), (1, _), (2, _), (3, _)]) rfl (by decide) rfl ?_
                        first
                          | (exfalso; omega)
                          | (refine ar_iinc (k := 72) (l2 := [(6, _), (5, _), (4, _), (10, _), (9, _), (8, _), (7, _), (0, _), (1, _), (2, _), (3, _)]) rfl (by decide) rfl rfl ?_; refine ar_goto (k := 73) rfl ?_; refine ar_sub (l2 := [(6, vi ((j + 1 : Nat) : Int)), (5, vi (rWorth s j u)), (4, vi ((j : Int))), (0, vr (some 69)), (1, vi p), (2, vi u), (3, vi g)]) (tw_s (tw_e 0 rfl (by omega)) (tw_s (tw_g 1 rfl) (tw_s (tw_g 2 rfl) (tw_s (tw_g 7 rfl) (tw_s (tw_g 8 rfl) (tw_s (tw_g 9 rfl) (tw_s (tw_g 10 rfl) tw_s0))))))) ?_; rw [show bstN s p u g (k + 1) j b m = bstN s p u g k (j + 1) j (rWorth s j u) by rw [bstN, if_pos (by refine ⟨by omega, by omega, by omega⟩)]]; exact ih (j + 1) _ _ I32 (by omega) hs32 hk32 (by omega) (by omega))
                          | (refine ar_iinc (k := 72) (l2 := [(6, _), (5, _), (4, _), (10, _), (9, _), (8, _), (7, _), (0, _), (1, _), (2, _), (3, _)]) rfl (by decide) rfl rfl ?_; refine ar_goto (k := 73) rfl ?_; refine ar_sub (l2 := [(6, vi ((j + 1 : Nat) : Int)), (5, vi (m)), (4, vi (b)), (0, vr (some 69)), (1, vi p), (2, vi u), (3, vi g)]) (tw_s (tw_e 0 rfl (by omega)) (tw_s (tw_g 1 rfl) (tw_s (tw_g 2 rfl) (tw_s (tw_g 7 rfl) (tw_s (tw_g 8 rfl) (tw_s (tw_g 9 rfl) (tw_s (tw_g 10 rfl) tw_s0))))))) ?_; rw [show bstN s p u g (k + 1) j b m = bstN s p u g k (j + 1) b m by rw [bstN, if_neg (by omega)]]; exact ih (j + 1) _ _ I32 (by omega) hs32 hk32 (by omega) (by omega))
                  · refine ar_iconst (k := 56) rfl ?_
                    refine ar_goto (k := 57) rfl ?_
                    refine ar_istore (k := 59) (l2 := [(10, _), (9, _), (8, _), (7, _), (6, _), (5, _), (4, _), (0, _), (1, _), (2, _), (3, _)]) rfl (by decide) rfl ?_
                    refine ar_iload (k := 60) rfl rfl ?_
                    refine ar_if_eq (k := 61) rfl (by omega) (fun c61 => ?_) (fun c61 => ?_)
                    · refine ar_iload (k := 64) rfl rfl ?_
                      refine ar_istore (k := 65) (l2 := [(4, _), (10, _), (9, _), (8, _), (7, _), (6, _), (5, _), (0, _), (1, _), (2, _), (3, _)]) rfl (by decide) rfl ?_
                      refine ar_iload (k := 66) rfl rfl ?_
                      refine ar_if_eq (k := 67) rfl (by omega) (fun c67 => ?_) (fun c67 => ?_)
                      · refine ar_iload (k := 70) rfl rfl ?_
                        refine ar_istore (k := 71) (l2 := [(5, _), (4, _), (10, _), (9, _), (8, _), (7, _), (6, _), (0, _), (1, _), (2, _), (3, _)]) rfl (by decide) rfl ?_
                        first
                          | (exfalso; omega)
                          | (refine ar_iinc (k := 72) (l2 := [(6, _), (5, _), (4, _), (10, _), (9, _), (8, _), (7, _), (0, _), (1, _), (2, _), (3, _)]) rfl (by decide) rfl rfl ?_; refine ar_goto (k := 73) rfl ?_; refine ar_sub (l2 := [(6, vi ((j + 1 : Nat) : Int)), (5, vi (rWorth s j u)), (4, vi ((j : Int))), (0, vr (some 69)), (1, vi p), (2, vi u), (3, vi g)]) (tw_s (tw_e 0 rfl (by omega)) (tw_s (tw_g 1 rfl) (tw_s (tw_g 2 rfl) (tw_s (tw_g 7 rfl) (tw_s (tw_g 8 rfl) (tw_s (tw_g 9 rfl) (tw_s (tw_g 10 rfl) tw_s0))))))) ?_; rw [show bstN s p u g (k + 1) j b m = bstN s p u g k (j + 1) j (rWorth s j u) by rw [bstN, if_pos (by refine ⟨by omega, by omega, by omega⟩)]]; exact ih (j + 1) _ _ I32 (by omega) hs32 hk32 (by omega) (by omega))
                          | (refine ar_iinc (k := 72) (l2 := [(6, _), (5, _), (4, _), (10, _), (9, _), (8, _), (7, _), (0, _), (1, _), (2, _), (3, _)]) rfl (by decide) rfl rfl ?_; refine ar_goto (k := 73) rfl ?_; refine ar_sub (l2 := [(6, vi ((j + 1 : Nat) : Int)), (5, vi (m)), (4, vi (b)), (0, vr (some 69)), (1, vi p), (2, vi u), (3, vi g)]) (tw_s (tw_e 0 rfl (by omega)) (tw_s (tw_g 1 rfl) (tw_s (tw_g 2 rfl) (tw_s (tw_g 7 rfl) (tw_s (tw_g 8 rfl) (tw_s (tw_g 9 rfl) (tw_s (tw_g 10 rfl) tw_s0))))))) ?_; rw [show bstN s p u g (k + 1) j b m = bstN s p u g k (j + 1) b m by rw [bstN, if_neg (by omega)]]; exact ih (j + 1) _ _ I32 (by omega) hs32 hk32 (by omega) (by omega))
                      · refine ar_iload (k := 68) rfl rfl ?_
                        refine ar_goto (k := 69) rfl ?_
                        refine ar_istore (k := 71) (l2 := [(5, _), (4, _), (10, _), (9, _), (8, _), (7, _), (6, _), (0, _), (1, _), (2, _), (3, _)]) rfl (by decide) rfl ?_
                        first
                          | (exfalso; omega)
                          | (refine ar_iinc (k := 72) (l2 := [(6, _), (5, _), (4, _), (10, _), (9, _), (8, _), (7, _), (0, _), (1, _), (2, _), (3, _)]) rfl (by decide) rfl rfl ?_; refine ar_goto (k := 73) rfl ?_; refine ar_sub (l2 := [(6, vi ((j + 1 : Nat) : Int)), (5, vi (rWorth s j u)), (4, vi ((j : Int))), (0, vr (some 69)), (1, vi p), (2, vi u), (3, vi g)]) (tw_s (tw_e 0 rfl (by omega)) (tw_s (tw_g 1 rfl) (tw_s (tw_g 2 rfl) (tw_s (tw_g 7 rfl) (tw_s (tw_g 8 rfl) (tw_s (tw_g 9 rfl) (tw_s (tw_g 10 rfl) tw_s0))))))) ?_; rw [show bstN s p u g (k + 1) j b m = bstN s p u g k (j + 1) j (rWorth s j u) by rw [bstN, if_pos (by refine ⟨by omega, by omega, by omega⟩)]]; exact ih (j + 1) _ _ I32 (by omega) hs32 hk32 (by omega) (by omega))
                          | (refine ar_iinc (k := 72) (l2 := [(6, _), (5, _), (4, _), (10, _), (9, _), (8, _), (7, _), (0, _), (1, _), (2, _), (3, _)]) rfl (by decide) rfl rfl ?_; refine ar_goto (k := 73) rfl ?_; refine ar_sub (l2 := [(6, vi ((j + 1 : Nat) : Int)), (5, vi (m)), (4, vi (b)), (0, vr (some 69)), (1, vi p), (2, vi u), (3, vi g)]) (tw_s (tw_e 0 rfl (by omega)) (tw_s (tw_g 1 rfl) (tw_s (tw_g 2 rfl) (tw_s (tw_g 7 rfl) (tw_s (tw_g 8 rfl) (tw_s (tw_g 9 rfl) (tw_s (tw_g 10 rfl) tw_s0))))))) ?_; rw [show bstN s p u g (k + 1) j b m = bstN s p u g k (j + 1) b m by rw [bstN, if_neg (by omega)]]; exact ih (j + 1) _ _ I32 (by omega) hs32 hk32 (by omega) (by omega))
                    · refine ar_iload (k := 62) rfl rfl ?_
                      refine ar_goto (k := 63) rfl ?_
                      refine ar_istore (k := 65) (l2 := [(4, _), (10, _), (9, _), (8, _), (7, _), (6, _), (5, _), (0, _), (1, _), (2, _), (3, _)]) rfl (by decide) rfl ?_
                      refine ar_iload (k := 66) rfl rfl ?_
                      refine ar_if_eq (k := 67) rfl (by omega) (fun c67 => ?_) (fun c67 => ?_)
                      · refine ar_iload (k := 70) rfl rfl ?_
                        refine ar_istore (k := 71) (l2 := [(5, _), (4, _), (10, _), (9, _), (8, _), (7, _), (6, _), (0, _), (1, _), (2, _), (3, _)]) rfl (by decide) rfl ?_
                        first
                          | (exfalso; omega)
                          | (refine ar_iinc (k := 72) (l2 := [(6, _), (5, _), (4, _), (10, _), (9, _), (8, _), (7, _), (0, _), (1, _), (2, _), (3, _)]) rfl (by decide) rfl rfl ?_; refine ar_goto (k := 73) rfl ?_; refine ar_sub (l2 := [(6, vi ((j + 1 : Nat) : Int)), (5, vi (rWorth s j u)), (4, vi ((j : Int))), (0, vr (some 69)), (1, vi p), (2, vi u), (3, vi g)]) (tw_s (tw_e 0 rfl (by omega)) (tw_s (tw_g 1 rfl) (tw_s (tw_g 2 rfl) (tw_s (tw_g 7 rfl) (tw_s (tw_g 8 rfl) (tw_s (tw_g 9 rfl) (tw_s (tw_g 10 rfl) tw_s0))))))) ?_; rw [show bstN s p u g (k + 1) j b m = bstN s p u g k (j + 1) j (rWorth s j u) by rw [bstN, if_pos (by refine ⟨by omega, by omega, by omega⟩)]]; exact ih (j + 1) _ _ I32 (by omega) hs32 hk32 (by omega) (by omega))
                          | (refine ar_iinc (k := 72) (l2 := [(6, _), (5, _), (4, _), (10, _), (9, _), (8, _), (7, _), (0, _), (1, _), (2, _), (3, _)]) rfl (by decide) rfl rfl ?_; refine ar_goto (k := 73) rfl ?_; refine ar_sub (l2 := [(6, vi ((j + 1 : Nat) : Int)), (5, vi (m)), (4, vi (b)), (0, vr (some 69)), (1, vi p), (2, vi u), (3, vi g)]) (tw_s (tw_e 0 rfl (by omega)) (tw_s (tw_g 1 rfl) (tw_s (tw_g 2 rfl) (tw_s (tw_g 7 rfl) (tw_s (tw_g 8 rfl) (tw_s (tw_g 9 rfl) (tw_s (tw_g 10 rfl) tw_s0))))))) ?_; rw [show bstN s p u g (k + 1) j b m = bstN s p u g k (j + 1) b m by rw [bstN, if_neg (by omega)]]; exact ih (j + 1) _ _ I32 (by omega) hs32 hk32 (by omega) (by omega))
                      · refine ar_iload (k := 68) rfl rfl ?_
                        refine ar_goto (k := 69) rfl ?_
                        refine ar_istore (k := 71) (l2 := [(5, _), (4, _), (10, _), (9, _), (8, _), (7, _), (6, _), (0, _), (1, _), (2, _), (3, _)]) rfl (by decide) rfl ?_
                        first
                          | (exfalso; omega)
                          | (refine ar_iinc (k := 72) (l2 := [(6, _), (5, _), (4, _), (10, _), (9, _), (8, _), (7, _), (0, _), (1, _), (2, _), (3, _)]) rfl (by decide) rfl rfl ?_; refine ar_goto (k := 73) rfl ?_; refine ar_sub (l2 := [(6, vi ((j + 1 : Nat) : Int)), (5, vi (rWorth s j u)), (4, vi ((j : Int))), (0, vr (some 69)), (1, vi p), (2, vi u), (3, vi g)]) (tw_s (tw_e 0 rfl (by omega)) (tw_s (tw_g 1 rfl) (tw_s (tw_g 2 rfl) (tw_s (tw_g 7 rfl) (tw_s (tw_g 8 rfl) (tw_s (tw_g 9 rfl) (tw_s (tw_g 10 rfl) tw_s0))))))) ?_; rw [show bstN s p u g (k + 1) j b m = bstN s p u g k (j + 1) j (rWorth s j u) by rw [bstN, if_pos (by refine ⟨by omega, by omega, by omega⟩)]]; exact ih (j + 1) _ _ I32 (by omega) hs32 hk32 (by omega) (by omega))
                          | (refine ar_iinc (k := 72) (l2 := [(6, _), (5, _), (4, _), (10, _), (9, _), (8, _), (7, _), (0, _), (1, _), (2, _), (3, _)]) rfl (by decide) rfl rfl ?_; refine ar_goto (k := 73) rfl ?_; refine ar_sub (l2 := [(6, vi ((j + 1 : Nat) : Int)), (5, vi (m)), (4, vi (b)), (0, vr (some 69)), (1, vi p), (2, vi u), (3, vi g)]) (tw_s (tw_e 0 rfl (by omega)) (tw_s (tw_g 1 rfl) (tw_s (tw_g 2 rfl) (tw_s (tw_g 7 rfl) (tw_s (tw_g 8 rfl) (tw_s (tw_g 9 rfl) (tw_s (tw_g 10 rfl) tw_s0))))))) ?_; rw [show bstN s p u g (k + 1) j b m = bstN s p u g k (j + 1) b m by rw [bstN, if_neg (by omega)]]; exact ih (j + 1) _ _ I32 (by omega) hs32 hk32 (by omega) (by omega))
theorem c_R_atBest {p u g : Int} (hS : tSt (K, I, Q, n)) (hs : I 70 = s) (hR : RInv s) (hV : RVal s) (p1 : 0 ≤ p ∧ p < 8) (u1 : 0 ≤ u ∧ u ≤ 23) (g1 : g = 0 ∨ g = 1) : tw_R l G 3 mR_atBest [vr (some 69), vi p, vi u, vi g] K I Q n (some (vi (rBest s p u g))) := by
  obtain ⟨h0, h1, h2, h3, h4, h5, h6, hp, hrw, ht, hr, hb, htp, hv⟩ := id hR
  refine tw_intro okR_atBest (Nat.le_of_ble_eq_true rfl) ?_
  refine ar_iconst (k := 0) rfl ?_
  refine ar_istore (k := 1) (l2 := [(4, _), (0, _), (1, _), (2, _), (3, _)]) rfl (by decide) rfl ?_
  refine ar_iconst (k := 2) rfl ?_
  refine ar_istore (k := 3) (l2 := [(5, _), (4, _), (0, _), (1, _), (2, _), (3, _)]) rfl (by decide) rfl ?_
  refine ar_iconst (k := 4) rfl ?_
  refine ar_istore (k := 5) (l2 := [(6, _), (5, _), (4, _), (0, _), (1, _), (2, _), (3, _)]) rfl (by decide) rfl ?_
  refine ar_sub (l2 := [(6, vi ((0 : Nat) : Int)), (5, vi 0), (4, vi (-1)), (0, vr (some 69)), (1, vi p), (2, vi u), (3, vi g)]) (tw_s (tw_e 0 rfl (by rfl)) (tw_s (tw_g 1 rfl) (tw_s (tw_g 2 rfl) (tw_s (tw_g 3 rfl) (tw_s (tw_g 4 rfl) (tw_s (tw_g 5 rfl) (tw_s (tw_g 6 rfl) tw_s0))))))) ?_
  exact l_R_atBest (I := I) hS hR hV p1 u1 g1 _ 0 (-1) 0 I (by omega) hs rk.rf (Or.inl rfl) (by decide)
set_option maxHeartbeats 4000000 in
theorem c_R_atOf {p u : Int} (hS : tSt (K, I, Q, n)) (hs : I 70 = s) (hR : RInv s) (hV : RVal s) (p1 : 0 ≤ p ∧ p < s 0) (u1 : 0 ≤ u ∧ u ≤ 23) : tw_R l G 4 mR_atOf [vr (some 69), vi p, vi u] K I Q n (some (vi (rAt s p u))) := by
  obtain ⟨h0, h1, h2, h3, h4, h5, h6, hp, hrw, ht, hr, hb, htp, hv⟩ := id hR
  have hk : rk I I := rk.rf
  have hw := hp p (by omega) (by omega)
  have hbl := rBell_bd hR
  have hm1 := Int.emod_nonneg u (show rBell s ≠ 0 by omega)
  have hm2 := Int.emod_lt_of_pos u (show 0 < rBell s by omega)
  have a1 := rLeast_bd (p := p) h1.1
  have a2 := rHome_bd (p := p) h1.1
  have a3 := rBest_bd (p := p) (u := u) (g := 0) h1.1
  have a4 := rBest_bd (p := p) (u := u) (g := 1) h1.1
  refine tw_intro okR_atOf (Nat.le_of_ble_eq_true rfl) ?_
  refine ar_aloadn (k := 0) rfl rfl ?_
  refine br_getR (k := 1) rfl (hS.k (by decide)) flR_9_12 (by decide) rfl (hS.r rfl) ?_
  refine ar_bipush (k := 2) rfl (by decide) ?_
  refine ar_iloadn (k := 3) rfl rfl ?_
  refine ar_iadd (k := 4) rfl ?_
  refine br_iads (k := 5) rfl (hS.k (by decide)) (by omega) (by omega) (by decide) hs ?_
  refine ar_istoren (k := 6) (l2 := [(3, _), (0, _), (1, _), (2, _)]) rfl (by decide) rfl ?_
  refine ar_aloadn (k := 7) rfl rfl ?_
  refine ar_iloadn (k := 8) rfl rfl ?_
  refine ar_iloadn (k := 9) rfl rfl ?_
  refine br_callV (k := 10) (as := [_, _]) rfl lvR_141 (hS.k (by decide)) rfl (c_R_isFree hS hs hR (by omega)) rfl (by decide) (by decide) tw_m0 (Nat.le_of_ble_eq_true rfl) ?_
  refine ar_istore (k := 11) (l2 := [(4, _), (3, _), (0, _), (1, _), (2, _)]) rfl (by decide) rfl ?_
  refine ar_aloadn (k := 12) rfl rfl ?_
  refine br_getR (k := 13) rfl (hS.k (by decide)) flR_9_12 (by decide) rfl (hS.r rfl) ?_
  refine ar_bipush (k := 14) rfl (by decide) ?_
  refine ar_iloadn (k := 15) rfl rfl ?_
  refine ar_iadd (k := 16) rfl ?_
  refine br_iads (k := 17) rfl (hS.k (by decide)) (by omega) (by omega) (by decide) hs ?_
  rcases (show s (10 + p) = 1 ∨ s (10 + p) = 2 ∨ s (10 + p) = 3 ∨ s (10 + p) = 4 ∨ s (10 + p) = 5 ∨ s (10 + p) = 6 ∨ (s (10 + p) < 1 ∨ 6 < s (10 + p)) by omega) with q18 | q18 | q18 | q18 | q18 | q18 | q18
  · refine ar_tswIn (k := 18) (t := 64) rfl (by omega) (by omega) (by omega) (by rw [q18]; rfl) (by decide) ?_
    refine ar_iload (k := 19) rfl rfl ?_
    refine ar_if_eq (k := 20) rfl (by omega) (fun c20 => ?_) (fun c20 => ?_)
    · refine ar_iconst (k := 32) rfl ?_
      refine ar_iret (k := 33) rfl rfl rfl (Nat.le_refl _) ?_
      refine ⟨congrArg (fun z => some (vi z)) ?_, I, rfl, hk⟩
      rw [rAt]
      simp only [q18, reduceIte, Int.reduceEq]
      (repeat' split) <;> omega
    · refine ar_iloadn (k := 21) rfl rfl ?_
      refine ar_aloadn (k := 22) rfl rfl ?_
      refine br_callV (k := 23) (as := []) rfl lvR_147 (hS.k (by decide)) rfl (c_R_bell hS hs hR) rfl (by decide) (by decide) tw_m0 (Nat.le_of_ble_eq_true rfl) ?_
      refine ar_irem (k := 24) rfl (by omega) (by omega) (by omega) ?_
      refine tw_top (y := u % rBell s) (by exact Int.tmod_eq_emod_of_nonneg (by omega)) ?_
      refine ar_if_ne (k := 25) rfl (by omega) (fun c25 => ?_) (fun c25 => ?_)
      · refine ar_iconst (k := 32) rfl ?_
        refine ar_iret (k := 33) rfl rfl rfl (Nat.le_refl _) ?_
        refine ⟨congrArg (fun z => some (vi z)) ?_, I, rfl, hk⟩
        rw [rAt]
        simp only [q18, reduceIte, Int.reduceEq]
        (repeat' split) <;> omega
      · refine ar_aloadn (k := 26) rfl rfl ?_
        refine ar_iloadn (k := 27) rfl rfl ?_
        refine ar_iloadn (k := 28) rfl rfl ?_
        refine ar_iconst (k := 29) rfl ?_
        refine br_callVR (k := 30) (as := [_, _, _]) rfl lvR_150 (hS.k (by decide)) rfl (c_R_atBest hS hs hR hV (by omega) (by omega) (by omega)) rfl (by decide) (by decide) tw_m0 (Nat.le_of_ble_eq_true rfl) (fun I30 q30 => ?_)
        have hs30 : I30 70 = s := q30.s.trans hs
        have hk30 := rk.trans hk q30
        refine ar_goto (k := 31) rfl ?_
        refine ar_iret (k := 33) rfl rfl rfl (Nat.le_refl _) ?_
        refine ⟨congrArg (fun z => some (vi z)) ?_, I30, rfl, hk30⟩
        rw [rAt]
        simp only [q18, reduceIte, Int.reduceEq]
        (repeat' split) <;> omega
  · refine ar_tswIn (k := 18) (t := 90) rfl (by omega) (by omega) (by omega) (by rw [q18]; rfl) (by decide) ?_
    refine ar_iload (k := 34) rfl rfl ?_
    refine ar_if_eq (k := 35) rfl (by omega) (fun c35 => ?_) (fun c35 => ?_)
    · refine ar_iconst (k := 40) rfl ?_
      refine ar_iret (k := 41) rfl rfl rfl (Nat.le_refl _) ?_
      refine ⟨congrArg (fun z => some (vi z)) ?_, I, rfl, hk⟩
      rw [rAt]
      simp only [q18, reduceIte, Int.reduceEq]
      (repeat' split) <;> omega
    · refine ar_aloadn (k := 36) rfl rfl ?_
      refine ar_iloadn (k := 37) rfl rfl ?_
      refine br_callV (k := 38) (as := [_]) rfl lvR_154 (hS.k (by decide)) rfl (c_R_atHome hS hs hR (by omega)) rfl (by decide) (by decide) tw_m0 (Nat.le_of_ble_eq_true rfl) ?_
      refine ar_goto (k := 39) rfl ?_
      refine ar_iret (k := 41) rfl rfl rfl (Nat.le_refl _) ?_
      refine ⟨congrArg (fun z => some (vi z)) ?_, I, rfl, hk⟩
      rw [rAt]
      simp only [q18, reduceIte, Int.reduceEq]
      (repeat' split) <;> omega
  · refine ar_tswIn (k := 18) (t := 105) rfl (by omega) (by omega) (by omega) (by rw [q18]; rfl) (by decide) ?_
    refine ar_iload (k := 42) rfl rfl ?_
    refine ar_if_eq (k := 43) rfl (by omega) (fun c43 => ?_) (fun c43 => ?_)
    · refine ar_iconst (k := 50) rfl ?_
      refine ar_iret (k := 51) rfl rfl rfl (Nat.le_refl _) ?_
      refine ⟨congrArg (fun z => some (vi z)) ?_, I, rfl, hk⟩
      rw [rAt]
      simp only [q18, reduceIte, Int.reduceEq]
      (repeat' split) <;> omega
    · refine ar_aloadn (k := 44) rfl rfl ?_
      refine ar_iloadn (k := 45) rfl rfl ?_
      refine ar_iloadn (k := 46) rfl rfl ?_
      refine ar_iconst (k := 47) rfl ?_
      refine br_callVR (k := 48) (as := [_, _, _]) rfl lvR_150 (hS.k (by decide)) rfl (c_R_atBest hS hs hR hV (by omega) (by omega) (by omega)) rfl (by decide) (by decide) tw_m0 (Nat.le_of_ble_eq_true rfl) (fun I48 q48 => ?_)
      have hs48 : I48 70 = s := q48.s.trans hs
      have hk48 := rk.trans hk q48
      refine ar_goto (k := 49) rfl ?_
      refine ar_iret (k := 51) rfl rfl rfl (Nat.le_refl _) ?_
      refine ⟨congrArg (fun z => some (vi z)) ?_, I48, rfl, hk48⟩
      rw [rAt]
      simp only [q18, reduceIte, Int.reduceEq]
      (repeat' split) <;> omega
  · refine ar_tswIn (k := 18) (t := 122) rfl (by omega) (by omega) (by omega) (by rw [q18]; rfl) (by decide) ?_
    refine ar_iload (k := 52) rfl rfl ?_
    refine ar_if_eq (k := 53) rfl (by omega) (fun c53 => ?_) (fun c53 => ?_)
    · refine ar_iconst (k := 65) rfl ?_
      refine ar_istore (k := 66) (l2 := [(5, _), (4, _), (3, _), (0, _), (1, _), (2, _)]) rfl (by decide) rfl ?_
      refine ar_iload (k := 67) rfl rfl ?_
      refine ar_iconst (k := 68) rfl ?_
      refine ar_icmp_ne (k := 69) rfl (by omega) (by omega) (fun c69 => ?_) (fun c69 => ?_)
      · refine ar_iload (k := 81) rfl rfl ?_
        refine ar_iret (k := 82) rfl rfl rfl (Nat.le_refl _) ?_
        refine ⟨congrArg (fun z => some (vi z)) ?_, I, rfl, hk⟩
        rw [rAt]
        simp only [q18, reduceIte, Int.reduceEq]
        (repeat' split) <;> omega
      · refine ar_aloadn (k := 70) rfl rfl ?_
        refine ar_iloadn (k := 71) rfl rfl ?_
        refine br_callV (k := 72) (as := [_]) rfl lvR_120 (hS.k (by decide)) rfl (c_S_isTool hS hs (by omega) h1) rfl (by decide) (by decide) tw_m0 (Nat.le_of_ble_eq_true rfl) ?_
        refine ar_if_eq (k := 73) rfl (by omega) (fun c73 => ?_) (fun c73 => ?_)
        · refine ar_iload (k := 81) rfl rfl ?_
          refine ar_iret (k := 82) rfl rfl rfl (Nat.le_refl _) ?_
          refine ⟨congrArg (fun z => some (vi z)) ?_, I, rfl, hk⟩
          rw [rAt]
          simp only [q18, reduceIte, Int.reduceEq]
          (repeat' split) <;> omega
        · refine ar_aloadn (k := 74) rfl rfl ?_
          refine ar_iloadn (k := 75) rfl rfl ?_
          refine ar_iloadn (k := 76) rfl rfl ?_
          refine br_callV (k := 77) (as := [_, _]) rfl lvR_137 (hS.k (by decide)) rfl (c_R_isFit hS hs hR (by omega) (by omega)) rfl (by decide) (by decide) tw_m0 (Nat.le_of_ble_eq_true rfl) ?_
          refine ar_if_eq (k := 78) rfl (by omega) (fun c78 => ?_) (fun c78 => ?_)
          · refine ar_iload (k := 81) rfl rfl ?_
            refine ar_iret (k := 82) rfl rfl rfl (Nat.le_refl _) ?_
            refine ⟨congrArg (fun z => some (vi z)) ?_, I, rfl, hk⟩
            rw [rAt]
            simp only [q18, reduceIte, Int.reduceEq]
            (repeat' split) <;> omega
          · refine ar_iloadn (k := 79) rfl rfl ?_
            refine ar_goto (k := 80) rfl ?_
            refine ar_iret (k := 82) rfl rfl rfl (Nat.le_refl _) ?_
            refine ⟨congrArg (fun z => some (vi z)) ?_, I, rfl, hk⟩
            rw [rAt]
            simp only [q18, reduceIte, Int.reduceEq]
            (repeat' split) <;> omega
    · refine ar_iloadn (k := 54) rfl rfl ?_
      refine ar_aloadn (k := 55) rfl rfl ?_
      refine br_callV (k := 56) (as := []) rfl lvR_147 (hS.k (by decide)) rfl (c_R_bell hS hs hR) rfl (by decide) (by decide) tw_m0 (Nat.le_of_ble_eq_true rfl) ?_
      refine ar_irem (k := 57) rfl (by omega) (by omega) (by omega) ?_
      refine tw_top (y := u % rBell s) (by exact Int.tmod_eq_emod_of_nonneg (by omega)) ?_
      refine ar_if_ne (k := 58) rfl (by omega) (fun c58 => ?_) (fun c58 => ?_)
      · refine ar_iconst (k := 65) rfl ?_
        refine ar_istore (k := 66) (l2 := [(5, _), (4, _), (3, _), (0, _), (1, _), (2, _)]) rfl (by decide) rfl ?_
        refine ar_iload (k := 67) rfl rfl ?_
        refine ar_iconst (k := 68) rfl ?_
        refine ar_icmp_ne (k := 69) rfl (by omega) (by omega) (fun c69 => ?_) (fun c69 => ?_)
        · refine ar_iload (k := 81) rfl rfl ?_
          refine ar_iret (k := 82) rfl rfl rfl (Nat.le_refl _) ?_
          refine ⟨congrArg (fun z => some (vi z)) ?_, I, rfl, hk⟩
          rw [rAt]
          simp only [q18, reduceIte, Int.reduceEq]
          (repeat' split) <;> omega
        · refine ar_aloadn (k := 70) rfl rfl ?_
          refine ar_iloadn (k := 71) rfl rfl ?_
          refine br_callV (k := 72) (as := [_]) rfl lvR_120 (hS.k (by decide)) rfl (c_S_isTool hS hs (by omega) h1) rfl (by decide) (by decide) tw_m0 (Nat.le_of_ble_eq_true rfl) ?_
          refine ar_if_eq (k := 73) rfl (by omega) (fun c73 => ?_) (fun c73 => ?_)
          · refine ar_iload (k := 81) rfl rfl ?_
            refine ar_iret (k := 82) rfl rfl rfl (Nat.le_refl _) ?_
            refine ⟨congrArg (fun z => some (vi z)) ?_, I, rfl, hk⟩
            rw [rAt]
            simp only [q18, reduceIte, Int.reduceEq]
            (repeat' split) <;> omega
          · refine ar_aloadn (k := 74) rfl rfl ?_
            refine ar_iloadn (k := 75) rfl rfl ?_
            refine ar_iloadn (k := 76) rfl rfl ?_
            refine br_callV (k := 77) (as := [_, _]) rfl lvR_137 (hS.k (by decide)) rfl (c_R_isFit hS hs hR (by omega) (by omega)) rfl (by decide) (by decide) tw_m0 (Nat.le_of_ble_eq_true rfl) ?_
            refine ar_if_eq (k := 78) rfl (by omega) (fun c78 => ?_) (fun c78 => ?_)
            · refine ar_iload (k := 81) rfl rfl ?_
              refine ar_iret (k := 82) rfl rfl rfl (Nat.le_refl _) ?_
              refine ⟨congrArg (fun z => some (vi z)) ?_, I, rfl, hk⟩
              rw [rAt]
              simp only [q18, reduceIte, Int.reduceEq]
              (repeat' split) <;> omega
            · refine ar_iloadn (k := 79) rfl rfl ?_
              refine ar_goto (k := 80) rfl ?_
              refine ar_iret (k := 82) rfl rfl rfl (Nat.le_refl _) ?_
              refine ⟨congrArg (fun z => some (vi z)) ?_, I, rfl, hk⟩
              rw [rAt]
              simp only [q18, reduceIte, Int.reduceEq]
              (repeat' split) <;> omega
      · refine ar_aloadn (k := 59) rfl rfl ?_
        refine ar_iloadn (k := 60) rfl rfl ?_
        refine ar_iloadn (k := 61) rfl rfl ?_
        refine ar_iconst (k := 62) rfl ?_
        refine br_callVR (k := 63) (as := [_, _, _]) rfl lvR_150 (hS.k (by decide)) rfl (c_R_atBest hS hs hR hV (by omega) (by omega) (by omega)) rfl (by decide) (by decide) tw_m0 (Nat.le_of_ble_eq_true rfl) (fun I63 q63 => ?_)
        have hs63 : I63 70 = s := q63.s.trans hs
        have hk63 := rk.trans hk q63
        refine ar_goto (k := 64) rfl ?_
        refine ar_istore (k := 66) (l2 := [(5, _), (4, _), (3, _), (0, _), (1, _), (2, _)]) rfl (by decide) rfl ?_
        refine ar_iload (k := 67) rfl rfl ?_
        refine ar_iconst (k := 68) rfl ?_
        refine ar_icmp_ne (k := 69) rfl (by omega) (by omega) (fun c69 => ?_) (fun c69 => ?_)
        · refine ar_iload (k := 81) rfl rfl ?_
          refine ar_iret (k := 82) rfl rfl rfl (Nat.le_refl _) ?_
          refine ⟨congrArg (fun z => some (vi z)) ?_, I63, rfl, hk63⟩
          rw [rAt]
          simp only [q18, reduceIte, Int.reduceEq]
          (repeat' split) <;> omega
        · refine ar_aloadn (k := 70) rfl rfl ?_
          refine ar_iloadn (k := 71) rfl rfl ?_
          refine br_callV (k := 72) (as := [_]) rfl lvR_120 (hS.k (by decide)) rfl (c_S_isTool hS hs63 (by omega) h1) rfl (by decide) (by decide) tw_m0 (Nat.le_of_ble_eq_true rfl) ?_
          refine ar_if_eq (k := 73) rfl (by omega) (fun c73 => ?_) (fun c73 => ?_)
          · refine ar_iload (k := 81) rfl rfl ?_
            refine ar_iret (k := 82) rfl rfl rfl (Nat.le_refl _) ?_
            refine ⟨congrArg (fun z => some (vi z)) ?_, I63, rfl, hk63⟩
            rw [rAt]
            simp only [q18, reduceIte, Int.reduceEq]
            (repeat' split) <;> omega
          · refine ar_aloadn (k := 74) rfl rfl ?_
            refine ar_iloadn (k := 75) rfl rfl ?_
            refine ar_iloadn (k := 76) rfl rfl ?_
            refine br_callV (k := 77) (as := [_, _]) rfl lvR_137 (hS.k (by decide)) rfl (c_R_isFit hS hs63 hR (by omega) (by omega)) rfl (by decide) (by decide) tw_m0 (Nat.le_of_ble_eq_true rfl) ?_
            refine ar_if_eq (k := 78) rfl (by omega) (fun c78 => ?_) (fun c78 => ?_)
            · refine ar_iload (k := 81) rfl rfl ?_
              refine ar_iret (k := 82) rfl rfl rfl (Nat.le_refl _) ?_
              refine ⟨congrArg (fun z => some (vi z)) ?_, I63, rfl, hk63⟩
              rw [rAt]
              simp only [q18, reduceIte, Int.reduceEq]
              (repeat' split) <;> omega
            · refine ar_iloadn (k := 79) rfl rfl ?_
              refine ar_goto (k := 80) rfl ?_
              refine ar_iret (k := 82) rfl rfl rfl (Nat.le_refl _) ?_
              refine ⟨congrArg (fun z => some (vi z)) ?_, I63, rfl, hk63⟩
              rw [rAt]
              simp only [q18, reduceIte, Int.reduceEq]
              (repeat' split) <;> omega
  · refine ar_tswIn (k := 18) (t := 179) rfl (by omega) (by omega) (by omega) (by rw [q18]; rfl) (by decide) ?_
    refine ar_aloadn (k := 83) rfl rfl ?_
    refine ar_iloadn (k := 84) rfl rfl ?_
    refine ar_iloadn (k := 85) rfl rfl ?_
    refine ar_iloadn (k := 86) rfl rfl ?_
    refine ar_isub (k := 87) rfl ?_
    refine ar_bipush (k := 88) rfl (by decide) ?_
    refine ar_iadd (k := 89) rfl ?_
    refine ar_bipush (k := 90) rfl (by decide) ?_
    refine ar_irem (k := 91) rfl (by omega) (by omega) (by omega) ?_
    refine tw_top (y := (u - s (18 + p) + 24) % 24) (by exact Int.tmod_eq_emod_of_nonneg (by omega)) ?_
    refine br_callV (k := 92) (as := [_, _]) rfl lvR_141 (hS.k (by decide)) rfl (c_R_isFree (u := (u - s (18 + p) + 24) % 24) hS hs hR (by omega)) rfl (by decide) (by decide) tw_m0 (Nat.le_of_ble_eq_true rfl) ?_
    refine ar_if_eq (k := 93) rfl (by omega) (fun c93 => ?_) (fun c93 => ?_)
    · refine ar_iconst (k := 98) rfl ?_
      refine ar_iret (k := 99) rfl rfl rfl (Nat.le_refl _) ?_
      refine ⟨congrArg (fun z => some (vi z)) ?_, I, rfl, hk⟩
      rw [rAt]
      simp only [q18, reduceIte, Int.reduceEq]
      (repeat' split) <;> omega
    · refine ar_aloadn (k := 94) rfl rfl ?_
      refine ar_iloadn (k := 95) rfl rfl ?_
      refine br_callV (k := 96) (as := [_]) rfl lvR_154 (hS.k (by decide)) rfl (c_R_atHome hS hs hR (by omega)) rfl (by decide) (by decide) tw_m0 (Nat.le_of_ble_eq_true rfl) ?_
      refine ar_goto (k := 97) rfl ?_
      refine ar_iret (k := 99) rfl rfl rfl (Nat.le_refl _) ?_
      refine ⟨congrArg (fun z => some (vi z)) ?_, I, rfl, hk⟩
      rw [rAt]
      simp only [q18, reduceIte, Int.reduceEq]
      (repeat' split) <;> omega
  · refine ar_tswIn (k := 18) (t := 206) rfl (by omega) (by omega) (by omega) (by rw [q18]; rfl) (by decide) ?_
    refine ar_aloadn (k := 100) rfl rfl ?_
    refine br_getR (k := 101) rfl (hS.k (by decide)) flR_9_12 (by decide) rfl (hS.r rfl) ?_
    refine ar_bipush (k := 102) rfl (by decide) ?_
    refine ar_iconst (k := 103) rfl ?_
    refine ar_iloadn (k := 104) rfl rfl ?_
    refine ar_imul (k := 105) rfl ?_
    refine ar_iadd (k := 106) rfl ?_
    refine ar_iloadn (k := 107) rfl rfl ?_
    refine ar_iconst (k := 108) rfl ?_
    refine ar_irem (k := 109) rfl (by omega) (by omega) (by omega) ?_
    refine tw_top (y := u % 4) (by exact Int.tmod_eq_emod_of_nonneg (by omega)) ?_
    refine ar_iadd (k := 110) rfl ?_
    refine br_iads (k := 111) rfl (hS.k (by decide)) (by omega) (by omega) (by decide) hs ?_
    have hx := hrw (4 * p + u % 4) (by omega) (by omega)
    rw [← Int.add_assoc] at hx
    refine ar_istore (k := 112) (l2 := [(5, _), (4, _), (3, _), (0, _), (1, _), (2, _)]) rfl (by decide) rfl ?_
    refine ar_iload (k := 113) rfl rfl ?_
    refine ar_if_ne (k := 114) rfl (by omega) (fun c114 => ?_) (fun c114 => ?_)
    · refine ar_aloadn (k := 117) rfl rfl ?_
      refine ar_iload (k := 118) rfl rfl ?_
      refine br_callV (k := 119) (as := [_]) rfl lvR_120 (hS.k (by decide)) rfl (c_S_isTool hS hs (by omega) h1) rfl (by decide) (by decide) tw_m0 (Nat.le_of_ble_eq_true rfl) ?_
      refine ar_if_eq (k := 120) rfl (by omega) (fun c120 => ?_) (fun c120 => ?_)
      · refine ar_aloadn (k := 131) rfl rfl ?_
        refine ar_iloadn (k := 132) rfl rfl ?_
        refine ar_iloadn (k := 133) rfl rfl ?_
        refine ar_iconst (k := 134) rfl ?_
        refine br_callVR (k := 135) (as := [_, _, _]) rfl lvR_150 (hS.k (by decide)) rfl (c_R_atBest hS hs hR hV (by omega) (by omega) (by omega)) rfl (by decide) (by decide) tw_m0 (Nat.le_of_ble_eq_true rfl) (fun I135 q135 => ?_)
        have hs135 : I135 70 = s := q135.s.trans hs
        have hk135 := rk.trans hk q135
        refine ar_iret (k := 136) rfl rfl rfl (Nat.le_refl _) ?_
        refine ⟨congrArg (fun z => some (vi z)) ?_, I135, rfl, hk135⟩
        rw [rAt]
        simp only [q18, reduceIte, Int.reduceEq]
        (repeat' split) <;> omega
      · have hy := ht (s (42 + 4 * p + u % 4)) (by omega) (by omega)
        refine ar_aloadn (k := 121) rfl rfl ?_
        refine br_getR (k := 122) rfl (hS.k (by decide)) flR_9_12 (by decide) rfl (hS.r rfl) ?_
        refine ar_bipush (k := 123) rfl (by decide) ?_
        refine ar_iload (k := 124) rfl rfl ?_
        refine ar_iadd (k := 125) rfl ?_
        refine br_iads (k := 126) rfl (hS.k (by decide)) (by omega) (by omega) (by decide) hs ?_
        refine ar_iloadn (k := 127) rfl rfl ?_
        refine ar_icmp_ne (k := 128) rfl (by omega) (by omega) (fun c128 => ?_) (fun c128 => ?_)
        · refine ar_aloadn (k := 131) rfl rfl ?_
          refine ar_iloadn (k := 132) rfl rfl ?_
          refine ar_iloadn (k := 133) rfl rfl ?_
          refine ar_iconst (k := 134) rfl ?_
          refine br_callVR (k := 135) (as := [_, _, _]) rfl lvR_150 (hS.k (by decide)) rfl (c_R_atBest hS hs hR hV (by omega) (by omega) (by omega)) rfl (by decide) (by decide) tw_m0 (Nat.le_of_ble_eq_true rfl) (fun I135 q135 => ?_)
          have hs135 : I135 70 = s := q135.s.trans hs
          have hk135 := rk.trans hk q135
          refine ar_iret (k := 136) rfl rfl rfl (Nat.le_refl _) ?_
          refine ⟨congrArg (fun z => some (vi z)) ?_, I135, rfl, hk135⟩
          rw [rAt]
          simp only [q18, reduceIte, Int.reduceEq]
          (repeat' split) <;> omega
        · refine ar_iload (k := 129) rfl rfl ?_
          refine ar_goto (k := 130) rfl ?_
          refine ar_iret (k := 136) rfl rfl rfl (Nat.le_refl _) ?_
          refine ⟨congrArg (fun z => some (vi z)) ?_, I, rfl, hk⟩
          rw [rAt]
          simp only [q18, reduceIte, Int.reduceEq]
          (repeat' split) <;> omega
    · refine ar_iconst (k := 115) rfl ?_
      refine ar_goto (k := 116) rfl ?_
      refine ar_iret (k := 136) rfl rfl rfl (Nat.le_refl _) ?_
      refine ⟨congrArg (fun z => some (vi z)) ?_, I, rfl, hk⟩
      rw [rAt]
      simp only [q18, reduceIte, Int.reduceEq]
      (repeat' split) <;> omega
  · refine ar_tswOut (k := 18) (t := 268) rfl (by omega) (by omega) (by decide) ?_
    have q18 : s (10 + p) = 0 := by omega
    refine ar_iload (k := 137) rfl rfl ?_
    refine ar_if_eq (k := 138) rfl (by omega) (fun c138 => ?_) (fun c138 => ?_)
    · refine ar_iconst (k := 143) rfl ?_
      refine ar_iret (k := 144) rfl rfl rfl (Nat.le_refl _) ?_
      refine ⟨congrArg (fun z => some (vi z)) ?_, I, rfl, hk⟩
      rw [rAt]
      simp only [q18, reduceIte, Int.reduceEq]
      (repeat' split) <;> omega
    · refine ar_aloadn (k := 139) rfl rfl ?_
      refine ar_iloadn (k := 140) rfl rfl ?_
      refine br_callV (k := 141) (as := [_]) rfl lvR_144 (hS.k (by decide)) rfl (c_R_atLeast hS hs hR (by omega)) rfl (by decide) (by decide) tw_m0 (Nat.le_of_ble_eq_true rfl) ?_
      refine ar_goto (k := 142) rfl ?_
      refine ar_iret (k := 144) rfl rfl rfl (Nat.le_refl _) ?_
      refine ⟨congrArg (fun z => some (vi z)) ?_, I, rfl, hk⟩
      rw [rAt]
      simp only [q18, reduceIte, Int.reduceEq]
      (repeat' split) <;> omega
theorem c_R_at {p u : Int} (hS : tSt (K, I, Q, n)) (hs : I 70 = s) (hR : RInv s) (hV : RVal s) (tp : tr p) (tu : tr u) : tw_R l G 5 mR_at [vr (some 69), vi p, vi u] K I Q n (some (vi (if (0 ≤ p ∧ p ≤ s 0 - 1) ∧ (0 ≤ u ∧ u ≤ 23) then (if rAt s p u = -1 then -5 else rAt s p u) else -1))) := by
  obtain ⟨h0, h1, h2, h3, h4, h5, h6, hp, hrw, ht, hr, hb, htp, hv⟩ := id hR
  have hk : rk I I := rk.rf
  have hb2 := rAt_bd (p := p) (u := u) h1.1
  refine tw_intro okR_at (Nat.le_of_ble_eq_true rfl) ?_
  refine ar_aloadn (k := 0) rfl rfl ?_
  refine ar_iloadn (k := 1) rfl rfl ?_
  refine br_callV (k := 2) (as := [_]) rfl lvR_115 (hS.k (by decide)) rfl (c_S_isPerson hS hs (by omega) h0) rfl (by decide) (by decide) tw_m0 (Nat.le_of_ble_eq_true rfl) ?_
  refine ar_if_eq (k := 3) rfl (by omega) (fun c3 => ?_) (fun c3 => ?_)
  · refine ar_iconst (k := 7) rfl ?_
    refine ar_iret (k := 8) rfl rfl rfl (Nat.le_refl _) ?_
    exact ⟨congrArg (fun z => some (vi z)) (by omega), I, rfl, hk⟩
  · refine ar_iloadn (k := 4) rfl rfl ?_
    refine br_callS (k := 5) (as := [_]) rfl lsR_130 (c_R_isHour (by omega)) rfl (by decide) (by decide) tw_m0 (Nat.le_of_ble_eq_true rfl) ?_
    refine ar_if_ne (k := 6) rfl (by omega) (fun c6 => ?_) (fun c6 => ?_)
    · refine ar_aloadn (k := 9) rfl rfl ?_
      refine ar_iloadn (k := 10) rfl rfl ?_
      refine ar_iloadn (k := 11) rfl rfl ?_
      refine br_callVR (k := 12) (as := [_, _]) rfl lvR_157 (hS.k (by decide)) rfl (c_R_atOf hS hs hR hV (by omega) (by omega)) rfl (by decide) (by decide) tw_m0 (Nat.le_of_ble_eq_true rfl) (fun I12 q12 => ?_)
      have hs12 : I12 70 = s := q12.s.trans hs
      have hk12 := rk.trans hk q12
      refine ar_istoren (k := 13) (l2 := [(3, _), (0, _), (1, _), (2, _)]) rfl (by decide) rfl ?_
      refine ar_iloadn (k := 14) rfl rfl ?_
      refine ar_iconst (k := 15) rfl ?_
      refine ar_icmp_ne (k := 16) rfl (by omega) (by omega) (fun c16 => ?_) (fun c16 => ?_)
      · refine ar_iloadn (k := 19) rfl rfl ?_
        refine ar_iret (k := 20) rfl rfl rfl (Nat.le_refl _) ?_
        exact ⟨congrArg (fun z => some (vi z)) (by omega), I12, rfl, hk12⟩
      · refine ar_bipush (k := 17) rfl (by decide) ?_
        refine ar_goto (k := 18) rfl ?_
        refine ar_iret (k := 20) rfl rfl rfl (Nat.le_refl _) ?_
        exact ⟨congrArg (fun z => some (vi z)) (by omega), I12, rfl, hk12⟩
    · refine ar_iconst (k := 7) rfl ?_
      refine ar_iret (k := 8) rfl rfl rfl (Nat.le_refl _) ?_
      exact ⟨congrArg (fun z => some (vi z)) (by omega), I, rfl, hk⟩
end RE
