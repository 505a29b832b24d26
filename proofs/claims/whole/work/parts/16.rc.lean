abbrev rFreeP (s : Int → Int) (p u : Int) : Prop := bAnd (bShr (s (34 + p)) u) 1 = 1
abbrev rFitP (s : Int → Int) (p t : Int) : Prop := s (84 + t) = p ∧ s (104 + t) = 0 ∧ s (94 + t) ≠ -1
/-- the first place from j on, of k places, where it holds; else d -/
def fstD (d : Int) (p : Nat → Bool) : Nat → Nat → Int
  | 0, _ => d
  | k + 1, j => if p j = true then (j : Int) else fstD d p k (j + 1)
def rLeast (s : Int → Int) (p : Int) : Int := fstD (-1) (fun t => decide (rFitP s p t)) (s 1).toNat 0
def rHome (s : Int → Int) (p : Int) : Int := fstD (rLeast s p) (fun t => decide (rFitP s p t ∧ s (26 + s (84 + s (94 + (t : Int)))) = s (26 + p))) (s 1).toNat 0
theorem bAnd1 (x : Int) : 0 ≤ bAnd x 1 ∧ bAnd x 1 ≤ 1 := by
  unfold bAnd
  have h : ∀ y : BitVec 32, 0 ≤ (y &&& 1#32).toInt ∧ (y &&& 1#32).toInt ≤ 1 := by
    intro y
    have e : (y &&& 1#32).toNat = y.toNat % 2 := by
      rw [BitVec.toNat_and]
      exact Nat.and_one_is_mod _
    have h2 : (y &&& 1#32).toNat < 2 := by rw [e]; omega
    rw [BitVec.toInt_eq_toNat_of_lt (by omega)]
    omega
  exact h _
section RC
variable {l : Launch} {G : tG} {K : Nat → Nat × Nat} {I : Nat → Int → Int} {Q : Nat → Int → Option Nat} {n : Nat} {s : Int → Int}
theorem c_R_bell (hS : tSt (K, I, Q, n)) (hs : I 70 = s) (hR : RInv s) : tw_F l G 1 0 0 mR_bell [vr (some 69)] (K, I, Q, n) (some (vi (rBell s))) (K, I, Q, n) := by
  obtain ⟨h0, h1, h2, h3, h4, h5, h6, hp, hrw, ht, hr, hb, htp, hv⟩ := id hR
  refine tw_intro okR_bell (Nat.le_of_ble_eq_true rfl) ?_
  refine ar_aloadn (k := 0) rfl rfl ?_
  refine br_getR (k := 1) rfl (hS.k (by decide)) flR_9_12 (by decide) rfl (hS.r rfl) ?_
  refine ar_bipush (k := 2) rfl (by decide) ?_
  refine br_iads (k := 3) rfl (hS.k (by decide)) (by omega) (by omega) (by decide) hs ?_
  refine ar_iconst (k := 4) rfl ?_
  refine ar_icmp_ne (k := 5) rfl (by omega) (by omega) (fun c5 => ?_) (fun c5 => ?_)
  · have hw := hv (s 6) (by omega) (by omega)
    refine ar_aloadn (k := 8) rfl rfl ?_
    refine br_getR (k := 9) rfl (hS.k (by decide)) flR_9_12 (by decide) rfl (hS.r rfl) ?_
    refine ar_sipush (k := 10) rfl (by decide) ?_
    refine ar_aloadn (k := 11) rfl rfl ?_
    refine br_getR (k := 12) rfl (hS.k (by decide)) flR_9_12 (by decide) rfl (hS.r rfl) ?_
    refine ar_bipush (k := 13) rfl (by decide) ?_
    refine br_iads (k := 14) rfl (hS.k (by decide)) (by omega) (by omega) (by decide) hs ?_
    refine ar_iadd (k := 15) rfl ?_
    refine br_iads (k := 16) rfl (hS.k (by decide)) (by omega) (by omega) (by decide) hs ?_
    refine ar_istoren (k := 17) (l2 := [(1, _), (0, _)]) rfl (by decide) rfl ?_
    refine ar_iloadn (k := 18) rfl rfl ?_
    refine ar_iconst (k := 19) rfl ?_
    refine ar_icmp_ge (k := 20) rfl (by omega) (by omega) (fun c20 => ?_) (fun c20 => ?_)
    · refine ar_iloadn (k := 23) rfl rfl ?_
      refine ar_iret (k := 24) rfl rfl rfl (Nat.le_refl _) ?_
      exact ⟨congrArg (fun z => some (vi z)) (by unfold rBell; omega), rfl⟩
    · refine ar_iconst (k := 21) rfl ?_
      refine ar_goto (k := 22) rfl ?_
      refine ar_iret (k := 24) rfl rfl rfl (Nat.le_refl _) ?_
      exact ⟨congrArg (fun z => some (vi z)) (by unfold rBell; omega), rfl⟩
  · refine ar_bipush (k := 6) rfl (by decide) ?_
    refine ar_goto (k := 7) rfl ?_
    refine ar_istoren (k := 17) (l2 := [(1, _), (0, _)]) rfl (by decide) rfl ?_
    refine ar_iloadn (k := 18) rfl rfl ?_
    refine ar_iconst (k := 19) rfl ?_
    refine ar_icmp_ge (k := 20) rfl (by omega) (by omega) (fun c20 => ?_) (fun c20 => ?_)
    · refine ar_iloadn (k := 23) rfl rfl ?_
      refine ar_iret (k := 24) rfl rfl rfl (Nat.le_refl _) ?_
      exact ⟨congrArg (fun z => some (vi z)) (by unfold rBell; omega), rfl⟩
    · refine ar_iconst (k := 21) rfl ?_
      refine ar_goto (k := 22) rfl ?_
      refine ar_iret (k := 24) rfl rfl rfl (Nat.le_refl _) ?_
      exact ⟨congrArg (fun z => some (vi z)) (by unfold rBell; omega), rfl⟩
theorem c_R_lesser {t : Int} (hS : tSt (K, I, Q, n)) (hs : I 70 = s) (hR : RInv s) (t1 : 0 ≤ t ∧ t < s 1) : tw_F l G 1 0 0 mR_lesser [vr (some 69), vi t] (K, I, Q, n) (some (vi (rLess s t))) (K, I, Q, n) := by
  obtain ⟨h0, h1, h2, h3, h4, h5, h6, hp, hrw, ht, hr, hb, htp, hv⟩ := id hR
  have hw := ht t (by omega) (by omega)
  refine tw_intro okR_lesser (Nat.le_of_ble_eq_true rfl) ?_
  refine ar_aloadn (k := 0) rfl rfl ?_
  refine br_getR (k := 1) rfl (hS.k (by decide)) flR_9_12 (by decide) rfl (hS.r rfl) ?_
  refine ar_bipush (k := 2) rfl (by decide) ?_
  refine ar_iloadn (k := 3) rfl rfl ?_
  refine ar_iadd (k := 4) rfl ?_
  refine br_iads (k := 5) rfl (hS.k (by decide)) (by omega) (by omega) (by decide) hs ?_
  refine ar_iloadn (k := 6) rfl rfl ?_
  refine ar_icmp_ge (k := 7) rfl (by omega) (by omega) (fun c7 => ?_) (fun c7 => ?_)
  · refine ar_iloadn (k := 15) rfl rfl ?_
    refine ar_iret (k := 16) rfl rfl rfl (Nat.le_refl _) ?_
    exact ⟨congrArg (fun z => some (vi z)) (by unfold rLess; omega), rfl⟩
  · refine ar_aloadn (k := 8) rfl rfl ?_
    refine br_getR (k := 9) rfl (hS.k (by decide)) flR_9_12 (by decide) rfl (hS.r rfl) ?_
    refine ar_bipush (k := 10) rfl (by decide) ?_
    refine ar_iloadn (k := 11) rfl rfl ?_
    refine ar_iadd (k := 12) rfl ?_
    refine br_iads (k := 13) rfl (hS.k (by decide)) (by omega) (by omega) (by decide) hs ?_
    refine ar_goto (k := 14) rfl ?_
    refine ar_iret (k := 16) rfl rfl rfl (Nat.le_refl _) ?_
    exact ⟨congrArg (fun z => some (vi z)) (by unfold rLess; omega), rfl⟩
theorem c_R_isFree {p u : Int} (hS : tSt (K, I, Q, n)) (hs : I 70 = s) (hR : RInv s) (p1 : 0 ≤ p ∧ p < 8) : tw_F l G 1 0 0 mR_isFree [vr (some 69), vi p, vi u] (K, I, Q, n) (some (vi (if rFreeP s p u then 1 else 0))) (K, I, Q, n) := by
  obtain ⟨h0, h1, h2, h3, h4, h5, h6, hp, hrw, ht, hr, hb, htp, hv⟩ := id hR
  have hw := bAnd1 (bShr (s (34 + p)) u)
  refine tw_intro okR_isFree (Nat.le_of_ble_eq_true rfl) ?_
  refine ar_aloadn (k := 0) rfl rfl ?_
  refine br_getR (k := 1) rfl (hS.k (by decide)) flR_9_12 (by decide) rfl (hS.r rfl) ?_
  refine ar_bipush (k := 2) rfl (by decide) ?_
  refine ar_iloadn (k := 3) rfl rfl ?_
  refine ar_iadd (k := 4) rfl ?_
  refine br_iads (k := 5) rfl (hS.k (by decide)) (by omega) (by omega) (by decide) hs ?_
  refine ar_iloadn (k := 6) rfl rfl ?_
  refine ar_ishr (k := 7) rfl ?_
  refine ar_iconst (k := 8) rfl ?_
  refine ar_iand (k := 9) rfl ?_
  refine ar_iconst (k := 10) rfl ?_
  refine ar_icmp_ne (k := 11) rfl (by omega) (by omega) (fun c11 => ?_) (fun c11 => ?_)
  · refine ar_iconst (k := 14) rfl ?_
    refine ar_zret (k := 15) rfl rfl (by omega) rfl (Nat.le_refl _) ?_
    exact ⟨congrArg (fun z => some (vi z)) (by omega), rfl⟩
  · refine ar_iconst (k := 12) rfl ?_
    refine ar_goto (k := 13) rfl ?_
    refine ar_zret (k := 15) rfl rfl (by omega) rfl (Nat.le_refl _) ?_
    exact ⟨congrArg (fun z => some (vi z)) (by omega), rfl⟩
theorem c_R_isFit {p t : Int} (hS : tSt (K, I, Q, n)) (hs : I 70 = s) (hR : RInv s) (p1 : tr p) (t1 : 0 ≤ t ∧ t < s 1) : tw_F l G 1 0 0 mR_isFit [vr (some 69), vi p, vi t] (K, I, Q, n) (some (vi (if rFitP s p t then 1 else 0))) (K, I, Q, n) := by
  obtain ⟨h0, h1, h2, h3, h4, h5, h6, hp, hrw, ht, hr, hb, htp, hv⟩ := id hR
  have hw := ht t (by omega) (by omega)
  refine tw_intro okR_isFit (Nat.le_of_ble_eq_true rfl) ?_
  refine ar_aloadn (k := 0) rfl rfl ?_
  refine br_getR (k := 1) rfl (hS.k (by decide)) flR_9_12 (by decide) rfl (hS.r rfl) ?_
  refine ar_bipush (k := 2) rfl (by decide) ?_
  refine ar_iloadn (k := 3) rfl rfl ?_
  refine ar_iadd (k := 4) rfl ?_
  refine br_iads (k := 5) rfl (hS.k (by decide)) (by omega) (by omega) (by decide) hs ?_
  refine ar_iloadn (k := 6) rfl rfl ?_
  refine ar_icmp_ne (k := 7) rfl (by omega) (by omega) (fun c7 => ?_) (fun c7 => ?_)
  · refine ar_iconst (k := 25) rfl ?_
    refine ar_zret (k := 26) rfl rfl (by omega) rfl (Nat.le_refl _) ?_
    exact ⟨congrArg (fun z => some (vi z)) (by omega), rfl⟩
  · refine ar_aloadn (k := 8) rfl rfl ?_
    refine br_getR (k := 9) rfl (hS.k (by decide)) flR_9_12 (by decide) rfl (hS.r rfl) ?_
    refine ar_bipush (k := 10) rfl (by decide) ?_
    refine ar_iloadn (k := 11) rfl rfl ?_
    refine ar_iadd (k := 12) rfl ?_
    refine br_iads (k := 13) rfl (hS.k (by decide)) (by omega) (by omega) (by decide) hs ?_
    refine ar_if_ne (k := 14) rfl (by omega) (fun c14 => ?_) (fun c14 => ?_)
    · refine ar_iconst (k := 25) rfl ?_
      refine ar_zret (k := 26) rfl rfl (by omega) rfl (Nat.le_refl _) ?_
      exact ⟨congrArg (fun z => some (vi z)) (by omega), rfl⟩
    · refine ar_aloadn (k := 15) rfl rfl ?_
      refine br_getR (k := 16) rfl (hS.k (by decide)) flR_9_12 (by decide) rfl (hS.r rfl) ?_
      refine ar_bipush (k := 17) rfl (by decide) ?_
      refine ar_iloadn (k := 18) rfl rfl ?_
      refine ar_iadd (k := 19) rfl ?_
      refine br_iads (k := 20) rfl (hS.k (by decide)) (by omega) (by omega) (by decide) hs ?_
      refine ar_iconst (k := 21) rfl ?_
      refine ar_icmp_eq (k := 22) rfl (by omega) (by omega) (fun c22 => ?_) (fun c22 => ?_)
      · refine ar_iconst (k := 25) rfl ?_
        refine ar_zret (k := 26) rfl rfl (by omega) rfl (Nat.le_refl _) ?_
        exact ⟨congrArg (fun z => some (vi z)) (by omega), rfl⟩
      · refine ar_iconst (k := 23) rfl ?_
        refine ar_goto (k := 24) rfl ?_
        refine ar_zret (k := 26) rfl rfl (by omega) rfl (Nat.le_refl _) ?_
        exact ⟨congrArg (fun z => some (vi z)) (by omega), rfl⟩
theorem l_R_atLeast {p : Int} (hS : tSt (K, I, Q, n)) (hs : I 70 = s) (hR : RInv s) (p1 : 0 ≤ p ∧ p < 8) : ∀ (k : Nat) (j : Nat), j + k = (s 1).toNat → tw_AW l G mR_atLeast 2 0 0 n 0 (tw_fn (some (vi (fstD (-1) (fun t => decide (rFitP s p t)) k j))) (K, I, Q, n)) 2 [(2, vi (j : Int)), (0, vr (some 69)), (1, vi p)] [] (K, I, Q, n) := by
  obtain ⟨h0, h1, h2, h3, h4, h5, h6, hp, hrw, ht, hr, hb, htp, hv⟩ := id hR
  intro k
  induction k with
  | zero =>
    intro j hj
    refine ar_iloadn (k := 2) rfl rfl ?_
    refine ar_aloadn (k := 3) rfl rfl ?_
    refine br_getR (k := 4) rfl (hS.k (by decide)) flR_9_12 (by decide) rfl (hS.r rfl) ?_
    refine ar_iconst (k := 5) rfl ?_
    refine br_iads (k := 6) rfl (hS.k (by decide)) (by omega) (by omega) (by decide) hs ?_
    refine ar_icmp_ge (k := 7) rfl (by omega) (by omega) (fun c7 => ?_) (fun c7 => ?_)
    · refine ar_iconst (k := 17) rfl ?_
      refine ar_iret (k := 18) rfl rfl rfl (Nat.le_refl _) ?_
      exact ⟨rfl, rfl⟩
    · exfalso; omega
  | succ k ih =>
    intro j hj
    refine ar_iloadn (k := 2) rfl rfl ?_
    refine ar_aloadn (k := 3) rfl rfl ?_
    refine br_getR (k := 4) rfl (hS.k (by decide)) flR_9_12 (by decide) rfl (hS.r rfl) ?_
    refine ar_iconst (k := 5) rfl ?_
    refine br_iads (k := 6) rfl (hS.k (by decide)) (by omega) (by omega) (by decide) hs ?_
    refine ar_icmp_ge (k := 7) rfl (by omega) (by omega) (fun c7 => ?_) (fun c7 => ?_)
    · exfalso; omega
    · refine ar_aloadn (k := 8) rfl rfl ?_
      refine ar_iloadn (k := 9) rfl rfl ?_
      refine ar_iloadn (k := 10) rfl rfl ?_
      refine br_callV (k := 11) (as := [_, _]) rfl lvR_137 (hS.k (by decide)) rfl (c_R_isFit hS hs hR (by omega) (by omega)) rfl (by decide) (by decide) tw_m0 (Nat.le_of_ble_eq_true rfl) ?_
      refine ar_if_eq (k := 12) rfl (by omega) (fun c12 => ?_) (fun c12 => ?_)
      · refine ar_iinc (k := 15) (l2 := [(2, _), (0, _), (1, _)]) rfl (by decide) rfl rfl ?_
        refine ar_goto (k := 16) rfl ?_
        refine ar_sub (l2 := [(2, vi ((j + 1 : Nat) : Int)), (0, vr (some 69)), (1, vi p)]) (tw_s (tw_e 0 rfl (by omega)) (tw_s (tw_g 1 rfl) (tw_s (tw_g 2 rfl) tw_s0))) ?_
        have e : fstD (-1) (fun t => decide (rFitP s p t)) (k + 1) j = fstD (-1) (fun t => decide (rFitP s p t)) k (j + 1) := by
          rw [fstD, if_neg (by simp only [decide_eq_true_eq]; omega)]
        rw [e]
        exact ih (j + 1) (by omega)
      · refine ar_iloadn (k := 13) rfl rfl ?_
        refine ar_iret (k := 14) rfl rfl rfl (Nat.le_refl _) ?_
        refine ⟨congrArg (fun z => some (vi z)) ?_, rfl⟩
        rw [fstD, if_pos (by simp only [decide_eq_true_eq]; omega)]
theorem c_R_atLeast {p : Int} (hS : tSt (K, I, Q, n)) (hs : I 70 = s) (hR : RInv s) (p1 : 0 ≤ p ∧ p < 8) : tw_F l G 2 0 0 mR_atLeast [vr (some 69), vi p] (K, I, Q, n) (some (vi (rLeast s p))) (K, I, Q, n) := by
  refine tw_intro okR_atLeast (Nat.le_of_ble_eq_true rfl) ?_
  refine ar_iconst (k := 0) rfl ?_
  refine ar_istoren (k := 1) (l2 := [(2, _), (0, _), (1, _)]) rfl (by decide) rfl ?_
  refine ar_sub (l2 := [(2, vi ((0 : Nat) : Int)), (0, vr (some 69)), (1, vi p)]) (tw_s (tw_e 0 rfl (by rfl)) (tw_s (tw_g 1 rfl) (tw_s (tw_g 2 rfl) tw_s0))) ?_
  exact l_R_atLeast hS hs hR p1 _ 0 (by omega)
theorem l_R_atHome {p : Int} (hS : tSt (K, I, Q, n)) (hs : I 70 = s) (hR : RInv s) (p1 : 0 ≤ p ∧ p < 8) : ∀ (k : Nat) (j : Nat), j + k = (s 1).toNat → tw_AW l G mR_atHome 3 0 0 n 0 (tw_fn (some (vi (fstD (rLeast s p) (fun t => decide (rFitP s p t ∧ s (26 + s (84 + s (94 + (t : Int)))) = s (26 + p))) k j))) (K, I, Q, n)) 2 [(2, vi (j : Int)), (0, vr (some 69)), (1, vi p)] [] (K, I, Q, n) := by
  obtain ⟨h0, h1, h2, h3, h4, h5, h6, hp, hrw, ht, hr, hb, htp, hv⟩ := id hR
  intro k
  induction k with
  | zero =>
    intro j hj
    refine ar_iloadn (k := 2) rfl rfl ?_
    refine ar_aloadn (k := 3) rfl rfl ?_
    refine br_getR (k := 4) rfl (hS.k (by decide)) flR_9_12 (by decide) rfl (hS.r rfl) ?_
    refine ar_iconst (k := 5) rfl ?_
    refine br_iads (k := 6) rfl (hS.k (by decide)) (by omega) (by omega) (by decide) hs ?_
    refine ar_icmp_ge (k := 7) rfl (by omega) (by omega) (fun c7 => ?_) (fun c7 => ?_)
    · refine ar_aloadn (k := 40) rfl rfl ?_
      refine ar_iloadn (k := 41) rfl rfl ?_
      refine br_callV (k := 42) (as := [_]) rfl lvR_144 (hS.k (by decide)) rfl (c_R_atLeast hS hs hR p1) rfl (by decide) (by decide) tw_m0 (Nat.le_of_ble_eq_true rfl) ?_
      refine ar_iret (k := 43) rfl rfl rfl (Nat.le_refl _) ?_
      exact ⟨rfl, rfl⟩
    · exfalso; omega
  | succ k ih =>
    intro j hj
    refine ar_iloadn (k := 2) rfl rfl ?_
    refine ar_aloadn (k := 3) rfl rfl ?_
    refine br_getR (k := 4) rfl (hS.k (by decide)) flR_9_12 (by decide) rfl (hS.r rfl) ?_
    refine ar_iconst (k := 5) rfl ?_
    refine br_iads (k := 6) rfl (hS.k (by decide)) (by omega) (by omega) (by decide) hs ?_
    refine ar_icmp_ge (k := 7) rfl (by omega) (by omega) (fun c7 => ?_) (fun c7 => ?_)
    · exfalso; omega
    · refine ar_aloadn (k := 8) rfl rfl ?_
      refine ar_iloadn (k := 9) rfl rfl ?_
      refine ar_iloadn (k := 10) rfl rfl ?_
      refine br_callV (k := 11) (as := [_, _]) rfl lvR_137 (hS.k (by decide)) rfl (c_R_isFit hS hs hR (by omega) (by omega)) rfl (by decide) (by decide) tw_m0 (Nat.le_of_ble_eq_true rfl) ?_
      refine ar_if_eq (k := 12) rfl (by omega) (fun c12 => ?_) (fun c12 => ?_)
      · refine ar_iinc (k := 38) (l2 := [(2, _), (0, _), (1, _)]) rfl (by decide) rfl rfl ?_
        refine ar_goto (k := 39) rfl ?_
        refine ar_sub (l2 := [(2, vi ((j + 1 : Nat) : Int)), (0, vr (some 69)), (1, vi p)]) (tw_s (tw_e 0 rfl (by omega)) (tw_s (tw_g 1 rfl) (tw_s (tw_g 2 rfl) tw_s0))) ?_
        have e : fstD (rLeast s p) (fun t => decide (rFitP s p t ∧ s (26 + s (84 + s (94 + (t : Int)))) = s (26 + p))) (k + 1) j = fstD (rLeast s p) (fun t => decide (rFitP s p t ∧ s (26 + s (84 + s (94 + (t : Int)))) = s (26 + p))) k (j + 1) := by
          rw [fstD, if_neg (by simp only [decide_eq_true_eq]; omega)]
        rw [e]
        exact ih (j + 1) (by omega)
      · have hw := ht j (by omega) (by omega)
        have hw2 := ht (s (94 + (j : Int))) (by omega) (by omega)
        have hw3 := hp (s (84 + s (94 + (j : Int)))) (by omega) (by omega)
        have hw4 := hp p (by omega) (by omega)
        refine ar_aloadn (k := 13) rfl rfl ?_
        refine br_getR (k := 14) rfl (hS.k (by decide)) flR_9_12 (by decide) rfl (hS.r rfl) ?_
        refine ar_bipush (k := 15) rfl (by decide) ?_
        refine ar_aloadn (k := 16) rfl rfl ?_
        refine br_getR (k := 17) rfl (hS.k (by decide)) flR_9_12 (by decide) rfl (hS.r rfl) ?_
        refine ar_bipush (k := 18) rfl (by decide) ?_
        refine ar_aloadn (k := 19) rfl rfl ?_
        refine br_getR (k := 20) rfl (hS.k (by decide)) flR_9_12 (by decide) rfl (hS.r rfl) ?_
        refine ar_bipush (k := 21) rfl (by decide) ?_
        refine ar_iloadn (k := 22) rfl rfl ?_
        refine ar_iadd (k := 23) rfl ?_
        refine br_iads (k := 24) rfl (hS.k (by decide)) (by omega) (by omega) (by decide) hs ?_
        refine ar_iadd (k := 25) rfl ?_
        refine br_iads (k := 26) rfl (hS.k (by decide)) (by omega) (by omega) (by decide) hs ?_
        refine ar_iadd (k := 27) rfl ?_
        refine br_iads (k := 28) rfl (hS.k (by decide)) (by omega) (by omega) (by decide) hs ?_
        refine ar_aloadn (k := 29) rfl rfl ?_
        refine br_getR (k := 30) rfl (hS.k (by decide)) flR_9_12 (by decide) rfl (hS.r rfl) ?_
        refine ar_bipush (k := 31) rfl (by decide) ?_
        refine ar_iloadn (k := 32) rfl rfl ?_
        refine ar_iadd (k := 33) rfl ?_
        refine br_iads (k := 34) rfl (hS.k (by decide)) (by omega) (by omega) (by decide) hs ?_
        refine ar_icmp_ne (k := 35) rfl (by omega) (by omega) (fun c35 => ?_) (fun c35 => ?_)
        · refine ar_iinc (k := 38) (l2 := [(2, _), (0, _), (1, _)]) rfl (by decide) rfl rfl ?_
          refine ar_goto (k := 39) rfl ?_
          refine ar_sub (l2 := [(2, vi ((j + 1 : Nat) : Int)), (0, vr (some 69)), (1, vi p)]) (tw_s (tw_e 0 rfl (by omega)) (tw_s (tw_g 1 rfl) (tw_s (tw_g 2 rfl) tw_s0))) ?_
          have e : fstD (rLeast s p) (fun t => decide (rFitP s p t ∧ s (26 + s (84 + s (94 + (t : Int)))) = s (26 + p))) (k + 1) j = fstD (rLeast s p) (fun t => decide (rFitP s p t ∧ s (26 + s (84 + s (94 + (t : Int)))) = s (26 + p))) k (j + 1) := by
            rw [fstD, if_neg (by simp only [decide_eq_true_eq]; omega)]
          rw [e]
          exact ih (j + 1) (by omega)
        · refine ar_iloadn (k := 36) rfl rfl ?_
          refine ar_iret (k := 37) rfl rfl rfl (Nat.le_refl _) ?_
          refine ⟨congrArg (fun z => some (vi z)) ?_, rfl⟩
          rw [fstD, if_pos (by simp only [decide_eq_true_eq]; omega)]
theorem c_R_atHome {p : Int} (hS : tSt (K, I, Q, n)) (hs : I 70 = s) (hR : RInv s) (p1 : 0 ≤ p ∧ p < 8) : tw_F l G 3 0 0 mR_atHome [vr (some 69), vi p] (K, I, Q, n) (some (vi (rHome s p))) (K, I, Q, n) := by
  refine tw_intro okR_atHome (Nat.le_of_ble_eq_true rfl) ?_
  refine ar_iconst (k := 0) rfl ?_
  refine ar_istoren (k := 1) (l2 := [(2, _), (0, _), (1, _)]) rfl (by decide) rfl ?_
  refine ar_sub (l2 := [(2, vi ((0 : Nat) : Int)), (0, vr (some 69)), (1, vi p)]) (tw_s (tw_e 0 rfl (by rfl)) (tw_s (tw_g 1 rfl) (tw_s (tw_g 2 rfl) tw_s0))) ?_
  exact l_R_atHome hS hs hR p1 _ 0 (by omega)
end RC
