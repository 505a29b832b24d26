def rBestDay (s : Int → Int) : Int := smV (fun u => (rMost s u).1) 24 0 0
def rCnt (x : Int) : Int := smV (fun j => bAnd (bShr x j) 1) 10 0 0
/-- what the pairs that go are worth, in an hour -/
def rHourW (s : Int → Int) (u a : Int) : Int := smV (fun t => if bAnd (bShr (rGoing s u) t) 1 = 1 then rWorth s t u else 0) (s 1).toNat 0 a
def rAllW (s : Int → Int) : Nat → Nat → Int → Int
  | 0, _, a => a
  | k + 1, j, a => rAllW s k (j + 1) (rHourW s j a)
def rAllWait (s : Int → Int) : Int := smV (fun u => rCnt (rWait s u)) 24 0 0
theorem smV_bd {g : Nat → Int} {B : Int} (hB : ∀ j, -B ≤ g j ∧ g j ≤ B) : ∀ (k j : Nat) (a : Int), a - B * (k : Int) ≤ smV g k j a ∧ smV g k j a ≤ a + B * (k : Int)
  | 0, j, a => by simp [smV]
  | k + 1, j, a => by
    have h1 := smV_bd hB k (j + 1) (a + g j)
    have h2 := hB j
    rw [smV, show ((k + 1 : Nat) : Int) = (k : Int) + 1 by omega, Int.mul_add, Int.mul_one]
    omega
theorem rMost_bd {s : Int → Int} {u : Int} (hR : RInv s) (hV : RVal s) : rMb (rMost s u) := by
  have h1 := hR.2.1
  exact rSets_bd hR hV _ _ _ _ _ _ _ (by omega) (by decide) (by omega) (by omega) (by decide)
theorem rBestDay_bd {s : Int → Int} (hR : RInv s) (hV : RVal s) : -12000000 ≤ rBestDay s ∧ rBestDay s ≤ 12000000 := by
  have := smV_bd (g := fun u => (rMost s u).1) (B := 500000) (fun j => (rMost_bd (u := (j : Int)) hR hV).1) 24 0 0
  unfold rBestDay
  omega
section RH
variable {l : Launch} {G : tG} {K : Nat → Nat × Nat} {I : Nat → Int → Int} {Q : Nat → Int → Option Nat} {n : Nat} {s : Int → Int}
theorem l_R_count1 {h : tH} {x : Int} : ∀ (k j : Nat) (a : Int), j + k = 10 → tw_AW l G mR_count1 1 0 0 h.2.2.2 0 (tw_fn (some (vi (smV (fun j => bAnd (bShr x j) 1) k j a))) h) 4 [(2, vi (j : Int)), (1, vi a), (0, vi x)] [] h := by
  intro k
  induction k with
  | zero =>
    intro j a hj
    refine ar_iloadn (k := 4) rfl rfl ?_
    refine ar_bipush (k := 5) rfl (by decide) ?_
    refine ar_icmp_ge (k := 6) rfl (by omega) (by omega) (fun c6 => ?_) (fun c6 => ?_)
    · refine ar_iloadn (k := 17) rfl rfl ?_
      refine ar_iret (k := 18) rfl rfl rfl (Nat.le_refl _) ?_
      exact ⟨rfl, rfl⟩
    · exfalso; omega
  | succ k ih =>
    intro j a hj
    refine ar_iloadn (k := 4) rfl rfl ?_
    refine ar_bipush (k := 5) rfl (by decide) ?_
    refine ar_icmp_ge (k := 6) rfl (by omega) (by omega) (fun c6 => ?_) (fun c6 => ?_)
    · exfalso; omega
    · refine ar_iloadn (k := 7) rfl rfl ?_
      refine ar_iloadn (k := 8) rfl rfl ?_
      refine ar_iloadn (k := 9) rfl rfl ?_
      refine ar_ishr (k := 10) rfl ?_
      refine ar_iconst (k := 11) rfl ?_
      refine ar_iand (k := 12) rfl ?_
      refine ar_iadd (k := 13) rfl ?_
      refine ar_istoren (k := 14) (l2 := [(1, _), (2, _), (0, _)]) rfl (by decide) rfl ?_
      refine ar_iinc (k := 15) (l2 := [(2, _), (1, _), (0, _)]) rfl (by decide) rfl rfl ?_
      refine ar_goto (k := 16) rfl ?_
      refine ar_sub (l2 := [(2, vi ((j + 1 : Nat) : Int)), (1, vi (a + bAnd (bShr x (j : Int)) 1)), (0, vi x)]) (tw_s (tw_e 0 rfl (by omega)) (tw_s (tw_e 1 rfl (by rfl)) (tw_s (tw_g 2 rfl) tw_s0))) ?_
      exact ih (j + 1) _ (by omega)
theorem c_R_count1 {h : tH} {x : Int} : tw_F l G 1 0 0 mR_count1 [vi x] h (some (vi (rCnt x))) h := by
  refine tw_intro okR_count1 (Nat.le_of_ble_eq_true rfl) ?_
  refine ar_iconst (k := 0) rfl ?_
  refine ar_istoren (k := 1) (l2 := [(1, _), (0, _)]) rfl (by decide) rfl ?_
  refine ar_iconst (k := 2) rfl ?_
  refine ar_istoren (k := 3) (l2 := [(2, _), (1, _), (0, _)]) rfl (by decide) rfl ?_
  refine ar_sub (l2 := [(2, vi ((0 : Nat) : Int)), (1, vi 0), (0, vi x)]) (tw_s (tw_e 0 rfl (by rfl)) (tw_s (tw_g 1 rfl) (tw_s (tw_g 2 rfl) tw_s0))) ?_
  exact l_R_count1 10 0 0 (by omega)
theorem l_R_bestDay (hS : tSt (K, I, Q, n)) (hR : RInv s) (hV : RVal s) : ∀ (k : Nat) (j : Nat) (a : Int) (J : Nat → Int → Int), j + k = 24 → J 70 = s → rq I J → tw_AW l G mR_bestDay 16 0 0 n 0 (fun r h' => r = some (vi (smV (fun u => (rMost s u).1) k j a)) ∧ ∃ L, h' = (K, L, Q, n) ∧ rq I L) 4 [(2, vi (j : Int)), (1, vi a), (0, vr (some 69))] [] (K, J, Q, n) := by
  obtain ⟨h0, h1, h2, h3, h4, h5, h6, hp, hrw, ht, hr, hb, htp, hv⟩ := id hR
  intro k
  induction k with
  | zero =>
    intro j a J hj hs hk
    refine ar_iloadn (k := 4) rfl rfl ?_
    refine ar_bipush (k := 5) rfl (by decide) ?_
    refine ar_icmp_ge (k := 6) rfl (by omega) (by omega) (fun c6 => ?_) (fun c6 => ?_)
    · refine ar_iloadn (k := 17) rfl rfl ?_
      refine ar_iret (k := 18) rfl rfl rfl (Nat.le_refl _) ?_
      exact ⟨rfl, J, rfl, hk⟩
    · exfalso; omega
  | succ k ih =>
    intro j a J hj hs hk
    refine ar_iloadn (k := 4) rfl rfl ?_
    refine ar_bipush (k := 5) rfl (by decide) ?_
    refine ar_icmp_ge (k := 6) rfl (by omega) (by omega) (fun c6 => ?_) (fun c6 => ?_)
    · exfalso; omega
    · refine ar_aloadn (k := 7) rfl rfl ?_
      refine ar_iloadn (k := 8) rfl rfl ?_
      refine ar_callV (k := 9) (as := [_]) rfl lvR_188 (hS.k (by decide)) rfl (c_R_looksForMost hS hs hR hV (by omega)) rfl (by omega) (by decide) tw_m0 (Nat.le_of_ble_eq_true rfl) (fun r h' hp => ?_)
      obtain ⟨rfl, I9, rfl, q9, hX9⟩ := hp
      have hs9 : I9 70 = s := q9.s.trans hs
      have hk9 := rq.trans hk q9
      refine ar_iloadn (k := 10) rfl rfl ?_
      refine ar_aloadn (k := 11) rfl rfl ?_
      refine br_getI (k := 12) rfl (hS.k (by decide)) flR_166_12 (by decide) rfl ?_
      refine tw_top (y := (rMost s (j : Int)).1) (by exact congrArg (fun q => q.1) hX9) ?_
      refine ar_iadd (k := 13) rfl ?_
      refine ar_istoren (k := 14) (l2 := [(1, _), (2, _), (0, _)]) rfl (by decide) rfl ?_
      refine ar_iinc (k := 15) (l2 := [(2, _), (1, _), (0, _)]) rfl (by decide) rfl rfl ?_
      refine ar_goto (k := 16) rfl ?_
      refine ar_sub (l2 := [(2, vi ((j + 1 : Nat) : Int)), (1, vi (a + (fun u => (rMost s u).1) j)), (0, vr (some 69))]) (tw_s (tw_e 0 rfl (by omega)) (tw_s (tw_e 1 rfl (by rfl)) (tw_s (tw_g 2 rfl) tw_s0))) ?_
      exact ih (j + 1) _ I9 (by omega) hs9 hk9
theorem c_R_bestDay (hS : tSt (K, I, Q, n)) (hs : I 70 = s) (hR : RInv s) (hV : RVal s) : tw_K l G 16 mR_bestDay [vr (some 69)] K I Q n (some (vi (rBestDay s))) := by
  obtain ⟨h0, h1, h2, h3, h4, h5, h6, hp, hrw, ht, hr, hb, htp, hv⟩ := id hR
  refine tw_intro okR_bestDay (Nat.le_of_ble_eq_true rfl) ?_
  refine ar_iconst (k := 0) rfl ?_
  refine ar_istoren (k := 1) (l2 := [(1, _), (0, _)]) rfl (by decide) rfl ?_
  refine ar_iconst (k := 2) rfl ?_
  refine ar_istoren (k := 3) (l2 := [(2, _), (1, _), (0, _)]) rfl (by decide) rfl ?_
  refine ar_sub (l2 := [(2, vi ((0 : Nat) : Int)), (1, vi 0), (0, vr (some 69))]) (tw_s (tw_e 0 rfl (by rfl)) (tw_s (tw_g 1 rfl) (tw_s (tw_g 2 rfl) tw_s0))) ?_
  exact l_R_bestDay (I := I) hS hR hV 24 0 0 I (by omega) hs rq.rf
theorem l_R_allWaiting (hS : tSt (K, I, Q, n)) (hR : RInv s) (hV : RVal s) : ∀ (k : Nat) (j : Nat) (a : Int) (J : Nat → Int → Int), j + k = 24 → J 70 = s → rq I J → tw_AW l G mR_allWaiting 7 0 0 n 0 (fun r h' => r = some (vi (smV (fun u => rCnt (rWait s u)) k j a)) ∧ ∃ L, h' = (K, L, Q, n) ∧ rq I L) 4 [(2, vi (j : Int)), (1, vi a), (0, vr (some 69))] [] (K, J, Q, n) := by
  obtain ⟨h0, h1, h2, h3, h4, h5, h6, hp, hrw, ht, hr, hb, htp, hv⟩ := id hR
  intro k
  induction k with
  | zero =>
    intro j a J hj hs hk
    refine ar_iloadn (k := 4) rfl rfl ?_
    refine ar_bipush (k := 5) rfl (by decide) ?_
    refine ar_icmp_ge (k := 6) rfl (by omega) (by omega) (fun c6 => ?_) (fun c6 => ?_)
    · refine ar_iloadn (k := 16) rfl rfl ?_
      refine ar_iret (k := 17) rfl rfl rfl (Nat.le_refl _) ?_
      exact ⟨rfl, J, rfl, hk⟩
    · exfalso; omega
  | succ k ih =>
    intro j a J hj hs hk
    refine ar_iloadn (k := 4) rfl rfl ?_
    refine ar_bipush (k := 5) rfl (by decide) ?_
    refine ar_icmp_ge (k := 6) rfl (by omega) (by omega) (fun c6 => ?_) (fun c6 => ?_)
    · exfalso; omega
    · refine ar_iloadn (k := 7) rfl rfl ?_
      refine ar_aloadn (k := 8) rfl rfl ?_
      refine ar_iloadn (k := 9) rfl rfl ?_
      refine br_callVR (k := 10) (as := [_]) rfl lvR_185 (hS.k (by decide)) rfl (c_R_waiting hS hs hR hV (by omega)) rfl (by decide) (by decide) tw_m0 (Nat.le_of_ble_eq_true rfl) (fun I10 q10 => ?_)
      have hs10 : I10 70 = s := q10.s.trans hs
      have hk10 := rq.trans hk q10.q
      refine br_callS (k := 11) (as := [_]) rfl lsR_191 c_R_count1 rfl (by decide) (by decide) tw_m0 (Nat.le_of_ble_eq_true rfl) ?_
      refine ar_iadd (k := 12) rfl ?_
      refine ar_istoren (k := 13) (l2 := [(1, _), (2, _), (0, _)]) rfl (by decide) rfl ?_
      refine ar_iinc (k := 14) (l2 := [(2, _), (1, _), (0, _)]) rfl (by decide) rfl rfl ?_
      refine ar_goto (k := 15) rfl ?_
      refine ar_sub (l2 := [(2, vi ((j + 1 : Nat) : Int)), (1, vi (a + (fun u => rCnt (rWait s u)) j)), (0, vr (some 69))]) (tw_s (tw_e 0 rfl (by omega)) (tw_s (tw_e 1 rfl (by rfl)) (tw_s (tw_g 2 rfl) tw_s0))) ?_
      exact ih (j + 1) _ I10 (by omega) hs10 hk10
theorem c_R_allWaiting (hS : tSt (K, I, Q, n)) (hs : I 70 = s) (hR : RInv s) (hV : RVal s) : tw_K l G 7 mR_allWaiting [vr (some 69)] K I Q n (some (vi (rAllWait s))) := by
  obtain ⟨h0, h1, h2, h3, h4, h5, h6, hp, hrw, ht, hr, hb, htp, hv⟩ := id hR
  refine tw_intro okR_allWaiting (Nat.le_of_ble_eq_true rfl) ?_
  refine ar_iconst (k := 0) rfl ?_
  refine ar_istoren (k := 1) (l2 := [(1, _), (0, _)]) rfl (by decide) rfl ?_
  refine ar_iconst (k := 2) rfl ?_
  refine ar_istoren (k := 3) (l2 := [(2, _), (1, _), (0, _)]) rfl (by decide) rfl ?_
  refine ar_sub (l2 := [(2, vi ((0 : Nat) : Int)), (1, vi 0), (0, vr (some 69))]) (tw_s (tw_e 0 rfl (by rfl)) (tw_s (tw_g 1 rfl) (tw_s (tw_g 2 rfl) tw_s0))) ?_
  exact l_R_allWaiting (I := I) hS hR hV 24 0 0 I (by omega) hs rq.rf
theorem c_R_hour {u w : Int} (hS : tSt (K, I, Q, n)) (hs : I 70 = s) (hR : RInv s) (hV : RVal s) (tu : tr u) (tw : tr w) : tw_K l G 16 mR_hour [vr (some 69), vi u, vi w] K I Q n (some (vi (if ¬ (0 ≤ u ∧ u ≤ 23) then -10001 else if w = 0 then rGoing s u else if w = 1 then rWait s u else if w = 2 then (rMost s u).1 else if w = 3 then (rMost s u).2.1 else if w = 4 then (rMost s u).2.2 else -10001))) := by
  obtain ⟨h0, h1, h2, h3, h4, h5, h6, hp, hrw, ht, hr, hb, htp, hv⟩ := id hR
  have hk : rq I I := rq.rf
  refine tw_intro okR_hour (Nat.le_of_ble_eq_true rfl) ?_
  refine ar_iloadn (k := 0) rfl rfl ?_
  refine br_callS (k := 1) (as := [_]) rfl lsR_130 (c_R_isHour (by omega)) rfl (by decide) (by decide) tw_m0 (Nat.le_of_ble_eq_true rfl) ?_
  refine ar_if_ne (k := 2) rfl (by omega) (fun c2 => ?_) (fun c2 => ?_)
  · refine ar_iloadn (k := 5) rfl rfl ?_
    rcases (show w = 0 ∨ w = 1 ∨ w = 2 ∨ w = 3 ∨ w = 4 ∨ (w < 0 ∨ 4 < w) by omega) with q6 | q6 | q6 | q6 | q6 | q6
    · refine ar_tswIn (k := 6) (t := 48) rfl (by omega) (by omega) (by omega) (by rw [q6]; rfl) (by decide) ?_
      refine ar_aloadn (k := 7) rfl rfl ?_
      refine ar_iloadn (k := 8) rfl rfl ?_
      refine br_callVR (k := 9) (as := [_]) rfl lvR_182 (hS.k (by decide)) rfl (c_R_going hS hs hR hV (by omega)) rfl (by decide) (by decide) tw_m0 (Nat.le_of_ble_eq_true rfl) (fun I9 q9 => ?_)
      have hs9 : I9 70 = s := q9.s.trans hs
      have hk9 := rq.trans hk q9.q
      refine ar_iret (k := 10) rfl rfl rfl (Nat.le_refl _) ?_
      first
        | (exfalso; omega)
        | exact ⟨congrArg (fun z => some (vi z)) (by omega), I9, rfl, hk9⟩
    · refine ar_tswIn (k := 6) (t := 54) rfl (by omega) (by omega) (by omega) (by rw [q6]; rfl) (by decide) ?_
      refine ar_aloadn (k := 11) rfl rfl ?_
      refine ar_iloadn (k := 12) rfl rfl ?_
      refine br_callVR (k := 13) (as := [_]) rfl lvR_185 (hS.k (by decide)) rfl (c_R_waiting hS hs hR hV (by omega)) rfl (by decide) (by decide) tw_m0 (Nat.le_of_ble_eq_true rfl) (fun I13 q13 => ?_)
      have hs13 : I13 70 = s := q13.s.trans hs
      have hk13 := rq.trans hk q13.q
      refine ar_iret (k := 14) rfl rfl rfl (Nat.le_refl _) ?_
      first
        | (exfalso; omega)
        | exact ⟨congrArg (fun z => some (vi z)) (by omega), I13, rfl, hk13⟩
    · refine ar_tswIn (k := 6) (t := 60) rfl (by omega) (by omega) (by omega) (by rw [q6]; rfl) (by decide) ?_
      refine ar_aloadn (k := 15) rfl rfl ?_
      refine ar_iloadn (k := 16) rfl rfl ?_
      refine ar_callV (k := 17) (as := [_]) rfl lvR_188 (hS.k (by decide)) rfl (c_R_looksForMost hS hs hR hV (by omega)) rfl (by omega) (by decide) tw_m0 (Nat.le_of_ble_eq_true rfl) (fun r h' hp => ?_)
      obtain ⟨rfl, I17, rfl, q17, hX17⟩ := hp
      have hs17 : I17 70 = s := q17.s.trans hs
      have hk17 := rq.trans hk q17
      refine ar_iloadn (k := 18) rfl rfl ?_
      refine ar_iconst (k := 19) rfl ?_
      refine ar_icmp_ne (k := 20) rfl (by omega) (by omega) (fun c20 => ?_) (fun c20 => ?_)
      · refine ar_iloadn (k := 24) rfl rfl ?_
        refine ar_iconst (k := 25) rfl ?_
        refine ar_icmp_ne (k := 26) rfl (by omega) (by omega) (fun c26 => ?_) (fun c26 => ?_)
        · refine ar_aloadn (k := 30) rfl rfl ?_
          refine br_getI (k := 31) rfl (hS.k (by decide)) flR_172_12 (by decide) rfl ?_
          refine tw_top (y := (rMost s u).2.2) (by exact congrArg (fun q => q.2.2) hX17) ?_
          refine ar_iret (k := 32) rfl rfl rfl (Nat.le_refl _) ?_
          first
            | (exfalso; omega)
            | exact ⟨congrArg (fun z => some (vi z)) (by omega), I17, rfl, hk17⟩
        · refine ar_aloadn (k := 27) rfl rfl ?_
          refine br_getI (k := 28) rfl (hS.k (by decide)) flR_169_12 (by decide) rfl ?_
          refine tw_top (y := (rMost s u).2.1) (by exact congrArg (fun q => q.2.1) hX17) ?_
          refine ar_goto (k := 29) rfl ?_
          refine ar_iret (k := 32) rfl rfl rfl (Nat.le_refl _) ?_
          first
            | (exfalso; omega)
            | exact ⟨congrArg (fun z => some (vi z)) (by omega), I17, rfl, hk17⟩
      · refine ar_aloadn (k := 21) rfl rfl ?_
        refine br_getI (k := 22) rfl (hS.k (by decide)) flR_166_12 (by decide) rfl ?_
        refine tw_top (y := (rMost s u).1) (by exact congrArg (fun q => q.1) hX17) ?_
        refine ar_goto (k := 23) rfl ?_
        refine ar_iret (k := 32) rfl rfl rfl (Nat.le_refl _) ?_
        first
          | (exfalso; omega)
          | exact ⟨congrArg (fun z => some (vi z)) (by omega), I17, rfl, hk17⟩
    · refine ar_tswIn (k := 6) (t := 60) rfl (by omega) (by omega) (by omega) (by rw [q6]; rfl) (by decide) ?_
      refine ar_aloadn (k := 15) rfl rfl ?_
      refine ar_iloadn (k := 16) rfl rfl ?_
      refine ar_callV (k := 17) (as := [_]) rfl lvR_188 (hS.k (by decide)) rfl (c_R_looksForMost hS hs hR hV (by omega)) rfl (by omega) (by decide) tw_m0 (Nat.le_of_ble_eq_true rfl) (fun r h' hp => ?_)
      obtain ⟨rfl, I17, rfl, q17, hX17⟩ := hp
      have hs17 : I17 70 = s := q17.s.trans hs
      have hk17 := rq.trans hk q17
      refine ar_iloadn (k := 18) rfl rfl ?_
      refine ar_iconst (k := 19) rfl ?_
      refine ar_icmp_ne (k := 20) rfl (by omega) (by omega) (fun c20 => ?_) (fun c20 => ?_)
      · refine ar_iloadn (k := 24) rfl rfl ?_
        refine ar_iconst (k := 25) rfl ?_
        refine ar_icmp_ne (k := 26) rfl (by omega) (by omega) (fun c26 => ?_) (fun c26 => ?_)
        · refine ar_aloadn (k := 30) rfl rfl ?_
          refine br_getI (k := 31) rfl (hS.k (by decide)) flR_172_12 (by decide) rfl ?_
          refine tw_top (y := (rMost s u).2.2) (by exact congrArg (fun q => q.2.2) hX17) ?_
          refine ar_iret (k := 32) rfl rfl rfl (Nat.le_refl _) ?_
          first
            | (exfalso; omega)
            | exact ⟨congrArg (fun z => some (vi z)) (by omega), I17, rfl, hk17⟩
        · refine ar_aloadn (k := 27) rfl rfl ?_
          refine br_getI (k := 28) rfl (hS.k (by decide)) flR_169_12 (by decide) rfl ?_
          refine tw_top (y := (rMost s u).2.1) (by exact congrArg (fun q => q.2.1) hX17) ?_
          refine ar_goto (k := 29) rfl ?_
          refine ar_iret (k := 32) rfl rfl rfl (Nat.le_refl _) ?_
          first
            | (exfalso; omega)
            | exact ⟨congrArg (fun z => some (vi z)) (by omega), I17, rfl, hk17⟩
      · refine ar_aloadn (k := 21) rfl rfl ?_
        refine br_getI (k := 22) rfl (hS.k (by decide)) flR_166_12 (by decide) rfl ?_
        refine tw_top (y := (rMost s u).1) (by exact congrArg (fun q => q.1) hX17) ?_
        refine ar_goto (k := 23) rfl ?_
        refine ar_iret (k := 32) rfl rfl rfl (Nat.le_refl _) ?_
        first
          | (exfalso; omega)
          | exact ⟨congrArg (fun z => some (vi z)) (by omega), I17, rfl, hk17⟩
    · refine ar_tswIn (k := 6) (t := 60) rfl (by omega) (by omega) (by omega) (by rw [q6]; rfl) (by decide) ?_
      refine ar_aloadn (k := 15) rfl rfl ?_
      refine ar_iloadn (k := 16) rfl rfl ?_
      refine ar_callV (k := 17) (as := [_]) rfl lvR_188 (hS.k (by decide)) rfl (c_R_looksForMost hS hs hR hV (by omega)) rfl (by omega) (by decide) tw_m0 (Nat.le_of_ble_eq_true rfl) (fun r h' hp => ?_)
      obtain ⟨rfl, I17, rfl, q17, hX17⟩ := hp
      have hs17 : I17 70 = s := q17.s.trans hs
      have hk17 := rq.trans hk q17
      refine ar_iloadn (k := 18) rfl rfl ?_
      refine ar_iconst (k := 19) rfl ?_
      refine ar_icmp_ne (k := 20) rfl (by omega) (by omega) (fun c20 => ?_) (fun c20 => ?_)
      · refine ar_iloadn (k := 24) rfl rfl ?_
        refine ar_iconst (k := 25) rfl ?_
        refine ar_icmp_ne (k := 26) rfl (by omega) (by omega) (fun c26 => ?_) (fun c26 => ?_)
        · refine ar_aloadn (k := 30) rfl rfl ?_
          refine br_getI (k := 31) rfl (hS.k (by decide)) flR_172_12 (by decide) rfl ?_
          refine tw_top (y := (rMost s u).2.2) (by exact congrArg (fun q => q.2.2) hX17) ?_
          refine ar_iret (k := 32) rfl rfl rfl (Nat.le_refl _) ?_
          first
            | (exfalso; omega)
            | exact ⟨congrArg (fun z => some (vi z)) (by omega), I17, rfl, hk17⟩
        · refine ar_aloadn (k := 27) rfl rfl ?_
          refine br_getI (k := 28) rfl (hS.k (by decide)) flR_169_12 (by decide) rfl ?_
          refine tw_top (y := (rMost s u).2.1) (by exact congrArg (fun q => q.2.1) hX17) ?_
          refine ar_goto (k := 29) rfl ?_
          refine ar_iret (k := 32) rfl rfl rfl (Nat.le_refl _) ?_
          first
            | (exfalso; omega)
            | exact ⟨congrArg (fun z => some (vi z)) (by omega), I17, rfl, hk17⟩
      · refine ar_aloadn (k := 21) rfl rfl ?_
        refine br_getI (k := 22) rfl (hS.k (by decide)) flR_166_12 (by decide) rfl ?_
        refine tw_top (y := (rMost s u).1) (by exact congrArg (fun q => q.1) hX17) ?_
        refine ar_goto (k := 23) rfl ?_
        refine ar_iret (k := 32) rfl rfl rfl (Nat.le_refl _) ?_
        first
          | (exfalso; omega)
          | exact ⟨congrArg (fun z => some (vi z)) (by omega), I17, rfl, hk17⟩
    · refine ar_tswOut (k := 6) (t := 94) rfl (by omega) (by omega) (by decide) ?_
      refine ar_sipush (k := 33) rfl (by decide) ?_
      refine ar_iret (k := 34) rfl rfl rfl (Nat.le_refl _) ?_
      first
        | (exfalso; omega)
        | exact ⟨congrArg (fun z => some (vi z)) (by omega), I, rfl, hk⟩
  · refine ar_sipush (k := 3) rfl (by decide) ?_
    refine ar_iret (k := 4) rfl rfl rfl (Nat.le_refl _) ?_
    first
      | (exfalso; omega)
      | exact ⟨congrArg (fun z => some (vi z)) (by omega), I, rfl, hk⟩
end RH
