def orV (g : Nat → Int) : Nat → Nat → Int → Int
  | 0, _, a => a
  | k + 1, j, a => orV g k (j + 1) (bOr a (g j))
def smV (g : Nat → Int) : Nat → Nat → Int → Int
  | 0, _, a => a
  | k + 1, j, a => smV g k (j + 1) (a + g j)
/-- which tools are worked at -/
def rWork (s : Int → Int) (u : Int) : Int := orV (fun p => if rAt s p u = -1 then 0 else bShl 1 (rAt s p u)) (s 0).toNat 0 0
abbrev rGoP (s : Int → Int) (t w : Int) : Prop := s (94 + t) ≠ -1 ∧ bAnd (bShr w t) 1 = 1 ∧ bAnd (bShr w (s (94 + t))) 1 = 1 ∧ s (104 + t) = 0 ∧ s (104 + s (94 + t)) = 0
def rGoing (s : Int → Int) (u : Int) : Int := orV (fun t => if rGoP s t (rWork s u) ∧ (t : Int) < s (94 + (t : Int)) then bShl 1 t else 0) (s 1).toNat 0 0
def rWait (s : Int → Int) (u : Int) : Int := orV (fun t => if bAnd (bShr (rWork s u) t) 1 = 1 ∧ ¬ rGoP s t (rWork s u) then bShl 1 t else 0) (s 1).toNat 0 0
def rGone (s : Int → Int) (t : Int) : Int := orV (fun u => if rGoP s t (rWork s u) then bShl 1 u else 0) 24 0 0
section RF
variable {l : Launch} {G : tG} {K : Nat → Nat × Nat} {I : Nat → Int → Int} {Q : Nat → Int → Option Nat} {n : Nat} {s : Int → Int}
theorem l_R_workedAt {u : Int} (hS : tSt (K, I, Q, n)) (hR : RInv s) (hV : RVal s) (u1 : 0 ≤ u ∧ u ≤ 23) : ∀ (k : Nat) (j : Nat) (a : Int) (J : Nat → Int → Int), j + k = (s 0).toNat → J 70 = s → rk I J → tw_AW l G mR_workedAt 5 0 0 n 0 (fun r h' => r = some (vi (orV (fun p => if rAt s p u = -1 then 0 else bShl 1 (rAt s p u)) k j a)) ∧ ∃ L, h' = (K, L, Q, n) ∧ rk I L) 4 [(3, vi (j : Int)), (2, vi a), (0, vr (some 69)), (1, vi u)] [] (K, J, Q, n) := by
  obtain ⟨h0, h1, h2, h3, h4, h5, h6, hp, hrw, ht, hr, hb, htp, hv⟩ := id hR
  intro k
  induction k with
  | zero =>
    intro j a J hj hs hk
    refine ar_iloadn (k := 4) rfl rfl ?_
    refine ar_aloadn (k := 5) rfl rfl ?_
    refine br_getR (k := 6) rfl (hS.k (by decide)) flR_9_12 (by decide) rfl (hS.r rfl) ?_
    refine ar_iconst (k := 7) rfl ?_
    refine br_iads (k := 8) rfl (hS.k (by decide)) (by omega) (by omega) (by decide) hs ?_
    refine ar_icmp_ge (k := 9) rfl (by omega) (by omega) (fun c9 => ?_) (fun c9 => ?_)
    · refine ar_iloadn (k := 28) rfl rfl ?_
      refine ar_iret (k := 29) rfl rfl rfl (Nat.le_refl _) ?_
      exact ⟨rfl, J, rfl, hk⟩
    · exfalso; omega
  | succ k ih =>
    intro j a J hj hs hk
    refine ar_iloadn (k := 4) rfl rfl ?_
    refine ar_aloadn (k := 5) rfl rfl ?_
    refine br_getR (k := 6) rfl (hS.k (by decide)) flR_9_12 (by decide) rfl (hS.r rfl) ?_
    refine ar_iconst (k := 7) rfl ?_
    refine br_iads (k := 8) rfl (hS.k (by decide)) (by omega) (by omega) (by decide) hs ?_
    refine ar_icmp_ge (k := 9) rfl (by omega) (by omega) (fun c9 => ?_) (fun c9 => ?_)
    · exfalso; omega
    · refine ar_aloadn (k := 10) rfl rfl ?_
      refine ar_iloadn (k := 11) rfl rfl ?_
      refine ar_iloadn (k := 12) rfl rfl ?_
      refine br_callVR (k := 13) (as := [_, _]) rfl lvR_157 (hS.k (by decide)) rfl (c_R_atOf hS hs hR hV (by omega) (by omega)) rfl (by decide) (by decide) tw_m0 (Nat.le_of_ble_eq_true rfl) (fun I13 q13 => ?_)
      have hs13 : I13 70 = s := q13.s.trans hs
      have hk13 := rk.trans hk q13
      have hb2 := rAt_bd (p := (j : Int)) (u := u) h1.1
      refine ar_istore (k := 14) (l2 := [(4, _), (3, _), (2, _), (0, _), (1, _)]) rfl (by decide) rfl ?_
      refine ar_iloadn (k := 15) rfl rfl ?_
      refine ar_iload (k := 16) rfl rfl ?_
      refine ar_iconst (k := 17) rfl ?_
      refine ar_icmp_ne (k := 18) rfl (by omega) (by omega) (fun c18 => ?_) (fun c18 => ?_)
      · refine ar_iconst (k := 21) rfl ?_
        refine ar_iload (k := 22) rfl rfl ?_
        refine ar_ishl (k := 23) rfl ?_
        refine tw_top (y := (fun p => if rAt s p u = -1 then 0 else bShl 1 (rAt s p u)) j) (by show _ = (if rAt s (j : Int) u = -1 then 0 else bShl 1 (rAt s (j : Int) u)); (repeat' split) <;> first | rfl | (exfalso; omega)) ?_
        refine ar_ior (k := 24) rfl ?_
        refine ar_istoren (k := 25) (l2 := [(2, _), (4, _), (3, _), (0, _), (1, _)]) rfl (by decide) rfl ?_
        refine ar_iinc (k := 26) (l2 := [(3, _), (2, _), (4, _), (0, _), (1, _)]) rfl (by decide) rfl rfl ?_
        refine ar_goto (k := 27) rfl ?_
        refine ar_sub (l2 := [(3, vi ((j + 1 : Nat) : Int)), (2, vi (bOr a ((fun p => if rAt s p u = -1 then 0 else bShl 1 (rAt s p u)) j))), (0, vr (some 69)), (1, vi u)]) (tw_s (tw_e 0 rfl (by omega)) (tw_s (tw_e 1 rfl (by rfl)) (tw_s (tw_g 3 rfl) (tw_s (tw_g 4 rfl) tw_s0)))) ?_
        exact ih (j + 1) _ I13 (by omega) hs13 hk13
      · refine ar_iconst (k := 19) rfl ?_
        refine ar_goto (k := 20) rfl ?_
        refine tw_top (y := (fun p => if rAt s p u = -1 then 0 else bShl 1 (rAt s p u)) j) (by show _ = (if rAt s (j : Int) u = -1 then 0 else bShl 1 (rAt s (j : Int) u)); (repeat' split) <;> first | rfl | (exfalso; omega)) ?_
        refine ar_ior (k := 24) rfl ?_
        refine ar_istoren (k := 25) (l2 := [(2, _), (4, _), (3, _), (0, _), (1, _)]) rfl (by decide) rfl ?_
        refine ar_iinc (k := 26) (l2 := [(3, _), (2, _), (4, _), (0, _), (1, _)]) rfl (by decide) rfl rfl ?_
        refine ar_goto (k := 27) rfl ?_
        refine ar_sub (l2 := [(3, vi ((j + 1 : Nat) : Int)), (2, vi (bOr a ((fun p => if rAt s p u = -1 then 0 else bShl 1 (rAt s p u)) j))), (0, vr (some 69)), (1, vi u)]) (tw_s (tw_e 0 rfl (by omega)) (tw_s (tw_e 1 rfl (by rfl)) (tw_s (tw_g 3 rfl) (tw_s (tw_g 4 rfl) tw_s0)))) ?_
        exact ih (j + 1) _ I13 (by omega) hs13 hk13
theorem c_R_workedAt {u : Int} (hS : tSt (K, I, Q, n)) (hs : I 70 = s) (hR : RInv s) (hV : RVal s) (u1 : 0 ≤ u ∧ u ≤ 23) : tw_R l G 5 mR_workedAt [vr (some 69), vi u] K I Q n (some (vi (rWork s u))) := by
  obtain ⟨h0, h1, h2, h3, h4, h5, h6, hp, hrw, ht, hr, hb, htp, hv⟩ := id hR
  refine tw_intro okR_workedAt (Nat.le_of_ble_eq_true rfl) ?_
  refine ar_iconst (k := 0) rfl ?_
  refine ar_istoren (k := 1) (l2 := [(2, _), (0, _), (1, _)]) rfl (by decide) rfl ?_
  refine ar_iconst (k := 2) rfl ?_
  refine ar_istoren (k := 3) (l2 := [(3, _), (2, _), (0, _), (1, _)]) rfl (by decide) rfl ?_
  refine ar_sub (l2 := [(3, vi ((0 : Nat) : Int)), (2, vi 0), (0, vr (some 69)), (1, vi u)]) (tw_s (tw_e 0 rfl (by rfl)) (tw_s (tw_g 1 rfl) (tw_s (tw_g 2 rfl) (tw_s (tw_g 3 rfl) tw_s0)))) ?_
  exact l_R_workedAt (I := I) hS hR hV u1 _ 0 0 I (by omega) hs rk.rf
theorem c_R_doesGo {t w : Int} (hS : tSt (K, I, Q, n)) (hs : I 70 = s) (hR : RInv s) (t1 : 0 ≤ t ∧ t < s 1) : tw_F l G 1 0 0 mR_doesGo [vr (some 69), vi t, vi w] (K, I, Q, n) (some (vi (if rGoP s t w then 1 else 0))) (K, I, Q, n) := by
  obtain ⟨h0, h1, h2, h3, h4, h5, h6, hp, hrw, ht, hr, hb, htp, hv⟩ := id hR
  have hw := ht t (by omega) (by omega)
  have b1 := bAnd1 (bShr w t)
  have b2 := bAnd1 (bShr w (s (94 + t)))
  refine tw_intro okR_doesGo (Nat.le_of_ble_eq_true rfl) ?_
  refine ar_aloadn (k := 0) rfl rfl ?_
  refine br_getR (k := 1) rfl (hS.k (by decide)) flR_9_12 (by decide) rfl (hS.r rfl) ?_
  refine ar_bipush (k := 2) rfl (by decide) ?_
  refine ar_iloadn (k := 3) rfl rfl ?_
  refine ar_iadd (k := 4) rfl ?_
  refine br_iads (k := 5) rfl (hS.k (by decide)) (by omega) (by omega) (by decide) hs ?_
  refine ar_istoren (k := 6) (l2 := [(3, _), (0, _), (1, _), (2, _)]) rfl (by decide) rfl ?_
  refine ar_iloadn (k := 7) rfl rfl ?_
  refine ar_iconst (k := 8) rfl ?_
  refine ar_icmp_eq (k := 9) rfl (by omega) (by omega) (fun c9 => ?_) (fun c9 => ?_)
  · refine ar_iconst (k := 40) rfl ?_
    refine ar_zret (k := 41) rfl rfl (by omega) rfl (Nat.le_refl _) ?_
    exact ⟨congrArg (fun z => some (vi z)) (by omega), rfl⟩
  · have w2 := ht (s (94 + t)) (by omega) (by omega)
    refine ar_iloadn (k := 10) rfl rfl ?_
    refine ar_iloadn (k := 11) rfl rfl ?_
    refine ar_ishr (k := 12) rfl ?_
    refine ar_iconst (k := 13) rfl ?_
    refine ar_iand (k := 14) rfl ?_
    refine ar_iconst (k := 15) rfl ?_
    refine ar_icmp_ne (k := 16) rfl (by omega) (by omega) (fun c16 => ?_) (fun c16 => ?_)
    · refine ar_iconst (k := 40) rfl ?_
      refine ar_zret (k := 41) rfl rfl (by omega) rfl (Nat.le_refl _) ?_
      exact ⟨congrArg (fun z => some (vi z)) (by omega), rfl⟩
    · refine ar_iloadn (k := 17) rfl rfl ?_
      refine ar_iloadn (k := 18) rfl rfl ?_
      refine ar_ishr (k := 19) rfl ?_
      refine ar_iconst (k := 20) rfl ?_
      refine ar_iand (k := 21) rfl ?_
      refine ar_iconst (k := 22) rfl ?_
      refine ar_icmp_ne (k := 23) rfl (by omega) (by omega) (fun c23 => ?_) (fun c23 => ?_)
      · refine ar_iconst (k := 40) rfl ?_
        refine ar_zret (k := 41) rfl rfl (by omega) rfl (Nat.le_refl _) ?_
        exact ⟨congrArg (fun z => some (vi z)) (by omega), rfl⟩
      · refine ar_aloadn (k := 24) rfl rfl ?_
        refine br_getR (k := 25) rfl (hS.k (by decide)) flR_9_12 (by decide) rfl (hS.r rfl) ?_
        refine ar_bipush (k := 26) rfl (by decide) ?_
        refine ar_iloadn (k := 27) rfl rfl ?_
        refine ar_iadd (k := 28) rfl ?_
        refine br_iads (k := 29) rfl (hS.k (by decide)) (by omega) (by omega) (by decide) hs ?_
        refine ar_if_ne (k := 30) rfl (by omega) (fun c30 => ?_) (fun c30 => ?_)
        · refine ar_iconst (k := 40) rfl ?_
          refine ar_zret (k := 41) rfl rfl (by omega) rfl (Nat.le_refl _) ?_
          exact ⟨congrArg (fun z => some (vi z)) (by omega), rfl⟩
        · refine ar_aloadn (k := 31) rfl rfl ?_
          refine br_getR (k := 32) rfl (hS.k (by decide)) flR_9_12 (by decide) rfl (hS.r rfl) ?_
          refine ar_bipush (k := 33) rfl (by decide) ?_
          refine ar_iloadn (k := 34) rfl rfl ?_
          refine ar_iadd (k := 35) rfl ?_
          refine br_iads (k := 36) rfl (hS.k (by decide)) (by omega) (by omega) (by decide) hs ?_
          refine ar_if_ne (k := 37) rfl (by omega) (fun c37 => ?_) (fun c37 => ?_)
          · refine ar_iconst (k := 40) rfl ?_
            refine ar_zret (k := 41) rfl rfl (by omega) rfl (Nat.le_refl _) ?_
            exact ⟨congrArg (fun z => some (vi z)) (by omega), rfl⟩
          · refine ar_iconst (k := 38) rfl ?_
            refine ar_goto (k := 39) rfl ?_
            refine ar_zret (k := 41) rfl rfl (by omega) rfl (Nat.le_refl _) ?_
            exact ⟨congrArg (fun z => some (vi z)) (by omega), rfl⟩
theorem l_R_going {u : Int} (hS : tSt (K, I, Q, n)) (hR : RInv s) (hV : RVal s) : ∀ (k : Nat) (j : Nat) (a : Int) (J : Nat → Int → Int), j + k = (s 1).toNat → J 70 = s → rk I J → tw_AW l G mR_going 6 0 0 n 0 (fun r h' => r = some (vi (orV (fun t => if rGoP s t (rWork s u) ∧ (t : Int) < s (94 + (t : Int)) then bShl 1 t else 0) k j a)) ∧ ∃ L, h' = (K, L, Q, n) ∧ rk I L) 11 [(4, vi (j : Int)), (3, vi a), (2, vi (rWork s u)), (0, vr (some 69)), (1, vi u)] [] (K, J, Q, n) := by
  obtain ⟨h0, h1, h2, h3, h4, h5, h6, hp, hrw, ht, hr, hb, htp, hv⟩ := id hR
  intro k
  induction k with
  | zero =>
    intro j a J hj hs hk
    refine ar_iload (k := 8) rfl rfl ?_
    refine ar_aloadn (k := 9) rfl rfl ?_
    refine br_getR (k := 10) rfl (hS.k (by decide)) flR_9_12 (by decide) rfl (hS.r rfl) ?_
    refine ar_iconst (k := 11) rfl ?_
    refine br_iads (k := 12) rfl (hS.k (by decide)) (by omega) (by omega) (by decide) hs ?_
    refine ar_icmp_ge (k := 13) rfl (by omega) (by omega) (fun c13 => ?_) (fun c13 => ?_)
    · refine ar_iloadn (k := 37) rfl rfl ?_
      refine ar_iret (k := 38) rfl rfl rfl (Nat.le_refl _) ?_
      exact ⟨rfl, J, rfl, hk⟩
    · exfalso; omega
  | succ k ih =>
    intro j a J hj hs hk
    refine ar_iload (k := 8) rfl rfl ?_
    refine ar_aloadn (k := 9) rfl rfl ?_
    refine br_getR (k := 10) rfl (hS.k (by decide)) flR_9_12 (by decide) rfl (hS.r rfl) ?_
    refine ar_iconst (k := 11) rfl ?_
    refine br_iads (k := 12) rfl (hS.k (by decide)) (by omega) (by omega) (by decide) hs ?_
    refine ar_icmp_ge (k := 13) rfl (by omega) (by omega) (fun c13 => ?_) (fun c13 => ?_)
    · exfalso; omega
    · have hw := ht j (by omega) (by omega)
      refine ar_iloadn (k := 14) rfl rfl ?_
      refine ar_aloadn (k := 15) rfl rfl ?_
      refine ar_iload (k := 16) rfl rfl ?_
      refine ar_iloadn (k := 17) rfl rfl ?_
      refine br_callV (k := 18) (as := [_, _]) rfl lvR_163 (hS.k (by decide)) rfl (c_R_doesGo hS hs hR (by omega)) rfl (by decide) (by decide) tw_m0 (Nat.le_of_ble_eq_true rfl) ?_
      refine ar_if_eq (k := 19) rfl (by omega) (fun c19 => ?_) (fun c19 => ?_)
      · refine ar_iconst (k := 32) rfl ?_
        refine tw_top (y := (fun t => if rGoP s t (rWork s u) ∧ (t : Int) < s (94 + (t : Int)) then bShl 1 t else 0) j) (by show _ = (if _ then _ else _); (repeat' split) <;> first | rfl | (exfalso; omega)) ?_
        refine ar_ior (k := 33) rfl ?_
        refine ar_istoren (k := 34) (l2 := [(3, _), (4, _), (2, _), (0, _), (1, _)]) rfl (by decide) rfl ?_
        refine ar_iinc (k := 35) (l2 := [(4, _), (3, _), (2, _), (0, _), (1, _)]) rfl (by decide) rfl rfl ?_
        refine ar_goto (k := 36) rfl ?_
        refine ar_sub (l2 := [(4, vi ((j + 1 : Nat) : Int)), (3, vi (bOr a ((fun t => if rGoP s t (rWork s u) ∧ (t : Int) < s (94 + (t : Int)) then bShl 1 t else 0) j))), (2, vi (rWork s u)), (0, vr (some 69)), (1, vi u)]) (tw_s (tw_e 0 rfl (by omega)) (tw_s (tw_e 1 rfl (by rfl)) (tw_s (tw_g 2 rfl) (tw_s (tw_g 3 rfl) (tw_s (tw_g 4 rfl) tw_s0))))) ?_
        exact ih (j + 1) _ J (by omega) hs hk
      · refine ar_aloadn (k := 20) rfl rfl ?_
        refine br_getR (k := 21) rfl (hS.k (by decide)) flR_9_12 (by decide) rfl (hS.r rfl) ?_
        refine ar_bipush (k := 22) rfl (by decide) ?_
        refine ar_iload (k := 23) rfl rfl ?_
        refine ar_iadd (k := 24) rfl ?_
        refine br_iads (k := 25) rfl (hS.k (by decide)) (by omega) (by omega) (by decide) hs ?_
        refine ar_iload (k := 26) rfl rfl ?_
        refine ar_icmp_le (k := 27) rfl (by omega) (by omega) (fun c27 => ?_) (fun c27 => ?_)
        · refine ar_iconst (k := 32) rfl ?_
          refine tw_top (y := (fun t => if rGoP s t (rWork s u) ∧ (t : Int) < s (94 + (t : Int)) then bShl 1 t else 0) j) (by show _ = (if _ then _ else _); (repeat' split) <;> first | rfl | (exfalso; omega)) ?_
          refine ar_ior (k := 33) rfl ?_
          refine ar_istoren (k := 34) (l2 := [(3, _), (4, _), (2, _), (0, _), (1, _)]) rfl (by decide) rfl ?_
          refine ar_iinc (k := 35) (l2 := [(4, _), (3, _), (2, _), (0, _), (1, _)]) rfl (by decide) rfl rfl ?_
          refine ar_goto (k := 36) rfl ?_
          refine ar_sub (l2 := [(4, vi ((j + 1 : Nat) : Int)), (3, vi (bOr a ((fun t => if rGoP s t (rWork s u) ∧ (t : Int) < s (94 + (t : Int)) then bShl 1 t else 0) j))), (2, vi (rWork s u)), (0, vr (some 69)), (1, vi u)]) (tw_s (tw_e 0 rfl (by omega)) (tw_s (tw_e 1 rfl (by rfl)) (tw_s (tw_g 2 rfl) (tw_s (tw_g 3 rfl) (tw_s (tw_g 4 rfl) tw_s0))))) ?_
          exact ih (j + 1) _ J (by omega) hs hk
        · refine ar_iconst (k := 28) rfl ?_
          refine ar_iload (k := 29) rfl rfl ?_
          refine ar_ishl (k := 30) rfl ?_
          refine ar_goto (k := 31) rfl ?_
          refine tw_top (y := (fun t => if rGoP s t (rWork s u) ∧ (t : Int) < s (94 + (t : Int)) then bShl 1 t else 0) j) (by show _ = (if _ then _ else _); (repeat' split) <;> first | rfl | (exfalso; omega)) ?_
          refine ar_ior (k := 33) rfl ?_
          refine ar_istoren (k := 34) (l2 := [(3, _), (4, _), (2, _), (0, _), (1, _)]) rfl (by decide) rfl ?_
          refine ar_iinc (k := 35) (l2 := [(4, _), (3, _), (2, _), (0, _), (1, _)]) rfl (by decide) rfl rfl ?_
          refine ar_goto (k := 36) rfl ?_
          refine ar_sub (l2 := [(4, vi ((j + 1 : Nat) : Int)), (3, vi (bOr a ((fun t => if rGoP s t (rWork s u) ∧ (t : Int) < s (94 + (t : Int)) then bShl 1 t else 0) j))), (2, vi (rWork s u)), (0, vr (some 69)), (1, vi u)]) (tw_s (tw_e 0 rfl (by omega)) (tw_s (tw_e 1 rfl (by rfl)) (tw_s (tw_g 2 rfl) (tw_s (tw_g 3 rfl) (tw_s (tw_g 4 rfl) tw_s0))))) ?_
          exact ih (j + 1) _ J (by omega) hs hk
theorem c_R_going {u : Int} (hS : tSt (K, I, Q, n)) (hs : I 70 = s) (hR : RInv s) (hV : RVal s) (u1 : 0 ≤ u ∧ u ≤ 23) : tw_R l G 6 mR_going [vr (some 69), vi u] K I Q n (some (vi (rGoing s u))) := by
  obtain ⟨h0, h1, h2, h3, h4, h5, h6, hp, hrw, ht, hr, hb, htp, hv⟩ := id hR
  have hk : rk I I := rk.rf
  refine tw_intro okR_going (Nat.le_of_ble_eq_true rfl) ?_
  refine ar_aloadn (k := 0) rfl rfl ?_
  refine ar_iloadn (k := 1) rfl rfl ?_
  refine br_callVR (k := 2) (as := [_]) rfl lvR_160 (hS.k (by decide)) rfl (c_R_workedAt hS hs hR hV (by omega)) rfl (by decide) (by decide) tw_m0 (Nat.le_of_ble_eq_true rfl) (fun I2 q2 => ?_)
  have hs2 : I2 70 = s := q2.s.trans hs
  have hk2 := rk.trans hk q2
  refine ar_istoren (k := 3) (l2 := [(2, _), (0, _), (1, _)]) rfl (by decide) rfl ?_
  refine ar_iconst (k := 4) rfl ?_
  refine ar_istoren (k := 5) (l2 := [(3, _), (2, _), (0, _), (1, _)]) rfl (by decide) rfl ?_
  refine ar_iconst (k := 6) rfl ?_
  refine ar_istore (k := 7) (l2 := [(4, _), (3, _), (2, _), (0, _), (1, _)]) rfl (by decide) rfl ?_
  refine ar_sub (l2 := [(4, vi ((0 : Nat) : Int)), (3, vi 0), (2, vi (rWork s u)), (0, vr (some 69)), (1, vi u)]) (tw_s (tw_e 0 rfl (by rfl)) (tw_s (tw_g 1 rfl) (tw_s (tw_g 2 rfl) (tw_s (tw_g 3 rfl) (tw_s (tw_g 4 rfl) tw_s0))))) ?_
  exact l_R_going (I := I) hS hR hV _ 0 0 I2 (by omega) hs2 hk2
theorem l_R_waiting {u : Int} (hS : tSt (K, I, Q, n)) (hR : RInv s) (hV : RVal s) : ∀ (k : Nat) (j : Nat) (a : Int) (J : Nat → Int → Int), j + k = (s 1).toNat → J 70 = s → rk I J → tw_AW l G mR_waiting 6 0 0 n 0 (fun r h' => r = some (vi (orV (fun t => if bAnd (bShr (rWork s u) t) 1 = 1 ∧ ¬ rGoP s t (rWork s u) then bShl 1 t else 0) k j a)) ∧ ∃ L, h' = (K, L, Q, n) ∧ rk I L) 11 [(4, vi (j : Int)), (3, vi a), (2, vi (rWork s u)), (0, vr (some 69)), (1, vi u)] [] (K, J, Q, n) := by
  obtain ⟨h0, h1, h2, h3, h4, h5, h6, hp, hrw, ht, hr, hb, htp, hv⟩ := id hR
  intro k
  induction k with
  | zero =>
    intro j a J hj hs hk
    refine ar_iload (k := 8) rfl rfl ?_
    refine ar_aloadn (k := 9) rfl rfl ?_
    refine br_getR (k := 10) rfl (hS.k (by decide)) flR_9_12 (by decide) rfl (hS.r rfl) ?_
    refine ar_iconst (k := 11) rfl ?_
    refine br_iads (k := 12) rfl (hS.k (by decide)) (by omega) (by omega) (by decide) hs ?_
    refine ar_icmp_ge (k := 13) rfl (by omega) (by omega) (fun c13 => ?_) (fun c13 => ?_)
    · refine ar_iloadn (k := 36) rfl rfl ?_
      refine ar_iret (k := 37) rfl rfl rfl (Nat.le_refl _) ?_
      exact ⟨rfl, J, rfl, hk⟩
    · exfalso; omega
  | succ k ih =>
    intro j a J hj hs hk
    refine ar_iload (k := 8) rfl rfl ?_
    refine ar_aloadn (k := 9) rfl rfl ?_
    refine br_getR (k := 10) rfl (hS.k (by decide)) flR_9_12 (by decide) rfl (hS.r rfl) ?_
    refine ar_iconst (k := 11) rfl ?_
    refine br_iads (k := 12) rfl (hS.k (by decide)) (by omega) (by omega) (by decide) hs ?_
    refine ar_icmp_ge (k := 13) rfl (by omega) (by omega) (fun c13 => ?_) (fun c13 => ?_)
    · exfalso; omega
    · have hw := ht j (by omega) (by omega)
      have b1 := bAnd1 (bShr (rWork s u) (j : Int))
      refine ar_iloadn (k := 14) rfl rfl ?_
      refine ar_iloadn (k := 15) rfl rfl ?_
      refine ar_iload (k := 16) rfl rfl ?_
      refine ar_ishr (k := 17) rfl ?_
      refine ar_iconst (k := 18) rfl ?_
      refine ar_iand (k := 19) rfl ?_
      refine ar_iconst (k := 20) rfl ?_
      refine ar_icmp_ne (k := 21) rfl (by omega) (by omega) (fun c21 => ?_) (fun c21 => ?_)
      · refine ar_iconst (k := 31) rfl ?_
        refine tw_top (y := (fun t => if bAnd (bShr (rWork s u) t) 1 = 1 ∧ ¬ rGoP s t (rWork s u) then bShl 1 t else 0) j) (by show _ = (if _ then _ else _); (repeat' split) <;> first | rfl | (exfalso; omega)) ?_
        refine ar_ior (k := 32) rfl ?_
        refine ar_istoren (k := 33) (l2 := [(3, _), (4, _), (2, _), (0, _), (1, _)]) rfl (by decide) rfl ?_
        refine ar_iinc (k := 34) (l2 := [(4, _), (3, _), (2, _), (0, _), (1, _)]) rfl (by decide) rfl rfl ?_
        refine ar_goto (k := 35) rfl ?_
        refine ar_sub (l2 := [(4, vi ((j + 1 : Nat) : Int)), (3, vi (bOr a ((fun t => if bAnd (bShr (rWork s u) t) 1 = 1 ∧ ¬ rGoP s t (rWork s u) then bShl 1 t else 0) j))), (2, vi (rWork s u)), (0, vr (some 69)), (1, vi u)]) (tw_s (tw_e 0 rfl (by omega)) (tw_s (tw_e 1 rfl (by rfl)) (tw_s (tw_g 2 rfl) (tw_s (tw_g 3 rfl) (tw_s (tw_g 4 rfl) tw_s0))))) ?_
        exact ih (j + 1) _ J (by omega) hs hk
      · refine ar_aloadn (k := 22) rfl rfl ?_
        refine ar_iload (k := 23) rfl rfl ?_
        refine ar_iloadn (k := 24) rfl rfl ?_
        refine br_callV (k := 25) (as := [_, _]) rfl lvR_163 (hS.k (by decide)) rfl (c_R_doesGo hS hs hR (by omega)) rfl (by decide) (by decide) tw_m0 (Nat.le_of_ble_eq_true rfl) ?_
        refine ar_if_ne (k := 26) rfl (by omega) (fun c26 => ?_) (fun c26 => ?_)
        · refine ar_iconst (k := 31) rfl ?_
          refine tw_top (y := (fun t => if bAnd (bShr (rWork s u) t) 1 = 1 ∧ ¬ rGoP s t (rWork s u) then bShl 1 t else 0) j) (by show _ = (if _ then _ else _); (repeat' split) <;> first | rfl | (exfalso; omega)) ?_
          refine ar_ior (k := 32) rfl ?_
          refine ar_istoren (k := 33) (l2 := [(3, _), (4, _), (2, _), (0, _), (1, _)]) rfl (by decide) rfl ?_
          refine ar_iinc (k := 34) (l2 := [(4, _), (3, _), (2, _), (0, _), (1, _)]) rfl (by decide) rfl rfl ?_
          refine ar_goto (k := 35) rfl ?_
          refine ar_sub (l2 := [(4, vi ((j + 1 : Nat) : Int)), (3, vi (bOr a ((fun t => if bAnd (bShr (rWork s u) t) 1 = 1 ∧ ¬ rGoP s t (rWork s u) then bShl 1 t else 0) j))), (2, vi (rWork s u)), (0, vr (some 69)), (1, vi u)]) (tw_s (tw_e 0 rfl (by omega)) (tw_s (tw_e 1 rfl (by rfl)) (tw_s (tw_g 2 rfl) (tw_s (tw_g 3 rfl) (tw_s (tw_g 4 rfl) tw_s0))))) ?_
          exact ih (j + 1) _ J (by omega) hs hk
        · refine ar_iconst (k := 27) rfl ?_
          refine ar_iload (k := 28) rfl rfl ?_
          refine ar_ishl (k := 29) rfl ?_
          refine ar_goto (k := 30) rfl ?_
          refine tw_top (y := (fun t => if bAnd (bShr (rWork s u) t) 1 = 1 ∧ ¬ rGoP s t (rWork s u) then bShl 1 t else 0) j) (by show _ = (if _ then _ else _); (repeat' split) <;> first | rfl | (exfalso; omega)) ?_
          refine ar_ior (k := 32) rfl ?_
          refine ar_istoren (k := 33) (l2 := [(3, _), (4, _), (2, _), (0, _), (1, _)]) rfl (by decide) rfl ?_
          refine ar_iinc (k := 34) (l2 := [(4, _), (3, _), (2, _), (0, _), (1, _)]) rfl (by decide) rfl rfl ?_
          refine ar_goto (k := 35) rfl ?_
          refine ar_sub (l2 := [(4, vi ((j + 1 : Nat) : Int)), (3, vi (bOr a ((fun t => if bAnd (bShr (rWork s u) t) 1 = 1 ∧ ¬ rGoP s t (rWork s u) then bShl 1 t else 0) j))), (2, vi (rWork s u)), (0, vr (some 69)), (1, vi u)]) (tw_s (tw_e 0 rfl (by omega)) (tw_s (tw_e 1 rfl (by rfl)) (tw_s (tw_g 2 rfl) (tw_s (tw_g 3 rfl) (tw_s (tw_g 4 rfl) tw_s0))))) ?_
          exact ih (j + 1) _ J (by omega) hs hk
theorem c_R_waiting {u : Int} (hS : tSt (K, I, Q, n)) (hs : I 70 = s) (hR : RInv s) (hV : RVal s) (u1 : 0 ≤ u ∧ u ≤ 23) : tw_R l G 6 mR_waiting [vr (some 69), vi u] K I Q n (some (vi (rWait s u))) := by
  obtain ⟨h0, h1, h2, h3, h4, h5, h6, hp, hrw, ht, hr, hb, htp, hv⟩ := id hR
  have hk : rk I I := rk.rf
  refine tw_intro okR_waiting (Nat.le_of_ble_eq_true rfl) ?_
  refine ar_aloadn (k := 0) rfl rfl ?_
  refine ar_iloadn (k := 1) rfl rfl ?_
  refine br_callVR (k := 2) (as := [_]) rfl lvR_160 (hS.k (by decide)) rfl (c_R_workedAt hS hs hR hV (by omega)) rfl (by decide) (by decide) tw_m0 (Nat.le_of_ble_eq_true rfl) (fun I2 q2 => ?_)
  have hs2 : I2 70 = s := q2.s.trans hs
  have hk2 := rk.trans hk q2
  refine ar_istoren (k := 3) (l2 := [(2, _), (0, _), (1, _)]) rfl (by decide) rfl ?_
  refine ar_iconst (k := 4) rfl ?_
  refine ar_istoren (k := 5) (l2 := [(3, _), (2, _), (0, _), (1, _)]) rfl (by decide) rfl ?_
  refine ar_iconst (k := 6) rfl ?_
  refine ar_istore (k := 7) (l2 := [(4, _), (3, _), (2, _), (0, _), (1, _)]) rfl (by decide) rfl ?_
  refine ar_sub (l2 := [(4, vi ((0 : Nat) : Int)), (3, vi 0), (2, vi (rWork s u)), (0, vr (some 69)), (1, vi u)]) (tw_s (tw_e 0 rfl (by rfl)) (tw_s (tw_g 1 rfl) (tw_s (tw_g 2 rfl) (tw_s (tw_g 3 rfl) (tw_s (tw_g 4 rfl) tw_s0))))) ?_
  exact l_R_waiting (I := I) hS hR hV _ 0 0 I2 (by omega) hs2 hk2
theorem l_R_of {t w : Int} (hS : tSt (K, I, Q, n)) (hR : RInv s) (hV : RVal s) (t1 : 0 ≤ t ∧ t < s 1) : ∀ (k : Nat) (j : Nat) (a : Int) (J : Nat → Int → Int), j + k = 24 → J 70 = s → rk I J → tw_AW l G mR_of 6 0 0 n 0 (fun r h' => r = some (vi (orV (fun u => if rGoP s t (rWork s u) then bShl 1 u else 0) k j a)) ∧ ∃ L, h' = (K, L, Q, n) ∧ rk I L) 61 [(4, vi (j : Int)), (3, vi a), (0, vr (some 69)), (1, vi t), (2, vi w)] [] (K, J, Q, n) := by
  obtain ⟨h0, h1, h2, h3, h4, h5, h6, hp, hrw, ht, hr, hb, htp, hv⟩ := id hR
  intro k
  induction k with
  | zero =>
    intro j a J hj hs hk
    refine ar_iload (k := 39) rfl rfl ?_
    refine ar_bipush (k := 40) rfl (by decide) ?_
    refine ar_icmp_ge (k := 41) rfl (by omega) (by omega) (fun c41 => ?_) (fun c41 => ?_)
    · refine ar_iloadn (k := 59) rfl rfl ?_
      refine ar_iret (k := 60) rfl rfl rfl (Nat.le_refl _) ?_
      exact ⟨rfl, J, rfl, hk⟩
    · exfalso; omega
  | succ k ih =>
    intro j a J hj hs hk
    refine ar_iload (k := 39) rfl rfl ?_
    refine ar_bipush (k := 40) rfl (by decide) ?_
    refine ar_icmp_ge (k := 41) rfl (by omega) (by omega) (fun c41 => ?_) (fun c41 => ?_)
    · exfalso; omega
    · refine ar_iloadn (k := 42) rfl rfl ?_
      refine ar_aloadn (k := 43) rfl rfl ?_
      refine ar_iloadn (k := 44) rfl rfl ?_
      refine ar_aloadn (k := 45) rfl rfl ?_
      refine ar_iload (k := 46) rfl rfl ?_
      refine br_callVR (k := 47) (as := [_]) rfl lvR_160 (hS.k (by decide)) rfl (c_R_workedAt hS hs hR hV (by omega)) rfl (by decide) (by decide) tw_m0 (Nat.le_of_ble_eq_true rfl) (fun I47 q47 => ?_)
      have hs47 : I47 70 = s := q47.s.trans hs
      have hk47 := rk.trans hk q47
      refine br_callV (k := 48) (as := [_, _]) rfl lvR_163 (hS.k (by decide)) rfl (c_R_doesGo hS hs47 hR (by omega)) rfl (by decide) (by decide) tw_m0 (Nat.le_of_ble_eq_true rfl) ?_
      refine ar_if_eq (k := 49) rfl (by omega) (fun c49 => ?_) (fun c49 => ?_)
      · refine ar_iconst (k := 54) rfl ?_
        refine tw_top (y := (fun u => if rGoP s t (rWork s u) then bShl 1 u else 0) j) (by show _ = (if _ then _ else _); (repeat' split) <;> first | rfl | (exfalso; omega)) ?_
        refine ar_ior (k := 55) rfl ?_
        refine ar_istoren (k := 56) (l2 := [(3, _), (4, _), (0, _), (1, _), (2, _)]) rfl (by decide) rfl ?_
        refine ar_iinc (k := 57) (l2 := [(4, _), (3, _), (0, _), (1, _), (2, _)]) rfl (by decide) rfl rfl ?_
        refine ar_goto (k := 58) rfl ?_
        refine ar_sub (l2 := [(4, vi ((j + 1 : Nat) : Int)), (3, vi (bOr a ((fun u => if rGoP s t (rWork s u) then bShl 1 u else 0) j))), (0, vr (some 69)), (1, vi t), (2, vi w)]) (tw_s (tw_e 0 rfl (by omega)) (tw_s (tw_e 1 rfl (by rfl)) (tw_s (tw_g 2 rfl) (tw_s (tw_g 3 rfl) (tw_s (tw_g 4 rfl) tw_s0))))) ?_
        exact ih (j + 1) _ I47 (by omega) hs47 hk47
      · refine ar_iconst (k := 50) rfl ?_
        refine ar_iload (k := 51) rfl rfl ?_
        refine ar_ishl (k := 52) rfl ?_
        refine ar_goto (k := 53) rfl ?_
        refine tw_top (y := (fun u => if rGoP s t (rWork s u) then bShl 1 u else 0) j) (by show _ = (if _ then _ else _); (repeat' split) <;> first | rfl | (exfalso; omega)) ?_
        refine ar_ior (k := 55) rfl ?_
        refine ar_istoren (k := 56) (l2 := [(3, _), (4, _), (0, _), (1, _), (2, _)]) rfl (by decide) rfl ?_
        refine ar_iinc (k := 57) (l2 := [(4, _), (3, _), (0, _), (1, _), (2, _)]) rfl (by decide) rfl rfl ?_
        refine ar_goto (k := 58) rfl ?_
        refine ar_sub (l2 := [(4, vi ((j + 1 : Nat) : Int)), (3, vi (bOr a ((fun u => if rGoP s t (rWork s u) then bShl 1 u else 0) j))), (0, vr (some 69)), (1, vi t), (2, vi w)]) (tw_s (tw_e 0 rfl (by omega)) (tw_s (tw_e 1 rfl (by rfl)) (tw_s (tw_g 2 rfl) (tw_s (tw_g 3 rfl) (tw_s (tw_g 4 rfl) tw_s0))))) ?_
        exact ih (j + 1) _ I47 (by omega) hs47 hk47
theorem c_R_of {t w : Int} (hS : tSt (K, I, Q, n)) (hs : I 70 = s) (hR : RInv s) (hV : RVal s) (tt : tr t) (tw : tr w) : tw_R l G 6 mR_of [vr (some 69), vi t, vi w] K I Q n (some (vi (if ¬ ((0 ≤ t ∧ t ≤ s 1 - 1) ∧ (0 ≤ w ∧ w ≤ 4)) then -1 else if w < 4 then (if w = 2 ∧ s (74 + 10 * w + t) = -1 then -5 else s (74 + 10 * w + t)) else rGone s t))) := by
  obtain ⟨h0, h1, h2, h3, h4, h5, h6, hp, hrw, ht, hr, hb, htp, hv⟩ := id hR
  have hk : rk I I := rk.rf
  refine tw_intro okR_of (Nat.le_of_ble_eq_true rfl) ?_
  refine ar_aloadn (k := 0) rfl rfl ?_
  refine ar_iloadn (k := 1) rfl rfl ?_
  refine br_callV (k := 2) (as := [_]) rfl lvR_120 (hS.k (by decide)) rfl (c_S_isTool hS hs (by omega) h1) rfl (by decide) (by decide) tw_m0 (Nat.le_of_ble_eq_true rfl) ?_
  refine ar_if_eq (k := 3) rfl (by omega) (fun c3 => ?_) (fun c3 => ?_)
  · refine ar_iconst (k := 9) rfl ?_
    refine ar_iret (k := 10) rfl rfl rfl (Nat.le_refl _) ?_
    exact ⟨congrArg (fun z => some (vi z)) (by omega), I, rfl, hk⟩
  · refine ar_iloadn (k := 4) rfl rfl ?_
    refine ar_iconst (k := 5) rfl ?_
    refine ar_iconst (k := 6) rfl ?_
    refine br_callS (k := 7) (as := [_, _, _]) rfl lsR_38 (c_R_in (by omega) (by omega) (by omega)) rfl (by decide) (by decide) tw_m0 (Nat.le_of_ble_eq_true rfl) ?_
    refine ar_if_ne (k := 8) rfl (by omega) (fun c8 => ?_) (fun c8 => ?_)
    · refine ar_iloadn (k := 11) rfl rfl ?_
      refine ar_iconst (k := 12) rfl ?_
      refine ar_icmp_ge (k := 13) rfl (by omega) (by omega) (fun c13 => ?_) (fun c13 => ?_)
      · refine ar_iconst (k := 35) rfl ?_
        refine ar_istoren (k := 36) (l2 := [(3, _), (0, _), (1, _), (2, _)]) rfl (by decide) rfl ?_
        refine ar_iconst (k := 37) rfl ?_
        refine ar_istore (k := 38) (l2 := [(4, _), (3, _), (0, _), (1, _), (2, _)]) rfl (by decide) rfl ?_
        refine ar_sub (l2 := [(4, vi ((0 : Nat) : Int)), (3, vi 0), (0, vr (some 69)), (1, vi t), (2, vi w)]) (tw_s (tw_e 0 rfl (by rfl)) (tw_s (tw_g 1 rfl) (tw_s (tw_g 2 rfl) (tw_s (tw_g 3 rfl) (tw_s (tw_g 4 rfl) tw_s0))))) ?_
        rw [show (if ¬ ((0 ≤ t ∧ t ≤ s 1 - 1) ∧ (0 ≤ w ∧ w ≤ 4)) then -1 else if w < 4 then (if w = 2 ∧ s (74 + 10 * w + t) = -1 then -5 else s (74 + 10 * w + t)) else rGone s t) = rGone s t by rw [if_neg (by omega), if_neg (by omega)]]
        exact l_R_of (I := I) hS hR hV (by omega) _ 0 0 I (by omega) hs hk
      · have hw := ht t (by omega) (by omega)
        have hx : -1 ≤ s (74 + 10 * w + t) ∧ s (74 + 10 * w + t) ≤ 10 := by
          rcases (show w = 0 ∨ w = 1 ∨ w = 2 ∨ w = 3 by omega) with rfl | rfl | rfl | rfl
          · rw [show (74 : Int) + 10 * 0 + t = 74 + t by omega]; omega
          · rw [show (74 : Int) + 10 * 1 + t = 84 + t by omega]; omega
          · rw [show (74 : Int) + 10 * 2 + t = 94 + t by omega]; omega
          · rw [show (74 : Int) + 10 * 3 + t = 104 + t by omega]; omega
        refine ar_aloadn (k := 14) rfl rfl ?_
        refine br_getR (k := 15) rfl (hS.k (by decide)) flR_9_12 (by decide) rfl (hS.r rfl) ?_
        refine ar_bipush (k := 16) rfl (by decide) ?_
        refine ar_bipush (k := 17) rfl (by decide) ?_
        refine ar_iloadn (k := 18) rfl rfl ?_
        refine ar_imul (k := 19) rfl ?_
        refine ar_iadd (k := 20) rfl ?_
        refine ar_iloadn (k := 21) rfl rfl ?_
        refine ar_iadd (k := 22) rfl ?_
        refine br_iads (k := 23) rfl (hS.k (by decide)) (by omega) (by omega) (by decide) hs ?_
        refine ar_istoren (k := 24) (l2 := [(3, _), (0, _), (1, _), (2, _)]) rfl (by decide) rfl ?_
        refine ar_iloadn (k := 25) rfl rfl ?_
        refine ar_iconst (k := 26) rfl ?_
        refine ar_icmp_ne (k := 27) rfl (by omega) (by omega) (fun c27 => ?_) (fun c27 => ?_)
        · refine ar_iloadn (k := 33) rfl rfl ?_
          refine ar_iret (k := 34) rfl rfl rfl (Nat.le_refl _) ?_
          exact ⟨congrArg (fun z => some (vi z)) (by omega), I, rfl, hk⟩
        · refine ar_iloadn (k := 28) rfl rfl ?_
          refine ar_iconst (k := 29) rfl ?_
          refine ar_icmp_ne (k := 30) rfl (by omega) (by omega) (fun c30 => ?_) (fun c30 => ?_)
          · refine ar_iloadn (k := 33) rfl rfl ?_
            refine ar_iret (k := 34) rfl rfl rfl (Nat.le_refl _) ?_
            exact ⟨congrArg (fun z => some (vi z)) (by omega), I, rfl, hk⟩
          · refine ar_bipush (k := 31) rfl (by decide) ?_
            refine ar_goto (k := 32) rfl ?_
            refine ar_iret (k := 34) rfl rfl rfl (Nat.le_refl _) ?_
            exact ⟨congrArg (fun z => some (vi z)) (by omega), I, rfl, hk⟩
    · refine ar_iconst (k := 9) rfl ?_
      refine ar_iret (k := 10) rfl rfl rfl (Nat.le_refl _) ?_
      exact ⟨congrArg (fun z => some (vi z)) (by omega), I, rfl, hk⟩
end RF
