abbrev rTrP (s : Int → Int) (t : Int) (r : Nat) : Prop := (s (94 + s (114 + (r : Int))) = s (126 + (r : Int)) ∧ s (114 + (r : Int)) ≠ t ∧ s (126 + (r : Int)) ≠ t) ↔ s (138 + (r : Int)) = 1
def rMayN (s : Int → Int) (t : Int) : Nat → Nat → Int → Int
  | 0, _, m => m
  | k + 1, r, m => rMayN s t k (r + 1) (if m = 1 ∧ rTrP s t r then 1 else 0)
def rBrk (s : Int → Int) : Int := orV (fun t => if rMayN s (t : Int) (s 3).toNat 0 1 = 1 then bShl 1 t else 0) (s 1).toNat 0 0
def rTryN (s : Int → Int) (e : Int) : Nat → Nat → Int → Int → Int
  | 0, _, b, _ => b
  | k + 1, t, b, m => if (t : Int) < s (94 + (t : Int)) ∧ (b = -5 ∨ max (bAnd (bShr e t) 1 + bAnd (bShr e (s (94 + (t : Int)))) 1) (rCnt e - (bAnd (bShr e t) 1 + bAnd (bShr e (s (94 + (t : Int)))) 1)) < m) then rTryN s e k (t + 1) t (max (bAnd (bShr e t) 1 + bAnd (bShr e (s (94 + (t : Int)))) 1) (rCnt e - (bAnd (bShr e t) 1 + bAnd (bShr e (s (94 + (t : Int)))) 1))) else rTryN s e k (t + 1) b m
def rTry (s : Int → Int) : Int := rTryN s (rBrk s) (s 1).toNat 0 (-5) 0
def rOth (s : Int → Int) (a : Int) (r : Nat) : Int := if s (114 + (r : Int)) = a then s (126 + (r : Int)) else if s (126 + (r : Int)) = a then s (114 + (r : Int)) else -1
def rFitN (s : Int → Int) (a t : Int) : Nat → Nat → Int → Int
  | 0, _, m => m
  | k + 1, r, m => rFitN s a t k (r + 1) (if m = 1 ∧ (rOth s a r = -1 ∨ (rOth s a r = t ↔ s (138 + (r : Int)) = 1)) then 1 else 0)
def rFits (s : Int → Int) (a : Int) : Int := orV (fun t => if rFitN s a (t : Int) (s 3).toNat 0 (if (t : Int) ≠ a then 1 else 0) = 1 then bShl 1 t else 0) (s 1).toNat 0 0
def rLook (s : Int → Int) : Int := fstD (-5) (fun r => decide (¬ rGoP s (s (162 + (r : Int))) (rWork s (s (150 + (r : Int)))))) (s 4).toNat 0
theorem rMayN_01 {s : Int → Int} {t : Int} : ∀ (k r : Nat) (m : Int), (m = 0 ∨ m = 1) → (rMayN s t k r m = 0 ∨ rMayN s t k r m = 1)
  | 0, _, _, h => h
  | k + 1, r, m, h => by
    rw [rMayN]
    exact rMayN_01 k (r + 1) _ (by split <;> omega)
theorem rFitN_01 {s : Int → Int} {a t : Int} : ∀ (k r : Nat) (m : Int), (m = 0 ∨ m = 1) → (rFitN s a t k r m = 0 ∨ rFitN s a t k r m = 1)
  | 0, _, _, h => h
  | k + 1, r, m, h => by
    rw [rFitN]
    exact rFitN_01 k (r + 1) _ (by split <;> omega)
theorem rCnt_bd (x : Int) : -10 ≤ rCnt x ∧ rCnt x ≤ 10 := by
  have := smV_bd (g := fun j => bAnd (bShr x (j : Int)) 1) (B := 1) (fun j => by have := bAnd1 (bShr x (j : Int)); omega) 10 0 0
  unfold rCnt
  omega
section RK
variable {l : Launch} {G : tG} {K : Nat → Nat × Nat} {I : Nat → Int → Int} {Q : Nat → Int → Option Nat} {n : Nat} {s : Int → Int}
theorem li_R_brokenOnes {t : Nat} {a : Int} (hS : tSt (K, I, Q, n)) (hs : I 70 = s) (hR : RInv s) {P : Option tV → tH → Prop} {F : Int} (t1 : t < 10) (cont : ∀ (r : Int), tw_AW l G mR_brokenOnes 2 0 0 n 0 P 137 [(4, vi r), (3, vi F), (2, vi (t : Int)), (1, vi a), (0, vr (some 69))] [] (K, I, Q, n)) : ∀ (k r : Nat) (m : Int), r + k = (s 3).toNat → (m = 0 ∨ m = 1) → rMayN s t k r m = F → tw_AW l G mR_brokenOnes 2 0 0 n 0 P 19 [(4, vi (r : Int)), (3, vi m), (2, vi (t : Int)), (1, vi a), (0, vr (some 69))] [] (K, I, Q, n) := by
  obtain ⟨h0, h1, h2, h3, h4, h5, h6, hp, hrw, ht, hr, hb, htp, hv⟩ := id hR
  intro k
  induction k with
  | zero =>
    intro r m hj hm hF
    refine ar_iload (k := 14) rfl rfl ?_
    refine ar_aloadn (k := 15) rfl rfl ?_
    refine br_getR (k := 16) rfl (hS.k (by decide)) flR_9_12 (by decide) rfl (hS.r rfl) ?_
    refine ar_iconst (k := 17) rfl ?_
    refine br_iads (k := 18) rfl (hS.k (by decide)) (by omega) (by omega) (by decide) hs ?_
    refine ar_icmp_ge (k := 19) rfl (by omega) (by omega) (fun c19 => ?_) (fun c19 => ?_)
    · rw [rMayN] at hF
      subst hF
      exact cont _
    · exfalso; omega
  | succ k ih =>
    intro r m hj hm hF
    have hw := hr r (by omega) (by omega)
    have hw2 := ht (s (114 + (r : Int))) (by omega) (by omega)
    refine ar_iload (k := 14) rfl rfl ?_
    refine ar_aloadn (k := 15) rfl rfl ?_
    refine br_getR (k := 16) rfl (hS.k (by decide)) flR_9_12 (by decide) rfl (hS.r rfl) ?_
    refine ar_iconst (k := 17) rfl ?_
    refine br_iads (k := 18) rfl (hS.k (by decide)) (by omega) (by omega) (by decide) hs ?_
    refine ar_icmp_ge (k := 19) rfl (by omega) (by omega) (fun c19 => ?_) (fun c19 => ?_)
    · exfalso; omega
    · refine ar_aloadn (k := 20) rfl rfl ?_
      refine br_getR (k := 21) rfl (hS.k (by decide)) flR_9_12 (by decide) rfl (hS.r rfl) ?_
      refine ar_bipush (k := 22) rfl (by decide) ?_
      refine ar_aloadn (k := 23) rfl rfl ?_
      refine br_getR (k := 24) rfl (hS.k (by decide)) flR_9_12 (by decide) rfl (hS.r rfl) ?_
      refine ar_bipush (k := 25) rfl (by decide) ?_
      refine ar_iload (k := 26) rfl rfl ?_
      refine ar_iadd (k := 27) rfl ?_
      refine br_iads (k := 28) rfl (hS.k (by decide)) (by omega) (by omega) (by decide) hs ?_
      refine ar_iadd (k := 29) rfl ?_
      refine br_iads (k := 30) rfl (hS.k (by decide)) (by omega) (by omega) (by decide) hs ?_
      refine ar_aloadn (k := 31) rfl rfl ?_
      refine br_getR (k := 32) rfl (hS.k (by decide)) flR_9_12 (by decide) rfl (hS.r rfl) ?_
      refine ar_bipush (k := 33) rfl (by decide) ?_
      refine ar_iload (k := 34) rfl rfl ?_
      refine ar_iadd (k := 35) rfl ?_
      refine br_iads (k := 36) rfl (hS.k (by decide)) (by omega) (by omega) (by decide) hs ?_
      refine ar_icmp_ne (k := 37) rfl (by omega) (by omega) (fun c37 => ?_) (fun c37 => ?_)
      · refine ar_iconst (k := 56) rfl ?_
        refine ar_istore (k := 57) (l2 := [(5, _), (4, _), (3, _), (2, _), (1, _), (0, _)]) rfl (by decide) rfl ?_
        refine ar_iloadn (k := 58) rfl rfl ?_
        refine ar_if_eq (k := 59) rfl (by omega) (fun c59 => ?_) (fun c59 => ?_)
        · refine ar_iconst (k := 75) rfl ?_
          refine tw_top (y := if m = 1 ∧ rTrP s t r then 1 else 0) (by omega) ?_
          refine ar_istoren (k := 76) (l2 := [(3, _), (5, _), (4, _), (2, _), (1, _), (0, _)]) rfl (by decide) rfl ?_
          refine ar_iinc (k := 77) (l2 := [(4, _), (3, _), (5, _), (2, _), (1, _), (0, _)]) rfl (by decide) rfl rfl ?_
          refine ar_goto (k := 78) rfl ?_
          refine ar_sub (l2 := [(4, vi ((r + 1 : Nat) : Int)), (3, vi (if m = 1 ∧ rTrP s t r then 1 else 0)), (2, vi (t : Int)), (1, vi a), (0, vr (some 69))]) (tw_s (tw_e 0 rfl (by omega)) (tw_s (tw_g 1 rfl) (tw_s (tw_g 3 rfl) (tw_s (tw_g 4 rfl) (tw_s (tw_g 5 rfl) tw_s0))))) ?_
          exact ih (r + 1) _ (by omega) (by split <;> omega) hF
        · refine ar_iload (k := 60) rfl rfl ?_
          refine ar_aloadn (k := 61) rfl rfl ?_
          refine br_getR (k := 62) rfl (hS.k (by decide)) flR_9_12 (by decide) rfl (hS.r rfl) ?_
          refine ar_sipush (k := 63) rfl (by decide) ?_
          refine ar_iload (k := 64) rfl rfl ?_
          refine ar_iadd (k := 65) rfl ?_
          refine br_iads (k := 66) rfl (hS.k (by decide)) (by omega) (by omega) (by decide) hs ?_
          refine ar_iconst (k := 67) rfl ?_
          refine ar_icmp_ne (k := 68) rfl (by omega) (by omega) (fun c68 => ?_) (fun c68 => ?_)
          · refine ar_iconst (k := 71) rfl ?_
            refine ar_icmp_ne (k := 72) rfl (by omega) (by omega) (fun c72 => ?_) (fun c72 => ?_)
            · refine ar_iconst (k := 75) rfl ?_
              refine tw_top (y := if m = 1 ∧ rTrP s t r then 1 else 0) (by omega) ?_
              refine ar_istoren (k := 76) (l2 := [(3, _), (5, _), (4, _), (2, _), (1, _), (0, _)]) rfl (by decide) rfl ?_
              refine ar_iinc (k := 77) (l2 := [(4, _), (3, _), (5, _), (2, _), (1, _), (0, _)]) rfl (by decide) rfl rfl ?_
              refine ar_goto (k := 78) rfl ?_
              refine ar_sub (l2 := [(4, vi ((r + 1 : Nat) : Int)), (3, vi (if m = 1 ∧ rTrP s t r then 1 else 0)), (2, vi (t : Int)), (1, vi a), (0, vr (some 69))]) (tw_s (tw_e 0 rfl (by omega)) (tw_s (tw_g 1 rfl) (tw_s (tw_g 3 rfl) (tw_s (tw_g 4 rfl) (tw_s (tw_g 5 rfl) tw_s0))))) ?_
              exact ih (r + 1) _ (by omega) (by split <;> omega) hF
            · refine ar_iconst (k := 73) rfl ?_
              refine ar_goto (k := 74) rfl ?_
              refine tw_top (y := if m = 1 ∧ rTrP s t r then 1 else 0) (by omega) ?_
              refine ar_istoren (k := 76) (l2 := [(3, _), (5, _), (4, _), (2, _), (1, _), (0, _)]) rfl (by decide) rfl ?_
              refine ar_iinc (k := 77) (l2 := [(4, _), (3, _), (5, _), (2, _), (1, _), (0, _)]) rfl (by decide) rfl rfl ?_
              refine ar_goto (k := 78) rfl ?_
              refine ar_sub (l2 := [(4, vi ((r + 1 : Nat) : Int)), (3, vi (if m = 1 ∧ rTrP s t r then 1 else 0)), (2, vi (t : Int)), (1, vi a), (0, vr (some 69))]) (tw_s (tw_e 0 rfl (by omega)) (tw_s (tw_g 1 rfl) (tw_s (tw_g 3 rfl) (tw_s (tw_g 4 rfl) (tw_s (tw_g 5 rfl) tw_s0))))) ?_
              exact ih (r + 1) _ (by omega) (by split <;> omega) hF
          · refine ar_iconst (k := 69) rfl ?_
            refine ar_goto (k := 70) rfl ?_
            refine ar_icmp_ne (k := 72) rfl (by omega) (by omega) (fun c72 => ?_) (fun c72 => ?_)
            · refine ar_iconst (k := 75) rfl ?_
              refine tw_top (y := if m = 1 ∧ rTrP s t r then 1 else 0) (by omega) ?_
              refine ar_istoren (k := 76) (l2 := [(3, _), (5, _), (4, _), (2, _), (1, _), (0, _)]) rfl (by decide) rfl ?_
              refine ar_iinc (k := 77) (l2 := [(4, _), (3, _), (5, _), (2, _), (1, _), (0, _)]) rfl (by decide) rfl rfl ?_
              refine ar_goto (k := 78) rfl ?_
              refine ar_sub (l2 := [(4, vi ((r + 1 : Nat) : Int)), (3, vi (if m = 1 ∧ rTrP s t r then 1 else 0)), (2, vi (t : Int)), (1, vi a), (0, vr (some 69))]) (tw_s (tw_e 0 rfl (by omega)) (tw_s (tw_g 1 rfl) (tw_s (tw_g 3 rfl) (tw_s (tw_g 4 rfl) (tw_s (tw_g 5 rfl) tw_s0))))) ?_
              exact ih (r + 1) _ (by omega) (by split <;> omega) hF
            · refine ar_iconst (k := 73) rfl ?_
              refine ar_goto (k := 74) rfl ?_
              refine tw_top (y := if m = 1 ∧ rTrP s t r then 1 else 0) (by omega) ?_
              refine ar_istoren (k := 76) (l2 := [(3, _), (5, _), (4, _), (2, _), (1, _), (0, _)]) rfl (by decide) rfl ?_
              refine ar_iinc (k := 77) (l2 := [(4, _), (3, _), (5, _), (2, _), (1, _), (0, _)]) rfl (by decide) rfl rfl ?_
              refine ar_goto (k := 78) rfl ?_
              refine ar_sub (l2 := [(4, vi ((r + 1 : Nat) : Int)), (3, vi (if m = 1 ∧ rTrP s t r then 1 else 0)), (2, vi (t : Int)), (1, vi a), (0, vr (some 69))]) (tw_s (tw_e 0 rfl (by omega)) (tw_s (tw_g 1 rfl) (tw_s (tw_g 3 rfl) (tw_s (tw_g 4 rfl) (tw_s (tw_g 5 rfl) tw_s0))))) ?_
              exact ih (r + 1) _ (by omega) (by split <;> omega) hF
      · refine ar_aloadn (k := 38) rfl rfl ?_
        refine br_getR (k := 39) rfl (hS.k (by decide)) flR_9_12 (by decide) rfl (hS.r rfl) ?_
        refine ar_bipush (k := 40) rfl (by decide) ?_
        refine ar_iload (k := 41) rfl rfl ?_
        refine ar_iadd (k := 42) rfl ?_
        refine br_iads (k := 43) rfl (hS.k (by decide)) (by omega) (by omega) (by decide) hs ?_
        refine ar_iloadn (k := 44) rfl rfl ?_
        refine ar_icmp_eq (k := 45) rfl (by omega) (by omega) (fun c45 => ?_) (fun c45 => ?_)
        · refine ar_iconst (k := 56) rfl ?_
          refine ar_istore (k := 57) (l2 := [(5, _), (4, _), (3, _), (2, _), (1, _), (0, _)]) rfl (by decide) rfl ?_
          refine ar_iloadn (k := 58) rfl rfl ?_
          refine ar_if_eq (k := 59) rfl (by omega) (fun c59 => ?_) (fun c59 => ?_)
          · refine ar_iconst (k := 75) rfl ?_
            refine tw_top (y := if m = 1 ∧ rTrP s t r then 1 else 0) (by omega) ?_
            refine ar_istoren (k := 76) (l2 := [(3, _), (5, _), (4, _), (2, _), (1, _), (0, _)]) rfl (by decide) rfl ?_
            refine ar_iinc (k := 77) (l2 := [(4, _), (3, _), (5, _), (2, _), (1, _), (0, _)]) rfl (by decide) rfl rfl ?_
            refine ar_goto (k := 78) rfl ?_
            refine ar_sub (l2 := [(4, vi ((r + 1 : Nat) : Int)), (3, vi (if m = 1 ∧ rTrP s t r then 1 else 0)), (2, vi (t : Int)), (1, vi a), (0, vr (some 69))]) (tw_s (tw_e 0 rfl (by omega)) (tw_s (tw_g 1 rfl) (tw_s (tw_g 3 rfl) (tw_s (tw_g 4 rfl) (tw_s (tw_g 5 rfl) tw_s0))))) ?_
            exact ih (r + 1) _ (by omega) (by split <;> omega) hF
          · refine ar_iload (k := 60) rfl rfl ?_
            refine ar_aloadn (k := 61) rfl rfl ?_
            refine br_getR (k := 62) rfl (hS.k (by decide)) flR_9_12 (by decide) rfl (hS.r rfl) ?_
            refine ar_sipush (k := 63) rfl (by decide) ?_
            refine ar_iload (k := 64) rfl rfl ?_
            refine ar_iadd (k := 65) rfl ?_
            refine br_iads (k := 66) rfl (hS.k (by decide)) (by omega) (by omega) (by decide) hs ?_
            refine ar_iconst (k := 67) rfl ?_
            refine ar_icmp_ne (k := 68) rfl (by omega) (by omega) (fun c68 => ?_) (fun c68 => ?_)
            · refine ar_iconst (k := 71) rfl ?_
              refine ar_icmp_ne (k := 72) rfl (by omega) (by omega) (fun c72 => ?_) (fun c72 => ?_)
              · refine ar_iconst (k := 75) rfl ?_
                refine tw_top (y := if m = 1 ∧ rTrP s t r then 1 else 0) (by omega) ?_
                refine ar_istoren (k := 76) (l2 := [(3, _), (5, _), (4, _), (2, _), (1, _), (0, _)]) rfl (by decide) rfl ?_
                refine ar_iinc (k := 77) (l2 := [(4, _), (3, _), (5, _), (2, _), (1, _), (0, _)]) rfl (by decide) rfl rfl ?_
                refine ar_goto (k := 78) rfl ?_
                refine ar_sub (l2 := [(4, vi ((r + 1 : Nat) : Int)), (3, vi (if m = 1 ∧ rTrP s t r then 1 else 0)), (2, vi (t : Int)), (1, vi a), (0, vr (some 69))]) (tw_s (tw_e 0 rfl (by omega)) (tw_s (tw_g 1 rfl) (tw_s (tw_g 3 rfl) (tw_s (tw_g 4 rfl) (tw_s (tw_g 5 rfl) tw_s0))))) ?_
                exact ih (r + 1) _ (by omega) (by split <;> omega) hF
              · refine ar_iconst (k := 73) rfl ?_
                refine ar_goto (k := 74) rfl ?_
                refine tw_top (y := if m = 1 ∧ rTrP s t r then 1 else 0) (by omega) ?_
                refine ar_istoren (k := 76) (l2 := [(3, _), (5, _), (4, _), (2, _), (1, _), (0, _)]) rfl (by decide) rfl ?_
                refine ar_iinc (k := 77) (l2 := [(4, _), (3, _), (5, _), (2, _), (1, _), (0, _)]) rfl (by decide) rfl rfl ?_
                refine ar_goto (k := 78) rfl ?_
                refine ar_sub (l2 := [(4, vi ((r + 1 : Nat) : Int)), (3, vi (if m = 1 ∧ rTrP s t r then 1 else 0)), (2, vi (t : Int)), (1, vi a), (0, vr (some 69))]) (tw_s (tw_e 0 rfl (by omega)) (tw_s (tw_g 1 rfl) (tw_s (tw_g 3 rfl) (tw_s (tw_g 4 rfl) (tw_s (tw_g 5 rfl) tw_s0))))) ?_
                exact ih (r + 1) _ (by omega) (by split <;> omega) hF
            · refine ar_iconst (k := 69) rfl ?_
              refine ar_goto (k := 70) rfl ?_
              refine ar_icmp_ne (k := 72) rfl (by omega) (by omega) (fun c72 => ?_) (fun c72 => ?_)
              · refine ar_iconst (k := 75) rfl ?_
                refine tw_top (y := if m = 1 ∧ rTrP s t r then 1 else 0) (by omega) ?_
                refine ar_istoren (k := 76) (l2 := [(3, _), (5, _), (4, _), (2, _), (1, _), (0, _)]) rfl (by decide) rfl ?_
                refine ar_iinc (k := 77) (l2 := [(4, _), (3, _), (5, _), (2, _), (1, _), (0, _)]) rfl (by decide) rfl rfl ?_
                refine ar_goto (k := 78) rfl ?_
                refine ar_sub (l2 := [(4, vi ((r + 1 : Nat) : Int)), (3, vi (if m = 1 ∧ rTrP s t r then 1 else 0)), (2, vi (t : Int)), (1, vi a), (0, vr (some 69))]) (tw_s (tw_e 0 rfl (by omega)) (tw_s (tw_g 1 rfl) (tw_s (tw_g 3 rfl) (tw_s (tw_g 4 rfl) (tw_s (tw_g 5 rfl) tw_s0))))) ?_
                exact ih (r + 1) _ (by omega) (by split <;> omega) hF
              · refine ar_iconst (k := 73) rfl ?_
                refine ar_goto (k := 74) rfl ?_
                refine tw_top (y := if m = 1 ∧ rTrP s t r then 1 else 0) (by omega) ?_
                refine ar_istoren (k := 76) (l2 := [(3, _), (5, _), (4, _), (2, _), (1, _), (0, _)]) rfl (by decide) rfl ?_
                refine ar_iinc (k := 77) (l2 := [(4, _), (3, _), (5, _), (2, _), (1, _), (0, _)]) rfl (by decide) rfl rfl ?_
                refine ar_goto (k := 78) rfl ?_
                refine ar_sub (l2 := [(4, vi ((r + 1 : Nat) : Int)), (3, vi (if m = 1 ∧ rTrP s t r then 1 else 0)), (2, vi (t : Int)), (1, vi a), (0, vr (some 69))]) (tw_s (tw_e 0 rfl (by omega)) (tw_s (tw_g 1 rfl) (tw_s (tw_g 3 rfl) (tw_s (tw_g 4 rfl) (tw_s (tw_g 5 rfl) tw_s0))))) ?_
                exact ih (r + 1) _ (by omega) (by split <;> omega) hF
        · refine ar_aloadn (k := 46) rfl rfl ?_
          refine br_getR (k := 47) rfl (hS.k (by decide)) flR_9_12 (by decide) rfl (hS.r rfl) ?_
          refine ar_bipush (k := 48) rfl (by decide) ?_
          refine ar_iload (k := 49) rfl rfl ?_
          refine ar_iadd (k := 50) rfl ?_
          refine br_iads (k := 51) rfl (hS.k (by decide)) (by omega) (by omega) (by decide) hs ?_
          refine ar_iloadn (k := 52) rfl rfl ?_
          refine ar_icmp_eq (k := 53) rfl (by omega) (by omega) (fun c53 => ?_) (fun c53 => ?_)
          · refine ar_iconst (k := 56) rfl ?_
            refine ar_istore (k := 57) (l2 := [(5, _), (4, _), (3, _), (2, _), (1, _), (0, _)]) rfl (by decide) rfl ?_
            refine ar_iloadn (k := 58) rfl rfl ?_
            refine ar_if_eq (k := 59) rfl (by omega) (fun c59 => ?_) (fun c59 => ?_)
            · refine ar_iconst (k := 75) rfl ?_
              refine tw_top (y := if m = 1 ∧ rTrP s t r then 1 else 0) (by omega) ?_
              refine ar_istoren (k := 76) (l2 := [(3, _), (5, _), (4, _), (2, _), (1, _), (0, _)]) rfl (by decide) rfl ?_
              refine ar_iinc (k := 77) (l2 := [(4, _), (3, _), (5, _), (2, _), (1, _), (0, _)]) rfl (by decide) rfl rfl ?_
              refine ar_goto (k := 78) rfl ?_
              refine ar_sub (l2 := [(4, vi ((r + 1 : Nat) : Int)), (3, vi (if m = 1 ∧ rTrP s t r then 1 else 0)), (2, vi (t : Int)), (1, vi a), (0, vr (some 69))]) (tw_s (tw_e 0 rfl (by omega)) (tw_s (tw_g 1 rfl) (tw_s (tw_g 3 rfl) (tw_s (tw_g 4 rfl) (tw_s (tw_g 5 rfl) tw_s0))))) ?_
              exact ih (r + 1) _ (by omega) (by split <;> omega) hF
            · refine ar_iload (k := 60) rfl rfl ?_
              refine ar_aloadn (k := 61) rfl rfl ?_
              refine br_getR (k := 62) rfl (hS.k (by decide)) flR_9_12 (by decide) rfl (hS.r rfl) ?_
              refine ar_sipush (k := 63) rfl (by decide) ?_
              refine ar_iload (k := 64) rfl rfl ?_
              refine ar_iadd (k := 65) rfl ?_
              refine br_iads (k := 66) rfl (hS.k (by decide)) (by omega) (by omega) (by decide) hs ?_
              refine ar_iconst (k := 67) rfl ?_
              refine ar_icmp_ne (k := 68) rfl (by omega) (by omega) (fun c68 => ?_) (fun c68 => ?_)
              · refine ar_iconst (k := 71) rfl ?_
                refine ar_icmp_ne (k := 72) rfl (by omega) (by omega) (fun c72 => ?_) (fun c72 => ?_)
                · refine ar_iconst (k := 75) rfl ?_
                  refine tw_top (y := if m = 1 ∧ rTrP s t r then 1 else 0) (by omega) ?_
                  refine ar_istoren (k := 76) (l2 := [(3, _), (5, _), (4, _), (2, _), (1, _), (0, _)]) rfl (by decide) rfl ?_
                  refine ar_iinc (k := 77) (l2 := [(4, _), (3, _), (5, _), (2, _), (1, _), (0, _)]) rfl (by decide) rfl rfl ?_
                  refine ar_goto (k := 78) rfl ?_
                  refine ar_sub (l2 := [(4, vi ((r + 1 : Nat) : Int)), (3, vi (if m = 1 ∧ rTrP s t r then 1 else 0)), (2, vi (t : Int)), (1, vi a), (0, vr (some 69))]) (tw_s (tw_e 0 rfl (by omega)) (tw_s (tw_g 1 rfl) (tw_s (tw_g 3 rfl) (tw_s (tw_g 4 rfl) (tw_s (tw_g 5 rfl) tw_s0))))) ?_
                  exact ih (r + 1) _ (by omega) (by split <;> omega) hF
                · refine ar_iconst (k := 73) rfl ?_
                  refine ar_goto (k := 74) rfl ?_
                  refine tw_top (y := if m = 1 ∧ rTrP s t r then 1 else 0) (by omega) ?_
                  refine ar_istoren (k := 76) (l2 := [(3, _), (5, _), (4, _), (2, _), (1, _), (0, _)]) rfl (by decide) rfl ?_
                  refine ar_iinc (k := 77) (l2 := [(4, _), (3, _), (5, _), (2, _), (1, _), (0, _)]) rfl (by decide) rfl rfl ?_
                  refine ar_goto (k := 78) rfl ?_
                  refine ar_sub (l2 := [(4, vi ((r + 1 : Nat) : Int)), (3, vi (if m = 1 ∧ rTrP s t r then 1 else 0)), (2, vi (t : Int)), (1, vi a), (0, vr (some 69))]) (tw_s (tw_e 0 rfl (by omega)) (tw_s (tw_g 1 rfl) (tw_s (tw_g 3 rfl) (tw_s (tw_g 4 rfl) (tw_s (tw_g 5 rfl) tw_s0))))) ?_
                  exact ih (r + 1) _ (by omega) (by split <;> omega) hF
              · refine ar_iconst (k := 69) rfl ?_
                refine ar_goto (k := 70) rfl ?_
                refine ar_icmp_ne (k := 72) rfl (by omega) (by omega) (fun c72 => ?_) (fun c72 => ?_)
                · refine ar_iconst (k := 75) rfl ?_
                  refine tw_top (y := if m = 1 ∧ rTrP s t r then 1 else 0) (by omega) ?_
                  refine ar_istoren (k := 76) (l2 := [(3, _), (5, _), (4, _), (2, _), (1, _), (0, _)]) rfl (by decide) rfl ?_
                  refine ar_iinc (k := 77) (l2 := [(4, _), (3, _), (5, _), (2, _), (1, _), (0, _)]) rfl (by decide) rfl rfl ?_
                  refine ar_goto (k := 78) rfl ?_
                  refine ar_sub (l2 := [(4, vi ((r + 1 : Nat) : Int)), (3, vi (if m = 1 ∧ rTrP s t r then 1 else 0)), (2, vi (t : Int)), (1, vi a), (0, vr (some 69))]) (tw_s (tw_e 0 rfl (by omega)) (tw_s (tw_g 1 rfl) (tw_s (tw_g 3 rfl) (tw_s (tw_g 4 rfl) (tw_s (tw_g 5 rfl) tw_s0))))) ?_
                  exact ih (r + 1) _ (by omega) (by split <;> omega) hF
                · refine ar_iconst (k := 73) rfl ?_
                  refine ar_goto (k := 74) rfl ?_
                  refine tw_top (y := if m = 1 ∧ rTrP s t r then 1 else 0) (by omega) ?_
                  refine ar_istoren (k := 76) (l2 := [(3, _), (5, _), (4, _), (2, _), (1, _), (0, _)]) rfl (by decide) rfl ?_
                  refine ar_iinc (k := 77) (l2 := [(4, _), (3, _), (5, _), (2, _), (1, _), (0, _)]) rfl (by decide) rfl rfl ?_
                  refine ar_goto (k := 78) rfl ?_
                  refine ar_sub (l2 := [(4, vi ((r + 1 : Nat) : Int)), (3, vi (if m = 1 ∧ rTrP s t r then 1 else 0)), (2, vi (t : Int)), (1, vi a), (0, vr (some 69))]) (tw_s (tw_e 0 rfl (by omega)) (tw_s (tw_g 1 rfl) (tw_s (tw_g 3 rfl) (tw_s (tw_g 4 rfl) (tw_s (tw_g 5 rfl) tw_s0))))) ?_
                  exact ih (r + 1) _ (by omega) (by split <;> omega) hF
          · refine ar_iconst (k := 54) rfl ?_
            refine ar_goto (k := 55) rfl ?_
            refine ar_istore (k := 57) (l2 := [(5, _), (4, _), (3, _), (2, _), (1, _), (0, _)]) rfl (by decide) rfl ?_
            refine ar_iloadn (k := 58) rfl rfl ?_
            refine ar_if_eq (k := 59) rfl (by omega) (fun c59 => ?_) (fun c59 => ?_)
            · refine ar_iconst (k := 75) rfl ?_
              refine tw_top (y := if m = 1 ∧ rTrP s t r then 1 else 0) (by omega) ?_
              refine ar_istoren (k := 76) (l2 := [(3, _), (5, _), (4, _), (2, _), (1, _), (0, _)]) rfl (by decide) rfl ?_
              refine ar_iinc (k := 77) (l2 := [(4, _), (3, _), (5, _), (2, _), (1, _), (0, _)]) rfl (by decide) rfl rfl ?_
              refine ar_goto (k := 78) rfl ?_
              refine ar_sub (l2 := [(4, vi ((r + 1 : Nat) : Int)), (3, vi (if m = 1 ∧ rTrP s t r then 1 else 0)), (2, vi (t : Int)), (1, vi a), (0, vr (some 69))]) (tw_s (tw_e 0 rfl (by omega)) (tw_s (tw_g 1 rfl) (tw_s (tw_g 3 rfl) (tw_s (tw_g 4 rfl) (tw_s (tw_g 5 rfl) tw_s0))))) ?_
              exact ih (r + 1) _ (by omega) (by split <;> omega) hF
            · refine ar_iload (k := 60) rfl rfl ?_
              refine ar_aloadn (k := 61) rfl rfl ?_
              refine br_getR (k := 62) rfl (hS.k (by decide)) flR_9_12 (by decide) rfl (hS.r rfl) ?_
              refine ar_sipush (k := 63) rfl (by decide) ?_
              refine ar_iload (k := 64) rfl rfl ?_
              refine ar_iadd (k := 65) rfl ?_
              refine br_iads (k := 66) rfl (hS.k (by decide)) (by omega) (by omega) (by decide) hs ?_
              refine ar_iconst (k := 67) rfl ?_
              refine ar_icmp_ne (k := 68) rfl (by omega) (by omega) (fun c68 => ?_) (fun c68 => ?_)
              · refine ar_iconst (k := 71) rfl ?_
                refine ar_icmp_ne (k := 72) rfl (by omega) (by omega) (fun c72 => ?_) (fun c72 => ?_)
                · refine ar_iconst (k := 75) rfl ?_
                  refine tw_top (y := if m = 1 ∧ rTrP s t r then 1 else 0) (by omega) ?_
                  refine ar_istoren (k := 76) (l2 := [(3, _), (5, _), (4, _), (2, _), (1, _), (0, _)]) rfl (by decide) rfl ?_
                  refine ar_iinc (k := 77) (l2 := [(4, _), (3, _), (5, _), (2, _), (1, _), (0, _)]) rfl (by decide) rfl rfl ?_
                  refine ar_goto (k := 78) rfl ?_
                  refine ar_sub (l2 := [(4, vi ((r + 1 : Nat) : Int)), (3, vi (if m = 1 ∧ rTrP s t r then 1 else 0)), (2, vi (t : Int)), (1, vi a), (0, vr (some 69))]) (tw_s (tw_e 0 rfl (by omega)) (tw_s (tw_g 1 rfl) (tw_s (tw_g 3 rfl) (tw_s (tw_g 4 rfl) (tw_s (tw_g 5 rfl) tw_s0))))) ?_
                  exact ih (r + 1) _ (by omega) (by split <;> omega) hF
                · refine ar_iconst (k := 73) rfl ?_
                  refine ar_goto (k := 74) rfl ?_
                  refine tw_top (y := if m = 1 ∧ rTrP s t r then 1 else 0) (by omega) ?_
                  refine ar_istoren (k := 76) (l2 := [(3, _), (5, _), (4, _), (2, _), (1, _), (0, _)]) rfl (by decide) rfl ?_
                  refine ar_iinc (k := 77) (l2 := [(4, _), (3, _), (5, _), (2, _), (1, _), (0, _)]) rfl (by decide) rfl rfl ?_
                  refine ar_goto (k := 78) rfl ?_
                  refine ar_sub (l2 := [(4, vi ((r + 1 : Nat) : Int)), (3, vi (if m = 1 ∧ rTrP s t r then 1 else 0)), (2, vi (t : Int)), (1, vi a), (0, vr (some 69))]) (tw_s (tw_e 0 rfl (by omega)) (tw_s (tw_g 1 rfl) (tw_s (tw_g 3 rfl) (tw_s (tw_g 4 rfl) (tw_s (tw_g 5 rfl) tw_s0))))) ?_
                  exact ih (r + 1) _ (by omega) (by split <;> omega) hF
              · refine ar_iconst (k := 69) rfl ?_
                refine ar_goto (k := 70) rfl ?_
                refine ar_icmp_ne (k := 72) rfl (by omega) (by omega) (fun c72 => ?_) (fun c72 => ?_)
                · refine ar_iconst (k := 75) rfl ?_
                  refine tw_top (y := if m = 1 ∧ rTrP s t r then 1 else 0) (by omega) ?_
                  refine ar_istoren (k := 76) (l2 := [(3, _), (5, _), (4, _), (2, _), (1, _), (0, _)]) rfl (by decide) rfl ?_
                  refine ar_iinc (k := 77) (l2 := [(4, _), (3, _), (5, _), (2, _), (1, _), (0, _)]) rfl (by decide) rfl rfl ?_
                  refine ar_goto (k := 78) rfl ?_
                  refine ar_sub (l2 := [(4, vi ((r + 1 : Nat) : Int)), (3, vi (if m = 1 ∧ rTrP s t r then 1 else 0)), (2, vi (t : Int)), (1, vi a), (0, vr (some 69))]) (tw_s (tw_e 0 rfl (by omega)) (tw_s (tw_g 1 rfl) (tw_s (tw_g 3 rfl) (tw_s (tw_g 4 rfl) (tw_s (tw_g 5 rfl) tw_s0))))) ?_
                  exact ih (r + 1) _ (by omega) (by split <;> omega) hF
                · refine ar_iconst (k := 73) rfl ?_
                  refine ar_goto (k := 74) rfl ?_
                  refine tw_top (y := if m = 1 ∧ rTrP s t r then 1 else 0) (by omega) ?_
                  refine ar_istoren (k := 76) (l2 := [(3, _), (5, _), (4, _), (2, _), (1, _), (0, _)]) rfl (by decide) rfl ?_
                  refine ar_iinc (k := 77) (l2 := [(4, _), (3, _), (5, _), (2, _), (1, _), (0, _)]) rfl (by decide) rfl rfl ?_
                  refine ar_goto (k := 78) rfl ?_
                  refine ar_sub (l2 := [(4, vi ((r + 1 : Nat) : Int)), (3, vi (if m = 1 ∧ rTrP s t r then 1 else 0)), (2, vi (t : Int)), (1, vi a), (0, vr (some 69))]) (tw_s (tw_e 0 rfl (by omega)) (tw_s (tw_g 1 rfl) (tw_s (tw_g 3 rfl) (tw_s (tw_g 4 rfl) (tw_s (tw_g 5 rfl) tw_s0))))) ?_
                  exact ih (r + 1) _ (by omega) (by split <;> omega) hF
theorem l_R_brokenOnes (hS : tSt (K, I, Q, n)) (hs : I 70 = s) (hR : RInv s) : ∀ (k : Nat) (j : Nat) (a : Int), j + k = (s 1).toNat → tw_AW l G mR_brokenOnes 2 0 0 n 0 (tw_fn (some (vi (orV (fun t => if rMayN s (t : Int) (s 3).toNat 0 1 = 1 then bShl 1 t else 0) k j a))) (K, I, Q, n)) 4 [(2, vi (j : Int)), (1, vi a), (0, vr (some 69))] [] (K, I, Q, n) := by
  obtain ⟨h0, h1, h2, h3, h4, h5, h6, hp, hrw, ht, hr, hb, htp, hv⟩ := id hR
  intro k
  induction k with
  | zero =>
    intro j a hj
    refine ar_iloadn (k := 4) rfl rfl ?_
    refine ar_aloadn (k := 5) rfl rfl ?_
    refine br_getR (k := 6) rfl (hS.k (by decide)) flR_9_12 (by decide) rfl (hS.r rfl) ?_
    refine ar_iconst (k := 7) rfl ?_
    refine br_iads (k := 8) rfl (hS.k (by decide)) (by omega) (by omega) (by decide) hs ?_
    refine ar_icmp_ge (k := 9) rfl (by omega) (by omega) (fun c9 => ?_) (fun c9 => ?_)
    · refine ar_iloadn (k := 91) rfl rfl ?_
      refine ar_iret (k := 92) rfl rfl rfl (Nat.le_refl _) ?_
      exact ⟨rfl, rfl⟩
    · exfalso; omega
  | succ k ih =>
    intro j a hj
    refine ar_iloadn (k := 4) rfl rfl ?_
    refine ar_aloadn (k := 5) rfl rfl ?_
    refine br_getR (k := 6) rfl (hS.k (by decide)) flR_9_12 (by decide) rfl (hS.r rfl) ?_
    refine ar_iconst (k := 7) rfl ?_
    refine br_iads (k := 8) rfl (hS.k (by decide)) (by omega) (by omega) (by decide) hs ?_
    refine ar_icmp_ge (k := 9) rfl (by omega) (by omega) (fun c9 => ?_) (fun c9 => ?_)
    · exfalso; omega
    · refine ar_iconst (k := 10) rfl ?_
      refine ar_istoren (k := 11) (l2 := [(3, _), (2, _), (1, _), (0, _)]) rfl (by decide) rfl ?_
      refine ar_iconst (k := 12) rfl ?_
      refine ar_istore (k := 13) (l2 := [(4, _), (3, _), (2, _), (1, _), (0, _)]) rfl (by decide) rfl ?_
      refine ar_sub (l2 := [(4, vi ((0 : Nat) : Int)), (3, vi 1), (2, vi (j : Int)), (1, vi a), (0, vr (some 69))]) (tw_s (tw_e 0 rfl (by rfl)) (tw_s (tw_g 1 rfl) (tw_s (tw_g 2 rfl) (tw_s (tw_g 3 rfl) (tw_s (tw_g 4 rfl) tw_s0))))) ?_
      refine li_R_brokenOnes (t := j) (a := a) hS hs hR (F := rMayN s (j : Int) (s 3).toNat 0 1) (by omega) ?_ _ 0 1 (by omega) (Or.inr rfl) rfl
      intro r2
      have h01 := rMayN_01 (s := s) (t := (j : Int)) (s 3).toNat 0 1 (Or.inr rfl)
      refine ar_iloadn (k := 79) rfl rfl ?_
      refine ar_iloadn (k := 80) rfl rfl ?_
      refine ar_if_eq (k := 81) rfl (by omega) (fun c81 => ?_) (fun c81 => ?_)
      · refine ar_iconst (k := 86) rfl ?_
        refine tw_top (y := (fun t => if rMayN s (t : Int) (s 3).toNat 0 1 = 1 then bShl 1 t else 0) j) (by show _ = (if _ then _ else _); (repeat' split) <;> first | rfl | (exfalso; omega)) ?_
        refine ar_ior (k := 87) rfl ?_
        refine ar_istoren (k := 88) (l2 := [(1, _), (4, _), (3, _), (2, _), (0, _)]) rfl (by decide) rfl ?_
        refine ar_iinc (k := 89) (l2 := [(2, _), (1, _), (4, _), (3, _), (0, _)]) rfl (by decide) rfl rfl ?_
        refine ar_goto (k := 90) rfl ?_
        refine ar_sub (l2 := [(2, vi ((j + 1 : Nat) : Int)), (1, vi (bOr a ((fun t => if rMayN s (t : Int) (s 3).toNat 0 1 = 1 then bShl 1 t else 0) j))), (0, vr (some 69))]) (tw_s (tw_e 0 rfl (by omega)) (tw_s (tw_e 1 rfl (by rfl)) (tw_s (tw_g 4 rfl) tw_s0))) ?_
        exact ih (j + 1) _ (by omega)
      · refine ar_iconst (k := 82) rfl ?_
        refine ar_iloadn (k := 83) rfl rfl ?_
        refine ar_ishl (k := 84) rfl ?_
        refine ar_goto (k := 85) rfl ?_
        refine tw_top (y := (fun t => if rMayN s (t : Int) (s 3).toNat 0 1 = 1 then bShl 1 t else 0) j) (by show _ = (if _ then _ else _); (repeat' split) <;> first | rfl | (exfalso; omega)) ?_
        refine ar_ior (k := 87) rfl ?_
        refine ar_istoren (k := 88) (l2 := [(1, _), (4, _), (3, _), (2, _), (0, _)]) rfl (by decide) rfl ?_
        refine ar_iinc (k := 89) (l2 := [(2, _), (1, _), (4, _), (3, _), (0, _)]) rfl (by decide) rfl rfl ?_
        refine ar_goto (k := 90) rfl ?_
        refine ar_sub (l2 := [(2, vi ((j + 1 : Nat) : Int)), (1, vi (bOr a ((fun t => if rMayN s (t : Int) (s 3).toNat 0 1 = 1 then bShl 1 t else 0) j))), (0, vr (some 69))]) (tw_s (tw_e 0 rfl (by omega)) (tw_s (tw_e 1 rfl (by rfl)) (tw_s (tw_g 4 rfl) tw_s0))) ?_
        exact ih (j + 1) _ (by omega)
theorem c_R_brokenOnes (hS : tSt (K, I, Q, n)) (hs : I 70 = s) (hR : RInv s) : tw_F l G 2 0 0 mR_brokenOnes [vr (some 69)] (K, I, Q, n) (some (vi (rBrk s))) (K, I, Q, n) := by
  obtain ⟨h0, h1, h2, h3, h4, h5, h6, hp, hrw, ht, hr, hb, htp, hv⟩ := id hR
  refine tw_intro okR_brokenOnes (Nat.le_of_ble_eq_true rfl) ?_
  refine ar_iconst (k := 0) rfl ?_
  refine ar_istoren (k := 1) (l2 := [(1, _), (0, _)]) rfl (by decide) rfl ?_
  refine ar_iconst (k := 2) rfl ?_
  refine ar_istoren (k := 3) (l2 := [(2, _), (1, _), (0, _)]) rfl (by decide) rfl ?_
  refine ar_sub (l2 := [(2, vi ((0 : Nat) : Int)), (1, vi 0), (0, vr (some 69))]) (tw_s (tw_e 0 rfl (by rfl)) (tw_s (tw_g 1 rfl) (tw_s (tw_g 2 rfl) tw_s0))) ?_
  exact l_R_brokenOnes hS hs hR _ 0 0 (by omega)
theorem l_R_nextTry {e : Int} (hS : tSt (K, I, Q, n)) (hs : I 70 = s) (hR : RInv s) : ∀ (k : Nat) (j : Nat) (b m : Int), j + k = (s 1).toNat → (b = -5 ∨ (0 ≤ b ∧ b < 10)) → (-100 ≤ m ∧ m ≤ 100) → tw_AW l G mR_nextTry 3 0 0 n 0 (tw_fn (some (vi (rTryN s e k j b m))) (K, I, Q, n)) 13 [(4, vi (j : Int)), (3, vi m), (2, vi b), (1, vi e), (0, vr (some 69))] [] (K, I, Q, n) := by
  obtain ⟨h0, h1, h2, h3, h4, h5, h6, hp, hrw, ht, hr, hb, htp, hv⟩ := id hR
  intro k
  induction k with
  | zero =>
    intro j b m hj hb9 hm9
    refine ar_iload (k := 9) rfl rfl ?_
    refine ar_aloadn (k := 10) rfl rfl ?_
    refine br_getR (k := 11) rfl (hS.k (by decide)) flR_9_12 (by decide) rfl (hS.r rfl) ?_
    refine ar_iconst (k := 12) rfl ?_
    refine br_iads (k := 13) rfl (hS.k (by decide)) (by omega) (by omega) (by decide) hs ?_
    refine ar_icmp_ge (k := 14) rfl (by omega) (by omega) (fun c14 => ?_) (fun c14 => ?_)
    · refine ar_iloadn (k := 76) rfl rfl ?_
      refine ar_iret (k := 77) rfl rfl rfl (Nat.le_refl _) ?_
      exact ⟨rfl, rfl⟩
    · exfalso; omega
  | succ k ih =>
    intro j b m hj hb9 hm9
    refine ar_iload (k := 9) rfl rfl ?_
    refine ar_aloadn (k := 10) rfl rfl ?_
    refine br_getR (k := 11) rfl (hS.k (by decide)) flR_9_12 (by decide) rfl (hS.r rfl) ?_
    refine ar_iconst (k := 12) rfl ?_
    refine br_iads (k := 13) rfl (hS.k (by decide)) (by omega) (by omega) (by decide) hs ?_
    refine ar_icmp_ge (k := 14) rfl (by omega) (by omega) (fun c14 => ?_) (fun c14 => ?_)
    · exfalso; omega
    · have hw := ht j (by omega) (by omega)
      have b1 := bAnd1 (bShr e (j : Int))
      have b2 := bAnd1 (bShr e (s (94 + (j : Int))))
      have b3 := rCnt_bd e
      refine ar_aloadn (k := 15) rfl rfl ?_
      refine br_getR (k := 16) rfl (hS.k (by decide)) flR_9_12 (by decide) rfl (hS.r rfl) ?_
      refine ar_bipush (k := 17) rfl (by decide) ?_
      refine ar_iload (k := 18) rfl rfl ?_
      refine ar_iadd (k := 19) rfl ?_
      refine br_iads (k := 20) rfl (hS.k (by decide)) (by omega) (by omega) (by decide) hs ?_
      refine ar_iload (k := 21) rfl rfl ?_
      refine ar_icmp_le (k := 22) rfl (by omega) (by omega) (fun c22 => ?_) (fun c22 => ?_)
      · first
          | (exfalso; omega)
          | (refine ar_iinc (k := 74) (l2 := [(4, _), (3, _), (2, _), (1, _), (0, _)]) rfl (by decide) rfl rfl ?_; refine ar_goto (k := 75) rfl ?_; refine ar_sub (l2 := [(4, vi ((j + 1 : Nat) : Int)), (3, vi (max (bAnd (bShr e (j : Int)) 1 + bAnd (bShr e (s (94 + (j : Int)))) 1) (rCnt e - (bAnd (bShr e (j : Int)) 1 + bAnd (bShr e (s (94 + (j : Int)))) 1)))), (2, vi ((j : Int))), (1, vi e), (0, vr (some 69))]) (tw_s (tw_e 0 rfl (by omega)) (tw_s (tw_e 1 rfl (by omega)) (tw_s (tw_g 2 rfl) (tw_s (tw_g 3 rfl) (tw_s (tw_g 4 rfl) tw_s0))))) ?_; rw [show rTryN s e (k + 1) j b m = rTryN s e k (j + 1) j (max (bAnd (bShr e (j : Int)) 1 + bAnd (bShr e (s (94 + (j : Int)))) 1) (rCnt e - (bAnd (bShr e (j : Int)) 1 + bAnd (bShr e (s (94 + (j : Int)))) 1))) by rw [rTryN, if_pos (by omega)]]; exact ih (j + 1) _ _ (by omega) (by omega) (by omega))
          | (refine ar_iinc (k := 74) (l2 := [(4, _), (3, _), (2, _), (1, _), (0, _)]) rfl (by decide) rfl rfl ?_; refine ar_goto (k := 75) rfl ?_; refine ar_sub (l2 := [(4, vi ((j + 1 : Nat) : Int)), (3, vi (m)), (2, vi (b)), (1, vi e), (0, vr (some 69))]) (tw_s (tw_e 0 rfl (by omega)) (tw_s (tw_g 1 rfl) (tw_s (tw_g 2 rfl) (tw_s (tw_g 3 rfl) (tw_s (tw_g 4 rfl) tw_s0))))) ?_; rw [show rTryN s e (k + 1) j b m = rTryN s e k (j + 1) b m by rw [rTryN, if_neg (by omega)]]; exact ih (j + 1) _ _ (by omega) (by omega) (by omega))
      · refine ar_iloadn (k := 23) rfl rfl ?_
        refine ar_iload (k := 24) rfl rfl ?_
        refine ar_ishr (k := 25) rfl ?_
        refine ar_iconst (k := 26) rfl ?_
        refine ar_iand (k := 27) rfl ?_
        refine ar_iloadn (k := 28) rfl rfl ?_
        refine ar_aloadn (k := 29) rfl rfl ?_
        refine br_getR (k := 30) rfl (hS.k (by decide)) flR_9_12 (by decide) rfl (hS.r rfl) ?_
        refine ar_bipush (k := 31) rfl (by decide) ?_
        refine ar_iload (k := 32) rfl rfl ?_
        refine ar_iadd (k := 33) rfl ?_
        refine br_iads (k := 34) rfl (hS.k (by decide)) (by omega) (by omega) (by decide) hs ?_
        refine ar_ishr (k := 35) rfl ?_
        refine ar_iconst (k := 36) rfl ?_
        refine ar_iand (k := 37) rfl ?_
        refine ar_iadd (k := 38) rfl ?_
        refine ar_istore (k := 39) (l2 := [(5, _), (4, _), (3, _), (2, _), (1, _), (0, _)]) rfl (by decide) rfl ?_
        refine ar_iloadn (k := 40) rfl rfl ?_
        refine br_callS (k := 41) (as := [_]) rfl lsR_191 c_R_count1 rfl (by decide) (by decide) tw_m0 (Nat.le_of_ble_eq_true rfl) ?_
        refine ar_iload (k := 42) rfl rfl ?_
        refine ar_isub (k := 43) rfl ?_
        refine ar_istore (k := 44) (l2 := [(6, _), (5, _), (4, _), (3, _), (2, _), (1, _), (0, _)]) rfl (by decide) rfl ?_
        refine ar_iload (k := 45) rfl rfl ?_
        refine ar_iload (k := 46) rfl rfl ?_
        refine ar_icmp_le (k := 47) rfl (by omega) (by omega) (fun c47 => ?_) (fun c47 => ?_)
        · refine ar_iload (k := 50) rfl rfl ?_
          refine ar_istore (k := 51) (l2 := [(7, _), (6, _), (5, _), (4, _), (3, _), (2, _), (1, _), (0, _)]) rfl (by decide) rfl ?_
          refine ar_iloadn (k := 52) rfl rfl ?_
          refine ar_bipush (k := 53) rfl (by decide) ?_
          refine ar_icmp_eq (k := 54) rfl (by omega) (by omega) (fun c54 => ?_) (fun c54 => ?_)
          · refine ar_iconst (k := 58) rfl ?_
            refine ar_goto (k := 59) rfl ?_
            refine ar_istore (k := 61) (l2 := [(8, _), (7, _), (6, _), (5, _), (4, _), (3, _), (2, _), (1, _), (0, _)]) rfl (by decide) rfl ?_
            refine ar_iload (k := 62) rfl rfl ?_
            refine ar_if_eq (k := 63) rfl (by omega) (fun c63 => ?_) (fun c63 => ?_)
            · refine ar_iloadn (k := 66) rfl rfl ?_
              refine ar_istoren (k := 67) (l2 := [(2, _), (8, _), (7, _), (6, _), (5, _), (4, _), (3, _), (1, _), (0, _)]) rfl (by decide) rfl ?_
              refine ar_iload (k := 68) rfl rfl ?_
              refine ar_if_eq (k := 69) rfl (by omega) (fun c69 => ?_) (fun c69 => ?_)
              · refine ar_iloadn (k := 72) rfl rfl ?_
                refine ar_istoren (k := 73) (l2 := [(3, _), (2, _), (8, _), (7, _), (6, _), (5, _), (4, _), (1, _), (0, _)]) rfl (by decide) rfl ?_
                first
                  | (exfalso; omega)
                  | (refine ar_iinc (k := 74) (l2 := [(4, _), (3, _), (2, _), (8, _), (7, _), (6, _), (5, _), (1, _), (0, _)]) rfl (by decide) rfl rfl ?_; refine ar_goto (k := 75) rfl ?_; refine ar_sub (l2 := [(4, vi ((j + 1 : Nat) : Int)), (3, vi (max (bAnd (bShr e (j : Int)) 1 + bAnd (bShr e (s (94 + (j : Int)))) 1) (rCnt e - (bAnd (bShr e (j : Int)) 1 + bAnd (bShr e (s (94 + (j : Int)))) 1)))), (2, vi ((j : Int))), (1, vi e), (0, vr (some 69))]) (tw_s (tw_e 0 rfl (by omega)) (tw_s (tw_e 1 rfl (by omega)) (tw_s (tw_g 2 rfl) (tw_s (tw_g 7 rfl) (tw_s (tw_g 8 rfl) tw_s0))))) ?_; rw [show rTryN s e (k + 1) j b m = rTryN s e k (j + 1) j (max (bAnd (bShr e (j : Int)) 1 + bAnd (bShr e (s (94 + (j : Int)))) 1) (rCnt e - (bAnd (bShr e (j : Int)) 1 + bAnd (bShr e (s (94 + (j : Int)))) 1))) by rw [rTryN, if_pos (by omega)]]; exact ih (j + 1) _ _ (by omega) (by omega) (by omega))
                  | (refine ar_iinc (k := 74) (l2 := [(4, _), (3, _), (2, _), (8, _), (7, _), (6, _), (5, _), (1, _), (0, _)]) rfl (by decide) rfl rfl ?_; refine ar_goto (k := 75) rfl ?_; refine ar_sub (l2 := [(4, vi ((j + 1 : Nat) : Int)), (3, vi (m)), (2, vi (b)), (1, vi e), (0, vr (some 69))]) (tw_s (tw_e 0 rfl (by omega)) (tw_s (tw_g 1 rfl) (tw_s (tw_g 2 rfl) (tw_s (tw_g 7 rfl) (tw_s (tw_g 8 rfl) tw_s0))))) ?_; rw [show rTryN s e (k + 1) j b m = rTryN s e k (j + 1) b m by rw [rTryN, if_neg (by omega)]]; exact ih (j + 1) _ _ (by omega) (by omega) (by omega))
              · refine ar_iload (k := 70) rfl rfl ?_
                refine ar_goto (k := 71) rfl ?_
                refine ar_istoren (k := 73) (l2 := [(3, _), (2, _), (8, _), (7, _), (6, _), (5, _), (4, _), (1, _), (0, _)]) rfl (by decide) rfl ?_
                first
                  | (exfalso; omega)
                  | (refine ar_iinc (k := 74) (l2 := [(4, _), (3, _), (2, _), (8, _), (7, _), (6, _), (5, _), (1, _), (0, _)]) rfl (by decide) rfl rfl ?_; refine ar_goto (k := 75) rfl ?_; refine ar_sub (l2 := [(4, vi ((j + 1 : Nat) : Int)), (3, vi (max (bAnd (bShr e (j : Int)) 1 + bAnd (bShr e (s (94 + (j : Int)))) 1) (rCnt e - (bAnd (bShr e (j : Int)) 1 + bAnd (bShr e (s (94 + (j : Int)))) 1)))), (2, vi ((j : Int))), (1, vi e), (0, vr (some 69))]) (tw_s (tw_e 0 rfl (by omega)) (tw_s (tw_e 1 rfl (by omega)) (tw_s (tw_g 2 rfl) (tw_s (tw_g 7 rfl) (tw_s (tw_g 8 rfl) tw_s0))))) ?_; rw [show rTryN s e (k + 1) j b m = rTryN s e k (j + 1) j (max (bAnd (bShr e (j : Int)) 1 + bAnd (bShr e (s (94 + (j : Int)))) 1) (rCnt e - (bAnd (bShr e (j : Int)) 1 + bAnd (bShr e (s (94 + (j : Int)))) 1))) by rw [rTryN, if_pos (by omega)]]; exact ih (j + 1) _ _ (by omega) (by omega) (by omega))
                  | (refine ar_iinc (k := 74) (l2 := [(4, _), (3, _), (2, _), (8, _), (7, _), (6, _), (5, _), (1, _), (0, _)]) rfl (by decide) rfl rfl ?_; refine ar_goto (k := 75) rfl ?_; refine ar_sub (l2 := [(4, vi ((j + 1 : Nat) : Int)), (3, vi (m)), (2, vi (b)), (1, vi e), (0, vr (some 69))]) (tw_s (tw_e 0 rfl (by omega)) (tw_s (tw_g 1 rfl) (tw_s (tw_g 2 rfl) (tw_s (tw_g 7 rfl) (tw_s (tw_g 8 rfl) tw_s0))))) ?_; rw [show rTryN s e (k + 1) j b m = rTryN s e k (j + 1) b m by rw [rTryN, if_neg (by omega)]]; exact ih (j + 1) _ _ (by omega) (by omega) (by omega))
            · refine ar_iload (k := 64) rfl rfl ?_
              refine ar_goto (k := 65) rfl ?_
              refine ar_istoren (k := 67) (l2 := [(2, _), (8, _), (7, _), (6, _), (5, _), (4, _), (3, _), (1, _), (0, _)]) rfl (by decide) rfl ?_
              refine ar_iload (k := 68) rfl rfl ?_
              refine ar_if_eq (k := 69) rfl (by omega) (fun c69 => ?_) (fun c69 => ?_)
              · refine ar_iloadn (k := 72) rfl rfl ?_
                refine ar_istoren (k := 73) (l2 := [(3, _), (2, _), (8, _), (7, _), (6, _), (5, _), (4, _), (1, _), (0, _)]) rfl (by decide) rfl ?_
                first
                  | (exfalso; omega)
                  | (refine ar_iinc (k := 74) (l2 := [(4, _), (3, _), (2, _), (8, _), (7, _), (6, _), (5, _), (1, _), (0, _)]) rfl (by decide) rfl rfl ?_; refine ar_goto (k := 75) rfl ?_; refine ar_sub (l2 := [(4, vi ((j + 1 : Nat) : Int)), (3, vi (max (bAnd (bShr e (j : Int)) 1 + bAnd (bShr e (s (94 + (j : Int)))) 1) (rCnt e - (bAnd (bShr e (j : Int)) 1 + bAnd (bShr e (s (94 + (j : Int)))) 1)))), (2, vi ((j : Int))), (1, vi e), (0, vr (some 69))]) (tw_s (tw_e 0 rfl (by omega)) (tw_s (tw_e 1 rfl (by omega)) (tw_s (tw_g 2 rfl) (tw_s (tw_g 7 rfl) (tw_s (tw_g 8 rfl) tw_s0))))) ?_; rw [show rTryN s e (k + 1) j b m = rTryN s e k (j + 1) j (max (bAnd (bShr e (j : Int)) 1 + bAnd (bShr e (s (94 + (j : Int)))) 1) (rCnt e - (bAnd (bShr e (j : Int)) 1 + bAnd (bShr e (s (94 + (j : Int)))) 1))) by rw [rTryN, if_pos (by omega)]]; exact ih (j + 1) _ _ (by omega) (by omega) (by omega))
                  | (refine ar_iinc (k := 74) (l2 := [(4, _), (3, _), (2, _), (8, _), (7, _), (6, _), (5, _), (1, _), (0, _)]) rfl (by decide) rfl rfl ?_; refine ar_goto (k := 75) rfl ?_; refine ar_sub (l2 := [(4, vi ((j + 1 : Nat) : Int)), (3, vi (m)), (2, vi (b)), (1, vi e), (0, vr (some 69))]) (tw_s (tw_e 0 rfl (by omega)) (tw_s (tw_g 1 rfl) (tw_s (tw_g 2 rfl) (tw_s (tw_g 7 rfl) (tw_s (tw_g 8 rfl) tw_s0))))) ?_; rw [show rTryN s e (k + 1) j b m = rTryN s e k (j + 1) b m by rw [rTryN, if_neg (by omega)]]; exact ih (j + 1) _ _ (by omega) (by omega) (by omega))
              · refine ar_iload (k := 70) rfl rfl ?_
                refine ar_goto (k := 71) rfl ?_
                refine ar_istoren (k := 73) (l2 := [(3, _), (2, _), (8, _), (7, _), (6, _), (5, _), (4, _), (1, _), (0, _)]) rfl (by decide) rfl ?_
                first
                  | (exfalso; omega)
                  | (refine ar_iinc (k := 74) (l2 := [(4, _), (3, _), (2, _), (8, _), (7, _), (6, _), (5, _), (1, _), (0, _)]) rfl (by decide) rfl rfl ?_; refine ar_goto (k := 75) rfl ?_; refine ar_sub (l2 := [(4, vi ((j + 1 : Nat) : Int)), (3, vi (max (bAnd (bShr e (j : Int)) 1 + bAnd (bShr e (s (94 + (j : Int)))) 1) (rCnt e - (bAnd (bShr e (j : Int)) 1 + bAnd (bShr e (s (94 + (j : Int)))) 1)))), (2, vi ((j : Int))), (1, vi e), (0, vr (some 69))]) (tw_s (tw_e 0 rfl (by omega)) (tw_s (tw_e 1 rfl (by omega)) (tw_s (tw_g 2 rfl) (tw_s (tw_g 7 rfl) (tw_s (tw_g 8 rfl) tw_s0))))) ?_; rw [show rTryN s e (k + 1) j b m = rTryN s e k (j + 1) j (max (bAnd (bShr e (j : Int)) 1 + bAnd (bShr e (s (94 + (j : Int)))) 1) (rCnt e - (bAnd (bShr e (j : Int)) 1 + bAnd (bShr e (s (94 + (j : Int)))) 1))) by rw [rTryN, if_pos (by omega)]]; exact ih (j + 1) _ _ (by omega) (by omega) (by omega))
                  | (refine ar_iinc (k := 74) (l2 := [(4, _), (3, _), (2, _), (8, _), (7, _), (6, _), (5, _), (1, _), (0, _)]) rfl (by decide) rfl rfl ?_; refine ar_goto (k := 75) rfl ?_; refine ar_sub (l2 := [(4, vi ((j + 1 : Nat) : Int)), (3, vi (m)), (2, vi (b)), (1, vi e), (0, vr (some 69))]) (tw_s (tw_e 0 rfl (by omega)) (tw_s (tw_g 1 rfl) (tw_s (tw_g 2 rfl) (tw_s (tw_g 7 rfl) (tw_s (tw_g 8 rfl) tw_s0))))) ?_; rw [show rTryN s e (k + 1) j b m = rTryN s e k (j + 1) b m by rw [rTryN, if_neg (by omega)]]; exact ih (j + 1) _ _ (by omega) (by omega) (by omega))
          · refine ar_iload (k := 55) rfl rfl ?_
            refine ar_iloadn (k := 56) rfl rfl ?_
            refine ar_icmp_ge (k := 57) rfl (by omega) (by omega) (fun c57 => ?_) (fun c57 => ?_)
            · refine ar_iconst (k := 60) rfl ?_
              refine ar_istore (k := 61) (l2 := [(8, _), (7, _), (6, _), (5, _), (4, _), (3, _), (2, _), (1, _), (0, _)]) rfl (by decide) rfl ?_
              refine ar_iload (k := 62) rfl rfl ?_
              refine ar_if_eq (k := 63) rfl (by omega) (fun c63 => ?_) (fun c63 => ?_)
              · refine ar_iloadn (k := 66) rfl rfl ?_
                refine ar_istoren (k := 67) (l2 := [(2, _), (8, _), (7, _), (6, _), (5, _), (4, _), (3, _), (1, _), (0, _)]) rfl (by decide) rfl ?_
                refine ar_iload (k := 68) rfl rfl ?_
                refine ar_if_eq (k := 69) rfl (by omega) (fun c69 => ?_) (fun c69 => ?_)
                · refine ar_iloadn (k := 72) rfl rfl ?_
                  refine ar_istoren (k := 73) (l2 := [(3, _), (2, _), (8, _), (7, _), (6, _), (5, _), (4, _), (1, _), (0, _)]) rfl (by decide) rfl ?_
                  first
                    | (exfalso; omega)
                    | (refine ar_iinc (k := 74) (l2 := [(4, _), (3, _), (2, _), (8, _), (7, _), (6, _), (5, _), (1, _), (0, _)]) rfl (by decide) rfl rfl ?_; refine ar_goto (k := 75) rfl ?_; refine ar_sub (l2 := [(4, vi ((j + 1 : Nat) : Int)), (3, vi (max (bAnd (bShr e (j : Int)) 1 + bAnd (bShr e (s (94 + (j : Int)))) 1) (rCnt e - (bAnd (bShr e (j : Int)) 1 + bAnd (bShr e (s (94 + (j : Int)))) 1)))), (2, vi ((j : Int))), (1, vi e), (0, vr (some 69))]) (tw_s (tw_e 0 rfl (by omega)) (tw_s (tw_e 1 rfl (by omega)) (tw_s (tw_g 2 rfl) (tw_s (tw_g 7 rfl) (tw_s (tw_g 8 rfl) tw_s0))))) ?_; rw [show rTryN s e (k + 1) j b m = rTryN s e k (j + 1) j (max (bAnd (bShr e (j : Int)) 1 + bAnd (bShr e (s (94 + (j : Int)))) 1) (rCnt e - (bAnd (bShr e (j : Int)) 1 + bAnd (bShr e (s (94 + (j : Int)))) 1))) by rw [rTryN, if_pos (by omega)]]; exact ih (j + 1) _ _ (by omega) (by omega) (by omega))
                    | (refine ar_iinc (k := 74) (l2 := [(4, _), (3, _), (2, _), (8, _), (7, _), (6, _), (5, _), (1, _), (0, _)]) rfl (by decide) rfl rfl ?_; refine ar_goto (k := 75) rfl ?_; refine ar_sub (l2 := [(4, vi ((j + 1 : Nat) : Int)), (3, vi (m)), (2, vi (b)), (1, vi e), (0, vr (some 69))]) (tw_s (tw_e 0 rfl (by omega)) (tw_s (tw_g 1 rfl) (tw_s (tw_g 2 rfl) (tw_s (tw_g 7 rfl) (tw_s (tw_g 8 rfl) tw_s0))))) ?_; rw [show rTryN s e (k + 1) j b m = rTryN s e k (j + 1) b m by rw [rTryN, if_neg (by omega)]]; exact ih (j + 1) _ _ (by omega) (by omega) (by omega))
                · refine ar_iload (k := 70) rfl rfl ?_
                  refine ar_goto (k := 71) rfl ?_
                  refine ar_istoren (k := 73) (l2 := [(3, _), (2, _), (8, _), (7, _), (6, _), (5, _), (4, _), (1, _), (0, _)]) rfl (by decide) rfl ?_
                  first
                    | (exfalso; omega)
                    | (refine ar_iinc (k := 74) (l2 := [(4, _), (3, _), (2, _), (8, _), (7, _), (6, _), (5, _), (1, _), (0, _)]) rfl (by decide) rfl rfl ?_; refine ar_goto (k := 75) rfl ?_; refine ar_sub (l2 := [(4, vi ((j + 1 : Nat) : Int)), (3, vi (max (bAnd (bShr e (j : Int)) 1 + bAnd (bShr e (s (94 + (j : Int)))) 1) (rCnt e - (bAnd (bShr e (j : Int)) 1 + bAnd (bShr e (s (94 + (j : Int)))) 1)))), (2, vi ((j : Int))), (1, vi e), (0, vr (some 69))]) (tw_s (tw_e 0 rfl (by omega)) (tw_s (tw_e 1 rfl (by omega)) (tw_s (tw_g 2 rfl) (tw_s (tw_g 7 rfl) (tw_s (tw_g 8 rfl) tw_s0))))) ?_; rw [show rTryN s e (k + 1) j b m = rTryN s e k (j + 1) j (max (bAnd (bShr e (j : Int)) 1 + bAnd (bShr e (s (94 + (j : Int)))) 1) (rCnt e - (bAnd (bShr e (j : Int)) 1 + bAnd (bShr e (s (94 + (j : Int)))) 1))) by rw [rTryN, if_pos (by omega)]]; exact ih (j + 1) _ _ (by omega) (by omega) (by omega))
                    | (refine ar_iinc (k := 74) (l2 := [(4, _), (3, _), (2, _), (8, _), (7, _), (6, _), (5, _), (1, _), (0, _)]) rfl (by decide) rfl rfl ?_; refine ar_goto (k := 75) rfl ?_; refine ar_sub (l2 := [(4, vi ((j + 1 : Nat) : Int)), (3, vi (m)), (2, vi (b)), (1, vi e), (0, vr (some 69))]) (tw_s (tw_e 0 rfl (by omega)) (tw_s (tw_g 1 rfl) (tw_s (tw_g 2 rfl) (tw_s (tw_g 7 rfl) (tw_s (tw_g 8 rfl) tw_s0))))) ?_; rw [show rTryN s e (k + 1) j b m = rTryN s e k (j + 1) b m by rw [rTryN, if_neg (by omega)]]; exact ih (j + 1) _ _ (by omega) (by omega) (by omega))
              · refine ar_iload (k := 64) rfl rfl ?_
                refine ar_goto (k := 65) rfl ?_
                refine ar_istoren (k := 67) (l2 := [(2, _), (8, _), (7, _), (6, _), (5, _), (4, _), (3, _), (1, _), (0, _)]) rfl (by decide) rfl ?_
                refine ar_iload (k := 68) rfl rfl ?_
                refine ar_if_eq (k := 69) rfl (by omega) (fun c69 => ?_) (fun c69 => ?_)
                · refine ar_iloadn (k := 72) rfl rfl ?_
                  refine ar_istoren (k := 73) (l2 := [(3, _), (2, _), (8, _), (7, _), (6, _), (5, _), (4, _), (1, _), (0, _)]) rfl (by decide) rfl ?_
                  first
                    | (exfalso; omega)
                    | (refine ar_iinc (k := 74) (l2 := [(4, _), (3, _), (2, _), (8, _), (7, _), (6, _), (5, _), (1, _), (0, _)]) rfl (by decide) rfl rfl ?_; refine ar_goto (k := 75) rfl ?_; refine ar_sub (l2 := [(4, vi ((j + 1 : Nat) : Int)), (3, vi (max (bAnd (bShr e (j : Int)) 1 + bAnd (bShr e (s (94 + (j : Int)))) 1) (rCnt e - (bAnd (bShr e (j : Int)) 1 + bAnd (bShr e (s (94 + (j : Int)))) 1)))), (2, vi ((j : Int))), (1, vi e), (0, vr (some 69))]) (tw_s (tw_e 0 rfl (by omega)) (tw_s (tw_e 1 rfl (by omega)) (tw_s (tw_g 2 rfl) (tw_s (tw_g 7 rfl) (tw_s (tw_g 8 rfl) tw_s0))))) ?_; rw [show rTryN s e (k + 1) j b m = rTryN s e k (j + 1) j (max (bAnd (bShr e (j : Int)) 1 + bAnd (bShr e (s (94 + (j : Int)))) 1) (rCnt e - (bAnd (bShr e (j : Int)) 1 + bAnd (bShr e (s (94 + (j : Int)))) 1))) by rw [rTryN, if_pos (by omega)]]; exact ih (j + 1) _ _ (by omega) (by omega) (by omega))
                    | (refine ar_iinc (k := 74) (l2 := [(4, _), (3, _), (2, _), (8, _), (7, _), (6, _), (5, _), (1, _), (0, _)]) rfl (by decide) rfl rfl ?_; refine ar_goto (k := 75) rfl ?_; refine ar_sub (l2 := [(4, vi ((j + 1 : Nat) : Int)), (3, vi (m)), (2, vi (b)), (1, vi e), (0, vr (some 69))]) (tw_s (tw_e 0 rfl (by omega)) (tw_s (tw_g 1 rfl) (tw_s (tw_g 2 rfl) (tw_s (tw_g 7 rfl) (tw_s (tw_g 8 rfl) tw_s0))))) ?_; rw [show rTryN s e (k + 1) j b m = rTryN s e k (j + 1) b m by rw [rTryN, if_neg (by omega)]]; exact ih (j + 1) _ _ (by omega) (by omega) (by omega))
                · refine ar_iload (k := 70) rfl rfl ?_
                  refine ar_goto (k := 71) rfl ?_
                  refine ar_istoren (k := 73) (l2 := [(3, _), (2, _), (8, _), (7, _), (6, _), (5, _), (4, _), (1, _), (0, _)]) rfl (by decide) rfl ?_
                  first
                    | (exfalso; omega)
                    | (refine ar_iinc (k := 74) (l2 := [(4, _), (3, _), (2, _), (8, _), (7, _), (6, _), (5, _), (1, _), (0, _)]) rfl (by decide) rfl rfl ?_; refine ar_goto (k := 75) rfl ?_; refine ar_sub (l2 := [(4, vi ((j + 1 : Nat) : Int)), (3, vi (max (bAnd (bShr e (j : Int)) 1 + bAnd (bShr e (s (94 + (j : Int)))) 1) (rCnt e - (bAnd (bShr e (j : Int)) 1 + bAnd (bShr e (s (94 + (j : Int)))) 1)))), (2, vi ((j : Int))), (1, vi e), (0, vr (some 69))]) (tw_s (tw_e 0 rfl (by omega)) (tw_s (tw_e 1 rfl (by omega)) (tw_s (tw_g 2 rfl) (tw_s (tw_g 7 rfl) (tw_s (tw_g 8 rfl) tw_s0))))) ?_; rw [show rTryN s e (k + 1) j b m = rTryN s e k (j + 1) j (max (bAnd (bShr e (j : Int)) 1 + bAnd (bShr e (s (94 + (j : Int)))) 1) (rCnt e - (bAnd (bShr e (j : Int)) 1 + bAnd (bShr e (s (94 + (j : Int)))) 1))) by rw [rTryN, if_pos (by omega)]]; exact ih (j + 1) _ _ (by omega) (by omega) (by omega))
                    | (refine ar_iinc (k := 74) (l2 := [(4, _), (3, _), (2, _), (8, _), (7, _), (6, _), (5, _), (1, _), (0, _)]) rfl (by decide) rfl rfl ?_; refine ar_goto (k := 75) rfl ?_; refine ar_sub (l2 := [(4, vi ((j + 1 : Nat) : Int)), (3, vi (m)), (2, vi (b)), (1, vi e), (0, vr (some 69))]) (tw_s (tw_e 0 rfl (by omega)) (tw_s (tw_g 1 rfl) (tw_s (tw_g 2 rfl) (tw_s (tw_g 7 rfl) (tw_s (tw_g 8 rfl) tw_s0))))) ?_; rw [show rTryN s e (k + 1) j b m = rTryN s e k (j + 1) b m by rw [rTryN, if_neg (by omega)]]; exact ih (j + 1) _ _ (by omega) (by omega) (by omega))
            · refine ar_iconst (k := 58) rfl ?_
              refine ar_goto (k := 59) rfl ?_
              refine ar_istore (k := 61) (l2 := [(8, _), (7, _), (6, _), (5, _), (4, _), (3, _), (2, _), (1, _), (0, _)]) rfl (by decide) rfl ?_
              refine ar_iload (k := 62) rfl rfl ?_
              refine ar_if_eq (k := 63) rfl (by omega) (fun c63 => ?_) (fun c63 => ?_)
              · refine ar_iloadn (k := 66) rfl rfl ?_
                refine ar_istoren (k := 67) (l2 := [(2, _), (8, _), (7, _), (6, _), (5, _), (4, _), (3, _), (1, _), (0, _)]) rfl (by decide) rfl ?_
                refine ar_iload (k := 68) rfl rfl ?_
                refine ar_if_eq (k := 69) rfl (by omega) (fun c69 => ?_) (fun c69 => ?_)
                · refine ar_iloadn (k := 72) rfl rfl ?_
                  refine ar_istoren (k := 73) (l2 := [(3, _), (2, _), (8, _), (7, _), (6, _), (5, _), (4, _), (1, _), (0, _)]) rfl (by decide) rfl ?_
                  first
                    | (exfalso; omega)
                    | (refine ar_iinc (k := 74) (l2 := [(4, _), (3, _), (2, _), (8, _), (7, _), (6, _), (5, _), (1, _), (0, _)]) rfl (by decide) rfl rfl ?_; refine ar_goto (k := 75) rfl ?_; refine ar_sub (l2 := [(4, vi ((j + 1 : Nat) : Int)), (3, vi (max (bAnd (bShr e (j : Int)) 1 + bAnd (bShr e (s (94 + (j : Int)))) 1) (rCnt e - (bAnd (bShr e (j : Int)) 1 + bAnd (bShr e (s (94 + (j : Int)))) 1)))), (2, vi ((j : Int))), (1, vi e), (0, vr (some 69))]) (tw_s (tw_e 0 rfl (by omega)) (tw_s (tw_e 1 rfl (by omega)) (tw_s (tw_g 2 rfl) (tw_s (tw_g 7 rfl) (tw_s (tw_g 8 rfl) tw_s0))))) ?_; rw [show rTryN s e (k + 1) j b m = rTryN s e k (j + 1) j (max (bAnd (bShr e (j : Int)) 1 + bAnd (bShr e (s (94 + (j : Int)))) 1) (rCnt e - (bAnd (bShr e (j : Int)) 1 + bAnd (bShr e (s (94 + (j : Int)))) 1))) by rw [rTryN, if_pos (by omega)]]; exact ih (j + 1) _ _ (by omega) (by omega) (by omega))
                    | (refine ar_iinc (k := 74) (l2 := [(4, _), (3, _), (2, _), (8, _), (7, _), (6, _), (5, _), (1, _), (0, _)]) rfl (by decide) rfl rfl ?_; refine ar_goto (k := 75) rfl ?_; refine ar_sub (l2 := [(4, vi ((j + 1 : Nat) : Int)), (3, vi (m)), (2, vi (b)), (1, vi e), (0, vr (some 69))]) (tw_s (tw_e 0 rfl (by omega)) (tw_s (tw_g 1 rfl) (tw_s (tw_g 2 rfl) (tw_s (tw_g 7 rfl) (tw_s (tw_g 8 rfl) tw_s0))))) ?_; rw [show rTryN s e (k + 1) j b m = rTryN s e k (j + 1) b m by rw [rTryN, if_neg (by omega)]]; exact ih (j + 1) _ _ (by omega) (by omega) (by omega))
                · refine ar_iload (k := 70) rfl rfl ?_
                  refine ar_goto (k := 71) rfl ?_
                  refine ar_istoren (k := 73) (l2 := [(3, _), (2, _), (8, _), (7, _), (6, _), (5, _), (4, _), (1, _), (0, _)]) rfl (by decide) rfl ?_
                  first
                    | (exfalso; omega)
                    | (refine ar_iinc (k := 74) (l2 := [(4, _), (3, _), (2, _), (8, _), (7, _), (6, _), (5, _), (1, _), (0, _)]) rfl (by decide) rfl rfl ?_; refine ar_goto (k := 75) rfl ?_; refine ar_sub (l2 := [(4, vi ((j + 1 : Nat) : Int)), (3, vi (max (bAnd (bShr e (j : Int)) 1 + bAnd (bShr e (s (94 + (j : Int)))) 1) (rCnt e - (bAnd (bShr e (j : Int)) 1 + bAnd (bShr e (s (94 + (j : Int)))) 1)))), (2, vi ((j : Int))), (1, vi e), (0, vr (some 69))]) (tw_s (tw_e 0 rfl (by omega)) (tw_s (tw_e 1 rfl (by omega)) (tw_s (tw_g 2 rfl) (tw_s (tw_g 7 rfl) (tw_s (tw_g 8 rfl) tw_s0))))) ?_; rw [show rTryN s e (k + 1) j b m = rTryN s e k (j + 1) j (max (bAnd (bShr e (j : Int)) 1 + bAnd (bShr e (s (94 + (j : Int)))) 1) (rCnt e - (bAnd (bShr e (j : Int)) 1 + bAnd (bShr e (s (94 + (j : Int)))) 1))) by rw [rTryN, if_pos (by omega)]]; exact ih (j + 1) _ _ (by omega) (by omega) (by omega))
                    | (refine ar_iinc (k := 74) (l2 := [(4, _), (3, _), (2, _), (8, _), (7, _), (6, _), (5, _), (1, _), (0, _)]) rfl (by decide) rfl rfl ?_; refine ar_goto (k := 75) rfl ?_; refine ar_sub (l2 := [(4, vi ((j + 1 : Nat) : Int)), (3, vi (m)), (2, vi (b)), (1, vi e), (0, vr (some 69))]) (tw_s (tw_e 0 rfl (by omega)) (tw_s (tw_g 1 rfl) (tw_s (tw_g 2 rfl) (tw_s (tw_g 7 rfl) (tw_s (tw_g 8 rfl) tw_s0))))) ?_; rw [show rTryN s e (k + 1) j b m = rTryN s e k (j + 1) b m by rw [rTryN, if_neg (by omega)]]; exact ih (j + 1) _ _ (by omega) (by omega) (by omega))
              · refine ar_iload (k := 64) rfl rfl ?_
                refine ar_goto (k := 65) rfl ?_
                refine ar_istoren (k := 67) (l2 := [(2, _), (8, _), (7, _), (6, _), (5, _), (4, _), (3, _), (1, _), (0, _)]) rfl (by decide) rfl ?_
                refine ar_iload (k := 68) rfl rfl ?_
                refine ar_if_eq (k := 69) rfl (by omega) (fun c69 => ?_) (fun c69 => ?_)
                · refine ar_iloadn (k := 72) rfl rfl ?_
                  refine ar_istoren (k := 73) (l2 := [(3, _), (2, _), (8, _), (7, _), (6, _), (5, _), (4, _), (1, _), (0, _)]) rfl (by decide) rfl ?_
                  first
                    | (exfalso; omega)
                    | (refine ar_iinc (k := 74) (l2 := [(4, _), (3, _), (2, _), (8, _), (7, _), (6, _), (5, _), (1, _), (0, _)]) rfl (by decide) rfl rfl ?_; refine ar_goto (k := 75) rfl ?_; refine ar_sub (l2 := [(4, vi ((j + 1 : Nat) : Int)), (3, vi (max (bAnd (bShr e (j : Int)) 1 + bAnd (bShr e (s (94 + (j : Int)))) 1) (rCnt e - (bAnd (bShr e (j : Int)) 1 + bAnd (bShr e (s (94 + (j : Int)))) 1)))), (2, vi ((j : Int))), (1, vi e), (0, vr (some 69))]) (tw_s (tw_e 0 rfl (by omega)) (tw_s (tw_e 1 rfl (by omega)) (tw_s (tw_g 2 rfl) (tw_s (tw_g 7 rfl) (tw_s (tw_g 8 rfl) tw_s0))))) ?_; rw [show rTryN s e (k + 1) j b m = rTryN s e k (j + 1) j (max (bAnd (bShr e (j : Int)) 1 + bAnd (bShr e (s (94 + (j : Int)))) 1) (rCnt e - (bAnd (bShr e (j : Int)) 1 + bAnd (bShr e (s (94 + (j : Int)))) 1))) by rw [rTryN, if_pos (by omega)]]; exact ih (j + 1) _ _ (by omega) (by omega) (by omega))
                    | (refine ar_iinc (k := 74) (l2 := [(4, _), (3, _), (2, _), (8, _), (7, _), (6, _), (5, _), (1, _), (0, _)]) rfl (by decide) rfl rfl ?_; refine ar_goto (k := 75) rfl ?_; refine ar_sub (l2 := [(4, vi ((j + 1 : Nat) : Int)), (3, vi (m)), (2, vi (b)), (1, vi e), (0, vr (some 69))]) (tw_s (tw_e 0 rfl (by omega)) (tw_s (tw_g 1 rfl) (tw_s (tw_g 2 rfl) (tw_s (tw_g 7 rfl) (tw_s (tw_g 8 rfl) tw_s0))))) ?_; rw [show rTryN s e (k + 1) j b m = rTryN s e k (j + 1) b m by rw [rTryN, if_neg (by omega)]]; exact ih (j + 1) _ _ (by omega) (by omega) (by omega))
                · refine ar_iload (k := 70) rfl rfl ?_
                  refine ar_goto (k := 71) rfl ?_
                  refine ar_istoren (k := 73) (l2 := [(3, _), (2, _), (8, _), (7, _), (6, _), (5, _), (4, _), (1, _), (0, _)]) rfl (by decide) rfl ?_
                  first
                    | (exfalso; omega)
                    | (refine ar_iinc (k := 74) (l2 := [(4, _), (3, _), (2, _), (8, _), (7, _), (6, _), (5, _), (1, _), (0, _)]) rfl (by decide) rfl rfl ?_; refine ar_goto (k := 75) rfl ?_; refine ar_sub (l2 := [(4, vi ((j + 1 : Nat) : Int)), (3, vi (max (bAnd (bShr e (j : Int)) 1 + bAnd (bShr e (s (94 + (j : Int)))) 1) (rCnt e - (bAnd (bShr e (j : Int)) 1 + bAnd (bShr e (s (94 + (j : Int)))) 1)))), (2, vi ((j : Int))), (1, vi e), (0, vr (some 69))]) (tw_s (tw_e 0 rfl (by omega)) (tw_s (tw_e 1 rfl (by omega)) (tw_s (tw_g 2 rfl) (tw_s (tw_g 7 rfl) (tw_s (tw_g 8 rfl) tw_s0))))) ?_; rw [show rTryN s e (k + 1) j b m = rTryN s e k (j + 1) j (max (bAnd (bShr e (j : Int)) 1 + bAnd (bShr e (s (94 + (j : Int)))) 1) (rCnt e - (bAnd (bShr e (j : Int)) 1 + bAnd (bShr e (s (94 + (j : Int)))) 1))) by rw [rTryN, if_pos (by omega)]]; exact ih (j + 1) _ _ (by omega) (by omega) (by omega))
                    | (refine ar_iinc (k := 74) (l2 := [(4, _), (3, _), (2, _), (8, _), (7, _), (6, _), (5, _), (1, _), (0, _)]) rfl (by decide) rfl rfl ?_; refine ar_goto (k := 75) rfl ?_; refine ar_sub (l2 := [(4, vi ((j + 1 : Nat) : Int)), (3, vi (m)), (2, vi (b)), (1, vi e), (0, vr (some 69))]) (tw_s (tw_e 0 rfl (by omega)) (tw_s (tw_g 1 rfl) (tw_s (tw_g 2 rfl) (tw_s (tw_g 7 rfl) (tw_s (tw_g 8 rfl) tw_s0))))) ?_; rw [show rTryN s e (k + 1) j b m = rTryN s e k (j + 1) b m by rw [rTryN, if_neg (by omega)]]; exact ih (j + 1) _ _ (by omega) (by omega) (by omega))
        · refine ar_iload (k := 48) rfl rfl ?_
          refine ar_goto (k := 49) rfl ?_
          refine ar_istore (k := 51) (l2 := [(7, _), (6, _), (5, _), (4, _), (3, _), (2, _), (1, _), (0, _)]) rfl (by decide) rfl ?_
          refine ar_iloadn (k := 52) rfl rfl ?_
          refine ar_bipush (k := 53) rfl (by decide) ?_
          refine ar_icmp_eq (k := 54) rfl (by omega) (by omega) (fun c54 => ?_) (fun c54 => ?_)
          · refine ar_iconst (k := 58) rfl ?_
            refine ar_goto (k := 59) rfl ?_
            refine ar_istore (k := 61) (l2 := [(8, _), (7, _), (6, _), (5, _), (4, _), (3, _), (2, _), (1, _), (0, _)]) rfl (by decide) rfl ?_
            refine ar_iload (k := 62) rfl rfl ?_
            refine ar_if_eq (k := 63) rfl (by omega) (fun c63 => ?_) (fun c63 => ?_)
            · refine ar_iloadn (k := 66) rfl rfl ?_
              refine ar_istoren (k := 67) (l2 := [(2, _), (8, _), (7, _), (6, _), (5, _), (4, _), (3, _), (1, _), (0, _)]) rfl (by decide) rfl ?_
              refine ar_iload (k := 68) rfl rfl ?_
              refine ar_if_eq (k := 69) rfl (by omega) (fun c69 => ?_) (fun c69 => ?_)
              · refine ar_iloadn (k := 72) rfl rfl ?_
                refine ar_istoren (k := 73) (l2 := [(3, _), (2, _), (8, _), (7, _), (6, _), (5, _), (4, _), (1, _), (0, _)]) rfl (by decide) rfl ?_
                first
                  | (exfalso; omega)
                  | (refine ar_iinc (k := 74) (l2 := [(4, _), (3, _), (2, _), (8, _), (7, _), (6, _), (5, _), (1, _), (0, _)]) rfl (by decide) rfl rfl ?_; refine ar_goto (k := 75) rfl ?_; refine ar_sub (l2 := [(4, vi ((j + 1 : Nat) : Int)), (3, vi (max (bAnd (bShr e (j : Int)) 1 + bAnd (bShr e (s (94 + (j : Int)))) 1) (rCnt e - (bAnd (bShr e (j : Int)) 1 + bAnd (bShr e (s (94 + (j : Int)))) 1)))), (2, vi ((j : Int))), (1, vi e), (0, vr (some 69))]) (tw_s (tw_e 0 rfl (by omega)) (tw_s (tw_e 1 rfl (by omega)) (tw_s (tw_g 2 rfl) (tw_s (tw_g 7 rfl) (tw_s (tw_g 8 rfl) tw_s0))))) ?_; rw [show rTryN s e (k + 1) j b m = rTryN s e k (j + 1) j (max (bAnd (bShr e (j : Int)) 1 + bAnd (bShr e (s (94 + (j : Int)))) 1) (rCnt e - (bAnd (bShr e (j : Int)) 1 + bAnd (bShr e (s (94 + (j : Int)))) 1))) by rw [rTryN, if_pos (by omega)]]; exact ih (j + 1) _ _ (by omega) (by omega) (by omega))
                  | (refine ar_iinc (k := 74) (l2 := [(4, _), (3, _), (2, _), (8, _), (7, _), (6, _), (5, _), (1, _), (0, _)]) rfl (by decide) rfl rfl ?_; refine ar_goto (k := 75) rfl ?_; refine ar_sub (l2 := [(4, vi ((j + 1 : Nat) : Int)), (3, vi (m)), (2, vi (b)), (1, vi e), (0, vr (some 69))]) (tw_s (tw_e 0 rfl (by omega)) (tw_s (tw_g 1 rfl) (tw_s (tw_g 2 rfl) (tw_s (tw_g 7 rfl) (tw_s (tw_g 8 rfl) tw_s0))))) ?_; rw [show rTryN s e (k + 1) j b m = rTryN s e k (j + 1) b m by rw [rTryN, if_neg (by omega)]]; exact ih (j + 1) _ _ (by omega) (by omega) (by omega))
              · refine ar_iload (k := 70) rfl rfl ?_
                refine ar_goto (k := 71) rfl ?_
                refine ar_istoren (k := 73) (l2 := [(3, _), (2, _), (8, _), (7, _), (6, _), (5, _), (4, _), (1, _), (0, _)]) rfl (by decide) rfl ?_
                first
                  | (exfalso; omega)
                  | (refine ar_iinc (k := 74) (l2 := [(4, _), (3, _), (2, _), (8, _), (7, _), (6, _), (5, _), (1, _), (0, _)]) rfl (by decide) rfl rfl ?_; refine ar_goto (k := 75) rfl ?_; refine ar_sub (l2 := [(4, vi ((j + 1 : Nat) : Int)), (3, vi (max (bAnd (bShr e (j : Int)) 1 + bAnd (bShr e (s (94 + (j : Int)))) 1) (rCnt e - (bAnd (bShr e (j : Int)) 1 + bAnd (bShr e (s (94 + (j : Int)))) 1)))), (2, vi ((j : Int))), (1, vi e), (0, vr (some 69))]) (tw_s (tw_e 0 rfl (by omega)) (tw_s (tw_e 1 rfl (by omega)) (tw_s (tw_g 2 rfl) (tw_s (tw_g 7 rfl) (tw_s (tw_g 8 rfl) tw_s0))))) ?_; rw [show rTryN s e (k + 1) j b m = rTryN s e k (j + 1) j (max (bAnd (bShr e (j : Int)) 1 + bAnd (bShr e (s (94 + (j : Int)))) 1) (rCnt e - (bAnd (bShr e (j : Int)) 1 + bAnd (bShr e (s (94 + (j : Int)))) 1))) by rw [rTryN, if_pos (by omega)]]; exact ih (j + 1) _ _ (by omega) (by omega) (by omega))
                  | (refine ar_iinc (k := 74) (l2 := [(4, _), (3, _), (2, _), (8, _), (7, _), (6, _), (5, _), (1, _), (0, _)]) rfl (by decide) rfl rfl ?_; refine ar_goto (k := 75) rfl ?_; refine ar_sub (l2 := [(4, vi ((j + 1 : Nat) : Int)), (3, vi (m)), (2, vi (b)), (1, vi e), (0, vr (some 69))]) (tw_s (tw_e 0 rfl (by omega)) (tw_s (tw_g 1 rfl) (tw_s (tw_g 2 rfl) (tw_s (tw_g 7 rfl) (tw_s (tw_g 8 rfl) tw_s0))))) ?_; rw [show rTryN s e (k + 1) j b m = rTryN s e k (j + 1) b m by rw [rTryN, if_neg (by omega)]]; exact ih (j + 1) _ _ (by omega) (by omega) (by omega))
            · refine ar_iload (k := 64) rfl rfl ?_
              refine ar_goto (k := 65) rfl ?_
              refine ar_istoren (k := 67) (l2 := [(2, _), (8, _), (7, _), (6, _), (5, _), (4, _), (3, _), (1, _), (0, _)]) rfl (by decide) rfl ?_
              refine ar_iload (k := 68) rfl rfl ?_
              refine ar_if_eq (k := 69) rfl (by omega) (fun c69 => ?_) (fun c69 => ?_)
              · refine ar_iloadn (k := 72) rfl rfl ?_
                refine ar_istoren (k := 73) (l2 := [(3, _), (2, _), (8, _), (7, _), (6, _), (5, _), (4, _), (1, _), (0, _)]) rfl (by decide) rfl ?_
                first
                  | (exfalso; omega)
                  | (refine ar_iinc (k := 74) (l2 := [(4, _), (3, _), (2, _), (8, _), (7, _), (6, _), (5, _), (1, _), (0, _)]) rfl (by decide) rfl rfl ?_; refine ar_goto (k := 75) rfl ?_; refine ar_sub (l2 := [(4, vi ((j + 1 : Nat) : Int)), (3, vi (max (bAnd (bShr e (j : Int)) 1 + bAnd (bShr e (s (94 + (j : Int)))) 1) (rCnt e - (bAnd (bShr e (j : Int)) 1 + bAnd (bShr e (s (94 + (j : Int)))) 1)))), (2, vi ((j : Int))), (1, vi e), (0, vr (some 69))]) (tw_s (tw_e 0 rfl (by omega)) (tw_s (tw_e 1 rfl (by omega)) (tw_s (tw_g 2 rfl) (tw_s (tw_g 7 rfl) (tw_s (tw_g 8 rfl) tw_s0))))) ?_; rw [show rTryN s e (k + 1) j b m = rTryN s e k (j + 1) j (max (bAnd (bShr e (j : Int)) 1 + bAnd (bShr e (s (94 + (j : Int)))) 1) (rCnt e - (bAnd (bShr e (j : Int)) 1 + bAnd (bShr e (s (94 + (j : Int)))) 1))) by rw [rTryN, if_pos (by omega)]]; exact ih (j + 1) _ _ (by omega) (by omega) (by omega))
                  | (refine ar_iinc (k := 74) (l2 := [(4, _), (3, _), (2, _), (8, _), (7, _), (6, _), (5, _), (1, _), (0, _)]) rfl (by decide) rfl rfl ?_; refine ar_goto (k := 75) rfl ?_; refine ar_sub (l2 := [(4, vi ((j + 1 : Nat) : Int)), (3, vi (m)), (2, vi (b)), (1, vi e), (0, vr (some 69))]) (tw_s (tw_e 0 rfl (by omega)) (tw_s (tw_g 1 rfl) (tw_s (tw_g 2 rfl) (tw_s (tw_g 7 rfl) (tw_s (tw_g 8 rfl) tw_s0))))) ?_; rw [show rTryN s e (k + 1) j b m = rTryN s e k (j + 1) b m by rw [rTryN, if_neg (by omega)]]; exact ih (j + 1) _ _ (by omega) (by omega) (by omega))
              · refine ar_iload (k := 70) rfl rfl ?_
                refine ar_goto (k := 71) rfl ?_
                refine ar_istoren (k := 73) (l2 := [(3, _), (2, _), (8, _), (7, _), (6, _), (5, _), (4, _), (1, _), (0, _)]) rfl (by decide) rfl ?_
                first
                  | (exfalso; omega)
                  | (refine ar_iinc (k := 74) (l2 := [(4, _), (3, _), (2, _), (8, _), (7, _), (6, _), (5, _), (1, _), (0, _)]) rfl (by decide) rfl rfl ?_; refine ar_goto (k := 75) rfl ?_; refine ar_sub (l2 := [(4, vi ((j + 1 : Nat) : Int)), (3, vi (max (bAnd (bShr e (j : Int)) 1 + bAnd (bShr e (s (94 + (j : Int)))) 1) (rCnt e - (bAnd (bShr e (j : Int)) 1 + bAnd (bShr e (s (94 + (j : Int)))) 1)))), (2, vi ((j : Int))), (1, vi e), (0, vr (some 69))]) (tw_s (tw_e 0 rfl (by omega)) (tw_s (tw_e 1 rfl (by omega)) (tw_s (tw_g 2 rfl) (tw_s (tw_g 7 rfl) (tw_s (tw_g 8 rfl) tw_s0))))) ?_; rw [show rTryN s e (k + 1) j b m = rTryN s e k (j + 1) j (max (bAnd (bShr e (j : Int)) 1 + bAnd (bShr e (s (94 + (j : Int)))) 1) (rCnt e - (bAnd (bShr e (j : Int)) 1 + bAnd (bShr e (s (94 + (j : Int)))) 1))) by rw [rTryN, if_pos (by omega)]]; exact ih (j + 1) _ _ (by omega) (by omega) (by omega))
                  | (refine ar_iinc (k := 74) (l2 := [(4, _), (3, _), (2, _), (8, _), (7, _), (6, _), (5, _), (1, _), (0, _)]) rfl (by decide) rfl rfl ?_; refine ar_goto (k := 75) rfl ?_; refine ar_sub (l2 := [(4, vi ((j + 1 : Nat) : Int)), (3, vi (m)), (2, vi (b)), (1, vi e), (0, vr (some 69))]) (tw_s (tw_e 0 rfl (by omega)) (tw_s (tw_g 1 rfl) (tw_s (tw_g 2 rfl) (tw_s (tw_g 7 rfl) (tw_s (tw_g 8 rfl) tw_s0))))) ?_; rw [show rTryN s e (k + 1) j b m = rTryN s e k (j + 1) b m by rw [rTryN, if_neg (by omega)]]; exact ih (j + 1) _ _ (by omega) (by omega) (by omega))
          · refine ar_iload (k := 55) rfl rfl ?_
            refine ar_iloadn (k := 56) rfl rfl ?_
            refine ar_icmp_ge (k := 57) rfl (by omega) (by omega) (fun c57 => ?_) (fun c57 => ?_)
            · refine ar_iconst (k := 60) rfl ?_
              refine ar_istore (k := 61) (l2 := [(8, _), (7, _), (6, _), (5, _), (4, _), (3, _), (2, _), (1, _), (0, _)]) rfl (by decide) rfl ?_
              refine ar_iload (k := 62) rfl rfl ?_
              refine ar_if_eq (k := 63) rfl (by omega) (fun c63 => ?_) (fun c63 => ?_)
              · refine ar_iloadn (k := 66) rfl rfl ?_
                refine ar_istoren (k := 67) (l2 := [(2, _), (8, _), (7, _), (6, _), (5, _), (4, _), (3, _), (1, _), (0, _)]) rfl (by decide) rfl ?_
                refine ar_iload (k := 68) rfl rfl ?_
                refine ar_if_eq (k := 69) rfl (by omega) (fun c69 => ?_) (fun c69 => ?_)
                · refine ar_iloadn (k := 72) rfl rfl ?_
                  refine ar_istoren (k := 73) (l2 := [(3, _), (2, _), (8, _), (7, _), (6, _), (5, _), (4, _), (1, _), (0, _)]) rfl (by decide) rfl ?_
                  first
                    | (exfalso; omega)
                    | (refine ar_iinc (k := 74) (l2 := [(4, _), (3, _), (2, _), (8, _), (7, _), (6, _), (5, _), (1, _), (0, _)]) rfl (by decide) rfl rfl ?_; refine ar_goto (k := 75) rfl ?_; refine ar_sub (l2 := [(4, vi ((j + 1 : Nat) : Int)), (3, vi (max (bAnd (bShr e (j : Int)) 1 + bAnd (bShr e (s (94 + (j : Int)))) 1) (rCnt e - (bAnd (bShr e (j : Int)) 1 + bAnd (bShr e (s (94 + (j : Int)))) 1)))), (2, vi ((j : Int))), (1, vi e), (0, vr (some 69))]) (tw_s (tw_e 0 rfl (by omega)) (tw_s (tw_e 1 rfl (by omega)) (tw_s (tw_g 2 rfl) (tw_s (tw_g 7 rfl) (tw_s (tw_g 8 rfl) tw_s0))))) ?_; rw [show rTryN s e (k + 1) j b m = rTryN s e k (j + 1) j (max (bAnd (bShr e (j : Int)) 1 + bAnd (bShr e (s (94 + (j : Int)))) 1) (rCnt e - (bAnd (bShr e (j : Int)) 1 + bAnd (bShr e (s (94 + (j : Int)))) 1))) by rw [rTryN, if_pos (by omega)]]; exact ih (j + 1) _ _ (by omega) (by omega) (by omega))
                    | (refine ar_iinc (k := 74) (l2 := [(4, _), (3, _), (2, _), (8, _), (7, _), (6, _), (5, _), (1, _), (0, _)]) rfl (by decide) rfl rfl ?_; refine ar_goto (k := 75) rfl ?_; refine ar_sub (l2 := [(4, vi ((j + 1 : Nat) : Int)), (3, vi (m)), (2, vi (b)), (1, vi e), (0, vr (some 69))]) (tw_s (tw_e 0 rfl (by omega)) (tw_s (tw_g 1 rfl) (tw_s (tw_g 2 rfl) (tw_s (tw_g 7 rfl) (tw_s (tw_g 8 rfl) tw_s0))))) ?_; rw [show rTryN s e (k + 1) j b m = rTryN s e k (j + 1) b m by rw [rTryN, if_neg (by omega)]]; exact ih (j + 1) _ _ (by omega) (by omega) (by omega))
                · refine ar_iload (k := 70) rfl rfl ?_
                  refine ar_goto (k := 71) rfl ?_
                  refine ar_istoren (k := 73) (l2 := [(3, _), (2, _), (8, _), (7, _), (6, _), (5, _), (4, _), (1, _), (0, _)]) rfl (by decide) rfl ?_
                  first
                    | (exfalso; omega)
                    | (refine ar_iinc (k := 74) (l2 := [(4, _), (3, _), (2, _), (8, _), (7, _), (6, _), (5, _), (1, _), (0, _)]) rfl (by decide) rfl rfl ?_; refine ar_goto (k := 75) rfl ?_; refine ar_sub (l2 := [(4, vi ((j + 1 : Nat) : Int)), (3, vi (max (bAnd (bShr e (j : Int)) 1 + bAnd (bShr e (s (94 + (j : Int)))) 1) (rCnt e - (bAnd (bShr e (j : Int)) 1 + bAnd (bShr e (s (94 + (j : Int)))) 1)))), (2, vi ((j : Int))), (1, vi e), (0, vr (some 69))]) (tw_s (tw_e 0 rfl (by omega)) (tw_s (tw_e 1 rfl (by omega)) (tw_s (tw_g 2 rfl) (tw_s (tw_g 7 rfl) (tw_s (tw_g 8 rfl) tw_s0))))) ?_; rw [show rTryN s e (k + 1) j b m = rTryN s e k (j + 1) j (max (bAnd (bShr e (j : Int)) 1 + bAnd (bShr e (s (94 + (j : Int)))) 1) (rCnt e - (bAnd (bShr e (j : Int)) 1 + bAnd (bShr e (s (94 + (j : Int)))) 1))) by rw [rTryN, if_pos (by omega)]]; exact ih (j + 1) _ _ (by omega) (by omega) (by omega))
                    | (refine ar_iinc (k := 74) (l2 := [(4, _), (3, _), (2, _), (8, _), (7, _), (6, _), (5, _), (1, _), (0, _)]) rfl (by decide) rfl rfl ?_; refine ar_goto (k := 75) rfl ?_; refine ar_sub (l2 := [(4, vi ((j + 1 : Nat) : Int)), (3, vi (m)), (2, vi (b)), (1, vi e), (0, vr (some 69))]) (tw_s (tw_e 0 rfl (by omega)) (tw_s (tw_g 1 rfl) (tw_s (tw_g 2 rfl) (tw_s (tw_g 7 rfl) (tw_s (tw_g 8 rfl) tw_s0))))) ?_; rw [show rTryN s e (k + 1) j b m = rTryN s e k (j + 1) b m by rw [rTryN, if_neg (by omega)]]; exact ih (j + 1) _ _ (by omega) (by omega) (by omega))
              · refine ar_iload (k := 64) rfl rfl ?_
                refine ar_goto (k := 65) rfl ?_
                refine ar_istoren (k := 67) (l2 := [(2, _), (8, _), (7, _), (6, _), (5, _), (4, _), (3, _), (1, _), (0, _)]) rfl (by decide) rfl ?_
                refine ar_iload (k := 68) rfl rfl ?_
                refine ar_if_eq (k := 69) rfl (by omega) (fun c69 => ?_) (fun c69 => ?_)
                · refine ar_iloadn (k := 72) rfl rfl ?_
                  refine ar_istoren (k := 73) (l2 := [(3, _), (2, _), (8, _), (7, _), (6, _), (5, _), (4, _), (1, _), (0, _)]) rfl (by decide) rfl ?_
                  first
                    | (exfalso; omega)
                    | (refine ar_iinc (k := 74) (l2 := [(4, _), (3, _), (2, _), (8, _), (7, _), (6, _), (5, _), (1, _), (0, _)]) rfl (by decide) rfl rfl ?_; refine ar_goto (k := 75) rfl ?_; refine ar_sub (l2 := [(4, vi ((j + 1 : Nat) : Int)), (3, vi (max (bAnd (bShr e (j : Int)) 1 + bAnd (bShr e (s (94 + (j : Int)))) 1) (rCnt e - (bAnd (bShr e (j : Int)) 1 + bAnd (bShr e (s (94 + (j : Int)))) 1)))), (2, vi ((j : Int))), (1, vi e), (0, vr (some 69))]) (tw_s (tw_e 0 rfl (by omega)) (tw_s (tw_e 1 rfl (by omega)) (tw_s (tw_g 2 rfl) (tw_s (tw_g 7 rfl) (tw_s (tw_g 8 rfl) tw_s0))))) ?_; rw [show rTryN s e (k + 1) j b m = rTryN s e k (j + 1) j (max (bAnd (bShr e (j : Int)) 1 + bAnd (bShr e (s (94 + (j : Int)))) 1) (rCnt e - (bAnd (bShr e (j : Int)) 1 + bAnd (bShr e (s (94 + (j : Int)))) 1))) by rw [rTryN, if_pos (by omega)]]; exact ih (j + 1) _ _ (by omega) (by omega) (by omega))
                    | (refine ar_iinc (k := 74) (l2 := [(4, _), (3, _), (2, _), (8, _), (7, _), (6, _), (5, _), (1, _), (0, _)]) rfl (by decide) rfl rfl ?_; refine ar_goto (k := 75) rfl ?_; refine ar_sub (l2 := [(4, vi ((j + 1 : Nat) : Int)), (3, vi (m)), (2, vi (b)), (1, vi e), (0, vr (some 69))]) (tw_s (tw_e 0 rfl (by omega)) (tw_s (tw_g 1 rfl) (tw_s (tw_g 2 rfl) (tw_s (tw_g 7 rfl) (tw_s (tw_g 8 rfl) tw_s0))))) ?_; rw [show rTryN s e (k + 1) j b m = rTryN s e k (j + 1) b m by rw [rTryN, if_neg (by omega)]]; exact ih (j + 1) _ _ (by omega) (by omega) (by omega))
                · refine ar_iload (k := 70) rfl rfl ?_
                  refine ar_goto (k := 71) rfl ?_
                  refine ar_istoren (k := 73) (l2 := [(3, _), (2, _), (8, _), (7, _), (6, _), (5, _), (4, _), (1, _), (0, _)]) rfl (by decide) rfl ?_
                  first
                    | (exfalso; omega)
                    | (refine ar_iinc (k := 74) (l2 := [(4, _), (3, _), (2, _), (8, _), (7, _), (6, _), (5, _), (1, _), (0, _)]) rfl (by decide) rfl rfl ?_; refine ar_goto (k := 75) rfl ?_; refine ar_sub (l2 := [(4, vi ((j + 1 : Nat) : Int)), (3, vi (max (bAnd (bShr e (j : Int)) 1 + bAnd (bShr e (s (94 + (j : Int)))) 1) (rCnt e - (bAnd (bShr e (j : Int)) 1 + bAnd (bShr e (s (94 + (j : Int)))) 1)))), (2, vi ((j : Int))), (1, vi e), (0, vr (some 69))]) (tw_s (tw_e 0 rfl (by omega)) (tw_s (tw_e 1 rfl (by omega)) (tw_s (tw_g 2 rfl) (tw_s (tw_g 7 rfl) (tw_s (tw_g 8 rfl) tw_s0))))) ?_; rw [show rTryN s e (k + 1) j b m = rTryN s e k (j + 1) j (max (bAnd (bShr e (j : Int)) 1 + bAnd (bShr e (s (94 + (j : Int)))) 1) (rCnt e - (bAnd (bShr e (j : Int)) 1 + bAnd (bShr e (s (94 + (j : Int)))) 1))) by rw [rTryN, if_pos (by omega)]]; exact ih (j + 1) _ _ (by omega) (by omega) (by omega))
                    | (refine ar_iinc (k := 74) (l2 := [(4, _), (3, _), (2, _), (8, _), (7, _), (6, _), (5, _), (1, _), (0, _)]) rfl (by decide) rfl rfl ?_; refine ar_goto (k := 75) rfl ?_; refine ar_sub (l2 := [(4, vi ((j + 1 : Nat) : Int)), (3, vi (m)), (2, vi (b)), (1, vi e), (0, vr (some 69))]) (tw_s (tw_e 0 rfl (by omega)) (tw_s (tw_g 1 rfl) (tw_s (tw_g 2 rfl) (tw_s (tw_g 7 rfl) (tw_s (tw_g 8 rfl) tw_s0))))) ?_; rw [show rTryN s e (k + 1) j b m = rTryN s e k (j + 1) b m by rw [rTryN, if_neg (by omega)]]; exact ih (j + 1) _ _ (by omega) (by omega) (by omega))
            · refine ar_iconst (k := 58) rfl ?_
              refine ar_goto (k := 59) rfl ?_
              refine ar_istore (k := 61) (l2 := [(8, _), (7, _), (6, _), (5, _), (4, _), (3, _), (2, _), (1, _), (0, _)]) rfl (by decide) rfl ?_
              refine ar_iload (k := 62) rfl rfl ?_
              refine ar_if_eq (k := 63) rfl (by omega) (fun c63 => ?_) (fun c63 => ?_)
              · refine ar_iloadn (k := 66) rfl rfl ?_
                refine ar_istoren (k := 67) (l2 := [(2, _), (8, _), (7, _), (6, _), (5, _), (4, _), (3, _), (1, _), (0, _)]) rfl (by decide) rfl ?_
                refine ar_iload (k := 68) rfl rfl ?_
                refine ar_if_eq (k := 69) rfl (by omega) (fun c69 => ?_) (fun c69 => ?_)
                · refine ar_iloadn (k := 72) rfl rfl ?_
                  refine ar_istoren (k := 73) (l2 := [(3, _), (2, _), (8, _), (7, _), (6, _), (5, _), (4, _), (1, _), (0, _)]) rfl (by decide) rfl ?_
                  first
                    | (exfalso; omega)
                    | (refine ar_iinc (k := 74) (l2 := [(4, _), (3, _), (2, _), (8, _), (7, _), (6, _), (5, _), (1, _), (0, _)]) rfl (by decide) rfl rfl ?_; refine ar_goto (k := 75) rfl ?_; refine ar_sub (l2 := [(4, vi ((j + 1 : Nat) : Int)), (3, vi (max (bAnd (bShr e (j : Int)) 1 + bAnd (bShr e (s (94 + (j : Int)))) 1) (rCnt e - (bAnd (bShr e (j : Int)) 1 + bAnd (bShr e (s (94 + (j : Int)))) 1)))), (2, vi ((j : Int))), (1, vi e), (0, vr (some 69))]) (tw_s (tw_e 0 rfl (by omega)) (tw_s (tw_e 1 rfl (by omega)) (tw_s (tw_g 2 rfl) (tw_s (tw_g 7 rfl) (tw_s (tw_g 8 rfl) tw_s0))))) ?_; rw [show rTryN s e (k + 1) j b m = rTryN s e k (j + 1) j (max (bAnd (bShr e (j : Int)) 1 + bAnd (bShr e (s (94 + (j : Int)))) 1) (rCnt e - (bAnd (bShr e (j : Int)) 1 + bAnd (bShr e (s (94 + (j : Int)))) 1))) by rw [rTryN, if_pos (by omega)]]; exact ih (j + 1) _ _ (by omega) (by omega) (by omega))
                    | (refine ar_iinc (k := 74) (l2 := [(4, _), (3, _), (2, _), (8, _), (7, _), (6, _), (5, _), (1, _), (0, _)]) rfl (by decide) rfl rfl ?_; refine ar_goto (k := 75) rfl ?_; refine ar_sub (l2 := [(4, vi ((j + 1 : Nat) : Int)), (3, vi (m)), (2, vi (b)), (1, vi e), (0, vr (some 69))]) (tw_s (tw_e 0 rfl (by omega)) (tw_s (tw_g 1 rfl) (tw_s (tw_g 2 rfl) (tw_s (tw_g 7 rfl) (tw_s (tw_g 8 rfl) tw_s0))))) ?_; rw [show rTryN s e (k + 1) j b m = rTryN s e k (j + 1) b m by rw [rTryN, if_neg (by omega)]]; exact ih (j + 1) _ _ (by omega) (by omega) (by omega))
                · refine ar_iload (k := 70) rfl rfl ?_
                  refine ar_goto (k := 71) rfl ?_
                  refine ar_istoren (k := 73) (l2 := [(3, _), (2, _), (8, _), (7, _), (6, _), (5, _), (4, _), (1, _), (0, _)]) rfl (by decide) rfl ?_
                  first
                    | (exfalso; omega)
                    | (refine ar_iinc (k := 74) (l2 := [(4, _), (3, _), (2, _), (8, _), (7, _), (6, _), (5, _), (1, _), (0, _)]) rfl (by decide) rfl rfl ?_; refine ar_goto (k := 75) rfl ?_; refine ar_sub (l2 := [(4, vi ((j + 1 : Nat) : Int)), (3, vi (max (bAnd (bShr e (j : Int)) 1 + bAnd (bShr e (s (94 + (j : Int)))) 1) (rCnt e - (bAnd (bShr e (j : Int)) 1 + bAnd (bShr e (s (94 + (j : Int)))) 1)))), (2, vi ((j : Int))), (1, vi e), (0, vr (some 69))]) (tw_s (tw_e 0 rfl (by omega)) (tw_s (tw_e 1 rfl (by omega)) (tw_s (tw_g 2 rfl) (tw_s (tw_g 7 rfl) (tw_s (tw_g 8 rfl) tw_s0))))) ?_; rw [show rTryN s e (k + 1) j b m = rTryN s e k (j + 1) j (max (bAnd (bShr e (j : Int)) 1 + bAnd (bShr e (s (94 + (j : Int)))) 1) (rCnt e - (bAnd (bShr e (j : Int)) 1 + bAnd (bShr e (s (94 + (j : Int)))) 1))) by rw [rTryN, if_pos (by omega)]]; exact ih (j + 1) _ _ (by omega) (by omega) (by omega))
                    | (refine ar_iinc (k := 74) (l2 := [(4, _), (3, _), (2, _), (8, _), (7, _), (6, _), (5, _), (1, _), (0, _)]) rfl (by decide) rfl rfl ?_; refine ar_goto (k := 75) rfl ?_; refine ar_sub (l2 := [(4, vi ((j + 1 : Nat) : Int)), (3, vi (m)), (2, vi (b)), (1, vi e), (0, vr (some 69))]) (tw_s (tw_e 0 rfl (by omega)) (tw_s (tw_g 1 rfl) (tw_s (tw_g 2 rfl) (tw_s (tw_g 7 rfl) (tw_s (tw_g 8 rfl) tw_s0))))) ?_; rw [show rTryN s e (k + 1) j b m = rTryN s e k (j + 1) b m by rw [rTryN, if_neg (by omega)]]; exact ih (j + 1) _ _ (by omega) (by omega) (by omega))
              · refine ar_iload (k := 64) rfl rfl ?_
                refine ar_goto (k := 65) rfl ?_
                refine ar_istoren (k := 67) (l2 := [(2, _), (8, _), (7, _), (6, _), (5, _), (4, _), (3, _), (1, _), (0, _)]) rfl (by decide) rfl ?_
                refine ar_iload (k := 68) rfl rfl ?_
                refine ar_if_eq (k := 69) rfl (by omega) (fun c69 => ?_) (fun c69 => ?_)
                · refine ar_iloadn (k := 72) rfl rfl ?_
                  refine ar_istoren (k := 73) (l2 := [(3, _), (2, _), (8, _), (7, _), (6, _), (5, _), (4, _), (1, _), (0, _)]) rfl (by decide) rfl ?_
                  first
                    | (exfalso; omega)
                    | (refine ar_iinc (k := 74) (l2 := [(4, _), (3, _), (2, _), (8, _), (7, _), (6, _), (5, _), (1, _), (0, _)]) rfl (by decide) rfl rfl ?_; refine ar_goto (k := 75) rfl ?_; refine ar_sub (l2 := [(4, vi ((j + 1 : Nat) : Int)), (3, vi (max (bAnd (bShr e (j : Int)) 1 + bAnd (bShr e (s (94 + (j : Int)))) 1) (rCnt e - (bAnd (bShr e (j : Int)) 1 + bAnd (bShr e (s (94 + (j : Int)))) 1)))), (2, vi ((j : Int))), (1, vi e), (0, vr (some 69))]) (tw_s (tw_e 0 rfl (by omega)) (tw_s (tw_e 1 rfl (by omega)) (tw_s (tw_g 2 rfl) (tw_s (tw_g 7 rfl) (tw_s (tw_g 8 rfl) tw_s0))))) ?_; rw [show rTryN s e (k + 1) j b m = rTryN s e k (j + 1) j (max (bAnd (bShr e (j : Int)) 1 + bAnd (bShr e (s (94 + (j : Int)))) 1) (rCnt e - (bAnd (bShr e (j : Int)) 1 + bAnd (bShr e (s (94 + (j : Int)))) 1))) by rw [rTryN, if_pos (by omega)]]; exact ih (j + 1) _ _ (by omega) (by omega) (by omega))
                    | (refine ar_iinc (k := 74) (l2 := [(4, _), (3, _), (2, _), (8, _), (7, _), (6, _), (5, _), (1, _), (0, _)]) rfl (by decide) rfl rfl ?_; refine ar_goto (k := 75) rfl ?_; refine ar_sub (l2 := [(4, vi ((j + 1 : Nat) : Int)), (3, vi (m)), (2, vi (b)), (1, vi e), (0, vr (some 69))]) (tw_s (tw_e 0 rfl (by omega)) (tw_s (tw_g 1 rfl) (tw_s (tw_g 2 rfl) (tw_s (tw_g 7 rfl) (tw_s (tw_g 8 rfl) tw_s0))))) ?_; rw [show rTryN s e (k + 1) j b m = rTryN s e k (j + 1) b m by rw [rTryN, if_neg (by omega)]]; exact ih (j + 1) _ _ (by omega) (by omega) (by omega))
                · refine ar_iload (k := 70) rfl rfl ?_
                  refine ar_goto (k := 71) rfl ?_
                  refine ar_istoren (k := 73) (l2 := [(3, _), (2, _), (8, _), (7, _), (6, _), (5, _), (4, _), (1, _), (0, _)]) rfl (by decide) rfl ?_
                  first
                    | (exfalso; omega)
                    | (refine ar_iinc (k := 74) (l2 := [(4, _), (3, _), (2, _), (8, _), (7, _), (6, _), (5, _), (1, _), (0, _)]) rfl (by decide) rfl rfl ?_; refine ar_goto (k := 75) rfl ?_; refine ar_sub (l2 := [(4, vi ((j + 1 : Nat) : Int)), (3, vi (max (bAnd (bShr e (j : Int)) 1 + bAnd (bShr e (s (94 + (j : Int)))) 1) (rCnt e - (bAnd (bShr e (j : Int)) 1 + bAnd (bShr e (s (94 + (j : Int)))) 1)))), (2, vi ((j : Int))), (1, vi e), (0, vr (some 69))]) (tw_s (tw_e 0 rfl (by omega)) (tw_s (tw_e 1 rfl (by omega)) (tw_s (tw_g 2 rfl) (tw_s (tw_g 7 rfl) (tw_s (tw_g 8 rfl) tw_s0))))) ?_; rw [show rTryN s e (k + 1) j b m = rTryN s e k (j + 1) j (max (bAnd (bShr e (j : Int)) 1 + bAnd (bShr e (s (94 + (j : Int)))) 1) (rCnt e - (bAnd (bShr e (j : Int)) 1 + bAnd (bShr e (s (94 + (j : Int)))) 1))) by rw [rTryN, if_pos (by omega)]]; exact ih (j + 1) _ _ (by omega) (by omega) (by omega))
                    | (refine ar_iinc (k := 74) (l2 := [(4, _), (3, _), (2, _), (8, _), (7, _), (6, _), (5, _), (1, _), (0, _)]) rfl (by decide) rfl rfl ?_; refine ar_goto (k := 75) rfl ?_; refine ar_sub (l2 := [(4, vi ((j + 1 : Nat) : Int)), (3, vi (m)), (2, vi (b)), (1, vi e), (0, vr (some 69))]) (tw_s (tw_e 0 rfl (by omega)) (tw_s (tw_g 1 rfl) (tw_s (tw_g 2 rfl) (tw_s (tw_g 7 rfl) (tw_s (tw_g 8 rfl) tw_s0))))) ?_; rw [show rTryN s e (k + 1) j b m = rTryN s e k (j + 1) b m by rw [rTryN, if_neg (by omega)]]; exact ih (j + 1) _ _ (by omega) (by omega) (by omega))
theorem c_R_nextTry (hS : tSt (K, I, Q, n)) (hs : I 70 = s) (hR : RInv s) : tw_F l G 3 0 0 mR_nextTry [vr (some 69)] (K, I, Q, n) (some (vi (rTry s))) (K, I, Q, n) := by
  obtain ⟨h0, h1, h2, h3, h4, h5, h6, hp, hrw, ht, hr, hb, htp, hv⟩ := id hR
  refine tw_intro okR_nextTry (Nat.le_of_ble_eq_true rfl) ?_
  refine ar_aloadn (k := 0) rfl rfl ?_
  refine br_callV (k := 1) (as := []) rfl lvR_219 (hS.k (by decide)) rfl (c_R_brokenOnes hS hs hR) rfl (by decide) (by decide) tw_m0 (Nat.le_of_ble_eq_true rfl) ?_
  refine ar_istoren (k := 2) (l2 := [(1, _), (0, _)]) rfl (by decide) rfl ?_
  refine ar_bipush (k := 3) rfl (by decide) ?_
  refine ar_istoren (k := 4) (l2 := [(2, _), (1, _), (0, _)]) rfl (by decide) rfl ?_
  refine ar_iconst (k := 5) rfl ?_
  refine ar_istoren (k := 6) (l2 := [(3, _), (2, _), (1, _), (0, _)]) rfl (by decide) rfl ?_
  refine ar_iconst (k := 7) rfl ?_
  refine ar_istore (k := 8) (l2 := [(4, _), (3, _), (2, _), (1, _), (0, _)]) rfl (by decide) rfl ?_
  refine ar_sub (l2 := [(4, vi ((0 : Nat) : Int)), (3, vi 0), (2, vi (-5)), (1, vi (rBrk s)), (0, vr (some 69))]) (tw_s (tw_e 0 rfl (by rfl)) (tw_s (tw_g 1 rfl) (tw_s (tw_g 2 rfl) (tw_s (tw_g 3 rfl) (tw_s (tw_g 4 rfl) tw_s0))))) ?_
  exact l_R_nextTry hS hs hR _ 0 (-5) 0 (by omega) (Or.inl rfl) (by decide)
theorem c_R_find {w : Int} (hS : tSt (K, I, Q, n)) (hs : I 70 = s) (hR : RInv s) (tw : tr w) : tw_F l G 4 0 0 mR_find [vr (some 69), vi w] (K, I, Q, n) (some (vi (if w = 0 then rBrk s else if w = 1 then rTry s else -1))) (K, I, Q, n) := by
  obtain ⟨h0, h1, h2, h3, h4, h5, h6, hp, hrw, ht, hr, hb, htp, hv⟩ := id hR
  refine tw_intro okR_find (Nat.le_of_ble_eq_true rfl) ?_
  refine ar_iloadn (k := 0) rfl rfl ?_
  refine ar_if_ne (k := 1) rfl (by omega) (fun c1 => ?_) (fun c1 => ?_)
  · refine ar_iloadn (k := 5) rfl rfl ?_
    refine ar_iconst (k := 6) rfl ?_
    refine ar_icmp_ne (k := 7) rfl (by omega) (by omega) (fun c7 => ?_) (fun c7 => ?_)
    · refine ar_iconst (k := 11) rfl ?_
      refine ar_iret (k := 12) rfl rfl rfl (Nat.le_refl _) ?_
      exact ⟨congrArg (fun z => some (vi z)) (by omega), rfl⟩
    · refine ar_aloadn (k := 8) rfl rfl ?_
      refine br_callV (k := 9) (as := []) rfl lvR_222 (hS.k (by decide)) rfl (c_R_nextTry hS hs hR) rfl (by decide) (by decide) tw_m0 (Nat.le_of_ble_eq_true rfl) ?_
      refine ar_goto (k := 10) rfl ?_
      refine ar_iret (k := 12) rfl rfl rfl (Nat.le_refl _) ?_
      exact ⟨congrArg (fun z => some (vi z)) (by omega), rfl⟩
  · refine ar_aloadn (k := 2) rfl rfl ?_
    refine br_callV (k := 3) (as := []) rfl lvR_219 (hS.k (by decide)) rfl (c_R_brokenOnes hS hs hR) rfl (by decide) (by decide) tw_m0 (Nat.le_of_ble_eq_true rfl) ?_
    refine ar_goto (k := 4) rfl ?_
    refine ar_iret (k := 12) rfl rfl rfl (Nat.le_refl _) ?_
    exact ⟨congrArg (fun z => some (vi z)) (by omega), rfl⟩
theorem li_R_fits {t : Nat} {a w : Int} (hS : tSt (K, I, Q, n)) (hs : I 70 = s) (hR : RInv s) {P : Option tV → tH → Prop} {F : Int} (w1 : 0 ≤ w ∧ w < 10) (t1 : t < 10) (cont : ∀ (r : Int), tw_AW l G mR_fits 3 0 0 n 0 P 165 [(5, vi r), (4, vi F), (3, vi (t : Int)), (2, vi a), (0, vr (some 69)), (1, vi w)] [] (K, I, Q, n)) : ∀ (k r : Nat) (m : Int), r + k = (s 3).toNat → (m = 0 ∨ m = 1) → rFitN s w t k r m = F → tw_AW l G mR_fits 3 0 0 n 0 P 39 [(5, vi (r : Int)), (4, vi m), (3, vi (t : Int)), (2, vi a), (0, vr (some 69)), (1, vi w)] [] (K, I, Q, n) := by
  obtain ⟨h0, h1, h2, h3, h4, h5, h6, hp, hrw, ht, hr, hb, htp, hv⟩ := id hR
  intro k
  induction k with
  | zero =>
    intro r m hj hm hF
    refine ar_iload (k := 25) rfl rfl ?_
    refine ar_aloadn (k := 26) rfl rfl ?_
    refine br_getR (k := 27) rfl (hS.k (by decide)) flR_9_12 (by decide) rfl (hS.r rfl) ?_
    refine ar_iconst (k := 28) rfl ?_
    refine br_iads (k := 29) rfl (hS.k (by decide)) (by omega) (by omega) (by decide) hs ?_
    refine ar_icmp_ge (k := 30) rfl (by omega) (by omega) (fun c30 => ?_) (fun c30 => ?_)
    · rw [rFitN] at hF
      subst hF
      exact cont _
    · exfalso; omega
  | succ k ih =>
    intro r m hj hm hF
    have hw := hr r (by omega) (by omega)
    refine ar_iload (k := 25) rfl rfl ?_
    refine ar_aloadn (k := 26) rfl rfl ?_
    refine br_getR (k := 27) rfl (hS.k (by decide)) flR_9_12 (by decide) rfl (hS.r rfl) ?_
    refine ar_iconst (k := 28) rfl ?_
    refine br_iads (k := 29) rfl (hS.k (by decide)) (by omega) (by omega) (by decide) hs ?_
    refine ar_icmp_ge (k := 30) rfl (by omega) (by omega) (fun c30 => ?_) (fun c30 => ?_)
    · exfalso; omega
    · refine ar_aloadn (k := 31) rfl rfl ?_
      refine br_getR (k := 32) rfl (hS.k (by decide)) flR_9_12 (by decide) rfl (hS.r rfl) ?_
      refine ar_bipush (k := 33) rfl (by decide) ?_
      refine ar_iload (k := 34) rfl rfl ?_
      refine ar_iadd (k := 35) rfl ?_
      refine br_iads (k := 36) rfl (hS.k (by decide)) (by omega) (by omega) (by decide) hs ?_
      refine ar_iloadn (k := 37) rfl rfl ?_
      refine ar_icmp_ne (k := 38) rfl (by omega) (by omega) (fun c38 => ?_) (fun c38 => ?_)
      · refine ar_aloadn (k := 46) rfl rfl ?_
        refine br_getR (k := 47) rfl (hS.k (by decide)) flR_9_12 (by decide) rfl (hS.r rfl) ?_
        refine ar_bipush (k := 48) rfl (by decide) ?_
        refine ar_iload (k := 49) rfl rfl ?_
        refine ar_iadd (k := 50) rfl ?_
        refine br_iads (k := 51) rfl (hS.k (by decide)) (by omega) (by omega) (by decide) hs ?_
        refine ar_iloadn (k := 52) rfl rfl ?_
        refine ar_icmp_ne (k := 53) rfl (by omega) (by omega) (fun c53 => ?_) (fun c53 => ?_)
        · refine ar_iconst (k := 61) rfl ?_
          refine tw_top (y := rOth s w r) (by unfold rOth; omega) ?_
          have ho : -1 ≤ rOth s w r ∧ rOth s w r < 10 := by unfold rOth; omega
          refine ar_istore (k := 62) (l2 := [(6, _), (5, _), (4, _), (3, _), (2, _), (0, _), (1, _)]) rfl (by decide) rfl ?_
          refine ar_iload (k := 63) rfl rfl ?_
          refine ar_if_eq (k := 64) rfl (by omega) (fun c64 => ?_) (fun c64 => ?_)
          · refine ar_iconst (k := 88) rfl ?_
            refine tw_top (y := if m = 1 ∧ (rOth s w r = -1 ∨ (rOth s w r = t ↔ s (138 + (r : Int)) = 1)) then 1 else 0) (by omega) ?_
            refine ar_istore (k := 89) (l2 := [(4, _), (6, _), (5, _), (3, _), (2, _), (0, _), (1, _)]) rfl (by decide) rfl ?_
            refine ar_iinc (k := 90) (l2 := [(5, _), (4, _), (6, _), (3, _), (2, _), (0, _), (1, _)]) rfl (by decide) rfl rfl ?_
            refine ar_goto (k := 91) rfl ?_
            refine ar_sub (l2 := [(5, vi ((r + 1 : Nat) : Int)), (4, vi (if m = 1 ∧ (rOth s w r = -1 ∨ (rOth s w r = t ↔ s (138 + (r : Int)) = 1)) then 1 else 0)), (3, vi (t : Int)), (2, vi a), (0, vr (some 69)), (1, vi w)]) (tw_s (tw_e 0 rfl (by omega)) (tw_s (tw_g 1 rfl) (tw_s (tw_g 3 rfl) (tw_s (tw_g 4 rfl) (tw_s (tw_g 5 rfl) (tw_s (tw_g 6 rfl) tw_s0)))))) ?_
            exact ih (r + 1) _ (by omega) (by split <;> omega) hF
          · refine ar_iload (k := 65) rfl rfl ?_
            refine ar_iconst (k := 66) rfl ?_
            refine ar_icmp_eq (k := 67) rfl (by omega) (by omega) (fun c67 => ?_) (fun c67 => ?_)
            · refine ar_iconst (k := 86) rfl ?_
              refine ar_goto (k := 87) rfl ?_
              refine tw_top (y := if m = 1 ∧ (rOth s w r = -1 ∨ (rOth s w r = t ↔ s (138 + (r : Int)) = 1)) then 1 else 0) (by omega) ?_
              refine ar_istore (k := 89) (l2 := [(4, _), (6, _), (5, _), (3, _), (2, _), (0, _), (1, _)]) rfl (by decide) rfl ?_
              refine ar_iinc (k := 90) (l2 := [(5, _), (4, _), (6, _), (3, _), (2, _), (0, _), (1, _)]) rfl (by decide) rfl rfl ?_
              refine ar_goto (k := 91) rfl ?_
              refine ar_sub (l2 := [(5, vi ((r + 1 : Nat) : Int)), (4, vi (if m = 1 ∧ (rOth s w r = -1 ∨ (rOth s w r = t ↔ s (138 + (r : Int)) = 1)) then 1 else 0)), (3, vi (t : Int)), (2, vi a), (0, vr (some 69)), (1, vi w)]) (tw_s (tw_e 0 rfl (by omega)) (tw_s (tw_g 1 rfl) (tw_s (tw_g 3 rfl) (tw_s (tw_g 4 rfl) (tw_s (tw_g 5 rfl) (tw_s (tw_g 6 rfl) tw_s0)))))) ?_
              exact ih (r + 1) _ (by omega) (by split <;> omega) hF
            · refine ar_iload (k := 68) rfl rfl ?_
              refine ar_iloadn (k := 69) rfl rfl ?_
              refine ar_icmp_ne (k := 70) rfl (by omega) (by omega) (fun c70 => ?_) (fun c70 => ?_)
              · refine ar_iconst (k := 73) rfl ?_
                refine ar_aloadn (k := 74) rfl rfl ?_
                refine br_getR (k := 75) rfl (hS.k (by decide)) flR_9_12 (by decide) rfl (hS.r rfl) ?_
                refine ar_sipush (k := 76) rfl (by decide) ?_
                refine ar_iload (k := 77) rfl rfl ?_
                refine ar_iadd (k := 78) rfl ?_
                refine br_iads (k := 79) rfl (hS.k (by decide)) (by omega) (by omega) (by decide) hs ?_
                refine ar_iconst (k := 80) rfl ?_
                refine ar_icmp_ne (k := 81) rfl (by omega) (by omega) (fun c81 => ?_) (fun c81 => ?_)
                · refine ar_iconst (k := 84) rfl ?_
                  refine ar_icmp_ne (k := 85) rfl (by omega) (by omega) (fun c85 => ?_) (fun c85 => ?_)
                  · refine ar_iconst (k := 88) rfl ?_
                    refine tw_top (y := if m = 1 ∧ (rOth s w r = -1 ∨ (rOth s w r = t ↔ s (138 + (r : Int)) = 1)) then 1 else 0) (by omega) ?_
                    refine ar_istore (k := 89) (l2 := [(4, _), (6, _), (5, _), (3, _), (2, _), (0, _), (1, _)]) rfl (by decide) rfl ?_
                    refine ar_iinc (k := 90) (l2 := [(5, _), (4, _), (6, _), (3, _), (2, _), (0, _), (1, _)]) rfl (by decide) rfl rfl ?_
                    refine ar_goto (k := 91) rfl ?_
                    refine ar_sub (l2 := [(5, vi ((r + 1 : Nat) : Int)), (4, vi (if m = 1 ∧ (rOth s w r = -1 ∨ (rOth s w r = t ↔ s (138 + (r : Int)) = 1)) then 1 else 0)), (3, vi (t : Int)), (2, vi a), (0, vr (some 69)), (1, vi w)]) (tw_s (tw_e 0 rfl (by omega)) (tw_s (tw_g 1 rfl) (tw_s (tw_g 3 rfl) (tw_s (tw_g 4 rfl) (tw_s (tw_g 5 rfl) (tw_s (tw_g 6 rfl) tw_s0)))))) ?_
                    exact ih (r + 1) _ (by omega) (by split <;> omega) hF
                  · refine ar_iconst (k := 86) rfl ?_
                    refine ar_goto (k := 87) rfl ?_
                    refine tw_top (y := if m = 1 ∧ (rOth s w r = -1 ∨ (rOth s w r = t ↔ s (138 + (r : Int)) = 1)) then 1 else 0) (by omega) ?_
                    refine ar_istore (k := 89) (l2 := [(4, _), (6, _), (5, _), (3, _), (2, _), (0, _), (1, _)]) rfl (by decide) rfl ?_
                    refine ar_iinc (k := 90) (l2 := [(5, _), (4, _), (6, _), (3, _), (2, _), (0, _), (1, _)]) rfl (by decide) rfl rfl ?_
                    refine ar_goto (k := 91) rfl ?_
                    refine ar_sub (l2 := [(5, vi ((r + 1 : Nat) : Int)), (4, vi (if m = 1 ∧ (rOth s w r = -1 ∨ (rOth s w r = t ↔ s (138 + (r : Int)) = 1)) then 1 else 0)), (3, vi (t : Int)), (2, vi a), (0, vr (some 69)), (1, vi w)]) (tw_s (tw_e 0 rfl (by omega)) (tw_s (tw_g 1 rfl) (tw_s (tw_g 3 rfl) (tw_s (tw_g 4 rfl) (tw_s (tw_g 5 rfl) (tw_s (tw_g 6 rfl) tw_s0)))))) ?_
                    exact ih (r + 1) _ (by omega) (by split <;> omega) hF
                · refine ar_iconst (k := 82) rfl ?_
                  refine ar_goto (k := 83) rfl ?_
                  refine ar_icmp_ne (k := 85) rfl (by omega) (by omega) (fun c85 => ?_) (fun c85 => ?_)
                  · refine ar_iconst (k := 88) rfl ?_
                    refine tw_top (y := if m = 1 ∧ (rOth s w r = -1 ∨ (rOth s w r = t ↔ s (138 + (r : Int)) = 1)) then 1 else 0) (by omega) ?_
                    refine ar_istore (k := 89) (l2 := [(4, _), (6, _), (5, _), (3, _), (2, _), (0, _), (1, _)]) rfl (by decide) rfl ?_
                    refine ar_iinc (k := 90) (l2 := [(5, _), (4, _), (6, _), (3, _), (2, _), (0, _), (1, _)]) rfl (by decide) rfl rfl ?_
                    refine ar_goto (k := 91) rfl ?_
                    refine ar_sub (l2 := [(5, vi ((r + 1 : Nat) : Int)), (4, vi (if m = 1 ∧ (rOth s w r = -1 ∨ (rOth s w r = t ↔ s (138 + (r : Int)) = 1)) then 1 else 0)), (3, vi (t : Int)), (2, vi a), (0, vr (some 69)), (1, vi w)]) (tw_s (tw_e 0 rfl (by omega)) (tw_s (tw_g 1 rfl) (tw_s (tw_g 3 rfl) (tw_s (tw_g 4 rfl) (tw_s (tw_g 5 rfl) (tw_s (tw_g 6 rfl) tw_s0)))))) ?_
                    exact ih (r + 1) _ (by omega) (by split <;> omega) hF
                  · refine ar_iconst (k := 86) rfl ?_
                    refine ar_goto (k := 87) rfl ?_
                    refine tw_top (y := if m = 1 ∧ (rOth s w r = -1 ∨ (rOth s w r = t ↔ s (138 + (r : Int)) = 1)) then 1 else 0) (by omega) ?_
                    refine ar_istore (k := 89) (l2 := [(4, _), (6, _), (5, _), (3, _), (2, _), (0, _), (1, _)]) rfl (by decide) rfl ?_
                    refine ar_iinc (k := 90) (l2 := [(5, _), (4, _), (6, _), (3, _), (2, _), (0, _), (1, _)]) rfl (by decide) rfl rfl ?_
                    refine ar_goto (k := 91) rfl ?_
                    refine ar_sub (l2 := [(5, vi ((r + 1 : Nat) : Int)), (4, vi (if m = 1 ∧ (rOth s w r = -1 ∨ (rOth s w r = t ↔ s (138 + (r : Int)) = 1)) then 1 else 0)), (3, vi (t : Int)), (2, vi a), (0, vr (some 69)), (1, vi w)]) (tw_s (tw_e 0 rfl (by omega)) (tw_s (tw_g 1 rfl) (tw_s (tw_g 3 rfl) (tw_s (tw_g 4 rfl) (tw_s (tw_g 5 rfl) (tw_s (tw_g 6 rfl) tw_s0)))))) ?_
                    exact ih (r + 1) _ (by omega) (by split <;> omega) hF
              · refine ar_iconst (k := 71) rfl ?_
                refine ar_goto (k := 72) rfl ?_
                refine ar_aloadn (k := 74) rfl rfl ?_
                refine br_getR (k := 75) rfl (hS.k (by decide)) flR_9_12 (by decide) rfl (hS.r rfl) ?_
                refine ar_sipush (k := 76) rfl (by decide) ?_
                refine ar_iload (k := 77) rfl rfl ?_
                refine ar_iadd (k := 78) rfl ?_
                refine br_iads (k := 79) rfl (hS.k (by decide)) (by omega) (by omega) (by decide) hs ?_
                refine ar_iconst (k := 80) rfl ?_
                refine ar_icmp_ne (k := 81) rfl (by omega) (by omega) (fun c81 => ?_) (fun c81 => ?_)
                · refine ar_iconst (k := 84) rfl ?_
                  refine ar_icmp_ne (k := 85) rfl (by omega) (by omega) (fun c85 => ?_) (fun c85 => ?_)
                  · refine ar_iconst (k := 88) rfl ?_
                    refine tw_top (y := if m = 1 ∧ (rOth s w r = -1 ∨ (rOth s w r = t ↔ s (138 + (r : Int)) = 1)) then 1 else 0) (by omega) ?_
                    refine ar_istore (k := 89) (l2 := [(4, _), (6, _), (5, _), (3, _), (2, _), (0, _), (1, _)]) rfl (by decide) rfl ?_
                    refine ar_iinc (k := 90) (l2 := [(5, _), (4, _), (6, _), (3, _), (2, _), (0, _), (1, _)]) rfl (by decide) rfl rfl ?_
                    refine ar_goto (k := 91) rfl ?_
                    refine ar_sub (l2 := [(5, vi ((r + 1 : Nat) : Int)), (4, vi (if m = 1 ∧ (rOth s w r = -1 ∨ (rOth s w r = t ↔ s (138 + (r : Int)) = 1)) then 1 else 0)), (3, vi (t : Int)), (2, vi a), (0, vr (some 69)), (1, vi w)]) (tw_s (tw_e 0 rfl (by omega)) (tw_s (tw_g 1 rfl) (tw_s (tw_g 3 rfl) (tw_s (tw_g 4 rfl) (tw_s (tw_g 5 rfl) (tw_s (tw_g 6 rfl) tw_s0)))))) ?_
                    exact ih (r + 1) _ (by omega) (by split <;> omega) hF
                  · refine ar_iconst (k := 86) rfl ?_
                    refine ar_goto (k := 87) rfl ?_
                    refine tw_top (y := if m = 1 ∧ (rOth s w r = -1 ∨ (rOth s w r = t ↔ s (138 + (r : Int)) = 1)) then 1 else 0) (by omega) ?_
                    refine ar_istore (k := 89) (l2 := [(4, _), (6, _), (5, _), (3, _), (2, _), (0, _), (1, _)]) rfl (by decide) rfl ?_
                    refine ar_iinc (k := 90) (l2 := [(5, _), (4, _), (6, _), (3, _), (2, _), (0, _), (1, _)]) rfl (by decide) rfl rfl ?_
                    refine ar_goto (k := 91) rfl ?_
                    refine ar_sub (l2 := [(5, vi ((r + 1 : Nat) : Int)), (4, vi (if m = 1 ∧ (rOth s w r = -1 ∨ (rOth s w r = t ↔ s (138 + (r : Int)) = 1)) then 1 else 0)), (3, vi (t : Int)), (2, vi a), (0, vr (some 69)), (1, vi w)]) (tw_s (tw_e 0 rfl (by omega)) (tw_s (tw_g 1 rfl) (tw_s (tw_g 3 rfl) (tw_s (tw_g 4 rfl) (tw_s (tw_g 5 rfl) (tw_s (tw_g 6 rfl) tw_s0)))))) ?_
                    exact ih (r + 1) _ (by omega) (by split <;> omega) hF
                · refine ar_iconst (k := 82) rfl ?_
                  refine ar_goto (k := 83) rfl ?_
                  refine ar_icmp_ne (k := 85) rfl (by omega) (by omega) (fun c85 => ?_) (fun c85 => ?_)
                  · refine ar_iconst (k := 88) rfl ?_
                    refine tw_top (y := if m = 1 ∧ (rOth s w r = -1 ∨ (rOth s w r = t ↔ s (138 + (r : Int)) = 1)) then 1 else 0) (by omega) ?_
                    refine ar_istore (k := 89) (l2 := [(4, _), (6, _), (5, _), (3, _), (2, _), (0, _), (1, _)]) rfl (by decide) rfl ?_
                    refine ar_iinc (k := 90) (l2 := [(5, _), (4, _), (6, _), (3, _), (2, _), (0, _), (1, _)]) rfl (by decide) rfl rfl ?_
                    refine ar_goto (k := 91) rfl ?_
                    refine ar_sub (l2 := [(5, vi ((r + 1 : Nat) : Int)), (4, vi (if m = 1 ∧ (rOth s w r = -1 ∨ (rOth s w r = t ↔ s (138 + (r : Int)) = 1)) then 1 else 0)), (3, vi (t : Int)), (2, vi a), (0, vr (some 69)), (1, vi w)]) (tw_s (tw_e 0 rfl (by omega)) (tw_s (tw_g 1 rfl) (tw_s (tw_g 3 rfl) (tw_s (tw_g 4 rfl) (tw_s (tw_g 5 rfl) (tw_s (tw_g 6 rfl) tw_s0)))))) ?_
                    exact ih (r + 1) _ (by omega) (by split <;> omega) hF
                  · refine ar_iconst (k := 86) rfl ?_
                    refine ar_goto (k := 87) rfl ?_
                    refine tw_top (y := if m = 1 ∧ (rOth s w r = -1 ∨ (rOth s w r = t ↔ s (138 + (r : Int)) = 1)) then 1 else 0) (by omega) ?_
                    refine ar_istore (k := 89) (l2 := [(4, _), (6, _), (5, _), (3, _), (2, _), (0, _), (1, _)]) rfl (by decide) rfl ?_
                    refine ar_iinc (k := 90) (l2 := [(5, _), (4, _), (6, _), (3, _), (2, _), (0, _), (1, _)]) rfl (by decide) rfl rfl ?_
                    refine ar_goto (k := 91) rfl ?_
                    refine ar_sub (l2 := [(5, vi ((r + 1 : Nat) : Int)), (4, vi (if m = 1 ∧ (rOth s w r = -1 ∨ (rOth s w r = t ↔ s (138 + (r : Int)) = 1)) then 1 else 0)), (3, vi (t : Int)), (2, vi a), (0, vr (some 69)), (1, vi w)]) (tw_s (tw_e 0 rfl (by omega)) (tw_s (tw_g 1 rfl) (tw_s (tw_g 3 rfl) (tw_s (tw_g 4 rfl) (tw_s (tw_g 5 rfl) (tw_s (tw_g 6 rfl) tw_s0)))))) ?_
                    exact ih (r + 1) _ (by omega) (by split <;> omega) hF
        · refine ar_aloadn (k := 54) rfl rfl ?_
          refine br_getR (k := 55) rfl (hS.k (by decide)) flR_9_12 (by decide) rfl (hS.r rfl) ?_
          refine ar_bipush (k := 56) rfl (by decide) ?_
          refine ar_iload (k := 57) rfl rfl ?_
          refine ar_iadd (k := 58) rfl ?_
          refine br_iads (k := 59) rfl (hS.k (by decide)) (by omega) (by omega) (by decide) hs ?_
          refine ar_goto (k := 60) rfl ?_
          refine tw_top (y := rOth s w r) (by unfold rOth; omega) ?_
          have ho : -1 ≤ rOth s w r ∧ rOth s w r < 10 := by unfold rOth; omega
          refine ar_istore (k := 62) (l2 := [(6, _), (5, _), (4, _), (3, _), (2, _), (0, _), (1, _)]) rfl (by decide) rfl ?_
          refine ar_iload (k := 63) rfl rfl ?_
          refine ar_if_eq (k := 64) rfl (by omega) (fun c64 => ?_) (fun c64 => ?_)
          · refine ar_iconst (k := 88) rfl ?_
            refine tw_top (y := if m = 1 ∧ (rOth s w r = -1 ∨ (rOth s w r = t ↔ s (138 + (r : Int)) = 1)) then 1 else 0) (by omega) ?_
            refine ar_istore (k := 89) (l2 := [(4, _), (6, _), (5, _), (3, _), (2, _), (0, _), (1, _)]) rfl (by decide) rfl ?_
            refine ar_iinc (k := 90) (l2 := [(5, _), (4, _), (6, _), (3, _), (2, _), (0, _), (1, _)]) rfl (by decide) rfl rfl ?_
            refine ar_goto (k := 91) rfl ?_
            refine ar_sub (l2 := [(5, vi ((r + 1 : Nat) : Int)), (4, vi (if m = 1 ∧ (rOth s w r = -1 ∨ (rOth s w r = t ↔ s (138 + (r : Int)) = 1)) then 1 else 0)), (3, vi (t : Int)), (2, vi a), (0, vr (some 69)), (1, vi w)]) (tw_s (tw_e 0 rfl (by omega)) (tw_s (tw_g 1 rfl) (tw_s (tw_g 3 rfl) (tw_s (tw_g 4 rfl) (tw_s (tw_g 5 rfl) (tw_s (tw_g 6 rfl) tw_s0)))))) ?_
            exact ih (r + 1) _ (by omega) (by split <;> omega) hF
          · refine ar_iload (k := 65) rfl rfl ?_
            refine ar_iconst (k := 66) rfl ?_
            refine ar_icmp_eq (k := 67) rfl (by omega) (by omega) (fun c67 => ?_) (fun c67 => ?_)
            · refine ar_iconst (k := 86) rfl ?_
              refine ar_goto (k := 87) rfl ?_
              refine tw_top (y := if m = 1 ∧ (rOth s w r = -1 ∨ (rOth s w r = t ↔ s (138 + (r : Int)) = 1)) then 1 else 0) (by omega) ?_
              refine ar_istore (k := 89) (l2 := [(4, _), (6, _), (5, _), (3, _), (2, _), (0, _), (1, _)]) rfl (by decide) rfl ?_
              refine ar_iinc (k := 90) (l2 := [(5, _), (4, _), (6, _), (3, _), (2, _), (0, _), (1, _)]) rfl (by decide) rfl rfl ?_
              refine ar_goto (k := 91) rfl ?_
              refine ar_sub (l2 := [(5, vi ((r + 1 : Nat) : Int)), (4, vi (if m = 1 ∧ (rOth s w r = -1 ∨ (rOth s w r = t ↔ s (138 + (r : Int)) = 1)) then 1 else 0)), (3, vi (t : Int)), (2, vi a), (0, vr (some 69)), (1, vi w)]) (tw_s (tw_e 0 rfl (by omega)) (tw_s (tw_g 1 rfl) (tw_s (tw_g 3 rfl) (tw_s (tw_g 4 rfl) (tw_s (tw_g 5 rfl) (tw_s (tw_g 6 rfl) tw_s0)))))) ?_
              exact ih (r + 1) _ (by omega) (by split <;> omega) hF
            · refine ar_iload (k := 68) rfl rfl ?_
              refine ar_iloadn (k := 69) rfl rfl ?_
              refine ar_icmp_ne (k := 70) rfl (by omega) (by omega) (fun c70 => ?_) (fun c70 => ?_)
              · refine ar_iconst (k := 73) rfl ?_
                refine ar_aloadn (k := 74) rfl rfl ?_
                refine br_getR (k := 75) rfl (hS.k (by decide)) flR_9_12 (by decide) rfl (hS.r rfl) ?_
                refine ar_sipush (k := 76) rfl (by decide) ?_
                refine ar_iload (k := 77) rfl rfl ?_
                refine ar_iadd (k := 78) rfl ?_
                refine br_iads (k := 79) rfl (hS.k (by decide)) (by omega) (by omega) (by decide) hs ?_
                refine ar_iconst (k := 80) rfl ?_
                refine ar_icmp_ne (k := 81) rfl (by omega) (by omega) (fun c81 => ?_) (fun c81 => ?_)
                · refine ar_iconst (k := 84) rfl ?_
                  refine ar_icmp_ne (k := 85) rfl (by omega) (by omega) (fun c85 => ?_) (fun c85 => ?_)
                  · refine ar_iconst (k := 88) rfl ?_
                    refine tw_top (y := if m = 1 ∧ (rOth s w r = -1 ∨ (rOth s w r = t ↔ s (138 + (r : Int)) = 1)) then 1 else 0) (by omega) ?_
                    refine ar_istore (k := 89) (l2 := [(4, _), (6, _), (5, _), (3, _), (2, _), (0, _), (1, _)]) rfl (by decide) rfl ?_
                    refine ar_iinc (k := 90) (l2 := [(5, _), (4, _), (6, _), (3, _), (2, _), (0, _), (1, _)]) rfl (by decide) rfl rfl ?_
                    refine ar_goto (k := 91) rfl ?_
                    refine ar_sub (l2 := [(5, vi ((r + 1 : Nat) : Int)), (4, vi (if m = 1 ∧ (rOth s w r = -1 ∨ (rOth s w r = t ↔ s (138 + (r : Int)) = 1)) then 1 else 0)), (3, vi (t : Int)), (2, vi a), (0, vr (some 69)), (1, vi w)]) (tw_s (tw_e 0 rfl (by omega)) (tw_s (tw_g 1 rfl) (tw_s (tw_g 3 rfl) (tw_s (tw_g 4 rfl) (tw_s (tw_g 5 rfl) (tw_s (tw_g 6 rfl) tw_s0)))))) ?_
                    exact ih (r + 1) _ (by omega) (by split <;> omega) hF
                  · refine ar_iconst (k := 86) rfl ?_
                    refine ar_goto (k := 87) rfl ?_
                    refine tw_top (y := if m = 1 ∧ (rOth s w r = -1 ∨ (rOth s w r = t ↔ s (138 + (r : Int)) = 1)) then 1 else 0) (by omega) ?_
                    refine ar_istore (k := 89) (l2 := [(4, _), (6, _), (5, _), (3, _), (2, _), (0, _), (1, _)]) rfl (by decide) rfl ?_
                    refine ar_iinc (k := 90) (l2 := [(5, _), (4, _), (6, _), (3, _), (2, _), (0, _), (1, _)]) rfl (by decide) rfl rfl ?_
                    refine ar_goto (k := 91) rfl ?_
                    refine ar_sub (l2 := [(5, vi ((r + 1 : Nat) : Int)), (4, vi (if m = 1 ∧ (rOth s w r = -1 ∨ (rOth s w r = t ↔ s (138 + (r : Int)) = 1)) then 1 else 0)), (3, vi (t : Int)), (2, vi a), (0, vr (some 69)), (1, vi w)]) (tw_s (tw_e 0 rfl (by omega)) (tw_s (tw_g 1 rfl) (tw_s (tw_g 3 rfl) (tw_s (tw_g 4 rfl) (tw_s (tw_g 5 rfl) (tw_s (tw_g 6 rfl) tw_s0)))))) ?_
                    exact ih (r + 1) _ (by omega) (by split <;> omega) hF
                · refine ar_iconst (k := 82) rfl ?_
                  refine ar_goto (k := 83) rfl ?_
                  refine ar_icmp_ne (k := 85) rfl (by omega) (by omega) (fun c85 => ?_) (fun c85 => ?_)
                  · refine ar_iconst (k := 88) rfl ?_
                    refine tw_top (y := if m = 1 ∧ (rOth s w r = -1 ∨ (rOth s w r = t ↔ s (138 + (r : Int)) = 1)) then 1 else 0) (by omega) ?_
                    refine ar_istore (k := 89) (l2 := [(4, _), (6, _), (5, _), (3, _), (2, _), (0, _), (1, _)]) rfl (by decide) rfl ?_
                    refine ar_iinc (k := 90) (l2 := [(5, _), (4, _), (6, _), (3, _), (2, _), (0, _), (1, _)]) rfl (by decide) rfl rfl ?_
                    refine ar_goto (k := 91) rfl ?_
                    refine ar_sub (l2 := [(5, vi ((r + 1 : Nat) : Int)), (4, vi (if m = 1 ∧ (rOth s w r = -1 ∨ (rOth s w r = t ↔ s (138 + (r : Int)) = 1)) then 1 else 0)), (3, vi (t : Int)), (2, vi a), (0, vr (some 69)), (1, vi w)]) (tw_s (tw_e 0 rfl (by omega)) (tw_s (tw_g 1 rfl) (tw_s (tw_g 3 rfl) (tw_s (tw_g 4 rfl) (tw_s (tw_g 5 rfl) (tw_s (tw_g 6 rfl) tw_s0)))))) ?_
                    exact ih (r + 1) _ (by omega) (by split <;> omega) hF
                  · refine ar_iconst (k := 86) rfl ?_
                    refine ar_goto (k := 87) rfl ?_
                    refine tw_top (y := if m = 1 ∧ (rOth s w r = -1 ∨ (rOth s w r = t ↔ s (138 + (r : Int)) = 1)) then 1 else 0) (by omega) ?_
                    refine ar_istore (k := 89) (l2 := [(4, _), (6, _), (5, _), (3, _), (2, _), (0, _), (1, _)]) rfl (by decide) rfl ?_
                    refine ar_iinc (k := 90) (l2 := [(5, _), (4, _), (6, _), (3, _), (2, _), (0, _), (1, _)]) rfl (by decide) rfl rfl ?_
                    refine ar_goto (k := 91) rfl ?_
                    refine ar_sub (l2 := [(5, vi ((r + 1 : Nat) : Int)), (4, vi (if m = 1 ∧ (rOth s w r = -1 ∨ (rOth s w r = t ↔ s (138 + (r : Int)) = 1)) then 1 else 0)), (3, vi (t : Int)), (2, vi a), (0, vr (some 69)), (1, vi w)]) (tw_s (tw_e 0 rfl (by omega)) (tw_s (tw_g 1 rfl) (tw_s (tw_g 3 rfl) (tw_s (tw_g 4 rfl) (tw_s (tw_g 5 rfl) (tw_s (tw_g 6 rfl) tw_s0)))))) ?_
                    exact ih (r + 1) _ (by omega) (by split <;> omega) hF
              · refine ar_iconst (k := 71) rfl ?_
                refine ar_goto (k := 72) rfl ?_
                refine ar_aloadn (k := 74) rfl rfl ?_
                refine br_getR (k := 75) rfl (hS.k (by decide)) flR_9_12 (by decide) rfl (hS.r rfl) ?_
                refine ar_sipush (k := 76) rfl (by decide) ?_
                refine ar_iload (k := 77) rfl rfl ?_
                refine ar_iadd (k := 78) rfl ?_
                refine br_iads (k := 79) rfl (hS.k (by decide)) (by omega) (by omega) (by decide) hs ?_
                refine ar_iconst (k := 80) rfl ?_
                refine ar_icmp_ne (k := 81) rfl (by omega) (by omega) (fun c81 => ?_) (fun c81 => ?_)
                · refine ar_iconst (k := 84) rfl ?_
                  refine ar_icmp_ne (k := 85) rfl (by omega) (by omega) (fun c85 => ?_) (fun c85 => ?_)
                  · refine ar_iconst (k := 88) rfl ?_
                    refine tw_top (y := if m = 1 ∧ (rOth s w r = -1 ∨ (rOth s w r = t ↔ s (138 + (r : Int)) = 1)) then 1 else 0) (by omega) ?_
                    refine ar_istore (k := 89) (l2 := [(4, _), (6, _), (5, _), (3, _), (2, _), (0, _), (1, _)]) rfl (by decide) rfl ?_
                    refine ar_iinc (k := 90) (l2 := [(5, _), (4, _), (6, _), (3, _), (2, _), (0, _), (1, _)]) rfl (by decide) rfl rfl ?_
                    refine ar_goto (k := 91) rfl ?_
                    refine ar_sub (l2 := [(5, vi ((r + 1 : Nat) : Int)), (4, vi (if m = 1 ∧ (rOth s w r = -1 ∨ (rOth s w r = t ↔ s (138 + (r : Int)) = 1)) then 1 else 0)), (3, vi (t : Int)), (2, vi a), (0, vr (some 69)), (1, vi w)]) (tw_s (tw_e 0 rfl (by omega)) (tw_s (tw_g 1 rfl) (tw_s (tw_g 3 rfl) (tw_s (tw_g 4 rfl) (tw_s (tw_g 5 rfl) (tw_s (tw_g 6 rfl) tw_s0)))))) ?_
                    exact ih (r + 1) _ (by omega) (by split <;> omega) hF
                  · refine ar_iconst (k := 86) rfl ?_
                    refine ar_goto (k := 87) rfl ?_
                    refine tw_top (y := if m = 1 ∧ (rOth s w r = -1 ∨ (rOth s w r = t ↔ s (138 + (r : Int)) = 1)) then 1 else 0) (by omega) ?_
                    refine ar_istore (k := 89) (l2 := [(4, _), (6, _), (5, _), (3, _), (2, _), (0, _), (1, _)]) rfl (by decide) rfl ?_
                    refine ar_iinc (k := 90) (l2 := [(5, _), (4, _), (6, _), (3, _), (2, _), (0, _), (1, _)]) rfl (by decide) rfl rfl ?_
                    refine ar_goto (k := 91) rfl ?_
                    refine ar_sub (l2 := [(5, vi ((r + 1 : Nat) : Int)), (4, vi (if m = 1 ∧ (rOth s w r = -1 ∨ (rOth s w r = t ↔ s (138 + (r : Int)) = 1)) then 1 else 0)), (3, vi (t : Int)), (2, vi a), (0, vr (some 69)), (1, vi w)]) (tw_s (tw_e 0 rfl (by omega)) (tw_s (tw_g 1 rfl) (tw_s (tw_g 3 rfl) (tw_s (tw_g 4 rfl) (tw_s (tw_g 5 rfl) (tw_s (tw_g 6 rfl) tw_s0)))))) ?_
                    exact ih (r + 1) _ (by omega) (by split <;> omega) hF
                · refine ar_iconst (k := 82) rfl ?_
                  refine ar_goto (k := 83) rfl ?_
                  refine ar_icmp_ne (k := 85) rfl (by omega) (by omega) (fun c85 => ?_) (fun c85 => ?_)
                  · refine ar_iconst (k := 88) rfl ?_
                    refine tw_top (y := if m = 1 ∧ (rOth s w r = -1 ∨ (rOth s w r = t ↔ s (138 + (r : Int)) = 1)) then 1 else 0) (by omega) ?_
                    refine ar_istore (k := 89) (l2 := [(4, _), (6, _), (5, _), (3, _), (2, _), (0, _), (1, _)]) rfl (by decide) rfl ?_
                    refine ar_iinc (k := 90) (l2 := [(5, _), (4, _), (6, _), (3, _), (2, _), (0, _), (1, _)]) rfl (by decide) rfl rfl ?_
                    refine ar_goto (k := 91) rfl ?_
                    refine ar_sub (l2 := [(5, vi ((r + 1 : Nat) : Int)), (4, vi (if m = 1 ∧ (rOth s w r = -1 ∨ (rOth s w r = t ↔ s (138 + (r : Int)) = 1)) then 1 else 0)), (3, vi (t : Int)), (2, vi a), (0, vr (some 69)), (1, vi w)]) (tw_s (tw_e 0 rfl (by omega)) (tw_s (tw_g 1 rfl) (tw_s (tw_g 3 rfl) (tw_s (tw_g 4 rfl) (tw_s (tw_g 5 rfl) (tw_s (tw_g 6 rfl) tw_s0)))))) ?_
                    exact ih (r + 1) _ (by omega) (by split <;> omega) hF
                  · refine ar_iconst (k := 86) rfl ?_
                    refine ar_goto (k := 87) rfl ?_
                    refine tw_top (y := if m = 1 ∧ (rOth s w r = -1 ∨ (rOth s w r = t ↔ s (138 + (r : Int)) = 1)) then 1 else 0) (by omega) ?_
                    refine ar_istore (k := 89) (l2 := [(4, _), (6, _), (5, _), (3, _), (2, _), (0, _), (1, _)]) rfl (by decide) rfl ?_
                    refine ar_iinc (k := 90) (l2 := [(5, _), (4, _), (6, _), (3, _), (2, _), (0, _), (1, _)]) rfl (by decide) rfl rfl ?_
                    refine ar_goto (k := 91) rfl ?_
                    refine ar_sub (l2 := [(5, vi ((r + 1 : Nat) : Int)), (4, vi (if m = 1 ∧ (rOth s w r = -1 ∨ (rOth s w r = t ↔ s (138 + (r : Int)) = 1)) then 1 else 0)), (3, vi (t : Int)), (2, vi a), (0, vr (some 69)), (1, vi w)]) (tw_s (tw_e 0 rfl (by omega)) (tw_s (tw_g 1 rfl) (tw_s (tw_g 3 rfl) (tw_s (tw_g 4 rfl) (tw_s (tw_g 5 rfl) (tw_s (tw_g 6 rfl) tw_s0)))))) ?_
                    exact ih (r + 1) _ (by omega) (by split <;> omega) hF
      · refine ar_aloadn (k := 39) rfl rfl ?_
        refine br_getR (k := 40) rfl (hS.k (by decide)) flR_9_12 (by decide) rfl (hS.r rfl) ?_
        refine ar_bipush (k := 41) rfl (by decide) ?_
        refine ar_iload (k := 42) rfl rfl ?_
        refine ar_iadd (k := 43) rfl ?_
        refine br_iads (k := 44) rfl (hS.k (by decide)) (by omega) (by omega) (by decide) hs ?_
        refine ar_goto (k := 45) rfl ?_
        refine tw_top (y := rOth s w r) (by unfold rOth; omega) ?_
        have ho : -1 ≤ rOth s w r ∧ rOth s w r < 10 := by unfold rOth; omega
        refine ar_istore (k := 62) (l2 := [(6, _), (5, _), (4, _), (3, _), (2, _), (0, _), (1, _)]) rfl (by decide) rfl ?_
        refine ar_iload (k := 63) rfl rfl ?_
        refine ar_if_eq (k := 64) rfl (by omega) (fun c64 => ?_) (fun c64 => ?_)
        · refine ar_iconst (k := 88) rfl ?_
          refine tw_top (y := if m = 1 ∧ (rOth s w r = -1 ∨ (rOth s w r = t ↔ s (138 + (r : Int)) = 1)) then 1 else 0) (by omega) ?_
          refine ar_istore (k := 89) (l2 := [(4, _), (6, _), (5, _), (3, _), (2, _), (0, _), (1, _)]) rfl (by decide) rfl ?_
          refine ar_iinc (k := 90) (l2 := [(5, _), (4, _), (6, _), (3, _), (2, _), (0, _), (1, _)]) rfl (by decide) rfl rfl ?_
          refine ar_goto (k := 91) rfl ?_
          refine ar_sub (l2 := [(5, vi ((r + 1 : Nat) : Int)), (4, vi (if m = 1 ∧ (rOth s w r = -1 ∨ (rOth s w r = t ↔ s (138 + (r : Int)) = 1)) then 1 else 0)), (3, vi (t : Int)), (2, vi a), (0, vr (some 69)), (1, vi w)]) (tw_s (tw_e 0 rfl (by omega)) (tw_s (tw_g 1 rfl) (tw_s (tw_g 3 rfl) (tw_s (tw_g 4 rfl) (tw_s (tw_g 5 rfl) (tw_s (tw_g 6 rfl) tw_s0)))))) ?_
          exact ih (r + 1) _ (by omega) (by split <;> omega) hF
        · refine ar_iload (k := 65) rfl rfl ?_
          refine ar_iconst (k := 66) rfl ?_
          refine ar_icmp_eq (k := 67) rfl (by omega) (by omega) (fun c67 => ?_) (fun c67 => ?_)
          · refine ar_iconst (k := 86) rfl ?_
            refine ar_goto (k := 87) rfl ?_
            refine tw_top (y := if m = 1 ∧ (rOth s w r = -1 ∨ (rOth s w r = t ↔ s (138 + (r : Int)) = 1)) then 1 else 0) (by omega) ?_
            refine ar_istore (k := 89) (l2 := [(4, _), (6, _), (5, _), (3, _), (2, _), (0, _), (1, _)]) rfl (by decide) rfl ?_
            refine ar_iinc (k := 90) (l2 := [(5, _), (4, _), (6, _), (3, _), (2, _), (0, _), (1, _)]) rfl (by decide) rfl rfl ?_
            refine ar_goto (k := 91) rfl ?_
            refine ar_sub (l2 := [(5, vi ((r + 1 : Nat) : Int)), (4, vi (if m = 1 ∧ (rOth s w r = -1 ∨ (rOth s w r = t ↔ s (138 + (r : Int)) = 1)) then 1 else 0)), (3, vi (t : Int)), (2, vi a), (0, vr (some 69)), (1, vi w)]) (tw_s (tw_e 0 rfl (by omega)) (tw_s (tw_g 1 rfl) (tw_s (tw_g 3 rfl) (tw_s (tw_g 4 rfl) (tw_s (tw_g 5 rfl) (tw_s (tw_g 6 rfl) tw_s0)))))) ?_
            exact ih (r + 1) _ (by omega) (by split <;> omega) hF
          · refine ar_iload (k := 68) rfl rfl ?_
            refine ar_iloadn (k := 69) rfl rfl ?_
            refine ar_icmp_ne (k := 70) rfl (by omega) (by omega) (fun c70 => ?_) (fun c70 => ?_)
            · refine ar_iconst (k := 73) rfl ?_
              refine ar_aloadn (k := 74) rfl rfl ?_
              refine br_getR (k := 75) rfl (hS.k (by decide)) flR_9_12 (by decide) rfl (hS.r rfl) ?_
              refine ar_sipush (k := 76) rfl (by decide) ?_
              refine ar_iload (k := 77) rfl rfl ?_
              refine ar_iadd (k := 78) rfl ?_
              refine br_iads (k := 79) rfl (hS.k (by decide)) (by omega) (by omega) (by decide) hs ?_
              refine ar_iconst (k := 80) rfl ?_
              refine ar_icmp_ne (k := 81) rfl (by omega) (by omega) (fun c81 => ?_) (fun c81 => ?_)
              · refine ar_iconst (k := 84) rfl ?_
                refine ar_icmp_ne (k := 85) rfl (by omega) (by omega) (fun c85 => ?_) (fun c85 => ?_)
                · refine ar_iconst (k := 88) rfl ?_
                  refine tw_top (y := if m = 1 ∧ (rOth s w r = -1 ∨ (rOth s w r = t ↔ s (138 + (r : Int)) = 1)) then 1 else 0) (by omega) ?_
                  refine ar_istore (k := 89) (l2 := [(4, _), (6, _), (5, _), (3, _), (2, _), (0, _), (1, _)]) rfl (by decide) rfl ?_
                  refine ar_iinc (k := 90) (l2 := [(5, _), (4, _), (6, _), (3, _), (2, _), (0, _), (1, _)]) rfl (by decide) rfl rfl ?_
                  refine ar_goto (k := 91) rfl ?_
                  refine ar_sub (l2 := [(5, vi ((r + 1 : Nat) : Int)), (4, vi (if m = 1 ∧ (rOth s w r = -1 ∨ (rOth s w r = t ↔ s (138 + (r : Int)) = 1)) then 1 else 0)), (3, vi (t : Int)), (2, vi a), (0, vr (some 69)), (1, vi w)]) (tw_s (tw_e 0 rfl (by omega)) (tw_s (tw_g 1 rfl) (tw_s (tw_g 3 rfl) (tw_s (tw_g 4 rfl) (tw_s (tw_g 5 rfl) (tw_s (tw_g 6 rfl) tw_s0)))))) ?_
                  exact ih (r + 1) _ (by omega) (by split <;> omega) hF
                · refine ar_iconst (k := 86) rfl ?_
                  refine ar_goto (k := 87) rfl ?_
                  refine tw_top (y := if m = 1 ∧ (rOth s w r = -1 ∨ (rOth s w r = t ↔ s (138 + (r : Int)) = 1)) then 1 else 0) (by omega) ?_
                  refine ar_istore (k := 89) (l2 := [(4, _), (6, _), (5, _), (3, _), (2, _), (0, _), (1, _)]) rfl (by decide) rfl ?_
                  refine ar_iinc (k := 90) (l2 := [(5, _), (4, _), (6, _), (3, _), (2, _), (0, _), (1, _)]) rfl (by decide) rfl rfl ?_
                  refine ar_goto (k := 91) rfl ?_
                  refine ar_sub (l2 := [(5, vi ((r + 1 : Nat) : Int)), (4, vi (if m = 1 ∧ (rOth s w r = -1 ∨ (rOth s w r = t ↔ s (138 + (r : Int)) = 1)) then 1 else 0)), (3, vi (t : Int)), (2, vi a), (0, vr (some 69)), (1, vi w)]) (tw_s (tw_e 0 rfl (by omega)) (tw_s (tw_g 1 rfl) (tw_s (tw_g 3 rfl) (tw_s (tw_g 4 rfl) (tw_s (tw_g 5 rfl) (tw_s (tw_g 6 rfl) tw_s0)))))) ?_
                  exact ih (r + 1) _ (by omega) (by split <;> omega) hF
              · refine ar_iconst (k := 82) rfl ?_
                refine ar_goto (k := 83) rfl ?_
                refine ar_icmp_ne (k := 85) rfl (by omega) (by omega) (fun c85 => ?_) (fun c85 => ?_)
                · refine ar_iconst (k := 88) rfl ?_
                  refine tw_top (y := if m = 1 ∧ (rOth s w r = -1 ∨ (rOth s w r = t ↔ s (138 + (r : Int)) = 1)) then 1 else 0) (by omega) ?_
                  refine ar_istore (k := 89) (l2 := [(4, _), (6, _), (5, _), (3, _), (2, _), (0, _), (1, _)]) rfl (by decide) rfl ?_
                  refine ar_iinc (k := 90) (l2 := [(5, _), (4, _), (6, _), (3, _), (2, _), (0, _), (1, _)]) rfl (by decide) rfl rfl ?_
                  refine ar_goto (k := 91) rfl ?_
                  refine ar_sub (l2 := [(5, vi ((r + 1 : Nat) : Int)), (4, vi (if m = 1 ∧ (rOth s w r = -1 ∨ (rOth s w r = t ↔ s (138 + (r : Int)) = 1)) then 1 else 0)), (3, vi (t : Int)), (2, vi a), (0, vr (some 69)), (1, vi w)]) (tw_s (tw_e 0 rfl (by omega)) (tw_s (tw_g 1 rfl) (tw_s (tw_g 3 rfl) (tw_s (tw_g 4 rfl) (tw_s (tw_g 5 rfl) (tw_s (tw_g 6 rfl) tw_s0)))))) ?_
                  exact ih (r + 1) _ (by omega) (by split <;> omega) hF
                · refine ar_iconst (k := 86) rfl ?_
                  refine ar_goto (k := 87) rfl ?_
                  refine tw_top (y := if m = 1 ∧ (rOth s w r = -1 ∨ (rOth s w r = t ↔ s (138 + (r : Int)) = 1)) then 1 else 0) (by omega) ?_
                  refine ar_istore (k := 89) (l2 := [(4, _), (6, _), (5, _), (3, _), (2, _), (0, _), (1, _)]) rfl (by decide) rfl ?_
                  refine ar_iinc (k := 90) (l2 := [(5, _), (4, _), (6, _), (3, _), (2, _), (0, _), (1, _)]) rfl (by decide) rfl rfl ?_
                  refine ar_goto (k := 91) rfl ?_
                  refine ar_sub (l2 := [(5, vi ((r + 1 : Nat) : Int)), (4, vi (if m = 1 ∧ (rOth s w r = -1 ∨ (rOth s w r = t ↔ s (138 + (r : Int)) = 1)) then 1 else 0)), (3, vi (t : Int)), (2, vi a), (0, vr (some 69)), (1, vi w)]) (tw_s (tw_e 0 rfl (by omega)) (tw_s (tw_g 1 rfl) (tw_s (tw_g 3 rfl) (tw_s (tw_g 4 rfl) (tw_s (tw_g 5 rfl) (tw_s (tw_g 6 rfl) tw_s0)))))) ?_
                  exact ih (r + 1) _ (by omega) (by split <;> omega) hF
            · refine ar_iconst (k := 71) rfl ?_
              refine ar_goto (k := 72) rfl ?_
              refine ar_aloadn (k := 74) rfl rfl ?_
              refine br_getR (k := 75) rfl (hS.k (by decide)) flR_9_12 (by decide) rfl (hS.r rfl) ?_
              refine ar_sipush (k := 76) rfl (by decide) ?_
              refine ar_iload (k := 77) rfl rfl ?_
              refine ar_iadd (k := 78) rfl ?_
              refine br_iads (k := 79) rfl (hS.k (by decide)) (by omega) (by omega) (by decide) hs ?_
              refine ar_iconst (k := 80) rfl ?_
              refine ar_icmp_ne (k := 81) rfl (by omega) (by omega) (fun c81 => ?_) (fun c81 => ?_)
              · refine ar_iconst (k := 84) rfl ?_
                refine ar_icmp_ne (k := 85) rfl (by omega) (by omega) (fun c85 => ?_) (fun c85 => ?_)
                · refine ar_iconst (k := 88) rfl ?_
                  refine tw_top (y := if m = 1 ∧ (rOth s w r = -1 ∨ (rOth s w r = t ↔ s (138 + (r : Int)) = 1)) then 1 else 0) (by omega) ?_
                  refine ar_istore (k := 89) (l2 := [(4, _), (6, _), (5, _), (3, _), (2, _), (0, _), (1, _)]) rfl (by decide) rfl ?_
                  refine ar_iinc (k := 90) (l2 := [(5, _), (4, _), (6, _), (3, _), (2, _), (0, _), (1, _)]) rfl (by decide) rfl rfl ?_
                  refine ar_goto (k := 91) rfl ?_
                  refine ar_sub (l2 := [(5, vi ((r + 1 : Nat) : Int)), (4, vi (if m = 1 ∧ (rOth s w r = -1 ∨ (rOth s w r = t ↔ s (138 + (r : Int)) = 1)) then 1 else 0)), (3, vi (t : Int)), (2, vi a), (0, vr (some 69)), (1, vi w)]) (tw_s (tw_e 0 rfl (by omega)) (tw_s (tw_g 1 rfl) (tw_s (tw_g 3 rfl) (tw_s (tw_g 4 rfl) (tw_s (tw_g 5 rfl) (tw_s (tw_g 6 rfl) tw_s0)))))) ?_
                  exact ih (r + 1) _ (by omega) (by split <;> omega) hF
                · refine ar_iconst (k := 86) rfl ?_
                  refine ar_goto (k := 87) rfl ?_
                  refine tw_top (y := if m = 1 ∧ (rOth s w r = -1 ∨ (rOth s w r = t ↔ s (138 + (r : Int)) = 1)) then 1 else 0) (by omega) ?_
                  refine ar_istore (k := 89) (l2 := [(4, _), (6, _), (5, _), (3, _), (2, _), (0, _), (1, _)]) rfl (by decide) rfl ?_
                  refine ar_iinc (k := 90) (l2 := [(5, _), (4, _), (6, _), (3, _), (2, _), (0, _), (1, _)]) rfl (by decide) rfl rfl ?_
                  refine ar_goto (k := 91) rfl ?_
                  refine ar_sub (l2 := [(5, vi ((r + 1 : Nat) : Int)), (4, vi (if m = 1 ∧ (rOth s w r = -1 ∨ (rOth s w r = t ↔ s (138 + (r : Int)) = 1)) then 1 else 0)), (3, vi (t : Int)), (2, vi a), (0, vr (some 69)), (1, vi w)]) (tw_s (tw_e 0 rfl (by omega)) (tw_s (tw_g 1 rfl) (tw_s (tw_g 3 rfl) (tw_s (tw_g 4 rfl) (tw_s (tw_g 5 rfl) (tw_s (tw_g 6 rfl) tw_s0)))))) ?_
                  exact ih (r + 1) _ (by omega) (by split <;> omega) hF
              · refine ar_iconst (k := 82) rfl ?_
                refine ar_goto (k := 83) rfl ?_
                refine ar_icmp_ne (k := 85) rfl (by omega) (by omega) (fun c85 => ?_) (fun c85 => ?_)
                · refine ar_iconst (k := 88) rfl ?_
                  refine tw_top (y := if m = 1 ∧ (rOth s w r = -1 ∨ (rOth s w r = t ↔ s (138 + (r : Int)) = 1)) then 1 else 0) (by omega) ?_
                  refine ar_istore (k := 89) (l2 := [(4, _), (6, _), (5, _), (3, _), (2, _), (0, _), (1, _)]) rfl (by decide) rfl ?_
                  refine ar_iinc (k := 90) (l2 := [(5, _), (4, _), (6, _), (3, _), (2, _), (0, _), (1, _)]) rfl (by decide) rfl rfl ?_
                  refine ar_goto (k := 91) rfl ?_
                  refine ar_sub (l2 := [(5, vi ((r + 1 : Nat) : Int)), (4, vi (if m = 1 ∧ (rOth s w r = -1 ∨ (rOth s w r = t ↔ s (138 + (r : Int)) = 1)) then 1 else 0)), (3, vi (t : Int)), (2, vi a), (0, vr (some 69)), (1, vi w)]) (tw_s (tw_e 0 rfl (by omega)) (tw_s (tw_g 1 rfl) (tw_s (tw_g 3 rfl) (tw_s (tw_g 4 rfl) (tw_s (tw_g 5 rfl) (tw_s (tw_g 6 rfl) tw_s0)))))) ?_
                  exact ih (r + 1) _ (by omega) (by split <;> omega) hF
                · refine ar_iconst (k := 86) rfl ?_
                  refine ar_goto (k := 87) rfl ?_
                  refine tw_top (y := if m = 1 ∧ (rOth s w r = -1 ∨ (rOth s w r = t ↔ s (138 + (r : Int)) = 1)) then 1 else 0) (by omega) ?_
                  refine ar_istore (k := 89) (l2 := [(4, _), (6, _), (5, _), (3, _), (2, _), (0, _), (1, _)]) rfl (by decide) rfl ?_
                  refine ar_iinc (k := 90) (l2 := [(5, _), (4, _), (6, _), (3, _), (2, _), (0, _), (1, _)]) rfl (by decide) rfl rfl ?_
                  refine ar_goto (k := 91) rfl ?_
                  refine ar_sub (l2 := [(5, vi ((r + 1 : Nat) : Int)), (4, vi (if m = 1 ∧ (rOth s w r = -1 ∨ (rOth s w r = t ↔ s (138 + (r : Int)) = 1)) then 1 else 0)), (3, vi (t : Int)), (2, vi a), (0, vr (some 69)), (1, vi w)]) (tw_s (tw_e 0 rfl (by omega)) (tw_s (tw_g 1 rfl) (tw_s (tw_g 3 rfl) (tw_s (tw_g 4 rfl) (tw_s (tw_g 5 rfl) (tw_s (tw_g 6 rfl) tw_s0)))))) ?_
                  exact ih (r + 1) _ (by omega) (by split <;> omega) hF
theorem l_R_fits {w : Int} (hS : tSt (K, I, Q, n)) (hs : I 70 = s) (hR : RInv s) (w1 : 0 ≤ w ∧ w < 10) : ∀ (k : Nat) (j : Nat) (a : Int), j + k = (s 1).toNat → tw_AW l G mR_fits 3 0 0 n 0 (tw_fn (some (vi (orV (fun t => if rFitN s w (t : Int) (s 3).toNat 0 (if (t : Int) ≠ w then 1 else 0) = 1 then bShl 1 t else 0) k j a))) (K, I, Q, n)) 14 [(3, vi (j : Int)), (2, vi a), (0, vr (some 69)), (1, vi w)] [] (K, I, Q, n) := by
  obtain ⟨h0, h1, h2, h3, h4, h5, h6, hp, hrw, ht, hr, hb, htp, hv⟩ := id hR
  intro k
  induction k with
  | zero =>
    intro j a hj
    refine ar_iloadn (k := 10) rfl rfl ?_
    refine ar_aloadn (k := 11) rfl rfl ?_
    refine br_getR (k := 12) rfl (hS.k (by decide)) flR_9_12 (by decide) rfl (hS.r rfl) ?_
    refine ar_iconst (k := 13) rfl ?_
    refine br_iads (k := 14) rfl (hS.k (by decide)) (by omega) (by omega) (by decide) hs ?_
    refine ar_icmp_ge (k := 15) rfl (by omega) (by omega) (fun c15 => ?_) (fun c15 => ?_)
    · refine ar_iloadn (k := 104) rfl rfl ?_
      refine ar_iret (k := 105) rfl rfl rfl (Nat.le_refl _) ?_
      exact ⟨rfl, rfl⟩
    · exfalso; omega
  | succ k ih =>
    intro j a hj
    refine ar_iloadn (k := 10) rfl rfl ?_
    refine ar_aloadn (k := 11) rfl rfl ?_
    refine br_getR (k := 12) rfl (hS.k (by decide)) flR_9_12 (by decide) rfl (hS.r rfl) ?_
    refine ar_iconst (k := 13) rfl ?_
    refine br_iads (k := 14) rfl (hS.k (by decide)) (by omega) (by omega) (by decide) hs ?_
    refine ar_icmp_ge (k := 15) rfl (by omega) (by omega) (fun c15 => ?_) (fun c15 => ?_)
    · exfalso; omega
    · refine ar_iloadn (k := 16) rfl rfl ?_
      refine ar_iloadn (k := 17) rfl rfl ?_
      refine ar_icmp_eq (k := 18) rfl (by omega) (by omega) (fun c18 => ?_) (fun c18 => ?_)
      · refine ar_iconst (k := 21) rfl ?_
        refine ar_istore (k := 22) (l2 := [(4, _), (3, _), (2, _), (0, _), (1, _)]) rfl (by decide) rfl ?_
        refine ar_iconst (k := 23) rfl ?_
        refine ar_istore (k := 24) (l2 := [(5, _), (4, _), (3, _), (2, _), (0, _), (1, _)]) rfl (by decide) rfl ?_
        refine ar_sub (l2 := [(5, vi ((0 : Nat) : Int)), (4, vi (if (j : Int) ≠ w then 1 else 0)), (3, vi (j : Int)), (2, vi a), (0, vr (some 69)), (1, vi w)]) (tw_s (tw_e 0 rfl (by rfl)) (tw_s (tw_e 1 rfl (by omega)) (tw_s (tw_g 2 rfl) (tw_s (tw_g 3 rfl) (tw_s (tw_g 4 rfl) (tw_s (tw_g 5 rfl) tw_s0)))))) ?_
        refine li_R_fits (t := j) (a := a) (w := w) hS hs hR (F := rFitN s w (j : Int) (s 3).toNat 0 (if (j : Int) ≠ w then 1 else 0)) (by omega) (by omega) ?_ _ 0 _ (by omega) (by omega) rfl
        intro r2
        have h01 := rFitN_01 (s := s) (a := w) (t := (j : Int)) (s 3).toNat 0 (if (j : Int) ≠ w then 1 else 0) (by omega)
        obtain ⟨fv, hfv⟩ : ∃ fv, rFitN s w (j : Int) (s 3).toNat 0 (if (j : Int) ≠ w then 1 else 0) = fv := ⟨_, rfl⟩
        rw [hfv] at h01
        rw [hfv]
        refine ar_iloadn (k := 92) rfl rfl ?_
        refine ar_iload (k := 93) rfl rfl ?_
        refine ar_if_eq (k := 94) rfl (by omega) (fun c94 => ?_) (fun c94 => ?_)
        · refine ar_iconst (k := 99) rfl ?_
          refine tw_top (y := (fun t => if rFitN s w (t : Int) (s 3).toNat 0 (if (t : Int) ≠ w then 1 else 0) = 1 then bShl 1 t else 0) j) (by show _ = (if rFitN s w (j : Int) (s 3).toNat 0 (if (j : Int) ≠ w then 1 else 0) = 1 then _ else _); rw [hfv]; (repeat' split) <;> first | rfl | (exfalso; omega)) ?_
          refine ar_ior (k := 100) rfl ?_
          refine ar_istoren (k := 101) (l2 := [(2, _), (5, _), (4, _), (3, _), (0, _), (1, _)]) rfl (by decide) rfl ?_
          refine ar_iinc (k := 102) (l2 := [(3, _), (2, _), (5, _), (4, _), (0, _), (1, _)]) rfl (by decide) rfl rfl ?_
          refine ar_goto (k := 103) rfl ?_
          refine ar_sub (l2 := [(3, vi ((j + 1 : Nat) : Int)), (2, vi (bOr a ((fun t => if rFitN s w (t : Int) (s 3).toNat 0 (if (t : Int) ≠ w then 1 else 0) = 1 then bShl 1 t else 0) j))), (0, vr (some 69)), (1, vi w)]) (tw_s (tw_e 0 rfl (by omega)) (tw_s (tw_e 1 rfl (by rfl)) (tw_s (tw_g 4 rfl) (tw_s (tw_g 5 rfl) tw_s0)))) ?_
          exact ih (j + 1) _ (by omega)
        · refine ar_iconst (k := 95) rfl ?_
          refine ar_iloadn (k := 96) rfl rfl ?_
          refine ar_ishl (k := 97) rfl ?_
          refine ar_goto (k := 98) rfl ?_
          refine tw_top (y := (fun t => if rFitN s w (t : Int) (s 3).toNat 0 (if (t : Int) ≠ w then 1 else 0) = 1 then bShl 1 t else 0) j) (by show _ = (if rFitN s w (j : Int) (s 3).toNat 0 (if (j : Int) ≠ w then 1 else 0) = 1 then _ else _); rw [hfv]; (repeat' split) <;> first | rfl | (exfalso; omega)) ?_
          refine ar_ior (k := 100) rfl ?_
          refine ar_istoren (k := 101) (l2 := [(2, _), (5, _), (4, _), (3, _), (0, _), (1, _)]) rfl (by decide) rfl ?_
          refine ar_iinc (k := 102) (l2 := [(3, _), (2, _), (5, _), (4, _), (0, _), (1, _)]) rfl (by decide) rfl rfl ?_
          refine ar_goto (k := 103) rfl ?_
          refine ar_sub (l2 := [(3, vi ((j + 1 : Nat) : Int)), (2, vi (bOr a ((fun t => if rFitN s w (t : Int) (s 3).toNat 0 (if (t : Int) ≠ w then 1 else 0) = 1 then bShl 1 t else 0) j))), (0, vr (some 69)), (1, vi w)]) (tw_s (tw_e 0 rfl (by omega)) (tw_s (tw_e 1 rfl (by rfl)) (tw_s (tw_g 4 rfl) (tw_s (tw_g 5 rfl) tw_s0)))) ?_
          exact ih (j + 1) _ (by omega)
      · refine ar_iconst (k := 19) rfl ?_
        refine ar_goto (k := 20) rfl ?_
        refine ar_istore (k := 22) (l2 := [(4, _), (3, _), (2, _), (0, _), (1, _)]) rfl (by decide) rfl ?_
        refine ar_iconst (k := 23) rfl ?_
        refine ar_istore (k := 24) (l2 := [(5, _), (4, _), (3, _), (2, _), (0, _), (1, _)]) rfl (by decide) rfl ?_
        refine ar_sub (l2 := [(5, vi ((0 : Nat) : Int)), (4, vi (if (j : Int) ≠ w then 1 else 0)), (3, vi (j : Int)), (2, vi a), (0, vr (some 69)), (1, vi w)]) (tw_s (tw_e 0 rfl (by rfl)) (tw_s (tw_e 1 rfl (by omega)) (tw_s (tw_g 2 rfl) (tw_s (tw_g 3 rfl) (tw_s (tw_g 4 rfl) (tw_s (tw_g 5 rfl) tw_s0)))))) ?_
        refine li_R_fits (t := j) (a := a) (w := w) hS hs hR (F := rFitN s w (j : Int) (s 3).toNat 0 (if (j : Int) ≠ w then 1 else 0)) (by omega) (by omega) ?_ _ 0 _ (by omega) (by omega) rfl
        intro r2
        have h01 := rFitN_01 (s := s) (a := w) (t := (j : Int)) (s 3).toNat 0 (if (j : Int) ≠ w then 1 else 0) (by omega)
        obtain ⟨fv, hfv⟩ : ∃ fv, rFitN s w (j : Int) (s 3).toNat 0 (if (j : Int) ≠ w then 1 else 0) = fv := ⟨_, rfl⟩
        rw [hfv] at h01
        rw [hfv]
        refine ar_iloadn (k := 92) rfl rfl ?_
        refine ar_iload (k := 93) rfl rfl ?_
        refine ar_if_eq (k := 94) rfl (by omega) (fun c94 => ?_) (fun c94 => ?_)
        · refine ar_iconst (k := 99) rfl ?_
          refine tw_top (y := (fun t => if rFitN s w (t : Int) (s 3).toNat 0 (if (t : Int) ≠ w then 1 else 0) = 1 then bShl 1 t else 0) j) (by show _ = (if rFitN s w (j : Int) (s 3).toNat 0 (if (j : Int) ≠ w then 1 else 0) = 1 then _ else _); rw [hfv]; (repeat' split) <;> first | rfl | (exfalso; omega)) ?_
          refine ar_ior (k := 100) rfl ?_
          refine ar_istoren (k := 101) (l2 := [(2, _), (5, _), (4, _), (3, _), (0, _), (1, _)]) rfl (by decide) rfl ?_
          refine ar_iinc (k := 102) (l2 := [(3, _), (2, _), (5, _), (4, _), (0, _), (1, _)]) rfl (by decide) rfl rfl ?_
          refine ar_goto (k := 103) rfl ?_
          refine ar_sub (l2 := [(3, vi ((j + 1 : Nat) : Int)), (2, vi (bOr a ((fun t => if rFitN s w (t : Int) (s 3).toNat 0 (if (t : Int) ≠ w then 1 else 0) = 1 then bShl 1 t else 0) j))), (0, vr (some 69)), (1, vi w)]) (tw_s (tw_e 0 rfl (by omega)) (tw_s (tw_e 1 rfl (by rfl)) (tw_s (tw_g 4 rfl) (tw_s (tw_g 5 rfl) tw_s0)))) ?_
          exact ih (j + 1) _ (by omega)
        · refine ar_iconst (k := 95) rfl ?_
          refine ar_iloadn (k := 96) rfl rfl ?_
          refine ar_ishl (k := 97) rfl ?_
          refine ar_goto (k := 98) rfl ?_
          refine tw_top (y := (fun t => if rFitN s w (t : Int) (s 3).toNat 0 (if (t : Int) ≠ w then 1 else 0) = 1 then bShl 1 t else 0) j) (by show _ = (if rFitN s w (j : Int) (s 3).toNat 0 (if (j : Int) ≠ w then 1 else 0) = 1 then _ else _); rw [hfv]; (repeat' split) <;> first | rfl | (exfalso; omega)) ?_
          refine ar_ior (k := 100) rfl ?_
          refine ar_istoren (k := 101) (l2 := [(2, _), (5, _), (4, _), (3, _), (0, _), (1, _)]) rfl (by decide) rfl ?_
          refine ar_iinc (k := 102) (l2 := [(3, _), (2, _), (5, _), (4, _), (0, _), (1, _)]) rfl (by decide) rfl rfl ?_
          refine ar_goto (k := 103) rfl ?_
          refine ar_sub (l2 := [(3, vi ((j + 1 : Nat) : Int)), (2, vi (bOr a ((fun t => if rFitN s w (t : Int) (s 3).toNat 0 (if (t : Int) ≠ w then 1 else 0) = 1 then bShl 1 t else 0) j))), (0, vr (some 69)), (1, vi w)]) (tw_s (tw_e 0 rfl (by omega)) (tw_s (tw_e 1 rfl (by rfl)) (tw_s (tw_g 4 rfl) (tw_s (tw_g 5 rfl) tw_s0)))) ?_
          exact ih (j + 1) _ (by omega)
theorem c_R_fits {w : Int} (hS : tSt (K, I, Q, n)) (hs : I 70 = s) (hR : RInv s) (tw : tr w) : tw_F l G 3 0 0 mR_fits [vr (some 69), vi w] (K, I, Q, n) (some (vi (if 0 ≤ w ∧ w ≤ s 1 - 1 then rFits s w else -1))) (K, I, Q, n) := by
  obtain ⟨h0, h1, h2, h3, h4, h5, h6, hp, hrw, ht, hr, hb, htp, hv⟩ := id hR
  refine tw_intro okR_fits (Nat.le_of_ble_eq_true rfl) ?_
  refine ar_aloadn (k := 0) rfl rfl ?_
  refine ar_iloadn (k := 1) rfl rfl ?_
  refine br_callV (k := 2) (as := [_]) rfl lvR_120 (hS.k (by decide)) rfl (c_S_isTool hS hs (by omega) h1) rfl (by decide) (by decide) tw_m0 (Nat.le_of_ble_eq_true rfl) ?_
  refine ar_if_ne (k := 3) rfl (by omega) (fun c3 => ?_) (fun c3 => ?_)
  · refine ar_iconst (k := 6) rfl ?_
    refine ar_istoren (k := 7) (l2 := [(2, _), (0, _), (1, _)]) rfl (by decide) rfl ?_
    refine ar_iconst (k := 8) rfl ?_
    refine ar_istoren (k := 9) (l2 := [(3, _), (2, _), (0, _), (1, _)]) rfl (by decide) rfl ?_
    refine ar_sub (l2 := [(3, vi ((0 : Nat) : Int)), (2, vi 0), (0, vr (some 69)), (1, vi w)]) (tw_s (tw_e 0 rfl (by rfl)) (tw_s (tw_g 1 rfl) (tw_s (tw_g 2 rfl) (tw_s (tw_g 3 rfl) tw_s0)))) ?_
    rw [if_pos (by omega)]
    exact l_R_fits hS hs hR (by omega) _ 0 0 (by omega)
  · refine ar_iconst (k := 4) rfl ?_
    refine ar_iret (k := 5) rfl rfl rfl (Nat.le_refl _) ?_
    exact ⟨congrArg (fun z => some (vi z)) (by omega), rfl⟩
theorem l_R_looked (hS : tSt (K, I, Q, n)) (hR : RInv s) (hV : RVal s) : ∀ (k : Nat) (j : Nat) (J : Nat → Int → Int), j + k = (s 4).toNat → J 70 = s → rk I J → tw_AW l G mR_looked 6 0 0 n 0 (fun r h' => r = some (vi (fstD (-5) (fun r => decide (¬ rGoP s (s (162 + (r : Int))) (rWork s (s (150 + (r : Int)))))) k j)) ∧ ∃ L, h' = (K, L, Q, n) ∧ rk I L) 2 [(1, vi (j : Int)), (0, vr (some 69))] [] (K, J, Q, n) := by
  obtain ⟨h0, h1, h2, h3, h4, h5, h6, hp, hrw, ht, hr, hb, htp, hv⟩ := id hR
  intro k
  induction k with
  | zero =>
    intro j J hj hs hk
    refine ar_iloadn (k := 2) rfl rfl ?_
    refine ar_aloadn (k := 3) rfl rfl ?_
    refine br_getR (k := 4) rfl (hS.k (by decide)) flR_9_12 (by decide) rfl (hS.r rfl) ?_
    refine ar_iconst (k := 5) rfl ?_
    refine br_iads (k := 6) rfl (hS.k (by decide)) (by omega) (by omega) (by decide) hs ?_
    refine ar_icmp_ge (k := 7) rfl (by omega) (by omega) (fun c7 => ?_) (fun c7 => ?_)
    · refine ar_bipush (k := 29) rfl (by decide) ?_
      refine ar_iret (k := 30) rfl rfl rfl (Nat.le_refl _) ?_
      exact ⟨rfl, J, rfl, hk⟩
    · exfalso; omega
  | succ k ih =>
    intro j J hj hs hk
    refine ar_iloadn (k := 2) rfl rfl ?_
    refine ar_aloadn (k := 3) rfl rfl ?_
    refine br_getR (k := 4) rfl (hS.k (by decide)) flR_9_12 (by decide) rfl (hS.r rfl) ?_
    refine ar_iconst (k := 5) rfl ?_
    refine br_iads (k := 6) rfl (hS.k (by decide)) (by omega) (by omega) (by decide) hs ?_
    refine ar_icmp_ge (k := 7) rfl (by omega) (by omega) (fun c7 => ?_) (fun c7 => ?_)
    · exfalso; omega
    · have hw := hb j (by omega) (by omega)
      refine ar_aloadn (k := 8) rfl rfl ?_
      refine ar_aloadn (k := 9) rfl rfl ?_
      refine br_getR (k := 10) rfl (hS.k (by decide)) flR_9_12 (by decide) rfl (hS.r rfl) ?_
      refine ar_sipush (k := 11) rfl (by decide) ?_
      refine ar_iloadn (k := 12) rfl rfl ?_
      refine ar_iadd (k := 13) rfl ?_
      refine br_iads (k := 14) rfl (hS.k (by decide)) (by omega) (by omega) (by decide) hs ?_
      refine ar_aloadn (k := 15) rfl rfl ?_
      refine ar_aloadn (k := 16) rfl rfl ?_
      refine br_getR (k := 17) rfl (hS.k (by decide)) flR_9_12 (by decide) rfl (hS.r rfl) ?_
      refine ar_sipush (k := 18) rfl (by decide) ?_
      refine ar_iloadn (k := 19) rfl rfl ?_
      refine ar_iadd (k := 20) rfl ?_
      refine br_iads (k := 21) rfl (hS.k (by decide)) (by omega) (by omega) (by decide) hs ?_
      refine br_callVR (k := 22) (as := [_]) rfl lvR_160 (hS.k (by decide)) rfl (c_R_workedAt hS hs hR hV (by omega)) rfl (by decide) (by decide) tw_m0 (Nat.le_of_ble_eq_true rfl) (fun I22 q22 => ?_)
      have hs22 : I22 70 = s := q22.s.trans hs
      have hk22 := rk.trans hk q22
      refine br_callV (k := 23) (as := [_, _]) rfl lvR_163 (hS.k (by decide)) rfl (c_R_doesGo hS hs22 hR (by omega)) rfl (by decide) (by decide) tw_m0 (Nat.le_of_ble_eq_true rfl) ?_
      refine ar_if_ne (k := 24) rfl (by omega) (fun c24 => ?_) (fun c24 => ?_)
      · refine ar_iinc (k := 27) (l2 := [(1, _), (0, _)]) rfl (by decide) rfl rfl ?_
        refine ar_goto (k := 28) rfl ?_
        refine ar_sub (l2 := [(1, vi ((j + 1 : Nat) : Int)), (0, vr (some 69))]) (tw_s (tw_e 0 rfl (by omega)) (tw_s (tw_g 1 rfl) tw_s0)) ?_
        rw [show fstD (-5) (fun r => decide (¬ rGoP s (s (162 + (r : Int))) (rWork s (s (150 + (r : Int)))))) (k + 1) j = fstD (-5) (fun r => decide (¬ rGoP s (s (162 + (r : Int))) (rWork s (s (150 + (r : Int)))))) k (j + 1) by rw [fstD, if_neg (by simp only [decide_eq_true_eq]; omega)]]
        exact ih (j + 1) I22 (by omega) hs22 hk22
      · refine ar_iloadn (k := 25) rfl rfl ?_
        refine ar_iret (k := 26) rfl rfl rfl (Nat.le_refl _) ?_
        refine ⟨congrArg (fun z => some (vi z)) ?_, I22, rfl, hk22⟩
        rw [fstD, if_pos (by simp only [decide_eq_true_eq]; omega)]
theorem c_R_looked (hS : tSt (K, I, Q, n)) (hs : I 70 = s) (hR : RInv s) (hV : RVal s) : tw_R l G 6 mR_looked [vr (some 69)] K I Q n (some (vi (rLook s))) := by
  obtain ⟨h0, h1, h2, h3, h4, h5, h6, hp, hrw, ht, hr, hb, htp, hv⟩ := id hR
  refine tw_intro okR_looked (Nat.le_of_ble_eq_true rfl) ?_
  refine ar_iconst (k := 0) rfl ?_
  refine ar_istoren (k := 1) (l2 := [(1, _), (0, _)]) rfl (by decide) rfl ?_
  refine ar_sub (l2 := [(1, vi ((0 : Nat) : Int)), (0, vr (some 69))]) (tw_s (tw_e 0 rfl (by rfl)) (tw_s (tw_g 1 rfl) tw_s0)) ?_
  exact l_R_looked (I := I) hS hR hV _ 0 I (by omega) hs rk.rf
end RK
