section RJ
variable {l : Launch} {G : tG} {K : Nat → Nat × Nat} {I : Nat → Int → Int} {Q : Nat → Int → Option Nat} {n : Nat} {s : Int → Int}
theorem li_R_change {a : Nat} {is w : Int} (hS : tSt (K, I, Q, n)) (hR : RInv s) (hV : RVal s) {P : Option tV → tH → Prop} {F : Int × Int × Int} (a1 : (a : Int) < s 1) (cont : ∀ (b : Int) (J : Nat → Int → Int), J 70 = s → rq I J → tw_AW l G mR_change 18 0 0 n 0 P 151 [(7, vi b), (6, vi (a : Int)), (5, vi F.2.2), (4, vi F.2.1), (3, vi F.1), (2, vi is), (0, vr (some 69)), (1, vi w)] [] (K, J, Q, n)) : ∀ (k b : Nat) (bs o1 o2 : Int) (J : Nat → Int → Int), b + k = (s 1).toNat → a < b → J 70 = s → rq I J → (-12000000 ≤ bs ∧ bs ≤ 12000000) → rChB s a k b (bs, o1, o2) = F → tw_AW l G mR_change 18 0 0 n 0 P 46 [(7, vi (b : Int)), (6, vi (a : Int)), (5, vi o2), (4, vi o1), (3, vi bs), (2, vi is), (0, vr (some 69)), (1, vi w)] [] (K, J, Q, n) := by
  obtain ⟨h0, h1, h2, h3, h4, h5, h6, hp, hrw, ht, hr, hb, htp, hv⟩ := id hR
  intro k
  induction k with
  | zero =>
    intro b bs o1 o2 J hj hab hs hk hbs hF
    refine ar_iload (k := 28) rfl rfl ?_
    refine ar_aloadn (k := 29) rfl rfl ?_
    refine br_getR (k := 30) rfl (hS.k (by decide)) flR_9_12 (by decide) rfl (hS.r rfl) ?_
    refine ar_iconst (k := 31) rfl ?_
    refine br_iads (k := 32) rfl (hS.k (by decide)) (by omega) (by omega) (by decide) hs ?_
    refine ar_icmp_ge (k := 33) rfl (by omega) (by omega) (fun c33 => ?_) (fun c33 => ?_)
    · rw [rChB] at hF
      subst hF
      exact cont _ J hs hk
    · exfalso; omega
  | succ k ih =>
    intro b bs o1 o2 J hj hab hs hk hbs hF
    have hbd := rBestDay_bd (RInv_swap (a := a) (b := b) (by omega) (by omega) hR) (RVal_swap (by omega) (by omega) hV)
    have wa := ht a (by omega) (by omega)
    have wb := ht b (by omega) (by omega)
    refine ar_iload (k := 28) rfl rfl ?_
    refine ar_aloadn (k := 29) rfl rfl ?_
    refine br_getR (k := 30) rfl (hS.k (by decide)) flR_9_12 (by decide) rfl (hS.r rfl) ?_
    refine ar_iconst (k := 31) rfl ?_
    refine br_iads (k := 32) rfl (hS.k (by decide)) (by omega) (by omega) (by decide) hs ?_
    refine ar_icmp_ge (k := 33) rfl (by omega) (by omega) (fun c33 => ?_) (fun c33 => ?_)
    · exfalso; omega
    · refine ar_aloadn (k := 34) rfl rfl ?_
      refine br_getR (k := 35) rfl (hS.k (by decide)) flR_9_12 (by decide) rfl (hS.r rfl) ?_
      refine ar_bipush (k := 36) rfl (by decide) ?_
      refine ar_iload (k := 37) rfl rfl ?_
      refine ar_iadd (k := 38) rfl ?_
      refine br_iads (k := 39) rfl (hS.k (by decide)) (by omega) (by omega) (by decide) hs ?_
      refine ar_aloadn (k := 40) rfl rfl ?_
      refine br_getR (k := 41) rfl (hS.k (by decide)) flR_9_12 (by decide) rfl (hS.r rfl) ?_
      refine ar_bipush (k := 42) rfl (by decide) ?_
      refine ar_iload (k := 43) rfl rfl ?_
      refine ar_iadd (k := 44) rfl ?_
      refine br_iads (k := 45) rfl (hS.k (by decide)) (by omega) (by omega) (by decide) hs ?_
      refine ar_icmp_eq (k := 46) rfl (by omega) (by omega) (fun c46 => ?_) (fun c46 => ?_)
      · first
          | (exfalso; omega)
          | (refine ar_iinc (k := 79) (l2 := [(7, _), (6, _), (5, _), (4, _), (3, _), (2, _), (0, _), (1, _)]) rfl (by decide) rfl rfl ?_; refine ar_goto (k := 80) rfl ?_; refine ar_sub (l2 := [(7, vi ((b + 1 : Nat) : Int)), (6, vi (a : Int)), (5, vi (b : Int)), (4, vi (a : Int)), (3, vi (rBestDay (rSwap s a b))), (2, vi is), (0, vr (some 69)), (1, vi w)]) (tw_s (tw_e 0 rfl (by omega)) (tw_s (tw_g 1 rfl) (tw_s (tw_g 2 rfl) (tw_s (tw_g 3 rfl) (tw_s (tw_g 4 rfl) (tw_s (tw_g 5 rfl) (tw_s (tw_g 6 rfl) (tw_s (tw_g 7 rfl) tw_s0)))))))) ?_; exact ih (b + 1) _ _ _ J (by omega) (by omega) hs hk hbd (by rw [rChB, if_pos (by refine ⟨by omega, by show bs < _; omega⟩)] at hF; exact hF))
          | (refine ar_iinc (k := 79) (l2 := [(7, _), (6, _), (5, _), (4, _), (3, _), (2, _), (0, _), (1, _)]) rfl (by decide) rfl rfl ?_; refine ar_goto (k := 80) rfl ?_; refine ar_sub (l2 := [(7, vi ((b + 1 : Nat) : Int)), (6, vi (a : Int)), (5, vi o2), (4, vi o1), (3, vi (bs)), (2, vi is), (0, vr (some 69)), (1, vi w)]) (tw_s (tw_e 0 rfl (by omega)) (tw_s (tw_g 1 rfl) (tw_s (tw_g 2 rfl) (tw_s (tw_g 3 rfl) (tw_s (tw_g 4 rfl) (tw_s (tw_g 5 rfl) (tw_s (tw_g 6 rfl) (tw_s (tw_g 7 rfl) tw_s0)))))))) ?_; exact ih (b + 1) _ _ _ J (by omega) (by omega) hs hk hbs (by rw [rChB, if_neg (by show ¬ (_ ∧ bs < _); omega)] at hF; exact hF))
      · refine ar_aloadn (k := 47) rfl rfl ?_
        refine ar_iload (k := 48) rfl rfl ?_
        refine ar_iload (k := 49) rfl rfl ?_
        refine br_callV (k := 50) (as := [_, _]) rfl lvR_203 (hS.k (by decide)) rfl (c_R_changes hS hs (by omega) (by omega) (by omega)) rfl (by decide) (by decide) tw_m0 (Nat.le_of_ble_eq_true rfl) ?_
        refine ar_aloadn (k := 51) rfl rfl ?_
        refine br_callVK (k := 52) (as := []) rfl lvR_200 (hS.k (by decide)) rfl (c_R_bestDay (s := rSwap s a b) hS (setA_at _ _ _) (RInv_swap (by omega) (by omega) hR) (RVal_swap (by omega) (by omega) hV)) rfl (by decide) (by decide) tw_m0 (Nat.le_of_ble_eq_true rfl) (fun I52 q52 => ?_)
        refine ar_istore (k := 53) (l2 := [(8, _), (7, _), (6, _), (5, _), (4, _), (3, _), (2, _), (0, _), (1, _)]) rfl (by decide) rfl ?_
        refine ar_aloadn (k := 54) rfl rfl ?_
        refine ar_iload (k := 55) rfl rfl ?_
        refine ar_iload (k := 56) rfl rfl ?_
        refine br_callV (k := 57) (as := [_, _]) rfl lvR_203 (hS.k (by decide)) rfl (c_R_changes (s := rSwap s a b) hS (q52.s.trans (setA_at _ _ _)) (by omega) (by omega) (by omega)) rfl (by decide) (by decide) tw_m0 (Nat.le_of_ble_eq_true rfl) ?_
        rw [rSwap_swap (by omega)]
        obtain ⟨J3, e3⟩ : ∃ J3, J3 = setA I52 70 s := ⟨_, rfl⟩
        rw [← e3]
        have hs3 : J3 70 = s := by rw [e3, setA_at]
        have hk3 : rq I J3 := by rw [e3]; exact rq_back hk hs q52
        refine ar_iload (k := 58) rfl rfl ?_
        refine ar_iloadn (k := 59) rfl rfl ?_
        refine ar_icmp_le (k := 60) rfl (by omega) (by omega) (fun c60 => ?_) (fun c60 => ?_)
        · refine ar_iload (k := 63) rfl rfl ?_
          refine ar_istore (k := 64) (l2 := [(4, _), (8, _), (7, _), (6, _), (5, _), (3, _), (2, _), (0, _), (1, _)]) rfl (by decide) rfl ?_
          refine ar_iload (k := 65) rfl rfl ?_
          refine ar_iloadn (k := 66) rfl rfl ?_
          refine ar_icmp_le (k := 67) rfl (by omega) (by omega) (fun c67 => ?_) (fun c67 => ?_)
          · refine ar_iload (k := 70) rfl rfl ?_
            refine ar_istore (k := 71) (l2 := [(5, _), (4, _), (8, _), (7, _), (6, _), (3, _), (2, _), (0, _), (1, _)]) rfl (by decide) rfl ?_
            refine ar_iload (k := 72) rfl rfl ?_
            refine ar_iloadn (k := 73) rfl rfl ?_
            refine ar_icmp_le (k := 74) rfl (by omega) (by omega) (fun c74 => ?_) (fun c74 => ?_)
            · refine ar_iloadn (k := 77) rfl rfl ?_
              refine ar_istoren (k := 78) (l2 := [(3, _), (5, _), (4, _), (8, _), (7, _), (6, _), (2, _), (0, _), (1, _)]) rfl (by decide) rfl ?_
              first
                | (exfalso; omega)
                | (refine ar_iinc (k := 79) (l2 := [(7, _), (3, _), (5, _), (4, _), (8, _), (6, _), (2, _), (0, _), (1, _)]) rfl (by decide) rfl rfl ?_; refine ar_goto (k := 80) rfl ?_; refine ar_sub (l2 := [(7, vi ((b + 1 : Nat) : Int)), (6, vi (a : Int)), (5, vi (b : Int)), (4, vi (a : Int)), (3, vi (rBestDay (rSwap s a b))), (2, vi is), (0, vr (some 69)), (1, vi w)]) (tw_s (tw_e 0 rfl (by omega)) (tw_s (tw_g 5 rfl) (tw_s (tw_g 2 rfl) (tw_s (tw_g 3 rfl) (tw_s (tw_g 1 rfl) (tw_s (tw_g 6 rfl) (tw_s (tw_g 7 rfl) (tw_s (tw_g 8 rfl) tw_s0)))))))) ?_; exact ih (b + 1) _ _ _ J3 (by omega) (by omega) hs3 hk3 hbd (by rw [rChB, if_pos (by refine ⟨by omega, by show bs < _; omega⟩)] at hF; exact hF))
                | (refine ar_iinc (k := 79) (l2 := [(7, _), (3, _), (5, _), (4, _), (8, _), (6, _), (2, _), (0, _), (1, _)]) rfl (by decide) rfl rfl ?_; refine ar_goto (k := 80) rfl ?_; refine ar_sub (l2 := [(7, vi ((b + 1 : Nat) : Int)), (6, vi (a : Int)), (5, vi o2), (4, vi o1), (3, vi (bs)), (2, vi is), (0, vr (some 69)), (1, vi w)]) (tw_s (tw_e 0 rfl (by omega)) (tw_s (tw_g 5 rfl) (tw_s (tw_g 2 rfl) (tw_s (tw_g 3 rfl) (tw_s (tw_g 1 rfl) (tw_s (tw_g 6 rfl) (tw_s (tw_g 7 rfl) (tw_s (tw_g 8 rfl) tw_s0)))))))) ?_; exact ih (b + 1) _ _ _ J3 (by omega) (by omega) hs3 hk3 hbs (by rw [rChB, if_neg (by show ¬ (_ ∧ bs < _); omega)] at hF; exact hF))
            · refine ar_iload (k := 75) rfl rfl ?_
              refine ar_goto (k := 76) rfl ?_
              refine ar_istoren (k := 78) (l2 := [(3, _), (5, _), (4, _), (8, _), (7, _), (6, _), (2, _), (0, _), (1, _)]) rfl (by decide) rfl ?_
              first
                | (exfalso; omega)
                | (refine ar_iinc (k := 79) (l2 := [(7, _), (3, _), (5, _), (4, _), (8, _), (6, _), (2, _), (0, _), (1, _)]) rfl (by decide) rfl rfl ?_; refine ar_goto (k := 80) rfl ?_; refine ar_sub (l2 := [(7, vi ((b + 1 : Nat) : Int)), (6, vi (a : Int)), (5, vi (b : Int)), (4, vi (a : Int)), (3, vi (rBestDay (rSwap s a b))), (2, vi is), (0, vr (some 69)), (1, vi w)]) (tw_s (tw_e 0 rfl (by omega)) (tw_s (tw_g 5 rfl) (tw_s (tw_g 2 rfl) (tw_s (tw_g 3 rfl) (tw_s (tw_g 1 rfl) (tw_s (tw_g 6 rfl) (tw_s (tw_g 7 rfl) (tw_s (tw_g 8 rfl) tw_s0)))))))) ?_; exact ih (b + 1) _ _ _ J3 (by omega) (by omega) hs3 hk3 hbd (by rw [rChB, if_pos (by refine ⟨by omega, by show bs < _; omega⟩)] at hF; exact hF))
                | (refine ar_iinc (k := 79) (l2 := [(7, _), (3, _), (5, _), (4, _), (8, _), (6, _), (2, _), (0, _), (1, _)]) rfl (by decide) rfl rfl ?_; refine ar_goto (k := 80) rfl ?_; refine ar_sub (l2 := [(7, vi ((b + 1 : Nat) : Int)), (6, vi (a : Int)), (5, vi o2), (4, vi o1), (3, vi (bs)), (2, vi is), (0, vr (some 69)), (1, vi w)]) (tw_s (tw_e 0 rfl (by omega)) (tw_s (tw_g 5 rfl) (tw_s (tw_g 2 rfl) (tw_s (tw_g 3 rfl) (tw_s (tw_g 1 rfl) (tw_s (tw_g 6 rfl) (tw_s (tw_g 7 rfl) (tw_s (tw_g 8 rfl) tw_s0)))))))) ?_; exact ih (b + 1) _ _ _ J3 (by omega) (by omega) hs3 hk3 hbs (by rw [rChB, if_neg (by show ¬ (_ ∧ bs < _); omega)] at hF; exact hF))
          · refine ar_iload (k := 68) rfl rfl ?_
            refine ar_goto (k := 69) rfl ?_
            refine ar_istore (k := 71) (l2 := [(5, _), (4, _), (8, _), (7, _), (6, _), (3, _), (2, _), (0, _), (1, _)]) rfl (by decide) rfl ?_
            refine ar_iload (k := 72) rfl rfl ?_
            refine ar_iloadn (k := 73) rfl rfl ?_
            refine ar_icmp_le (k := 74) rfl (by omega) (by omega) (fun c74 => ?_) (fun c74 => ?_)
            · refine ar_iloadn (k := 77) rfl rfl ?_
              refine ar_istoren (k := 78) (l2 := [(3, _), (5, _), (4, _), (8, _), (7, _), (6, _), (2, _), (0, _), (1, _)]) rfl (by decide) rfl ?_
              first
                | (exfalso; omega)
                | (refine ar_iinc (k := 79) (l2 := [(7, _), (3, _), (5, _), (4, _), (8, _), (6, _), (2, _), (0, _), (1, _)]) rfl (by decide) rfl rfl ?_; refine ar_goto (k := 80) rfl ?_; refine ar_sub (l2 := [(7, vi ((b + 1 : Nat) : Int)), (6, vi (a : Int)), (5, vi (b : Int)), (4, vi (a : Int)), (3, vi (rBestDay (rSwap s a b))), (2, vi is), (0, vr (some 69)), (1, vi w)]) (tw_s (tw_e 0 rfl (by omega)) (tw_s (tw_g 5 rfl) (tw_s (tw_g 2 rfl) (tw_s (tw_g 3 rfl) (tw_s (tw_g 1 rfl) (tw_s (tw_g 6 rfl) (tw_s (tw_g 7 rfl) (tw_s (tw_g 8 rfl) tw_s0)))))))) ?_; exact ih (b + 1) _ _ _ J3 (by omega) (by omega) hs3 hk3 hbd (by rw [rChB, if_pos (by refine ⟨by omega, by show bs < _; omega⟩)] at hF; exact hF))
                | (refine ar_iinc (k := 79) (l2 := [(7, _), (3, _), (5, _), (4, _), (8, _), (6, _), (2, _), (0, _), (1, _)]) rfl (by decide) rfl rfl ?_; refine ar_goto (k := 80) rfl ?_; refine ar_sub (l2 := [(7, vi ((b + 1 : Nat) : Int)), (6, vi (a : Int)), (5, vi o2), (4, vi o1), (3, vi (bs)), (2, vi is), (0, vr (some 69)), (1, vi w)]) (tw_s (tw_e 0 rfl (by omega)) (tw_s (tw_g 5 rfl) (tw_s (tw_g 2 rfl) (tw_s (tw_g 3 rfl) (tw_s (tw_g 1 rfl) (tw_s (tw_g 6 rfl) (tw_s (tw_g 7 rfl) (tw_s (tw_g 8 rfl) tw_s0)))))))) ?_; exact ih (b + 1) _ _ _ J3 (by omega) (by omega) hs3 hk3 hbs (by rw [rChB, if_neg (by show ¬ (_ ∧ bs < _); omega)] at hF; exact hF))
            · refine ar_iload (k := 75) rfl rfl ?_
              refine ar_goto (k := 76) rfl ?_
              refine ar_istoren (k := 78) (l2 := [(3, _), (5, _), (4, _), (8, _), (7, _), (6, _), (2, _), (0, _), (1, _)]) rfl (by decide) rfl ?_
              first
                | (exfalso; omega)
                | (refine ar_iinc (k := 79) (l2 := [(7, _), (3, _), (5, _), (4, _), (8, _), (6, _), (2, _), (0, _), (1, _)]) rfl (by decide) rfl rfl ?_; refine ar_goto (k := 80) rfl ?_; refine ar_sub (l2 := [(7, vi ((b + 1 : Nat) : Int)), (6, vi (a : Int)), (5, vi (b : Int)), (4, vi (a : Int)), (3, vi (rBestDay (rSwap s a b))), (2, vi is), (0, vr (some 69)), (1, vi w)]) (tw_s (tw_e 0 rfl (by omega)) (tw_s (tw_g 5 rfl) (tw_s (tw_g 2 rfl) (tw_s (tw_g 3 rfl) (tw_s (tw_g 1 rfl) (tw_s (tw_g 6 rfl) (tw_s (tw_g 7 rfl) (tw_s (tw_g 8 rfl) tw_s0)))))))) ?_; exact ih (b + 1) _ _ _ J3 (by omega) (by omega) hs3 hk3 hbd (by rw [rChB, if_pos (by refine ⟨by omega, by show bs < _; omega⟩)] at hF; exact hF))
                | (refine ar_iinc (k := 79) (l2 := [(7, _), (3, _), (5, _), (4, _), (8, _), (6, _), (2, _), (0, _), (1, _)]) rfl (by decide) rfl rfl ?_; refine ar_goto (k := 80) rfl ?_; refine ar_sub (l2 := [(7, vi ((b + 1 : Nat) : Int)), (6, vi (a : Int)), (5, vi o2), (4, vi o1), (3, vi (bs)), (2, vi is), (0, vr (some 69)), (1, vi w)]) (tw_s (tw_e 0 rfl (by omega)) (tw_s (tw_g 5 rfl) (tw_s (tw_g 2 rfl) (tw_s (tw_g 3 rfl) (tw_s (tw_g 1 rfl) (tw_s (tw_g 6 rfl) (tw_s (tw_g 7 rfl) (tw_s (tw_g 8 rfl) tw_s0)))))))) ?_; exact ih (b + 1) _ _ _ J3 (by omega) (by omega) hs3 hk3 hbs (by rw [rChB, if_neg (by show ¬ (_ ∧ bs < _); omega)] at hF; exact hF))
        · refine ar_iload (k := 61) rfl rfl ?_
          refine ar_goto (k := 62) rfl ?_
          refine ar_istore (k := 64) (l2 := [(4, _), (8, _), (7, _), (6, _), (5, _), (3, _), (2, _), (0, _), (1, _)]) rfl (by decide) rfl ?_
          refine ar_iload (k := 65) rfl rfl ?_
          refine ar_iloadn (k := 66) rfl rfl ?_
          refine ar_icmp_le (k := 67) rfl (by omega) (by omega) (fun c67 => ?_) (fun c67 => ?_)
          · refine ar_iload (k := 70) rfl rfl ?_
            refine ar_istore (k := 71) (l2 := [(5, _), (4, _), (8, _), (7, _), (6, _), (3, _), (2, _), (0, _), (1, _)]) rfl (by decide) rfl ?_
            refine ar_iload (k := 72) rfl rfl ?_
            refine ar_iloadn (k := 73) rfl rfl ?_
            refine ar_icmp_le (k := 74) rfl (by omega) (by omega) (fun c74 => ?_) (fun c74 => ?_)
            · refine ar_iloadn (k := 77) rfl rfl ?_
              refine ar_istoren (k := 78) (l2 := [(3, _), (5, _), (4, _), (8, _), (7, _), (6, _), (2, _), (0, _), (1, _)]) rfl (by decide) rfl ?_
              first
                | (exfalso; omega)
                | (refine ar_iinc (k := 79) (l2 := [(7, _), (3, _), (5, _), (4, _), (8, _), (6, _), (2, _), (0, _), (1, _)]) rfl (by decide) rfl rfl ?_; refine ar_goto (k := 80) rfl ?_; refine ar_sub (l2 := [(7, vi ((b + 1 : Nat) : Int)), (6, vi (a : Int)), (5, vi (b : Int)), (4, vi (a : Int)), (3, vi (rBestDay (rSwap s a b))), (2, vi is), (0, vr (some 69)), (1, vi w)]) (tw_s (tw_e 0 rfl (by omega)) (tw_s (tw_g 5 rfl) (tw_s (tw_g 2 rfl) (tw_s (tw_g 3 rfl) (tw_s (tw_g 1 rfl) (tw_s (tw_g 6 rfl) (tw_s (tw_g 7 rfl) (tw_s (tw_g 8 rfl) tw_s0)))))))) ?_; exact ih (b + 1) _ _ _ J3 (by omega) (by omega) hs3 hk3 hbd (by rw [rChB, if_pos (by refine ⟨by omega, by show bs < _; omega⟩)] at hF; exact hF))
                | (refine ar_iinc (k := 79) (l2 := [(7, _), (3, _), (5, _), (4, _), (8, _), (6, _), (2, _), (0, _), (1, _)]) rfl (by decide) rfl rfl ?_; refine ar_goto (k := 80) rfl ?_; refine ar_sub (l2 := [(7, vi ((b + 1 : Nat) : Int)), (6, vi (a : Int)), (5, vi o2), (4, vi o1), (3, vi (bs)), (2, vi is), (0, vr (some 69)), (1, vi w)]) (tw_s (tw_e 0 rfl (by omega)) (tw_s (tw_g 5 rfl) (tw_s (tw_g 2 rfl) (tw_s (tw_g 3 rfl) (tw_s (tw_g 1 rfl) (tw_s (tw_g 6 rfl) (tw_s (tw_g 7 rfl) (tw_s (tw_g 8 rfl) tw_s0)))))))) ?_; exact ih (b + 1) _ _ _ J3 (by omega) (by omega) hs3 hk3 hbs (by rw [rChB, if_neg (by show ¬ (_ ∧ bs < _); omega)] at hF; exact hF))
            · refine ar_iload (k := 75) rfl rfl ?_
              refine ar_goto (k := 76) rfl ?_
              refine ar_istoren (k := 78) (l2 := [(3, _), (5, _), (4, _), (8, _), (7, _), (6, _), (2, _), (0, _), (1, _)]) rfl (by decide) rfl ?_
              first
                | (exfalso; omega)
                | (refine ar_iinc (k := 79) (l2 := [(7, _), (3, _), (5, _), (4, _), (8, _), (6, _), (2, _), (0, _), (1, _)]) rfl (by decide) rfl rfl ?_; refine ar_goto (k := 80) rfl ?_; refine ar_sub (l2 := [(7, vi ((b + 1 : Nat) : Int)), (6, vi (a : Int)), (5, vi (b : Int)), (4, vi (a : Int)), (3, vi (rBestDay (rSwap s a b))), (2, vi is), (0, vr (some 69)), (1, vi w)]) (tw_s (tw_e 0 rfl (by omega)) (tw_s (tw_g 5 rfl) (tw_s (tw_g 2 rfl) (tw_s (tw_g 3 rfl) (tw_s (tw_g 1 rfl) (tw_s (tw_g 6 rfl) (tw_s (tw_g 7 rfl) (tw_s (tw_g 8 rfl) tw_s0)))))))) ?_; exact ih (b + 1) _ _ _ J3 (by omega) (by omega) hs3 hk3 hbd (by rw [rChB, if_pos (by refine ⟨by omega, by show bs < _; omega⟩)] at hF; exact hF))
                | (refine ar_iinc (k := 79) (l2 := [(7, _), (3, _), (5, _), (4, _), (8, _), (6, _), (2, _), (0, _), (1, _)]) rfl (by decide) rfl rfl ?_; refine ar_goto (k := 80) rfl ?_; refine ar_sub (l2 := [(7, vi ((b + 1 : Nat) : Int)), (6, vi (a : Int)), (5, vi o2), (4, vi o1), (3, vi (bs)), (2, vi is), (0, vr (some 69)), (1, vi w)]) (tw_s (tw_e 0 rfl (by omega)) (tw_s (tw_g 5 rfl) (tw_s (tw_g 2 rfl) (tw_s (tw_g 3 rfl) (tw_s (tw_g 1 rfl) (tw_s (tw_g 6 rfl) (tw_s (tw_g 7 rfl) (tw_s (tw_g 8 rfl) tw_s0)))))))) ?_; exact ih (b + 1) _ _ _ J3 (by omega) (by omega) hs3 hk3 hbs (by rw [rChB, if_neg (by show ¬ (_ ∧ bs < _); omega)] at hF; exact hF))
          · refine ar_iload (k := 68) rfl rfl ?_
            refine ar_goto (k := 69) rfl ?_
            refine ar_istore (k := 71) (l2 := [(5, _), (4, _), (8, _), (7, _), (6, _), (3, _), (2, _), (0, _), (1, _)]) rfl (by decide) rfl ?_
            refine ar_iload (k := 72) rfl rfl ?_
            refine ar_iloadn (k := 73) rfl rfl ?_
            refine ar_icmp_le (k := 74) rfl (by omega) (by omega) (fun c74 => ?_) (fun c74 => ?_)
            · refine ar_iloadn (k := 77) rfl rfl ?_
              refine ar_istoren (k := 78) (l2 := [(3, _), (5, _), (4, _), (8, _), (7, _), (6, _), (2, _), (0, _), (1, _)]) rfl (by decide) rfl ?_
              first
                | (exfalso; omega)
                | (refine ar_iinc (k := 79) (l2 := [(7, _), (3, _), (5, _), (4, _), (8, _), (6, _), (2, _), (0, _), (1, _)]) rfl (by decide) rfl rfl ?_; refine ar_goto (k := 80) rfl ?_; refine ar_sub (l2 := [(7, vi ((b + 1 : Nat) : Int)), (6, vi (a : Int)), (5, vi (b : Int)), (4, vi (a : Int)), (3, vi (rBestDay (rSwap s a b))), (2, vi is), (0, vr (some 69)), (1, vi w)]) (tw_s (tw_e 0 rfl (by omega)) (tw_s (tw_g 5 rfl) (tw_s (tw_g 2 rfl) (tw_s (tw_g 3 rfl) (tw_s (tw_g 1 rfl) (tw_s (tw_g 6 rfl) (tw_s (tw_g 7 rfl) (tw_s (tw_g 8 rfl) tw_s0)))))))) ?_; exact ih (b + 1) _ _ _ J3 (by omega) (by omega) hs3 hk3 hbd (by rw [rChB, if_pos (by refine ⟨by omega, by show bs < _; omega⟩)] at hF; exact hF))
                | (refine ar_iinc (k := 79) (l2 := [(7, _), (3, _), (5, _), (4, _), (8, _), (6, _), (2, _), (0, _), (1, _)]) rfl (by decide) rfl rfl ?_; refine ar_goto (k := 80) rfl ?_; refine ar_sub (l2 := [(7, vi ((b + 1 : Nat) : Int)), (6, vi (a : Int)), (5, vi o2), (4, vi o1), (3, vi (bs)), (2, vi is), (0, vr (some 69)), (1, vi w)]) (tw_s (tw_e 0 rfl (by omega)) (tw_s (tw_g 5 rfl) (tw_s (tw_g 2 rfl) (tw_s (tw_g 3 rfl) (tw_s (tw_g 1 rfl) (tw_s (tw_g 6 rfl) (tw_s (tw_g 7 rfl) (tw_s (tw_g 8 rfl) tw_s0)))))))) ?_; exact ih (b + 1) _ _ _ J3 (by omega) (by omega) hs3 hk3 hbs (by rw [rChB, if_neg (by show ¬ (_ ∧ bs < _); omega)] at hF; exact hF))
            · refine ar_iload (k := 75) rfl rfl ?_
              refine ar_goto (k := 76) rfl ?_
              refine ar_istoren (k := 78) (l2 := [(3, _), (5, _), (4, _), (8, _), (7, _), (6, _), (2, _), (0, _), (1, _)]) rfl (by decide) rfl ?_
              first
                | (exfalso; omega)
                | (refine ar_iinc (k := 79) (l2 := [(7, _), (3, _), (5, _), (4, _), (8, _), (6, _), (2, _), (0, _), (1, _)]) rfl (by decide) rfl rfl ?_; refine ar_goto (k := 80) rfl ?_; refine ar_sub (l2 := [(7, vi ((b + 1 : Nat) : Int)), (6, vi (a : Int)), (5, vi (b : Int)), (4, vi (a : Int)), (3, vi (rBestDay (rSwap s a b))), (2, vi is), (0, vr (some 69)), (1, vi w)]) (tw_s (tw_e 0 rfl (by omega)) (tw_s (tw_g 5 rfl) (tw_s (tw_g 2 rfl) (tw_s (tw_g 3 rfl) (tw_s (tw_g 1 rfl) (tw_s (tw_g 6 rfl) (tw_s (tw_g 7 rfl) (tw_s (tw_g 8 rfl) tw_s0)))))))) ?_; exact ih (b + 1) _ _ _ J3 (by omega) (by omega) hs3 hk3 hbd (by rw [rChB, if_pos (by refine ⟨by omega, by show bs < _; omega⟩)] at hF; exact hF))
                | (refine ar_iinc (k := 79) (l2 := [(7, _), (3, _), (5, _), (4, _), (8, _), (6, _), (2, _), (0, _), (1, _)]) rfl (by decide) rfl rfl ?_; refine ar_goto (k := 80) rfl ?_; refine ar_sub (l2 := [(7, vi ((b + 1 : Nat) : Int)), (6, vi (a : Int)), (5, vi o2), (4, vi o1), (3, vi (bs)), (2, vi is), (0, vr (some 69)), (1, vi w)]) (tw_s (tw_e 0 rfl (by omega)) (tw_s (tw_g 5 rfl) (tw_s (tw_g 2 rfl) (tw_s (tw_g 3 rfl) (tw_s (tw_g 1 rfl) (tw_s (tw_g 6 rfl) (tw_s (tw_g 7 rfl) (tw_s (tw_g 8 rfl) tw_s0)))))))) ?_; exact ih (b + 1) _ _ _ J3 (by omega) (by omega) hs3 hk3 hbs (by rw [rChB, if_neg (by show ¬ (_ ∧ bs < _); omega)] at hF; exact hF))
theorem rChB_bd {s : Int → Int} {a : Nat} (hR : RInv s) (hV : RVal s) (a1 : (a : Int) < s 1) : ∀ (k b : Nat) (q : Int × Int × Int), b + k ≤ (s 1).toNat → (-12000000 ≤ q.1 ∧ q.1 ≤ 12000000) → (-12000000 ≤ (rChB s a k b q).1 ∧ (rChB s a k b q).1 ≤ 12000000)
  | 0, _, _, _, h => h
  | k + 1, b, q, hb, h => by
    have h1 := hR.2.1
    rw [rChB]
    refine rChB_bd hR hV a1 k (b + 1) _ (by omega) ?_
    split
    · exact rBestDay_bd (RInv_swap (a := a) (b := b) (by omega) (by omega) hR) (RVal_swap (by omega) (by omega) hV)
    · exact h
theorem l_R_change {w : Int} (hS : tSt (K, I, Q, n)) (hR : RInv s) (hV : RVal s) (tw : 0 ≤ w ∧ w ≤ 2) : ∀ (k : Nat) (j : Nat) (bs o1 o2 : Int) (J : Nat → Int → Int), j + k = (s 1).toNat → J 70 = s → rq I J → (-12000000 ≤ bs ∧ bs ≤ 12000000) → tw_AW l G mR_change 18 0 0 n 0 (fun r h' => r = some (vi (if w = 0 then (rChA s k j (bs, o1, o2)).2.1 else if w = 1 then (rChA s k j (bs, o1, o2)).2.2 else (rChA s k j (bs, o1, o2)).1 - rBestDay s)) ∧ ∃ L, h' = (K, L, Q, n) ∧ rq I L) 29 [(6, vi (j : Int)), (5, vi o2), (4, vi o1), (3, vi bs), (2, vi (rBestDay s)), (0, vr (some 69)), (1, vi w)] [] (K, J, Q, n) := by
  obtain ⟨h0, h1, h2, h3, h4, h5, h6, hp, hrw, ht, hr, hb, htp, hv⟩ := id hR
  intro k
  induction k with
  | zero =>
    intro j bs o1 o2 J hj hs hk hbs
    refine ar_iload (k := 18) rfl rfl ?_
    refine ar_aloadn (k := 19) rfl rfl ?_
    refine br_getR (k := 20) rfl (hS.k (by decide)) flR_9_12 (by decide) rfl (hS.r rfl) ?_
    refine ar_iconst (k := 21) rfl ?_
    refine br_iads (k := 22) rfl (hS.k (by decide)) (by omega) (by omega) (by decide) hs ?_
    refine ar_icmp_ge (k := 23) rfl (by omega) (by omega) (fun c23 => ?_) (fun c23 => ?_)
    · refine ar_iloadn (k := 83) rfl rfl ?_
      refine ar_if_ne (k := 84) rfl (by omega) (fun c84 => ?_) (fun c84 => ?_)
      · refine ar_iloadn (k := 87) rfl rfl ?_
        refine ar_iconst (k := 88) rfl ?_
        refine ar_icmp_ne (k := 89) rfl (by omega) (by omega) (fun c89 => ?_) (fun c89 => ?_)
        · refine ar_iloadn (k := 92) rfl rfl ?_
          refine ar_iloadn (k := 93) rfl rfl ?_
          refine ar_isub (k := 94) rfl ?_
          refine ar_iret (k := 95) rfl rfl rfl (Nat.le_refl _) ?_
          exact ⟨congrArg (fun z => some (vi z)) (by simp only [rChA]; omega), J, rfl, hk⟩
        · refine ar_iload (k := 90) rfl rfl ?_
          refine ar_goto (k := 91) rfl ?_
          refine ar_iret (k := 95) rfl rfl rfl (Nat.le_refl _) ?_
          exact ⟨congrArg (fun z => some (vi z)) (by simp only [rChA]; omega), J, rfl, hk⟩
      · refine ar_iload (k := 85) rfl rfl ?_
        refine ar_goto (k := 86) rfl ?_
        refine ar_iret (k := 95) rfl rfl rfl (Nat.le_refl _) ?_
        exact ⟨congrArg (fun z => some (vi z)) (by simp only [rChA]; omega), J, rfl, hk⟩
    · exfalso; omega
  | succ k ih =>
    intro j bs o1 o2 J hj hs hk hbs
    refine ar_iload (k := 18) rfl rfl ?_
    refine ar_aloadn (k := 19) rfl rfl ?_
    refine br_getR (k := 20) rfl (hS.k (by decide)) flR_9_12 (by decide) rfl (hS.r rfl) ?_
    refine ar_iconst (k := 21) rfl ?_
    refine br_iads (k := 22) rfl (hS.k (by decide)) (by omega) (by omega) (by decide) hs ?_
    refine ar_icmp_ge (k := 23) rfl (by omega) (by omega) (fun c23 => ?_) (fun c23 => ?_)
    · exfalso; omega
    · refine ar_iload (k := 24) rfl rfl ?_
      refine ar_iconst (k := 25) rfl ?_
      refine ar_iadd (k := 26) rfl ?_
      refine ar_istore (k := 27) (l2 := [(7, _), (6, _), (5, _), (4, _), (3, _), (2, _), (0, _), (1, _)]) rfl (by decide) rfl ?_
      refine ar_sub (l2 := [(7, vi ((j + 1 : Nat) : Int)), (6, vi (j : Int)), (5, vi o2), (4, vi o1), (3, vi bs), (2, vi (rBestDay s)), (0, vr (some 69)), (1, vi w)]) (tw_s (tw_e 0 rfl (by omega)) (tw_s (tw_g 1 rfl) (tw_s (tw_g 2 rfl) (tw_s (tw_g 3 rfl) (tw_s (tw_g 4 rfl) (tw_s (tw_g 5 rfl) (tw_s (tw_g 6 rfl) (tw_s (tw_g 7 rfl) tw_s0)))))))) ?_
      refine li_R_change (I := I) (a := j) hS hR hV (F := rChB s j k (j + 1) (bs, o1, o2)) (by omega) ?_ k (j + 1) bs o1 o2 J (by omega) (by omega) hs hk hbs rfl
      intro b2 J2 hs2 hk2
      refine ar_iinc (k := 81) (l2 := [(6, _), (7, _), (5, _), (4, _), (3, _), (2, _), (0, _), (1, _)]) rfl (by decide) rfl rfl ?_
      refine ar_goto (k := 82) rfl ?_
      refine ar_sub (l2 := [(6, vi ((j + 1 : Nat) : Int)), (5, vi (rChB s j k (j + 1) (bs, o1, o2)).2.2), (4, vi (rChB s j k (j + 1) (bs, o1, o2)).2.1), (3, vi (rChB s j k (j + 1) (bs, o1, o2)).1), (2, vi (rBestDay s)), (0, vr (some 69)), (1, vi w)]) (tw_s (tw_e 0 rfl (by omega)) (tw_s (tw_g 2 rfl) (tw_s (tw_g 3 rfl) (tw_s (tw_g 4 rfl) (tw_s (tw_g 5 rfl) (tw_s (tw_g 6 rfl) (tw_s (tw_g 7 rfl) tw_s0))))))) ?_
      exact ih (j + 1) _ _ _ J2 (by omega) hs2 hk2 (rChB_bd hR hV (by omega) _ _ _ (by omega) hbs)
theorem c_R_change {w : Int} (hS : tSt (K, I, Q, n)) (hs : I 70 = s) (hR : RInv s) (hV : RVal s) (tw : tr w) : tw_K l G 18 mR_change [vr (some 69), vi w] K I Q n (some (vi (if ¬ (0 ≤ w ∧ w ≤ 2) then -1 else if w = 0 then (rChange s).2.1 else if w = 1 then (rChange s).2.2 else (rChange s).1 - rBestDay s))) := by
  obtain ⟨h0, h1, h2, h3, h4, h5, h6, hp, hrw, ht, hr, hb, htp, hv⟩ := id hR
  have hk : rq I I := rq.rf
  refine tw_intro okR_change (Nat.le_of_ble_eq_true rfl) ?_
  refine ar_iloadn (k := 0) rfl rfl ?_
  refine ar_iconst (k := 1) rfl ?_
  refine ar_iconst (k := 2) rfl ?_
  refine br_callS (k := 3) (as := [_, _, _]) rfl lsR_38 (c_R_in (by omega) (by omega) (by omega)) rfl (by decide) (by decide) tw_m0 (Nat.le_of_ble_eq_true rfl) ?_
  refine ar_if_ne (k := 4) rfl (by omega) (fun c4 => ?_) (fun c4 => ?_)
  · refine ar_aloadn (k := 7) rfl rfl ?_
    refine br_callVK (k := 8) (as := []) rfl lvR_200 (hS.k (by decide)) rfl (c_R_bestDay hS hs hR hV) rfl (by decide) (by decide) tw_m0 (Nat.le_of_ble_eq_true rfl) (fun I8 q8 => ?_)
    have hs8 : I8 70 = s := q8.s.trans hs
    have hk8 := rq.trans hk q8
    refine ar_istoren (k := 9) (l2 := [(2, _), (0, _), (1, _)]) rfl (by decide) rfl ?_
    refine ar_iloadn (k := 10) rfl rfl ?_
    refine ar_istoren (k := 11) (l2 := [(3, _), (2, _), (0, _), (1, _)]) rfl (by decide) rfl ?_
    refine ar_bipush (k := 12) rfl (by decide) ?_
    refine ar_istore (k := 13) (l2 := [(4, _), (3, _), (2, _), (0, _), (1, _)]) rfl (by decide) rfl ?_
    refine ar_bipush (k := 14) rfl (by decide) ?_
    refine ar_istore (k := 15) (l2 := [(5, _), (4, _), (3, _), (2, _), (0, _), (1, _)]) rfl (by decide) rfl ?_
    refine ar_iconst (k := 16) rfl ?_
    refine ar_istore (k := 17) (l2 := [(6, _), (5, _), (4, _), (3, _), (2, _), (0, _), (1, _)]) rfl (by decide) rfl ?_
    refine ar_sub (l2 := [(6, vi ((0 : Nat) : Int)), (5, vi (-5)), (4, vi (-5)), (3, vi (rBestDay s)), (2, vi (rBestDay s)), (0, vr (some 69)), (1, vi w)]) (tw_s (tw_e 0 rfl (by rfl)) (tw_s (tw_g 1 rfl) (tw_s (tw_g 2 rfl) (tw_s (tw_g 3 rfl) (tw_s (tw_g 4 rfl) (tw_s (tw_g 5 rfl) (tw_s (tw_g 6 rfl) tw_s0))))))) ?_
    rw [if_neg (by omega)]
    exact l_R_change (I := I) hS hR hV (by omega) _ 0 (rBestDay s) (-5) (-5) I8 (by omega) hs8 hk8 (rBestDay_bd hR hV)
  · refine ar_iconst (k := 5) rfl ?_
    refine ar_iret (k := 6) rfl rfl rfl (Nat.le_refl _) ?_
    exact ⟨congrArg (fun z => some (vi z)) (by omega), I, rfl, hk⟩
end RJ
