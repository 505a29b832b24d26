abbrev rCanP (s : Int → Int) (t u g : Int) : Prop := (t ≤ s (94 + t) ∧ s (104 + t) ≠ 1 ∧ s (104 + s (94 + t)) ≠ 1) ∧ s (84 + t) ≠ s (84 + s (94 + t)) ∧ rFreeP s (s (84 + t)) u ∧ rFreeP s (s (84 + s (94 + t))) u ∧ bAnd (bShr g (s (84 + t))) 1 = 0 ∧ bAnd (bShr g (s (84 + s (94 + t)))) 1 = 0
/-- all sets from tool t on (k tools): the most worth, its set, the most pairs -/
def rSets (s : Int → Int) (u : Int) : Nat → Nat → Int → Int → Int → Int → Int × Int × Int → Int × Int × Int
  | 0, _, e, _, w, m, M => (if w > M.1 ∨ (w = M.1 ∧ e < M.2.1) then w else M.1, if w > M.1 ∨ (w = M.1 ∧ e < M.2.1) then e else M.2.1, if m > M.2.2 then m else M.2.2)
  | k + 1, t, e, g, w, m, M => if rCanP s t u g then rSets s u k (t + 1) (bOr e (bShl 1 t)) (bOr (bOr g (bShl 1 (s (84 + (t : Int))))) (bShl 1 (s (84 + s (94 + (t : Int)))))) (w + rWorth s t u) (m + 1) (rSets s u k (t + 1) e g w m M) else rSets s u k (t + 1) e g w m M
theorem tr_toInt (x : Int32) : tr x.toInt := ⟨by have := x.le_toInt; omega, by have := x.toInt_lt; omega⟩
theorem tr_bOr (x y : Int) : tr (bOr x y) := tr_toInt _
abbrev rMb (M : Int × Int × Int) : Prop := (-500000 ≤ M.1 ∧ M.1 ≤ 500000) ∧ tr M.2.1 ∧ (0 ≤ M.2.2 ∧ M.2.2 ≤ 20)
theorem rSets_bd {s : Int → Int} {u : Int} (hR : RInv s) (hV : RVal s) : ∀ (k t : Nat) (e g w m : Int) (M : Int × Int × Int), t + k ≤ 10 → tr e → (-42000 * (t : Int) ≤ w ∧ w ≤ 42000 * (t : Int)) → (0 ≤ m ∧ m ≤ t) → rMb M → rMb (rSets s u k t e g w m M)
  | 0, t, e, g, w, m, M, h, he, hw, hm, hM => by
    obtain ⟨a, b, c⟩ := M
    simp only [rSets, rMb] at *
    refine ⟨?_, ?_, ?_⟩
    · split <;> omega
    · split
      · exact he
      · exact hM.2.1
    · split <;> omega
  | k + 1, t, e, g, w, m, M, h, he, hw, hm, hM => by
    have h1 := rSets_bd (u := u) hR hV k (t + 1) e g w m M (by omega) he (by omega) (by omega) hM
    rw [rSets]
    split
    · have hb := rWorth_bd (t := (t : Int)) (u := u) hR hV
      exact rSets_bd hR hV k (t + 1) _ _ _ _ _ (by omega) (tr_bOr _ _) (by omega) (by omega) h1
    · exact h1
def rMost (s : Int → Int) (u : Int) : Int × Int × Int := rSets s u (s 1).toNat 0 0 0 0 0 (0, 0, 0)
section RG
variable {l : Launch} {G : tG} {K : Nat → Nat × Nat} {I : Nat → Int → Int} {Q : Nat → Int → Option Nat} {n : Nat} {s : Int → Int}
theorem c_R_can {t u g : Int} (hS : tSt (K, I, Q, n)) (hs : I 70 = s) (hR : RInv s) (t1 : 0 ≤ t ∧ t < s 1) : tw_F l G 2 0 0 mR_can [vr (some 69), vi t, vi u, vi g] (K, I, Q, n) (some (vi (if rCanP s t u g then 1 else 0))) (K, I, Q, n) := by
  obtain ⟨h0, h1, h2, h3, h4, h5, h6, hp, hrw, ht, hr, hb, htp, hv⟩ := id hR
  have hw := ht t (by omega) (by omega)
  have b1 := bAnd1 (bShr g (s (84 + t)))
  have b2 := bAnd1 (bShr g (s (84 + s (94 + t))))
  refine tw_intro okR_can (Nat.le_of_ble_eq_true rfl) ?_
  refine ar_aloadn (k := 0) rfl rfl ?_
  refine br_getR (k := 1) rfl (hS.k (by decide)) flR_9_12 (by decide) rfl (hS.r rfl) ?_
  refine ar_bipush (k := 2) rfl (by decide) ?_
  refine ar_iloadn (k := 3) rfl rfl ?_
  refine ar_iadd (k := 4) rfl ?_
  refine br_iads (k := 5) rfl (hS.k (by decide)) (by omega) (by omega) (by decide) hs ?_
  refine ar_istore (k := 6) (l2 := [(4, _), (0, _), (1, _), (2, _), (3, _)]) rfl (by decide) rfl ?_
  refine ar_iload (k := 7) rfl rfl ?_
  refine ar_iloadn (k := 8) rfl rfl ?_
  refine ar_icmp_lt (k := 9) rfl (by omega) (by omega) (fun c9 => ?_) (fun c9 => ?_)
  · refine ar_iconst (k := 26) rfl ?_
    refine ar_zret (k := 27) rfl rfl (by omega) rfl (Nat.le_refl _) ?_
    exact ⟨congrArg (fun z => some (vi z)) (by omega), rfl⟩
  · have w2 := ht (s (94 + t)) (by omega) (by omega)
    refine ar_aloadn (k := 10) rfl rfl ?_
    refine br_getR (k := 11) rfl (hS.k (by decide)) flR_9_12 (by decide) rfl (hS.r rfl) ?_
    refine ar_bipush (k := 12) rfl (by decide) ?_
    refine ar_iloadn (k := 13) rfl rfl ?_
    refine ar_iadd (k := 14) rfl ?_
    refine br_iads (k := 15) rfl (hS.k (by decide)) (by omega) (by omega) (by decide) hs ?_
    refine ar_iconst (k := 16) rfl ?_
    refine ar_icmp_eq (k := 17) rfl (by omega) (by omega) (fun c17 => ?_) (fun c17 => ?_)
    · refine ar_iconst (k := 26) rfl ?_
      refine ar_zret (k := 27) rfl rfl (by omega) rfl (Nat.le_refl _) ?_
      exact ⟨congrArg (fun z => some (vi z)) (by omega), rfl⟩
    · refine ar_aloadn (k := 18) rfl rfl ?_
      refine br_getR (k := 19) rfl (hS.k (by decide)) flR_9_12 (by decide) rfl (hS.r rfl) ?_
      refine ar_bipush (k := 20) rfl (by decide) ?_
      refine ar_iload (k := 21) rfl rfl ?_
      refine ar_iadd (k := 22) rfl ?_
      refine br_iads (k := 23) rfl (hS.k (by decide)) (by omega) (by omega) (by decide) hs ?_
      refine ar_iconst (k := 24) rfl ?_
      refine ar_icmp_ne (k := 25) rfl (by omega) (by omega) (fun c25 => ?_) (fun c25 => ?_)
      · refine ar_aloadn (k := 28) rfl rfl ?_
        refine br_getR (k := 29) rfl (hS.k (by decide)) flR_9_12 (by decide) rfl (hS.r rfl) ?_
        refine ar_bipush (k := 30) rfl (by decide) ?_
        refine ar_iloadn (k := 31) rfl rfl ?_
        refine ar_iadd (k := 32) rfl ?_
        refine br_iads (k := 33) rfl (hS.k (by decide)) (by omega) (by omega) (by decide) hs ?_
        refine ar_istore (k := 34) (l2 := [(5, _), (4, _), (0, _), (1, _), (2, _), (3, _)]) rfl (by decide) rfl ?_
        refine ar_aloadn (k := 35) rfl rfl ?_
        refine br_getR (k := 36) rfl (hS.k (by decide)) flR_9_12 (by decide) rfl (hS.r rfl) ?_
        refine ar_bipush (k := 37) rfl (by decide) ?_
        refine ar_iload (k := 38) rfl rfl ?_
        refine ar_iadd (k := 39) rfl ?_
        refine br_iads (k := 40) rfl (hS.k (by decide)) (by omega) (by omega) (by decide) hs ?_
        refine ar_istore (k := 41) (l2 := [(6, _), (5, _), (4, _), (0, _), (1, _), (2, _), (3, _)]) rfl (by decide) rfl ?_
        refine ar_iload (k := 42) rfl rfl ?_
        refine ar_iload (k := 43) rfl rfl ?_
        refine ar_icmp_eq (k := 44) rfl (by omega) (by omega) (fun c44 => ?_) (fun c44 => ?_)
        · refine ar_iconst (k := 69) rfl ?_
          refine ar_zret (k := 70) rfl rfl (by omega) rfl (Nat.le_refl _) ?_
          exact ⟨congrArg (fun z => some (vi z)) (by omega), rfl⟩
        · refine ar_aloadn (k := 45) rfl rfl ?_
          refine ar_iload (k := 46) rfl rfl ?_
          refine ar_iloadn (k := 47) rfl rfl ?_
          refine br_callV (k := 48) (as := [_, _]) rfl lvR_141 (hS.k (by decide)) rfl (c_R_isFree hS hs hR (by omega)) rfl (by decide) (by decide) tw_m0 (Nat.le_of_ble_eq_true rfl) ?_
          refine ar_if_eq (k := 49) rfl (by omega) (fun c49 => ?_) (fun c49 => ?_)
          · refine ar_iconst (k := 69) rfl ?_
            refine ar_zret (k := 70) rfl rfl (by omega) rfl (Nat.le_refl _) ?_
            exact ⟨congrArg (fun z => some (vi z)) (by omega), rfl⟩
          · refine ar_aloadn (k := 50) rfl rfl ?_
            refine ar_iload (k := 51) rfl rfl ?_
            refine ar_iloadn (k := 52) rfl rfl ?_
            refine br_callV (k := 53) (as := [_, _]) rfl lvR_141 (hS.k (by decide)) rfl (c_R_isFree hS hs hR (by omega)) rfl (by decide) (by decide) tw_m0 (Nat.le_of_ble_eq_true rfl) ?_
            refine ar_if_eq (k := 54) rfl (by omega) (fun c54 => ?_) (fun c54 => ?_)
            · refine ar_iconst (k := 69) rfl ?_
              refine ar_zret (k := 70) rfl rfl (by omega) rfl (Nat.le_refl _) ?_
              exact ⟨congrArg (fun z => some (vi z)) (by omega), rfl⟩
            · refine ar_iloadn (k := 55) rfl rfl ?_
              refine ar_iload (k := 56) rfl rfl ?_
              refine ar_ishr (k := 57) rfl ?_
              refine ar_iconst (k := 58) rfl ?_
              refine ar_iand (k := 59) rfl ?_
              refine ar_if_ne (k := 60) rfl (by omega) (fun c60 => ?_) (fun c60 => ?_)
              · refine ar_iconst (k := 69) rfl ?_
                refine ar_zret (k := 70) rfl rfl (by omega) rfl (Nat.le_refl _) ?_
                exact ⟨congrArg (fun z => some (vi z)) (by omega), rfl⟩
              · refine ar_iloadn (k := 61) rfl rfl ?_
                refine ar_iload (k := 62) rfl rfl ?_
                refine ar_ishr (k := 63) rfl ?_
                refine ar_iconst (k := 64) rfl ?_
                refine ar_iand (k := 65) rfl ?_
                refine ar_if_ne (k := 66) rfl (by omega) (fun c66 => ?_) (fun c66 => ?_)
                · refine ar_iconst (k := 69) rfl ?_
                  refine ar_zret (k := 70) rfl rfl (by omega) rfl (Nat.le_refl _) ?_
                  exact ⟨congrArg (fun z => some (vi z)) (by omega), rfl⟩
                · refine ar_iconst (k := 67) rfl ?_
                  refine ar_goto (k := 68) rfl ?_
                  refine ar_zret (k := 70) rfl rfl (by omega) rfl (Nat.le_refl _) ?_
                  exact ⟨congrArg (fun z => some (vi z)) (by omega), rfl⟩
      · refine ar_iconst (k := 26) rfl ?_
        refine ar_zret (k := 27) rfl rfl (by omega) rfl (Nat.le_refl _) ?_
        exact ⟨congrArg (fun z => some (vi z)) (by omega), rfl⟩
theorem c_R_setsFrom {u : Int} {K : Nat → Nat × Nat} {Q : Nat → Int → Option Nat} {n : Nat} (hR : RInv s) (hV : RVal s) (u1 : 0 ≤ u ∧ u ≤ 23) : ∀ (k t : Nat) (e g w m : Int) (I : Nat → Int → Int), tSt (K, I, Q, n) → I 70 = s → t + k = (s 1).toNat → tr e → (-42000 * (t : Int) ≤ w ∧ w ≤ 42000 * (t : Int)) → (0 ≤ m ∧ m ≤ t) → rMb (I 69 11, I 69 12, I 69 13) → tw_M l G (4 + k) 0 0 mR_setsFrom [vr (some 69), vi (t : Int), vi u, vi e, vi g, vi w, vi m] (K, I, Q, n) (fun r h' => r = none ∧ ∃ J, h' = (K, J, Q, n) ∧ rq I J ∧ (J 69 11, J 69 12, J 69 13) = rSets s u k t e g w m (I 69 11, I 69 12, I 69 13)) := by
  obtain ⟨h0, h1, h2, h3, h4, h5, h6, hp, hrw, ht, hr, hb, htp, hv⟩ := id hR
  intro k
  induction k with
  | zero =>
    intro t e g w m I hS hs hj he hw hm hM
    have hk : rq I I := rq.rf
    have hM1 : -500000 ≤ I 69 11 ∧ I 69 11 ≤ 500000 := hM.1
    have hM2 : tr (I 69 12) := hM.2.1
    have hM3 : 0 ≤ I 69 13 ∧ I 69 13 ≤ 20 := hM.2.2
    refine tw_intro okR_setsFrom (Nat.le_of_ble_eq_true rfl) ?_
    refine ar_iloadn (k := 0) rfl rfl ?_
    refine ar_aloadn (k := 1) rfl rfl ?_
    refine br_getR (k := 2) rfl (hS.k (by decide)) flR_9_12 (by decide) rfl (hS.r rfl) ?_
    refine ar_iconst (k := 3) rfl ?_
    refine br_iads (k := 4) rfl (hS.k (by decide)) (by omega) (by omega) (by decide) hs ?_
    refine ar_icmp_ne (k := 5) rfl (by omega) (by omega) (fun c5 => ?_) (fun c5 => ?_)
    · exfalso; omega
    · refine ar_iload (k := 6) rfl rfl ?_
      refine ar_aloadn (k := 7) rfl rfl ?_
      refine br_getI (k := 8) rfl (hS.k (by decide)) flR_166_12 (by decide) rfl ?_
      refine tw_top (y := I 69 11) rfl ?_
      refine ar_icmp_gt (k := 9) rfl (by omega) (by omega) (fun c9 => ?_) (fun c9 => ?_)
      · refine ar_iconst (k := 18) rfl ?_
        refine ar_goto (k := 19) rfl ?_
        refine ar_istore (k := 21) (l2 := [(7, _), (0, _), (1, _), (2, _), (3, _), (4, _), (5, _), (6, _)]) rfl (by decide) rfl ?_
        refine ar_aloadn (k := 22) rfl rfl ?_
        refine ar_iload (k := 23) rfl rfl ?_
        refine ar_if_eq (k := 24) rfl (by omega) (fun c24 => ?_) (fun c24 => ?_)
        · refine ar_aloadn (k := 27) rfl rfl ?_
          refine br_getI (k := 28) rfl (hS.k (by decide)) flR_166_12 (by decide) rfl ?_
          refine tw_top (y := I 69 11) rfl ?_
          refine br_putIJ (k := 29) rfl (hS.k (by decide)) flR_166_12 (by decide) rfl (fun _ _ _ q => by cases q; exact ⟨rfl, rfl⟩) (fun I29 e29 => ?_)
          change _ = uI _ 69 11 _ at e29
          have hs29 : I29 70 = s := by rw [e29]; exact hs
          have hk29 := rq.f hk (by decide) e29
          refine ar_aloadn (k := 30) rfl rfl ?_
          refine ar_iload (k := 31) rfl rfl ?_
          refine ar_if_eq (k := 32) rfl (by omega) (fun c32 => ?_) (fun c32 => ?_)
          · refine ar_aloadn (k := 35) rfl rfl ?_
            refine br_getI (k := 36) rfl (hS.k (by decide)) flR_169_12 (by decide) rfl ?_
            refine tw_top (y := I 69 12) (by rw [e29, uI_at, if_neg (by decide)]; rfl) ?_
            refine br_putIJ (k := 37) rfl (hS.k (by decide)) flR_169_12 (by decide) rfl (fun _ _ _ q => by cases q; exact ⟨rfl, rfl⟩) (fun I37 e37 => ?_)
            change _ = uI _ 69 12 _ at e37
            have hs37 : I37 70 = s := by rw [e37]; exact hs29
            have hk37 := rq.f hk29 (by decide) e37
            refine ar_aloadn (k := 38) rfl rfl ?_
            refine ar_iload (k := 39) rfl rfl ?_
            refine ar_aloadn (k := 40) rfl rfl ?_
            refine br_getI (k := 41) rfl (hS.k (by decide)) flR_172_12 (by decide) rfl ?_
            refine tw_top (y := I 69 13) (by rw [e37, uI_at, if_neg (by decide), e29, uI_at, if_neg (by decide)]; rfl) ?_
            refine ar_icmp_le (k := 42) rfl (by omega) (by omega) (fun c42 => ?_) (fun c42 => ?_)
            · refine ar_aloadn (k := 45) rfl rfl ?_
              refine br_getI (k := 46) rfl (hS.k (by decide)) flR_172_12 (by decide) rfl ?_
              refine tw_top (y := I 69 13) (by rw [e37, uI_at, if_neg (by decide), e29, uI_at, if_neg (by decide)]; rfl) ?_
              refine br_putIJ (k := 47) rfl (hS.k (by decide)) flR_172_12 (by decide) rfl (fun _ _ _ q => by cases q; exact ⟨rfl, rfl⟩) (fun I47 e47 => ?_)
              change _ = uI _ 69 13 _ at e47
              have hs47 : I47 70 = s := by rw [e47]; exact hs37
              have hk47 := rq.f hk37 (by decide) e47
              refine ar_ret (k := 48) rfl rfl rfl (Nat.le_refl _) ?_
              first
                | (exfalso; omega)
                | (refine ⟨rfl, I47, rfl, hk47, ?_⟩; rw [e47, e37, e29]; simp only [rSets, uI_at, Int.reduceEq, reduceIte, Prod.mk.injEq]; refine ⟨?_, ?_, ?_⟩ <;> omega)
            · refine ar_iload (k := 43) rfl rfl ?_
              refine ar_goto (k := 44) rfl ?_
              refine br_putIJ (k := 47) rfl (hS.k (by decide)) flR_172_12 (by decide) rfl (fun _ _ _ q => by cases q; exact ⟨rfl, rfl⟩) (fun I47 e47 => ?_)
              change _ = uI _ 69 13 _ at e47
              have hs47 : I47 70 = s := by rw [e47]; exact hs37
              have hk47 := rq.f hk37 (by decide) e47
              refine ar_ret (k := 48) rfl rfl rfl (Nat.le_refl _) ?_
              first
                | (exfalso; omega)
                | (refine ⟨rfl, I47, rfl, hk47, ?_⟩; rw [e47, e37, e29]; simp only [rSets, uI_at, Int.reduceEq, reduceIte, Prod.mk.injEq]; refine ⟨?_, ?_, ?_⟩ <;> omega)
          · refine ar_iloadn (k := 33) rfl rfl ?_
            refine ar_goto (k := 34) rfl ?_
            refine br_putIJ (k := 37) rfl (hS.k (by decide)) flR_169_12 (by decide) rfl (fun _ _ _ q => by cases q; exact ⟨rfl, rfl⟩) (fun I37 e37 => ?_)
            change _ = uI _ 69 12 _ at e37
            have hs37 : I37 70 = s := by rw [e37]; exact hs29
            have hk37 := rq.f hk29 (by decide) e37
            refine ar_aloadn (k := 38) rfl rfl ?_
            refine ar_iload (k := 39) rfl rfl ?_
            refine ar_aloadn (k := 40) rfl rfl ?_
            refine br_getI (k := 41) rfl (hS.k (by decide)) flR_172_12 (by decide) rfl ?_
            refine tw_top (y := I 69 13) (by rw [e37, uI_at, if_neg (by decide), e29, uI_at, if_neg (by decide)]; rfl) ?_
            refine ar_icmp_le (k := 42) rfl (by omega) (by omega) (fun c42 => ?_) (fun c42 => ?_)
            · refine ar_aloadn (k := 45) rfl rfl ?_
              refine br_getI (k := 46) rfl (hS.k (by decide)) flR_172_12 (by decide) rfl ?_
              refine tw_top (y := I 69 13) (by rw [e37, uI_at, if_neg (by decide), e29, uI_at, if_neg (by decide)]; rfl) ?_
              refine br_putIJ (k := 47) rfl (hS.k (by decide)) flR_172_12 (by decide) rfl (fun _ _ _ q => by cases q; exact ⟨rfl, rfl⟩) (fun I47 e47 => ?_)
              change _ = uI _ 69 13 _ at e47
              have hs47 : I47 70 = s := by rw [e47]; exact hs37
              have hk47 := rq.f hk37 (by decide) e47
              refine ar_ret (k := 48) rfl rfl rfl (Nat.le_refl _) ?_
              first
                | (exfalso; omega)
                | (refine ⟨rfl, I47, rfl, hk47, ?_⟩; rw [e47, e37, e29]; simp only [rSets, uI_at, Int.reduceEq, reduceIte, Prod.mk.injEq]; refine ⟨?_, ?_, ?_⟩ <;> omega)
            · refine ar_iload (k := 43) rfl rfl ?_
              refine ar_goto (k := 44) rfl ?_
              refine br_putIJ (k := 47) rfl (hS.k (by decide)) flR_172_12 (by decide) rfl (fun _ _ _ q => by cases q; exact ⟨rfl, rfl⟩) (fun I47 e47 => ?_)
              change _ = uI _ 69 13 _ at e47
              have hs47 : I47 70 = s := by rw [e47]; exact hs37
              have hk47 := rq.f hk37 (by decide) e47
              refine ar_ret (k := 48) rfl rfl rfl (Nat.le_refl _) ?_
              first
                | (exfalso; omega)
                | (refine ⟨rfl, I47, rfl, hk47, ?_⟩; rw [e47, e37, e29]; simp only [rSets, uI_at, Int.reduceEq, reduceIte, Prod.mk.injEq]; refine ⟨?_, ?_, ?_⟩ <;> omega)
        · refine ar_iload (k := 25) rfl rfl ?_
          refine ar_goto (k := 26) rfl ?_
          refine br_putIJ (k := 29) rfl (hS.k (by decide)) flR_166_12 (by decide) rfl (fun _ _ _ q => by cases q; exact ⟨rfl, rfl⟩) (fun I29 e29 => ?_)
          change _ = uI _ 69 11 _ at e29
          have hs29 : I29 70 = s := by rw [e29]; exact hs
          have hk29 := rq.f hk (by decide) e29
          refine ar_aloadn (k := 30) rfl rfl ?_
          refine ar_iload (k := 31) rfl rfl ?_
          refine ar_if_eq (k := 32) rfl (by omega) (fun c32 => ?_) (fun c32 => ?_)
          · refine ar_aloadn (k := 35) rfl rfl ?_
            refine br_getI (k := 36) rfl (hS.k (by decide)) flR_169_12 (by decide) rfl ?_
            refine tw_top (y := I 69 12) (by rw [e29, uI_at, if_neg (by decide)]; rfl) ?_
            refine br_putIJ (k := 37) rfl (hS.k (by decide)) flR_169_12 (by decide) rfl (fun _ _ _ q => by cases q; exact ⟨rfl, rfl⟩) (fun I37 e37 => ?_)
            change _ = uI _ 69 12 _ at e37
            have hs37 : I37 70 = s := by rw [e37]; exact hs29
            have hk37 := rq.f hk29 (by decide) e37
            refine ar_aloadn (k := 38) rfl rfl ?_
            refine ar_iload (k := 39) rfl rfl ?_
            refine ar_aloadn (k := 40) rfl rfl ?_
            refine br_getI (k := 41) rfl (hS.k (by decide)) flR_172_12 (by decide) rfl ?_
            refine tw_top (y := I 69 13) (by rw [e37, uI_at, if_neg (by decide), e29, uI_at, if_neg (by decide)]; rfl) ?_
            refine ar_icmp_le (k := 42) rfl (by omega) (by omega) (fun c42 => ?_) (fun c42 => ?_)
            · refine ar_aloadn (k := 45) rfl rfl ?_
              refine br_getI (k := 46) rfl (hS.k (by decide)) flR_172_12 (by decide) rfl ?_
              refine tw_top (y := I 69 13) (by rw [e37, uI_at, if_neg (by decide), e29, uI_at, if_neg (by decide)]; rfl) ?_
              refine br_putIJ (k := 47) rfl (hS.k (by decide)) flR_172_12 (by decide) rfl (fun _ _ _ q => by cases q; exact ⟨rfl, rfl⟩) (fun I47 e47 => ?_)
              change _ = uI _ 69 13 _ at e47
              have hs47 : I47 70 = s := by rw [e47]; exact hs37
              have hk47 := rq.f hk37 (by decide) e47
              refine ar_ret (k := 48) rfl rfl rfl (Nat.le_refl _) ?_
              first
                | (exfalso; omega)
                | (refine ⟨rfl, I47, rfl, hk47, ?_⟩; rw [e47, e37, e29]; simp only [rSets, uI_at, Int.reduceEq, reduceIte, Prod.mk.injEq]; refine ⟨?_, ?_, ?_⟩ <;> omega)
            · refine ar_iload (k := 43) rfl rfl ?_
              refine ar_goto (k := 44) rfl ?_
              refine br_putIJ (k := 47) rfl (hS.k (by decide)) flR_172_12 (by decide) rfl (fun _ _ _ q => by cases q; exact ⟨rfl, rfl⟩) (fun I47 e47 => ?_)
              change _ = uI _ 69 13 _ at e47
              have hs47 : I47 70 = s := by rw [e47]; exact hs37
              have hk47 := rq.f hk37 (by decide) e47
              refine ar_ret (k := 48) rfl rfl rfl (Nat.le_refl _) ?_
              first
                | (exfalso; omega)
                | (refine ⟨rfl, I47, rfl, hk47, ?_⟩; rw [e47, e37, e29]; simp only [rSets, uI_at, Int.reduceEq, reduceIte, Prod.mk.injEq]; refine ⟨?_, ?_, ?_⟩ <;> omega)
          · refine ar_iloadn (k := 33) rfl rfl ?_
            refine ar_goto (k := 34) rfl ?_
            refine br_putIJ (k := 37) rfl (hS.k (by decide)) flR_169_12 (by decide) rfl (fun _ _ _ q => by cases q; exact ⟨rfl, rfl⟩) (fun I37 e37 => ?_)
            change _ = uI _ 69 12 _ at e37
            have hs37 : I37 70 = s := by rw [e37]; exact hs29
            have hk37 := rq.f hk29 (by decide) e37
            refine ar_aloadn (k := 38) rfl rfl ?_
            refine ar_iload (k := 39) rfl rfl ?_
            refine ar_aloadn (k := 40) rfl rfl ?_
            refine br_getI (k := 41) rfl (hS.k (by decide)) flR_172_12 (by decide) rfl ?_
            refine tw_top (y := I 69 13) (by rw [e37, uI_at, if_neg (by decide), e29, uI_at, if_neg (by decide)]; rfl) ?_
            refine ar_icmp_le (k := 42) rfl (by omega) (by omega) (fun c42 => ?_) (fun c42 => ?_)
            · refine ar_aloadn (k := 45) rfl rfl ?_
              refine br_getI (k := 46) rfl (hS.k (by decide)) flR_172_12 (by decide) rfl ?_
              refine tw_top (y := I 69 13) (by rw [e37, uI_at, if_neg (by decide), e29, uI_at, if_neg (by decide)]; rfl) ?_
              refine br_putIJ (k := 47) rfl (hS.k (by decide)) flR_172_12 (by decide) rfl (fun _ _ _ q => by cases q; exact ⟨rfl, rfl⟩) (fun I47 e47 => ?_)
              change _ = uI _ 69 13 _ at e47
              have hs47 : I47 70 = s := by rw [e47]; exact hs37
              have hk47 := rq.f hk37 (by decide) e47
              refine ar_ret (k := 48) rfl rfl rfl (Nat.le_refl _) ?_
              first
                | (exfalso; omega)
                | (refine ⟨rfl, I47, rfl, hk47, ?_⟩; rw [e47, e37, e29]; simp only [rSets, uI_at, Int.reduceEq, reduceIte, Prod.mk.injEq]; refine ⟨?_, ?_, ?_⟩ <;> omega)
            · refine ar_iload (k := 43) rfl rfl ?_
              refine ar_goto (k := 44) rfl ?_
              refine br_putIJ (k := 47) rfl (hS.k (by decide)) flR_172_12 (by decide) rfl (fun _ _ _ q => by cases q; exact ⟨rfl, rfl⟩) (fun I47 e47 => ?_)
              change _ = uI _ 69 13 _ at e47
              have hs47 : I47 70 = s := by rw [e47]; exact hs37
              have hk47 := rq.f hk37 (by decide) e47
              refine ar_ret (k := 48) rfl rfl rfl (Nat.le_refl _) ?_
              first
                | (exfalso; omega)
                | (refine ⟨rfl, I47, rfl, hk47, ?_⟩; rw [e47, e37, e29]; simp only [rSets, uI_at, Int.reduceEq, reduceIte, Prod.mk.injEq]; refine ⟨?_, ?_, ?_⟩ <;> omega)
      · refine ar_iload (k := 10) rfl rfl ?_
        refine ar_aloadn (k := 11) rfl rfl ?_
        refine br_getI (k := 12) rfl (hS.k (by decide)) flR_166_12 (by decide) rfl ?_
        refine tw_top (y := I 69 11) rfl ?_
        refine ar_icmp_ne (k := 13) rfl (by omega) (by omega) (fun c13 => ?_) (fun c13 => ?_)
        · refine ar_iconst (k := 20) rfl ?_
          refine ar_istore (k := 21) (l2 := [(7, _), (0, _), (1, _), (2, _), (3, _), (4, _), (5, _), (6, _)]) rfl (by decide) rfl ?_
          refine ar_aloadn (k := 22) rfl rfl ?_
          refine ar_iload (k := 23) rfl rfl ?_
          refine ar_if_eq (k := 24) rfl (by omega) (fun c24 => ?_) (fun c24 => ?_)
          · refine ar_aloadn (k := 27) rfl rfl ?_
            refine br_getI (k := 28) rfl (hS.k (by decide)) flR_166_12 (by decide) rfl ?_
            refine tw_top (y := I 69 11) rfl ?_
            refine br_putIJ (k := 29) rfl (hS.k (by decide)) flR_166_12 (by decide) rfl (fun _ _ _ q => by cases q; exact ⟨rfl, rfl⟩) (fun I29 e29 => ?_)
            change _ = uI _ 69 11 _ at e29
            have hs29 : I29 70 = s := by rw [e29]; exact hs
            have hk29 := rq.f hk (by decide) e29
            refine ar_aloadn (k := 30) rfl rfl ?_
            refine ar_iload (k := 31) rfl rfl ?_
            refine ar_if_eq (k := 32) rfl (by omega) (fun c32 => ?_) (fun c32 => ?_)
            · refine ar_aloadn (k := 35) rfl rfl ?_
              refine br_getI (k := 36) rfl (hS.k (by decide)) flR_169_12 (by decide) rfl ?_
              refine tw_top (y := I 69 12) (by rw [e29, uI_at, if_neg (by decide)]; rfl) ?_
              refine br_putIJ (k := 37) rfl (hS.k (by decide)) flR_169_12 (by decide) rfl (fun _ _ _ q => by cases q; exact ⟨rfl, rfl⟩) (fun I37 e37 => ?_)
              change _ = uI _ 69 12 _ at e37
              have hs37 : I37 70 = s := by rw [e37]; exact hs29
              have hk37 := rq.f hk29 (by decide) e37
              refine ar_aloadn (k := 38) rfl rfl ?_
              refine ar_iload (k := 39) rfl rfl ?_
              refine ar_aloadn (k := 40) rfl rfl ?_
              refine br_getI (k := 41) rfl (hS.k (by decide)) flR_172_12 (by decide) rfl ?_
              refine tw_top (y := I 69 13) (by rw [e37, uI_at, if_neg (by decide), e29, uI_at, if_neg (by decide)]; rfl) ?_
              refine ar_icmp_le (k := 42) rfl (by omega) (by omega) (fun c42 => ?_) (fun c42 => ?_)
              · refine ar_aloadn (k := 45) rfl rfl ?_
                refine br_getI (k := 46) rfl (hS.k (by decide)) flR_172_12 (by decide) rfl ?_
                refine tw_top (y := I 69 13) (by rw [e37, uI_at, if_neg (by decide), e29, uI_at, if_neg (by decide)]; rfl) ?_
                refine br_putIJ (k := 47) rfl (hS.k (by decide)) flR_172_12 (by decide) rfl (fun _ _ _ q => by cases q; exact ⟨rfl, rfl⟩) (fun I47 e47 => ?_)
                change _ = uI _ 69 13 _ at e47
                have hs47 : I47 70 = s := by rw [e47]; exact hs37
                have hk47 := rq.f hk37 (by decide) e47
                refine ar_ret (k := 48) rfl rfl rfl (Nat.le_refl _) ?_
                first
                  | (exfalso; omega)
                  | (refine ⟨rfl, I47, rfl, hk47, ?_⟩; rw [e47, e37, e29]; simp only [rSets, uI_at, Int.reduceEq, reduceIte, Prod.mk.injEq]; refine ⟨?_, ?_, ?_⟩ <;> omega)
              · refine ar_iload (k := 43) rfl rfl ?_
                refine ar_goto (k := 44) rfl ?_
                refine br_putIJ (k := 47) rfl (hS.k (by decide)) flR_172_12 (by decide) rfl (fun _ _ _ q => by cases q; exact ⟨rfl, rfl⟩) (fun I47 e47 => ?_)
                change _ = uI _ 69 13 _ at e47
                have hs47 : I47 70 = s := by rw [e47]; exact hs37
                have hk47 := rq.f hk37 (by decide) e47
                refine ar_ret (k := 48) rfl rfl rfl (Nat.le_refl _) ?_
                first
                  | (exfalso; omega)
                  | (refine ⟨rfl, I47, rfl, hk47, ?_⟩; rw [e47, e37, e29]; simp only [rSets, uI_at, Int.reduceEq, reduceIte, Prod.mk.injEq]; refine ⟨?_, ?_, ?_⟩ <;> omega)
            · refine ar_iloadn (k := 33) rfl rfl ?_
              refine ar_goto (k := 34) rfl ?_
              refine br_putIJ (k := 37) rfl (hS.k (by decide)) flR_169_12 (by decide) rfl (fun _ _ _ q => by cases q; exact ⟨rfl, rfl⟩) (fun I37 e37 => ?_)
              change _ = uI _ 69 12 _ at e37
              have hs37 : I37 70 = s := by rw [e37]; exact hs29
              have hk37 := rq.f hk29 (by decide) e37
              refine ar_aloadn (k := 38) rfl rfl ?_
              refine ar_iload (k := 39) rfl rfl ?_
              refine ar_aloadn (k := 40) rfl rfl ?_
              refine br_getI (k := 41) rfl (hS.k (by decide)) flR_172_12 (by decide) rfl ?_
              refine tw_top (y := I 69 13) (by rw [e37, uI_at, if_neg (by decide), e29, uI_at, if_neg (by decide)]; rfl) ?_
              refine ar_icmp_le (k := 42) rfl (by omega) (by omega) (fun c42 => ?_) (fun c42 => ?_)
              · refine ar_aloadn (k := 45) rfl rfl ?_
                refine br_getI (k := 46) rfl (hS.k (by decide)) flR_172_12 (by decide) rfl ?_
                refine tw_top (y := I 69 13) (by rw [e37, uI_at, if_neg (by decide), e29, uI_at, if_neg (by decide)]; rfl) ?_
                refine br_putIJ (k := 47) rfl (hS.k (by decide)) flR_172_12 (by decide) rfl (fun _ _ _ q => by cases q; exact ⟨rfl, rfl⟩) (fun I47 e47 => ?_)
                change _ = uI _ 69 13 _ at e47
                have hs47 : I47 70 = s := by rw [e47]; exact hs37
                have hk47 := rq.f hk37 (by decide) e47
                refine ar_ret (k := 48) rfl rfl rfl (Nat.le_refl _) ?_
                first
                  | (exfalso; omega)
                  | (refine ⟨rfl, I47, rfl, hk47, ?_⟩; rw [e47, e37, e29]; simp only [rSets, uI_at, Int.reduceEq, reduceIte, Prod.mk.injEq]; refine ⟨?_, ?_, ?_⟩ <;> omega)
              · refine ar_iload (k := 43) rfl rfl ?_
                refine ar_goto (k := 44) rfl ?_
                refine br_putIJ (k := 47) rfl (hS.k (by decide)) flR_172_12 (by decide) rfl (fun _ _ _ q => by cases q; exact ⟨rfl, rfl⟩) (fun I47 e47 => ?_)
                change _ = uI _ 69 13 _ at e47
                have hs47 : I47 70 = s := by rw [e47]; exact hs37
                have hk47 := rq.f hk37 (by decide) e47
                refine ar_ret (k := 48) rfl rfl rfl (Nat.le_refl _) ?_
                first
                  | (exfalso; omega)
                  | (refine ⟨rfl, I47, rfl, hk47, ?_⟩; rw [e47, e37, e29]; simp only [rSets, uI_at, Int.reduceEq, reduceIte, Prod.mk.injEq]; refine ⟨?_, ?_, ?_⟩ <;> omega)
          · refine ar_iload (k := 25) rfl rfl ?_
            refine ar_goto (k := 26) rfl ?_
            refine br_putIJ (k := 29) rfl (hS.k (by decide)) flR_166_12 (by decide) rfl (fun _ _ _ q => by cases q; exact ⟨rfl, rfl⟩) (fun I29 e29 => ?_)
            change _ = uI _ 69 11 _ at e29
            have hs29 : I29 70 = s := by rw [e29]; exact hs
            have hk29 := rq.f hk (by decide) e29
            refine ar_aloadn (k := 30) rfl rfl ?_
            refine ar_iload (k := 31) rfl rfl ?_
            refine ar_if_eq (k := 32) rfl (by omega) (fun c32 => ?_) (fun c32 => ?_)
            · refine ar_aloadn (k := 35) rfl rfl ?_
              refine br_getI (k := 36) rfl (hS.k (by decide)) flR_169_12 (by decide) rfl ?_
              refine tw_top (y := I 69 12) (by rw [e29, uI_at, if_neg (by decide)]; rfl) ?_
              refine br_putIJ (k := 37) rfl (hS.k (by decide)) flR_169_12 (by decide) rfl (fun _ _ _ q => by cases q; exact ⟨rfl, rfl⟩) (fun I37 e37 => ?_)
              change _ = uI _ 69 12 _ at e37
              have hs37 : I37 70 = s := by rw [e37]; exact hs29
              have hk37 := rq.f hk29 (by decide) e37
              refine ar_aloadn (k := 38) rfl rfl ?_
              refine ar_iload (k := 39) rfl rfl ?_
              refine ar_aloadn (k := 40) rfl rfl ?_
              refine br_getI (k := 41) rfl (hS.k (by decide)) flR_172_12 (by decide) rfl ?_
              refine tw_top (y := I 69 13) (by rw [e37, uI_at, if_neg (by decide), e29, uI_at, if_neg (by decide)]; rfl) ?_
              refine ar_icmp_le (k := 42) rfl (by omega) (by omega) (fun c42 => ?_) (fun c42 => ?_)
              · refine ar_aloadn (k := 45) rfl rfl ?_
                refine br_getI (k := 46) rfl (hS.k (by decide)) flR_172_12 (by decide) rfl ?_
                refine tw_top (y := I 69 13) (by rw [e37, uI_at, if_neg (by decide), e29, uI_at, if_neg (by decide)]; rfl) ?_
                refine br_putIJ (k := 47) rfl (hS.k (by decide)) flR_172_12 (by decide) rfl (fun _ _ _ q => by cases q; exact ⟨rfl, rfl⟩) (fun I47 e47 => ?_)
                change _ = uI _ 69 13 _ at e47
                have hs47 : I47 70 = s := by rw [e47]; exact hs37
                have hk47 := rq.f hk37 (by decide) e47
                refine ar_ret (k := 48) rfl rfl rfl (Nat.le_refl _) ?_
                first
                  | (exfalso; omega)
                  | (refine ⟨rfl, I47, rfl, hk47, ?_⟩; rw [e47, e37, e29]; simp only [rSets, uI_at, Int.reduceEq, reduceIte, Prod.mk.injEq]; refine ⟨?_, ?_, ?_⟩ <;> omega)
              · refine ar_iload (k := 43) rfl rfl ?_
                refine ar_goto (k := 44) rfl ?_
                refine br_putIJ (k := 47) rfl (hS.k (by decide)) flR_172_12 (by decide) rfl (fun _ _ _ q => by cases q; exact ⟨rfl, rfl⟩) (fun I47 e47 => ?_)
                change _ = uI _ 69 13 _ at e47
                have hs47 : I47 70 = s := by rw [e47]; exact hs37
                have hk47 := rq.f hk37 (by decide) e47
                refine ar_ret (k := 48) rfl rfl rfl (Nat.le_refl _) ?_
                first
                  | (exfalso; omega)
                  | (refine ⟨rfl, I47, rfl, hk47, ?_⟩; rw [e47, e37, e29]; simp only [rSets, uI_at, Int.reduceEq, reduceIte, Prod.mk.injEq]; refine ⟨?_, ?_, ?_⟩ <;> omega)
            · refine ar_iloadn (k := 33) rfl rfl ?_
              refine ar_goto (k := 34) rfl ?_
              refine br_putIJ (k := 37) rfl (hS.k (by decide)) flR_169_12 (by decide) rfl (fun _ _ _ q => by cases q; exact ⟨rfl, rfl⟩) (fun I37 e37 => ?_)
              change _ = uI _ 69 12 _ at e37
              have hs37 : I37 70 = s := by rw [e37]; exact hs29
              have hk37 := rq.f hk29 (by decide) e37
              refine ar_aloadn (k := 38) rfl rfl ?_
              refine ar_iload (k := 39) rfl rfl ?_
              refine ar_aloadn (k := 40) rfl rfl ?_
              refine br_getI (k := 41) rfl (hS.k (by decide)) flR_172_12 (by decide) rfl ?_
              refine tw_top (y := I 69 13) (by rw [e37, uI_at, if_neg (by decide), e29, uI_at, if_neg (by decide)]; rfl) ?_
              refine ar_icmp_le (k := 42) rfl (by omega) (by omega) (fun c42 => ?_) (fun c42 => ?_)
              · refine ar_aloadn (k := 45) rfl rfl ?_
                refine br_getI (k := 46) rfl (hS.k (by decide)) flR_172_12 (by decide) rfl ?_
                refine tw_top (y := I 69 13) (by rw [e37, uI_at, if_neg (by decide), e29, uI_at, if_neg (by decide)]; rfl) ?_
                refine br_putIJ (k := 47) rfl (hS.k (by decide)) flR_172_12 (by decide) rfl (fun _ _ _ q => by cases q; exact ⟨rfl, rfl⟩) (fun I47 e47 => ?_)
                change _ = uI _ 69 13 _ at e47
                have hs47 : I47 70 = s := by rw [e47]; exact hs37
                have hk47 := rq.f hk37 (by decide) e47
                refine ar_ret (k := 48) rfl rfl rfl (Nat.le_refl _) ?_
                first
                  | (exfalso; omega)
                  | (refine ⟨rfl, I47, rfl, hk47, ?_⟩; rw [e47, e37, e29]; simp only [rSets, uI_at, Int.reduceEq, reduceIte, Prod.mk.injEq]; refine ⟨?_, ?_, ?_⟩ <;> omega)
              · refine ar_iload (k := 43) rfl rfl ?_
                refine ar_goto (k := 44) rfl ?_
                refine br_putIJ (k := 47) rfl (hS.k (by decide)) flR_172_12 (by decide) rfl (fun _ _ _ q => by cases q; exact ⟨rfl, rfl⟩) (fun I47 e47 => ?_)
                change _ = uI _ 69 13 _ at e47
                have hs47 : I47 70 = s := by rw [e47]; exact hs37
                have hk47 := rq.f hk37 (by decide) e47
                refine ar_ret (k := 48) rfl rfl rfl (Nat.le_refl _) ?_
                first
                  | (exfalso; omega)
                  | (refine ⟨rfl, I47, rfl, hk47, ?_⟩; rw [e47, e37, e29]; simp only [rSets, uI_at, Int.reduceEq, reduceIte, Prod.mk.injEq]; refine ⟨?_, ?_, ?_⟩ <;> omega)
        · refine ar_iloadn (k := 14) rfl rfl ?_
          refine ar_aloadn (k := 15) rfl rfl ?_
          refine br_getI (k := 16) rfl (hS.k (by decide)) flR_169_12 (by decide) rfl ?_
          refine tw_top (y := I 69 12) rfl ?_
          refine ar_icmp_ge (k := 17) rfl (by omega) (by omega) (fun c17 => ?_) (fun c17 => ?_)
          · refine ar_iconst (k := 20) rfl ?_
            refine ar_istore (k := 21) (l2 := [(7, _), (0, _), (1, _), (2, _), (3, _), (4, _), (5, _), (6, _)]) rfl (by decide) rfl ?_
            refine ar_aloadn (k := 22) rfl rfl ?_
            refine ar_iload (k := 23) rfl rfl ?_
            refine ar_if_eq (k := 24) rfl (by omega) (fun c24 => ?_) (fun c24 => ?_)
            · refine ar_aloadn (k := 27) rfl rfl ?_
              refine br_getI (k := 28) rfl (hS.k (by decide)) flR_166_12 (by decide) rfl ?_
              refine tw_top (y := I 69 11) rfl ?_
              refine br_putIJ (k := 29) rfl (hS.k (by decide)) flR_166_12 (by decide) rfl (fun _ _ _ q => by cases q; exact ⟨rfl, rfl⟩) (fun I29 e29 => ?_)
              change _ = uI _ 69 11 _ at e29
              have hs29 : I29 70 = s := by rw [e29]; exact hs
              have hk29 := rq.f hk (by decide) e29
              refine ar_aloadn (k := 30) rfl rfl ?_
              refine ar_iload (k := 31) rfl rfl ?_
              refine ar_if_eq (k := 32) rfl (by omega) (fun c32 => ?_) (fun c32 => ?_)
              · refine ar_aloadn (k := 35) rfl rfl ?_
                refine br_getI (k := 36) rfl (hS.k (by decide)) flR_169_12 (by decide) rfl ?_
                refine tw_top (y := I 69 12) (by rw [e29, uI_at, if_neg (by decide)]; rfl) ?_
                refine br_putIJ (k := 37) rfl (hS.k (by decide)) flR_169_12 (by decide) rfl (fun _ _ _ q => by cases q; exact ⟨rfl, rfl⟩) (fun I37 e37 => ?_)
                change _ = uI _ 69 12 _ at e37
                have hs37 : I37 70 = s := by rw [e37]; exact hs29
                have hk37 := rq.f hk29 (by decide) e37
                refine ar_aloadn (k := 38) rfl rfl ?_
                refine ar_iload (k := 39) rfl rfl ?_
                refine ar_aloadn (k := 40) rfl rfl ?_
                refine br_getI (k := 41) rfl (hS.k (by decide)) flR_172_12 (by decide) rfl ?_
                refine tw_top (y := I 69 13) (by rw [e37, uI_at, if_neg (by decide), e29, uI_at, if_neg (by decide)]; rfl) ?_
                refine ar_icmp_le (k := 42) rfl (by omega) (by omega) (fun c42 => ?_) (fun c42 => ?_)
                · refine ar_aloadn (k := 45) rfl rfl ?_
                  refine br_getI (k := 46) rfl (hS.k (by decide)) flR_172_12 (by decide) rfl ?_
                  refine tw_top (y := I 69 13) (by rw [e37, uI_at, if_neg (by decide), e29, uI_at, if_neg (by decide)]; rfl) ?_
                  refine br_putIJ (k := 47) rfl (hS.k (by decide)) flR_172_12 (by decide) rfl (fun _ _ _ q => by cases q; exact ⟨rfl, rfl⟩) (fun I47 e47 => ?_)
                  change _ = uI _ 69 13 _ at e47
                  have hs47 : I47 70 = s := by rw [e47]; exact hs37
                  have hk47 := rq.f hk37 (by decide) e47
                  refine ar_ret (k := 48) rfl rfl rfl (Nat.le_refl _) ?_
                  first
                    | (exfalso; omega)
                    | (refine ⟨rfl, I47, rfl, hk47, ?_⟩; rw [e47, e37, e29]; simp only [rSets, uI_at, Int.reduceEq, reduceIte, Prod.mk.injEq]; refine ⟨?_, ?_, ?_⟩ <;> omega)
                · refine ar_iload (k := 43) rfl rfl ?_
                  refine ar_goto (k := 44) rfl ?_
                  refine br_putIJ (k := 47) rfl (hS.k (by decide)) flR_172_12 (by decide) rfl (fun _ _ _ q => by cases q; exact ⟨rfl, rfl⟩) (fun I47 e47 => ?_)
                  change _ = uI _ 69 13 _ at e47
                  have hs47 : I47 70 = s := by rw [e47]; exact hs37
                  have hk47 := rq.f hk37 (by decide) e47
                  refine ar_ret (k := 48) rfl rfl rfl (Nat.le_refl _) ?_
                  first
                    | (exfalso; omega)
                    | (refine ⟨rfl, I47, rfl, hk47, ?_⟩; rw [e47, e37, e29]; simp only [rSets, uI_at, Int.reduceEq, reduceIte, Prod.mk.injEq]; refine ⟨?_, ?_, ?_⟩ <;> omega)
              · refine ar_iloadn (k := 33) rfl rfl ?_
                refine ar_goto (k := 34) rfl ?_
                refine br_putIJ (k := 37) rfl (hS.k (by decide)) flR_169_12 (by decide) rfl (fun _ _ _ q => by cases q; exact ⟨rfl, rfl⟩) (fun I37 e37 => ?_)
                change _ = uI _ 69 12 _ at e37
                have hs37 : I37 70 = s := by rw [e37]; exact hs29
                have hk37 := rq.f hk29 (by decide) e37
                refine ar_aloadn (k := 38) rfl rfl ?_
                refine ar_iload (k := 39) rfl rfl ?_
                refine ar_aloadn (k := 40) rfl rfl ?_
                refine br_getI (k := 41) rfl (hS.k (by decide)) flR_172_12 (by decide) rfl ?_
                refine tw_top (y := I 69 13) (by rw [e37, uI_at, if_neg (by decide), e29, uI_at, if_neg (by decide)]; rfl) ?_
                refine ar_icmp_le (k := 42) rfl (by omega) (by omega) (fun c42 => ?_) (fun c42 => ?_)
                · refine ar_aloadn (k := 45) rfl rfl ?_
                  refine br_getI (k := 46) rfl (hS.k (by decide)) flR_172_12 (by decide) rfl ?_
                  refine tw_top (y := I 69 13) (by rw [e37, uI_at, if_neg (by decide), e29, uI_at, if_neg (by decide)]; rfl) ?_
                  refine br_putIJ (k := 47) rfl (hS.k (by decide)) flR_172_12 (by decide) rfl (fun _ _ _ q => by cases q; exact ⟨rfl, rfl⟩) (fun I47 e47 => ?_)
                  change _ = uI _ 69 13 _ at e47
                  have hs47 : I47 70 = s := by rw [e47]; exact hs37
                  have hk47 := rq.f hk37 (by decide) e47
                  refine ar_ret (k := 48) rfl rfl rfl (Nat.le_refl _) ?_
                  first
                    | (exfalso; omega)
                    | (refine ⟨rfl, I47, rfl, hk47, ?_⟩; rw [e47, e37, e29]; simp only [rSets, uI_at, Int.reduceEq, reduceIte, Prod.mk.injEq]; refine ⟨?_, ?_, ?_⟩ <;> omega)
                · refine ar_iload (k := 43) rfl rfl ?_
                  refine ar_goto (k := 44) rfl ?_
                  refine br_putIJ (k := 47) rfl (hS.k (by decide)) flR_172_12 (by decide) rfl (fun _ _ _ q => by cases q; exact ⟨rfl, rfl⟩) (fun I47 e47 => ?_)
                  change _ = uI _ 69 13 _ at e47
                  have hs47 : I47 70 = s := by rw [e47]; exact hs37
                  have hk47 := rq.f hk37 (by decide) e47
                  refine ar_ret (k := 48) rfl rfl rfl (Nat.le_refl _) ?_
                  first
                    | (exfalso; omega)
                    | (refine ⟨rfl, I47, rfl, hk47, ?_⟩; rw [e47, e37, e29]; simp only [rSets, uI_at, Int.reduceEq, reduceIte, Prod.mk.injEq]; refine ⟨?_, ?_, ?_⟩ <;> omega)
            · refine ar_iload (k := 25) rfl rfl ?_
              refine ar_goto (k := 26) rfl ?_
              refine br_putIJ (k := 29) rfl (hS.k (by decide)) flR_166_12 (by decide) rfl (fun _ _ _ q => by cases q; exact ⟨rfl, rfl⟩) (fun I29 e29 => ?_)
              change _ = uI _ 69 11 _ at e29
              have hs29 : I29 70 = s := by rw [e29]; exact hs
              have hk29 := rq.f hk (by decide) e29
              refine ar_aloadn (k := 30) rfl rfl ?_
              refine ar_iload (k := 31) rfl rfl ?_
              refine ar_if_eq (k := 32) rfl (by omega) (fun c32 => ?_) (fun c32 => ?_)
              · refine ar_aloadn (k := 35) rfl rfl ?_
                refine br_getI (k := 36) rfl (hS.k (by decide)) flR_169_12 (by decide) rfl ?_
                refine tw_top (y := I 69 12) (by rw [e29, uI_at, if_neg (by decide)]; rfl) ?_
                refine br_putIJ (k := 37) rfl (hS.k (by decide)) flR_169_12 (by decide) rfl (fun _ _ _ q => by cases q; exact ⟨rfl, rfl⟩) (fun I37 e37 => ?_)
                change _ = uI _ 69 12 _ at e37
                have hs37 : I37 70 = s := by rw [e37]; exact hs29
                have hk37 := rq.f hk29 (by decide) e37
                refine ar_aloadn (k := 38) rfl rfl ?_
                refine ar_iload (k := 39) rfl rfl ?_
                refine ar_aloadn (k := 40) rfl rfl ?_
                refine br_getI (k := 41) rfl (hS.k (by decide)) flR_172_12 (by decide) rfl ?_
                refine tw_top (y := I 69 13) (by rw [e37, uI_at, if_neg (by decide), e29, uI_at, if_neg (by decide)]; rfl) ?_
                refine ar_icmp_le (k := 42) rfl (by omega) (by omega) (fun c42 => ?_) (fun c42 => ?_)
                · refine ar_aloadn (k := 45) rfl rfl ?_
                  refine br_getI (k := 46) rfl (hS.k (by decide)) flR_172_12 (by decide) rfl ?_
                  refine tw_top (y := I 69 13) (by rw [e37, uI_at, if_neg (by decide), e29, uI_at, if_neg (by decide)]; rfl) ?_
                  refine br_putIJ (k := 47) rfl (hS.k (by decide)) flR_172_12 (by decide) rfl (fun _ _ _ q => by cases q; exact ⟨rfl, rfl⟩) (fun I47 e47 => ?_)
                  change _ = uI _ 69 13 _ at e47
                  have hs47 : I47 70 = s := by rw [e47]; exact hs37
                  have hk47 := rq.f hk37 (by decide) e47
                  refine ar_ret (k := 48) rfl rfl rfl (Nat.le_refl _) ?_
                  first
                    | (exfalso; omega)
                    | (refine ⟨rfl, I47, rfl, hk47, ?_⟩; rw [e47, e37, e29]; simp only [rSets, uI_at, Int.reduceEq, reduceIte, Prod.mk.injEq]; refine ⟨?_, ?_, ?_⟩ <;> omega)
                · refine ar_iload (k := 43) rfl rfl ?_
                  refine ar_goto (k := 44) rfl ?_
                  refine br_putIJ (k := 47) rfl (hS.k (by decide)) flR_172_12 (by decide) rfl (fun _ _ _ q => by cases q; exact ⟨rfl, rfl⟩) (fun I47 e47 => ?_)
                  change _ = uI _ 69 13 _ at e47
                  have hs47 : I47 70 = s := by rw [e47]; exact hs37
                  have hk47 := rq.f hk37 (by decide) e47
                  refine ar_ret (k := 48) rfl rfl rfl (Nat.le_refl _) ?_
                  first
                    | (exfalso; omega)
                    | (refine ⟨rfl, I47, rfl, hk47, ?_⟩; rw [e47, e37, e29]; simp only [rSets, uI_at, Int.reduceEq, reduceIte, Prod.mk.injEq]; refine ⟨?_, ?_, ?_⟩ <;> omega)
              · refine ar_iloadn (k := 33) rfl rfl ?_
                refine ar_goto (k := 34) rfl ?_
                refine br_putIJ (k := 37) rfl (hS.k (by decide)) flR_169_12 (by decide) rfl (fun _ _ _ q => by cases q; exact ⟨rfl, rfl⟩) (fun I37 e37 => ?_)
                change _ = uI _ 69 12 _ at e37
                have hs37 : I37 70 = s := by rw [e37]; exact hs29
                have hk37 := rq.f hk29 (by decide) e37
                refine ar_aloadn (k := 38) rfl rfl ?_
                refine ar_iload (k := 39) rfl rfl ?_
                refine ar_aloadn (k := 40) rfl rfl ?_
                refine br_getI (k := 41) rfl (hS.k (by decide)) flR_172_12 (by decide) rfl ?_
                refine tw_top (y := I 69 13) (by rw [e37, uI_at, if_neg (by decide), e29, uI_at, if_neg (by decide)]; rfl) ?_
                refine ar_icmp_le (k := 42) rfl (by omega) (by omega) (fun c42 => ?_) (fun c42 => ?_)
                · refine ar_aloadn (k := 45) rfl rfl ?_
                  refine br_getI (k := 46) rfl (hS.k (by decide)) flR_172_12 (by decide) rfl ?_
                  refine tw_top (y := I 69 13) (by rw [e37, uI_at, if_neg (by decide), e29, uI_at, if_neg (by decide)]; rfl) ?_
                  refine br_putIJ (k := 47) rfl (hS.k (by decide)) flR_172_12 (by decide) rfl (fun _ _ _ q => by cases q; exact ⟨rfl, rfl⟩) (fun I47 e47 => ?_)
                  change _ = uI _ 69 13 _ at e47
                  have hs47 : I47 70 = s := by rw [e47]; exact hs37
                  have hk47 := rq.f hk37 (by decide) e47
                  refine ar_ret (k := 48) rfl rfl rfl (Nat.le_refl _) ?_
                  first
                    | (exfalso; omega)
                    | (refine ⟨rfl, I47, rfl, hk47, ?_⟩; rw [e47, e37, e29]; simp only [rSets, uI_at, Int.reduceEq, reduceIte, Prod.mk.injEq]; refine ⟨?_, ?_, ?_⟩ <;> omega)
                · refine ar_iload (k := 43) rfl rfl ?_
                  refine ar_goto (k := 44) rfl ?_
                  refine br_putIJ (k := 47) rfl (hS.k (by decide)) flR_172_12 (by decide) rfl (fun _ _ _ q => by cases q; exact ⟨rfl, rfl⟩) (fun I47 e47 => ?_)
                  change _ = uI _ 69 13 _ at e47
                  have hs47 : I47 70 = s := by rw [e47]; exact hs37
                  have hk47 := rq.f hk37 (by decide) e47
                  refine ar_ret (k := 48) rfl rfl rfl (Nat.le_refl _) ?_
                  first
                    | (exfalso; omega)
                    | (refine ⟨rfl, I47, rfl, hk47, ?_⟩; rw [e47, e37, e29]; simp only [rSets, uI_at, Int.reduceEq, reduceIte, Prod.mk.injEq]; refine ⟨?_, ?_, ?_⟩ <;> omega)
          · refine ar_iconst (k := 18) rfl ?_
            refine ar_goto (k := 19) rfl ?_
            refine ar_istore (k := 21) (l2 := [(7, _), (0, _), (1, _), (2, _), (3, _), (4, _), (5, _), (6, _)]) rfl (by decide) rfl ?_
            refine ar_aloadn (k := 22) rfl rfl ?_
            refine ar_iload (k := 23) rfl rfl ?_
            refine ar_if_eq (k := 24) rfl (by omega) (fun c24 => ?_) (fun c24 => ?_)
            · refine ar_aloadn (k := 27) rfl rfl ?_
              refine br_getI (k := 28) rfl (hS.k (by decide)) flR_166_12 (by decide) rfl ?_
              refine tw_top (y := I 69 11) rfl ?_
              refine br_putIJ (k := 29) rfl (hS.k (by decide)) flR_166_12 (by decide) rfl (fun _ _ _ q => by cases q; exact ⟨rfl, rfl⟩) (fun I29 e29 => ?_)
              change _ = uI _ 69 11 _ at e29
              have hs29 : I29 70 = s := by rw [e29]; exact hs
              have hk29 := rq.f hk (by decide) e29
              refine ar_aloadn (k := 30) rfl rfl ?_
              refine ar_iload (k := 31) rfl rfl ?_
              refine ar_if_eq (k := 32) rfl (by omega) (fun c32 => ?_) (fun c32 => ?_)
              · refine ar_aloadn (k := 35) rfl rfl ?_
                refine br_getI (k := 36) rfl (hS.k (by decide)) flR_169_12 (by decide) rfl ?_
                refine tw_top (y := I 69 12) (by rw [e29, uI_at, if_neg (by decide)]; rfl) ?_
                refine br_putIJ (k := 37) rfl (hS.k (by decide)) flR_169_12 (by decide) rfl (fun _ _ _ q => by cases q; exact ⟨rfl, rfl⟩) (fun I37 e37 => ?_)
                change _ = uI _ 69 12 _ at e37
                have hs37 : I37 70 = s := by rw [e37]; exact hs29
                have hk37 := rq.f hk29 (by decide) e37
                refine ar_aloadn (k := 38) rfl rfl ?_
                refine ar_iload (k := 39) rfl rfl ?_
                refine ar_aloadn (k := 40) rfl rfl ?_
                refine br_getI (k := 41) rfl (hS.k (by decide)) flR_172_12 (by decide) rfl ?_
                refine tw_top (y := I 69 13) (by rw [e37, uI_at, if_neg (by decide), e29, uI_at, if_neg (by decide)]; rfl) ?_
                refine ar_icmp_le (k := 42) rfl (by omega) (by omega) (fun c42 => ?_) (fun c42 => ?_)
                · refine ar_aloadn (k := 45) rfl rfl ?_
                  refine br_getI (k := 46) rfl (hS.k (by decide)) flR_172_12 (by decide) rfl ?_
                  refine tw_top (y := I 69 13) (by rw [e37, uI_at, if_neg (by decide), e29, uI_at, if_neg (by decide)]; rfl) ?_
                  refine br_putIJ (k := 47) rfl (hS.k (by decide)) flR_172_12 (by decide) rfl (fun _ _ _ q => by cases q; exact ⟨rfl, rfl⟩) (fun I47 e47 => ?_)
                  change _ = uI _ 69 13 _ at e47
                  have hs47 : I47 70 = s := by rw [e47]; exact hs37
                  have hk47 := rq.f hk37 (by decide) e47
                  refine ar_ret (k := 48) rfl rfl rfl (Nat.le_refl _) ?_
                  first
                    | (exfalso; omega)
                    | (refine ⟨rfl, I47, rfl, hk47, ?_⟩; rw [e47, e37, e29]; simp only [rSets, uI_at, Int.reduceEq, reduceIte, Prod.mk.injEq]; refine ⟨?_, ?_, ?_⟩ <;> omega)
                · refine ar_iload (k := 43) rfl rfl ?_
                  refine ar_goto (k := 44) rfl ?_
                  refine br_putIJ (k := 47) rfl (hS.k (by decide)) flR_172_12 (by decide) rfl (fun _ _ _ q => by cases q; exact ⟨rfl, rfl⟩) (fun I47 e47 => ?_)
                  change _ = uI _ 69 13 _ at e47
                  have hs47 : I47 70 = s := by rw [e47]; exact hs37
                  have hk47 := rq.f hk37 (by decide) e47
                  refine ar_ret (k := 48) rfl rfl rfl (Nat.le_refl _) ?_
                  first
                    | (exfalso; omega)
                    | (refine ⟨rfl, I47, rfl, hk47, ?_⟩; rw [e47, e37, e29]; simp only [rSets, uI_at, Int.reduceEq, reduceIte, Prod.mk.injEq]; refine ⟨?_, ?_, ?_⟩ <;> omega)
              · refine ar_iloadn (k := 33) rfl rfl ?_
                refine ar_goto (k := 34) rfl ?_
                refine br_putIJ (k := 37) rfl (hS.k (by decide)) flR_169_12 (by decide) rfl (fun _ _ _ q => by cases q; exact ⟨rfl, rfl⟩) (fun I37 e37 => ?_)
                change _ = uI _ 69 12 _ at e37
                have hs37 : I37 70 = s := by rw [e37]; exact hs29
                have hk37 := rq.f hk29 (by decide) e37
                refine ar_aloadn (k := 38) rfl rfl ?_
                refine ar_iload (k := 39) rfl rfl ?_
                refine ar_aloadn (k := 40) rfl rfl ?_
                refine br_getI (k := 41) rfl (hS.k (by decide)) flR_172_12 (by decide) rfl ?_
                refine tw_top (y := I 69 13) (by rw [e37, uI_at, if_neg (by decide), e29, uI_at, if_neg (by decide)]; rfl) ?_
                refine ar_icmp_le (k := 42) rfl (by omega) (by omega) (fun c42 => ?_) (fun c42 => ?_)
                · refine ar_aloadn (k := 45) rfl rfl ?_
                  refine br_getI (k := 46) rfl (hS.k (by decide)) flR_172_12 (by decide) rfl ?_
                  refine tw_top (y := I 69 13) (by rw [e37, uI_at, if_neg (by decide), e29, uI_at, if_neg (by decide)]; rfl) ?_
                  refine br_putIJ (k := 47) rfl (hS.k (by decide)) flR_172_12 (by decide) rfl (fun _ _ _ q => by cases q; exact ⟨rfl, rfl⟩) (fun I47 e47 => ?_)
                  change _ = uI _ 69 13 _ at e47
                  have hs47 : I47 70 = s := by rw [e47]; exact hs37
                  have hk47 := rq.f hk37 (by decide) e47
                  refine ar_ret (k := 48) rfl rfl rfl (Nat.le_refl _) ?_
                  first
                    | (exfalso; omega)
                    | (refine ⟨rfl, I47, rfl, hk47, ?_⟩; rw [e47, e37, e29]; simp only [rSets, uI_at, Int.reduceEq, reduceIte, Prod.mk.injEq]; refine ⟨?_, ?_, ?_⟩ <;> omega)
                · refine ar_iload (k := 43) rfl rfl ?_
                  refine ar_goto (k := 44) rfl ?_
                  refine br_putIJ (k := 47) rfl (hS.k (by decide)) flR_172_12 (by decide) rfl (fun _ _ _ q => by cases q; exact ⟨rfl, rfl⟩) (fun I47 e47 => ?_)
                  change _ = uI _ 69 13 _ at e47
                  have hs47 : I47 70 = s := by rw [e47]; exact hs37
                  have hk47 := rq.f hk37 (by decide) e47
                  refine ar_ret (k := 48) rfl rfl rfl (Nat.le_refl _) ?_
                  first
                    | (exfalso; omega)
                    | (refine ⟨rfl, I47, rfl, hk47, ?_⟩; rw [e47, e37, e29]; simp only [rSets, uI_at, Int.reduceEq, reduceIte, Prod.mk.injEq]; refine ⟨?_, ?_, ?_⟩ <;> omega)
            · refine ar_iload (k := 25) rfl rfl ?_
              refine ar_goto (k := 26) rfl ?_
              refine br_putIJ (k := 29) rfl (hS.k (by decide)) flR_166_12 (by decide) rfl (fun _ _ _ q => by cases q; exact ⟨rfl, rfl⟩) (fun I29 e29 => ?_)
              change _ = uI _ 69 11 _ at e29
              have hs29 : I29 70 = s := by rw [e29]; exact hs
              have hk29 := rq.f hk (by decide) e29
              refine ar_aloadn (k := 30) rfl rfl ?_
              refine ar_iload (k := 31) rfl rfl ?_
              refine ar_if_eq (k := 32) rfl (by omega) (fun c32 => ?_) (fun c32 => ?_)
              · refine ar_aloadn (k := 35) rfl rfl ?_
                refine br_getI (k := 36) rfl (hS.k (by decide)) flR_169_12 (by decide) rfl ?_
                refine tw_top (y := I 69 12) (by rw [e29, uI_at, if_neg (by decide)]; rfl) ?_
                refine br_putIJ (k := 37) rfl (hS.k (by decide)) flR_169_12 (by decide) rfl (fun _ _ _ q => by cases q; exact ⟨rfl, rfl⟩) (fun I37 e37 => ?_)
                change _ = uI _ 69 12 _ at e37
                have hs37 : I37 70 = s := by rw [e37]; exact hs29
                have hk37 := rq.f hk29 (by decide) e37
                refine ar_aloadn (k := 38) rfl rfl ?_
                refine ar_iload (k := 39) rfl rfl ?_
                refine ar_aloadn (k := 40) rfl rfl ?_
                refine br_getI (k := 41) rfl (hS.k (by decide)) flR_172_12 (by decide) rfl ?_
                refine tw_top (y := I 69 13) (by rw [e37, uI_at, if_neg (by decide), e29, uI_at, if_neg (by decide)]; rfl) ?_
                refine ar_icmp_le (k := 42) rfl (by omega) (by omega) (fun c42 => ?_) (fun c42 => ?_)
                · refine ar_aloadn (k := 45) rfl rfl ?_
                  refine br_getI (k := 46) rfl (hS.k (by decide)) flR_172_12 (by decide) rfl ?_
                  refine tw_top (y := I 69 13) (by rw [e37, uI_at, if_neg (by decide), e29, uI_at, if_neg (by decide)]; rfl) ?_
                  refine br_putIJ (k := 47) rfl (hS.k (by decide)) flR_172_12 (by decide) rfl (fun _ _ _ q => by cases q; exact ⟨rfl, rfl⟩) (fun I47 e47 => ?_)
                  change _ = uI _ 69 13 _ at e47
                  have hs47 : I47 70 = s := by rw [e47]; exact hs37
                  have hk47 := rq.f hk37 (by decide) e47
                  refine ar_ret (k := 48) rfl rfl rfl (Nat.le_refl _) ?_
                  first
                    | (exfalso; omega)
                    | (refine ⟨rfl, I47, rfl, hk47, ?_⟩; rw [e47, e37, e29]; simp only [rSets, uI_at, Int.reduceEq, reduceIte, Prod.mk.injEq]; refine ⟨?_, ?_, ?_⟩ <;> omega)
                · refine ar_iload (k := 43) rfl rfl ?_
                  refine ar_goto (k := 44) rfl ?_
                  refine br_putIJ (k := 47) rfl (hS.k (by decide)) flR_172_12 (by decide) rfl (fun _ _ _ q => by cases q; exact ⟨rfl, rfl⟩) (fun I47 e47 => ?_)
                  change _ = uI _ 69 13 _ at e47
                  have hs47 : I47 70 = s := by rw [e47]; exact hs37
                  have hk47 := rq.f hk37 (by decide) e47
                  refine ar_ret (k := 48) rfl rfl rfl (Nat.le_refl _) ?_
                  first
                    | (exfalso; omega)
                    | (refine ⟨rfl, I47, rfl, hk47, ?_⟩; rw [e47, e37, e29]; simp only [rSets, uI_at, Int.reduceEq, reduceIte, Prod.mk.injEq]; refine ⟨?_, ?_, ?_⟩ <;> omega)
              · refine ar_iloadn (k := 33) rfl rfl ?_
                refine ar_goto (k := 34) rfl ?_
                refine br_putIJ (k := 37) rfl (hS.k (by decide)) flR_169_12 (by decide) rfl (fun _ _ _ q => by cases q; exact ⟨rfl, rfl⟩) (fun I37 e37 => ?_)
                change _ = uI _ 69 12 _ at e37
                have hs37 : I37 70 = s := by rw [e37]; exact hs29
                have hk37 := rq.f hk29 (by decide) e37
                refine ar_aloadn (k := 38) rfl rfl ?_
                refine ar_iload (k := 39) rfl rfl ?_
                refine ar_aloadn (k := 40) rfl rfl ?_
                refine br_getI (k := 41) rfl (hS.k (by decide)) flR_172_12 (by decide) rfl ?_
                refine tw_top (y := I 69 13) (by rw [e37, uI_at, if_neg (by decide), e29, uI_at, if_neg (by decide)]; rfl) ?_
                refine ar_icmp_le (k := 42) rfl (by omega) (by omega) (fun c42 => ?_) (fun c42 => ?_)
                · refine ar_aloadn (k := 45) rfl rfl ?_
                  refine br_getI (k := 46) rfl (hS.k (by decide)) flR_172_12 (by decide) rfl ?_
                  refine tw_top (y := I 69 13) (by rw [e37, uI_at, if_neg (by decide), e29, uI_at, if_neg (by decide)]; rfl) ?_
                  refine br_putIJ (k := 47) rfl (hS.k (by decide)) flR_172_12 (by decide) rfl (fun _ _ _ q => by cases q; exact ⟨rfl, rfl⟩) (fun I47 e47 => ?_)
                  change _ = uI _ 69 13 _ at e47
                  have hs47 : I47 70 = s := by rw [e47]; exact hs37
                  have hk47 := rq.f hk37 (by decide) e47
                  refine ar_ret (k := 48) rfl rfl rfl (Nat.le_refl _) ?_
                  first
                    | (exfalso; omega)
                    | (refine ⟨rfl, I47, rfl, hk47, ?_⟩; rw [e47, e37, e29]; simp only [rSets, uI_at, Int.reduceEq, reduceIte, Prod.mk.injEq]; refine ⟨?_, ?_, ?_⟩ <;> omega)
                · refine ar_iload (k := 43) rfl rfl ?_
                  refine ar_goto (k := 44) rfl ?_
                  refine br_putIJ (k := 47) rfl (hS.k (by decide)) flR_172_12 (by decide) rfl (fun _ _ _ q => by cases q; exact ⟨rfl, rfl⟩) (fun I47 e47 => ?_)
                  change _ = uI _ 69 13 _ at e47
                  have hs47 : I47 70 = s := by rw [e47]; exact hs37
                  have hk47 := rq.f hk37 (by decide) e47
                  refine ar_ret (k := 48) rfl rfl rfl (Nat.le_refl _) ?_
                  first
                    | (exfalso; omega)
                    | (refine ⟨rfl, I47, rfl, hk47, ?_⟩; rw [e47, e37, e29]; simp only [rSets, uI_at, Int.reduceEq, reduceIte, Prod.mk.injEq]; refine ⟨?_, ?_, ?_⟩ <;> omega)
  | succ k ih =>
    intro t e g w m I hS hs hj he hw hm hM
    have hk : rq I I := rq.rf
    have hwt := ht t (by omega) (by omega)
    have hB := rSets_bd (s := s) (u := u) hR hV k (t + 1) e g w m (I 69 11, I 69 12, I 69 13) (by omega) he (by omega) (by omega) hM
    have hbw := rWorth_bd (t := (t : Int)) (u := u) hR hV
    refine tw_intro okR_setsFrom (Nat.le_of_ble_eq_true rfl) ?_
    refine ar_iloadn (k := 0) rfl rfl ?_
    refine ar_aloadn (k := 1) rfl rfl ?_
    refine br_getR (k := 2) rfl (hS.k (by decide)) flR_9_12 (by decide) rfl (hS.r rfl) ?_
    refine ar_iconst (k := 3) rfl ?_
    refine br_iads (k := 4) rfl (hS.k (by decide)) (by omega) (by omega) (by decide) hs ?_
    refine ar_icmp_ne (k := 5) rfl (by omega) (by omega) (fun c5 => ?_) (fun c5 => ?_)
    · refine ar_aloadn (k := 49) rfl rfl ?_
      refine ar_iloadn (k := 50) rfl rfl ?_
      refine ar_iconst (k := 51) rfl ?_
      refine ar_iadd (k := 52) rfl ?_
      refine ar_iloadn (k := 53) rfl rfl ?_
      refine ar_iloadn (k := 54) rfl rfl ?_
      refine ar_iload (k := 55) rfl rfl ?_
      refine ar_iload (k := 56) rfl rfl ?_
      refine ar_iload (k := 57) rfl rfl ?_
      refine ar_callV (k := 58) (as := [vi ((t + 1 : Nat) : Int), vi u, vi e, vi g, vi w, vi m]) rfl lvR_175 (hS.k (by decide)) rfl (ih (t + 1) e g w m I hS hs (by omega) he (by omega) (by omega) hM) rfl (by omega) (by decide) tw_m0 (Nat.le_of_ble_eq_true rfl) (fun r h' hp => ?_)
      obtain ⟨rfl, I58, rfl, q58, hX⟩ := hp
      have hs58 : I58 70 = s := q58.s.trans hs
      have hS58 : tSt (K, I58, Q, n) := hS
      have hM58 : rMb (I58 69 11, I58 69 12, I58 69 13) := by rw [hX]; exact hB
      refine ar_aloadn (k := 59) rfl rfl ?_
      refine ar_iloadn (k := 60) rfl rfl ?_
      refine ar_iloadn (k := 61) rfl rfl ?_
      refine ar_iload (k := 62) rfl rfl ?_
      refine br_callV (k := 63) (as := [_, _, _]) rfl lvR_179 (hS.k (by decide)) rfl (c_R_can hS58 hs58 hR (by omega)) rfl (by omega) (by decide) tw_m0 (Nat.le_of_ble_eq_true rfl) ?_
      refine ar_if_eq (k := 64) rfl (by omega) (fun c64 => ?_) (fun c64 => ?_)
      · refine ar_ret (k := 109) rfl rfl rfl (Nat.le_refl _) ?_
        refine ⟨rfl, I58, rfl, q58, ?_⟩
        rw [hX, rSets, if_neg (by omega)]
      · refine ar_aloadn (k := 65) rfl rfl ?_
        refine ar_iloadn (k := 66) rfl rfl ?_
        refine ar_iconst (k := 67) rfl ?_
        refine ar_iadd (k := 68) rfl ?_
        refine ar_iloadn (k := 69) rfl rfl ?_
        refine ar_iloadn (k := 70) rfl rfl ?_
        refine ar_iconst (k := 71) rfl ?_
        refine ar_iloadn (k := 72) rfl rfl ?_
        refine ar_ishl (k := 73) rfl ?_
        refine ar_ior (k := 74) rfl ?_
        refine ar_iload (k := 75) rfl rfl ?_
        refine ar_iconst (k := 76) rfl ?_
        have hw2 := ht (s (94 + (t : Int))) (by omega) (by omega)
        refine ar_aloadn (k := 77) rfl rfl ?_
        refine br_getR (k := 78) rfl (hS.k (by decide)) flR_9_12 (by decide) rfl (hS.r rfl) ?_
        refine ar_bipush (k := 79) rfl (by decide) ?_
        refine ar_iloadn (k := 80) rfl rfl ?_
        refine ar_iadd (k := 81) rfl ?_
        refine br_iads (k := 82) rfl (hS.k (by decide)) (by omega) (by omega) (by decide) hs58 ?_
        refine ar_ishl (k := 83) rfl ?_
        refine ar_ior (k := 84) rfl ?_
        refine ar_iconst (k := 85) rfl ?_
        refine ar_aloadn (k := 86) rfl rfl ?_
        refine br_getR (k := 87) rfl (hS.k (by decide)) flR_9_12 (by decide) rfl (hS.r rfl) ?_
        refine ar_bipush (k := 88) rfl (by decide) ?_
        refine ar_aloadn (k := 89) rfl rfl ?_
        refine br_getR (k := 90) rfl (hS.k (by decide)) flR_9_12 (by decide) rfl (hS.r rfl) ?_
        refine ar_bipush (k := 91) rfl (by decide) ?_
        refine ar_iloadn (k := 92) rfl rfl ?_
        refine ar_iadd (k := 93) rfl ?_
        refine br_iads (k := 94) rfl (hS.k (by decide)) (by omega) (by omega) (by decide) hs58 ?_
        refine ar_iadd (k := 95) rfl ?_
        refine br_iads (k := 96) rfl (hS.k (by decide)) (by omega) (by omega) (by decide) hs58 ?_
        refine ar_ishl (k := 97) rfl ?_
        refine ar_ior (k := 98) rfl ?_
        refine ar_iload (k := 99) rfl rfl ?_
        refine ar_aloadn (k := 100) rfl rfl ?_
        refine ar_iloadn (k := 101) rfl rfl ?_
        refine ar_iloadn (k := 102) rfl rfl ?_
        refine br_callVR (k := 103) (as := [_, _]) rfl lvR_133 (hS.k (by decide)) rfl (c_R_worthOf hS58 hs58 hR hV (by omega) (by omega) (by omega)) rfl (by omega) (by decide) tw_m0 (Nat.le_of_ble_eq_true rfl) (fun I103 q103 => ?_)
        have hs103 : I103 70 = s := q103.s.trans hs58
        have hk103 := rq.trans q58 q103.q
        refine ar_iadd (k := 104) rfl ?_
        refine ar_iload (k := 105) rfl rfl ?_
        refine ar_iconst (k := 106) rfl ?_
        refine ar_iadd (k := 107) rfl ?_
        refine ar_callV (k := 108) (as := [vi ((t + 1 : Nat) : Int), vi u, vi (bOr e (bShl 1 (t : Int))), vi (bOr (bOr g (bShl 1 (s (84 + (t : Int))))) (bShl 1 (s (84 + s (94 + (t : Int)))))), vi (w + rWorth s t u), vi (m + 1)]) rfl lvR_175 (hS.k (by decide)) rfl (ih (t + 1) _ _ _ _ I103 hS hs103 (by omega) (tr_bOr _ _) (by omega) (by omega) (by rw [q103 69 (by decide) (by decide)]; exact hM58)) rfl (by omega) (by decide) tw_m0 (Nat.le_of_ble_eq_true rfl) (fun r h' hp => ?_)
        obtain ⟨rfl, I108, rfl, q108, hX2⟩ := hp
        refine ar_ret (k := 109) rfl rfl rfl (Nat.le_refl _) ?_
        refine ⟨rfl, I108, rfl, rq.trans hk103 q108, ?_⟩
        rw [hX2, rSets, if_pos (by omega), q103 69 (by decide) (by decide), hX]
    · exfalso; omega
theorem c_R_looksForMost {u : Int} (hS : tSt (K, I, Q, n)) (hs : I 70 = s) (hR : RInv s) (hV : RVal s) (u1 : 0 ≤ u ∧ u ≤ 23) : tw_M l G 15 0 0 mR_looksForMost [vr (some 69), vi u] (K, I, Q, n) (fun r h' => r = none ∧ ∃ J, h' = (K, J, Q, n) ∧ rq I J ∧ (J 69 11, J 69 12, J 69 13) = rMost s u) := by
  obtain ⟨h0, h1, h2, h3, h4, h5, h6, hp, hrw, ht, hr, hb, htp, hv⟩ := id hR
  have hk : rq I I := rq.rf
  refine tw_intro okR_looksForMost (Nat.le_of_ble_eq_true rfl) ?_
  refine ar_aloadn (k := 0) rfl rfl ?_
  refine ar_iconst (k := 1) rfl ?_
  refine br_putIJ (k := 2) rfl (hS.k (by decide)) flR_166_12 (by decide) rfl (fun _ _ _ q => by cases q; exact ⟨rfl, rfl⟩) (fun I2 e2 => ?_)
  change _ = uI _ 69 11 _ at e2
  have hs2 : I2 70 = s := by rw [e2]; exact hs
  have hk2 := rq.f hk (by decide) e2
  refine ar_aloadn (k := 3) rfl rfl ?_
  refine ar_iconst (k := 4) rfl ?_
  refine br_putIJ (k := 5) rfl (hS.k (by decide)) flR_169_12 (by decide) rfl (fun _ _ _ q => by cases q; exact ⟨rfl, rfl⟩) (fun I5 e5 => ?_)
  change _ = uI _ 69 12 _ at e5
  have hs5 : I5 70 = s := by rw [e5]; exact hs2
  have hk5 := rq.f hk2 (by decide) e5
  refine ar_aloadn (k := 6) rfl rfl ?_
  refine ar_iconst (k := 7) rfl ?_
  refine br_putIJ (k := 8) rfl (hS.k (by decide)) flR_172_12 (by decide) rfl (fun _ _ _ q => by cases q; exact ⟨rfl, rfl⟩) (fun I8 e8 => ?_)
  change _ = uI _ 69 13 _ at e8
  have hs8 : I8 70 = s := by rw [e8]; exact hs5
  have hk8 := rq.f hk5 (by decide) e8
  refine ar_aloadn (k := 9) rfl rfl ?_
  refine ar_iconst (k := 10) rfl ?_
  refine ar_iloadn (k := 11) rfl rfl ?_
  refine ar_iconst (k := 12) rfl ?_
  refine ar_iconst (k := 13) rfl ?_
  refine ar_iconst (k := 14) rfl ?_
  refine ar_iconst (k := 15) rfl ?_
  refine ar_callV (k := 16) (as := [vi ((0 : Nat) : Int), vi u, vi 0, vi 0, vi 0, vi 0]) rfl lvR_175 (hS.k (by decide)) rfl (c_R_setsFrom hR hV u1 (s 1).toNat 0 0 0 0 0 I8 hS hs8 (by omega) (by decide) (by omega) (by omega) (by rw [e8, e5, e2]; simp only [uI_at, Int.reduceEq, reduceIte]; decide)) rfl (by omega) (by decide) tw_m0 (Nat.le_of_ble_eq_true rfl) (fun r h' hp => ?_)
  obtain ⟨rfl, I16, rfl, q16, hX⟩ := hp
  refine ar_ret (k := 17) rfl rfl rfl (Nat.le_refl _) ?_
  refine ⟨rfl, I16, rfl, rq.trans hk8 q16, ?_⟩
  rw [hX, rMost]
  congr 1
  rw [e8, e5, e2]
  simp only [uI_at, Int.reduceEq, reduceIte]
end RG
