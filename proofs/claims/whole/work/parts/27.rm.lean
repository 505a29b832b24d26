def rActQ (s : Int → Int) (p a x : Int) : Int × List Int := if ¬ ((0 ≤ p ∧ p ≤ s 0 - 1) ∧ 0 ≤ a ∧ a ≤ 2) then (0, []) else if a = 0 then aL (s (10 + p)) p x else if a = 1 then aW (s (10 + p)) p (s (18 + p)) x else aT (s (10 + p)) p (s (18 + p)) x
def rFill (p : Int) : Nat → Nat → (Int → Int) → Int → Int
  | 0, _, g => g
  | k + 1, j, g => rFill p k (j + 1) (up g (42 + 4 * p + (j : Int)) (-1))
def rPart (s : Int → Int) (t : Int) : Int → Int := if s (94 + t) ≠ -1 then up (up s (94 + s (94 + t)) (-1)) (94 + t) (-1) else s
def rs_person (s : Int → Int) (k v u : Int) : Int × (Int → Int) := if ¬ (0 ≤ k ∧ k ≤ 6) then (-1, s) else if ¬ ((0 ≤ v ∧ v ≤ 9) ∧ 0 ≤ u ∧ u ≤ 3) then (-2, s) else if s 0 = 8 then (-4, s) else (s 0, up (rFill (s 0) 4 0 (up (up (up (up s (10 + s 0) k) (18 + s 0) v) (26 + s 0) u) (34 + s 0) 0)) 0 (s 0 + 1))
def rs_free (s : Int → Int) (p x : Int) : Int × (Int → Int) := if ¬ (0 ≤ p ∧ p ≤ s 0 - 1) then (-1, s) else if ¬ (0 ≤ x ∧ x ≤ 16777215) then (-2, s) else (smV (fun h => bAnd (bShr (s (34 + p)) h) 1) 24 0 0, up s (34 + p) x)
def rs_twin (s : Int → Int) (a b : Int) : Int × (Int → Int) := if ¬ ((0 ≤ a ∧ a ≤ s 1 - 1) ∧ 0 ≤ b ∧ b ≤ s 1 - 1) then (-1, s) else if a = b then (-2, s) else (if s (94 + a) = b then 1 else 0, up (up (rPart (rPart s a) b) (94 + a) b) (94 + b) a)
theorem rFill_0 {p : Int} (p1 : 0 ≤ p) : ∀ (k j : Nat) (g : Int → Int), rFill p k j g 0 = g 0
  | 0, _, _ => rfl
  | k + 1, j, g => by rw [rFill, rFill_0 p1 k (j + 1), up_ne _ _ (by omega)]
section RM
variable {l : Launch} {G : tG} {K : Nat → Nat × Nat} {I : Nat → Int → Int} {Q : Nat → Int → Option Nat} {n : Nat} {s : Int → Int}
theorem c_R_act {p a x : Int} (hS : tSt (K, I, Q, n)) (hs : I 70 = s) (hR : RInv s) (tp : tr p) (ta1 : tr a) : tw_M l G 8 0 0 mR_act [vr (some 69), vi p, vi a, vi x] (K, I, Q, n) (fun r h' => r = some (vi (wrp (rActQ s p a x).1)) ∧ ∃ J, h' = (K, J, Q, n) ∧ J 69 19 = ((rActQ s p a x).2.length : Int) ∧ (∀ i : Nat, i < (rActQ s p a x).2.length → J 76 (i : Int) = (rActQ s p a x).2.getD i 0) ∧ (∀ b, b ≠ 69 → b ≠ 76 → J b = I b) ∧ J 69 3 = I 69 3) := by
  obtain ⟨h0, h1, h2, h3, h4, h5, h6, hp, hrw, ht, hr, hb, htp, hv⟩ := id hR
  refine tw_intro okR_act (Nat.le_of_ble_eq_true rfl) ?_
  refine ar_aloadn (k := 0) rfl rfl ?_
  refine ar_iconst (k := 1) rfl ?_
  refine br_putI (k := 2) rfl (hS.k (by decide)) flR_233_12 (by decide) rfl (fun _ _ _ q => by cases q; exact ⟨rfl, rfl⟩) ?_
  refine ar_aloadn (k := 3) rfl rfl ?_
  refine ar_iloadn (k := 4) rfl rfl ?_
  refine br_callV (k := 5) (as := [_]) rfl lvR_115 (hS.k (by decide)) rfl (c_S_isPerson (s := s) hS hs (by omega) h0) rfl (by decide) (by decide) tw_m0 (Nat.le_of_ble_eq_true rfl) ?_
  refine ar_if_eq (k := 6) rfl (by omega) (fun c6 => ?_) (fun c6 => ?_)
  · refine ar_iconst (k := 12) rfl ?_
    refine ar_iret (k := 13) rfl rfl rfl (Nat.le_refl _) ?_
    first
      | (rw [show rActQ s p a x = (0, []) by rw [rActQ, if_pos (by omega)]]; exact ⟨rfl, _, rfl, by rw [uI_at]; exact if_pos rfl, fun i hi => absurd hi (Nat.not_lt_zero i), fun b b1 b2 => uI_off _ _ _ b1, by rw [uI_at, if_neg (by decide)]⟩)
  · refine ar_iloadn (k := 7) rfl rfl ?_
    refine ar_iconst (k := 8) rfl ?_
    refine ar_iconst (k := 9) rfl ?_
    refine br_callS (k := 10) (as := [_, _, _]) rfl lsR_38 (c_R_in (by omega) (by omega) (by omega)) rfl (by decide) (by decide) tw_m0 (Nat.le_of_ble_eq_true rfl) ?_
    refine ar_if_ne (k := 11) rfl (by omega) (fun c11 => ?_) (fun c11 => ?_)
    · have hw := hp p (by omega) (by omega)
      refine ar_aloadn (k := 14) rfl rfl ?_
      refine ar_aloadn (k := 15) rfl rfl ?_
      refine br_getR (k := 16) rfl (hS.k (by decide)) flR_9_12 (by decide) rfl (hS.r rfl) ?_
      refine ar_bipush (k := 17) rfl (by decide) ?_
      refine ar_iloadn (k := 18) rfl rfl ?_
      refine ar_iadd (k := 19) rfl ?_
      refine br_iald (k := 20) rfl (hS.k (by decide)) (by omega) (by omega) (by decide) ?_
      refine tw_top (y := s (10 + p)) (by exact congrFun hs _) ?_
      refine br_putI (k := 21) rfl (hS.k (by decide)) flR_242_12 (by decide) rfl (fun _ _ _ q => by cases q; exact ⟨rfl, rfl⟩) ?_
      refine ar_aloadn (k := 22) rfl rfl ?_
      refine ar_iloadn (k := 23) rfl rfl ?_
      refine br_putI (k := 24) rfl (hS.k (by decide)) flR_239_12 (by decide) rfl (fun _ _ _ q => by cases q; exact ⟨rfl, rfl⟩) ?_
      refine ar_aloadn (k := 25) rfl rfl ?_
      refine ar_aloadn (k := 26) rfl rfl ?_
      refine br_getR (k := 27) rfl (hS.k (by decide)) flR_9_12 (by decide) rfl (hS.r rfl) ?_
      refine ar_bipush (k := 28) rfl (by decide) ?_
      refine ar_iloadn (k := 29) rfl rfl ?_
      refine ar_iadd (k := 30) rfl ?_
      refine br_iald (k := 31) rfl (hS.k (by decide)) (by omega) (by omega) (by decide) ?_
      refine tw_top (y := s (18 + p)) (by exact congrFun hs _) ?_
      refine br_putI (k := 32) rfl (hS.k (by decide)) flR_254_12 (by decide) rfl (fun _ _ _ q => by cases q; exact ⟨rfl, rfl⟩) ?_
      obtain ⟨I0, e0⟩ : ∃ I0, I0 = uI (uI (uI (uI I 69 19 0) 69 20 (s (10 + p))) 69 21 p) 69 22 (s (18 + p)) := ⟨_, rfl⟩
      refine tw_hp (h' := (K, I0, Q, n)) (by rw [e0]; rfl) ?_
      have e20 : I0 69 20 = s (10 + p) := by rw [e0]; simp only [uI_at, Int.reduceEq, reduceIte]
      have e21 : I0 69 21 = p := by rw [e0]; simp only [uI_at, Int.reduceEq, reduceIte]
      have e22 : I0 69 22 = s (18 + p) := by rw [e0]; simp only [uI_at, Int.reduceEq, reduceIte]
      have hta0 : ta I0 I0 [] := ⟨by rw [e0]; simp only [uI_at, Int.reduceEq, reduceIte]; rfl, fun i hi => absurd hi (Nat.not_lt_zero i), fun _ _ _ => rfl, fun _ _ => rfl⟩
      refine ar_iloadn (k := 33) rfl rfl ?_
      refine ar_if_ne (k := 34) rfl (by omega) (fun c34 => ?_) (fun c34 => ?_)
      · refine ar_iloadn (k := 39) rfl rfl ?_
        refine ar_iconst (k := 40) rfl ?_
        refine ar_icmp_ne (k := 41) rfl (by omega) (by omega) (fun c41 => ?_) (fun c41 => ?_)
        · refine ar_aloadn (k := 46) rfl rfl ?_
          refine ar_iloadn (k := 47) rfl rfl ?_
          refine ar_callV (k := 48) (as := [_]) rfl lvR_266 (hS.k (by decide)) rfl (c_R_tellsActs (I := I0) (L := []) hS hta0 e20 e21 e22 hw.1 (by decide)) rfl (by decide) (by decide) tw_m0 (Nat.le_of_ble_eq_true rfl) (fun r h' hp => ?_)
          obtain ⟨rfl, I48, rfl, hk48⟩ := hp
          refine ar_wrap ?_
          refine ar_iret (k := 49) rfl rfl rfl (Nat.le_refl _) ?_
          rw [show rActQ s p a x = aT (s (10 + p)) p (s (18 + p)) x by rw [rActQ, if_neg (by omega)]; (repeat' split) <;> first | rfl | (exfalso; omega)]
          refine ⟨rfl, _, rfl, hk48.1, hk48.2.1, fun b b1 b2 => ?_, ?_⟩
          · rw [hk48.2.2.1 b b1 b2, e0]
            simp only [uI_off _ _ _ b1]
          · rw [hk48.2.2.2 3 (by decide), e0]
            simp only [uI_at, Int.reduceEq, reduceIte]
        · refine ar_aloadn (k := 42) rfl rfl ?_
          refine ar_iloadn (k := 43) rfl rfl ?_
          refine ar_callV (k := 44) (as := [_]) rfl lvR_260 (hS.k (by decide)) rfl (c_R_waitsActs (I := I0) (L := []) hS hta0 e20 e21 e22 hw.1 (by decide)) rfl (by decide) (by decide) tw_m0 (Nat.le_of_ble_eq_true rfl) (fun r h' hp => ?_)
          obtain ⟨rfl, I44, rfl, hk44⟩ := hp
          refine ar_goto (k := 45) rfl ?_
          refine ar_wrap ?_
          refine ar_iret (k := 49) rfl rfl rfl (Nat.le_refl _) ?_
          rw [show rActQ s p a x = aW (s (10 + p)) p (s (18 + p)) x by rw [rActQ, if_neg (by omega)]; (repeat' split) <;> first | rfl | (exfalso; omega)]
          refine ⟨rfl, _, rfl, hk44.1, hk44.2.1, fun b b1 b2 => ?_, ?_⟩
          · rw [hk44.2.2.1 b b1 b2, e0]
            simp only [uI_off _ _ _ b1]
          · rw [hk44.2.2.2 3 (by decide), e0]
            simp only [uI_at, Int.reduceEq, reduceIte]
      · refine ar_aloadn (k := 35) rfl rfl ?_
        refine ar_iloadn (k := 36) rfl rfl ?_
        refine ar_callV (k := 37) (as := [_]) rfl lvR_251 (hS.k (by decide)) rfl (c_R_liftsActs (I := I0) (L := []) hS hta0 e20 e21 e22 hw.1 (by decide)) rfl (by decide) (by decide) tw_m0 (Nat.le_of_ble_eq_true rfl) (fun r h' hp => ?_)
        obtain ⟨rfl, I37, rfl, hk37⟩ := hp
        refine ar_goto (k := 38) rfl ?_
        refine ar_wrap ?_
        refine ar_iret (k := 49) rfl rfl rfl (Nat.le_refl _) ?_
        rw [show rActQ s p a x = aL (s (10 + p)) p x by rw [rActQ, if_neg (by omega)]; (repeat' split) <;> first | rfl | (exfalso; omega)]
        refine ⟨rfl, _, rfl, hk37.1, hk37.2.1, fun b b1 b2 => ?_, ?_⟩
        · rw [hk37.2.2.1 b b1 b2, e0]
          simp only [uI_off _ _ _ b1]
        · rw [hk37.2.2.2 3 (by decide), e0]
          simp only [uI_at, Int.reduceEq, reduceIte]
    · refine ar_iconst (k := 12) rfl ?_
      refine ar_iret (k := 13) rfl rfl rfl (Nat.le_refl _) ?_
      first
        | (rw [show rActQ s p a x = (0, []) by rw [rActQ, if_pos (by omega)]]; exact ⟨rfl, _, rfl, by rw [uI_at]; exact if_pos rfl, fun i hi => absurd hi (Nat.not_lt_zero i), fun b b1 b2 => uI_off _ _ _ b1, by rw [uI_at, if_neg (by decide)]⟩)
theorem c_R_trace {x : Int} {m : Nat} (hS : tSt (K, I, Q, n)) (tx : tr x) (hm : I 69 19 = (m : Int)) (m1 : m < 1000) (hb : ∀ i : Nat, i < m → tr (I 76 (i : Int))) : tw_F l G 2 0 0 mR_trace [vr (some 69), vi x] (K, I, Q, n) (some (vi (if 0 ≤ x ∧ x ≤ (if (m : Int) < 20 then (m : Int) else 20) - 1 then I 76 x else -1))) (K, I, Q, n) := by
  refine tw_intro okR_trace (Nat.le_of_ble_eq_true rfl) ?_
  refine ar_iloadn (k := 0) rfl rfl ?_
  refine ar_iconst (k := 1) rfl ?_
  refine ar_aloadn (k := 2) rfl rfl ?_
  refine br_getI (k := 3) rfl (hS.k (by decide)) flR_233_12 (by decide) rfl ?_
  refine tw_top (y := (m : Int)) (by exact hm) ?_
  refine ar_bipush (k := 4) rfl (by decide) ?_
  refine ar_icmp_ge (k := 5) rfl (by omega) (by omega) (fun c5 => ?_) (fun c5 => ?_)
  · refine ar_bipush (k := 9) rfl (by decide) ?_
    refine ar_iconst (k := 10) rfl ?_
    refine ar_isub (k := 11) rfl ?_
    refine br_callS (k := 12) (as := [_, _, _]) rfl lsR_38 (c_R_in (by omega) (by omega) (by omega)) rfl (by decide) (by decide) tw_m0 (Nat.le_of_ble_eq_true rfl) ?_
    refine ar_if_eq (k := 13) rfl (by omega) (fun c13 => ?_) (fun c13 => ?_)
    · refine ar_iconst (k := 19) rfl ?_
      refine ar_iret (k := 20) rfl rfl rfl (Nat.le_refl _) ?_
      exact ⟨congrArg (fun z => some (vi z)) (by omega), rfl⟩
    · refine ar_aloadn (k := 14) rfl rfl ?_
      refine br_getR (k := 15) rfl (hS.k (by decide)) flR_31_12 (by decide) rfl (hS.r rfl) ?_
      refine ar_iloadn (k := 16) rfl rfl ?_
      refine br_iald (k := 17) rfl (hS.k (by decide)) (by omega) (by omega) (by decide) ?_
      refine ar_goto (k := 18) rfl ?_
      refine ar_iret (k := 20) rfl rfl rfl (Nat.le_refl _) ?_
      exact ⟨congrArg (fun z => some (vi z)) (by omega), rfl⟩
  · refine ar_aloadn (k := 6) rfl rfl ?_
    refine br_getI (k := 7) rfl (hS.k (by decide)) flR_233_12 (by decide) rfl ?_
    refine tw_top (y := (m : Int)) (by exact hm) ?_
    refine ar_goto (k := 8) rfl ?_
    refine ar_iconst (k := 10) rfl ?_
    refine ar_isub (k := 11) rfl ?_
    refine br_callS (k := 12) (as := [_, _, _]) rfl lsR_38 (c_R_in (by omega) (by omega) (by omega)) rfl (by decide) (by decide) tw_m0 (Nat.le_of_ble_eq_true rfl) ?_
    refine ar_if_eq (k := 13) rfl (by omega) (fun c13 => ?_) (fun c13 => ?_)
    · refine ar_iconst (k := 19) rfl ?_
      refine ar_iret (k := 20) rfl rfl rfl (Nat.le_refl _) ?_
      exact ⟨congrArg (fun z => some (vi z)) (by omega), rfl⟩
    · refine ar_aloadn (k := 14) rfl rfl ?_
      refine br_getR (k := 15) rfl (hS.k (by decide)) flR_31_12 (by decide) rfl (hS.r rfl) ?_
      refine ar_iloadn (k := 16) rfl rfl ?_
      refine br_iald (k := 17) rfl (hS.k (by decide)) (by omega) (by omega) (by decide) ?_
      refine ar_goto (k := 18) rfl ?_
      refine ar_iret (k := 20) rfl rfl rfl (Nat.le_refl _) ?_
      exact ⟨congrArg (fun z => some (vi z)) (by omega), rfl⟩
theorem c_R_count6 {m : Nat} (hS : tSt (K, I, Q, n)) (hm : I 69 19 = (m : Int)) : tw_F l G 1 0 0 mR_count [vr (some 69), vi 6] (K, I, Q, n) (some (vi (m : Int))) (K, I, Q, n) := by
  refine tw_intro okR_count (Nat.le_of_ble_eq_true rfl) ?_
  refine ar_iloadn (k := 0) rfl rfl ?_
  refine ar_tswIn (k := 1) (t := 86) rfl (by decide) (by decide) (by decide) rfl (by decide) ?_
  refine ar_aloadn (k := 32) rfl rfl ?_
  refine br_getI (k := 33) rfl (hS.k (by decide)) flR_233_12 (by decide) rfl ?_
  refine tw_top (y := (m : Int)) (by exact hm) ?_
  refine ar_iret (k := 34) rfl rfl rfl (Nat.le_refl _) ?_
  exact ⟨rfl, rfl⟩
theorem l_R_image (hS : tSt (K, I, Q, n)) : ∀ (k : Nat) (j : Nat) (J : Nat → Int → Int), j + k = 984 → J 70 = s → (∀ i : Nat, i < j → J 71 (i : Int) = s (i : Int)) → (∀ b, b ≠ 71 → J b = I b) → tw_AW l G mR_image 1 0 0 n 0 (fun r h' => r = some (vi (s 1)) ∧ ∃ J, h' = (K, J, Q, n) ∧ J 71 = s ∧ J 69 3 = 1 ∧ (∀ k, k ≠ 3 → J 69 k = I 69 k) ∧ ∀ b, b ≠ 69 → b ≠ 71 → J b = I b) 2 [(1, vi (j : Int)), (0, vr (some 69))] [] (K, J, Q, n) := by
  intro k
  induction k with
  | zero =>
    intro j J hj hs hc ho
    refine ar_iloadn (k := 2) rfl rfl ?_
    refine ar_sipush (k := 3) rfl (by decide) ?_
    refine ar_icmp_ge (k := 4) rfl (by omega) (by omega) (fun c4 => ?_) (fun c4 => ?_)
    · refine ar_cong (a := 71) (N := 984) (g := s) (hS.k (by decide)) (fun i hi => (hc i (by omega)).symm) ?_
      refine ar_aloadn (k := 15) rfl rfl ?_
      refine ar_iconst (k := 16) rfl ?_
      refine br_putZ (k := 17) rfl (hS.k (by decide)) flR_269_12 (by decide) rfl (by omega) (fun _ _ _ q => by cases q; exact ⟨rfl, rfl⟩) ?_
      refine ar_aloadn (k := 18) rfl rfl ?_
      refine br_getR (k := 19) rfl (hS.k (by decide)) flR_9_12 (by decide) rfl (hS.r rfl) ?_
      refine ar_iconst (k := 20) rfl ?_
      refine br_iald (k := 21) rfl (hS.k (by decide)) (by omega) (by omega) (by decide) ?_
      refine tw_top (y := s 1) (by exact congrFun hs _) ?_
      refine ar_iret (k := 22) rfl rfl rfl (Nat.le_refl _) ?_
      refine ⟨rfl, _, rfl, ?_, by rw [uI_at]; exact if_pos rfl, fun k hk => ?_, fun b b1 b2 => ?_⟩
      · rw [uI_off _ _ _ (by decide), setA_at]
      · rw [uI_at, if_neg (by exact hk), setA_ne _ _ (by decide), ho 69 (by decide)]
      · rw [uI_off _ _ _ b1, setA_ne _ _ b2, ho b b2]
    · exfalso; omega
  | succ k ih =>
    intro j J hj hs hc ho
    refine ar_iloadn (k := 2) rfl rfl ?_
    refine ar_sipush (k := 3) rfl (by decide) ?_
    refine ar_icmp_ge (k := 4) rfl (by omega) (by omega) (fun c4 => ?_) (fun c4 => ?_)
    · exfalso; omega
    · refine ar_aloadn (k := 5) rfl rfl ?_
      refine br_getR (k := 6) rfl (hS.k (by decide)) flR_15_12 (by decide) rfl (hS.r rfl) ?_
      refine ar_iloadn (k := 7) rfl rfl ?_
      refine ar_aloadn (k := 8) rfl rfl ?_
      refine br_getR (k := 9) rfl (hS.k (by decide)) flR_9_12 (by decide) rfl (hS.r rfl) ?_
      refine ar_iloadn (k := 10) rfl rfl ?_
      refine br_iald (k := 11) rfl (hS.k (by decide)) (by omega) (by omega) (by decide) ?_
      refine tw_top (y := s (j : Int)) (by exact congrFun hs _) ?_
      refine br_iast (k := 12) rfl (hS.k (by decide)) (by omega) (by omega) (by decide) ?_
      refine ar_iinc (k := 13) (l2 := [(1, _), (0, _)]) rfl (by decide) rfl rfl ?_
      refine ar_goto (k := 14) rfl ?_
      refine ar_sub (l2 := [(1, vi ((j + 1 : Nat) : Int)), (0, vr (some 69))]) (tw_s (tw_e 0 rfl (by omega)) (tw_s (tw_g 1 rfl) tw_s0)) ?_
      refine ih (j + 1) _ (by omega) ?_ (fun i hi => ?_) (fun b hb => ?_)
      · exact hs
      · rw [uI_at]
        by_cases g : i = j
        · subst g; rw [if_pos rfl]
        · rw [if_neg (by omega)]; exact hc i (by omega)
      · rw [uI_off _ _ _ hb]; exact ho b hb
theorem c_R_image (hS : tSt (K, I, Q, n)) (hs : I 70 = s) : tw_M l G 1 0 0 mR_image [vr (some 69)] (K, I, Q, n) (fun r h' => r = some (vi (s 1)) ∧ ∃ J, h' = (K, J, Q, n) ∧ J 71 = s ∧ J 69 3 = 1 ∧ (∀ k, k ≠ 3 → J 69 k = I 69 k) ∧ ∀ b, b ≠ 69 → b ≠ 71 → J b = I b) := by
  refine tw_intro okR_image (Nat.le_of_ble_eq_true rfl) ?_
  refine ar_iconst (k := 0) rfl ?_
  refine ar_istoren (k := 1) (l2 := [(1, _), (0, _)]) rfl (by decide) rfl ?_
  refine ar_sub (l2 := [(1, vi ((0 : Nat) : Int)), (0, vr (some 69))]) (tw_s (tw_e 0 rfl (by rfl)) (tw_s (tw_g 1 rfl) tw_s0)) ?_
  exact l_R_image (I := I) hS 984 0 I (by omega) hs (fun i hi => absurd hi (Nat.not_lt_zero i)) (fun _ _ => rfl)
theorem l_R_undo {im : Int → Int} (hS : tSt (K, I, Q, n)) : ∀ (k : Nat) (j : Nat) (J : Nat → Int → Int), j + k = 984 → J 71 = im → (∀ i : Nat, i < j → J 70 (i : Int) = im (i : Int)) → (∀ b, b ≠ 70 → J b = I b) → tw_AW l G mR_undo 1 0 0 n 0 (fun r h' => r = some (vi (im 1)) ∧ ∃ J, h' = (K, J, Q, n) ∧ J 70 = im ∧ ∀ b, b ≠ 70 → J b = I b) 12 [(1, vi (j : Int)), (0, vr (some 69))] [] (K, J, Q, n) := by
  intro k
  induction k with
  | zero =>
    intro j J hj hs hc ho
    refine ar_iloadn (k := 7) rfl rfl ?_
    refine ar_sipush (k := 8) rfl (by decide) ?_
    refine ar_icmp_ge (k := 9) rfl (by omega) (by omega) (fun c9 => ?_) (fun c9 => ?_)
    · refine ar_cong (a := 70) (N := 984) (g := im) (hS.k (by decide)) (fun i hi => (hc i (by omega)).symm) ?_
      refine ar_aloadn (k := 20) rfl rfl ?_
      refine br_getR (k := 21) rfl (hS.k (by decide)) flR_9_12 (by decide) rfl (hS.r rfl) ?_
      refine ar_iconst (k := 22) rfl ?_
      refine br_iald (k := 23) rfl (hS.k (by decide)) (by omega) (by omega) (by decide) ?_
      refine tw_top (y := im 1) (by rw [setA_at]) ?_
      refine ar_iret (k := 24) rfl rfl rfl (Nat.le_refl _) ?_
      exact ⟨rfl, _, rfl, setA_at _ _ _, fun b hb => by rw [setA_ne _ _ hb, ho b hb]⟩
    · exfalso; omega
  | succ k ih =>
    intro j J hj hs hc ho
    refine ar_iloadn (k := 7) rfl rfl ?_
    refine ar_sipush (k := 8) rfl (by decide) ?_
    refine ar_icmp_ge (k := 9) rfl (by omega) (by omega) (fun c9 => ?_) (fun c9 => ?_)
    · exfalso; omega
    · refine ar_aloadn (k := 10) rfl rfl ?_
      refine br_getR (k := 11) rfl (hS.k (by decide)) flR_9_12 (by decide) rfl (hS.r rfl) ?_
      refine ar_iloadn (k := 12) rfl rfl ?_
      refine ar_aloadn (k := 13) rfl rfl ?_
      refine br_getR (k := 14) rfl (hS.k (by decide)) flR_15_12 (by decide) rfl (hS.r rfl) ?_
      refine ar_iloadn (k := 15) rfl rfl ?_
      refine br_iald (k := 16) rfl (hS.k (by decide)) (by omega) (by omega) (by decide) ?_
      refine tw_top (y := im (j : Int)) (by exact congrFun hs _) ?_
      refine br_iast (k := 17) rfl (hS.k (by decide)) (by omega) (by omega) (by decide) ?_
      refine ar_iinc (k := 18) (l2 := [(1, _), (0, _)]) rfl (by decide) rfl rfl ?_
      refine ar_goto (k := 19) rfl ?_
      refine ar_sub (l2 := [(1, vi ((j + 1 : Nat) : Int)), (0, vr (some 69))]) (tw_s (tw_e 0 rfl (by omega)) (tw_s (tw_g 1 rfl) tw_s0)) ?_
      refine ih (j + 1) _ (by omega) ?_ (fun i hi => ?_) (fun b hb => ?_)
      · exact hs
      · rw [uI_at]
        by_cases g : i = j
        · subst g; rw [if_pos rfl]
        · rw [if_neg (by omega)]; exact hc i (by omega)
      · rw [uI_off _ _ _ hb]; exact ho b hb
theorem c_R_undo0 (hS : tSt (K, I, Q, n)) (h3 : I 69 3 = 0) : tw_F l G 1 0 0 mR_undo [vr (some 69)] (K, I, Q, n) (some (vi (-3))) (K, I, Q, n) := by
  refine tw_intro okR_undo (Nat.le_of_ble_eq_true rfl) ?_
  refine ar_aloadn (k := 0) rfl rfl ?_
  refine br_getI (k := 1) rfl (hS.k (by decide)) flR_269_12 (by decide) rfl ?_
  refine tw_top (y := 0) (by exact h3) ?_
  refine ar_if_ne (k := 2) rfl (by omega) (fun c2 => ?_) (fun c2 => ?_)
  · exfalso; omega
  · refine ar_bipush (k := 3) rfl (by decide) ?_
    refine ar_iret (k := 4) rfl rfl rfl (Nat.le_refl _) ?_
    exact ⟨rfl, rfl⟩
theorem c_R_undo1 {im : Int → Int} (hS : tSt (K, I, Q, n)) (h3 : I 69 3 = 1) (hs : I 71 = im) : tw_M l G 1 0 0 mR_undo [vr (some 69)] (K, I, Q, n) (fun r h' => r = some (vi (im 1)) ∧ ∃ J, h' = (K, J, Q, n) ∧ J 70 = im ∧ ∀ b, b ≠ 70 → J b = I b) := by
  refine tw_intro okR_undo (Nat.le_of_ble_eq_true rfl) ?_
  refine ar_aloadn (k := 0) rfl rfl ?_
  refine br_getI (k := 1) rfl (hS.k (by decide)) flR_269_12 (by decide) rfl ?_
  refine tw_top (y := 1) (by exact h3) ?_
  refine ar_if_ne (k := 2) rfl (by omega) (fun c2 => ?_) (fun c2 => ?_)
  · refine ar_iconst (k := 5) rfl ?_
    refine ar_istoren (k := 6) (l2 := [(1, _), (0, _)]) rfl (by decide) rfl ?_
    refine ar_sub (l2 := [(1, vi ((0 : Nat) : Int)), (0, vr (some 69))]) (tw_s (tw_e 0 rfl (by rfl)) (tw_s (tw_g 1 rfl) tw_s0)) ?_
    exact l_R_undo (I := I) hS 984 0 I (by omega) hs (fun i hi => absurd hi (Nat.not_lt_zero i)) (fun _ _ => rfl)
  · exfalso; omega
theorem l_R_person {q k0 v u : Int} (hS : tSt (K, I, Q, n)) (q1 : 0 ≤ q ∧ q < 8) : ∀ (k : Nat) (j : Nat) (g : Int → Int), j + k = 4 → tw_AW l G mR_person 2 0 0 n 0 (tw_fn (some (vi q)) (K, setA I 70 (up (rFill q k j g) 0 (rFill q k j g 0 + 1)), Q, n)) 103 [(5, vi (j : Int)), (4, vi q), (0, vr (some 69)), (1, vi k0), (2, vi v), (3, vi u)] [] (K, setA I 70 g, Q, n) := by
  intro k
  induction k with
  | zero =>
    intro j g hj
    refine ar_iload (k := 62) rfl rfl ?_
    refine ar_iconst (k := 63) rfl ?_
    refine ar_icmp_ge (k := 64) rfl (by omega) (by omega) (fun c64 => ?_) (fun c64 => ?_)
    · refine ar_aloadn (k := 78) rfl rfl ?_
      refine br_getR (k := 79) rfl (hS.k (by decide)) flR_9_12 (by decide) rfl (hS.r rfl) ?_
      refine ar_iconst (k := 80) rfl ?_
      refine ar_dup2 (k := 81) rfl rfl rfl ?_
      refine br_iald (k := 82) rfl (hS.k (by decide)) (by omega) (by omega) (by decide) ?_
      refine tw_top (y := g 0) (by rw [setA_at]) ?_
      refine ar_iconst (k := 83) rfl ?_
      refine ar_iadd (k := 84) rfl ?_
      refine br_iast (k := 85) rfl (hS.k (by decide)) (by omega) (by omega) (by decide) ?_
      refine ar_iload (k := 86) rfl rfl ?_
      refine ar_iret (k := 87) rfl rfl rfl (Nat.le_refl _) ?_
      exact ⟨rfl, by rw [uI_setA]; rfl⟩
    · exfalso; omega
  | succ k ih =>
    intro j g hj
    refine ar_iload (k := 62) rfl rfl ?_
    refine ar_iconst (k := 63) rfl ?_
    refine ar_icmp_ge (k := 64) rfl (by omega) (by omega) (fun c64 => ?_) (fun c64 => ?_)
    · exfalso; omega
    · refine ar_aloadn (k := 65) rfl rfl ?_
      refine br_getR (k := 66) rfl (hS.k (by decide)) flR_9_12 (by decide) rfl (hS.r rfl) ?_
      refine ar_bipush (k := 67) rfl (by decide) ?_
      refine ar_iconst (k := 68) rfl ?_
      refine ar_iload (k := 69) rfl rfl ?_
      refine ar_imul (k := 70) rfl ?_
      refine ar_iadd (k := 71) rfl ?_
      refine ar_iload (k := 72) rfl rfl ?_
      refine ar_iadd (k := 73) rfl ?_
      refine ar_iconst (k := 74) rfl ?_
      refine br_iast (k := 75) rfl (hS.k (by decide)) (by omega) (by omega) (by decide) ?_
      refine ar_iinc (k := 76) (l2 := [(5, _), (4, _), (0, _), (1, _), (2, _), (3, _)]) rfl (by decide) rfl rfl ?_
      refine ar_goto (k := 77) rfl ?_
      refine ar_sub (l2 := [(5, vi ((j + 1 : Nat) : Int)), (4, vi q), (0, vr (some 69)), (1, vi k0), (2, vi v), (3, vi u)]) (tw_s (tw_e 0 rfl (by omega)) (tw_s (tw_g 1 rfl) (tw_s (tw_g 2 rfl) (tw_s (tw_g 3 rfl) (tw_s (tw_g 4 rfl) (tw_s (tw_g 5 rfl) tw_s0)))))) ?_
      rw [uI_setA]
      exact ih (j + 1) _ (by omega)
theorem c_R_person {k0 v u : Int} (hS : tSt (K, I, Q, n)) (hR : RInv (I 70)) (t1 : tr k0) (t2 : tr v) (t3 : tr u) : tw_F l G 2 0 0 mR_person [vr (some 69), vi k0, vi v, vi u] (K, I, Q, n) (some (vi (rs_person (I 70) k0 v u).1)) (K, setA I 70 (rs_person (I 70) k0 v u).2, Q, n) := by
  obtain ⟨h0, h1, h2, h3, h4, h5, h6, hp, hrw, ht, hr, hb, htp, hv⟩ := id hR
  refine tw_intro okR_person (Nat.le_of_ble_eq_true rfl) ?_
  refine ar_iloadn (k := 0) rfl rfl ?_
  refine ar_iconst (k := 1) rfl ?_
  refine ar_bipush (k := 2) rfl (by decide) ?_
  refine br_callS (k := 3) (as := [_, _, _]) rfl lsR_38 (c_R_in (by omega) (by omega) (by omega)) rfl (by decide) (by decide) tw_m0 (Nat.le_of_ble_eq_true rfl) ?_
  refine ar_if_ne (k := 4) rfl (by omega) (fun c4 => ?_) (fun c4 => ?_)
  · refine ar_iloadn (k := 7) rfl rfl ?_
    refine ar_iconst (k := 8) rfl ?_
    refine ar_bipush (k := 9) rfl (by decide) ?_
    refine br_callS (k := 10) (as := [_, _, _]) rfl lsR_38 (c_R_in (by omega) (by omega) (by omega)) rfl (by decide) (by decide) tw_m0 (Nat.le_of_ble_eq_true rfl) ?_
    refine ar_if_eq (k := 11) rfl (by omega) (fun c11 => ?_) (fun c11 => ?_)
    · refine ar_bipush (k := 17) rfl (by decide) ?_
      refine ar_iret (k := 18) rfl rfl rfl (Nat.le_refl _) ?_
      unfold rs_person
      (repeat' split) <;> first
        | (exfalso; omega)
        | exact ⟨rfl, by rw [setA_id]⟩
    · refine ar_iloadn (k := 12) rfl rfl ?_
      refine ar_iconst (k := 13) rfl ?_
      refine ar_iconst (k := 14) rfl ?_
      refine br_callS (k := 15) (as := [_, _, _]) rfl lsR_38 (c_R_in (by omega) (by omega) (by omega)) rfl (by decide) (by decide) tw_m0 (Nat.le_of_ble_eq_true rfl) ?_
      refine ar_if_ne (k := 16) rfl (by omega) (fun c16 => ?_) (fun c16 => ?_)
      · refine ar_aloadn (k := 19) rfl rfl ?_
        refine br_getR (k := 20) rfl (hS.k (by decide)) flR_9_12 (by decide) rfl (hS.r rfl) ?_
        refine ar_iconst (k := 21) rfl ?_
        refine br_iald (k := 22) rfl (hS.k (by decide)) (by omega) (by omega) (by decide) ?_
        refine ar_bipush (k := 23) rfl (by decide) ?_
        refine ar_icmp_ne (k := 24) rfl (by omega) (by omega) (fun c24 => ?_) (fun c24 => ?_)
        · refine ar_aloadn (k := 27) rfl rfl ?_
          refine br_getR (k := 28) rfl (hS.k (by decide)) flR_9_12 (by decide) rfl (hS.r rfl) ?_
          refine ar_iconst (k := 29) rfl ?_
          refine br_iald (k := 30) rfl (hS.k (by decide)) (by omega) (by omega) (by decide) ?_
          refine ar_istore (k := 31) (l2 := [(4, _), (0, _), (1, _), (2, _), (3, _)]) rfl (by decide) rfl ?_
          refine ar_aloadn (k := 32) rfl rfl ?_
          refine br_getR (k := 33) rfl (hS.k (by decide)) flR_9_12 (by decide) rfl (hS.r rfl) ?_
          refine ar_bipush (k := 34) rfl (by decide) ?_
          refine ar_iload (k := 35) rfl rfl ?_
          refine ar_iadd (k := 36) rfl ?_
          refine ar_iloadn (k := 37) rfl rfl ?_
          refine br_iast (k := 38) rfl (hS.k (by decide)) (by omega) (by omega) (by decide) ?_
          refine ar_aloadn (k := 39) rfl rfl ?_
          refine br_getR (k := 40) rfl (hS.k (by decide)) flR_9_12 (by decide) rfl (hS.r rfl) ?_
          refine ar_bipush (k := 41) rfl (by decide) ?_
          refine ar_iload (k := 42) rfl rfl ?_
          refine ar_iadd (k := 43) rfl ?_
          refine ar_iloadn (k := 44) rfl rfl ?_
          refine br_iast (k := 45) rfl (hS.k (by decide)) (by omega) (by omega) (by decide) ?_
          refine ar_aloadn (k := 46) rfl rfl ?_
          refine br_getR (k := 47) rfl (hS.k (by decide)) flR_9_12 (by decide) rfl (hS.r rfl) ?_
          refine ar_bipush (k := 48) rfl (by decide) ?_
          refine ar_iload (k := 49) rfl rfl ?_
          refine ar_iadd (k := 50) rfl ?_
          refine ar_iloadn (k := 51) rfl rfl ?_
          refine br_iast (k := 52) rfl (hS.k (by decide)) (by omega) (by omega) (by decide) ?_
          refine ar_aloadn (k := 53) rfl rfl ?_
          refine br_getR (k := 54) rfl (hS.k (by decide)) flR_9_12 (by decide) rfl (hS.r rfl) ?_
          refine ar_bipush (k := 55) rfl (by decide) ?_
          refine ar_iload (k := 56) rfl rfl ?_
          refine ar_iadd (k := 57) rfl ?_
          refine ar_iconst (k := 58) rfl ?_
          refine br_iast (k := 59) rfl (hS.k (by decide)) (by omega) (by omega) (by decide) ?_
          refine ar_iconst (k := 60) rfl ?_
          refine ar_istore (k := 61) (l2 := [(5, _), (4, _), (0, _), (1, _), (2, _), (3, _)]) rfl (by decide) rfl ?_
          refine ar_sub (l2 := [(5, vi ((0 : Nat) : Int)), (4, vi (I 70 0)), (0, vr (some 69)), (1, vi k0), (2, vi v), (3, vi u)]) (tw_s (tw_e 0 rfl (by rfl)) (tw_s (tw_g 1 rfl) (tw_s (tw_g 2 rfl) (tw_s (tw_g 3 rfl) (tw_s (tw_g 4 rfl) (tw_s (tw_g 5 rfl) tw_s0)))))) ?_
          rw [show rs_person (I 70) k0 v u = (I 70 0, up (rFill (I 70 0) 4 0 (up (up (up (up (I 70) (10 + I 70 0) k0) (18 + I 70 0) v) (26 + I 70 0) u) (34 + I 70 0) 0)) 0 (I 70 0 + 1)) by rw [rs_person, if_neg (by omega), if_neg (by omega), if_neg (by omega)]]
          simp only [uI_set, setA_setA, setA_at]
          have hh := l_R_person (l := l) (G := G) (k0 := k0) (v := v) (u := u) (I := I) hS (q := I 70 0) (by omega) 4 0 (up (up (up (up (I 70) (10 + I 70 0) k0) (18 + I 70 0) v) (26 + I 70 0) u) (34 + I 70 0) 0) (by omega)
          rw [rFill_0 (by omega), up_ne _ _ (by omega), up_ne _ _ (by omega), up_ne _ _ (by omega), up_ne _ _ (by omega)] at hh
          exact hh
        · refine ar_bipush (k := 25) rfl (by decide) ?_
          refine ar_iret (k := 26) rfl rfl rfl (Nat.le_refl _) ?_
          unfold rs_person
          (repeat' split) <;> first
            | (exfalso; omega)
            | exact ⟨rfl, by rw [setA_id]⟩
      · refine ar_bipush (k := 17) rfl (by decide) ?_
        refine ar_iret (k := 18) rfl rfl rfl (Nat.le_refl _) ?_
        unfold rs_person
        (repeat' split) <;> first
          | (exfalso; omega)
          | exact ⟨rfl, by rw [setA_id]⟩
  · refine ar_iconst (k := 5) rfl ?_
    refine ar_iret (k := 6) rfl rfl rfl (Nat.le_refl _) ?_
    unfold rs_person
    (repeat' split) <;> first
      | (exfalso; omega)
      | exact ⟨rfl, by rw [setA_id]⟩
theorem l_R_free {p x : Int} (hS : tSt (K, I, Q, n)) (hs : I 70 = s) (p1 : 0 ≤ p ∧ p < 8) : ∀ (k : Nat) (j : Nat) (a : Int), j + k = 24 → tw_AW l G mR_free 3 0 0 n 0 (tw_fn (some (vi (smV (fun h => bAnd (bShr (s (34 + p)) h) 1) k j a))) (K, setA I 70 (up s (34 + p) x), Q, n)) 28 [(4, vi (j : Int)), (3, vi a), (0, vr (some 69)), (1, vi p), (2, vi x)] [] (K, I, Q, n) := by
  intro k
  induction k with
  | zero =>
    intro j a hj
    refine ar_iload (k := 17) rfl rfl ?_
    refine ar_bipush (k := 18) rfl (by decide) ?_
    refine ar_icmp_ge (k := 19) rfl (by omega) (by omega) (fun c19 => ?_) (fun c19 => ?_)
    · refine ar_aloadn (k := 35) rfl rfl ?_
      refine br_getR (k := 36) rfl (hS.k (by decide)) flR_9_12 (by decide) rfl (hS.r rfl) ?_
      refine ar_bipush (k := 37) rfl (by decide) ?_
      refine ar_iloadn (k := 38) rfl rfl ?_
      refine ar_iadd (k := 39) rfl ?_
      refine ar_iloadn (k := 40) rfl rfl ?_
      refine br_iast (k := 41) rfl (hS.k (by decide)) (by omega) (by omega) (by decide) ?_
      refine ar_iloadn (k := 42) rfl rfl ?_
      refine ar_iret (k := 43) rfl rfl rfl (Nat.le_refl _) ?_
      exact ⟨rfl, by rw [uI_set, hs]⟩
    · exfalso; omega
  | succ k ih =>
    intro j a hj
    refine ar_iload (k := 17) rfl rfl ?_
    refine ar_bipush (k := 18) rfl (by decide) ?_
    refine ar_icmp_ge (k := 19) rfl (by omega) (by omega) (fun c19 => ?_) (fun c19 => ?_)
    · exfalso; omega
    · refine ar_iloadn (k := 20) rfl rfl ?_
      refine ar_aloadn (k := 21) rfl rfl ?_
      refine br_getR (k := 22) rfl (hS.k (by decide)) flR_9_12 (by decide) rfl (hS.r rfl) ?_
      refine ar_bipush (k := 23) rfl (by decide) ?_
      refine ar_iloadn (k := 24) rfl rfl ?_
      refine ar_iadd (k := 25) rfl ?_
      refine br_iald (k := 26) rfl (hS.k (by decide)) (by omega) (by omega) (by decide) ?_
      refine tw_top (y := s (34 + p)) (by exact congrFun hs _) ?_
      refine ar_iload (k := 27) rfl rfl ?_
      refine ar_ishr (k := 28) rfl ?_
      refine ar_iconst (k := 29) rfl ?_
      refine ar_iand (k := 30) rfl ?_
      refine ar_iadd (k := 31) rfl ?_
      refine ar_istoren (k := 32) (l2 := [(3, _), (4, _), (0, _), (1, _), (2, _)]) rfl (by decide) rfl ?_
      refine ar_iinc (k := 33) (l2 := [(4, _), (3, _), (0, _), (1, _), (2, _)]) rfl (by decide) rfl rfl ?_
      refine ar_goto (k := 34) rfl ?_
      refine ar_sub (l2 := [(4, vi ((j + 1 : Nat) : Int)), (3, vi (a + (fun h => bAnd (bShr (s (34 + p)) h) 1) j)), (0, vr (some 69)), (1, vi p), (2, vi x)]) (tw_s (tw_e 0 rfl (by omega)) (tw_s (tw_e 1 rfl (by rfl)) (tw_s (tw_g 2 rfl) (tw_s (tw_g 3 rfl) (tw_s (tw_g 4 rfl) tw_s0))))) ?_
      exact ih (j + 1) _ (by omega)
theorem cnR_119 : Cond.constant mR_free.1.cls 119 16777215 ∈ tw_tbl := tw_in 1313 (by decide +kernel) rfl
theorem c_R_free {p x : Int} (hS : tSt (K, I, Q, n)) (hR : RInv (I 70)) (t1 : tr p) (t2 : tr x) : tw_F l G 3 0 0 mR_free [vr (some 69), vi p, vi x] (K, I, Q, n) (some (vi (rs_free (I 70) p x).1)) (K, setA I 70 (rs_free (I 70) p x).2, Q, n) := by
  obtain ⟨h0, h1, h2, h3, h4, h5, h6, hp, hrw, ht, hr, hb, htp, hv⟩ := id hR
  refine tw_intro okR_free (Nat.le_of_ble_eq_true rfl) ?_
  refine ar_aloadn (k := 0) rfl rfl ?_
  refine ar_iloadn (k := 1) rfl rfl ?_
  refine br_callV (k := 2) (as := [_]) rfl lvR_115 (hS.k (by decide)) rfl (c_R_isPerson hS (by omega) h0) rfl (by decide) (by decide) tw_m0 (Nat.le_of_ble_eq_true rfl) ?_
  refine ar_if_ne (k := 3) rfl (by omega) (fun c3 => ?_) (fun c3 => ?_)
  · refine ar_iloadn (k := 6) rfl rfl ?_
    refine ar_iconst (k := 7) rfl ?_
    refine ar_ldc (k := 8) (z := 16777215) rfl cnR_119 rfl ?_
    refine br_callS (k := 9) (as := [_, _, _]) rfl lsR_38 (c_R_in (by omega) (by omega) (by omega)) rfl (by decide) (by decide) tw_m0 (Nat.le_of_ble_eq_true rfl) ?_
    refine ar_if_ne (k := 10) rfl (by omega) (fun c10 => ?_) (fun c10 => ?_)
    · refine ar_iconst (k := 13) rfl ?_
      refine ar_istoren (k := 14) (l2 := [(3, _), (0, _), (1, _), (2, _)]) rfl (by decide) rfl ?_
      refine ar_iconst (k := 15) rfl ?_
      refine ar_istore (k := 16) (l2 := [(4, _), (3, _), (0, _), (1, _), (2, _)]) rfl (by decide) rfl ?_
      refine ar_sub (l2 := [(4, vi ((0 : Nat) : Int)), (3, vi 0), (0, vr (some 69)), (1, vi p), (2, vi x)]) (tw_s (tw_e 0 rfl (by rfl)) (tw_s (tw_g 1 rfl) (tw_s (tw_g 2 rfl) (tw_s (tw_g 3 rfl) (tw_s (tw_g 4 rfl) tw_s0))))) ?_
      rw [rs_free, if_neg (by omega), if_neg (by omega)]
      exact l_R_free hS rfl (by omega) 24 0 0 (by omega)
    · refine ar_bipush (k := 11) rfl (by decide) ?_
      refine ar_iret (k := 12) rfl rfl rfl (Nat.le_refl _) ?_
      unfold rs_free
      (repeat' split) <;> first
        | (exfalso; omega)
        | exact ⟨rfl, by rw [setA_id]⟩
  · refine ar_iconst (k := 4) rfl ?_
    refine ar_iret (k := 5) rfl rfl rfl (Nat.le_refl _) ?_
    unfold rs_free
    (repeat' split) <;> first
      | (exfalso; omega)
      | exact ⟨rfl, by rw [setA_id]⟩
theorem c_R_parts {t : Int} (hS : tSt (K, I, Q, n)) (hs : I 70 = s) (t1 : 0 ≤ t ∧ t < 10) (t2 : s (94 + t) = -1 ∨ (0 ≤ s (94 + t) ∧ s (94 + t) < 10)) : tw_F l G 1 0 0 mR_parts [vr (some 69), vi t] (K, I, Q, n) none (K, setA I 70 (rPart s t), Q, n) := by
  subst hs
  refine tw_intro okR_parts (Nat.le_of_ble_eq_true rfl) ?_
  refine ar_aloadn (k := 0) rfl rfl ?_
  refine br_getR (k := 1) rfl (hS.k (by decide)) flR_9_12 (by decide) rfl (hS.r rfl) ?_
  refine ar_bipush (k := 2) rfl (by decide) ?_
  refine ar_iloadn (k := 3) rfl rfl ?_
  refine ar_iadd (k := 4) rfl ?_
  refine br_iald (k := 5) rfl (hS.k (by decide)) (by omega) (by omega) (by decide) ?_
  refine ar_iconst (k := 6) rfl ?_
  refine ar_icmp_eq (k := 7) rfl (by omega) (by omega) (fun c7 => ?_) (fun c7 => ?_)
  · refine ar_ret (k := 27) rfl rfl rfl (Nat.le_refl _) ?_
    unfold rPart
    split <;> first
      | (exfalso; omega)
      | exact ⟨rfl, by rw [setA_id]⟩
      | exact ⟨rfl, by simp only [uI_set, setA_setA, setA_at]⟩
  · refine ar_aloadn (k := 8) rfl rfl ?_
    refine br_getR (k := 9) rfl (hS.k (by decide)) flR_9_12 (by decide) rfl (hS.r rfl) ?_
    refine ar_bipush (k := 10) rfl (by decide) ?_
    refine ar_aloadn (k := 11) rfl rfl ?_
    refine br_getR (k := 12) rfl (hS.k (by decide)) flR_9_12 (by decide) rfl (hS.r rfl) ?_
    refine ar_bipush (k := 13) rfl (by decide) ?_
    refine ar_iloadn (k := 14) rfl rfl ?_
    refine ar_iadd (k := 15) rfl ?_
    refine br_iald (k := 16) rfl (hS.k (by decide)) (by omega) (by omega) (by decide) ?_
    refine ar_iadd (k := 17) rfl ?_
    refine ar_iconst (k := 18) rfl ?_
    refine br_iast (k := 19) rfl (hS.k (by decide)) (by omega) (by omega) (by decide) ?_
    refine ar_aloadn (k := 20) rfl rfl ?_
    refine br_getR (k := 21) rfl (hS.k (by decide)) flR_9_12 (by decide) rfl (hS.r rfl) ?_
    refine ar_bipush (k := 22) rfl (by decide) ?_
    refine ar_iloadn (k := 23) rfl rfl ?_
    refine ar_iadd (k := 24) rfl ?_
    refine ar_iconst (k := 25) rfl ?_
    refine br_iast (k := 26) rfl (hS.k (by decide)) (by omega) (by omega) (by decide) ?_
    refine ar_ret (k := 27) rfl rfl rfl (Nat.le_refl _) ?_
    unfold rPart
    split <;> first
      | (exfalso; omega)
      | exact ⟨rfl, by rw [setA_id]⟩
      | exact ⟨rfl, by simp only [uI_set, setA_setA, setA_at]⟩
theorem rPart_at {s : Int → Int} {t b : Int} (hR : RInv s) (t1 : 0 ≤ t ∧ t < s 1) (b1 : 0 ≤ b ∧ b < s 1) : rPart s t (94 + b) = -1 ∨ (0 ≤ rPart s t (94 + b) ∧ rPart s t (94 + b) < s 1) := by
  have wb := hR.2.2.2.2.2.2.2.2.2.1 b b1.1 b1.2
  unfold rPart
  split
  · by_cases h1 : b = t
    · subst h1; rw [up_at]; omega
    · rw [up_ne _ _ (by omega)]
      by_cases h2 : b = s (94 + t)
      · subst h2; rw [up_at]; omega
      · rw [up_ne _ _ (by omega)]; omega
  · omega
theorem c_R_twin {a b : Int} (hS : tSt (K, I, Q, n)) (hR : RInv (I 70)) (t1 : tr a) (t2 : tr b) : tw_F l G 3 0 0 mR_twin [vr (some 69), vi a, vi b] (K, I, Q, n) (some (vi (rs_twin (I 70) a b).1)) (K, setA I 70 (rs_twin (I 70) a b).2, Q, n) := by
  obtain ⟨h0, h1, h2, h3, h4, h5, h6, hp, hrw, ht, hr, hb, htp, hv⟩ := id hR
  refine tw_intro okR_twin (Nat.le_of_ble_eq_true rfl) ?_
  refine ar_aloadn (k := 0) rfl rfl ?_
  refine ar_iloadn (k := 1) rfl rfl ?_
  refine br_callV (k := 2) (as := [_]) rfl lvR_120 (hS.k (by decide)) rfl (c_R_isTool hS (by omega) h1) rfl (by decide) (by decide) tw_m0 (Nat.le_of_ble_eq_true rfl) ?_
  refine ar_if_eq (k := 3) rfl (by omega) (fun c3 => ?_) (fun c3 => ?_)
  · refine ar_iconst (k := 8) rfl ?_
    refine ar_iret (k := 9) rfl rfl rfl (Nat.le_refl _) ?_
    unfold rs_twin
    (repeat' split) <;> first
      | (exfalso; omega)
      | exact ⟨rfl, by rw [setA_id]⟩
      | exact ⟨rfl, by simp only [uI_set, setA_setA, setA_at]⟩
  · refine ar_aloadn (k := 4) rfl rfl ?_
    refine ar_iloadn (k := 5) rfl rfl ?_
    refine br_callV (k := 6) (as := [_]) rfl lvR_120 (hS.k (by decide)) rfl (c_R_isTool hS (by omega) h1) rfl (by decide) (by decide) tw_m0 (Nat.le_of_ble_eq_true rfl) ?_
    refine ar_if_ne (k := 7) rfl (by omega) (fun c7 => ?_) (fun c7 => ?_)
    · refine ar_iloadn (k := 10) rfl rfl ?_
      refine ar_iloadn (k := 11) rfl rfl ?_
      refine ar_icmp_ne (k := 12) rfl (by omega) (by omega) (fun c12 => ?_) (fun c12 => ?_)
      · have wa := ht a (by omega) (by omega)
        have wb := ht b (by omega) (by omega)
        have wp := rPart_at (t := a) (b := b) hR (by omega) (by omega)
        refine ar_aloadn (k := 15) rfl rfl ?_
        refine br_getR (k := 16) rfl (hS.k (by decide)) flR_9_12 (by decide) rfl (hS.r rfl) ?_
        refine ar_bipush (k := 17) rfl (by decide) ?_
        refine ar_iloadn (k := 18) rfl rfl ?_
        refine ar_iadd (k := 19) rfl ?_
        refine br_iald (k := 20) rfl (hS.k (by decide)) (by omega) (by omega) (by decide) ?_
        refine ar_iloadn (k := 21) rfl rfl ?_
        refine ar_icmp_ne (k := 22) rfl (by omega) (by omega) (fun c22 => ?_) (fun c22 => ?_)
        · refine ar_iconst (k := 25) rfl ?_
          refine ar_istoren (k := 26) (l2 := [(3, _), (0, _), (1, _), (2, _)]) rfl (by decide) rfl ?_
          refine ar_aloadn (k := 27) rfl rfl ?_
          refine ar_iloadn (k := 28) rfl rfl ?_
          refine br_callV (k := 29) (as := [_]) rfl lvR_123 (hS.k (by decide)) rfl (c_R_parts hS rfl (by omega) (by omega)) rfl (by decide) (by decide) tw_m0 (Nat.le_of_ble_eq_true rfl) ?_
          refine ar_aloadn (k := 30) rfl rfl ?_
          refine ar_iloadn (k := 31) rfl rfl ?_
          refine br_callV (k := 32) (as := [_]) rfl lvR_123 (hS.k (by decide)) rfl (c_R_parts (s := rPart (I 70) a) hS (setA_at _ _ _) (by omega) (by omega)) rfl (by decide) (by decide) tw_m0 (Nat.le_of_ble_eq_true rfl) ?_
          refine ar_aloadn (k := 33) rfl rfl ?_
          refine br_getR (k := 34) rfl (hS.k (by decide)) flR_9_12 (by decide) rfl (hS.r rfl) ?_
          refine ar_bipush (k := 35) rfl (by decide) ?_
          refine ar_iloadn (k := 36) rfl rfl ?_
          refine ar_iadd (k := 37) rfl ?_
          refine ar_iloadn (k := 38) rfl rfl ?_
          refine br_iast (k := 39) rfl (hS.k (by decide)) (by omega) (by omega) (by decide) ?_
          refine ar_aloadn (k := 40) rfl rfl ?_
          refine br_getR (k := 41) rfl (hS.k (by decide)) flR_9_12 (by decide) rfl (hS.r rfl) ?_
          refine ar_bipush (k := 42) rfl (by decide) ?_
          refine ar_iloadn (k := 43) rfl rfl ?_
          refine ar_iadd (k := 44) rfl ?_
          refine ar_iloadn (k := 45) rfl rfl ?_
          refine br_iast (k := 46) rfl (hS.k (by decide)) (by omega) (by omega) (by decide) ?_
          refine ar_iloadn (k := 47) rfl rfl ?_
          refine ar_iret (k := 48) rfl rfl rfl (Nat.le_refl _) ?_
          unfold rs_twin
          (repeat' split) <;> first
            | (exfalso; omega)
            | exact ⟨rfl, by rw [setA_id]⟩
            | exact ⟨rfl, by simp only [uI_set, setA_setA, setA_at]⟩
        · refine ar_iconst (k := 23) rfl ?_
          refine ar_goto (k := 24) rfl ?_
          refine ar_istoren (k := 26) (l2 := [(3, _), (0, _), (1, _), (2, _)]) rfl (by decide) rfl ?_
          refine ar_aloadn (k := 27) rfl rfl ?_
          refine ar_iloadn (k := 28) rfl rfl ?_
          refine br_callV (k := 29) (as := [_]) rfl lvR_123 (hS.k (by decide)) rfl (c_R_parts hS rfl (by omega) (by omega)) rfl (by decide) (by decide) tw_m0 (Nat.le_of_ble_eq_true rfl) ?_
          refine ar_aloadn (k := 30) rfl rfl ?_
          refine ar_iloadn (k := 31) rfl rfl ?_
          refine br_callV (k := 32) (as := [_]) rfl lvR_123 (hS.k (by decide)) rfl (c_R_parts (s := rPart (I 70) a) hS (setA_at _ _ _) (by omega) (by omega)) rfl (by decide) (by decide) tw_m0 (Nat.le_of_ble_eq_true rfl) ?_
          refine ar_aloadn (k := 33) rfl rfl ?_
          refine br_getR (k := 34) rfl (hS.k (by decide)) flR_9_12 (by decide) rfl (hS.r rfl) ?_
          refine ar_bipush (k := 35) rfl (by decide) ?_
          refine ar_iloadn (k := 36) rfl rfl ?_
          refine ar_iadd (k := 37) rfl ?_
          refine ar_iloadn (k := 38) rfl rfl ?_
          refine br_iast (k := 39) rfl (hS.k (by decide)) (by omega) (by omega) (by decide) ?_
          refine ar_aloadn (k := 40) rfl rfl ?_
          refine br_getR (k := 41) rfl (hS.k (by decide)) flR_9_12 (by decide) rfl (hS.r rfl) ?_
          refine ar_bipush (k := 42) rfl (by decide) ?_
          refine ar_iloadn (k := 43) rfl rfl ?_
          refine ar_iadd (k := 44) rfl ?_
          refine ar_iloadn (k := 45) rfl rfl ?_
          refine br_iast (k := 46) rfl (hS.k (by decide)) (by omega) (by omega) (by decide) ?_
          refine ar_iloadn (k := 47) rfl rfl ?_
          refine ar_iret (k := 48) rfl rfl rfl (Nat.le_refl _) ?_
          unfold rs_twin
          (repeat' split) <;> first
            | (exfalso; omega)
            | exact ⟨rfl, by rw [setA_id]⟩
            | exact ⟨rfl, by simp only [uI_set, setA_setA, setA_at]⟩
      · refine ar_bipush (k := 13) rfl (by decide) ?_
        refine ar_iret (k := 14) rfl rfl rfl (Nat.le_refl _) ?_
        unfold rs_twin
        (repeat' split) <;> first
          | (exfalso; omega)
          | exact ⟨rfl, by rw [setA_id]⟩
          | exact ⟨rfl, by simp only [uI_set, setA_setA, setA_at]⟩
    · refine ar_iconst (k := 8) rfl ?_
      refine ar_iret (k := 9) rfl rfl rfl (Nat.le_refl _) ?_
      unfold rs_twin
      (repeat' split) <;> first
        | (exfalso; omega)
        | exact ⟨rfl, by rw [setA_id]⟩
        | exact ⟨rfl, by simp only [uI_set, setA_setA, setA_at]⟩
theorem l_R_who {p w : Int} (hS : tSt (K, I, Q, n)) (hs : I 70 = s) (hR : RInv s) (p1 : 0 ≤ p ∧ p < 8) : ∀ (k : Nat) (j : Nat) (a : Int), j + k = (s 1).toNat → tw_AW l G mR_who 3 0 0 n 0 (tw_fn (some (vi (smV (fun t => if s (84 + (t : Int)) = p then 1 else 0) k j a))) (K, I, Q, n)) 44 [(4, vi (j : Int)), (3, vi a), (0, vr (some 69)), (1, vi p), (2, vi w)] [] (K, I, Q, n) := by
  obtain ⟨h0, h1, h2, h3, h4, h5, h6, hp, hrw, ht, hr, hb, htp, hv⟩ := id hR
  intro k
  induction k with
  | zero =>
    intro j a hj
    refine ar_iload (k := 29) rfl rfl ?_
    refine ar_aloadn (k := 30) rfl rfl ?_
    refine br_getR (k := 31) rfl (hS.k (by decide)) flR_9_12 (by decide) rfl (hS.r rfl) ?_
    refine ar_iconst (k := 32) rfl ?_
    refine br_iads (k := 33) rfl (hS.k (by decide)) (by omega) (by omega) (by decide) hs ?_
    refine ar_icmp_ge (k := 34) rfl (by omega) (by omega) (fun c34 => ?_) (fun c34 => ?_)
    · refine ar_iloadn (k := 51) rfl rfl ?_
      refine ar_iret (k := 52) rfl rfl rfl (Nat.le_refl _) ?_
      exact ⟨rfl, rfl⟩
    · exfalso; omega
  | succ k ih =>
    intro j a hj
    refine ar_iload (k := 29) rfl rfl ?_
    refine ar_aloadn (k := 30) rfl rfl ?_
    refine br_getR (k := 31) rfl (hS.k (by decide)) flR_9_12 (by decide) rfl (hS.r rfl) ?_
    refine ar_iconst (k := 32) rfl ?_
    refine br_iads (k := 33) rfl (hS.k (by decide)) (by omega) (by omega) (by decide) hs ?_
    refine ar_icmp_ge (k := 34) rfl (by omega) (by omega) (fun c34 => ?_) (fun c34 => ?_)
    · exfalso; omega
    · have hw := ht j (by omega) (by omega)
      refine ar_iloadn (k := 35) rfl rfl ?_
      refine ar_aloadn (k := 36) rfl rfl ?_
      refine br_getR (k := 37) rfl (hS.k (by decide)) flR_9_12 (by decide) rfl (hS.r rfl) ?_
      refine ar_bipush (k := 38) rfl (by decide) ?_
      refine ar_iload (k := 39) rfl rfl ?_
      refine ar_iadd (k := 40) rfl ?_
      refine br_iads (k := 41) rfl (hS.k (by decide)) (by omega) (by omega) (by decide) hs ?_
      refine ar_iloadn (k := 42) rfl rfl ?_
      refine ar_icmp_ne (k := 43) rfl (by omega) (by omega) (fun c43 => ?_) (fun c43 => ?_)
      · refine ar_iconst (k := 46) rfl ?_
        refine tw_top (y := (fun t => if s (84 + (t : Int)) = p then 1 else 0) j) (by show _ = (if _ then _ else _); (repeat' split) <;> first | rfl | (exfalso; omega)) ?_
        refine ar_iadd (k := 47) rfl ?_
        refine ar_istoren (k := 48) (l2 := [(3, _), (4, _), (0, _), (1, _), (2, _)]) rfl (by decide) rfl ?_
        refine ar_iinc (k := 49) (l2 := [(4, _), (3, _), (0, _), (1, _), (2, _)]) rfl (by decide) rfl rfl ?_
        refine ar_goto (k := 50) rfl ?_
        refine ar_sub (l2 := [(4, vi ((j + 1 : Nat) : Int)), (3, vi (a + (fun t => if s (84 + (t : Int)) = p then 1 else 0) j)), (0, vr (some 69)), (1, vi p), (2, vi w)]) (tw_s (tw_e 0 rfl (by omega)) (tw_s (tw_e 1 rfl (by rfl)) (tw_s (tw_g 2 rfl) (tw_s (tw_g 3 rfl) (tw_s (tw_g 4 rfl) tw_s0))))) ?_
        exact ih (j + 1) _ (by omega)
      · refine ar_iconst (k := 44) rfl ?_
        refine ar_goto (k := 45) rfl ?_
        refine tw_top (y := (fun t => if s (84 + (t : Int)) = p then 1 else 0) j) (by show _ = (if _ then _ else _); (repeat' split) <;> first | rfl | (exfalso; omega)) ?_
        refine ar_iadd (k := 47) rfl ?_
        refine ar_istoren (k := 48) (l2 := [(3, _), (4, _), (0, _), (1, _), (2, _)]) rfl (by decide) rfl ?_
        refine ar_iinc (k := 49) (l2 := [(4, _), (3, _), (0, _), (1, _), (2, _)]) rfl (by decide) rfl rfl ?_
        refine ar_goto (k := 50) rfl ?_
        refine ar_sub (l2 := [(4, vi ((j + 1 : Nat) : Int)), (3, vi (a + (fun t => if s (84 + (t : Int)) = p then 1 else 0) j)), (0, vr (some 69)), (1, vi p), (2, vi w)]) (tw_s (tw_e 0 rfl (by omega)) (tw_s (tw_e 1 rfl (by rfl)) (tw_s (tw_g 2 rfl) (tw_s (tw_g 3 rfl) (tw_s (tw_g 4 rfl) tw_s0))))) ?_
        exact ih (j + 1) _ (by omega)
theorem c_R_who {p w : Int} (hS : tSt (K, I, Q, n)) (hs : I 70 = s) (hR : RInv s) (tp : tr p) (tw : tr w) : tw_F l G 3 0 0 mR_who [vr (some 69), vi p, vi w] (K, I, Q, n) (some (vi (if ¬ ((0 ≤ p ∧ p ≤ s 0 - 1) ∧ (0 ≤ w ∧ w ≤ 4)) then -1 else if w < 4 then s (10 + 8 * w + p) else smV (fun t => if s (84 + (t : Int)) = p then 1 else 0) (s 1).toNat 0 0))) (K, I, Q, n) := by
  obtain ⟨h0, h1, h2, h3, h4, h5, h6, hp, hrw, ht, hr, hb, htp, hv⟩ := id hR
  refine tw_intro okR_who (Nat.le_of_ble_eq_true rfl) ?_
  refine ar_aloadn (k := 0) rfl rfl ?_
  refine ar_iloadn (k := 1) rfl rfl ?_
  refine br_callV (k := 2) (as := [_]) rfl lvR_115 (hS.k (by decide)) rfl (c_S_isPerson hS hs (by omega) h0) rfl (by decide) (by decide) tw_m0 (Nat.le_of_ble_eq_true rfl) ?_
  refine ar_if_eq (k := 3) rfl (by omega) (fun c3 => ?_) (fun c3 => ?_)
  · refine ar_iconst (k := 9) rfl ?_
    refine ar_iret (k := 10) rfl rfl rfl (Nat.le_refl _) ?_
    exact ⟨congrArg (fun z => some (vi z)) (by omega), rfl⟩
  · refine ar_iloadn (k := 4) rfl rfl ?_
    refine ar_iconst (k := 5) rfl ?_
    refine ar_iconst (k := 6) rfl ?_
    refine br_callS (k := 7) (as := [_, _, _]) rfl lsR_38 (c_R_in (by omega) (by omega) (by omega)) rfl (by decide) (by decide) tw_m0 (Nat.le_of_ble_eq_true rfl) ?_
    refine ar_if_ne (k := 8) rfl (by omega) (fun c8 => ?_) (fun c8 => ?_)
    · refine ar_iloadn (k := 11) rfl rfl ?_
      refine ar_iconst (k := 12) rfl ?_
      refine ar_icmp_ge (k := 13) rfl (by omega) (by omega) (fun c13 => ?_) (fun c13 => ?_)
      · refine ar_iconst (k := 25) rfl ?_
        refine ar_istoren (k := 26) (l2 := [(3, _), (0, _), (1, _), (2, _)]) rfl (by decide) rfl ?_
        refine ar_iconst (k := 27) rfl ?_
        refine ar_istore (k := 28) (l2 := [(4, _), (3, _), (0, _), (1, _), (2, _)]) rfl (by decide) rfl ?_
        refine ar_sub (l2 := [(4, vi ((0 : Nat) : Int)), (3, vi 0), (0, vr (some 69)), (1, vi p), (2, vi w)]) (tw_s (tw_e 0 rfl (by rfl)) (tw_s (tw_g 1 rfl) (tw_s (tw_g 2 rfl) (tw_s (tw_g 3 rfl) (tw_s (tw_g 4 rfl) tw_s0))))) ?_
        rw [if_neg (by omega), if_neg (by omega)]
        exact l_R_who hS hs hR (by omega) _ 0 0 (by omega)
      · refine ar_aloadn (k := 14) rfl rfl ?_
        refine br_getR (k := 15) rfl (hS.k (by decide)) flR_9_12 (by decide) rfl (hS.r rfl) ?_
        refine ar_bipush (k := 16) rfl (by decide) ?_
        refine ar_bipush (k := 17) rfl (by decide) ?_
        refine ar_iloadn (k := 18) rfl rfl ?_
        refine ar_imul (k := 19) rfl ?_
        refine ar_iadd (k := 20) rfl ?_
        refine ar_iloadn (k := 21) rfl rfl ?_
        refine ar_iadd (k := 22) rfl ?_
        refine br_iads (k := 23) rfl (hS.k (by decide)) (by omega) (by omega) (by decide) hs ?_
        refine ar_iret (k := 24) rfl rfl rfl (Nat.le_refl _) ?_
        exact ⟨congrArg (fun z => some (vi z)) (by omega), rfl⟩
    · refine ar_iconst (k := 9) rfl ?_
      refine ar_iret (k := 10) rfl rfl rfl (Nat.le_refl _) ?_
      exact ⟨congrArg (fun z => some (vi z)) (by omega), rfl⟩
end RM
