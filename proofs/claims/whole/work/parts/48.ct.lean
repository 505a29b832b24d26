theorem bAnd_pos {m : Nat} (hm : m < 2147483648) (x : Int) : 0 ≤ bAnd x (m : Int) ∧ bAnd x (m : Int) ≤ (m : Int) := by
  unfold bAnd
  rw [Int32.ofInt_eq_ofNat]
  have h : ((Int32.ofInt x).toBitVec &&& (BitVec.ofNat 32 m)).toNat ≤ m := by
    rw [BitVec.toNat_and, BitVec.toNat_ofNat]
    exact Nat.le_trans Nat.and_le_right (Nat.mod_le _ _)
  have e : (Int32.ofInt x &&& Int32.ofNat m).toInt = (((Int32.ofInt x).toBitVec &&& (BitVec.ofNat 32 m)).toNat : Int) := by
    show ((Int32.ofInt x).toBitVec &&& (BitVec.ofNat 32 m)).toInt = _
    exact BitVec.toInt_eq_toNat_of_lt (by omega)
  rw [e]
  omega
theorem ib_lo : ∀ j, j < 32 → ib 1023 j = decide (j < 10) := by decide +kernel
theorem ib_lt {x : Int} (hx : tr x) (h : ∀ j, 10 ≤ j → j < 32 → ib x j = false) : 0 ≤ x ∧ x < 1024 := by
  have e : bAnd x 1023 = x := ib_ext (tr_toInt _) hx (fun i hi => by
    rw [ib_and, ib_lo i hi]
    by_cases g : i < 10
    · rw [decide_eq_true g, Bool.and_true]
    · rw [h i (by omega) hi]; rfl)
  have b := bAnd_pos (m := 1023) (by decide) x
  rw [show bAnd x ((1023 : Nat) : Int) = x from e] at b
  omega
theorem smV_add {f g : Nat → Int} : ∀ (k j : Nat) (a b : Int), smV (fun j => f j + g j) k j (a + b) = smV f k j a + smV g k j b
  | 0, _, _, _ => rfl
  | k + 1, j, a, b => by
    rw [smV, smV, smV, show a + b + (f j + g j) = (a + f j) + (b + g j) by omega]
    exact smV_add k (j + 1) _ _
theorem smV_one {t : Nat} {x : Int} (h : t < 10) : smV (fun j => if j = t then x else 0) 10 0 0 = x := by
  rcases (show t = 0 ∨ t = 1 ∨ t = 2 ∨ t = 3 ∨ t = 4 ∨ t = 5 ∨ t = 6 ∨ t = 7 ∨ t = 8 ∨ t = 9 by omega) with rfl | rfl | rfl | rfl | rfl | rfl | rfl | rfl | rfl | rfl <;> simp [smV]
theorem cnt_two {e : Int} {t v : Nat} (ht : t < 10) (hv : v < 10) (hne : t ≠ v) : rCnt (bAnd e (bOr (bShl 1 (t : Int)) (bShl 1 (v : Int)))) = bAnd (bShr e (t : Int)) 1 + bAnd (bShr e (v : Int)) 1 := by
  unfold rCnt
  rw [smV_cg (g' := fun j => (if j = t then bAnd (bShr e (t : Int)) 1 else 0) + (if j = v then bAnd (bShr e (v : Int)) 1 else 0)) (m := 10) (fun i hi => ?_) 10 0 0 (by omega)]
  · have := smV_add (f := fun j => if j = t then bAnd (bShr e (t : Int)) 1 else 0) (g := fun j => if j = v then bAnd (bShr e (v : Int)) 1 else 0) 10 0 0 0
    rw [Int.add_zero] at this
    rw [this, smV_one ht, smV_one hv]
  · rw [ib_bit _ (by omega), ib_and, ib_or, ib_shl1 t (by omega) i (by omega), ib_shl1 v (by omega) i (by omega), ib_bit e (by omega : t < 32), ib_bit e (by omega : v < 32)]
    by_cases h1 : t = i
    · subst h1
      rw [if_pos rfl, if_neg hne]
      simp
    · by_cases h2 : v = i
      · subst h2
        have h3 : ¬ v = t := fun q => hne q.symm
        simp [hne, h3]
      · have h3 : ¬ i = t := fun q => h1 q.symm
        have h4 : ¬ i = v := fun q => h2 q.symm
        simp [h1, h2, h3, h4]
theorem or_if (c : Prop) [Decidable c] (x : Int) : (if c then x else 0) = 0 ∨ (if c then x else 0) = x := by
  by_cases h : c
  · exact Or.inr (if_pos h)
  · exact Or.inl (if_neg h)
theorem rMayN_0 {s : Int → Int} {t : Int} : ∀ (k r : Nat), rMayN s t k r 0 = 0
  | 0, _ => rfl
  | k + 1, r => by rw [rMayN, if_neg (by omega)]; exact rMayN_0 k (r + 1)
theorem rFitN_0 {s : Int → Int} {a t : Int} : ∀ (k r : Nat), rFitN s a t k r 0 = 0
  | 0, _ => rfl
  | k + 1, r => by rw [rFitN, if_neg (by omega)]; exact rFitN_0 k (r + 1)
theorem rBrk_bd {s : Int → Int} (h1 : s 1 ≤ 10) : 0 ≤ rBrk s ∧ rBrk s < 1024 := by
  refine ib_lt (orV_tr _ _ _ (by decide)) (fun j j1 j2 => ?_)
  unfold rBrk
  rw [orV_ib (fun j => by by_cases g : rMayN s (j : Int) (s 3).toNat 0 1 = 1 <;> simp [g]) _ _ _ _ (by omega) j2, ib_0, decide_eq_false (by omega)]
  rfl
section CT
variable {l : Launch} {G : tG} {K : Nat → Nat × Nat} {I : Nat → Int → Int} {Q : Nat → Int → Option Nat} {n : Nat} {s : Int → Int}
theorem c_W_wentIn {r : Int} (hS : tSt (K, I, Q, n)) (hN : WN 1 I s) (hR : RInv s) (r1 : 0 ≤ r ∧ r < s 3) : tw_F l G 1 0 0 mW_wentIn [vr (some 1), vi r] (K, I, Q, n) (some (vi (if s (138 + r) = 1 then 1 else 0))) (K, I, Q, n) := by
  obtain ⟨h0, h1, h2, h3, h4, h5, h6, hp, hrw, ht, hr, hb, htp, hv⟩ := id hR
  refine tw_intro okW_wentIn (Nat.le_of_ble_eq_true rfl) ?_
  refine ar_aloadn (k := 0) rfl rfl ?_
  refine br_getIz (k := 1) (z := 15) rfl (hS.k (by decide)) flW_65_10 (by decide) rfl rfl ?_
  refine ar_iloadn (k := 2) rfl rfl ?_
  refine ar_ishr (k := 3) rfl ?_
  refine ar_iconst (k := 4) rfl ?_
  refine ar_iand (k := 5) rfl ?_
  refine tw_top (y := if s (138 + r) = 1 then 1 else 0) (by exact hN.wbit r1.1 r1.2 (by omega)) ?_
  refine ar_if_eq (k := 6) rfl (by omega) (fun c6 => ?_) (fun c6 => ?_)
  · refine ar_iconst (k := 9) rfl ?_
    refine ar_zret (k := 10) rfl rfl (by omega) rfl (Nat.le_refl _) ?_
    first
      | exact ⟨congrArg (fun z => some (vi z)) (by omega), rfl⟩
      | (exfalso; omega)
  · refine ar_iconst (k := 7) rfl ?_
    refine ar_goto (k := 8) rfl ?_
    refine ar_zret (k := 10) rfl rfl (by omega) rfl (Nat.le_refl _) ?_
    first
      | exact ⟨congrArg (fun z => some (vi z)) (by omega), rfl⟩
      | (exfalso; omega)
theorem l_W_mayBeBroken {t : Int} (hS : tSt (K, I, Q, n)) (hN : WN 1 I s) (hR : RInv s) (tt : tr t) : ∀ (k : Nat) (j : Nat), j + k = (s 3).toNat → tw_AW l G mW_mayBeBroken 2 0 0 n 0 (tw_fn (some (vi (rMayN s t k j 1))) (K, I, Q, n)) 2 [(2, vi (j : Int)), (0, vr (some 1)), (1, vi t)] [] (K, I, Q, n) := by
  obtain ⟨h0, h1, h2, h3, h4, h5, h6, hp, hrw, ht, hr, hb, htp, hv⟩ := id hR
  intro k
  induction k with
  | zero =>
    intro j hj
    refine ar_iloadn (k := 2) rfl rfl ?_
    refine ar_aloadn (k := 3) rfl rfl ?_
    refine br_getIz (k := 4) (z := 16) rfl (hS.k (by decide)) flW_68_10 (by decide) rfl rfl ?_
    refine tw_top (WN.rc hN) ?_
    refine ar_icmp_ge (k := 5) rfl (by omega) (by omega) (fun c5 => ?_) (fun c5 => ?_)
    · refine ar_iconst (k := 41) rfl ?_
      refine ar_zret (k := 42) rfl rfl (by omega) rfl (Nat.le_refl _) ?_
      exact ⟨rfl, rfl⟩
    · exfalso; omega
  | succ k ih =>
    intro j hj
    refine ar_iloadn (k := 2) rfl rfl ?_
    refine ar_aloadn (k := 3) rfl rfl ?_
    refine br_getIz (k := 4) (z := 16) rfl (hS.k (by decide)) flW_68_10 (by decide) rfl rfl ?_
    refine tw_top (WN.rc hN) ?_
    refine ar_icmp_ge (k := 5) rfl (by omega) (by omega) (fun c5 => ?_) (fun c5 => ?_)
    · exfalso; omega
    · have hw := hr (j : Int) (by omega) (by omega)
      have hw2 := ht (s (114 + (j : Int))) (by omega) (by omega)
      refine ar_aloadn (k := 6) rfl rfl ?_
      refine br_getR (k := 7) rfl (hS.k (by decide)) flW_59_10 (by decide) rfl (hS.r rfl) ?_
      refine ar_iloadn (k := 8) rfl rfl ?_
      refine br_iald (k := 9) rfl (hS.k (by decide)) (by omega) (by omega) (by decide) ?_
      refine tw_top (WN.t1 hN (by omega) (by omega)) ?_
      refine ar_istoren (k := 10) (l2 := [(3, _), (2, _), (0, _), (1, _)]) rfl (by decide) rfl ?_
      refine ar_aloadn (k := 11) rfl rfl ?_
      refine br_getR (k := 12) rfl (hS.k (by decide)) flW_62_10 (by decide) rfl (hS.r rfl) ?_
      refine ar_iloadn (k := 13) rfl rfl ?_
      refine br_iald (k := 14) rfl (hS.k (by decide)) (by omega) (by omega) (by decide) ?_
      refine tw_top (WN.t2 hN (by omega) (by omega)) ?_
      refine ar_istore (k := 15) (l2 := [(4, _), (3, _), (2, _), (0, _), (1, _)]) rfl (by decide) rfl ?_
      refine ar_aloadn (k := 16) rfl rfl ?_
      refine br_getR (k := 17) rfl (hS.k (by decide)) flW_50_10 (by decide) rfl (hS.r rfl) ?_
      refine ar_iloadn (k := 18) rfl rfl ?_
      refine br_iald (k := 19) rfl (hS.k (by decide)) (by omega) (by omega) (by decide) ?_
      refine tw_top (WN.tw hN (by omega) (by omega)) ?_
      refine ar_iload (k := 20) rfl rfl ?_
      refine ar_icmp_ne (k := 21) rfl (by omega) (by omega) (fun c21 => ?_) (fun c21 => ?_)
      · refine ar_iconst (k := 30) rfl ?_
        refine ar_istore (k := 31) (l2 := [(5, _), (4, _), (3, _), (2, _), (0, _), (1, _)]) rfl (by decide) rfl ?_
        refine ar_iload (k := 32) rfl rfl ?_
        refine ar_aloadn (k := 33) rfl rfl ?_
        refine ar_iloadn (k := 34) rfl rfl ?_
        refine ar_callV (k := 35) (as := [_]) rfl lvW_100 (hS.k (by decide)) rfl (c_W_wentIn hS hN hR (by omega)) rfl (by decide) (by decide) tw_m0 (Nat.le_of_ble_eq_true rfl) (fun r35 h35 p35 => ?_)
        obtain ⟨rfl, rfl⟩ := p35
        refine ar_icmp_eq (k := 36) rfl (by omega) (by omega) (fun c36 => ?_) (fun c36 => ?_)
        · refine ar_iinc (k := 39) (l2 := [(2, _), (5, _), (4, _), (3, _), (0, _), (1, _)]) rfl (by decide) rfl rfl ?_
          refine ar_goto (k := 40) rfl ?_
          refine ar_sub (l2 := [(2, vi ((j + 1 : Nat) : Int)), (0, vr (some 1)), (1, vi t)]) (tw_s (tw_e 0 rfl (by omega)) (tw_s (tw_g 4 rfl) (tw_s (tw_g 5 rfl) tw_s0))) ?_
          rw [rMayN, if_pos ⟨rfl, by omega⟩]
          exact ih (j + 1) (by omega)
        · refine ar_iconst (k := 37) rfl ?_
          refine ar_zret (k := 38) rfl rfl (by omega) rfl (Nat.le_refl _) ?_
          rw [rMayN, if_neg (by omega), rMayN_0]
          exact ⟨rfl, rfl⟩
      · refine ar_iloadn (k := 22) rfl rfl ?_
        refine ar_iloadn (k := 23) rfl rfl ?_
        refine ar_icmp_eq (k := 24) rfl (by omega) (by omega) (fun c24 => ?_) (fun c24 => ?_)
        · refine ar_iconst (k := 30) rfl ?_
          refine ar_istore (k := 31) (l2 := [(5, _), (4, _), (3, _), (2, _), (0, _), (1, _)]) rfl (by decide) rfl ?_
          refine ar_iload (k := 32) rfl rfl ?_
          refine ar_aloadn (k := 33) rfl rfl ?_
          refine ar_iloadn (k := 34) rfl rfl ?_
          refine ar_callV (k := 35) (as := [_]) rfl lvW_100 (hS.k (by decide)) rfl (c_W_wentIn hS hN hR (by omega)) rfl (by decide) (by decide) tw_m0 (Nat.le_of_ble_eq_true rfl) (fun r35 h35 p35 => ?_)
          obtain ⟨rfl, rfl⟩ := p35
          refine ar_icmp_eq (k := 36) rfl (by omega) (by omega) (fun c36 => ?_) (fun c36 => ?_)
          · refine ar_iinc (k := 39) (l2 := [(2, _), (5, _), (4, _), (3, _), (0, _), (1, _)]) rfl (by decide) rfl rfl ?_
            refine ar_goto (k := 40) rfl ?_
            refine ar_sub (l2 := [(2, vi ((j + 1 : Nat) : Int)), (0, vr (some 1)), (1, vi t)]) (tw_s (tw_e 0 rfl (by omega)) (tw_s (tw_g 4 rfl) (tw_s (tw_g 5 rfl) tw_s0))) ?_
            rw [rMayN, if_pos ⟨rfl, by omega⟩]
            exact ih (j + 1) (by omega)
          · refine ar_iconst (k := 37) rfl ?_
            refine ar_zret (k := 38) rfl rfl (by omega) rfl (Nat.le_refl _) ?_
            rw [rMayN, if_neg (by omega), rMayN_0]
            exact ⟨rfl, rfl⟩
        · refine ar_iload (k := 25) rfl rfl ?_
          refine ar_iloadn (k := 26) rfl rfl ?_
          refine ar_icmp_eq (k := 27) rfl (by omega) (by omega) (fun c27 => ?_) (fun c27 => ?_)
          · refine ar_iconst (k := 30) rfl ?_
            refine ar_istore (k := 31) (l2 := [(5, _), (4, _), (3, _), (2, _), (0, _), (1, _)]) rfl (by decide) rfl ?_
            refine ar_iload (k := 32) rfl rfl ?_
            refine ar_aloadn (k := 33) rfl rfl ?_
            refine ar_iloadn (k := 34) rfl rfl ?_
            refine ar_callV (k := 35) (as := [_]) rfl lvW_100 (hS.k (by decide)) rfl (c_W_wentIn hS hN hR (by omega)) rfl (by decide) (by decide) tw_m0 (Nat.le_of_ble_eq_true rfl) (fun r35 h35 p35 => ?_)
            obtain ⟨rfl, rfl⟩ := p35
            refine ar_icmp_eq (k := 36) rfl (by omega) (by omega) (fun c36 => ?_) (fun c36 => ?_)
            · refine ar_iinc (k := 39) (l2 := [(2, _), (5, _), (4, _), (3, _), (0, _), (1, _)]) rfl (by decide) rfl rfl ?_
              refine ar_goto (k := 40) rfl ?_
              refine ar_sub (l2 := [(2, vi ((j + 1 : Nat) : Int)), (0, vr (some 1)), (1, vi t)]) (tw_s (tw_e 0 rfl (by omega)) (tw_s (tw_g 4 rfl) (tw_s (tw_g 5 rfl) tw_s0))) ?_
              rw [rMayN, if_pos ⟨rfl, by omega⟩]
              exact ih (j + 1) (by omega)
            · refine ar_iconst (k := 37) rfl ?_
              refine ar_zret (k := 38) rfl rfl (by omega) rfl (Nat.le_refl _) ?_
              rw [rMayN, if_neg (by omega), rMayN_0]
              exact ⟨rfl, rfl⟩
          · refine ar_iconst (k := 28) rfl ?_
            refine ar_goto (k := 29) rfl ?_
            refine ar_istore (k := 31) (l2 := [(5, _), (4, _), (3, _), (2, _), (0, _), (1, _)]) rfl (by decide) rfl ?_
            refine ar_iload (k := 32) rfl rfl ?_
            refine ar_aloadn (k := 33) rfl rfl ?_
            refine ar_iloadn (k := 34) rfl rfl ?_
            refine ar_callV (k := 35) (as := [_]) rfl lvW_100 (hS.k (by decide)) rfl (c_W_wentIn hS hN hR (by omega)) rfl (by decide) (by decide) tw_m0 (Nat.le_of_ble_eq_true rfl) (fun r35 h35 p35 => ?_)
            obtain ⟨rfl, rfl⟩ := p35
            refine ar_icmp_eq (k := 36) rfl (by omega) (by omega) (fun c36 => ?_) (fun c36 => ?_)
            · refine ar_iinc (k := 39) (l2 := [(2, _), (5, _), (4, _), (3, _), (0, _), (1, _)]) rfl (by decide) rfl rfl ?_
              refine ar_goto (k := 40) rfl ?_
              refine ar_sub (l2 := [(2, vi ((j + 1 : Nat) : Int)), (0, vr (some 1)), (1, vi t)]) (tw_s (tw_e 0 rfl (by omega)) (tw_s (tw_g 4 rfl) (tw_s (tw_g 5 rfl) tw_s0))) ?_
              rw [rMayN, if_pos ⟨rfl, by omega⟩]
              exact ih (j + 1) (by omega)
            · refine ar_iconst (k := 37) rfl ?_
              refine ar_zret (k := 38) rfl rfl (by omega) rfl (Nat.le_refl _) ?_
              rw [rMayN, if_neg (by omega), rMayN_0]
              exact ⟨rfl, rfl⟩
theorem c_W_mayBeBroken {t : Int} (hS : tSt (K, I, Q, n)) (hN : WN 1 I s) (hR : RInv s) (tt : tr t) : tw_F l G 2 0 0 mW_mayBeBroken [vr (some 1), vi t] (K, I, Q, n) (some (vi (rMayN s t (s 3).toNat 0 1))) (K, I, Q, n) := by
  obtain ⟨h0, h1, h2, h3, h4, h5, h6, hp, hrw, ht, hr, hb, htp, hv⟩ := id hR
  refine tw_intro okW_mayBeBroken (Nat.le_of_ble_eq_true rfl) ?_
  refine ar_iconst (k := 0) rfl ?_
  refine ar_istoren (k := 1) (l2 := [(2, _), (0, _), (1, _)]) rfl (by decide) rfl ?_
  refine ar_sub (l2 := [(2, vi ((0 : Nat) : Int)), (0, vr (some 1)), (1, vi t)]) (tw_s (tw_e 0 rfl (by rfl)) (tw_s (tw_g 1 rfl) (tw_s (tw_g 2 rfl) tw_s0))) ?_
  exact l_W_mayBeBroken hS hN hR tt (s 3).toNat 0 (by omega)
theorem l_W_suspects (hS : tSt (K, I, Q, n)) (hN : WN 1 I s) (hR : RInv s) : ∀ (k : Nat) (j : Nat) (a : Int), j + k = (s 1).toNat → tr a → tw_AW l G mW_suspects 3 0 0 n 0 (tw_fn (some (vi (orV (fun t : Nat => if rMayN s (t : Int) (s 3).toNat 0 1 = 1 then bShl 1 (t : Int) else 0) k j a))) (K, I, Q, n)) 4 [(2, vi (j : Int)), (1, vi a), (0, vr (some 1))] [] (K, I, Q, n) := by
  obtain ⟨h0, h1, h2, h3, h4, h5, h6, hp, hrw, ht, hr, hb, htp, hv⟩ := id hR
  intro k
  induction k with
  | zero =>
    intro j a hj ha
    refine ar_iloadn (k := 4) rfl rfl ?_
    refine ar_aloadn (k := 5) rfl rfl ?_
    refine br_getIz (k := 6) (z := 12) rfl (hS.k (by decide)) flW_56_10 (by decide) rfl rfl ?_
    refine tw_top (WN.tc hN) ?_
    refine ar_icmp_ge (k := 7) rfl (by omega) (by omega) (fun c7 => ?_) (fun c7 => ?_)
    · refine ar_iloadn (k := 20) rfl rfl ?_
      refine ar_iret (k := 21) rfl rfl rfl (Nat.le_refl _) ?_
      exact ⟨rfl, rfl⟩
    · exfalso; omega
  | succ k ih =>
    intro j a hj ha
    refine ar_iloadn (k := 4) rfl rfl ?_
    refine ar_aloadn (k := 5) rfl rfl ?_
    refine br_getIz (k := 6) (z := 12) rfl (hS.k (by decide)) flW_56_10 (by decide) rfl rfl ?_
    refine tw_top (WN.tc hN) ?_
    refine ar_icmp_ge (k := 7) rfl (by omega) (by omega) (fun c7 => ?_) (fun c7 => ?_)
    · exfalso; omega
    · refine ar_aloadn (k := 8) rfl rfl ?_
      refine ar_iloadn (k := 9) rfl rfl ?_
      refine ar_callV (k := 10) (as := [_]) rfl lvW_103 (hS.k (by decide)) rfl (c_W_mayBeBroken hS hN hR (by omega)) rfl (by decide) (by decide) tw_m0 (Nat.le_of_ble_eq_true rfl) (fun r10 h10 p10 => ?_)
      obtain ⟨rfl, rfl⟩ := p10
      have hm := rMayN_01 (s := s) (t := (j : Int)) (s 3).toNat 0 1 (Or.inr rfl)
      refine ar_if_eq (k := 11) rfl (by omega) (fun c11 => ?_) (fun c11 => ?_)
      · refine ar_iinc (k := 18) (l2 := [(2, _), (1, _), (0, _)]) rfl (by decide) rfl rfl ?_
        refine ar_goto (k := 19) rfl ?_
        refine ar_sub (l2 := [(2, vi ((j + 1 : Nat) : Int)), (1, vi (bOr a ((fun t : Nat => if rMayN s (t : Int) (s 3).toNat 0 1 = 1 then bShl 1 (t : Int) else 0) j))), (0, vr (some 1))]) (tw_s (tw_e 0 rfl (by omega)) (tw_s (tw_e 1 rfl (by show _ = bOr a (if rMayN s (j : Int) (s 3).toNat 0 1 = 1 then bShl 1 (j : Int) else 0); first | (rw [if_pos (by omega)]) | (rw [if_neg (by omega), bOr_0 ha]))) (tw_s (tw_g 2 rfl) tw_s0))) ?_
        exact ih (j + 1) _ (by omega) (tr_bOr _ _)
      · refine ar_iloadn (k := 12) rfl rfl ?_
        refine ar_iconst (k := 13) rfl ?_
        refine ar_iloadn (k := 14) rfl rfl ?_
        refine ar_ishl (k := 15) rfl ?_
        refine ar_ior (k := 16) rfl ?_
        refine ar_istoren (k := 17) (l2 := [(1, _), (2, _), (0, _)]) rfl (by decide) rfl ?_
        refine ar_iinc (k := 18) (l2 := [(2, _), (1, _), (0, _)]) rfl (by decide) rfl rfl ?_
        refine ar_goto (k := 19) rfl ?_
        refine ar_sub (l2 := [(2, vi ((j + 1 : Nat) : Int)), (1, vi (bOr a ((fun t : Nat => if rMayN s (t : Int) (s 3).toNat 0 1 = 1 then bShl 1 (t : Int) else 0) j))), (0, vr (some 1))]) (tw_s (tw_e 0 rfl (by omega)) (tw_s (tw_e 1 rfl (by show _ = bOr a (if rMayN s (j : Int) (s 3).toNat 0 1 = 1 then bShl 1 (j : Int) else 0); first | (rw [if_pos (by omega)]) | (rw [if_neg (by omega), bOr_0 ha]))) (tw_s (tw_g 2 rfl) tw_s0))) ?_
        exact ih (j + 1) _ (by omega) (tr_bOr _ _)
theorem c_W_suspects (hS : tSt (K, I, Q, n)) (hN : WN 1 I s) (hR : RInv s) : tw_F l G 3 0 0 mW_suspects [vr (some 1)] (K, I, Q, n) (some (vi (rBrk s))) (K, I, Q, n) := by
  obtain ⟨h0, h1, h2, h3, h4, h5, h6, hp, hrw, ht, hr, hb, htp, hv⟩ := id hR
  refine tw_intro okW_suspects (Nat.le_of_ble_eq_true rfl) ?_
  refine ar_iconst (k := 0) rfl ?_
  refine ar_istoren (k := 1) (l2 := [(1, _), (0, _)]) rfl (by decide) rfl ?_
  refine ar_iconst (k := 2) rfl ?_
  refine ar_istoren (k := 3) (l2 := [(2, _), (1, _), (0, _)]) rfl (by decide) rfl ?_
  refine ar_sub (l2 := [(2, vi ((0 : Nat) : Int)), (1, vi 0), (0, vr (some 1))]) (tw_s (tw_e 0 rfl (by rfl)) (tw_s (tw_g 1 rfl) (tw_s (tw_g 2 rfl) tw_s0))) ?_
  exact l_W_suspects hS hN hR (s 1).toNat 0 0 (by omega) (by decide)
theorem l_W_bestTry {e : Int} (hS : tSt (K, I, Q, n)) (hN : WN 1 I s) (hR : RInv s) (he2 : ∀ j, 10 ≤ j → j < 32 → ib e j = false) : ∀ (k : Nat) (j : Nat) (b m : Int), j + k = (s 1).toNat → -5 ≤ b ∧ b < 10 → -20 ≤ m ∧ m ≤ 20 → tw_AW l G mW_bestTry 4 0 0 n 0 (tw_fn (some (vi (rTryN s e k j b m))) (K, I, Q, n)) 20 [(5, vi (j : Int)), (3, vi b), (4, vi (if b = -5 then 11 else m)), (0, vr (some 1)), (1, vi e), (2, vi (rCnt e))] [] (K, I, Q, n) := by
  obtain ⟨h0, h1, h2, h3, h4, h5, h6, hp, hrw, ht, hr, hb, htp, hv⟩ := id hR
  intro k
  induction k with
  | zero =>
    intro j b m hj hb9 hm
    refine ar_iload (k := 12) rfl rfl ?_
    refine ar_aloadn (k := 13) rfl rfl ?_
    refine br_getIz (k := 14) (z := 12) rfl (hS.k (by decide)) flW_56_10 (by decide) rfl rfl ?_
    refine tw_top (WN.tc hN) ?_
    refine ar_icmp_ge (k := 15) rfl (by omega) (by omega) (fun c15 => ?_) (fun c15 => ?_)
    · refine ar_iloadn (k := 51) rfl rfl ?_
      refine ar_iret (k := 52) rfl rfl rfl (Nat.le_refl _) ?_
      exact ⟨rfl, rfl⟩
    · exfalso; omega
  | succ k ih =>
    intro j b m hj hb9 hm
    refine ar_iload (k := 12) rfl rfl ?_
    refine ar_aloadn (k := 13) rfl rfl ?_
    refine br_getIz (k := 14) (z := 12) rfl (hS.k (by decide)) flW_56_10 (by decide) rfl rfl ?_
    refine tw_top (WN.tc hN) ?_
    refine ar_icmp_ge (k := 15) rfl (by omega) (by omega) (fun c15 => ?_) (fun c15 => ?_)
    · exfalso; omega
    · have hw := ht (j : Int) (by omega) (by omega)
      have hb1 := bAnd1 (bShr e (j : Int))
      have hb2 := bAnd1 (bShr e (s (94 + (j : Int))))
      have hc1 := rCnt_bd e
      refine ar_aloadn (k := 16) rfl rfl ?_
      refine br_getR (k := 17) rfl (hS.k (by decide)) flW_50_10 (by decide) rfl (hS.r rfl) ?_
      refine ar_iload (k := 18) rfl rfl ?_
      refine br_iald (k := 19) rfl (hS.k (by decide)) (by omega) (by omega) (by decide) ?_
      refine tw_top (WN.tw hN (by omega) (by omega)) ?_
      refine ar_iload (k := 20) rfl rfl ?_
      refine ar_icmp_le (k := 21) rfl (by omega) (by omega) (fun c21 => ?_) (fun c21 => ?_)
      · refine ar_iinc (k := 49) (l2 := [(5, _), (3, _), (4, _), (0, _), (1, _), (2, _)]) rfl (by decide) rfl rfl ?_
        refine ar_goto (k := 50) rfl ?_
        refine ar_sub (l2 := [(5, vi ((j + 1 : Nat) : Int)), (3, vi (b)), (4, vi (if b = -5 then 11 else m)), (0, vr (some 1)), (1, vi e), (2, vi (rCnt e))]) (tw_s (tw_e 0 rfl (by omega)) (tw_s (tw_g 1 rfl) (tw_s (tw_g 2 rfl) (tw_s (tw_g 3 rfl) (tw_s (tw_g 4 rfl) (tw_s (tw_g 5 rfl) tw_s0)))))) ?_
        rw [rTryN, if_neg (by omega)]
        exact ih (j + 1) _ _ (by omega) (by omega) (by omega)
      · have hx5 : rCnt (bAnd e (bOr (bShl 1 (j : Int)) (bShl 1 (s (94 + (j : Int)))))) = (bAnd (bShr e (j : Int)) 1 + bAnd (bShr e (s (94 + (j : Int)))) 1) := by
          have := cnt_two (e := e) (t := j) (v := (s (94 + (j : Int))).toNat) (by omega) (by omega) (by omega)
          rwa [show (((s (94 + (j : Int))).toNat : Nat) : Int) = s (94 + (j : Int)) by omega] at this
        have hx4 : 0 ≤ bAnd e (bOr (bShl 1 (j : Int)) (bShl 1 (s (94 + (j : Int))))) ∧ bAnd e (bOr (bShl 1 (j : Int)) (bShl 1 (s (94 + (j : Int))))) < 1024 := by
          refine ib_lt (tr_toInt _) (fun i i1 i2 => ?_)
          rw [ib_and, he2 i i1 i2]
          rfl
        refine ar_iloadn (k := 22) rfl rfl ?_
        refine ar_iconst (k := 23) rfl ?_
        refine ar_iload (k := 24) rfl rfl ?_
        refine ar_ishl (k := 25) rfl ?_
        refine ar_iconst (k := 26) rfl ?_
        refine ar_aloadn (k := 27) rfl rfl ?_
        refine br_getR (k := 28) rfl (hS.k (by decide)) flW_50_10 (by decide) rfl (hS.r rfl) ?_
        refine ar_iload (k := 29) rfl rfl ?_
        refine br_iald (k := 30) rfl (hS.k (by decide)) (by omega) (by omega) (by decide) ?_
        refine tw_top (y := s (94 + (j : Int))) (by rw [show I 9 (j : Int) = _ from WN.tw hN (by omega) (by omega)]; split <;> omega) ?_
        refine ar_ishl (k := 31) rfl ?_
        refine ar_ior (k := 32) rfl ?_
        refine ar_iand (k := 33) rfl ?_
        refine ar_callS (k := 34) (as := [_]) rfl lsW_110 c_J6_bitCount rfl (by decide) (by decide) tw_m0 (Nat.le_of_ble_eq_true rfl) (fun r34 h34 p34 => ?_)
        obtain ⟨rfl, rfl⟩ := p34
        refine tw_top (y := (bAnd (bShr e (j : Int)) 1 + bAnd (bShr e (s (94 + (j : Int)))) 1)) (by rw [bcn_10 hx4]; exact hx5) ?_
        refine ar_istore (k := 35) (l2 := [(6, _), (5, _), (3, _), (4, _), (0, _), (1, _), (2, _)]) rfl (by decide) rfl ?_
        refine ar_iload (k := 36) rfl rfl ?_
        refine ar_iloadn (k := 37) rfl rfl ?_
        refine ar_iload (k := 38) rfl rfl ?_
        refine ar_isub (k := 39) rfl ?_
        refine ar_callS (k := 40) (as := [_, _]) rfl lsW_116 (c_J9_max (by omega) (by omega)) rfl (by decide) (by decide) tw_m0 (Nat.le_of_ble_eq_true rfl) (fun r40 h40 p40 => ?_)
        obtain ⟨rfl, rfl⟩ := p40
        refine ar_istore (k := 41) (l2 := [(7, _), (6, _), (5, _), (3, _), (4, _), (0, _), (1, _), (2, _)]) rfl (by decide) rfl ?_
        refine ar_iload (k := 42) rfl rfl ?_
        refine ar_iload (k := 43) rfl rfl ?_
        refine ar_icmp_ge (k := 44) rfl (by omega) (by omega) (fun c44 => ?_) (fun c44 => ?_)
        · refine ar_iinc (k := 49) (l2 := [(5, _), (7, _), (6, _), (3, _), (4, _), (0, _), (1, _), (2, _)]) rfl (by decide) rfl rfl ?_
          refine ar_goto (k := 50) rfl ?_
          refine ar_sub (l2 := [(5, vi ((j + 1 : Nat) : Int)), (3, vi (b)), (4, vi (if b = -5 then 11 else m)), (0, vr (some 1)), (1, vi e), (2, vi (rCnt e))]) (tw_s (tw_e 0 rfl (by omega)) (tw_s (tw_g 3 rfl) (tw_s (tw_g 4 rfl) (tw_s (tw_g 5 rfl) (tw_s (tw_g 6 rfl) (tw_s (tw_g 7 rfl) tw_s0)))))) ?_
          rw [rTryN, if_neg (by omega)]
          exact ih (j + 1) _ _ (by omega) (by omega) (by omega)
        · skip
          refine ar_iload (k := 45) rfl rfl ?_
          refine ar_istore (k := 46) (l2 := [(4, _), (7, _), (6, _), (5, _), (3, _), (0, _), (1, _), (2, _)]) rfl (by decide) rfl ?_
          refine ar_iload (k := 47) rfl rfl ?_
          refine ar_istoren (k := 48) (l2 := [(3, _), (4, _), (7, _), (6, _), (5, _), (0, _), (1, _), (2, _)]) rfl (by decide) rfl ?_
          refine ar_iinc (k := 49) (l2 := [(5, _), (3, _), (4, _), (7, _), (6, _), (0, _), (1, _), (2, _)]) rfl (by decide) rfl rfl ?_
          refine ar_goto (k := 50) rfl ?_
          refine ar_sub (l2 := [(5, vi ((j + 1 : Nat) : Int)), (3, vi ((j : Int))), (4, vi (if (j : Int) = -5 then 11 else (max (bAnd (bShr e (j : Int)) 1 + bAnd (bShr e (s (94 + (j : Int)))) 1) (rCnt e - (bAnd (bShr e (j : Int)) 1 + bAnd (bShr e (s (94 + (j : Int)))) 1))))), (0, vr (some 1)), (1, vi e), (2, vi (rCnt e))]) (tw_s (tw_e 0 rfl (by omega)) (tw_s (tw_g 1 rfl) (tw_s (tw_e 2 rfl (by rw [if_neg (by omega)])) (tw_s (tw_g 5 rfl) (tw_s (tw_g 6 rfl) (tw_s (tw_g 7 rfl) tw_s0)))))) ?_
          rw [rTryN, if_pos (by omega)]
          exact ih (j + 1) _ _ (by omega) (by omega) (by omega)
theorem c_W_bestTry (hS : tSt (K, I, Q, n)) (hN : WN 1 I s) (hR : RInv s) : tw_F l G 4 0 0 mW_bestTry [vr (some 1)] (K, I, Q, n) (some (vi (rTry s))) (K, I, Q, n) := by
  obtain ⟨h0, h1, h2, h3, h4, h5, h6, hp, hrw, ht, hr, hb, htp, hv⟩ := id hR
  refine tw_intro okW_bestTry (Nat.le_of_ble_eq_true rfl) ?_
  refine ar_aloadn (k := 0) rfl rfl ?_
  refine ar_callV (k := 1) (as := []) rfl lvW_106 (hS.k (by decide)) rfl (c_W_suspects hS hN hR) rfl (by decide) (by decide) tw_m0 (Nat.le_of_ble_eq_true rfl) (fun r1 h1 p1 => ?_)
  obtain ⟨rfl, rfl⟩ := p1
  refine ar_istoren (k := 2) (l2 := [(1, _), (0, _)]) rfl (by decide) rfl ?_
  refine ar_iloadn (k := 3) rfl rfl ?_
  refine ar_callS (k := 4) (as := [_]) rfl lsW_110 c_J6_bitCount rfl (by decide) (by decide) tw_m0 (Nat.le_of_ble_eq_true rfl) (fun r4 h4 p4 => ?_)
  obtain ⟨rfl, rfl⟩ := p4
  refine tw_top (bcn_10 (rBrk_bd h1.2)) ?_
  refine ar_istoren (k := 5) (l2 := [(2, _), (1, _), (0, _)]) rfl (by decide) rfl ?_
  refine ar_bipush (k := 6) rfl (by decide) ?_
  refine ar_istoren (k := 7) (l2 := [(3, _), (2, _), (1, _), (0, _)]) rfl (by decide) rfl ?_
  refine ar_bipush (k := 8) rfl (by decide) ?_
  refine ar_istore (k := 9) (l2 := [(4, _), (3, _), (2, _), (1, _), (0, _)]) rfl (by decide) rfl ?_
  refine ar_iconst (k := 10) rfl ?_
  refine ar_istore (k := 11) (l2 := [(5, _), (4, _), (3, _), (2, _), (1, _), (0, _)]) rfl (by decide) rfl ?_
  refine ar_sub (l2 := [(5, vi ((0 : Nat) : Int)), (3, vi (-5)), (4, vi (if (-5 : Int) = -5 then 11 else 0)), (0, vr (some 1)), (1, vi (rBrk s)), (2, vi (rCnt (rBrk s)))]) (tw_s (tw_e 0 rfl (by rfl)) (tw_s (tw_g 2 rfl) (tw_s (tw_e 1 rfl (by rfl)) (tw_s (tw_g 5 rfl) (tw_s (tw_g 4 rfl) (tw_s (tw_g 3 rfl) tw_s0)))))) ?_
  exact l_W_bestTry hS hN hR (fun j j1 j2 => by unfold rBrk; rw [orV_ib (fun j => by by_cases g : rMayN s (j : Int) (s 3).toNat 0 1 = 1 <;> simp [g]) _ _ _ _ (by omega) j2, ib_0, decide_eq_false (by omega)]; rfl) (s 1).toNat 0 (-5) 0 (by omega) (by omega) (by omega)
theorem c_T_find {w : Int} (hS : tSt (K, I, Q, n)) (hN : WN 1 I s) (hR : RInv s) (tw : tr w) : tw_F l G 5 0 0 mT_find [vr (some 0), vi w] (K, I, Q, n) (some (vi (if w = 0 then rBrk s else if w = 1 then rTry s else -1))) (K, I, Q, n) := by
  obtain ⟨h0, h1, h2, h3, h4, h5, h6, hp, hrw, ht, hr, hb, htp, hv⟩ := id hR
  refine tw_intro okT_find (Nat.le_of_ble_eq_true rfl) ?_
  refine ar_iloadn (k := 0) rfl rfl ?_
  rcases (show w = 0 ∨ w = 1 ∨ (w ≠ 0 ∧ w ≠ 1) by omega) with q1 | q1 | q1
  · refine ar_lsw (k := 1) (t := 28) (off := 27) rfl (by omega) rfl (by rw [q1]; rfl) (by decide) ?_
    refine ar_aloadn (k := 2) rfl rfl ?_
    refine br_getR (k := 3) rfl (hS.k (by decide)) flT_14_11 (by decide) rfl (hS.r rfl) ?_
    refine ar_callV (k := 4) (as := []) rfl lvT_228 (hS.k (by decide)) rfl (c_W_suspects hS hN hR) rfl (by decide) (by decide) tw_m0 (Nat.le_of_ble_eq_true rfl) (fun r4 h4 p4 => ?_)
    obtain ⟨rfl, rfl⟩ := p4
    refine ar_iret (k := 5) rfl rfl rfl (Nat.le_refl _) ?_
    exact ⟨congrArg (fun z => some (vi z)) (by rw [if_pos q1]), rfl⟩
  · refine ar_lsw (k := 1) (t := 36) (off := 35) rfl (by omega) rfl (by rw [q1]; rfl) (by decide) ?_
    refine ar_aloadn (k := 6) rfl rfl ?_
    refine br_getR (k := 7) rfl (hS.k (by decide)) flT_14_11 (by decide) rfl (hS.r rfl) ?_
    refine ar_callV (k := 8) (as := []) rfl lvT_231 (hS.k (by decide)) rfl (c_W_bestTry hS hN hR) rfl (by decide) (by decide) tw_m0 (Nat.le_of_ble_eq_true rfl) (fun r8 h8 p8 => ?_)
    obtain ⟨rfl, rfl⟩ := p8
    refine ar_iret (k := 9) rfl rfl rfl (Nat.le_refl _) ?_
    exact ⟨congrArg (fun z => some (vi z)) (by rw [if_neg (by omega), if_pos q1]), rfl⟩
  · refine ar_lsw (k := 1) (t := 44) (off := 43) rfl (by omega) rfl (by show Op.lookupswitch.offset [(0, 27), (1, 35)] _ _ = _; rw [Op.lookupswitch.offset_cons, if_neg (by omega), Op.lookupswitch.offset_cons, if_neg (by omega)]; rfl) (by decide) ?_
    refine ar_iconst (k := 10) rfl ?_
    refine ar_iret (k := 11) rfl rfl rfl (Nat.le_refl _) ?_
    exact ⟨congrArg (fun z => some (vi z)) (by rw [if_neg (by omega), if_neg (by omega)]), rfl⟩
theorem ib_m1 : ∀ m : Nat, m ≤ 10 → ∀ j, j < 32 → ib (bShl 1 (m : Int) - 1) j = decide (j < m) := by decide +kernel
theorem ib_neg {x : Int} {j : Nat} (hj : j < 32) : ib (bXor x (-1)) j = !ib x j := by
  rw [ib_xor, (by decide +kernel : ∀ j, j < 32 → ib (-1) j = true) j hj, Bool.xor_true]
theorem l_W_likelyTwins {a : Int} (hS : tSt (K, I, Q, n)) (hN : WN 1 I s) (hR : RInv s) (a1 : 0 ≤ a ∧ a < s 1) : ∀ (k : Nat) (j : Nat) (b : Int), j + k = (s 3).toNat → tr b → tw_AW l G mW_likelyTwins 2 0 0 n 0 ((fun r h' => ∃ x, r = some (vi x) ∧ h' = (K, I, Q, n) ∧ tr x ∧ ∀ i, i < 32 → ib x i = (ib b i && decide (rFitN s a (i : Int) k j 1 = 1)))) 17 [(3, vi (j : Int)), (2, vi b), (0, vr (some 1)), (1, vi a)] [] (K, I, Q, n) := by
  obtain ⟨h0, h1, h2, h3, h4, h5, h6, hp, hrw, ht, hr, hb, htp, hv⟩ := id hR
  intro k
  induction k with
  | zero =>
    intro j b hj hb9
    refine ar_iloadn (k := 15) rfl rfl ?_
    refine ar_aloadn (k := 16) rfl rfl ?_
    refine br_getIz (k := 17) (z := 16) rfl (hS.k (by decide)) flW_68_10 (by decide) rfl rfl ?_
    refine tw_top (WN.rc hN) ?_
    refine ar_icmp_ge (k := 18) rfl (by omega) (by omega) (fun c18 => ?_) (fun c18 => ?_)
    · refine ar_iloadn (k := 65) rfl rfl ?_
      refine ar_iret (k := 66) rfl rfl rfl (Nat.le_refl _) ?_
      exact ⟨b, rfl, rfl, hb9, fun i hi => by rw [rFitN, decide_eq_true rfl, Bool.and_true]⟩
    · exfalso; omega
  | succ k ih =>
    intro j b hj hb9
    refine ar_iloadn (k := 15) rfl rfl ?_
    refine ar_aloadn (k := 16) rfl rfl ?_
    refine br_getIz (k := 17) (z := 16) rfl (hS.k (by decide)) flW_68_10 (by decide) rfl rfl ?_
    refine tw_top (WN.rc hN) ?_
    refine ar_icmp_ge (k := 18) rfl (by omega) (by omega) (fun c18 => ?_) (fun c18 => ?_)
    · exfalso; omega
    · have hw := hr (j : Int) (by omega) (by omega)
      have hw3 : 0 ≤ s (138 + (j : Int)) ∧ s (138 + (j : Int)) ≤ 1 := hw.2.2.2
      refine ar_aloadn (k := 19) rfl rfl ?_
      refine br_getR (k := 20) rfl (hS.k (by decide)) flW_59_10 (by decide) rfl (hS.r rfl) ?_
      refine ar_iloadn (k := 21) rfl rfl ?_
      refine br_iald (k := 22) rfl (hS.k (by decide)) (by omega) (by omega) (by decide) ?_
      refine tw_top (WN.t1 hN (by omega) (by omega)) ?_
      refine ar_iloadn (k := 23) rfl rfl ?_
      refine ar_icmp_eq (k := 24) rfl (by omega) (by omega) (fun c24 => ?_) (fun c24 => ?_)
      · refine ar_aloadn (k := 31) rfl rfl ?_
        refine br_getR (k := 32) rfl (hS.k (by decide)) flW_59_10 (by decide) rfl (hS.r rfl) ?_
        refine ar_iloadn (k := 33) rfl rfl ?_
        refine br_iald (k := 34) rfl (hS.k (by decide)) (by omega) (by omega) (by decide) ?_
        refine tw_top (WN.t1 hN (by omega) (by omega)) ?_
        refine ar_iloadn (k := 35) rfl rfl ?_
        refine ar_icmp_ne (k := 36) rfl (by omega) (by omega) (fun c36 => ?_) (fun c36 => ?_)
        · refine ar_aloadn (k := 42) rfl rfl ?_
          refine br_getR (k := 43) rfl (hS.k (by decide)) flW_59_10 (by decide) rfl (hS.r rfl) ?_
          refine ar_iloadn (k := 44) rfl rfl ?_
          refine br_iald (k := 45) rfl (hS.k (by decide)) (by omega) (by omega) (by decide) ?_
          refine tw_top (WN.t1 hN (by omega) (by omega)) ?_
          refine tw_top (y := rOth s a j) (by unfold rOth; first | (exfalso; omega) | rw [if_pos (by omega)] | rw [if_neg (by omega), if_pos (by omega)]) ?_
          have ho9 : 0 ≤ rOth s a j ∧ rOth s a j < 10 := by unfold rOth; first | (exfalso; omega) | (rw [if_pos (by omega)]; omega) | (rw [if_neg (by omega), if_pos (by omega)]; omega)
          refine ar_istore (k := 46) (l2 := [(4, _), (3, _), (2, _), (0, _), (1, _)]) rfl (by decide) rfl ?_
          refine ar_iloadn (k := 47) rfl rfl ?_
          refine ar_aloadn (k := 48) rfl rfl ?_
          refine ar_iloadn (k := 49) rfl rfl ?_
          refine ar_callV (k := 50) (as := [_]) rfl lvW_100 (hS.k (by decide)) rfl (c_W_wentIn hS hN hR (by omega)) rfl (by decide) (by decide) tw_m0 (Nat.le_of_ble_eq_true rfl) (fun r50 h50 p50 => ?_)
          obtain ⟨rfl, rfl⟩ := p50
          refine ar_if_eq (k := 51) rfl (by omega) (fun c51 => ?_) (fun c51 => ?_)
          · refine ar_iconst (k := 56) rfl ?_
            refine ar_iload (k := 57) rfl rfl ?_
            refine ar_ishl (k := 58) rfl ?_
            refine ar_iconst (k := 59) rfl ?_
            refine ar_ixor (k := 60) rfl ?_
            refine tw_top (y := if s (138 + (j : Int)) = 1 then bShl 1 (rOth s a j) else bXor (bShl 1 (rOth s a j)) (-1)) (by first | (exfalso; omega) | (rw [if_pos (by omega)]; done) | (rw [if_neg (by omega)]; done)) ?_
            refine ar_iand (k := 61) rfl ?_
            refine ar_istoren (k := 62) (l2 := [(2, _), (4, _), (3, _), (0, _), (1, _)]) rfl (by decide) rfl ?_
            refine ar_iinc (k := 63) (l2 := [(3, _), (2, _), (4, _), (0, _), (1, _)]) rfl (by decide) rfl rfl ?_
            refine ar_goto (k := 64) rfl ?_
            refine ar_sub (l2 := [(3, vi ((j + 1 : Nat) : Int)), (2, vi (bAnd b (if s (138 + (j : Int)) = 1 then bShl 1 (rOth s a j) else bXor (bShl 1 (rOth s a j)) (-1)))), (0, vr (some 1)), (1, vi a)]) (tw_s (tw_e 0 rfl (by omega)) (tw_s (tw_g 1 rfl) (tw_s (tw_g 3 rfl) (tw_s (tw_g 4 rfl) tw_s0)))) ?_
            refine tw_pst ?_ (ih (j + 1) _ (by omega) (tr_toInt _))
            intro r h' ⟨x, e1, e2, e3, e4⟩
            refine ⟨x, e1, e2, e3, fun i hi => ?_⟩
            have ei : ib (bAnd b (if s (138 + (j : Int)) = 1 then bShl 1 (rOth s a j) else bXor (bShl 1 (rOth s a j)) (-1))) i = (ib b i && decide (rOth s a j = (i : Int) ↔ s (138 + (j : Int)) = 1)) := by
              obtain ⟨o, ho⟩ : ∃ o : Nat, rOth s a j = (o : Int) := ⟨(rOth s a j).toNat, by omega⟩
              rw [ib_and, ho]
              congr 1
              by_cases g : s (138 + (j : Int)) = 1
              · rw [if_pos g, ib_shl1 o (by omega) i hi]
                apply decide_eq_decide.mpr
                omega
              · rw [if_neg g, ib_neg hi, ib_shl1 o (by omega) i hi, ← decide_not]
                apply decide_eq_decide.mpr
                omega
            rw [e4 i hi, ei, rFitN]
            by_cases g : rOth s a j = (i : Int) ↔ s (138 + (j : Int)) = 1
            · rw [if_pos ⟨rfl, Or.inr g⟩, decide_eq_true g, Bool.and_true]
            · rw [if_neg (fun q => q.2.elim (fun z => by omega) g), rFitN_0, decide_eq_false g]; simp
          · refine ar_iconst (k := 52) rfl ?_
            refine ar_iload (k := 53) rfl rfl ?_
            refine ar_ishl (k := 54) rfl ?_
            refine ar_goto (k := 55) rfl ?_
            refine tw_top (y := if s (138 + (j : Int)) = 1 then bShl 1 (rOth s a j) else bXor (bShl 1 (rOth s a j)) (-1)) (by first | (exfalso; omega) | (rw [if_pos (by omega)]; done) | (rw [if_neg (by omega)]; done)) ?_
            refine ar_iand (k := 61) rfl ?_
            refine ar_istoren (k := 62) (l2 := [(2, _), (4, _), (3, _), (0, _), (1, _)]) rfl (by decide) rfl ?_
            refine ar_iinc (k := 63) (l2 := [(3, _), (2, _), (4, _), (0, _), (1, _)]) rfl (by decide) rfl rfl ?_
            refine ar_goto (k := 64) rfl ?_
            refine ar_sub (l2 := [(3, vi ((j + 1 : Nat) : Int)), (2, vi (bAnd b (if s (138 + (j : Int)) = 1 then bShl 1 (rOth s a j) else bXor (bShl 1 (rOth s a j)) (-1)))), (0, vr (some 1)), (1, vi a)]) (tw_s (tw_e 0 rfl (by omega)) (tw_s (tw_g 1 rfl) (tw_s (tw_g 3 rfl) (tw_s (tw_g 4 rfl) tw_s0)))) ?_
            refine tw_pst ?_ (ih (j + 1) _ (by omega) (tr_toInt _))
            intro r h' ⟨x, e1, e2, e3, e4⟩
            refine ⟨x, e1, e2, e3, fun i hi => ?_⟩
            have ei : ib (bAnd b (if s (138 + (j : Int)) = 1 then bShl 1 (rOth s a j) else bXor (bShl 1 (rOth s a j)) (-1))) i = (ib b i && decide (rOth s a j = (i : Int) ↔ s (138 + (j : Int)) = 1)) := by
              obtain ⟨o, ho⟩ : ∃ o : Nat, rOth s a j = (o : Int) := ⟨(rOth s a j).toNat, by omega⟩
              rw [ib_and, ho]
              congr 1
              by_cases g : s (138 + (j : Int)) = 1
              · rw [if_pos g, ib_shl1 o (by omega) i hi]
                apply decide_eq_decide.mpr
                omega
              · rw [if_neg g, ib_neg hi, ib_shl1 o (by omega) i hi, ← decide_not]
                apply decide_eq_decide.mpr
                omega
            rw [e4 i hi, ei, rFitN]
            by_cases g : rOth s a j = (i : Int) ↔ s (138 + (j : Int)) = 1
            · rw [if_pos ⟨rfl, Or.inr g⟩, decide_eq_true g, Bool.and_true]
            · rw [if_neg (fun q => q.2.elim (fun z => by omega) g), rFitN_0, decide_eq_false g]; simp
        · refine ar_aloadn (k := 37) rfl rfl ?_
          refine br_getR (k := 38) rfl (hS.k (by decide)) flW_62_10 (by decide) rfl (hS.r rfl) ?_
          refine ar_iloadn (k := 39) rfl rfl ?_
          refine br_iald (k := 40) rfl (hS.k (by decide)) (by omega) (by omega) (by decide) ?_
          refine tw_top (WN.t2 hN (by omega) (by omega)) ?_
          refine ar_goto (k := 41) rfl ?_
          refine tw_top (y := rOth s a j) (by unfold rOth; first | (exfalso; omega) | rw [if_pos (by omega)] | rw [if_neg (by omega), if_pos (by omega)]) ?_
          have ho9 : 0 ≤ rOth s a j ∧ rOth s a j < 10 := by unfold rOth; first | (exfalso; omega) | (rw [if_pos (by omega)]; omega) | (rw [if_neg (by omega), if_pos (by omega)]; omega)
          refine ar_istore (k := 46) (l2 := [(4, _), (3, _), (2, _), (0, _), (1, _)]) rfl (by decide) rfl ?_
          refine ar_iloadn (k := 47) rfl rfl ?_
          refine ar_aloadn (k := 48) rfl rfl ?_
          refine ar_iloadn (k := 49) rfl rfl ?_
          refine ar_callV (k := 50) (as := [_]) rfl lvW_100 (hS.k (by decide)) rfl (c_W_wentIn hS hN hR (by omega)) rfl (by decide) (by decide) tw_m0 (Nat.le_of_ble_eq_true rfl) (fun r50 h50 p50 => ?_)
          obtain ⟨rfl, rfl⟩ := p50
          refine ar_if_eq (k := 51) rfl (by omega) (fun c51 => ?_) (fun c51 => ?_)
          · refine ar_iconst (k := 56) rfl ?_
            refine ar_iload (k := 57) rfl rfl ?_
            refine ar_ishl (k := 58) rfl ?_
            refine ar_iconst (k := 59) rfl ?_
            refine ar_ixor (k := 60) rfl ?_
            refine tw_top (y := if s (138 + (j : Int)) = 1 then bShl 1 (rOth s a j) else bXor (bShl 1 (rOth s a j)) (-1)) (by first | (exfalso; omega) | (rw [if_pos (by omega)]; done) | (rw [if_neg (by omega)]; done)) ?_
            refine ar_iand (k := 61) rfl ?_
            refine ar_istoren (k := 62) (l2 := [(2, _), (4, _), (3, _), (0, _), (1, _)]) rfl (by decide) rfl ?_
            refine ar_iinc (k := 63) (l2 := [(3, _), (2, _), (4, _), (0, _), (1, _)]) rfl (by decide) rfl rfl ?_
            refine ar_goto (k := 64) rfl ?_
            refine ar_sub (l2 := [(3, vi ((j + 1 : Nat) : Int)), (2, vi (bAnd b (if s (138 + (j : Int)) = 1 then bShl 1 (rOth s a j) else bXor (bShl 1 (rOth s a j)) (-1)))), (0, vr (some 1)), (1, vi a)]) (tw_s (tw_e 0 rfl (by omega)) (tw_s (tw_g 1 rfl) (tw_s (tw_g 3 rfl) (tw_s (tw_g 4 rfl) tw_s0)))) ?_
            refine tw_pst ?_ (ih (j + 1) _ (by omega) (tr_toInt _))
            intro r h' ⟨x, e1, e2, e3, e4⟩
            refine ⟨x, e1, e2, e3, fun i hi => ?_⟩
            have ei : ib (bAnd b (if s (138 + (j : Int)) = 1 then bShl 1 (rOth s a j) else bXor (bShl 1 (rOth s a j)) (-1))) i = (ib b i && decide (rOth s a j = (i : Int) ↔ s (138 + (j : Int)) = 1)) := by
              obtain ⟨o, ho⟩ : ∃ o : Nat, rOth s a j = (o : Int) := ⟨(rOth s a j).toNat, by omega⟩
              rw [ib_and, ho]
              congr 1
              by_cases g : s (138 + (j : Int)) = 1
              · rw [if_pos g, ib_shl1 o (by omega) i hi]
                apply decide_eq_decide.mpr
                omega
              · rw [if_neg g, ib_neg hi, ib_shl1 o (by omega) i hi, ← decide_not]
                apply decide_eq_decide.mpr
                omega
            rw [e4 i hi, ei, rFitN]
            by_cases g : rOth s a j = (i : Int) ↔ s (138 + (j : Int)) = 1
            · rw [if_pos ⟨rfl, Or.inr g⟩, decide_eq_true g, Bool.and_true]
            · rw [if_neg (fun q => q.2.elim (fun z => by omega) g), rFitN_0, decide_eq_false g]; simp
          · refine ar_iconst (k := 52) rfl ?_
            refine ar_iload (k := 53) rfl rfl ?_
            refine ar_ishl (k := 54) rfl ?_
            refine ar_goto (k := 55) rfl ?_
            refine tw_top (y := if s (138 + (j : Int)) = 1 then bShl 1 (rOth s a j) else bXor (bShl 1 (rOth s a j)) (-1)) (by first | (exfalso; omega) | (rw [if_pos (by omega)]; done) | (rw [if_neg (by omega)]; done)) ?_
            refine ar_iand (k := 61) rfl ?_
            refine ar_istoren (k := 62) (l2 := [(2, _), (4, _), (3, _), (0, _), (1, _)]) rfl (by decide) rfl ?_
            refine ar_iinc (k := 63) (l2 := [(3, _), (2, _), (4, _), (0, _), (1, _)]) rfl (by decide) rfl rfl ?_
            refine ar_goto (k := 64) rfl ?_
            refine ar_sub (l2 := [(3, vi ((j + 1 : Nat) : Int)), (2, vi (bAnd b (if s (138 + (j : Int)) = 1 then bShl 1 (rOth s a j) else bXor (bShl 1 (rOth s a j)) (-1)))), (0, vr (some 1)), (1, vi a)]) (tw_s (tw_e 0 rfl (by omega)) (tw_s (tw_g 1 rfl) (tw_s (tw_g 3 rfl) (tw_s (tw_g 4 rfl) tw_s0)))) ?_
            refine tw_pst ?_ (ih (j + 1) _ (by omega) (tr_toInt _))
            intro r h' ⟨x, e1, e2, e3, e4⟩
            refine ⟨x, e1, e2, e3, fun i hi => ?_⟩
            have ei : ib (bAnd b (if s (138 + (j : Int)) = 1 then bShl 1 (rOth s a j) else bXor (bShl 1 (rOth s a j)) (-1))) i = (ib b i && decide (rOth s a j = (i : Int) ↔ s (138 + (j : Int)) = 1)) := by
              obtain ⟨o, ho⟩ : ∃ o : Nat, rOth s a j = (o : Int) := ⟨(rOth s a j).toNat, by omega⟩
              rw [ib_and, ho]
              congr 1
              by_cases g : s (138 + (j : Int)) = 1
              · rw [if_pos g, ib_shl1 o (by omega) i hi]
                apply decide_eq_decide.mpr
                omega
              · rw [if_neg g, ib_neg hi, ib_shl1 o (by omega) i hi, ← decide_not]
                apply decide_eq_decide.mpr
                omega
            rw [e4 i hi, ei, rFitN]
            by_cases g : rOth s a j = (i : Int) ↔ s (138 + (j : Int)) = 1
            · rw [if_pos ⟨rfl, Or.inr g⟩, decide_eq_true g, Bool.and_true]
            · rw [if_neg (fun q => q.2.elim (fun z => by omega) g), rFitN_0, decide_eq_false g]; simp
      · refine ar_aloadn (k := 25) rfl rfl ?_
        refine br_getR (k := 26) rfl (hS.k (by decide)) flW_62_10 (by decide) rfl (hS.r rfl) ?_
        refine ar_iloadn (k := 27) rfl rfl ?_
        refine br_iald (k := 28) rfl (hS.k (by decide)) (by omega) (by omega) (by decide) ?_
        refine tw_top (WN.t2 hN (by omega) (by omega)) ?_
        refine ar_iloadn (k := 29) rfl rfl ?_
        refine ar_icmp_ne (k := 30) rfl (by omega) (by omega) (fun c30 => ?_) (fun c30 => ?_)
        · refine ar_iinc (k := 63) (l2 := [(3, _), (2, _), (0, _), (1, _)]) rfl (by decide) rfl rfl ?_
          refine ar_goto (k := 64) rfl ?_
          refine ar_sub (l2 := [(3, vi ((j + 1 : Nat) : Int)), (2, vi b), (0, vr (some 1)), (1, vi a)]) (tw_s (tw_e 0 rfl (by omega)) (tw_s (tw_g 1 rfl) (tw_s (tw_g 2 rfl) (tw_s (tw_g 3 rfl) tw_s0)))) ?_
          have q9 : rOth s a j = -1 := by unfold rOth; rw [if_neg (by omega), if_neg (by omega)]
          refine tw_pst ?_ (ih (j + 1) b (by omega) hb9)
          intro r h' ⟨x, e1, e2, e3, e4⟩
          exact ⟨x, e1, e2, e3, fun i hi => by rw [e4 i hi, rFitN, if_pos ⟨rfl, Or.inl q9⟩]⟩
        · refine ar_aloadn (k := 31) rfl rfl ?_
          refine br_getR (k := 32) rfl (hS.k (by decide)) flW_59_10 (by decide) rfl (hS.r rfl) ?_
          refine ar_iloadn (k := 33) rfl rfl ?_
          refine br_iald (k := 34) rfl (hS.k (by decide)) (by omega) (by omega) (by decide) ?_
          refine tw_top (WN.t1 hN (by omega) (by omega)) ?_
          refine ar_iloadn (k := 35) rfl rfl ?_
          refine ar_icmp_ne (k := 36) rfl (by omega) (by omega) (fun c36 => ?_) (fun c36 => ?_)
          · refine ar_aloadn (k := 42) rfl rfl ?_
            refine br_getR (k := 43) rfl (hS.k (by decide)) flW_59_10 (by decide) rfl (hS.r rfl) ?_
            refine ar_iloadn (k := 44) rfl rfl ?_
            refine br_iald (k := 45) rfl (hS.k (by decide)) (by omega) (by omega) (by decide) ?_
            refine tw_top (WN.t1 hN (by omega) (by omega)) ?_
            refine tw_top (y := rOth s a j) (by unfold rOth; first | (exfalso; omega) | rw [if_pos (by omega)] | rw [if_neg (by omega), if_pos (by omega)]) ?_
            have ho9 : 0 ≤ rOth s a j ∧ rOth s a j < 10 := by unfold rOth; first | (exfalso; omega) | (rw [if_pos (by omega)]; omega) | (rw [if_neg (by omega), if_pos (by omega)]; omega)
            refine ar_istore (k := 46) (l2 := [(4, _), (3, _), (2, _), (0, _), (1, _)]) rfl (by decide) rfl ?_
            refine ar_iloadn (k := 47) rfl rfl ?_
            refine ar_aloadn (k := 48) rfl rfl ?_
            refine ar_iloadn (k := 49) rfl rfl ?_
            refine ar_callV (k := 50) (as := [_]) rfl lvW_100 (hS.k (by decide)) rfl (c_W_wentIn hS hN hR (by omega)) rfl (by decide) (by decide) tw_m0 (Nat.le_of_ble_eq_true rfl) (fun r50 h50 p50 => ?_)
            obtain ⟨rfl, rfl⟩ := p50
            refine ar_if_eq (k := 51) rfl (by omega) (fun c51 => ?_) (fun c51 => ?_)
            · refine ar_iconst (k := 56) rfl ?_
              refine ar_iload (k := 57) rfl rfl ?_
              refine ar_ishl (k := 58) rfl ?_
              refine ar_iconst (k := 59) rfl ?_
              refine ar_ixor (k := 60) rfl ?_
              refine tw_top (y := if s (138 + (j : Int)) = 1 then bShl 1 (rOth s a j) else bXor (bShl 1 (rOth s a j)) (-1)) (by first | (exfalso; omega) | (rw [if_pos (by omega)]; done) | (rw [if_neg (by omega)]; done)) ?_
              refine ar_iand (k := 61) rfl ?_
              refine ar_istoren (k := 62) (l2 := [(2, _), (4, _), (3, _), (0, _), (1, _)]) rfl (by decide) rfl ?_
              refine ar_iinc (k := 63) (l2 := [(3, _), (2, _), (4, _), (0, _), (1, _)]) rfl (by decide) rfl rfl ?_
              refine ar_goto (k := 64) rfl ?_
              refine ar_sub (l2 := [(3, vi ((j + 1 : Nat) : Int)), (2, vi (bAnd b (if s (138 + (j : Int)) = 1 then bShl 1 (rOth s a j) else bXor (bShl 1 (rOth s a j)) (-1)))), (0, vr (some 1)), (1, vi a)]) (tw_s (tw_e 0 rfl (by omega)) (tw_s (tw_g 1 rfl) (tw_s (tw_g 3 rfl) (tw_s (tw_g 4 rfl) tw_s0)))) ?_
              refine tw_pst ?_ (ih (j + 1) _ (by omega) (tr_toInt _))
              intro r h' ⟨x, e1, e2, e3, e4⟩
              refine ⟨x, e1, e2, e3, fun i hi => ?_⟩
              have ei : ib (bAnd b (if s (138 + (j : Int)) = 1 then bShl 1 (rOth s a j) else bXor (bShl 1 (rOth s a j)) (-1))) i = (ib b i && decide (rOth s a j = (i : Int) ↔ s (138 + (j : Int)) = 1)) := by
                obtain ⟨o, ho⟩ : ∃ o : Nat, rOth s a j = (o : Int) := ⟨(rOth s a j).toNat, by omega⟩
                rw [ib_and, ho]
                congr 1
                by_cases g : s (138 + (j : Int)) = 1
                · rw [if_pos g, ib_shl1 o (by omega) i hi]
                  apply decide_eq_decide.mpr
                  omega
                · rw [if_neg g, ib_neg hi, ib_shl1 o (by omega) i hi, ← decide_not]
                  apply decide_eq_decide.mpr
                  omega
              rw [e4 i hi, ei, rFitN]
              by_cases g : rOth s a j = (i : Int) ↔ s (138 + (j : Int)) = 1
              · rw [if_pos ⟨rfl, Or.inr g⟩, decide_eq_true g, Bool.and_true]
              · rw [if_neg (fun q => q.2.elim (fun z => by omega) g), rFitN_0, decide_eq_false g]; simp
            · refine ar_iconst (k := 52) rfl ?_
              refine ar_iload (k := 53) rfl rfl ?_
              refine ar_ishl (k := 54) rfl ?_
              refine ar_goto (k := 55) rfl ?_
              refine tw_top (y := if s (138 + (j : Int)) = 1 then bShl 1 (rOth s a j) else bXor (bShl 1 (rOth s a j)) (-1)) (by first | (exfalso; omega) | (rw [if_pos (by omega)]; done) | (rw [if_neg (by omega)]; done)) ?_
              refine ar_iand (k := 61) rfl ?_
              refine ar_istoren (k := 62) (l2 := [(2, _), (4, _), (3, _), (0, _), (1, _)]) rfl (by decide) rfl ?_
              refine ar_iinc (k := 63) (l2 := [(3, _), (2, _), (4, _), (0, _), (1, _)]) rfl (by decide) rfl rfl ?_
              refine ar_goto (k := 64) rfl ?_
              refine ar_sub (l2 := [(3, vi ((j + 1 : Nat) : Int)), (2, vi (bAnd b (if s (138 + (j : Int)) = 1 then bShl 1 (rOth s a j) else bXor (bShl 1 (rOth s a j)) (-1)))), (0, vr (some 1)), (1, vi a)]) (tw_s (tw_e 0 rfl (by omega)) (tw_s (tw_g 1 rfl) (tw_s (tw_g 3 rfl) (tw_s (tw_g 4 rfl) tw_s0)))) ?_
              refine tw_pst ?_ (ih (j + 1) _ (by omega) (tr_toInt _))
              intro r h' ⟨x, e1, e2, e3, e4⟩
              refine ⟨x, e1, e2, e3, fun i hi => ?_⟩
              have ei : ib (bAnd b (if s (138 + (j : Int)) = 1 then bShl 1 (rOth s a j) else bXor (bShl 1 (rOth s a j)) (-1))) i = (ib b i && decide (rOth s a j = (i : Int) ↔ s (138 + (j : Int)) = 1)) := by
                obtain ⟨o, ho⟩ : ∃ o : Nat, rOth s a j = (o : Int) := ⟨(rOth s a j).toNat, by omega⟩
                rw [ib_and, ho]
                congr 1
                by_cases g : s (138 + (j : Int)) = 1
                · rw [if_pos g, ib_shl1 o (by omega) i hi]
                  apply decide_eq_decide.mpr
                  omega
                · rw [if_neg g, ib_neg hi, ib_shl1 o (by omega) i hi, ← decide_not]
                  apply decide_eq_decide.mpr
                  omega
              rw [e4 i hi, ei, rFitN]
              by_cases g : rOth s a j = (i : Int) ↔ s (138 + (j : Int)) = 1
              · rw [if_pos ⟨rfl, Or.inr g⟩, decide_eq_true g, Bool.and_true]
              · rw [if_neg (fun q => q.2.elim (fun z => by omega) g), rFitN_0, decide_eq_false g]; simp
          · refine ar_aloadn (k := 37) rfl rfl ?_
            refine br_getR (k := 38) rfl (hS.k (by decide)) flW_62_10 (by decide) rfl (hS.r rfl) ?_
            refine ar_iloadn (k := 39) rfl rfl ?_
            refine br_iald (k := 40) rfl (hS.k (by decide)) (by omega) (by omega) (by decide) ?_
            refine tw_top (WN.t2 hN (by omega) (by omega)) ?_
            refine ar_goto (k := 41) rfl ?_
            refine tw_top (y := rOth s a j) (by unfold rOth; first | (exfalso; omega) | rw [if_pos (by omega)] | rw [if_neg (by omega), if_pos (by omega)]) ?_
            have ho9 : 0 ≤ rOth s a j ∧ rOth s a j < 10 := by unfold rOth; first | (exfalso; omega) | (rw [if_pos (by omega)]; omega) | (rw [if_neg (by omega), if_pos (by omega)]; omega)
            refine ar_istore (k := 46) (l2 := [(4, _), (3, _), (2, _), (0, _), (1, _)]) rfl (by decide) rfl ?_
            refine ar_iloadn (k := 47) rfl rfl ?_
            refine ar_aloadn (k := 48) rfl rfl ?_
            refine ar_iloadn (k := 49) rfl rfl ?_
            refine ar_callV (k := 50) (as := [_]) rfl lvW_100 (hS.k (by decide)) rfl (c_W_wentIn hS hN hR (by omega)) rfl (by decide) (by decide) tw_m0 (Nat.le_of_ble_eq_true rfl) (fun r50 h50 p50 => ?_)
            obtain ⟨rfl, rfl⟩ := p50
            refine ar_if_eq (k := 51) rfl (by omega) (fun c51 => ?_) (fun c51 => ?_)
            · refine ar_iconst (k := 56) rfl ?_
              refine ar_iload (k := 57) rfl rfl ?_
              refine ar_ishl (k := 58) rfl ?_
              refine ar_iconst (k := 59) rfl ?_
              refine ar_ixor (k := 60) rfl ?_
              refine tw_top (y := if s (138 + (j : Int)) = 1 then bShl 1 (rOth s a j) else bXor (bShl 1 (rOth s a j)) (-1)) (by first | (exfalso; omega) | (rw [if_pos (by omega)]; done) | (rw [if_neg (by omega)]; done)) ?_
              refine ar_iand (k := 61) rfl ?_
              refine ar_istoren (k := 62) (l2 := [(2, _), (4, _), (3, _), (0, _), (1, _)]) rfl (by decide) rfl ?_
              refine ar_iinc (k := 63) (l2 := [(3, _), (2, _), (4, _), (0, _), (1, _)]) rfl (by decide) rfl rfl ?_
              refine ar_goto (k := 64) rfl ?_
              refine ar_sub (l2 := [(3, vi ((j + 1 : Nat) : Int)), (2, vi (bAnd b (if s (138 + (j : Int)) = 1 then bShl 1 (rOth s a j) else bXor (bShl 1 (rOth s a j)) (-1)))), (0, vr (some 1)), (1, vi a)]) (tw_s (tw_e 0 rfl (by omega)) (tw_s (tw_g 1 rfl) (tw_s (tw_g 3 rfl) (tw_s (tw_g 4 rfl) tw_s0)))) ?_
              refine tw_pst ?_ (ih (j + 1) _ (by omega) (tr_toInt _))
              intro r h' ⟨x, e1, e2, e3, e4⟩
              refine ⟨x, e1, e2, e3, fun i hi => ?_⟩
              have ei : ib (bAnd b (if s (138 + (j : Int)) = 1 then bShl 1 (rOth s a j) else bXor (bShl 1 (rOth s a j)) (-1))) i = (ib b i && decide (rOth s a j = (i : Int) ↔ s (138 + (j : Int)) = 1)) := by
                obtain ⟨o, ho⟩ : ∃ o : Nat, rOth s a j = (o : Int) := ⟨(rOth s a j).toNat, by omega⟩
                rw [ib_and, ho]
                congr 1
                by_cases g : s (138 + (j : Int)) = 1
                · rw [if_pos g, ib_shl1 o (by omega) i hi]
                  apply decide_eq_decide.mpr
                  omega
                · rw [if_neg g, ib_neg hi, ib_shl1 o (by omega) i hi, ← decide_not]
                  apply decide_eq_decide.mpr
                  omega
              rw [e4 i hi, ei, rFitN]
              by_cases g : rOth s a j = (i : Int) ↔ s (138 + (j : Int)) = 1
              · rw [if_pos ⟨rfl, Or.inr g⟩, decide_eq_true g, Bool.and_true]
              · rw [if_neg (fun q => q.2.elim (fun z => by omega) g), rFitN_0, decide_eq_false g]; simp
            · refine ar_iconst (k := 52) rfl ?_
              refine ar_iload (k := 53) rfl rfl ?_
              refine ar_ishl (k := 54) rfl ?_
              refine ar_goto (k := 55) rfl ?_
              refine tw_top (y := if s (138 + (j : Int)) = 1 then bShl 1 (rOth s a j) else bXor (bShl 1 (rOth s a j)) (-1)) (by first | (exfalso; omega) | (rw [if_pos (by omega)]; done) | (rw [if_neg (by omega)]; done)) ?_
              refine ar_iand (k := 61) rfl ?_
              refine ar_istoren (k := 62) (l2 := [(2, _), (4, _), (3, _), (0, _), (1, _)]) rfl (by decide) rfl ?_
              refine ar_iinc (k := 63) (l2 := [(3, _), (2, _), (4, _), (0, _), (1, _)]) rfl (by decide) rfl rfl ?_
              refine ar_goto (k := 64) rfl ?_
              refine ar_sub (l2 := [(3, vi ((j + 1 : Nat) : Int)), (2, vi (bAnd b (if s (138 + (j : Int)) = 1 then bShl 1 (rOth s a j) else bXor (bShl 1 (rOth s a j)) (-1)))), (0, vr (some 1)), (1, vi a)]) (tw_s (tw_e 0 rfl (by omega)) (tw_s (tw_g 1 rfl) (tw_s (tw_g 3 rfl) (tw_s (tw_g 4 rfl) tw_s0)))) ?_
              refine tw_pst ?_ (ih (j + 1) _ (by omega) (tr_toInt _))
              intro r h' ⟨x, e1, e2, e3, e4⟩
              refine ⟨x, e1, e2, e3, fun i hi => ?_⟩
              have ei : ib (bAnd b (if s (138 + (j : Int)) = 1 then bShl 1 (rOth s a j) else bXor (bShl 1 (rOth s a j)) (-1))) i = (ib b i && decide (rOth s a j = (i : Int) ↔ s (138 + (j : Int)) = 1)) := by
                obtain ⟨o, ho⟩ : ∃ o : Nat, rOth s a j = (o : Int) := ⟨(rOth s a j).toNat, by omega⟩
                rw [ib_and, ho]
                congr 1
                by_cases g : s (138 + (j : Int)) = 1
                · rw [if_pos g, ib_shl1 o (by omega) i hi]
                  apply decide_eq_decide.mpr
                  omega
                · rw [if_neg g, ib_neg hi, ib_shl1 o (by omega) i hi, ← decide_not]
                  apply decide_eq_decide.mpr
                  omega
              rw [e4 i hi, ei, rFitN]
              by_cases g : rOth s a j = (i : Int) ↔ s (138 + (j : Int)) = 1
              · rw [if_pos ⟨rfl, Or.inr g⟩, decide_eq_true g, Bool.and_true]
              · rw [if_neg (fun q => q.2.elim (fun z => by omega) g), rFitN_0, decide_eq_false g]; simp
theorem c_W_likelyTwins {a : Int} (hS : tSt (K, I, Q, n)) (hN : WN 1 I s) (hR : RInv s) (a1 : 0 ≤ a ∧ a < s 1) : tw_F l G 2 0 0 mW_likelyTwins [vr (some 1), vi a] (K, I, Q, n) (some (vi (rFits s a))) (K, I, Q, n) := by
  obtain ⟨h0, h1, h2, h3, h4, h5, h6, hp, hrw, ht, hr, hb, htp, hv⟩ := id hR
  refine tw_intro okW_likelyTwins (Nat.le_of_ble_eq_true rfl) ?_
  refine ar_iconst (k := 0) rfl ?_
  refine ar_aloadn (k := 1) rfl rfl ?_
  refine br_getIz (k := 2) (z := 12) rfl (hS.k (by decide)) flW_56_10 (by decide) rfl rfl ?_
  refine tw_top (WN.tc hN) ?_
  refine ar_ishl (k := 3) rfl ?_
  refine ar_iconst (k := 4) rfl ?_
  refine ar_isub (k := 5) rfl ?_
  refine ar_iconst (k := 6) rfl ?_
  refine ar_iloadn (k := 7) rfl rfl ?_
  refine ar_ishl (k := 8) rfl ?_
  refine ar_iconst (k := 9) rfl ?_
  refine ar_ixor (k := 10) rfl ?_
  refine ar_iand (k := 11) rfl ?_
  refine ar_istoren (k := 12) (l2 := [(2, _), (0, _), (1, _)]) rfl (by decide) rfl ?_
  refine ar_iconst (k := 13) rfl ?_
  refine ar_istoren (k := 14) (l2 := [(3, _), (2, _), (0, _), (1, _)]) rfl (by decide) rfl ?_
  refine ar_sub (l2 := [(3, vi ((0 : Nat) : Int)), (2, vi (bAnd (bShl 1 (s 1) - 1) (bXor (bShl 1 a) (-1)))), (0, vr (some 1)), (1, vi a)]) (tw_s (tw_e 0 rfl (by rfl)) (tw_s (tw_g 1 rfl) (tw_s (tw_g 2 rfl) (tw_s (tw_g 3 rfl) tw_s0)))) ?_
  refine tw_pst ?_ (l_W_likelyTwins hS hN hR a1 (s 3).toNat 0 _ (by omega) (tr_toInt _))
  intro r h' ⟨x, e1, e2, e3, e4⟩
  refine ⟨?_, e2⟩
  rw [e1]
  congr 2
  refine ib_ext e3 (orV_tr _ _ _ (by decide)) (fun i hi => ?_)
  rw [e4 i hi, rFits, orV_ib (fun j => or_if _ _) _ _ _ _ (by omega) hi, ib_0, Bool.false_or, ib_and, ib_neg hi]
  obtain ⟨m, hm⟩ : ∃ m : Nat, s 1 = (m : Int) := ⟨(s 1).toNat, by omega⟩
  obtain ⟨o, rfl⟩ : ∃ o : Nat, a = (o : Int) := ⟨a.toNat, by omega⟩
  rw [hm, ib_m1 m (by omega) i hi, ib_shl1 o (by omega) i hi, Int.toNat_natCast]
  have e0 : (bShl 1 (i : Int) = 0) = False := by
    apply eq_false
    intro q
    have := ib_shl1 i hi i hi
    rw [q, ib_0, decide_eq_true rfl] at this
    cases this
  by_cases g1 : i < m
  · by_cases g2 : o = i
    · subst g2
      rw [if_neg (show ¬ ((o : Int) ≠ (o : Int)) from fun q => q rfl), rFitN_0]
      simp
    · rw [if_pos (show (i : Int) ≠ (o : Int) by omega), decide_eq_true g1, decide_eq_false g2, decide_eq_true (show 0 ≤ i ∧ i < 0 + m by omega)]
      by_cases g3 : rFitN s (o : Int) (i : Int) (s 3).toNat 0 1 = 1
      · simp [g3, e0]
      · simp [g3]
  · rw [decide_eq_false g1, decide_eq_false (show ¬ (0 ≤ i ∧ i < 0 + m) by omega)]
    simp
theorem c_T_fits {w : Int} (hS : tSt (K, I, Q, n)) (hN : WN 1 I s) (hR : RInv s) (tw : tr w) : tw_F l G 3 0 0 mT_fits [vr (some 0), vi w] (K, I, Q, n) (some (vi (if 0 ≤ w ∧ w ≤ s 1 - 1 then rFits s w else -1))) (K, I, Q, n) := by
  obtain ⟨h0, h1, h2, h3, h4, h5, h6, hp, hrw, ht, hr, hb, htp, hv⟩ := id hR
  refine tw_intro okT_fits (Nat.le_of_ble_eq_true rfl) ?_
  refine ar_aloadn (k := 0) rfl rfl ?_
  refine br_getR (k := 1) rfl (hS.k (by decide)) flT_14_11 (by decide) rfl (hS.r rfl) ?_
  refine ar_iloadn (k := 2) rfl rfl ?_
  refine ar_callV (k := 3) (as := [_]) rfl lvT_107 (hS.k (by decide)) rfl (c_W_hasTool hS hN hR (by omega)) rfl (by decide) (by decide) tw_m0 (Nat.le_of_ble_eq_true rfl) (fun r3 h3 p3 => ?_)
  obtain ⟨rfl, rfl⟩ := p3
  refine ar_if_eq (k := 4) rfl (by omega) (fun c4 => ?_) (fun c4 => ?_)
  · refine ar_iconst (k := 10) rfl ?_
    refine ar_iret (k := 11) rfl rfl rfl (Nat.le_refl _) ?_
    first
      | exact ⟨congrArg (fun z => some (vi z)) (by rw [if_pos (by omega)]), rfl⟩
      | exact ⟨congrArg (fun z => some (vi z)) (by rw [if_neg (by omega)]), rfl⟩
  · refine ar_aloadn (k := 5) rfl rfl ?_
    refine br_getR (k := 6) rfl (hS.k (by decide)) flT_14_11 (by decide) rfl (hS.r rfl) ?_
    refine ar_iloadn (k := 7) rfl rfl ?_
    refine ar_callV (k := 8) (as := [_]) rfl lvT_234 (hS.k (by decide)) rfl (c_W_likelyTwins hS hN hR (by omega)) rfl (by decide) (by decide) tw_m0 (Nat.le_of_ble_eq_true rfl) (fun r8 h8 p8 => ?_)
    obtain ⟨rfl, rfl⟩ := p8
    refine ar_goto (k := 9) rfl ?_
    refine ar_iret (k := 11) rfl rfl rfl (Nat.le_refl _) ?_
    first
      | exact ⟨congrArg (fun z => some (vi z)) (by rw [if_pos (by omega)]), rfl⟩
      | exact ⟨congrArg (fun z => some (vi z)) (by rw [if_neg (by omega)]), rfl⟩
def rEnd : Nat → Int → Int → Bool
  | 0, _, y => decide (y = 0)
  | k + 1, x, y => if y = 0 then true else rEnd k y (x.tmod y)
theorem rGcd_y0 : ∀ (k : Nat) (x : Int), rGcd k x 0 = x
  | 0, _ => rfl
  | k + 1, x => by rw [rGcd, if_pos rfl]
theorem rGcd_more : ∀ (k : Nat) (x y : Int) (j : Nat), rEnd k x y = true → rGcd (k + j) x y = rGcd k x y
  | 0, x, y, j, h => by
    have : y = 0 := of_decide_eq_true h
    subst this
    rw [rGcd_y0, rGcd_y0]
  | k + 1, x, y, j, h => by
    rw [show k + 1 + j = (k + j) + 1 by omega, rGcd, rGcd]
    by_cases g : y = 0
    · rw [if_pos g, if_pos g]
    · rw [if_neg g, if_neg g]
      rw [rEnd, if_neg g] at h
      exact rGcd_more k y _ j h
theorem once_end : ∀ b : Nat, b ≤ 100 → ∀ m : Nat, m ≤ 4 → rEnd 64 (rPow 100 m 1) (rPow 100 m 1 - rPow (100 - (b : Int)) m 1) = true := by decide +kernel
theorem once_gcd {b : Int} (hb : 0 ≤ b ∧ b ≤ 100) {m : Nat} (hm : m ≤ 4) : rGcd 64 (rPow 100 m 1) (rPow 100 m 1 - rPow (100 - b) m 1) = rGcd 1000000001 (rPow 100 m 1 - rPow (100 - b) m 1) (rPow 100 m 1) := by
  obtain ⟨c, rfl⟩ : ∃ c : Nat, b = (c : Int) := ⟨b.toNat, by omega⟩
  have e : rGcd 1000000000 (rPow 100 m 1) (rPow 100 m 1 - rPow (100 - (c : Int)) m 1) = rGcd 64 (rPow 100 m 1) (rPow 100 m 1 - rPow (100 - (c : Int)) m 1) := rGcd_more 64 _ _ 999999936 (once_end c (by omega) m hm)
  have p1 := rPow_100 m hm
  have p2 := rPow_mono (b := 100 - (c : Int)) (by omega) m 1 1 (by omega) (by omega)
  have e2 : rGcd 1000000001 (rPow 100 m 1 - rPow (100 - (c : Int)) m 1) (rPow 100 m 1) = rGcd 1000000000 (rPow 100 m 1) ((rPow 100 m 1 - rPow (100 - (c : Int)) m 1).tmod (rPow 100 m 1)) := by
    rw [show (1000000001 : Nat) = 1000000000 + 1 from rfl, rGcd, if_neg (by omega)]
  rw [e2]
  rcases (show rPow 100 m 1 - rPow (100 - (c : Int)) m 1 < rPow 100 m 1 ∨ rPow 100 m 1 - rPow (100 - (c : Int)) m 1 = rPow 100 m 1 by omega) with g | g
  · rw [Int.tmod_eq_of_lt (by omega) g, e]
  · rw [g, Int.tmod_self, rGcd_y0, show (64 : Nat) = 62 + 1 + 1 by rfl, rGcd, if_neg (by omega), Int.tmod_self, rGcd_y0]
theorem l_T_commonDivisor {h : tH} : ∀ (k : Nat) (j : Nat) (x y : Int), j + k = 64 → 0 ≤ x ∧ x ≤ 1000000000 → 0 ≤ y ∧ y ≤ 1000000000 → tw_AW l G mT_commonDivisor 1 0 0 h.2.2.2 0 (tw_fn (some (vl (rGcd k x y))) h) 3 [(4, vi (j : Int)), (0, vl x), (2, vl y)] [] h := by
  intro k
  induction k with
  | zero =>
    intro j x y hj hx hy
    refine ar_iload (k := 2) rfl rfl ?_
    refine ar_bipush (k := 3) rfl (by decide) ?_
    refine ar_icmp_ge (k := 4) rfl (by omega) (by omega) (fun c4 => ?_) (fun c4 => ?_)
    · refine ar_lloadn (k := 19) rfl rfl ?_
      refine ar_lret (k := 20) rfl rfl rfl (Nat.le_refl _) ?_
      exact ⟨rfl, rfl⟩
    · exfalso; omega
  | succ k ih =>
    intro j x y hj hx hy
    refine ar_iload (k := 2) rfl rfl ?_
    refine ar_bipush (k := 3) rfl (by decide) ?_
    refine ar_icmp_ge (k := 4) rfl (by omega) (by omega) (fun c4 => ?_) (fun c4 => ?_)
    · refine ar_lloadn (k := 19) rfl rfl ?_
      refine ar_lret (k := 20) rfl rfl rfl (Nat.le_refl _) ?_
      first
        | (exfalso; omega)
        | (rw [rGcd, if_pos (by omega)]; exact ⟨rfl, rfl⟩)
    · refine ar_lloadn (k := 5) rfl rfl ?_
      refine ar_lconst (k := 6) (z := 0) rfl rfl ?_
      refine ar_lcmp (k := 7) rfl (by omega) (by omega) ?_
      have hl3 : lcm3 y 0 = 0 ↔ y = 0 := by unfold lcm3; (repeat' split) <;> omega
      have hl4 : -1 ≤ lcm3 y 0 ∧ lcm3 y 0 ≤ 1 := by unfold lcm3; (repeat' split) <;> omega
      refine ar_if_eq (k := 8) rfl (by omega) (fun c8 => ?_) (fun c8 => ?_)
      · refine ar_lloadn (k := 19) rfl rfl ?_
        refine ar_lret (k := 20) rfl rfl rfl (Nat.le_refl _) ?_
        first
          | (exfalso; omega)
          | (rw [rGcd, if_pos (by omega)]; exact ⟨rfl, rfl⟩)
      · refine ar_lloadn (k := 9) rfl rfl ?_
        refine ar_lloadn (k := 10) rfl rfl ?_
        refine ar_lrem (k := 11) rfl (by omega) (by omega) (by omega) ?_
        refine ar_lstore (k := 12) (l2 := [(5, _), (4, _), (0, _), (2, _)]) rfl (by decide) rfl ?_
        refine ar_lloadn (k := 13) rfl rfl ?_
        refine ar_lstoren (k := 14) (l2 := [(0, _), (5, _), (4, _), (2, _)]) rfl (by decide) rfl ?_
        refine ar_lload (k := 15) rfl rfl ?_
        refine ar_lstoren (k := 16) (l2 := [(2, _), (0, _), (5, _), (4, _)]) rfl (by decide) rfl ?_
        refine ar_iinc (k := 17) (l2 := [(4, _), (2, _), (0, _), (5, _)]) rfl (by decide) rfl rfl ?_
        refine ar_goto (k := 18) rfl ?_
        refine ar_sub (l2 := [(4, vi ((j + 1 : Nat) : Int)), (0, vl y), (2, vl (x.tmod y))]) (tw_s (tw_e 0 rfl (by omega)) (tw_s (tw_g 2 rfl) (tw_s (tw_g 1 rfl) tw_s0))) ?_
        have hq : x.tmod y = x % y := Int.tmod_eq_emod_of_nonneg (by omega)
        have g1 := Int.emod_nonneg x (show y ≠ 0 by omega)
        have g2 := Int.emod_lt_of_pos x (show 0 < y by omega)
        rw [rGcd, if_neg (by omega)]
        exact ih (j + 1) y (x.tmod y) (by omega) (by omega) (by omega)
theorem c_T_commonDivisor {h : tH} {x y : Int} (hx : 0 ≤ x ∧ x ≤ 1000000000) (hy : 0 ≤ y ∧ y ≤ 1000000000) : tw_F l G 1 0 0 mT_commonDivisor [vl x, vl y] h (some (vl (rGcd 64 x y))) h := by
  refine tw_intro okT_commonDivisor (Nat.le_of_ble_eq_true rfl) ?_
  refine ar_iconst (k := 0) rfl ?_
  refine ar_istore (k := 1) (l2 := [(4, _), (0, _), (2, _)]) rfl (by decide) rfl ?_
  refine ar_sub (l2 := [(4, vi ((0 : Nat) : Int)), (0, vl x), (2, vl y)]) (tw_s (tw_e 0 rfl (by rfl)) (tw_s (tw_g 1 rfl) (tw_s (tw_g 2 rfl) tw_s0))) ?_
  exact l_T_commonDivisor 64 0 x y (by omega) hx hy
theorem l_T_once {h : tH} {p q m w : Int} (hp : 0 ≤ p ∧ p ≤ 10) (hq : 0 ≤ q ∧ q ≤ 10) (hm : 1 ≤ m ∧ m ≤ 4) (hw : 0 ≤ w ∧ w ≤ 1) : ∀ (k : Nat) (j : Nat) (a b : Int), j + k = m.toNat → rPow 100 k a = rPow 100 m.toNat 1 → rPow (100 - p * q) k b = rPow (100 - p * q) m.toNat 1 → tw_AW l G mT_once 2 0 0 h.2.2.2 0 (tw_fn (some (vl (rOnce p q m w))) h) 54 [(9, vi (j : Int)), (5, vl a), (7, vl b), (1, vi p), (2, vi q), (3, vi m), (4, vi w)] [] h := by
  have hpq := mul_bd hp hq
  have p1 := rPow_100 m.toNat (by omega)
  have p2 := rPow_mono (b := 100 - p * q) (by omega) m.toNat 1 1 (by omega) (by omega)
  have hg := rGcd_ne 1000000001 (rPow 100 m.toNat 1 - rPow (100 - p * q) m.toNat 1) (rPow 100 m.toNat 1) (by omega) (by omega) (by omega) (by omega)
  have hgg := once_gcd (b := p * q) (by omega) (m := m.toNat) (by omega)
  intro k
  induction k with
  | zero =>
    intro j a b hj ha hb
    refine ar_iload (k := 29) rfl rfl ?_
    refine ar_iloadn (k := 30) rfl rfl ?_
    refine ar_icmp_ge (k := 31) rfl (by omega) (by omega) (fun c31 => ?_) (fun c31 => ?_)
    · have ha2 : a = rPow 100 m.toNat 1 := ha
      have hb2 : b = rPow (100 - p * q) m.toNat 1 := hb
      subst ha2 hb2
      refine ar_lload (k := 47) rfl rfl ?_
      refine ar_lload (k := 48) rfl rfl ?_
      refine ar_lsub (k := 49) rfl ?_
      refine ar_lstore (k := 50) (l2 := [(9, _), (5, _), (7, _), (1, _), (2, _), (3, _), (4, _)]) rfl (by decide) rfl ?_
      refine ar_lload (k := 51) rfl rfl ?_
      refine ar_lload (k := 52) rfl rfl ?_
      refine ar_callS (k := 53) (as := [_, _]) rfl lsT_241 (c_T_commonDivisor (by omega) (by omega)) rfl (by decide) (by decide) tw_m0 (Nat.le_of_ble_eq_true rfl) (fun r53 h53 p53 => ?_)
      obtain ⟨rfl, rfl⟩ := p53
      refine tw_st (st' := [vl (rGcd 1000000001 (rPow 100 m.toNat 1 - rPow (100 - p * q) m.toNat 1) (rPow 100 m.toNat 1))]) (by show [vl _] = _; rw [hgg]) ?_
      refine ar_lstore (k := 54) (l2 := [(11, _), (9, _), (5, _), (7, _), (1, _), (2, _), (3, _), (4, _)]) rfl (by decide) rfl ?_
      refine ar_lload (k := 55) rfl rfl ?_
      refine ar_lconst (k := 56) (z := 1) rfl rfl ?_
      refine ar_lcmp (k := 57) rfl (by omega) (by omega) ?_
      have hl4 : lcm3 (rGcd 1000000001 (rPow 100 m.toNat 1 - rPow (100 - p * q) m.toNat 1) (rPow 100 m.toNat 1)) 1 = 0 ∨ lcm3 (rGcd 1000000001 (rPow 100 m.toNat 1 - rPow (100 - p * q) m.toNat 1) (rPow 100 m.toNat 1)) 1 = 1 := by unfold lcm3; (repeat' split) <;> omega
      refine ar_if_ge (k := 58) rfl (by omega) (fun c58 => ?_) (fun c58 => ?_)
      · refine ar_iload (k := 61) rfl rfl ?_
        refine ar_if_ne (k := 62) rfl (by omega) (fun c62 => ?_) (fun c62 => ?_)
        · refine ar_lload (k := 67) rfl rfl ?_
          refine ar_lload (k := 68) rfl rfl ?_
          refine ar_ldiv (k := 69) rfl (by omega) (by omega) (by omega) ?_
          refine ar_lret (k := 70) rfl rfl rfl (Nat.le_refl _) ?_
          first
            | (exfalso; omega)
            | (unfold rOnce; rw [if_neg (by omega), if_pos (by omega)]; exact ⟨rfl, rfl⟩)
            | (unfold rOnce; rw [if_neg (by omega), if_neg (by omega)]; exact ⟨rfl, rfl⟩)
        · refine ar_lload (k := 63) rfl rfl ?_
          refine ar_lload (k := 64) rfl rfl ?_
          refine ar_ldiv (k := 65) rfl (by omega) (by omega) (by omega) ?_
          refine ar_goto (k := 66) rfl ?_
          refine ar_lret (k := 70) rfl rfl rfl (Nat.le_refl _) ?_
          first
            | (exfalso; omega)
            | (unfold rOnce; rw [if_neg (by omega), if_pos (by omega)]; exact ⟨rfl, rfl⟩)
            | (unfold rOnce; rw [if_neg (by omega), if_neg (by omega)]; exact ⟨rfl, rfl⟩)
      · refine ar_ldc2 (k := 59) (z := -9223372036854775808) rfl cnT_237 rfl ?_
        refine ar_lret (k := 60) rfl rfl rfl (Nat.le_refl _) ?_
        first
          | (exfalso; omega)
          | (unfold rOnce; rw [if_neg (by omega), if_pos (by omega)]; exact ⟨rfl, rfl⟩)
          | (unfold rOnce; rw [if_neg (by omega), if_neg (by omega)]; exact ⟨rfl, rfl⟩)
    · exfalso; omega
  | succ k ih =>
    intro j a b hj ha hb
    refine ar_iload (k := 29) rfl rfl ?_
    refine ar_iloadn (k := 30) rfl rfl ?_
    refine ar_icmp_ge (k := 31) rfl (by omega) (by omega) (fun c31 => ?_) (fun c31 => ?_)
    · exfalso; omega
    · refine ar_lload (k := 32) rfl rfl ?_
      refine ar_ldc2 (k := 33) (z := 100) rfl cnT_239 rfl ?_
      refine ar_lmul (k := 34) rfl ?_
      refine ar_lstore (k := 35) (l2 := [(5, _), (9, _), (7, _), (1, _), (2, _), (3, _), (4, _)]) rfl (by decide) rfl ?_
      refine ar_lload (k := 36) rfl rfl ?_
      refine ar_bipush (k := 37) rfl (by decide) ?_
      refine ar_iloadn (k := 38) rfl rfl ?_
      refine ar_iloadn (k := 39) rfl rfl ?_
      refine ar_imul (k := 40) rfl ?_
      refine ar_isub (k := 41) rfl ?_
      refine ar_i2l (k := 42) rfl (by omega) ?_
      refine ar_lmul (k := 43) rfl ?_
      refine ar_lstore (k := 44) (l2 := [(7, _), (5, _), (9, _), (1, _), (2, _), (3, _), (4, _)]) rfl (by decide) rfl ?_
      refine ar_iinc (k := 45) (l2 := [(9, _), (7, _), (5, _), (1, _), (2, _), (3, _), (4, _)]) rfl (by decide) rfl rfl ?_
      refine ar_goto (k := 46) rfl ?_
      refine ar_sub (l2 := [(9, vi ((j + 1 : Nat) : Int)), (5, vl (a * 100)), (7, vl (b * (100 - p * q))), (1, vi p), (2, vi q), (3, vi m), (4, vi w)]) (tw_s (tw_e 0 rfl (by omega)) (tw_s (tw_g 2 rfl) (tw_s (tw_g 1 rfl) (tw_s (tw_g 3 rfl) (tw_s (tw_g 4 rfl) (tw_s (tw_g 5 rfl) (tw_s (tw_g 6 rfl) tw_s0))))))) ?_
      exact ih (j + 1) _ _ (by omega) ha hb
theorem c_T_once {h : tH} {p q m w : Int} (tp : tr p) (tq : tr q) (tm : tr m) (tw : tr w) : tw_F l G 2 0 0 mT_once [vr (some 0), vi p, vi q, vi m, vi w] h (some (vl (rOnce p q m w))) h := by
  refine tw_intro okT_once (Nat.le_of_ble_eq_true rfl) ?_
  refine ar_iloadn (k := 0) rfl rfl ?_
  refine ar_if_lt (k := 1) rfl (by omega) (fun c1 => ?_) (fun c1 => ?_)
  · refine ar_ldc2 (k := 21) (z := -9223372036854775808) rfl cnT_237 rfl ?_
    refine ar_lret (k := 22) rfl rfl rfl (Nat.le_refl _) ?_
    unfold rOnce
    rw [if_pos (by omega)]
    exact ⟨rfl, rfl⟩
  · refine ar_iloadn (k := 2) rfl rfl ?_
    refine ar_bipush (k := 3) rfl (by decide) ?_
    refine ar_icmp_gt (k := 4) rfl (by omega) (by omega) (fun c4 => ?_) (fun c4 => ?_)
    · refine ar_ldc2 (k := 21) (z := -9223372036854775808) rfl cnT_237 rfl ?_
      refine ar_lret (k := 22) rfl rfl rfl (Nat.le_refl _) ?_
      unfold rOnce
      rw [if_pos (by omega)]
      exact ⟨rfl, rfl⟩
    · refine ar_iloadn (k := 5) rfl rfl ?_
      refine ar_if_lt (k := 6) rfl (by omega) (fun c6 => ?_) (fun c6 => ?_)
      · refine ar_ldc2 (k := 21) (z := -9223372036854775808) rfl cnT_237 rfl ?_
        refine ar_lret (k := 22) rfl rfl rfl (Nat.le_refl _) ?_
        unfold rOnce
        rw [if_pos (by omega)]
        exact ⟨rfl, rfl⟩
      · refine ar_iloadn (k := 7) rfl rfl ?_
        refine ar_bipush (k := 8) rfl (by decide) ?_
        refine ar_icmp_gt (k := 9) rfl (by omega) (by omega) (fun c9 => ?_) (fun c9 => ?_)
        · refine ar_ldc2 (k := 21) (z := -9223372036854775808) rfl cnT_237 rfl ?_
          refine ar_lret (k := 22) rfl rfl rfl (Nat.le_refl _) ?_
          unfold rOnce
          rw [if_pos (by omega)]
          exact ⟨rfl, rfl⟩
        · refine ar_iloadn (k := 10) rfl rfl ?_
          refine ar_iconst (k := 11) rfl ?_
          refine ar_icmp_lt (k := 12) rfl (by omega) (by omega) (fun c12 => ?_) (fun c12 => ?_)
          · refine ar_ldc2 (k := 21) (z := -9223372036854775808) rfl cnT_237 rfl ?_
            refine ar_lret (k := 22) rfl rfl rfl (Nat.le_refl _) ?_
            unfold rOnce
            rw [if_pos (by omega)]
            exact ⟨rfl, rfl⟩
          · refine ar_iloadn (k := 13) rfl rfl ?_
            refine ar_iconst (k := 14) rfl ?_
            refine ar_icmp_gt (k := 15) rfl (by omega) (by omega) (fun c15 => ?_) (fun c15 => ?_)
            · refine ar_ldc2 (k := 21) (z := -9223372036854775808) rfl cnT_237 rfl ?_
              refine ar_lret (k := 22) rfl rfl rfl (Nat.le_refl _) ?_
              unfold rOnce
              rw [if_pos (by omega)]
              exact ⟨rfl, rfl⟩
            · refine ar_iload (k := 16) rfl rfl ?_
              refine ar_if_lt (k := 17) rfl (by omega) (fun c17 => ?_) (fun c17 => ?_)
              · refine ar_ldc2 (k := 21) (z := -9223372036854775808) rfl cnT_237 rfl ?_
                refine ar_lret (k := 22) rfl rfl rfl (Nat.le_refl _) ?_
                unfold rOnce
                rw [if_pos (by omega)]
                exact ⟨rfl, rfl⟩
              · refine ar_iload (k := 18) rfl rfl ?_
                refine ar_iconst (k := 19) rfl ?_
                refine ar_icmp_le (k := 20) rfl (by omega) (by omega) (fun c20 => ?_) (fun c20 => ?_)
                · refine ar_lconst (k := 23) (z := 1) rfl rfl ?_
                  refine ar_lstore (k := 24) (l2 := [(5, _), (0, _), (1, _), (2, _), (3, _), (4, _)]) rfl (by decide) rfl ?_
                  refine ar_lconst (k := 25) (z := 1) rfl rfl ?_
                  refine ar_lstore (k := 26) (l2 := [(7, _), (5, _), (0, _), (1, _), (2, _), (3, _), (4, _)]) rfl (by decide) rfl ?_
                  refine ar_iconst (k := 27) rfl ?_
                  refine ar_istore (k := 28) (l2 := [(9, _), (7, _), (5, _), (0, _), (1, _), (2, _), (3, _), (4, _)]) rfl (by decide) rfl ?_
                  refine ar_sub (l2 := [(9, vi ((0 : Nat) : Int)), (5, vl 1), (7, vl 1), (1, vi p), (2, vi q), (3, vi m), (4, vi w)]) (tw_s (tw_e 0 rfl (by rfl)) (tw_s (tw_g 2 rfl) (tw_s (tw_g 1 rfl) (tw_s (tw_g 4 rfl) (tw_s (tw_g 5 rfl) (tw_s (tw_g 6 rfl) (tw_s (tw_g 7 rfl) tw_s0))))))) ?_
                  exact l_T_once (by omega) (by omega) (by omega) (by omega) m.toNat 0 1 1 (by omega) rfl rfl
                · refine ar_ldc2 (k := 21) (z := -9223372036854775808) rfl cnT_237 rfl ?_
                  refine ar_lret (k := 22) rfl rfl rfl (Nat.le_refl _) ?_
                  unfold rOnce
                  rw [if_pos (by omega)]
                  exact ⟨rfl, rfl⟩
end CT
