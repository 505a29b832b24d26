theorem klP_9 : Cond.classLink "TwinTools$Plan" 9 "TwinTools$World" ∈ tw_tbl := tw_in 206 (by decide +kernel) rfl
theorem klP_27 : Cond.classLink "TwinTools$Plan" 27 "[[I" ∈ tw_tbl := tw_in 208 (by decide +kernel) rfl
theorem cnP_146 : Cond.constant mP_reckonSets.1.cls 146 (16777215) ∈ tw_tbl := tw_in 751 (by decide +kernel) rfl
theorem cnV_140 : Cond.constant mV_holdsWhen.1.cls 140 (16777215) ∈ tw_tbl := tw_in 745 (by decide +kernel) rfl
theorem klW_19 : Cond.classLink "TwinTools$World" 19 "TwinTools$Valley" ∈ tw_tbl := tw_in 107 (by decide +kernel) rfl
theorem klW_28 : Cond.classLink "TwinTools$World" 28 "TwinTools$Hand" ∈ tw_tbl := tw_in 109 (by decide +kernel) rfl
theorem klT_11 : Cond.classLink "TwinTools" 11 "TwinTools$World" ∈ tw_tbl := tw_in 101 (by decide +kernel) rfl
theorem klT_25 : Cond.classLink "TwinTools" 25 "TwinTools$Plan" ∈ tw_tbl := tw_in 200 (by decide +kernel) rfl
theorem klT_32 : Cond.classLink "TwinTools" 32 "TwinTools$Trace" ∈ tw_tbl := tw_in 283 (by decide +kernel) rfl
theorem klT_39 : Cond.classLink "TwinTools" 39 "TwinTools$Valley" ∈ tw_tbl := tw_in 298 (by decide +kernel) rfl
theorem cnT_80 : Cond.constant mT_free.1.cls 80 (16777215) ∈ tw_tbl := tw_in 667 (by decide +kernel) rfl
theorem klT_95 : Cond.classLink "TwinTools" 95 "TwinTools$Told" ∈ tw_tbl := tw_in 636 (by decide +kernel) rfl
theorem cnT_237 : Cond.constantLong mT_once.1.cls 237 (-9223372036854775808) ∈ tw_tbl := tw_in 1044 (by decide +kernel) rfl
theorem cnT_239 : Cond.constantLong mT_once.1.cls 239 (100) ∈ tw_tbl := tw_in 1045 (by decide +kernel) rfl
theorem klT_284 : Cond.classLink "TwinTools" 284 "TwinTools$Bell" ∈ tw_tbl := tw_in 546 (by decide +kernel) rfl
theorem klT_289 : Cond.classLink "TwinTools" 289 "TwinTools$Home" ∈ tw_tbl := tw_in 592 (by decide +kernel) rfl
theorem klT_292 : Cond.classLink "TwinTools" 292 "TwinTools$Guessing" ∈ tw_tbl := tw_in 603 (by decide +kernel) rfl
theorem klT_295 : Cond.classLink "TwinTools" 295 "TwinTools$Lifting" ∈ tw_tbl := tw_in 614 (by decide +kernel) rfl
theorem klT_298 : Cond.classLink "TwinTools" 298 "TwinTools$Late" ∈ tw_tbl := tw_in 625 (by decide +kernel) rfl
theorem klT_141 : Cond.classLink "TwinTools" 141 "TwinTools$Hand" ∈ tw_tbl := tw_in 647 (by decide +kernel) rfl
theorem cnJ6_265 : Cond.constant mJ6_bitCount.1.cls 265 (1431655765) ∈ tw_tbl := tw_in 671 (by decide +kernel) rfl
theorem cnJ6_266 : Cond.constant mJ6_bitCount.1.cls 266 (858993459) ∈ tw_tbl := tw_in 672 (by decide +kernel) rfl
theorem cnJ6_267 : Cond.constant mJ6_bitCount.1.cls 267 (252645135) ∈ tw_tbl := tw_in 673 (by decide +kernel) rfl
theorem lvJ0_633 : tw_LV "java/lang/String" 633 mJ0_indexOf2 "java/lang/String" 2 := ⟨⟨tw_in 461 (by decide +kernel) rfl, tw_in 462 (by decide +kernel) rfl, tw_in 463 (by decide +kernel) rfl, tw_in 79 (by decide +kernel) rfl, tw_in 464 (by decide +kernel) rfl⟩, rfl, ⟨by decide, by decide, by decide⟩⟩
theorem lvJ0_505 : tw_LV "java/lang/String" 505 mJ0_length "java/lang/String" 0 := ⟨⟨tw_in 465 (by decide +kernel) rfl, tw_in 393 (by decide +kernel) rfl, tw_in 394 (by decide +kernel) rfl, tw_in 79 (by decide +kernel) rfl, tw_in 395 (by decide +kernel) rfl⟩, rfl, ⟨by decide, by decide, by decide⟩⟩
theorem lsJ0_637 : tw_LS "java/lang/String" 637 mJ1_indexOf 4 := ⟨⟨tw_in 466 (by decide +kernel) rfl, tw_in 467 (by decide +kernel) rfl, tw_in 80 (by decide +kernel) rfl, tw_in 468 (by decide +kernel) rfl⟩, ⟨by decide, by decide, by decide⟩⟩
theorem lsJ1_88 : tw_LS "java/lang/StringLatin1" 88 mJ1_canEncode 1 := ⟨⟨tw_in 469 (by decide +kernel) rfl, tw_in 470 (by decide +kernel) rfl, tw_in 80 (by decide +kernel) rfl, tw_in 471 (by decide +kernel) rfl⟩, ⟨by decide, by decide, by decide⟩⟩
theorem lsJ1_92 : tw_LS "java/lang/StringLatin1" 92 mJ9_max 2 := ⟨⟨tw_in 472 (by decide +kernel) rfl, tw_in 473 (by decide +kernel) rfl, tw_in 77 (by decide +kernel) rfl, tw_in 474 (by decide +kernel) rfl⟩, ⟨by decide, by decide, by decide⟩⟩
theorem lsJ1_38 : tw_LS "java/lang/StringLatin1" 38 mJ9_min 2 := ⟨⟨tw_in 475 (by decide +kernel) rfl, tw_in 374 (by decide +kernel) rfl, tw_in 77 (by decide +kernel) rfl, tw_in 375 (by decide +kernel) rfl⟩, ⟨by decide, by decide, by decide⟩⟩
theorem lsJ1_95 : tw_LS "java/lang/StringLatin1" 95 mJ1_indexOfChar 4 := ⟨⟨tw_in 476 (by decide +kernel) rfl, tw_in 477 (by decide +kernel) rfl, tw_in 80 (by decide +kernel) rfl, tw_in 478 (by decide +kernel) rfl⟩, ⟨by decide, by decide, by decide⟩⟩
section JX
variable {l : Launch} {G : tG} {h : tH} {K : Nat → Nat × Nat} {I : Nat → Int → Int} {Q : Nat → Int → Option Nat} {n : Nat}
theorem c_J9_max {a b : Int} (ha : tr a) (hb : tr b) : tw_F l G 1 0 0 mJ9_max [vi a, vi b] h (some (vi (max a b))) h := by
  refine tw_introF okJ9_max (Nat.le_of_ble_eq_true rfl) ?_
  refine ar_iloadn (k := 0) rfl rfl ?_
  refine ar_iloadn (k := 1) rfl rfl ?_
  refine ar_icmp_lt (k := 2) rfl (by omega) (by omega) (fun c2 => ?_) (fun c2 => ?_)
  · refine ar_iloadn (k := 5) rfl rfl ?_
    refine ar_iret (k := 6) rfl rfl rfl (Nat.le_refl _) ?_
    exact ⟨congrArg (fun z => some (vi z)) (by omega), rfl⟩
  · refine ar_iloadn (k := 3) rfl rfl ?_
    refine ar_goto (k := 4) rfl ?_
    refine ar_iret (k := 6) rfl rfl rfl (Nat.le_refl _) ?_
    exact ⟨congrArg (fun z => some (vi z)) (by omega), rfl⟩
theorem c_J9_min {a b : Int} (ha : tr a) (hb : tr b) : tw_F l G 1 0 0 mJ9_min [vi a, vi b] h (some (vi (min a b))) h := by
  refine tw_introF okJ9_min (Nat.le_of_ble_eq_true rfl) ?_
  refine ar_iloadn (k := 0) rfl rfl ?_
  refine ar_iloadn (k := 1) rfl rfl ?_
  refine ar_icmp_gt (k := 2) rfl (by omega) (by omega) (fun c2 => ?_) (fun c2 => ?_)
  · refine ar_iloadn (k := 5) rfl rfl ?_
    refine ar_iret (k := 6) rfl rfl rfl (Nat.le_refl _) ?_
    exact ⟨congrArg (fun z => some (vi z)) (by omega), rfl⟩
  · refine ar_iloadn (k := 3) rfl rfl ?_
    refine ar_goto (k := 4) rfl ?_
    refine ar_iret (k := 6) rfl rfl rfl (Nat.le_refl _) ?_
    exact ⟨congrArg (fun z => some (vi z)) (by omega), rfl⟩
theorem xor24 : ∀ a : Nat, a < 34 → (0 ≤ bXor ((a : Int) - 10) 24 ↔ 10 ≤ a) := by decide +kernel
theorem c_J9_floorMod {a : Int} (ha : -10 ≤ a ∧ a < 24) : tw_F l G 1 0 0 mJ9_floorMod [vi a, vi 24] h (some (vi (if a < 0 then a + 24 else a))) h := by
  have hx := xor24 (a + 10).toNat (by omega)
  rw [show (((a + 10).toNat : Nat) : Int) - 10 = a by omega] at hx
  have hq : tr (bXor a 24) := tr_toInt _
  have hm : a.tmod 24 = a := by
    rcases (show a < 0 ∨ 0 ≤ a by omega) with q | q
    · obtain ⟨m, rfl⟩ : ∃ m : Nat, a = -(m : Int) := ⟨(-a).toNat, by omega⟩
      rw [Int.neg_tmod, Int.tmod_eq_of_lt (by omega) (by omega)]
    · exact Int.tmod_eq_of_lt q (by omega)
  refine tw_introF okJ9_floorMod (Nat.le_of_ble_eq_true rfl) ?_
  refine ar_iloadn (k := 0) rfl rfl ?_
  refine ar_iloadn (k := 1) rfl rfl ?_
  refine ar_irem (k := 2) rfl (by omega) (by omega) (by omega) ?_
  refine tw_top (y := a) (by exact hm) ?_
  refine ar_istoren (k := 3) (l2 := [(2, _), (0, _), (1, _)]) rfl (by decide) rfl ?_
  refine ar_iloadn (k := 4) rfl rfl ?_
  refine ar_iloadn (k := 5) rfl rfl ?_
  refine ar_ixor (k := 6) rfl ?_
  refine ar_if_ge (k := 7) rfl (by omega) (fun c7 => ?_) (fun c7 => ?_)
  · refine ar_iloadn (k := 14) rfl rfl ?_
    refine ar_iret (k := 15) rfl rfl rfl (Nat.le_refl _) ?_
    first
      | exact ⟨congrArg (fun z => some (vi z)) (by omega), rfl⟩
      | (exfalso; omega)
  · refine ar_iloadn (k := 8) rfl rfl ?_
    refine ar_if_eq (k := 9) rfl (by omega) (fun c9 => ?_) (fun c9 => ?_)
    · refine ar_iloadn (k := 14) rfl rfl ?_
      refine ar_iret (k := 15) rfl rfl rfl (Nat.le_refl _) ?_
      first
        | exact ⟨congrArg (fun z => some (vi z)) (by omega), rfl⟩
        | (exfalso; omega)
    · refine ar_iloadn (k := 10) rfl rfl ?_
      refine ar_iloadn (k := 11) rfl rfl ?_
      refine ar_iadd (k := 12) rfl ?_
      refine ar_iret (k := 13) rfl rfl rfl (Nat.le_refl _) ?_
      first
        | exact ⟨congrArg (fun z => some (vi z)) (by omega), rfl⟩
        | (exfalso; omega)
def bc1 (x : Int) : Int := x - bAnd (bUsh x 1) 1431655765
def bc2 (x : Int) : Int := bAnd x 858993459 + bAnd (bUsh x 2) 858993459
def bc3 (x : Int) : Int := bAnd (x + bUsh x 4) 252645135
def bc4 (x : Int) : Int := x + bUsh x 8
def bc5 (x : Int) : Int := x + bUsh x 16
def bcn (x : Int) : Int := bAnd (bc5 (bc4 (bc3 (bc2 (bc1 x))))) 63
theorem c_J6_bitCount {x : Int} : tw_F l G 1 0 0 mJ6_bitCount [vi x] h (some (vi (bcn x))) h := by
  refine tw_intro okJ6_bitCount (Nat.le_of_ble_eq_true rfl) ?_
  refine ar_iloadn (k := 0) rfl rfl ?_
  refine ar_iloadn (k := 1) rfl rfl ?_
  refine ar_iconst (k := 2) rfl ?_
  refine ar_iushr (k := 3) rfl ?_
  refine ar_ldcw (k := 4) (z := 1431655765) rfl cnJ6_265 rfl ?_
  refine ar_iand (k := 5) rfl ?_
  refine ar_isub (k := 6) rfl ?_
  refine ar_istoren (k := 7) (l2 := [(0, _)]) rfl (by decide) rfl ?_
  refine ar_iloadn (k := 8) rfl rfl ?_
  refine ar_ldcw (k := 9) (z := 858993459) rfl cnJ6_266 rfl ?_
  refine ar_iand (k := 10) rfl ?_
  refine ar_iloadn (k := 11) rfl rfl ?_
  refine ar_iconst (k := 12) rfl ?_
  refine ar_iushr (k := 13) rfl ?_
  refine ar_ldcw (k := 14) (z := 858993459) rfl cnJ6_266 rfl ?_
  refine ar_iand (k := 15) rfl ?_
  refine ar_iadd (k := 16) rfl ?_
  refine ar_istoren (k := 17) (l2 := [(0, _)]) rfl (by decide) rfl ?_
  refine ar_iloadn (k := 18) rfl rfl ?_
  refine ar_iloadn (k := 19) rfl rfl ?_
  refine ar_iconst (k := 20) rfl ?_
  refine ar_iushr (k := 21) rfl ?_
  refine ar_iadd (k := 22) rfl ?_
  refine ar_ldcw (k := 23) (z := 252645135) rfl cnJ6_267 rfl ?_
  refine ar_iand (k := 24) rfl ?_
  refine ar_istoren (k := 25) (l2 := [(0, _)]) rfl (by decide) rfl ?_
  refine ar_iloadn (k := 26) rfl rfl ?_
  refine ar_iloadn (k := 27) rfl rfl ?_
  refine ar_bipush (k := 28) rfl (by decide) ?_
  refine ar_iushr (k := 29) rfl ?_
  refine ar_iadd (k := 30) rfl ?_
  refine ar_istoren (k := 31) (l2 := [(0, _)]) rfl (by decide) rfl ?_
  refine ar_iloadn (k := 32) rfl rfl ?_
  refine ar_iloadn (k := 33) rfl rfl ?_
  refine ar_bipush (k := 34) rfl (by decide) ?_
  refine ar_iushr (k := 35) rfl ?_
  refine ar_iadd (k := 36) rfl ?_
  refine ar_istoren (k := 37) (l2 := [(0, _)]) rfl (by decide) rfl ?_
  refine ar_iloadn (k := 38) rfl rfl ?_
  refine ar_bipush (k := 39) rfl (by decide) ?_
  refine ar_iand (k := 40) rfl ?_
  refine ar_iret (k := 41) rfl rfl rfl (Nat.le_refl _) ?_
  exact ⟨rfl, rfl⟩
theorem bcn_10N : ∀ x : Nat, x < 1024 → bcn (x : Int) = rCnt (x : Int) := by decide +kernel
theorem bcn_10 {x : Int} (h : 0 ≤ x ∧ x < 1024) : bcn x = rCnt x := by
  have := bcn_10N x.toNat (by omega)
  rwa [show ((x.toNat : Nat) : Int) = x by omega] at this
/-- a row filled with one number -/
def fillN (a : Nat) (x : Int) : Nat → Nat → (Nat → Int → Int) → Nat → Int → Int
  | 0, _, I => I
  | k + 1, j, I => fillN a x k (j + 1) (uI I a (j : Int) x)
theorem fillN_off {a b : Nat} {x : Int} (hb : b ≠ a) : ∀ (k j : Nat) (I : Nat → Int → Int), fillN a x k j I b = I b
  | 0, _, _ => rfl
  | k + 1, j, I => by rw [fillN, fillN_off hb k (j + 1), uI_off _ _ _ hb]
theorem fillN_lo {a : Nat} {x : Int} {i : Int} : ∀ (k j : Nat) (I : Nat → Int → Int), (i < j ∨ (j + k : Nat) ≤ i) → fillN a x k j I a i = I a i
  | 0, _, _, _ => rfl
  | k + 1, j, I, h => by rw [fillN, fillN_lo k (j + 1) _ (by omega), uI_at, if_neg (by omega)]
theorem fillN_at {a : Nat} {x : Int} {i : Int} : ∀ (k j : Nat) (I : Nat → Int → Int), (j : Int) ≤ i → i < (j + k : Nat) → fillN a x k j I a i = x
  | 0, j, I, h1, h2 => by omega
  | k + 1, j, I, h1, h2 => by
    rw [fillN]
    by_cases g : i = (j : Int)
    · rw [fillN_lo k (j + 1) _ (by omega), uI_at, if_pos g]
    · exact fillN_at k (j + 1) _ (by omega) (by omega)
theorem l_J7_fill {a N : Nat} {x : Int} (hN : N < 10000) (ha : tK (K, I, Q, n) a (14, N)) : ∀ (k : Nat) (j : Nat) (J : Nat → Int → Int), j + k = N → tw_AW l G mJ7_fill 1 0 0 n 0 (tw_fn none (K, fillN a x k j J, Q, n)) 5 [(2, vi (j : Int)), (0, vr (some a)), (1, vi x), (3, vi (N : Int))] [] (K, J, Q, n) := by
  intro k
  induction k with
  | zero =>
    intro j J hj
    refine ar_iloadn (k := 5) rfl rfl ?_
    refine ar_iloadn (k := 6) rfl rfl ?_
    refine ar_icmp_ge (k := 7) rfl (by omega) (by omega) (fun c7 => ?_) (fun c7 => ?_)
    · refine ar_ret (k := 14) rfl rfl rfl (Nat.le_refl _) ?_
      exact ⟨rfl, rfl⟩
    · exfalso; omega
  | succ k ih =>
    intro j J hj
    refine ar_iloadn (k := 5) rfl rfl ?_
    refine ar_iloadn (k := 6) rfl rfl ?_
    refine ar_icmp_ge (k := 7) rfl (by omega) (by omega) (fun c7 => ?_) (fun c7 => ?_)
    · exfalso; omega
    · refine ar_aloadn (k := 8) rfl rfl ?_
      refine ar_iloadn (k := 9) rfl rfl ?_
      refine ar_iloadn (k := 10) rfl rfl ?_
      refine br_iast (k := 11) rfl ha (by omega) (by omega) (by omega) ?_
      refine ar_iinc (k := 12) (l2 := [(2, _), (0, _), (1, _), (3, _)]) rfl (by decide) rfl rfl ?_
      refine ar_goto (k := 13) rfl ?_
      refine ar_sub (l2 := [(2, vi ((j + 1 : Nat) : Int)), (0, vr (some a)), (1, vi x), (3, vi (N : Int))]) (tw_s (tw_e 0 rfl (by omega)) (tw_s (tw_g 1 rfl) (tw_s (tw_g 2 rfl) (tw_s (tw_g 3 rfl) tw_s0)))) ?_
      exact ih (j + 1) _ (by omega)
theorem c_J7_fill {a N : Nat} {x : Int} (hN : N < 10000) (ha : tK (K, I, Q, n) a (14, N)) : tw_F l G 1 0 0 mJ7_fill [vr (some a), vi x] (K, I, Q, n) none (K, fillN a x N 0 I, Q, n) := by
  refine tw_intro okJ7_fill (Nat.le_of_ble_eq_true rfl) ?_
  refine ar_iconst (k := 0) rfl ?_
  refine ar_istoren (k := 1) (l2 := [(2, _), (0, _), (1, _)]) rfl (by decide) rfl ?_
  refine ar_aloadn (k := 2) rfl rfl ?_
  refine br_alen (k := 3) rfl ha (by decide) (by decide) ?_
  refine ar_istoren (k := 4) (l2 := [(3, _), (2, _), (0, _), (1, _)]) rfl (by decide) rfl ?_
  refine ar_sub (l2 := [(2, vi ((0 : Nat) : Int)), (0, vr (some a)), (1, vi x), (3, vi (N : Int))]) (tw_s (tw_e 1 rfl (by rfl)) (tw_s (tw_g 2 rfl) (tw_s (tw_g 3 rfl) (tw_s (tw_g 0 rfl) tw_s0)))) ?_
  exact l_J7_fill hN ha N 0 I (by omega)
end JX
section JS
variable {l : Launch} {G : tG} {h : tH}
theorem sN_pos : ∀ j, j < 6 → 0 < sN j := by decide
/-- where a sign stands in a string constant -/
def sIx (j : Nat) (x : Int) : Int := fstD (-1) (fun i => decide (x = sB j (i : Int))) (sN j) 0
theorem l_J1_indexOfChar {j : Nat} {x : Int} (hj : j < 6) (hx : 0 ≤ x ∧ x ≤ 127) : ∀ (k i : Nat), i + k = sN j → tw_AW l G mJ1_indexOfChar 1 0 0 h.2.2.2 0 (tw_fn (some (vi (fstD (-1) (fun i => decide (x = sB j (i : Int))) k i))) h) 7 [(5, vi (i : Int)), (4, vi x), (0, vr (some (2000000 + j))), (3, vi (sN j : Int))] [] h := by
  have hl6 := sN_all j hj
  intro k
  induction k with
  | zero =>
    intro i hi
    refine ar_iload (k := 5) rfl rfl ?_
    refine ar_iloadn (k := 6) rfl rfl ?_
    refine ar_icmp_ge (k := 7) rfl (by omega) (by omega) (fun c => ?_) (fun c => by exfalso; omega)
    refine ar_iconst (k := 17) rfl ?_
    refine ar_iret (k := 18) rfl rfl rfl (Nat.le_refl _) ?_
    exact ⟨rfl, rfl⟩
  | succ k ih =>
    intro i hi
    have hb := sB_all j hj i (by omega)
    refine ar_iload (k := 5) rfl rfl ?_
    refine ar_iloadn (k := 6) rfl rfl ?_
    refine ar_icmp_ge (k := 7) rfl (by omega) (by omega) (fun c => by exfalso; omega) (fun c => ?_)
    refine ar_aloadn (k := 8) rfl rfl ?_
    refine ar_iload (k := 9) rfl rfl ?_
    refine ar_sld (k := 10) rfl hj (by omega) (by omega) ?_
    refine ar_iload (k := 11) rfl rfl ?_
    refine ar_icmp_ne (k := 12) rfl (by omega) (by omega) (fun c => ?_) (fun c => ?_)
    · refine ar_iinc (k := 15) (l2 := [(5, _), (4, _), (0, _), (3, _)]) rfl (by decide) rfl rfl ?_
      refine ar_goto (k := 16) rfl ?_
      refine ar_sub (l2 := [(5, vi ((i + 1 : Nat) : Int)), (4, vi x), (0, vr (some (2000000 + j))), (3, vi (sN j : Int))]) (tw_s (tw_e 0 rfl (by omega)) (tw_s (tw_g 1 rfl) (tw_s (tw_g 2 rfl) (tw_s (tw_g 3 rfl) tw_s0)))) ?_
      have := ih (i + 1) (by omega)
      rw [fstD, if_neg (by simp; omega)]
      exact this
    · refine ar_iload (k := 13) rfl rfl ?_
      refine ar_iret (k := 14) rfl rfl rfl (Nat.le_refl _) ?_
      exact ⟨by rw [fstD, if_pos (by simp; omega)], rfl⟩
theorem c_J1_indexOfChar {j : Nat} {x : Int} (hj : j < 6) (hx : 0 ≤ x ∧ x ≤ 127) : tw_F l G 1 0 0 mJ1_indexOfChar [vr (some (2000000 + j)), vi x, vi 0, vi (sN j : Int)] h (some (vi (sIx j x))) h := by
  refine tw_intro okJ1_indexOfChar (Nat.le_of_ble_eq_true rfl) ?_
  refine ar_iloadn (k := 0) rfl rfl ?_
  refine ar_i2b (k := 1) rfl (by omega) ?_
  refine ar_istore (k := 2) (l2 := [(4, _), (0, _), (1, _), (2, _), (3, _)]) rfl (by decide) rfl ?_
  refine ar_iloadn (k := 3) rfl rfl ?_
  refine ar_istore (k := 4) (l2 := [(5, _), (4, _), (0, _), (1, _), (2, _), (3, _)]) rfl (by decide) rfl ?_
  refine ar_sub (l2 := [(5, vi ((0 : Nat) : Int)), (4, vi x), (0, vr (some (2000000 + j))), (3, vi (sN j : Int))]) (tw_s (tw_e 0 rfl rfl) (tw_s (tw_g 1 rfl) (tw_s (tw_g 2 rfl) (tw_s (tw_g 5 rfl) tw_s0)))) ?_
  exact l_J1_indexOfChar hj hx (sN j) 0 (by omega)
theorem c_J1_canEncode {x : Int} (hx : 0 ≤ x ∧ x ≤ 127) : tw_F l G 1 0 0 mJ1_canEncode [vi x] h (some (vi 1)) h := by
  refine tw_intro okJ1_canEncode (Nat.le_of_ble_eq_true rfl) ?_
  refine ar_iloadn (k := 0) rfl rfl ?_
  refine ar_if_lt (k := 1) rfl (by omega) (fun c => by exfalso; omega) (fun c => ?_)
  refine ar_iloadn (k := 2) rfl rfl ?_
  refine ar_sipush (k := 3) rfl (by decide) ?_
  refine ar_icmp_gt (k := 4) rfl (by omega) (by omega) (fun c => by exfalso; omega) (fun c => ?_)
  refine ar_iconst (k := 5) rfl ?_
  refine ar_goto (k := 6) rfl ?_
  refine ar_zret (k := 8) rfl rfl (by omega) rfl (Nat.le_refl _) ?_
  exact ⟨rfl, rfl⟩
theorem c_J1_indexOf {j : Nat} {x : Int} (hj : j < 6) (hx : 0 ≤ x ∧ x ≤ 127) : tw_F l G 2 0 0 mJ1_indexOf [vr (some (2000000 + j)), vi x, vi 0, vi (sN j : Int)] h (some (vi (sIx j x))) h := by
  have hl6 := sN_all j hj
  have hp6 := sN_pos j hj
  refine tw_intro okJ1_indexOf (Nat.le_of_ble_eq_true rfl) ?_
  refine ar_iloadn (k := 0) rfl rfl ?_
  refine br_callS (k := 1) (as := [_]) rfl lsJ1_88 (c_J1_canEncode hx) rfl (by decide) (by decide) tw_m0 (Nat.le_of_ble_eq_true rfl) ?_
  refine ar_if_ne (k := 2) rfl (by omega) (fun c => ?_) (fun c => by exfalso; exact c (by decide))
  refine ar_iloadn (k := 5) rfl rfl ?_
  refine ar_iconst (k := 6) rfl ?_
  refine br_callS (k := 7) (as := [_, _]) rfl lsJ1_92 (c_J9_max (by omega) (by omega)) rfl (by decide) (by decide) tw_m0 (Nat.le_of_ble_eq_true rfl) ?_
  refine ar_istoren (k := 8) (l2 := [(2, _), (0, _), (1, _), (3, _)]) rfl (by decide) rfl ?_
  refine ar_iloadn (k := 9) rfl rfl ?_
  refine ar_aloadn (k := 10) rfl rfl ?_
  refine ar_slen (k := 11) rfl hj ?_
  refine br_callS (k := 12) (as := [_, _]) rfl lsJ1_38 (c_J9_min (by omega) (by omega)) rfl (by decide) (by decide) tw_m0 (Nat.le_of_ble_eq_true rfl) ?_
  refine ar_istoren (k := 13) (l2 := [(3, _), (2, _), (0, _), (1, _)]) rfl (by decide) rfl ?_
  refine ar_iloadn (k := 14) rfl rfl ?_
  refine ar_iloadn (k := 15) rfl rfl ?_
  refine ar_icmp_lt (k := 16) rfl (by omega) (by omega) (fun c => ?_) (fun c => by exfalso; omega)
  refine ar_aloadn (k := 19) rfl rfl ?_
  refine ar_iloadn (k := 20) rfl rfl ?_
  refine ar_iloadn (k := 21) rfl rfl ?_
  refine ar_iloadn (k := 22) rfl rfl ?_
  refine tw_st (st' := [vi (sN j : Int), vi 0, vi x, vr (some (2000000 + j))]) (by rw [show min (sN j : Int) (sN j : Int) = (sN j : Int) by omega, show max (0 : Int) 0 = 0 by omega]; rfl) ?_
  refine br_callS (k := 23) (as := [_, _, _, _]) rfl lsJ1_95 (c_J1_indexOfChar hj hx) rfl (by decide) (by decide) tw_m0 (Nat.le_of_ble_eq_true rfl) ?_
  refine ar_iret (k := 24) rfl rfl rfl (Nat.le_refl _) ?_
  exact ⟨rfl, rfl⟩
theorem c_J0_indexOf2 {j : Nat} {x : Int} (hj : j < 6) (hx : 0 ≤ x ∧ x ≤ 127) : tw_F l G 3 0 0 mJ0_indexOf2 [vr (some (1000000 + j)), vi x, vi 0] h (some (vi (sIx j x))) h := by
  refine tw_intro okJ0_indexOf2 (Nat.le_of_ble_eq_true rfl) ?_
  refine ar_aloadn (k := 0) rfl rfl ?_
  refine br_callVS (k := 1) (as := []) rfl lvJ0_492 hj (c_J0_isLatin1 hj) rfl (by decide) (by decide) tw_m0 (Nat.le_of_ble_eq_true rfl) ?_
  refine ar_if_eq (k := 2) rfl (by omega) (fun c => absurd c (by decide)) (fun _ => ?_)
  refine ar_aloadn (k := 3) rfl rfl ?_
  refine ar_sgetV (k := 4) rfl jf_9 hj ?_
  refine ar_iloadn (k := 5) rfl rfl ?_
  refine ar_iloadn (k := 6) rfl rfl ?_
  refine ar_aloadn (k := 7) rfl rfl ?_
  refine br_callVS (k := 8) (as := []) rfl lvJ0_505 hj (c_J0_length hj) rfl (by decide) (by decide) tw_m0 (Nat.le_of_ble_eq_true rfl) ?_
  refine br_callS (k := 9) (as := [_, _, _, _]) rfl lsJ0_637 (c_J1_indexOf hj hx) rfl (by decide) (by decide) tw_m0 (Nat.le_of_ble_eq_true rfl) ?_
  refine ar_goto (k := 10) rfl ?_
  refine ar_iret (k := 18) rfl rfl rfl (Nat.le_refl _) ?_
  exact ⟨rfl, rfl⟩
theorem c_J0_indexOf {j : Nat} {x : Int} (hj : j < 6) (hx : 0 ≤ x ∧ x ≤ 127) : tw_F l G 4 0 0 mJ0_indexOf [vr (some (1000000 + j)), vi x] h (some (vi (sIx j x))) h := by
  refine tw_intro okJ0_indexOf (Nat.le_of_ble_eq_true rfl) ?_
  refine ar_aloadn (k := 0) rfl rfl ?_
  refine ar_iloadn (k := 1) rfl rfl ?_
  refine ar_iconst (k := 2) rfl ?_
  refine br_callVS (k := 3) (as := [_, _]) rfl lvJ0_633 hj (c_J0_indexOf2 hj hx) rfl (by decide) (by decide) tw_m0 (Nat.le_of_ble_eq_true rfl) ?_
  refine ar_iret (k := 4) rfl rfl rfl (Nat.le_refl _) ?_
  exact ⟨rfl, rfl⟩
end JS
