/-- the plan's bits, and its worths -/
def PB (I : Nat → Int → Int) (s : Int → Int) : Prop :=
  I 40 2 = rBell s ∧
  (∀ p : Nat, p < 8 → ∀ j, j < 32 → ib (I 52 (p : Int)) j = decide ((j : Int) < s 1 ∧ s (84 + (j : Int)) = (p : Int))) ∧
  (∀ p : Nat, p < 8 → ∀ j, j < 32 → ib (I 53 (p : Int)) j = decide ((j : Int) < s 1 ∧ s (94 + (j : Int)) ≠ -1 ∧ s (84 + s (94 + (j : Int))) = (p : Int))) ∧
  (∀ j, j < 32 → ib (I 40 6) j = decide ((j : Int) < s 1 ∧ s (94 + (j : Int)) ≠ -1 ∧ s (104 + (j : Int)) = 0)) ∧
  (∀ j, j < 32 → ib (I 40 7) j = decide ((j : Int) < s 1 ∧ s (94 + (j : Int)) ≠ -1 ∧ s (26 + s (84 + (j : Int))) = s (26 + s (84 + s (94 + (j : Int)))))) ∧
  (∀ t : Int, 0 ≤ t → t < s 1 → s (94 + t) ≠ -1 → ∀ u : Int, 0 ≤ u → u < 24 → I (42 + t.toNat) u = rWorth s t u)
/-- the pairs, by their lesser tools -/
def prsN (s : Int → Int) : Nat → Nat → List Nat
  | 0, _ => []
  | k + 1, t => if (t : Int) < s (94 + (t : Int)) then t :: prsN s k (t + 1) else prsN s k (t + 1)
def prs (s : Int → Int) : List Nat := prsN s (s 1).toNat 0
def PR (I : Nat → Int → Int) (s : Int → Int) : Prop := I 40 11 = ((prs s).length : Int) ∧ (prs s).length ≤ 5 ∧ ∀ i : Nat, i < (prs s).length → I 54 (i : Int) = (((prs s).getD i 0 : Nat) : Int)
def n5' (x : Int) : Int := if x = -1 then -5 else x
theorem fstD_cg {p q : Nat → Bool} {m : Nat} {d : Int} (h : ∀ i, i < m → p i = q i) : ∀ (k j : Nat), j + k ≤ m → fstD d p k j = fstD d q k j
  | 0, _, _ => rfl
  | k + 1, j, hk => by rw [fstD, fstD, h j (by omega), fstD_cg h k (j + 1) (by omega)]
theorem fstD_d {p : Nat → Bool} {d : Int} : ∀ (k j : Nat), fstD d p k j = if fstD (-1) p k j = -1 then d else fstD (-1) p k j
  | 0, _ => by rw [fstD, fstD, if_pos rfl]
  | k + 1, j => by
    rw [fstD, fstD]
    by_cases h : p j = true
    · rw [if_pos h, if_pos h, if_neg (by omega)]
    · rw [if_neg h, if_neg h]; exact fstD_d k (j + 1)
theorem fstD_n5 {p : Nat → Bool} (k j : Nat) : fstD (-5) p k j = n5' (fstD (-1) p k j) := fstD_d k j
theorem orV_any {g : Nat → Int} {i : Nat} : ∀ (k j : Nat) (a : Int), ib (orV g k j a) i = true ↔ (ib a i = true ∨ ∃ t, j ≤ t ∧ t < j + k ∧ ib (g t) i = true)
  | 0, j, a => ⟨fun h => Or.inl h, fun h => h.elim id (fun ⟨t, t1, t2, _⟩ => by omega)⟩
  | k + 1, j, a => by
    rw [orV, orV_any k (j + 1), ib_or, Bool.or_eq_true]
    constructor
    · rintro ((h | h) | ⟨t, t1, t2, t3⟩)
      · exact Or.inl h
      · exact Or.inr ⟨j, by omega, by omega, h⟩
      · exact Or.inr ⟨t, by omega, by omega, t3⟩
    · rintro (h | ⟨t, t1, t2, t3⟩)
      · exact Or.inl (Or.inl h)
      · by_cases e : t = j
        · subst e; exact Or.inl (Or.inr t3)
        · exact Or.inr ⟨t, by omega, by omega, t3⟩
section CP
variable {l : Launch} {G : tG} {K : Nat → Nat × Nat} {I : Nat → Int → Int} {Q : Nat → Int → Option Nat} {n : Nat} {s : Int → Int}
theorem c_W_isFree {p u : Int} (hS : tSt (K, I, Q, n)) (hN : WN 1 I s) (hR : RInv s) (p1 : 0 ≤ p ∧ p < s 0) : tw_F l G 1 0 0 mW_isFree [vr (some 1), vi p, vi u] (K, I, Q, n) (some (vi (if rFreeP s p u then 1 else 0))) (K, I, Q, n) := by
  obtain ⟨h0, h1, h2, h3, h4, h5, h6, hp, hrw, ht, hr, hb, htp, hv⟩ := id hR
  have hb1 := bAnd1 (bShr (s (34 + p)) u)
  refine tw_intro okW_isFree (Nat.le_of_ble_eq_true rfl) ?_
  refine ar_aloadn (k := 0) rfl rfl ?_
  refine br_getR (k := 1) rfl (hS.k (by decide)) flW_37_10 (by decide) rfl (hS.r rfl) ?_
  refine ar_iloadn (k := 2) rfl rfl ?_
  refine br_iald (k := 3) rfl (hS.k (by decide)) (by omega) (by omega) (by decide) ?_
  refine tw_top (WN.fr hN (by omega) (by omega)) ?_
  refine ar_iloadn (k := 4) rfl rfl ?_
  refine ar_ishr (k := 5) rfl ?_
  refine ar_iconst (k := 6) rfl ?_
  refine ar_iand (k := 7) rfl ?_
  refine ar_if_eq (k := 8) rfl (by omega) (fun c8 => ?_) (fun c8 => ?_)
  · refine ar_iconst (k := 11) rfl ?_
    refine ar_zret (k := 12) rfl rfl (by omega) rfl (Nat.le_refl _) ?_
    first
      | exact ⟨congrArg (fun z => some (vi z)) (by omega), rfl⟩
      | (exfalso; omega)
  · refine ar_iconst (k := 9) rfl ?_
    refine ar_goto (k := 10) rfl ?_
    refine ar_zret (k := 12) rfl rfl (by omega) rfl (Nat.le_refl _) ?_
    first
      | exact ⟨congrArg (fun z => some (vi z)) (by omega), rfl⟩
      | (exfalso; omega)
theorem c_P_fitOf {p : Int} (hS : tSt (K, I, Q, n)) (p1 : 0 ≤ p ∧ p < 8) : tw_F l G 1 0 0 mP_fitOf [vr (some 40), vi p] (K, I, Q, n) (some (vi (bAnd (I 52 p) (I 40 6)))) (K, I, Q, n) := by
  refine tw_intro okP_fitOf (Nat.le_of_ble_eq_true rfl) ?_
  refine ar_aloadn (k := 0) rfl rfl ?_
  refine br_getR (k := 1) rfl (hS.k (by decide)) flP_32_6 (by decide) rfl (hS.r rfl) ?_
  refine ar_iloadn (k := 2) rfl rfl ?_
  refine br_iald (k := 3) rfl (hS.k (by decide)) (by omega) (by omega) (by decide) ?_
  refine ar_aloadn (k := 4) rfl rfl ?_
  refine br_getIz (k := 5) (z := 6) rfl (hS.k (by decide)) flP_39_6 (by decide) rfl rfl ?_
  refine ar_iand (k := 6) rfl ?_
  refine ar_iret (k := 7) rfl rfl rfl (Nat.le_refl _) ?_
  exact ⟨rfl, rfl⟩
theorem l_P_least {x : Int} (hS : tSt (K, I, Q, n)) (hq : Q 40 1 = some 1) (hN : WN 1 I s) (hR : RInv s) (hB : PB I s) : ∀ (k : Nat) (j : Nat), j + k = (s 1).toNat → tw_AW l G mP_least 1 0 0 n 0 (tw_fn (some (vi (fstD (-5) (fun j => ib x j) k j))) (K, I, Q, n)) 2 [(2, vi (j : Int)), (0, vr (some 40)), (1, vi x)] [] (K, I, Q, n) := by
  obtain ⟨h0, h1, h2, h3, h4, h5, h6, hp, hrw, ht, hr, hb, htp, hv⟩ := id hR
  intro k
  induction k with
  | zero =>
    intro j hj
    refine ar_iloadn (k := 2) rfl rfl ?_
    refine ar_aloadn (k := 3) rfl rfl ?_
    refine br_getR (k := 4) rfl (hS.k (by decide)) flP_18_6 (by decide) rfl hq ?_
    refine br_getIz (k := 5) (z := 12) rfl (hS.k (by decide)) flP_92_10 (by decide) rfl rfl ?_
    refine tw_top (WN.tc hN) ?_
    refine ar_icmp_ge (k := 6) rfl (by omega) (by omega) (fun c6 => ?_) (fun c6 => ?_)
    · refine ar_bipush (k := 17) rfl (by decide) ?_
      refine ar_iret (k := 18) rfl rfl rfl (Nat.le_refl _) ?_
      exact ⟨rfl, rfl⟩
    · exfalso; omega
  | succ k ih =>
    intro j hj
    refine ar_iloadn (k := 2) rfl rfl ?_
    refine ar_aloadn (k := 3) rfl rfl ?_
    refine br_getR (k := 4) rfl (hS.k (by decide)) flP_18_6 (by decide) rfl hq ?_
    refine br_getIz (k := 5) (z := 12) rfl (hS.k (by decide)) flP_92_10 (by decide) rfl rfl ?_
    refine tw_top (WN.tc hN) ?_
    refine ar_icmp_ge (k := 6) rfl (by omega) (by omega) (fun c6 => ?_) (fun c6 => ?_)
    · exfalso; omega
    · have hb1 := bAnd1 (bShr x (j : Int))
      have hb2 := ib_bit1 x (j := j) (by omega)
      refine ar_iloadn (k := 7) rfl rfl ?_
      refine ar_iloadn (k := 8) rfl rfl ?_
      refine ar_ishr (k := 9) rfl ?_
      refine ar_iconst (k := 10) rfl ?_
      refine ar_iand (k := 11) rfl ?_
      refine ar_if_eq (k := 12) rfl (by omega) (fun c12 => ?_) (fun c12 => ?_)
      · refine ar_iinc (k := 15) (l2 := [(2, _), (0, _), (1, _)]) rfl (by decide) rfl rfl ?_
        refine ar_goto (k := 16) rfl ?_
        refine ar_sub (l2 := [(2, vi ((j + 1 : Nat) : Int)), (0, vr (some 40)), (1, vi x)]) (tw_s (tw_e 0 rfl (by omega)) (tw_s (tw_g 1 rfl) (tw_s (tw_g 2 rfl) tw_s0))) ?_
        rw [fstD, if_neg (fun z => by have := hb2.mpr z; omega)]
        exact ih (j + 1) (by omega)
      · refine ar_iloadn (k := 13) rfl rfl ?_
        refine ar_iret (k := 14) rfl rfl rfl (Nat.le_refl _) ?_
        rw [fstD, if_pos (hb2.mp (by omega))]
        exact ⟨rfl, rfl⟩
theorem c_P_least {x : Int} (hS : tSt (K, I, Q, n)) (hq : Q 40 1 = some 1) (hN : WN 1 I s) (hR : RInv s) (hB : PB I s) : tw_F l G 1 0 0 mP_least [vr (some 40), vi x] (K, I, Q, n) (some (vi (fstD (-5) (fun j => ib x j) (s 1).toNat 0))) (K, I, Q, n) := by
  obtain ⟨h0, h1, h2, h3, h4, h5, h6, hp, hrw, ht, hr, hb, htp, hv⟩ := id hR
  refine tw_intro okP_least (Nat.le_of_ble_eq_true rfl) ?_
  refine ar_iconst (k := 0) rfl ?_
  refine ar_istoren (k := 1) (l2 := [(2, _), (0, _), (1, _)]) rfl (by decide) rfl ?_
  refine ar_sub (l2 := [(2, vi ((0 : Nat) : Int)), (0, vr (some 40)), (1, vi x)]) (tw_s (tw_e 0 rfl (by rfl)) (tw_s (tw_g 1 rfl) (tw_s (tw_g 2 rfl) tw_s0))) ?_
  exact l_P_least hS hq hN hR hB (s 1).toNat 0 (by omega)
theorem fit_of {I : Nat → Int → Int} (hB : PB I s) {p : Int} (p1 : 0 ≤ p ∧ p < 8) {t : Nat} (ht : t < 32) : ib (bAnd (I 52 p) (I 40 6)) t = true ↔ ((t : Int) < s 1 ∧ s (84 + (t : Int)) = p ∧ s (104 + (t : Int)) = 0 ∧ s (94 + (t : Int)) ≠ -1) := by
  obtain ⟨q, rfl⟩ : ∃ q : Nat, p = (q : Int) := ⟨p.toNat, by omega⟩
  rw [ib_and, hB.2.1 q (by omega) t ht, hB.2.2.2.1 t ht, Bool.and_eq_true, decide_eq_true_eq, decide_eq_true_eq]
  constructor
  · rintro ⟨⟨a1, a2⟩, _, a3, a4⟩; exact ⟨a1, a2, a4, a3⟩
  · rintro ⟨a1, a2, a3, a4⟩; exact ⟨⟨a1, a2⟩, a1, a4, a3⟩
theorem l_P_dearest {x p u g : Int} (hS : tSt (K, I, Q, n)) (hq : Q 40 1 = some 1) (hN : WN 1 I s) (hR : RInv s) (hB : PB I s) (hV : RVal s) (u1 : 0 ≤ u ∧ u ≤ 23) (hx : ∀ t : Nat, (t : Int) < s 1 → (ib x t = true ↔ ((s (84 + (t : Int)) = p ∧ s (104 + (t : Int)) = 0 ∧ s (94 + (t : Int)) ≠ -1) ∧ (g = 0 ∨ (s (84 + s (94 + (t : Int))) ≠ p ∧ rFreeP s (s (84 + s (94 + (t : Int)))) u))))) : ∀ (k : Nat) (j : Nat) (b m : Int), j + k = (s 1).toNat → b = -1 ∨ (0 ≤ b ∧ (b < s 1 ∧ s (94 + b) ≠ -1) ∧ rWorth s b u = m) → tw_AW l G mP_dearest 1 0 0 n 0 (tw_fn (some (vi (n5' (bstN s p u g k j b m)))) (K, I, Q, n)) 6 [(4, vi (j : Int)), (3, vi (n5' b)), (0, vr (some 40)), (1, vi x), (2, vi u)] [] (K, I, Q, n) := by
  obtain ⟨h0, h1, h2, h3, h4, h5, h6, hp, hrw, ht, hr, hb, htp, hv⟩ := id hR
  intro k
  induction k with
  | zero =>
    intro j b m hj hbm
    refine ar_iload (k := 4) rfl rfl ?_
    refine ar_aloadn (k := 5) rfl rfl ?_
    refine br_getR (k := 6) rfl (hS.k (by decide)) flP_18_6 (by decide) rfl hq ?_
    refine br_getIz (k := 7) (z := 12) rfl (hS.k (by decide)) flP_92_10 (by decide) rfl rfl ?_
    refine tw_top (WN.tc hN) ?_
    refine ar_icmp_ge (k := 8) rfl (by omega) (by omega) (fun c8 => ?_) (fun c8 => ?_)
    · refine ar_iloadn (k := 34) rfl rfl ?_
      refine ar_iret (k := 35) rfl rfl rfl (Nat.le_refl _) ?_
      exact ⟨congrArg (fun z => some (vi z)) (by rw [bstN]), rfl⟩
    · exfalso; omega
  | succ k ih =>
    intro j b m hj hbm
    refine ar_iload (k := 4) rfl rfl ?_
    refine ar_aloadn (k := 5) rfl rfl ?_
    refine br_getR (k := 6) rfl (hS.k (by decide)) flP_18_6 (by decide) rfl hq ?_
    refine br_getIz (k := 7) (z := 12) rfl (hS.k (by decide)) flP_92_10 (by decide) rfl rfl ?_
    refine tw_top (WN.tc hN) ?_
    refine ar_icmp_ge (k := 8) rfl (by omega) (by omega) (fun c8 => ?_) (fun c8 => ?_)
    · exfalso; omega
    · have hb1 := bAnd1 (bShr x (j : Int))
      have hb2 := ib_bit1 x (j := j) (by omega)
      have hxj := hx j (by omega)
      have hb5 : n5' b = if b = -1 then -5 else b := rfl
      refine ar_iloadn (k := 9) rfl rfl ?_
      refine ar_iload (k := 10) rfl rfl ?_
      refine ar_ishr (k := 11) rfl ?_
      refine ar_iconst (k := 12) rfl ?_
      refine ar_iand (k := 13) rfl ?_
      refine ar_if_eq (k := 14) rfl (by omega) (fun c14 => ?_) (fun c14 => ?_)
      · refine ar_iinc (k := 32) (l2 := [(4, _), (3, _), (0, _), (1, _), (2, _)]) rfl (by decide) rfl rfl ?_
        refine ar_goto (k := 33) rfl ?_
        refine ar_sub (l2 := [(4, vi ((j + 1 : Nat) : Int)), (3, vi (n5' b)), (0, vr (some 40)), (1, vi x), (2, vi u)]) (tw_s (tw_e 0 rfl (by omega)) (tw_s (tw_g 1 rfl) (tw_s (tw_g 2 rfl) (tw_s (tw_g 3 rfl) (tw_s (tw_g 4 rfl) tw_s0))))) ?_
        first
          | (exfalso; omega)
          | (rw [bstN, if_neg (fun z => by have := hxj.mpr ⟨z.1, z.2.1⟩; have := hb2.mpr this; omega)]; exact ih (j + 1) _ _ (by omega) hbm)
          | (rw [bstN, if_neg (fun z => by have := z.2.2; omega)]; exact ih (j + 1) _ _ (by omega) hbm)
      · have hw3 := hxj.mp (hb2.mp (by omega))
        have hw4 := hw3.1.2.2
        refine ar_iloadn (k := 15) rfl rfl ?_
        refine ar_if_lt (k := 16) rfl (by omega) (fun c16 => ?_) (fun c16 => ?_)
        · skip
          refine ar_iload (k := 30) rfl rfl ?_
          refine ar_istoren (k := 31) (l2 := [(3, _), (4, _), (0, _), (1, _), (2, _)]) rfl (by decide) rfl ?_
          refine ar_iinc (k := 32) (l2 := [(4, _), (3, _), (0, _), (1, _), (2, _)]) rfl (by decide) rfl rfl ?_
          refine ar_goto (k := 33) rfl ?_
          refine ar_sub (l2 := [(4, vi ((j + 1 : Nat) : Int)), (3, vi (n5' (j : Int))), (0, vr (some 40)), (1, vi x), (2, vi u)]) (tw_s (tw_e 0 rfl (by omega)) (tw_s (tw_e 1 rfl (by unfold n5'; rw [if_neg (by omega)])) (tw_s (tw_g 2 rfl) (tw_s (tw_g 3 rfl) (tw_s (tw_g 4 rfl) tw_s0))))) ?_
          rw [bstN, if_pos ⟨hw3.1, hw3.2, by first | exact Or.inl (by omega) | exact Or.inr (by omega)⟩]
          exact ih (j + 1) _ _ (by omega) (Or.inr ⟨by omega, by omega, rfl⟩)
        · have hw5 := rWorth_bd (t := (j : Int)) (u := u) hR hV
          have hw6 := rWorth_bd (t := b) (u := u) hR hV
          have hbn := hbm
          rcases hbn with hbn | ⟨hb7, hb8, hb9⟩
          · exfalso; rw [if_pos hbn] at hb5; omega
          have e5 : n5' b = b := by rw [hb5, if_neg (by omega)]
          refine ar_aloadn (k := 17) rfl rfl ?_
          refine br_getR (k := 18) rfl (hS.k (by decide)) flP_29_6 (by decide) rfl (hS.r rfl) ?_
          refine ar_iload (k := 19) rfl rfl ?_
          refine br_aald18 (k := 20) rfl (hS.k (by decide)) (by omega) (by omega) (by decide) (hS.row (by omega) (by omega)).1 ?_
          refine ar_iloadn (k := 21) rfl rfl ?_
          refine br_iald (k := 22) rfl (hS.row (by omega) (by omega)).2 (by omega) (by omega) (by decide) ?_
          refine tw_top (hB.2.2.2.2.2 _ (by omega) (by omega) (by omega) _ (by omega) (by omega)) ?_
          refine ar_aloadn (k := 23) rfl rfl ?_
          refine br_getR (k := 24) rfl (hS.k (by decide)) flP_29_6 (by decide) rfl (hS.r rfl) ?_
          refine ar_iloadn (k := 25) rfl rfl ?_
          refine br_aald18 (k := 26) rfl (hS.k (by decide)) (by omega) (by omega) (by decide) (hS.row (t := n5' b) (by omega) (by omega)).1 ?_
          refine ar_iloadn (k := 27) rfl rfl ?_
          refine br_iald (k := 28) rfl (hS.row (t := n5' b) (by omega) (by omega)).2 (by omega) (by omega) (by decide) ?_
          refine tw_top (y := m) (by rw [e5, hB.2.2.2.2.2 b hb7 hb8.1 hb8.2 u (by omega) (by omega)]; exact hb9) ?_
          refine ar_icmp_le (k := 29) rfl (by omega) (by omega) (fun c29 => ?_) (fun c29 => ?_)
          · refine ar_iinc (k := 32) (l2 := [(4, _), (3, _), (0, _), (1, _), (2, _)]) rfl (by decide) rfl rfl ?_
            refine ar_goto (k := 33) rfl ?_
            refine ar_sub (l2 := [(4, vi ((j + 1 : Nat) : Int)), (3, vi (n5' b)), (0, vr (some 40)), (1, vi x), (2, vi u)]) (tw_s (tw_e 0 rfl (by omega)) (tw_s (tw_g 1 rfl) (tw_s (tw_g 2 rfl) (tw_s (tw_g 3 rfl) (tw_s (tw_g 4 rfl) tw_s0))))) ?_
            first
              | (exfalso; omega)
              | (rw [bstN, if_neg (fun z => by have := hxj.mpr ⟨z.1, z.2.1⟩; have := hb2.mpr this; omega)]; exact ih (j + 1) _ _ (by omega) hbm)
              | (rw [bstN, if_neg (fun z => by have := z.2.2; omega)]; exact ih (j + 1) _ _ (by omega) hbm)
          · skip
            refine ar_iload (k := 30) rfl rfl ?_
            refine ar_istoren (k := 31) (l2 := [(3, _), (4, _), (0, _), (1, _), (2, _)]) rfl (by decide) rfl ?_
            refine ar_iinc (k := 32) (l2 := [(4, _), (3, _), (0, _), (1, _), (2, _)]) rfl (by decide) rfl rfl ?_
            refine ar_goto (k := 33) rfl ?_
            refine ar_sub (l2 := [(4, vi ((j + 1 : Nat) : Int)), (3, vi (n5' (j : Int))), (0, vr (some 40)), (1, vi x), (2, vi u)]) (tw_s (tw_e 0 rfl (by omega)) (tw_s (tw_e 1 rfl (by unfold n5'; rw [if_neg (by omega)])) (tw_s (tw_g 2 rfl) (tw_s (tw_g 3 rfl) (tw_s (tw_g 4 rfl) tw_s0))))) ?_
            rw [bstN, if_pos ⟨hw3.1, hw3.2, by first | exact Or.inl (by omega) | exact Or.inr (by omega)⟩]
            exact ih (j + 1) _ _ (by omega) (Or.inr ⟨by omega, by omega, rfl⟩)
theorem c_P_dearest {x p u g : Int} (hS : tSt (K, I, Q, n)) (hq : Q 40 1 = some 1) (hN : WN 1 I s) (hR : RInv s) (hB : PB I s) (hV : RVal s) (u1 : 0 ≤ u ∧ u ≤ 23) (hx : ∀ t : Nat, (t : Int) < s 1 → (ib x t = true ↔ ((s (84 + (t : Int)) = p ∧ s (104 + (t : Int)) = 0 ∧ s (94 + (t : Int)) ≠ -1) ∧ (g = 0 ∨ (s (84 + s (94 + (t : Int))) ≠ p ∧ rFreeP s (s (84 + s (94 + (t : Int)))) u))))) : tw_F l G 1 0 0 mP_dearest [vr (some 40), vi x, vi u] (K, I, Q, n) (some (vi (n5' (rBest s p u g)))) (K, I, Q, n) := by
  obtain ⟨h0, h1, h2, h3, h4, h5, h6, hp, hrw, ht, hr, hb, htp, hv⟩ := id hR
  refine tw_intro okP_dearest (Nat.le_of_ble_eq_true rfl) ?_
  refine ar_bipush (k := 0) rfl (by decide) ?_
  refine ar_istoren (k := 1) (l2 := [(3, _), (0, _), (1, _), (2, _)]) rfl (by decide) rfl ?_
  refine ar_iconst (k := 2) rfl ?_
  refine ar_istore (k := 3) (l2 := [(4, _), (3, _), (0, _), (1, _), (2, _)]) rfl (by decide) rfl ?_
  refine ar_sub (l2 := [(4, vi ((0 : Nat) : Int)), (3, vi (n5' (-1))), (0, vr (some 40)), (1, vi x), (2, vi u)]) (tw_s (tw_e 0 rfl (by rfl)) (tw_s (tw_e 1 rfl (by rfl)) (tw_s (tw_g 2 rfl) (tw_s (tw_g 3 rfl) (tw_s (tw_g 4 rfl) tw_s0))))) ?_
  exact l_P_dearest hS hq hN hR hB hV u1 hx (s 1).toNat 0 (-1) 0 (by omega) (Or.inl rfl)
theorem l_P_withOtherFree {p u : Int} (hS : tSt (K, I, Q, n)) (hq : Q 40 1 = some 1) (hN : WN 1 I s) (hR : RInv s) (hB : PB I s) (tp : tr p) : ∀ (k : Nat) (j : Nat) (a : Int), j + k = (s 0).toNat → tr a → tw_AW l G mP_withOtherFree 1 0 0 n 0 (tw_fn (some (vi (orV (fun p2 : Nat => if (p2 : Int) ≠ p ∧ rFreeP s (p2 : Int) u then I 53 (p2 : Int) else 0) k j a))) (K, I, Q, n)) 5 [(4, vi (j : Int)), (3, vi a), (0, vr (some 40)), (1, vi p), (2, vi u)] [] (K, I, Q, n) := by
  obtain ⟨h0, h1, h2, h3, h4, h5, h6, hp, hrw, ht, hr, hb, htp, hv⟩ := id hR
  intro k
  induction k with
  | zero =>
    intro j a hj ha
    refine ar_iload (k := 4) rfl rfl ?_
    refine ar_aloadn (k := 5) rfl rfl ?_
    refine br_getR (k := 6) rfl (hS.k (by decide)) flP_18_6 (by decide) rfl hq ?_
    refine br_getIz (k := 7) (z := 5) rfl (hS.k (by decide)) flP_147_10 (by decide) rfl rfl ?_
    refine tw_top (WN.pc hN) ?_
    refine ar_icmp_ge (k := 8) rfl (by omega) (by omega) (fun c8 => ?_) (fun c8 => ?_)
    · refine ar_iloadn (k := 31) rfl rfl ?_
      refine ar_iret (k := 32) rfl rfl rfl (Nat.le_refl _) ?_
      exact ⟨rfl, rfl⟩
    · exfalso; omega
  | succ k ih =>
    intro j a hj ha
    refine ar_iload (k := 4) rfl rfl ?_
    refine ar_aloadn (k := 5) rfl rfl ?_
    refine br_getR (k := 6) rfl (hS.k (by decide)) flP_18_6 (by decide) rfl hq ?_
    refine br_getIz (k := 7) (z := 5) rfl (hS.k (by decide)) flP_147_10 (by decide) rfl rfl ?_
    refine tw_top (WN.pc hN) ?_
    refine ar_icmp_ge (k := 8) rfl (by omega) (by omega) (fun c8 => ?_) (fun c8 => ?_)
    · exfalso; omega
    · have hb1 := bAnd1 (bShr (s (34 + (j : Int))) u)
      refine ar_iload (k := 9) rfl rfl ?_
      refine ar_iloadn (k := 10) rfl rfl ?_
      refine ar_icmp_eq (k := 11) rfl (by omega) (by omega) (fun c11 => ?_) (fun c11 => ?_)
      · refine ar_iinc (k := 29) (l2 := [(4, _), (3, _), (0, _), (1, _), (2, _)]) rfl (by decide) rfl rfl ?_
        refine ar_goto (k := 30) rfl ?_
        refine ar_sub (l2 := [(4, vi ((j + 1 : Nat) : Int)), (3, vi (bOr a ((fun p2 : Nat => if (p2 : Int) ≠ p ∧ rFreeP s (p2 : Int) u then I 53 (p2 : Int) else 0) j))), (0, vr (some 40)), (1, vi p), (2, vi u)]) (tw_s (tw_e 0 rfl (by omega)) (tw_s (tw_e 1 rfl (by show _ = bOr a (if (j : Int) ≠ p ∧ rFreeP s (j : Int) u then I 53 (j : Int) else 0); first | (exfalso; omega) | (rw [if_pos (by omega)]; done) | (rw [if_neg (by omega), bOr_0 ha]))) (tw_s (tw_g 2 rfl) (tw_s (tw_g 3 rfl) (tw_s (tw_g 4 rfl) tw_s0))))) ?_
        exact ih (j + 1) _ (by omega) (tr_bOr _ _)
      · refine ar_aloadn (k := 12) rfl rfl ?_
        refine br_getR (k := 13) rfl (hS.k (by decide)) flP_18_6 (by decide) rfl hq ?_
        refine br_getR (k := 14) rfl (hS.k (by decide)) flP_123_10 (by decide) rfl (hS.r rfl) ?_
        refine ar_iload (k := 15) rfl rfl ?_
        refine br_iald (k := 16) rfl (hS.k (by decide)) (by omega) (by omega) (by decide) ?_
        refine tw_top (WN.fr hN (by omega) (by omega)) ?_
        refine ar_iloadn (k := 17) rfl rfl ?_
        refine ar_ishr (k := 18) rfl ?_
        refine ar_iconst (k := 19) rfl ?_
        refine ar_iand (k := 20) rfl ?_
        refine ar_if_eq (k := 21) rfl (by omega) (fun c21 => ?_) (fun c21 => ?_)
        · refine ar_iinc (k := 29) (l2 := [(4, _), (3, _), (0, _), (1, _), (2, _)]) rfl (by decide) rfl rfl ?_
          refine ar_goto (k := 30) rfl ?_
          refine ar_sub (l2 := [(4, vi ((j + 1 : Nat) : Int)), (3, vi (bOr a ((fun p2 : Nat => if (p2 : Int) ≠ p ∧ rFreeP s (p2 : Int) u then I 53 (p2 : Int) else 0) j))), (0, vr (some 40)), (1, vi p), (2, vi u)]) (tw_s (tw_e 0 rfl (by omega)) (tw_s (tw_e 1 rfl (by show _ = bOr a (if (j : Int) ≠ p ∧ rFreeP s (j : Int) u then I 53 (j : Int) else 0); first | (exfalso; omega) | (rw [if_pos (by omega)]; done) | (rw [if_neg (by omega), bOr_0 ha]))) (tw_s (tw_g 2 rfl) (tw_s (tw_g 3 rfl) (tw_s (tw_g 4 rfl) tw_s0))))) ?_
          exact ih (j + 1) _ (by omega) (tr_bOr _ _)
        · refine ar_iloadn (k := 22) rfl rfl ?_
          refine ar_aloadn (k := 23) rfl rfl ?_
          refine br_getR (k := 24) rfl (hS.k (by decide)) flP_36_6 (by decide) rfl (hS.r rfl) ?_
          refine ar_iload (k := 25) rfl rfl ?_
          refine br_iald (k := 26) rfl (hS.k (by decide)) (by omega) (by omega) (by decide) ?_
          refine ar_ior (k := 27) rfl ?_
          refine ar_istoren (k := 28) (l2 := [(3, _), (4, _), (0, _), (1, _), (2, _)]) rfl (by decide) rfl ?_
          refine ar_iinc (k := 29) (l2 := [(4, _), (3, _), (0, _), (1, _), (2, _)]) rfl (by decide) rfl rfl ?_
          refine ar_goto (k := 30) rfl ?_
          refine ar_sub (l2 := [(4, vi ((j + 1 : Nat) : Int)), (3, vi (bOr a ((fun p2 : Nat => if (p2 : Int) ≠ p ∧ rFreeP s (p2 : Int) u then I 53 (p2 : Int) else 0) j))), (0, vr (some 40)), (1, vi p), (2, vi u)]) (tw_s (tw_e 0 rfl (by omega)) (tw_s (tw_e 1 rfl (by show _ = bOr a (if (j : Int) ≠ p ∧ rFreeP s (j : Int) u then I 53 (j : Int) else 0); first | (exfalso; omega) | (rw [if_pos (by omega)]; done) | (rw [if_neg (by omega), bOr_0 ha]))) (tw_s (tw_g 2 rfl) (tw_s (tw_g 3 rfl) (tw_s (tw_g 4 rfl) tw_s0))))) ?_
          exact ih (j + 1) _ (by omega) (tr_bOr _ _)
theorem c_P_withOtherFree {p u : Int} (hS : tSt (K, I, Q, n)) (hq : Q 40 1 = some 1) (hN : WN 1 I s) (hR : RInv s) (hB : PB I s) (tp : tr p) : tw_F l G 1 0 0 mP_withOtherFree [vr (some 40), vi p, vi u] (K, I, Q, n) (some (vi (orV (fun p2 : Nat => if (p2 : Int) ≠ p ∧ rFreeP s (p2 : Int) u then I 53 (p2 : Int) else 0) (s 0).toNat 0 0))) (K, I, Q, n) := by
  obtain ⟨h0, h1, h2, h3, h4, h5, h6, hp, hrw, ht, hr, hb, htp, hv⟩ := id hR
  refine tw_intro okP_withOtherFree (Nat.le_of_ble_eq_true rfl) ?_
  refine ar_iconst (k := 0) rfl ?_
  refine ar_istoren (k := 1) (l2 := [(3, _), (0, _), (1, _), (2, _)]) rfl (by decide) rfl ?_
  refine ar_iconst (k := 2) rfl ?_
  refine ar_istore (k := 3) (l2 := [(4, _), (3, _), (0, _), (1, _), (2, _)]) rfl (by decide) rfl ?_
  refine ar_sub (l2 := [(4, vi ((0 : Nat) : Int)), (3, vi 0), (0, vr (some 40)), (1, vi p), (2, vi u)]) (tw_s (tw_e 0 rfl (by rfl)) (tw_s (tw_g 1 rfl) (tw_s (tw_g 2 rfl) (tw_s (tw_g 3 rfl) (tw_s (tw_g 4 rfl) tw_s0))))) ?_
  exact l_P_withOtherFree hS hq hN hR hB tp (s 0).toNat 0 0 (by omega) (by decide)
theorem wof_of {p u : Int} (hR : RInv s) (hB : PB I s) {t : Nat} (t1 : (t : Int) < s 1) : ib (orV (fun p2 : Nat => if (p2 : Int) ≠ p ∧ rFreeP s (p2 : Int) u then I 53 (p2 : Int) else 0) (s 0).toNat 0 0) t = true ↔ (s (94 + (t : Int)) ≠ -1 ∧ s (84 + s (94 + (t : Int))) ≠ p ∧ rFreeP s (s (84 + s (94 + (t : Int)))) u) := by
  obtain ⟨h0, h1, h2, h3, h4, h5, h6, hp, hrw, ht, hr, hb, htp, hv⟩ := id hR
  rw [orV_any, ib_0]
  constructor
  · rintro (h | ⟨q, q1, q2, q3⟩)
    · cases h
    · by_cases c : (q : Int) ≠ p ∧ rFreeP s (q : Int) u
      · rw [if_pos c, hB.2.2.1 q (by omega) t (by omega), decide_eq_true_eq] at q3
        exact ⟨q3.2.1, by rw [q3.2.2]; exact c.1, by rw [q3.2.2]; exact c.2⟩
      · rw [if_neg c, ib_0] at q3
        cases q3
  · rintro ⟨a1, a2, a3⟩
    have w1 := ht (t : Int) (by omega) (by omega)
    have w2 := ht (s (94 + (t : Int))) (by omega) (by omega)
    have e : (((s (84 + s (94 + (t : Int)))).toNat : Nat) : Int) = s (84 + s (94 + (t : Int))) := by omega
    refine Or.inr ⟨(s (84 + s (94 + (t : Int)))).toNat, by omega, by omega, ?_⟩
    rw [e, if_pos ⟨a2, a3⟩, ← e, hB.2.2.1 _ (by omega) t (by omega), decide_eq_true_eq]
    exact ⟨t1, a1, e.symm⟩
theorem lm5 {p : Int} (hB : PB I s) (h1 : 0 ≤ s 1 ∧ s 1 ≤ 10) (p1 : 0 ≤ p ∧ p < 8) : fstD (-5) (fun j => ib (bAnd (I 52 p) (I 40 6)) j) (s 1).toNat 0 = n5' (rLeast s p) := by
  rw [fstD_n5]
  unfold rLeast
  congr 1
  refine fstD_cg (m := (s 1).toNat) (fun i hi => ?_) _ _ (by omega)
  rw [Bool.eq_iff_iff, fit_of hB p1 (by omega), decide_eq_true_eq]
  exact ⟨fun z => z.2, fun z => ⟨by omega, z⟩⟩
theorem hm5 {p : Int} (hR : RInv s) (hB : PB I s) (p1 : 0 ≤ p ∧ p < 8) : (if fstD (-5) (fun j => ib (bAnd (bAnd (I 52 p) (I 40 6)) (I 40 7)) j) (s 1).toNat 0 < 0 then n5' (rLeast s p) else fstD (-5) (fun j => ib (bAnd (bAnd (I 52 p) (I 40 6)) (I 40 7)) j) (s 1).toNat 0) = n5' (rHome s p) := by
  obtain ⟨h0, h1, h2, h3, h4, h5, h6, hp, hrw, ht, hr, hb, htp, hv⟩ := id hR
  have e : fstD (-5) (fun j => ib (bAnd (bAnd (I 52 p) (I 40 6)) (I 40 7)) j) (s 1).toNat 0 = fstD (-5) (fun t => decide (rFitP s p t ∧ s (26 + s (84 + s (94 + (t : Int)))) = s (26 + p))) (s 1).toNat 0 := by
    refine fstD_cg (m := (s 1).toNat) (fun i hi => ?_) _ _ (by omega)
    rw [Bool.eq_iff_iff, ib_and, Bool.and_eq_true, fit_of hB p1 (by omega), hB.2.2.2.2.1 i (by omega), decide_eq_true_eq, decide_eq_true_eq]
    constructor
    · rintro ⟨⟨a0, a1, a2, a3⟩, _, _, a4⟩; exact ⟨⟨a1, a2, a3⟩, by rw [← a4, a1]⟩
    · rintro ⟨⟨a1, a2, a3⟩, a4⟩; exact ⟨⟨by omega, a1, a2, a3⟩, by omega, a3, by rw [a4, a1]⟩
  have hb := fstD_bd' (p := fun t => decide (rFitP s p t ∧ s (26 + s (84 + s (94 + (t : Int)))) = s (26 + p))) (d := -1) (N := s 1) (s 1).toNat 0 (by omega) (Or.inl rfl)
  rw [e, fstD_n5]
  unfold rHome
  rw [fstD_d (d := rLeast s p)]
  unfold n5'
  by_cases g : fstD (-1) (fun t => decide (rFitP s p t ∧ s (26 + s (84 + s (94 + (t : Int)))) = s (26 + p))) (s 1).toNat 0 = -1
  · rw [if_pos g, if_pos g, if_pos (by decide)]
  · rw [if_neg g, if_neg g, if_neg (by omega), if_neg g]
end CP
