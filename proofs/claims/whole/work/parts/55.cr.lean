/-- before the sets are reckoned -/
def PT0 (I : Nat → Int → Int) (s : Int → Int) : Prop := PR I s ∧ (∀ i : Nat, i < (prs s).length → I 55 (i : Int) = pHd s ((prs s).getD i 0) ∧ ∀ u : Nat, u < 24 → (ib (I 56 (i : Int)) u = true ↔ pCan s (((prs s).getD i 0 : Nat) : Int) (u : Int))) ∧ I 57 0 = 0
def kI (I J : Nat → Int → Int) (s : Int → Int) (N : Nat) : Prop := (∀ a, a ≠ 57 → a ≠ 58 → J a = I a) ∧ J 57 0 = 0 ∧ J 58 0 = 16777215 ∧ ∀ i : Nat, i < (prs s).length → ∀ r : Nat, r < 2 ^ i → r + 2 ^ i < N → J 57 ((r + 2 ^ i : Nat) : Int) = bOr (J 57 (r : Int)) (I 55 (i : Int)) ∧ J 58 ((r + 2 ^ i : Nat) : Int) = (if bAnd (J 57 (r : Int)) (I 55 (i : Int)) ≠ 0 then 0 else bAnd (J 58 (r : Int)) (I 56 (i : Int)))
theorem pw_inj {i r i' r' : Nat} (h1 : r < 2 ^ i) (h2 : r' < 2 ^ i') (e : r + 2 ^ i = r' + 2 ^ i') : i = i' ∧ r = r' := by
  have hi : i = i' := by
    rcases Nat.lt_trichotomy i i' with g | g | g
    · have := Nat.pow_le_pow_right (n := 2) (by decide) (show i + 1 ≤ i' from g)
      rw [Nat.pow_succ] at this; omega
    · exact g
    · have := Nat.pow_le_pow_right (n := 2) (by decide) (show i' + 1 ≤ i from g)
      rw [Nat.pow_succ] at this; omega
  subst hi
  exact ⟨rfl, by omega⟩
theorem kI.step {I J L L2 : Nat → Int → Int} {s : Int → Int} {i r : Nat} (h : kI I J s (r + 2 ^ i)) (hr : r < 2 ^ i) (e1 : L = uI J 57 ((r + 2 ^ i : Nat) : Int) (bOr (J 57 (r : Int)) (I 55 (i : Int)))) (e2 : L2 = uI L 58 ((r + 2 ^ i : Nat) : Int) (if bAnd (J 57 (r : Int)) (I 55 (i : Int)) ≠ 0 then 0 else bAnd (J 58 (r : Int)) (I 56 (i : Int)))) : kI I L2 s (r + 2 ^ i + 1) := by
  obtain ⟨h1, h2, h3, h4⟩ := h
  have hp := Nat.two_pow_pos i
  subst e1 e2
  have a57 : ∀ x : Int, x ≠ ((r + 2 ^ i : Nat) : Int) → (uI (uI J 57 ((r + 2 ^ i : Nat) : Int) (bOr (J 57 (r : Int)) (I 55 (i : Int)))) 58 ((r + 2 ^ i : Nat) : Int) (if bAnd (J 57 (r : Int)) (I 55 (i : Int)) ≠ 0 then 0 else bAnd (J 58 (r : Int)) (I 56 (i : Int)))) 57 x = J 57 x := fun x hx => by rw [uI_off _ _ _ (by decide), uI_at, if_neg hx]
  have a58 : ∀ x : Int, x ≠ ((r + 2 ^ i : Nat) : Int) → (uI (uI J 57 ((r + 2 ^ i : Nat) : Int) (bOr (J 57 (r : Int)) (I 55 (i : Int)))) 58 ((r + 2 ^ i : Nat) : Int) (if bAnd (J 57 (r : Int)) (I 55 (i : Int)) ≠ 0 then 0 else bAnd (J 58 (r : Int)) (I 56 (i : Int)))) 58 x = J 58 x := fun x hx => by rw [uI_at, if_neg hx, uI_off _ _ _ (by decide)]
  refine ⟨fun a b1 b2 => by rw [uI_off _ _ _ b2, uI_off _ _ _ b1]; exact h1 a b1 b2, by rw [a57 _ (by omega)]; exact h2, by rw [a58 _ (by omega)]; exact h3, fun i' hi' r' hr' hN => ?_⟩
  have hp' := Nat.two_pow_pos i'
  by_cases g : r' + 2 ^ i' = r + 2 ^ i
  · obtain ⟨rfl, rfl⟩ := pw_inj hr' hr g
    rw [a57 (r' : Int) (by omega), a58 (r' : Int) (by omega)]
    refine ⟨by rw [uI_off _ _ _ (by decide), uI_at, if_pos rfl], by rw [uI_at, if_pos rfl]⟩
  · rw [a57 (r' : Int) (by omega), a58 (r' : Int) (by omega), a57 _ (by omega), a58 _ (by omega)]
    exact h4 i' hi' r' hr' (by omega)
section CR2
variable {l : Launch} {G : tG} {K : Nat → Nat × Nat} {I : Nat → Int → Int} {Q : Nat → Int → Option Nat} {n : Nat} {s : Int → Int}
theorem li_P_reckonSets {i : Nat} {P : Option tV → tH → Prop} (hS : tSt (K, I, Q, n)) (h1 : 0 ≤ s 1 ∧ s 1 ≤ 10) (hT : PT0 I s) (hi5 : i < (prs s).length) (cont : ∀ (x : Int) (J : Nat → Int → Int), kI I J s (2 ^ (i + 1)) → tw_AW l G mP_reckonSets 1 0 0 n 0 P 109 [(2, vi x), (0, vr (some 40)), (1, vi (i : Int))] [] (K, J, Q, n)) : ∀ (k : Nat) (r : Nat) (J : Nat → Int → Int), r + k = 2 ^ i → kI I J s (2 ^ i + r) → tw_AW l G mP_reckonSets 1 0 0 n 0 (P) 20 [(2, vi (r : Int)), (0, vr (some 40)), (1, vi (i : Int))] [] (K, J, Q, n) := by
  obtain ⟨⟨hc0, hc5, hcp⟩, hpq, h570⟩ := id hT
  intro k
  induction k with
  | zero =>
    intro r J hj hI
    have hpw := pw_16 (i := i) (by omega)
    refine ar_iloadn (k := 13) rfl rfl ?_
    refine ar_iconst (k := 14) rfl ?_
    refine ar_iloadn (k := 15) rfl rfl ?_
    refine ar_ishl (k := 16) rfl ?_
    refine tw_top (y := ((2 ^ i : Nat) : Int)) (by exact shl_pw i (by omega)) ?_
    refine ar_icmp_ge (k := 17) rfl (by omega) (by omega) (fun c17 => ?_) (fun c17 => ?_)
    · have e9 : r = 2 ^ i := by omega
      subst e9
      exact cont _ J (by rw [pw_s]; exact hI)
    · exfalso; omega
  | succ k ih =>
    intro r J hj hI
    have hpw := pw_16 (i := i) (by omega)
    refine ar_iloadn (k := 13) rfl rfl ?_
    refine ar_iconst (k := 14) rfl ?_
    refine ar_iloadn (k := 15) rfl rfl ?_
    refine ar_ishl (k := 16) rfl ?_
    refine tw_top (y := ((2 ^ i : Nat) : Int)) (by exact shl_pw i (by omega)) ?_
    refine ar_icmp_ge (k := 17) rfl (by omega) (by omega) (fun c17 => ?_) (fun c17 => ?_)
    · exfalso; omega
    · have hpw := pw_16 (i := i) (by omega)
      have tb : tr (bAnd (J 57 (r : Int)) (I 55 (i : Int))) := tr_toInt _
      refine ar_iloadn (k := 18) rfl rfl ?_
      refine ar_iconst (k := 19) rfl ?_
      refine ar_iloadn (k := 20) rfl rfl ?_
      refine ar_ishl (k := 21) rfl ?_
      refine tw_top (y := ((2 ^ i : Nat) : Int)) (by exact shl_pw i (by omega)) ?_
      refine ar_ior (k := 22) rfl ?_
      refine tw_top (y := ((r + 2 ^ i : Nat) : Int)) (by exact or_pw i (by omega) r (by omega)) ?_
      refine ar_istoren (k := 23) (l2 := [(3, _), (2, _), (0, _), (1, _)]) rfl (by decide) rfl ?_
      refine ar_aloadn (k := 24) rfl rfl ?_
      refine br_getR (k := 25) rfl (hS.k (by decide)) flP_57_6 (by decide) rfl (hS.r rfl) ?_
      refine ar_iloadn (k := 26) rfl rfl ?_
      refine br_iald (k := 27) rfl (hS.k (by decide)) (by omega) (by omega) (by decide) ?_
      refine ar_aloadn (k := 28) rfl rfl ?_
      refine br_getR (k := 29) rfl (hS.k (by decide)) flP_48_6 (by decide) rfl (hS.r rfl) ?_
      refine ar_iloadn (k := 30) rfl rfl ?_
      refine br_iald (k := 31) rfl (hS.k (by decide)) (by omega) (by omega) (by decide) ?_
      refine tw_top (congrFun (hI.1 55 (by decide) (by decide)) _) ?_
      refine ar_iand (k := 32) rfl ?_
      refine ar_if_eq (k := 33) rfl (by omega) (fun c33 => ?_) (fun c33 => ?_)
      · refine ar_iconst (k := 36) rfl ?_
        refine ar_istore (k := 37) (l2 := [(4, _), (3, _), (2, _), (0, _), (1, _)]) rfl (by decide) rfl ?_
        refine ar_aloadn (k := 38) rfl rfl ?_
        refine br_getR (k := 39) rfl (hS.k (by decide)) flP_57_6 (by decide) rfl (hS.r rfl) ?_
        refine ar_iloadn (k := 40) rfl rfl ?_
        refine ar_aloadn (k := 41) rfl rfl ?_
        refine br_getR (k := 42) rfl (hS.k (by decide)) flP_57_6 (by decide) rfl (hS.r rfl) ?_
        refine ar_iloadn (k := 43) rfl rfl ?_
        refine br_iald (k := 44) rfl (hS.k (by decide)) (by omega) (by omega) (by decide) ?_
        refine tw_top (y := J 57 (r : Int)) (by rfl) ?_
        refine ar_aloadn (k := 45) rfl rfl ?_
        refine br_getR (k := 46) rfl (hS.k (by decide)) flP_48_6 (by decide) rfl (hS.r rfl) ?_
        refine ar_iloadn (k := 47) rfl rfl ?_
        refine br_iald (k := 48) rfl (hS.k (by decide)) (by omega) (by omega) (by decide) ?_
        refine tw_top (y := I 55 (i : Int)) (by exact congrFun (hI.1 55 (by decide) (by decide)) _) ?_
        refine ar_ior (k := 49) rfl ?_
        refine br_iastJ (k := 50) rfl (hS.k (by decide)) (by omega) (by omega) (by decide) (fun I50 e50 => ?_)
        skip
        refine ar_aloadn (k := 51) rfl rfl ?_
        refine br_getR (k := 52) rfl (hS.k (by decide)) flP_60_6 (by decide) rfl (hS.r rfl) ?_
        refine ar_iloadn (k := 53) rfl rfl ?_
        refine ar_iload (k := 54) rfl rfl ?_
        refine ar_if_eq (k := 55) rfl (by omega) (fun c55 => ?_) (fun c55 => ?_)
        · refine ar_aloadn (k := 58) rfl rfl ?_
          refine br_getR (k := 59) rfl (hS.k (by decide)) flP_60_6 (by decide) rfl (hS.r rfl) ?_
          refine ar_iloadn (k := 60) rfl rfl ?_
          refine br_iald (k := 61) rfl (hS.k (by decide)) (by omega) (by omega) (by decide) ?_
          refine tw_top (y := J 58 (r : Int)) (by rw [e50, uI_off _ _ _ (by decide)]) ?_
          refine ar_aloadn (k := 62) rfl rfl ?_
          refine br_getR (k := 63) rfl (hS.k (by decide)) flP_51_6 (by decide) rfl (hS.r rfl) ?_
          refine ar_iloadn (k := 64) rfl rfl ?_
          refine br_iald (k := 65) rfl (hS.k (by decide)) (by omega) (by omega) (by decide) ?_
          refine tw_top (y := I 56 (i : Int)) (by rw [e50, uI_off _ _ _ (by decide)]; exact congrFun (hI.1 56 (by decide) (by decide)) _) ?_
          refine ar_iand (k := 66) rfl ?_
          refine tw_top (y := (if bAnd (J 57 (r : Int)) (I 55 (i : Int)) ≠ 0 then 0 else bAnd (J 58 (r : Int)) (I 56 (i : Int)))) (by first | (exfalso; omega) | (rw [if_pos (by omega)]; done) | (rw [if_neg (by omega)]; done)) ?_
          refine br_iastJ (k := 67) rfl (hS.k (by decide)) (by omega) (by omega) (by decide) (fun I67 e67 => ?_)
          skip
          refine ar_iinc (k := 68) (l2 := [(2, _), (4, _), (3, _), (0, _), (1, _)]) rfl (by decide) rfl rfl ?_
          refine ar_goto (k := 69) rfl ?_
          refine ar_sub (l2 := [(2, vi ((r + 1 : Nat) : Int)), (0, vr (some 40)), (1, vi (i : Int))]) (tw_s (tw_e 0 rfl (by omega)) (tw_s (tw_g 3 rfl) (tw_s (tw_g 4 rfl) tw_s0))) ?_
          have hn := kI.step (i := i) (r := r) (by rw [Nat.add_comm r]; exact hI) (by omega) e50 e67
          exact ih (r + 1) I67 (by omega) (by rw [show 2 ^ i + (r + 1) = r + 2 ^ i + 1 by omega]; exact hn)
        · refine ar_iconst (k := 56) rfl ?_
          refine ar_goto (k := 57) rfl ?_
          refine tw_top (y := (if bAnd (J 57 (r : Int)) (I 55 (i : Int)) ≠ 0 then 0 else bAnd (J 58 (r : Int)) (I 56 (i : Int)))) (by first | (exfalso; omega) | (rw [if_pos (by omega)]; done) | (rw [if_neg (by omega)]; done)) ?_
          refine br_iastJ (k := 67) rfl (hS.k (by decide)) (by omega) (by omega) (by decide) (fun I67 e67 => ?_)
          skip
          refine ar_iinc (k := 68) (l2 := [(2, _), (4, _), (3, _), (0, _), (1, _)]) rfl (by decide) rfl rfl ?_
          refine ar_goto (k := 69) rfl ?_
          refine ar_sub (l2 := [(2, vi ((r + 1 : Nat) : Int)), (0, vr (some 40)), (1, vi (i : Int))]) (tw_s (tw_e 0 rfl (by omega)) (tw_s (tw_g 3 rfl) (tw_s (tw_g 4 rfl) tw_s0))) ?_
          have hn := kI.step (i := i) (r := r) (by rw [Nat.add_comm r]; exact hI) (by omega) e50 e67
          exact ih (r + 1) I67 (by omega) (by rw [show 2 ^ i + (r + 1) = r + 2 ^ i + 1 by omega]; exact hn)
      · refine ar_iconst (k := 34) rfl ?_
        refine ar_goto (k := 35) rfl ?_
        refine ar_istore (k := 37) (l2 := [(4, _), (3, _), (2, _), (0, _), (1, _)]) rfl (by decide) rfl ?_
        refine ar_aloadn (k := 38) rfl rfl ?_
        refine br_getR (k := 39) rfl (hS.k (by decide)) flP_57_6 (by decide) rfl (hS.r rfl) ?_
        refine ar_iloadn (k := 40) rfl rfl ?_
        refine ar_aloadn (k := 41) rfl rfl ?_
        refine br_getR (k := 42) rfl (hS.k (by decide)) flP_57_6 (by decide) rfl (hS.r rfl) ?_
        refine ar_iloadn (k := 43) rfl rfl ?_
        refine br_iald (k := 44) rfl (hS.k (by decide)) (by omega) (by omega) (by decide) ?_
        refine tw_top (y := J 57 (r : Int)) (by rfl) ?_
        refine ar_aloadn (k := 45) rfl rfl ?_
        refine br_getR (k := 46) rfl (hS.k (by decide)) flP_48_6 (by decide) rfl (hS.r rfl) ?_
        refine ar_iloadn (k := 47) rfl rfl ?_
        refine br_iald (k := 48) rfl (hS.k (by decide)) (by omega) (by omega) (by decide) ?_
        refine tw_top (y := I 55 (i : Int)) (by exact congrFun (hI.1 55 (by decide) (by decide)) _) ?_
        refine ar_ior (k := 49) rfl ?_
        refine br_iastJ (k := 50) rfl (hS.k (by decide)) (by omega) (by omega) (by decide) (fun I50 e50 => ?_)
        skip
        refine ar_aloadn (k := 51) rfl rfl ?_
        refine br_getR (k := 52) rfl (hS.k (by decide)) flP_60_6 (by decide) rfl (hS.r rfl) ?_
        refine ar_iloadn (k := 53) rfl rfl ?_
        refine ar_iload (k := 54) rfl rfl ?_
        refine ar_if_eq (k := 55) rfl (by omega) (fun c55 => ?_) (fun c55 => ?_)
        · refine ar_aloadn (k := 58) rfl rfl ?_
          refine br_getR (k := 59) rfl (hS.k (by decide)) flP_60_6 (by decide) rfl (hS.r rfl) ?_
          refine ar_iloadn (k := 60) rfl rfl ?_
          refine br_iald (k := 61) rfl (hS.k (by decide)) (by omega) (by omega) (by decide) ?_
          refine tw_top (y := J 58 (r : Int)) (by rw [e50, uI_off _ _ _ (by decide)]) ?_
          refine ar_aloadn (k := 62) rfl rfl ?_
          refine br_getR (k := 63) rfl (hS.k (by decide)) flP_51_6 (by decide) rfl (hS.r rfl) ?_
          refine ar_iloadn (k := 64) rfl rfl ?_
          refine br_iald (k := 65) rfl (hS.k (by decide)) (by omega) (by omega) (by decide) ?_
          refine tw_top (y := I 56 (i : Int)) (by rw [e50, uI_off _ _ _ (by decide)]; exact congrFun (hI.1 56 (by decide) (by decide)) _) ?_
          refine ar_iand (k := 66) rfl ?_
          refine tw_top (y := (if bAnd (J 57 (r : Int)) (I 55 (i : Int)) ≠ 0 then 0 else bAnd (J 58 (r : Int)) (I 56 (i : Int)))) (by first | (exfalso; omega) | (rw [if_pos (by omega)]; done) | (rw [if_neg (by omega)]; done)) ?_
          refine br_iastJ (k := 67) rfl (hS.k (by decide)) (by omega) (by omega) (by decide) (fun I67 e67 => ?_)
          skip
          refine ar_iinc (k := 68) (l2 := [(2, _), (4, _), (3, _), (0, _), (1, _)]) rfl (by decide) rfl rfl ?_
          refine ar_goto (k := 69) rfl ?_
          refine ar_sub (l2 := [(2, vi ((r + 1 : Nat) : Int)), (0, vr (some 40)), (1, vi (i : Int))]) (tw_s (tw_e 0 rfl (by omega)) (tw_s (tw_g 3 rfl) (tw_s (tw_g 4 rfl) tw_s0))) ?_
          have hn := kI.step (i := i) (r := r) (by rw [Nat.add_comm r]; exact hI) (by omega) e50 e67
          exact ih (r + 1) I67 (by omega) (by rw [show 2 ^ i + (r + 1) = r + 2 ^ i + 1 by omega]; exact hn)
        · refine ar_iconst (k := 56) rfl ?_
          refine ar_goto (k := 57) rfl ?_
          refine tw_top (y := (if bAnd (J 57 (r : Int)) (I 55 (i : Int)) ≠ 0 then 0 else bAnd (J 58 (r : Int)) (I 56 (i : Int)))) (by first | (exfalso; omega) | (rw [if_pos (by omega)]; done) | (rw [if_neg (by omega)]; done)) ?_
          refine br_iastJ (k := 67) rfl (hS.k (by decide)) (by omega) (by omega) (by decide) (fun I67 e67 => ?_)
          skip
          refine ar_iinc (k := 68) (l2 := [(2, _), (4, _), (3, _), (0, _), (1, _)]) rfl (by decide) rfl rfl ?_
          refine ar_goto (k := 69) rfl ?_
          refine ar_sub (l2 := [(2, vi ((r + 1 : Nat) : Int)), (0, vr (some 40)), (1, vi (i : Int))]) (tw_s (tw_e 0 rfl (by omega)) (tw_s (tw_g 3 rfl) (tw_s (tw_g 4 rfl) tw_s0))) ?_
          have hn := kI.step (i := i) (r := r) (by rw [Nat.add_comm r]; exact hI) (by omega) e50 e67
          exact ih (r + 1) I67 (by omega) (by rw [show 2 ^ i + (r + 1) = r + 2 ^ i + 1 by omega]; exact hn)
theorem l_P_reckonSets (hS : tSt (K, I, Q, n)) (h1 : 0 ≤ s 1 ∧ s 1 ≤ 10) (hT : PT0 I s) : ∀ (k : Nat) (i : Nat) (J : Nat → Int → Int), i + k = (prs s).length → kI I J s (2 ^ i) → tw_AW l G mP_reckonSets 1 0 0 n 0 ((fun r h' => r = none ∧ ∃ J, h' = (K, J, Q, n) ∧ PT J s ∧ (∀ a, a ≠ 57 → a ≠ 58 → J a = I a))) 10 [(1, vi (i : Int)), (0, vr (some 40))] [] (K, J, Q, n) := by
  obtain ⟨⟨hc0, hc5, hcp⟩, hpq, h570⟩ := id hT
  intro k
  induction k with
  | zero =>
    intro i J hj hI
    refine ar_iloadn (k := 7) rfl rfl ?_
    refine ar_aloadn (k := 8) rfl rfl ?_
    refine br_getIz (k := 9) (z := 11) rfl (hS.k (by decide)) flP_54_6 (by decide) rfl rfl ?_
    refine tw_top ((congrFun (hI.1 40 (by decide) (by decide)) _).trans hc0) ?_
    refine ar_icmp_ge (k := 10) rfl (by omega) (by omega) (fun c10 => ?_) (fun c10 => ?_)
    · refine ar_ret (k := 72) rfl rfl rfl (Nat.le_refl _) ?_
      have e9 : i = (prs s).length := by omega
      subst e9
      refine ⟨rfl, J, rfl, ?_, hI.1⟩
      unfold PT PR
      rw [hI.1 40 (by decide) (by decide), hI.1 54 (by decide) (by decide), hI.1 55 (by decide) (by decide), hI.1 56 (by decide) (by decide)]
      refine ⟨hT.1, hT.2.1, hI.2.1, hI.2.2.1, fun i hi r hr => hI.2.2.2 i hi r hr ?_⟩
      have := Nat.pow_le_pow_right (n := 2) (by decide) (show i + 1 ≤ (prs s).length from hi)
      rw [Nat.pow_succ] at this
      omega
    · exfalso; omega
  | succ k ih =>
    intro i J hj hI
    refine ar_iloadn (k := 7) rfl rfl ?_
    refine ar_aloadn (k := 8) rfl rfl ?_
    refine br_getIz (k := 9) (z := 11) rfl (hS.k (by decide)) flP_54_6 (by decide) rfl rfl ?_
    refine tw_top ((congrFun (hI.1 40 (by decide) (by decide)) _).trans hc0) ?_
    refine ar_icmp_ge (k := 10) rfl (by omega) (by omega) (fun c10 => ?_) (fun c10 => ?_)
    · exfalso; omega
    · refine ar_iconst (k := 11) rfl ?_
      refine ar_istoren (k := 12) (l2 := [(2, _), (1, _), (0, _)]) rfl (by decide) rfl ?_
      refine ar_sub (l2 := [(2, vi ((0 : Nat) : Int)), (0, vr (some 40)), (1, vi (i : Int))]) (tw_s (tw_e 0 rfl (by rfl)) (tw_s (tw_g 2 rfl) (tw_s (tw_g 1 rfl) tw_s0))) ?_
      refine li_P_reckonSets (i := i) hS h1 hT (by omega) (fun x L hL => ?_) (2 ^ i) 0 J (by omega) hI
      refine ar_iinc (k := 70) (l2 := [(1, _), (2, _), (0, _)]) rfl (by decide) rfl rfl ?_
      refine ar_goto (k := 71) rfl ?_
      refine ar_sub (l2 := [(1, vi ((i + 1 : Nat) : Int)), (0, vr (some 40))]) (tw_s (tw_e 0 rfl (by omega)) (tw_s (tw_g 2 rfl) tw_s0)) ?_
      exact ih (i + 1) L (by omega) hL
theorem c_P_reckonSets (hS : tSt (K, I, Q, n)) (h1 : 0 ≤ s 1 ∧ s 1 ≤ 10) (hT : PT0 I s) : tw_M l G 1 0 0 mP_reckonSets [vr (some 40)] (K, I, Q, n) (fun r h' => r = none ∧ ∃ J, h' = (K, J, Q, n) ∧ PT J s ∧ (∀ a, a ≠ 57 → a ≠ 58 → J a = I a)) := by
  obtain ⟨⟨hc0, hc5, hcp⟩, hpq, h570⟩ := id hT
  refine tw_intro okP_reckonSets (Nat.le_of_ble_eq_true rfl) ?_
  refine ar_aloadn (k := 0) rfl rfl ?_
  refine br_getR (k := 1) rfl (hS.k (by decide)) flP_60_6 (by decide) rfl (hS.r rfl) ?_
  refine ar_iconst (k := 2) rfl ?_
  refine ar_ldc (k := 3) (z := 16777215) rfl cnP_146 rfl ?_
  refine br_iastJ (k := 4) rfl (hS.k (by decide)) (by omega) (by omega) (by decide) (fun I4 e4 => ?_)
  skip
  refine ar_iconst (k := 5) rfl ?_
  refine ar_istoren (k := 6) (l2 := [(1, _), (0, _)]) rfl (by decide) rfl ?_
  refine ar_sub (l2 := [(1, vi ((0 : Nat) : Int)), (0, vr (some 40))]) (tw_s (tw_e 0 rfl (by rfl)) (tw_s (tw_g 1 rfl) tw_s0)) ?_
  exact l_P_reckonSets hS h1 hT (prs s).length 0 I4 (by omega) ⟨fun a a1 a2 => by rw [e4, uI_off _ _ _ a2], by rw [e4, uI_off _ _ _ (by decide)]; exact h570, by rw [e4, uI_at, if_pos rfl], fun i hi r hr hN => by have := Nat.two_pow_pos i; simp only [Nat.pow_zero] at hN; omega⟩
end CR2
