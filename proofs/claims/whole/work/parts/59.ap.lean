theorem fb_holes : ∀ (m n : Nat) (f : Nat → Nat), (∀ i, i < n → f i < m) → (∀ i j, i < j → j < n → f i ≠ f j) → n ≤ m := by
  intro m
  induction m with
  | zero =>
    intro n f h1 _
    rcases Nat.eq_zero_or_pos n with h | h
    · omega
    · exact absurd (h1 0 h) (Nat.not_lt_zero _)
  | succ m ih =>
    intro n f h1 h2
    by_cases hx : ∃ i, i < n ∧ f i = m
    · obtain ⟨a, ha, hfa⟩ := hx
      have hg := ih (n - 1) (fun i => if i < a then f i else f (i + 1)) (by
        intro i hi
        by_cases q : i < a
        · simp only [if_pos q]
          have b1 := h1 i (by omega)
          have b2 := h2 i a q ha
          omega
        · simp only [if_neg q]
          have b1 := h1 (i + 1) (by omega)
          have b2 := h2 a (i + 1) (by omega) (by omega)
          omega) (by
        intro i j hij hj
        by_cases q : i < a
        · by_cases r : j < a
          · simp only [if_pos q, if_pos r]
            exact h2 i j hij (by omega)
          · simp only [if_pos q, if_neg r]
            exact h2 i (j + 1) (by omega) (by omega)
        · have r : ¬ j < a := by omega
          simp only [if_neg q, if_neg r]
          exact h2 (i + 1) (j + 1) (by omega) (by omega))
      omega
    · have hg := ih n f (fun i hi => by
        have b1 := h1 i hi
        have b2 : f i ≠ m := fun e => hx ⟨i, hi, e⟩
        omega) h2
      omega
/-- two of them in one place -/
theorem prs_len {s : Int → Int} (hR : RInv s) : (prs s).length ≤ 5 := by
  obtain ⟨h0, h1, h2, h3, h4, h5, h6, hp, hrw, ht, hr, hb, htp, hv⟩ := hR
  have hg := fun i (hi : i < (prs s).length) => prs_get (s := s) h1.1 hi
  have hlt : ∀ i j, i < j → j < (prs s).length → (prs s).getD i 0 < (prs s).getD j 0 := fun i j hij hj => prsN_up _ _ i j hij hj
  have := fb_holes 10 ((prs s).length + (prs s).length) (fun i => if i < (prs s).length then (prs s).getD i 0 else (s (94 + (((prs s).getD (i - (prs s).length) 0 : Nat) : Int))).toNat) (fun i hi => ?_) (fun i j hij hj => ?_)
  · omega
  · by_cases g : i < (prs s).length
    · simp only [if_pos g]
      have := hg i g; omega
    · simp only [if_neg g]
      have := hg (i - (prs s).length) (by omega)
      have w := ht (((prs s).getD (i - (prs s).length) 0 : Nat) : Int) (by omega) this.1
      omega
  · by_cases g : j < (prs s).length
    · simp only [if_pos g, if_pos (show i < (prs s).length by omega)]
      have := hlt i j hij g; omega
    · have gj := hg (j - (prs s).length) (by omega)
      have wj := ht (((prs s).getD (j - (prs s).length) 0 : Nat) : Int) (by omega) gj.1
      by_cases g2 : i < (prs s).length
      · simp only [if_pos g2, if_neg g]
        have gi := hg i g2
        have wi := ht (((prs s).getD i 0 : Nat) : Int) (by omega) gi.1
        intro e
        have e2 : (((prs s).getD i 0 : Nat) : Int) = s (94 + (((prs s).getD (j - (prs s).length) 0 : Nat) : Int)) := by omega
        have e3 : s (94 + (((prs s).getD i 0 : Nat) : Int)) = (((prs s).getD (j - (prs s).length) 0 : Nat) : Int) := by rw [e2]; omega
        omega
      · simp only [if_neg g2, if_neg g]
        have gi := hg (i - (prs s).length) (by omega)
        have wi := ht (((prs s).getD (i - (prs s).length) 0 : Nat) : Int) (by omega) gi.1
        have hl := hlt (i - (prs s).length) (j - (prs s).length) (by omega) (by omega)
        intro e
        have e2 : s (94 + (((prs s).getD (i - (prs s).length) 0 : Nat) : Int)) = s (94 + (((prs s).getD (j - (prs s).length) 0 : Nat) : Int)) := by omega
        have e3 : s (94 + s (94 + (((prs s).getD (i - (prs s).length) 0 : Nat) : Int))) = s (94 + s (94 + (((prs s).getD (j - (prs s).length) 0 : Nat) : Int))) := by rw [e2]
        omega
/-- the classes of the people -/
abbrev hcl (c : Nat) : Prop := c = 2 ∨ c = 0 ∨ c = 3 ∨ c = 1 ∨ c = 5 ∨ c = 4 ∨ c = 7
theorem hcl_k (k : Int) : hcl (kC k) := by unfold hcl kC; (repeat' split) <;> omega
theorem trf_any {c kf : Nat} (h : hcl c) : tRef c kf = false := by rcases h with rfl | rfl | rfl | rfl | rfl | rfl | rfl <;> (match kf with | 0 => rfl | 1 => rfl | 2 => rfl | 3 => rfl | k + 4 => rfl)
theorem flP_any_112 {c : Nat} (h : hcl c) : tw_FL "TwinTools$Plan" 112 c 3 := by
  rcases h with rfl | rfl | rfl | rfl | rfl | rfl | rfl
  · exact flP_112_2
  · exact flP_112_0
  · exact flP_112_3
  · exact flP_112_1
  · exact flP_112_5
  · exact flP_112_4
  · exact flP_112_7
theorem flP_any_120 {c : Nat} (h : hcl c) : tw_FL "TwinTools$Plan" 120 c 1 := by
  rcases h with rfl | rfl | rfl | rfl | rfl | rfl | rfl
  · exact flP_120_2
  · exact flP_120_0
  · exact flP_120_3
  · exact flP_120_1
  · exact flP_120_5
  · exact flP_120_4
  · exact flP_120_7
theorem flP_any_129 {c : Nat} (h : hcl c) : tw_FL "TwinTools$Plan" 129 c 0 := by
  rcases h with rfl | rfl | rfl | rfl | rfl | rfl | rfl
  · exact flP_129_2
  · exact flP_129_0
  · exact flP_129_3
  · exact flP_129_1
  · exact flP_129_5
  · exact flP_129_4
  · exact flP_129_7
theorem flT_any_140 {c : Nat} (h : hcl c) : tw_FL "TwinTools" 140 c 0 := by
  rcases h with rfl | rfl | rfl | rfl | rfl | rfl | rfl
  · exact flT_140_2
  · exact flT_140_0
  · exact flT_140_3
  · exact flT_140_1
  · exact flT_140_5
  · exact flT_140_4
  · exact flT_140_7
theorem flT_any_145 {c : Nat} (h : hcl c) : tw_FL "TwinTools" 145 c 2 := by
  rcases h with rfl | rfl | rfl | rfl | rfl | rfl | rfl
  · exact flT_145_2
  · exact flT_145_0
  · exact flT_145_3
  · exact flT_145_1
  · exact flT_145_5
  · exact flT_145_4
  · exact flT_145_7
theorem flT_any_148 {c : Nat} (h : hcl c) : tw_FL "TwinTools" 148 c 3 := by
  rcases h with rfl | rfl | rfl | rfl | rfl | rfl | rfl
  · exact flT_148_2
  · exact flT_148_0
  · exact flT_148_3
  · exact flT_148_1
  · exact flT_148_5
  · exact flT_148_4
  · exact flT_148_7
section CJ
variable {l : Launch} {G : tG} {M : tM} {d mc ms n0 c2 : Nat} {P : Option tV → tH → Prop} {ls : List (Nat × tV)} {st : List tV} {k pc nx tg : Nat} {K : Nat → Nat × Nat} {I : Nat → Int → Int} {Q : Nat → Int → Option Nat} {nn : Nat}
theorem ar_copyiJ {i a b N N' n : Nat} {z : Int} (hd : M.2.2.2.2[k]? = some (pc, .invokestatic i, nx, tg)) (hw : Cond.methodLink M.1.cls i arraycopyName ∈ tw_tbl ∧ Cond.native arraycopyName ∈ tw_tbl ∧ Cond.static arraycopyName ∈ tw_tbl ∧ Cond.initialized "java/lang/System" ∈ tw_tbl) (hka : tK (K, I, Q, nn) a (14, N)) (hkb : tK (K, I, Q, nn) b (14, N')) (hz : z = (n : Int)) (hN : n ≤ N ∧ n ≤ N' ∧ n < 10000) (hdd : 1 ≤ d) (hst : (st.map tw_w).sum ≤ 8) (kk : ∀ J, (∀ x, x ≠ b → J x = I x) → (∀ j : Int, J b j = if 0 ≤ j ∧ j < n then I a j else I b j) → tw_AW l G M d mc ms n0 c2 P nx ls st (K, J, Q, nn)) : tw_AW l G M d mc ms n0 c2 P pc ls (vi z :: vi 0 :: vr (some b) :: vi 0 :: vr (some a) :: st) (K, I, Q, nn) := by
  refine ar_copyi hd hw hka hkb hz hN hdd hst ?_
  exact kk _ (fun x hx => if_neg hx) (fun j => by show (if b = b then tcpy (I a) (I b) n else I b) j = _; rw [if_pos rfl]; rfl)
end CJ
section CA2
variable {l : Launch} {G : tG} {K : Nat → Nat × Nat} {I J L : Nat → Int → Int} {Q : Nat → Int → Option Nat} {n : Nat} {s : Int → Int}
theorem c_fillJ {a N : Nat} {x : Int} (hN : N < 10000) (ha : tK (K, I, Q, n) a (14, N)) : tw_M l G 1 0 0 mJ7_fill [vr (some a), vi x] (K, I, Q, n) (fun r h' => r = none ∧ ∃ J, h' = (K, J, Q, n) ∧ (∀ b, b ≠ a → J b = I b) ∧ (∀ i : Int, 0 ≤ i → i < (N : Int) → J a i = x)) := tw_post (c_J7_fill hN ha) (fun r h' q => ⟨q.1, _, q.2, fun b hb => fillN_off hb _ _ _, fun i i1 i2 => fillN_at _ _ _ (by omega) (by omega)⟩)
theorem c_factJ {v : Nat} {a b c x : Int} (hv : VS K Q n v) (tx : tr x) : tw_M l G 1 0 0 mV_setFacts [vr (some v), vi a, vi b, vi c, vi x] (K, I, Q, n) (fun r h' => r = none ∧ ∃ J, h' = (K, J, Q, n) ∧ (∀ b, b ≠ v + 4 → J b = I b) ∧ J (v + 4) 1 = a ∧ J (v + 4) 2 = b ∧ J (v + 4) 3 = c ∧ J (v + 4) 4 = if x = 0 then 0 else 1) := tw_post (c_V_setFacts hv tx) (fun r h' q => ⟨q.1, _, q.2, fun b hb => by rw [uI_off _ _ _ hb, uI_off _ _ _ hb, uI_off _ _ _ hb, uI_off _ _ _ hb], by simp [uI, up], by simp [uI, up], by simp [uI, up], by simp [uI, up]⟩)
theorem bu_rBy {t u : Int} : bu (rBy s t 0) u = rBy s t u := by
  funext j
  unfold bu rBy
  by_cases h : j = 0
  · rw [if_pos h, if_pos h]
  · rw [if_neg h, if_neg h, if_neg h]
/-- a pair's worth, by its clauses -/
theorem rWorth_cl {t u : Int} {C : tCL} (h6 : s 6 ≠ -1) (ho : rOut s (s 6) = cFl C) (hC : LOK C) : rWorth s t u = clW (bu (rBy s t 0) u) C 0 := by
  rw [bu_rBy]
  unfold rWorth
  rw [if_neg h6, rRun_lR, ← clW_lR C 0 hC, ← ho]
  rfl
theorem rOut_deep (hR : RInv s) (hV : RVal s) {x : Int} (x1 : 0 ≤ x ∧ x < s 2) : lDeep 0 (rOut s x) = some 0 := by
  have h := hV x x1.1 x1.2
  have e := rDeeps_list (s := s) (f := 284 + 140 * x) (o := rOut s x) (fun i hi => by
    unfold rOut at hi ⊢
    rw [List.length_map, List.length_range] at hi
    rw [List.getD_eq_getElem?_getD, List.getElem?_map, List.getElem?_range hi]
    rfl) (s (279 + x)).toNat (by unfold rOut; rw [List.length_map, List.length_range]; exact Nat.le_refl _)
  rw [h, List.take_of_length_le (by unfold rOut; rw [List.length_map, List.length_range]; exact Nat.le_refl _)] at e
  exact e.symm
/-- what one more pair changes in the plan -/
def pAdd (I L : Nat → Int → Int) (s : Int → Int) (w t c : Nat) : Prop :=
  (L 40 2 = I 40 2 ∧ L 40 6 = bOr (I 40 6) (bAnd (bOr (bShl 1 (t : Int)) (bShl 1 (s (94 + (t : Int))))) (bXor (I w 11) (-1))) ∧ L 40 7 = bOr (I 40 7) (if s (26 + s (84 + (t : Int))) = s (26 + s (84 + s (94 + (t : Int)))) then bOr (bShl 1 (t : Int)) (bShl 1 (s (94 + (t : Int)))) else 0) ∧ L 40 11 = I 40 11 + 1) ∧
  L 52 = I 52 ∧
  L 53 = up (up (I 53) (s (84 + s (94 + (t : Int)))) (bOr (I 53 (s (84 + s (94 + (t : Int))))) (bShl 1 (t : Int)))) (s (84 + (t : Int))) (bOr (up (I 53) (s (84 + s (94 + (t : Int)))) (bOr (I 53 (s (84 + s (94 + (t : Int))))) (bShl 1 (t : Int))) (s (84 + (t : Int)))) (bShl 1 (s (94 + (t : Int))))) ∧
  L 54 = up (I 54) (c : Int) (t : Int) ∧ L 55 = up (I 55) (c : Int) (pHd s t) ∧
  L 56 = up (I 56) (c : Int) (if s (84 + (t : Int)) ≠ s (84 + s (94 + (t : Int))) ∧ bAnd (I w 11) (bOr (bShl 1 (t : Int)) (bShl 1 (s (94 + (t : Int))))) = 0 then bAnd (s (34 + s (84 + (t : Int)))) (s (34 + s (84 + s (94 + (t : Int))))) else 0) ∧
  (∀ u : Int, 0 ≤ u → u < 24 → L (42 + t) u = rWorth s (t : Int) u ∧ L (42 + (s (94 + (t : Int))).toNat) u = rWorth s (t : Int) u) ∧
  (∀ j : Nat, j < 10 → j ≠ t → (j : Int) ≠ s (94 + (t : Int)) → L (42 + j) = I (42 + j))
theorem sC_addPair_1_n {t c a1 a2 k1 k2 : Nat} (hS : tSt (K, I, Q, n)) (hq : Q 40 1 = some 1) (hN : WN 1 I s) (hR : RInv s) (hV : RVal s) (t1 : (t : Int) < s 1) (t2 : (t : Int) < s (94 + (t : Int))) (hc : I 40 11 = (c : Int)) (c5 : c < 5) (hQ1 : Q 4 (s (84 + (t : Int))) = some a1) (hQ2 : Q 4 (s (84 + s (94 + (t : Int)))) = some a2) (hk1 : hcl k1) (hk2 : hcl k2) (hKa1 : tK (K, I, Q, n) a1 (k1, 4)) (hKa2 : tK (K, I, Q, n) a2 (k2, 4)) (g1 : 78 ≤ a1 ∧ 78 ≤ a2) (hk1n : K a1 ≠ (14, 5) ∧ K a1 ≠ (14, 13)) (hk2n : K a2 ≠ (14, 5) ∧ K a2 ≠ (14, 13)) (f1 : I a1 0 = s (10 + s (84 + (t : Int))) ∧ I a1 1 = s (84 + (t : Int)) ∧ I a1 3 = s (26 + s (84 + (t : Int)))) (f2 : I a2 1 = s (84 + s (94 + (t : Int))) ∧ I a2 3 = s (26 + s (84 + s (94 + (t : Int))))) (hs6 : s 6 = -1) : ∀ (J : Nat → Int → Int), cq K I J → ((J 40 2 = I 40 2 ∧ J 40 6 = bOr (I 40 6) (bAnd (bOr (bShl 1 (t : Int)) (bShl 1 (s (94 + (t : Int))))) (bXor (I 1 11) (-1))) ∧ J 40 7 = bOr (I 40 7) (if s (26 + s (84 + (t : Int))) = s (26 + s (84 + s (94 + (t : Int)))) then bOr (bShl 1 (t : Int)) (bShl 1 (s (94 + (t : Int)))) else 0) ∧ J 40 11 = I 40 11) ∧ J 52 = I 52 ∧ J 53 = up (up (I 53) (s (84 + s (94 + (t : Int)))) (bOr (I 53 (s (84 + s (94 + (t : Int))))) (bShl 1 (t : Int)))) (s (84 + (t : Int))) (bOr (up (I 53) (s (84 + s (94 + (t : Int)))) (bOr (I 53 (s (84 + s (94 + (t : Int))))) (bShl 1 (t : Int))) (s (84 + (t : Int)))) (bShl 1 (s (94 + (t : Int))))) ∧ (J 54 = I 54 ∧ J 55 = I 55 ∧ J 56 = I 56) ∧ ∀ j : Nat, j < 10 → J (42 + j) = I (42 + j)) → tw_AW l G mP_addPair 4 0 0 n 0 (fun r h' => r = none ∧ ∃ L, h' = (K, L, Q, n) ∧ cq K I L ∧ pAdd I L s 1 t c) 182 [(7, vi ((if s (26 + s (84 + (t : Int))) = s (26 + s (84 + s (94 + (t : Int)))) then 1 else 0))), (6, vi (bOr (bShl 1 (t : Int)) (bShl 1 (s (94 + (t : Int)))))), (5, vr (some a2)), (4, vr (some a1)), (0, vr (some 40)), (1, vi ((t : Int))), (2, vi (s (94 + (t : Int)))), (3, vr (none))] [vi (if s (84 + (t : Int)) ≠ s (84 + s (94 + (t : Int))) ∧ bAnd (I 1 11) (bOr (bShl 1 (t : Int)) (bShl 1 (s (94 + (t : Int))))) = 0 then 1 else 0)] (K, J, Q, n) := by
  obtain ⟨h0, h1, h2, h3, h4, h5, h6, hp, hrw, ht, hr, hb, htp, hv⟩ := id hR
  have w1 := ht (t : Int) (by omega) (by omega)
  have w2 := ht (s (94 + (t : Int))) (by omega) (by omega)
  have wp1 := hp (s (84 + (t : Int))) (by omega) (by omega)
  have wp2 := hp (s (84 + s (94 + (t : Int)))) (by omega) (by omega)
  intro J hk hm
  refine ar_istore (k := 100) (l2 := [(8, _), (7, _), (6, _), (5, _), (4, _), (0, _), (1, _), (2, _), (3, _)]) rfl (by decide) rfl ?_
  have hcn : (if s (84 + (t : Int)) ≠ s (84 + s (94 + (t : Int))) ∧ bAnd (I 1 11) (bOr (bShl 1 (t : Int)) (bShl 1 (s (94 + (t : Int))))) = 0 then (1 : Int) else 0) = 0 ∨ (if s (84 + (t : Int)) ≠ s (84 + s (94 + (t : Int))) ∧ bAnd (I 1 11) (bOr (bShl 1 (t : Int)) (bShl 1 (s (94 + (t : Int))))) = 0 then (1 : Int) else 0) = 1 := by split <;> omega
  refine ar_aloadn (k := 101) rfl rfl ?_
  refine br_getR (k := 102) rfl (hS.k (by decide)) flP_45_6 (by decide) rfl (hS.r rfl) ?_
  refine ar_aloadn (k := 103) rfl rfl ?_
  refine br_getIz (k := 104) (z := 11) rfl (hS.k (by decide)) flP_54_6 (by decide) rfl rfl ?_
  refine tw_top (y := (c : Int)) (by rw [hm.1.2.2.2]; exact hc) ?_
  refine ar_iloadn (k := 105) rfl rfl ?_
  refine br_iastJ (k := 106) rfl (hS.k (by decide)) (by omega) (by omega) (by decide) (fun I106 e106 => ?_)
  have hk106 := cq.w hk (by omega) (by omega) e106
  refine ar_aloadn (k := 107) rfl rfl ?_
  refine br_getR (k := 108) rfl (hS.k (by decide)) flP_48_6 (by decide) rfl (hS.r rfl) ?_
  refine ar_aloadn (k := 109) rfl rfl ?_
  refine br_getIz (k := 110) (z := 11) rfl (hS.k (by decide)) flP_54_6 (by decide) rfl rfl ?_
  refine tw_top (y := (c : Int)) (by rw [e106, uI_off _ _ _ (by decide), hm.1.2.2.2]; exact hc) ?_
  refine ar_iconst (k := 111) rfl ?_
  refine ar_aload (k := 112) rfl rfl ?_
  refine br_getIz (k := 113) (z := 1) rfl hKa1 (flP_any_120 hk1) (by decide) (trf_any hk1) rfl ?_
  refine tw_top ((congrFun (hk106.1 a1 (by omega) hk1n.1 hk1n.2) _).trans f1.2.1) ?_
  refine ar_ishl (k := 114) rfl ?_
  refine ar_iconst (k := 115) rfl ?_
  refine ar_aload (k := 116) rfl rfl ?_
  refine br_getIz (k := 117) (z := 1) rfl hKa2 (flP_any_120 hk2) (by decide) (trf_any hk2) rfl ?_
  refine tw_top ((congrFun (hk106.1 a2 (by omega) hk2n.1 hk2n.2) _).trans f2.1) ?_
  refine ar_ishl (k := 118) rfl ?_
  refine ar_ior (k := 119) rfl ?_
  refine br_iastJ (k := 120) rfl (hS.k (by decide)) (by omega) (by omega) (by decide) (fun I120 e120 => ?_)
  have hk120 := cq.w hk106 (by omega) (by omega) e120
  refine ar_aloadn (k := 121) rfl rfl ?_
  refine br_getR (k := 122) rfl (hS.k (by decide)) flP_51_6 (by decide) rfl (hS.r rfl) ?_
  refine ar_aloadn (k := 123) rfl rfl ?_
  refine br_getIz (k := 124) (z := 11) rfl (hS.k (by decide)) flP_54_6 (by decide) rfl rfl ?_
  refine tw_top (y := (c : Int)) (by rw [e120, uI_off _ _ _ (by decide), e106, uI_off _ _ _ (by decide), hm.1.2.2.2]; exact hc) ?_
  refine ar_iload (k := 125) rfl rfl ?_
  refine ar_if_eq (k := 126) rfl (by omega) (fun c126 => ?_) (fun c126 => ?_)
  · refine ar_iconst (k := 141) rfl ?_
    refine tw_top (y := if s (84 + (t : Int)) ≠ s (84 + s (94 + (t : Int))) ∧ bAnd (I 1 11) (bOr (bShl 1 (t : Int)) (bShl 1 (s (94 + (t : Int))))) = 0 then bAnd (s (34 + s (84 + (t : Int)))) (s (34 + s (84 + s (94 + (t : Int))))) else 0) (by first | (exfalso; omega) | (rw [if_pos (by omega)]; done) | (rw [if_neg (by omega)]; done)) ?_
    refine br_iastJ (k := 142) rfl (hS.k (by decide)) (by omega) (by omega) (by decide) (fun I142 e142 => ?_)
    have hk142 := cq.w hk120 (by omega) (by omega) e142
    refine ar_aloadn (k := 143) rfl rfl ?_
    refine ar_dup (k := 144) rfl rfl ?_
    refine br_getIz (k := 145) (z := 11) rfl (hS.k (by decide)) flP_54_6 (by decide) rfl rfl ?_
    refine tw_top (y := (c : Int)) (by rw [e142, uI_off _ _ _ (by decide), e120, uI_off _ _ _ (by decide), e106, uI_off _ _ _ (by decide), hm.1.2.2.2]; exact hc) ?_
    refine ar_iconst (k := 146) rfl ?_
    refine ar_iadd (k := 147) rfl ?_
    refine br_putIJ (k := 148) rfl (hS.k (by decide)) flP_54_6 (by decide) rfl (fun _ _ _ q => by cases q; exact ⟨rfl, rfl⟩) (fun I148 e148 => ?_)
    change _ = uI _ 40 11 _ at e148
    have hk148 := cq.w hk142 (by omega) (by omega) e148
    refine ar_aloadn (k := 149) rfl rfl ?_
    refine br_getR (k := 150) rfl (hS.k (by decide)) flP_29_6 (by decide) rfl (hS.r rfl) ?_
    refine ar_iloadn (k := 151) rfl rfl ?_
    refine br_aald18 (k := 152) rfl (hS.k (by decide)) (by omega) (by omega) (by decide) (hS.row (t := (t : Int)) (by omega) (by omega)).1 ?_
    refine ar_iconst (k := 153) rfl ?_
    refine ar_callS (k := 154) (as := [_, _]) rfl lsP_86 (c_fillJ (by decide) (hS.row (t := (t : Int)) (by omega) (by omega)).2) rfl (by decide) (by decide) tw_m0 (Nat.le_of_ble_eq_true rfl) (fun r154 h154 p154 => ?_)
    obtain ⟨rfl, I154, rfl, fo154, fa154⟩ := p154
    have hk154 := cq.f hk148 (by omega) (by omega) fo154
    refine ar_aloadn (k := 155) rfl rfl ?_
    refine ar_ifnull (k := 156) rfl (fun c156 => ?_) (fun a156 c156 => ?_)
    · have hWW : ∀ u : Int, 0 ≤ u → u < 24 → I154 (42 + t) u = rWorth s (t : Int) u := fun u u1 u2 => by
        have q := fa154 u u1 u2
        rw [Int.toNat_natCast] at q
        rw [q]; unfold rWorth; rw [if_pos hs6]
      refine ar_skip ?_
      refine ar_aloadn (k := 174) rfl rfl ?_
      refine br_getR (k := 175) rfl (hS.k (by decide)) flP_29_6 (by decide) rfl (hS.r rfl) ?_
      refine ar_iloadn (k := 176) rfl rfl ?_
      refine br_aald18 (k := 177) rfl (hS.k (by decide)) (by omega) (by omega) (by decide) (hS.row (t := (t : Int)) (by omega) (by omega)).1 ?_
      refine ar_iconst (k := 178) rfl ?_
      refine ar_aloadn (k := 179) rfl rfl ?_
      refine br_getR (k := 180) rfl (hS.k (by decide)) flP_29_6 (by decide) rfl (hS.r rfl) ?_
      refine ar_iloadn (k := 181) rfl rfl ?_
      refine br_aald18 (k := 182) rfl (hS.k (by decide)) (by omega) (by omega) (by decide) (hS.row (t := s (94 + (t : Int))) (by omega) (by omega)).1 ?_
      refine ar_iconst (k := 183) rfl ?_
      refine ar_bipush (k := 184) rfl (by decide) ?_
      refine ar_copyiJ (k := 185) (n := 24) rfl lcP_140 (hS.row (t := (t : Int)) (by omega) (by omega)).2 (hS.row (t := s (94 + (t : Int))) (by omega) (by omega)).2 rfl (by decide) (by decide) (Nat.le_of_ble_eq_true rfl) (fun I185 e185 f185 => ?_)
      have hk185 := cq.f hk154 (by omega) (by omega) e185
      refine ar_ret (k := 186) rfl rfl rfl (Nat.le_refl _) ?_
      refine ⟨rfl, I185, rfl, hk185, ?_⟩
      have z40 : I185 40 = uI I142 40 11 ((c : Int) + 1) 40 := by rw [e185 40 (by omega), fo154 40 (by omega), e148]
      have zo : ∀ a, 52 ≤ a → a ≤ 56 → I185 a = I142 a := fun a b1 b2 => by rw [e185 a (by omega), fo154 a (by omega), e148, uI_off _ _ _ (by omega)]
      have z53 : I142 53 = J 53 := by rw [e142, uI_off _ _ _ (by decide), e120, uI_off _ _ _ (by decide), e106, uI_off _ _ _ (by decide)]
      have z52 : I142 52 = J 52 := by rw [e142, uI_off _ _ _ (by decide), e120, uI_off _ _ _ (by decide), e106, uI_off _ _ _ (by decide)]
      have y40 : I142 40 = J 40 := by rw [e142, uI_off _ _ _ (by decide), e120, uI_off _ _ _ (by decide), e106, uI_off _ _ _ (by decide)]
      have z54 : I142 54 = up (J 54) (c : Int) (t : Int) := by rw [e142, uI_off _ _ _ (by decide), e120, uI_off _ _ _ (by decide), e106, uI_set, setA_at]
      have z55 : I142 55 = up (J 55) (c : Int) (pHd s t) := by rw [e142, uI_off _ _ _ (by decide), e120, uI_set, setA_at, e106, uI_off _ _ _ (by decide)]; rfl
      have z56 : I142 56 = up (J 56) (c : Int) (if s (84 + (t : Int)) ≠ s (84 + s (94 + (t : Int))) ∧ bAnd (I 1 11) (bOr (bShl 1 (t : Int)) (bShl 1 (s (94 + (t : Int))))) = 0 then bAnd (s (34 + s (84 + (t : Int)))) (s (34 + s (84 + s (94 + (t : Int))))) else 0) := by rw [e142, uI_set, setA_at, e120, uI_off _ _ _ (by decide), e106, uI_off _ _ _ (by decide)]
      refine ⟨⟨?_, ?_, ?_, ?_⟩, ?_, ?_, ?_, ?_, ?_, fun u u1 u2 => ⟨?_, ?_⟩, fun j j1 j2 j3 => ?_⟩
      · rw [z40, uI_at, if_neg (by decide), y40]; exact hm.1.1
      · rw [z40, uI_at, if_neg (by decide), y40]; exact hm.1.2.1
      · rw [z40, uI_at, if_neg (by decide), y40]; exact hm.1.2.2.1
      · rw [z40, uI_at, if_pos rfl, hc]
      · rw [zo 52 (by omega) (by omega), z52]; exact hm.2.1
      · rw [zo 53 (by omega) (by omega), z53]; exact hm.2.2.1
      · rw [zo 54 (by omega) (by omega), z54, hm.2.2.2.1.1]
      · rw [zo 55 (by omega) (by omega), z55, hm.2.2.2.1.2.1]
      · rw [zo 56 (by omega) (by omega), z56, hm.2.2.2.1.2.2]
      · rw [e185 _ (by omega)]; exact hWW u u1 u2
      · rw [f185 u, if_pos ⟨u1, u2⟩]; exact hWW u u1 u2
      · rw [e185 _ (by omega), fo154 _ (by omega), e148, uI_off _ _ _ (by omega), e142, uI_off _ _ _ (by omega), e120, uI_off _ _ _ (by omega), e106, uI_off _ _ _ (by omega)]; exact hm.2.2.2.2 j j1
    · cases c156
  · refine ar_aloadn (k := 127) rfl rfl ?_
    refine br_getR (k := 128) rfl (hS.k (by decide)) flP_18_6 (by decide) rfl hq ?_
    refine br_getR (k := 129) rfl (hS.k (by decide)) flP_123_10 (by decide) rfl (hS.r rfl) ?_
    refine ar_aload (k := 130) rfl rfl ?_
    refine br_getIz (k := 131) (z := 1) rfl hKa1 (flP_any_120 hk1) (by decide) (trf_any hk1) rfl ?_
    refine tw_top ((congrFun (hk120.1 a1 (by omega) hk1n.1 hk1n.2) _).trans f1.2.1) ?_
    refine br_iald (k := 132) rfl (hS.k (by decide)) (by omega) (by omega) (by decide) ?_
    refine tw_top (WN.fr (WN.q1 hN hS hk120) (by omega) (by omega)) ?_
    refine ar_aloadn (k := 133) rfl rfl ?_
    refine br_getR (k := 134) rfl (hS.k (by decide)) flP_18_6 (by decide) rfl hq ?_
    refine br_getR (k := 135) rfl (hS.k (by decide)) flP_123_10 (by decide) rfl (hS.r rfl) ?_
    refine ar_aload (k := 136) rfl rfl ?_
    refine br_getIz (k := 137) (z := 1) rfl hKa2 (flP_any_120 hk2) (by decide) (trf_any hk2) rfl ?_
    refine tw_top ((congrFun (hk120.1 a2 (by omega) hk2n.1 hk2n.2) _).trans f2.1) ?_
    refine br_iald (k := 138) rfl (hS.k (by decide)) (by omega) (by omega) (by decide) ?_
    refine tw_top (WN.fr (WN.q1 hN hS hk120) (by omega) (by omega)) ?_
    refine ar_iand (k := 139) rfl ?_
    refine ar_goto (k := 140) rfl ?_
    refine tw_top (y := if s (84 + (t : Int)) ≠ s (84 + s (94 + (t : Int))) ∧ bAnd (I 1 11) (bOr (bShl 1 (t : Int)) (bShl 1 (s (94 + (t : Int))))) = 0 then bAnd (s (34 + s (84 + (t : Int)))) (s (34 + s (84 + s (94 + (t : Int))))) else 0) (by first | (exfalso; omega) | (rw [if_pos (by omega)]; done) | (rw [if_neg (by omega)]; done)) ?_
    refine br_iastJ (k := 142) rfl (hS.k (by decide)) (by omega) (by omega) (by decide) (fun I142 e142 => ?_)
    have hk142 := cq.w hk120 (by omega) (by omega) e142
    refine ar_aloadn (k := 143) rfl rfl ?_
    refine ar_dup (k := 144) rfl rfl ?_
    refine br_getIz (k := 145) (z := 11) rfl (hS.k (by decide)) flP_54_6 (by decide) rfl rfl ?_
    refine tw_top (y := (c : Int)) (by rw [e142, uI_off _ _ _ (by decide), e120, uI_off _ _ _ (by decide), e106, uI_off _ _ _ (by decide), hm.1.2.2.2]; exact hc) ?_
    refine ar_iconst (k := 146) rfl ?_
    refine ar_iadd (k := 147) rfl ?_
    refine br_putIJ (k := 148) rfl (hS.k (by decide)) flP_54_6 (by decide) rfl (fun _ _ _ q => by cases q; exact ⟨rfl, rfl⟩) (fun I148 e148 => ?_)
    change _ = uI _ 40 11 _ at e148
    have hk148 := cq.w hk142 (by omega) (by omega) e148
    refine ar_aloadn (k := 149) rfl rfl ?_
    refine br_getR (k := 150) rfl (hS.k (by decide)) flP_29_6 (by decide) rfl (hS.r rfl) ?_
    refine ar_iloadn (k := 151) rfl rfl ?_
    refine br_aald18 (k := 152) rfl (hS.k (by decide)) (by omega) (by omega) (by decide) (hS.row (t := (t : Int)) (by omega) (by omega)).1 ?_
    refine ar_iconst (k := 153) rfl ?_
    refine ar_callS (k := 154) (as := [_, _]) rfl lsP_86 (c_fillJ (by decide) (hS.row (t := (t : Int)) (by omega) (by omega)).2) rfl (by decide) (by decide) tw_m0 (Nat.le_of_ble_eq_true rfl) (fun r154 h154 p154 => ?_)
    obtain ⟨rfl, I154, rfl, fo154, fa154⟩ := p154
    have hk154 := cq.f hk148 (by omega) (by omega) fo154
    refine ar_aloadn (k := 155) rfl rfl ?_
    refine ar_ifnull (k := 156) rfl (fun c156 => ?_) (fun a156 c156 => ?_)
    · have hWW : ∀ u : Int, 0 ≤ u → u < 24 → I154 (42 + t) u = rWorth s (t : Int) u := fun u u1 u2 => by
        have q := fa154 u u1 u2
        rw [Int.toNat_natCast] at q
        rw [q]; unfold rWorth; rw [if_pos hs6]
      refine ar_skip ?_
      refine ar_aloadn (k := 174) rfl rfl ?_
      refine br_getR (k := 175) rfl (hS.k (by decide)) flP_29_6 (by decide) rfl (hS.r rfl) ?_
      refine ar_iloadn (k := 176) rfl rfl ?_
      refine br_aald18 (k := 177) rfl (hS.k (by decide)) (by omega) (by omega) (by decide) (hS.row (t := (t : Int)) (by omega) (by omega)).1 ?_
      refine ar_iconst (k := 178) rfl ?_
      refine ar_aloadn (k := 179) rfl rfl ?_
      refine br_getR (k := 180) rfl (hS.k (by decide)) flP_29_6 (by decide) rfl (hS.r rfl) ?_
      refine ar_iloadn (k := 181) rfl rfl ?_
      refine br_aald18 (k := 182) rfl (hS.k (by decide)) (by omega) (by omega) (by decide) (hS.row (t := s (94 + (t : Int))) (by omega) (by omega)).1 ?_
      refine ar_iconst (k := 183) rfl ?_
      refine ar_bipush (k := 184) rfl (by decide) ?_
      refine ar_copyiJ (k := 185) (n := 24) rfl lcP_140 (hS.row (t := (t : Int)) (by omega) (by omega)).2 (hS.row (t := s (94 + (t : Int))) (by omega) (by omega)).2 rfl (by decide) (by decide) (Nat.le_of_ble_eq_true rfl) (fun I185 e185 f185 => ?_)
      have hk185 := cq.f hk154 (by omega) (by omega) e185
      refine ar_ret (k := 186) rfl rfl rfl (Nat.le_refl _) ?_
      refine ⟨rfl, I185, rfl, hk185, ?_⟩
      have z40 : I185 40 = uI I142 40 11 ((c : Int) + 1) 40 := by rw [e185 40 (by omega), fo154 40 (by omega), e148]
      have zo : ∀ a, 52 ≤ a → a ≤ 56 → I185 a = I142 a := fun a b1 b2 => by rw [e185 a (by omega), fo154 a (by omega), e148, uI_off _ _ _ (by omega)]
      have z53 : I142 53 = J 53 := by rw [e142, uI_off _ _ _ (by decide), e120, uI_off _ _ _ (by decide), e106, uI_off _ _ _ (by decide)]
      have z52 : I142 52 = J 52 := by rw [e142, uI_off _ _ _ (by decide), e120, uI_off _ _ _ (by decide), e106, uI_off _ _ _ (by decide)]
      have y40 : I142 40 = J 40 := by rw [e142, uI_off _ _ _ (by decide), e120, uI_off _ _ _ (by decide), e106, uI_off _ _ _ (by decide)]
      have z54 : I142 54 = up (J 54) (c : Int) (t : Int) := by rw [e142, uI_off _ _ _ (by decide), e120, uI_off _ _ _ (by decide), e106, uI_set, setA_at]
      have z55 : I142 55 = up (J 55) (c : Int) (pHd s t) := by rw [e142, uI_off _ _ _ (by decide), e120, uI_set, setA_at, e106, uI_off _ _ _ (by decide)]; rfl
      have z56 : I142 56 = up (J 56) (c : Int) (if s (84 + (t : Int)) ≠ s (84 + s (94 + (t : Int))) ∧ bAnd (I 1 11) (bOr (bShl 1 (t : Int)) (bShl 1 (s (94 + (t : Int))))) = 0 then bAnd (s (34 + s (84 + (t : Int)))) (s (34 + s (84 + s (94 + (t : Int))))) else 0) := by rw [e142, uI_set, setA_at, e120, uI_off _ _ _ (by decide), e106, uI_off _ _ _ (by decide)]
      refine ⟨⟨?_, ?_, ?_, ?_⟩, ?_, ?_, ?_, ?_, ?_, fun u u1 u2 => ⟨?_, ?_⟩, fun j j1 j2 j3 => ?_⟩
      · rw [z40, uI_at, if_neg (by decide), y40]; exact hm.1.1
      · rw [z40, uI_at, if_neg (by decide), y40]; exact hm.1.2.1
      · rw [z40, uI_at, if_neg (by decide), y40]; exact hm.1.2.2.1
      · rw [z40, uI_at, if_pos rfl, hc]
      · rw [zo 52 (by omega) (by omega), z52]; exact hm.2.1
      · rw [zo 53 (by omega) (by omega), z53]; exact hm.2.2.1
      · rw [zo 54 (by omega) (by omega), z54, hm.2.2.2.1.1]
      · rw [zo 55 (by omega) (by omega), z55, hm.2.2.2.1.2.1]
      · rw [zo 56 (by omega) (by omega), z56, hm.2.2.2.1.2.2]
      · rw [e185 _ (by omega)]; exact hWW u u1 u2
      · rw [f185 u, if_pos ⟨u1, u2⟩]; exact hWW u u1 u2
      · rw [e185 _ (by omega), fo154 _ (by omega), e148, uI_off _ _ _ (by omega), e142, uI_off _ _ _ (by omega), e120, uI_off _ _ _ (by omega), e106, uI_off _ _ _ (by omega)]; exact hm.2.2.2.2 j j1
    · cases c156
theorem sB_addPair_1_n {t c a1 a2 k1 k2 : Nat} (hS : tSt (K, I, Q, n)) (hq : Q 40 1 = some 1) (hN : WN 1 I s) (hR : RInv s) (hV : RVal s) (t1 : (t : Int) < s 1) (t2 : (t : Int) < s (94 + (t : Int))) (hc : I 40 11 = (c : Int)) (c5 : c < 5) (hQ1 : Q 4 (s (84 + (t : Int))) = some a1) (hQ2 : Q 4 (s (84 + s (94 + (t : Int)))) = some a2) (hk1 : hcl k1) (hk2 : hcl k2) (hKa1 : tK (K, I, Q, n) a1 (k1, 4)) (hKa2 : tK (K, I, Q, n) a2 (k2, 4)) (g1 : 78 ≤ a1 ∧ 78 ≤ a2) (hk1n : K a1 ≠ (14, 5) ∧ K a1 ≠ (14, 13)) (hk2n : K a2 ≠ (14, 5) ∧ K a2 ≠ (14, 13)) (f1 : I a1 0 = s (10 + s (84 + (t : Int))) ∧ I a1 1 = s (84 + (t : Int)) ∧ I a1 3 = s (26 + s (84 + (t : Int)))) (f2 : I a2 1 = s (84 + s (94 + (t : Int))) ∧ I a2 3 = s (26 + s (84 + s (94 + (t : Int))))) (hs6 : s 6 = -1) : tw_AW l G mP_addPair 4 0 0 n 0 (fun r h' => r = none ∧ ∃ L, h' = (K, L, Q, n) ∧ cq K I L ∧ pAdd I L s 1 t c) 76 [(6, vi (bOr (bShl 1 (t : Int)) (bShl 1 (s (94 + (t : Int)))))), (5, vr (some a2)), (4, vr (some a1)), (0, vr (some 40)), (1, vi ((t : Int))), (2, vi (s (94 + (t : Int)))), (3, vr (none))] [vi (if s (26 + s (84 + (t : Int))) = s (26 + s (84 + s (94 + (t : Int)))) then 1 else 0)] (K, I, Q, n) := by
  obtain ⟨h0, h1, h2, h3, h4, h5, h6, hp, hrw, ht, hr, hb, htp, hv⟩ := id hR
  have w1 := ht (t : Int) (by omega) (by omega)
  have w2 := ht (s (94 + (t : Int))) (by omega) (by omega)
  have wp1 := hp (s (84 + (t : Int))) (by omega) (by omega)
  have wp2 := hp (s (84 + s (94 + (t : Int)))) (by omega) (by omega)
  have hk : cq K I I := cq.rf
  have hcn : (if s (26 + s (84 + (t : Int))) = s (26 + s (84 + s (94 + (t : Int)))) then (1 : Int) else 0) = 0 ∨ (if s (26 + s (84 + (t : Int))) = s (26 + s (84 + s (94 + (t : Int)))) then (1 : Int) else 0) = 1 := by split <;> omega
  have tb9 : tr (bAnd (I 1 11) (bOr (bShl 1 (t : Int)) (bShl 1 (s (94 + (t : Int)))))) := tr_toInt _
  refine ar_istore (k := 41) (l2 := [(7, _), (6, _), (5, _), (4, _), (0, _), (1, _), (2, _), (3, _)]) rfl (by decide) rfl ?_
  refine ar_aloadn (k := 42) rfl rfl ?_
  refine ar_dup (k := 43) rfl rfl ?_
  refine br_getIz (k := 44) (z := 6) rfl (hS.k (by decide)) flP_39_6 (by decide) rfl rfl ?_
  refine ar_iload (k := 45) rfl rfl ?_
  refine ar_aloadn (k := 46) rfl rfl ?_
  refine br_getR (k := 47) rfl (hS.k (by decide)) flP_18_6 (by decide) rfl hq ?_
  refine br_getIz (k := 48) (z := 11) rfl (hS.k (by decide)) flP_117_10 (by decide) rfl rfl ?_
  refine tw_top (congrFun ((hk.at hS (by omega)) : _ = I 1) _) ?_
  refine ar_iconst (k := 49) rfl ?_
  refine ar_ixor (k := 50) rfl ?_
  refine ar_iand (k := 51) rfl ?_
  refine ar_ior (k := 52) rfl ?_
  refine br_putIJ (k := 53) rfl (hS.k (by decide)) flP_39_6 (by decide) rfl (fun _ _ _ q => by cases q; exact ⟨rfl, rfl⟩) (fun I53 e53 => ?_)
  change _ = uI _ 40 6 _ at e53
  have hk53 := cq.w hk (by omega) (by omega) e53
  refine ar_aloadn (k := 54) rfl rfl ?_
  refine ar_dup (k := 55) rfl rfl ?_
  refine br_getIz (k := 56) (z := 7) rfl (hS.k (by decide)) flP_42_6 (by decide) rfl rfl ?_
  refine tw_top (y := I 40 7) (by rw [e53, uI_at, if_neg (by decide)]) ?_
  refine ar_iload (k := 57) rfl rfl ?_
  refine ar_if_eq (k := 58) rfl (by omega) (fun c58 => ?_) (fun c58 => ?_)
  · refine ar_iconst (k := 61) rfl ?_
    refine tw_top (y := if s (26 + s (84 + (t : Int))) = s (26 + s (84 + s (94 + (t : Int)))) then bOr (bShl 1 (t : Int)) (bShl 1 (s (94 + (t : Int)))) else 0) (by first | (exfalso; omega) | (rw [if_pos (by omega)]; done) | (rw [if_neg (by omega)]; done)) ?_
    refine ar_ior (k := 62) rfl ?_
    refine br_putIJ (k := 63) rfl (hS.k (by decide)) flP_42_6 (by decide) rfl (fun _ _ _ q => by cases q; exact ⟨rfl, rfl⟩) (fun I63 e63 => ?_)
    change _ = uI _ 40 7 _ at e63
    have hk63 := cq.w hk53 (by omega) (by omega) e63
    refine ar_aloadn (k := 64) rfl rfl ?_
    refine br_getR (k := 65) rfl (hS.k (by decide)) flP_36_6 (by decide) rfl (hS.r rfl) ?_
    refine ar_aload (k := 66) rfl rfl ?_
    refine br_getIz (k := 67) (z := 1) rfl hKa2 (flP_any_120 hk2) (by decide) (trf_any hk2) rfl ?_
    refine tw_top ((congrFun (hk63.1 a2 (by omega) hk2n.1 hk2n.2) _).trans f2.1) ?_
    refine ar_dup2 (k := 68) rfl rfl rfl ?_
    refine br_iald (k := 69) rfl (hS.k (by decide)) (by omega) (by omega) (by decide) ?_
    refine tw_top (y := I 53 (s (84 + s (94 + (t : Int))))) (by rw [e63, uI_off _ _ _ (by decide), e53, uI_off _ _ _ (by decide)]) ?_
    refine ar_iconst (k := 70) rfl ?_
    refine ar_iloadn (k := 71) rfl rfl ?_
    refine ar_ishl (k := 72) rfl ?_
    refine ar_ior (k := 73) rfl ?_
    refine br_iastJ (k := 74) rfl (hS.k (by decide)) (by omega) (by omega) (by decide) (fun I74 e74 => ?_)
    have hk74 := cq.w hk63 (by omega) (by omega) e74
    refine ar_aloadn (k := 75) rfl rfl ?_
    refine br_getR (k := 76) rfl (hS.k (by decide)) flP_36_6 (by decide) rfl (hS.r rfl) ?_
    refine ar_aload (k := 77) rfl rfl ?_
    refine br_getIz (k := 78) (z := 1) rfl hKa1 (flP_any_120 hk1) (by decide) (trf_any hk1) rfl ?_
    refine tw_top ((congrFun (hk74.1 a1 (by omega) hk1n.1 hk1n.2) _).trans f1.2.1) ?_
    refine ar_dup2 (k := 79) rfl rfl rfl ?_
    refine br_iald (k := 80) rfl (hS.k (by decide)) (by omega) (by omega) (by decide) ?_
    refine tw_top (y := up (I 53) (s (84 + s (94 + (t : Int)))) (bOr (I 53 (s (84 + s (94 + (t : Int))))) (bShl 1 (t : Int))) (s (84 + (t : Int)))) (by rw [e74, uI_set, setA_at, e63, uI_off _ _ _ (by decide), e53, uI_off _ _ _ (by decide)]) ?_
    refine ar_iconst (k := 81) rfl ?_
    refine ar_iloadn (k := 82) rfl rfl ?_
    refine ar_ishl (k := 83) rfl ?_
    refine ar_ior (k := 84) rfl ?_
    refine br_iastJ (k := 85) rfl (hS.k (by decide)) (by omega) (by omega) (by decide) (fun I85 e85 => ?_)
    have hk85 := cq.w hk74 (by omega) (by omega) e85
    refine ar_aload (k := 86) rfl rfl ?_
    refine br_getIz (k := 87) (z := 1) rfl hKa1 (flP_any_120 hk1) (by decide) (trf_any hk1) rfl ?_
    refine tw_top ((congrFun (hk85.1 a1 (by omega) hk1n.1 hk1n.2) _).trans f1.2.1) ?_
    refine ar_aload (k := 88) rfl rfl ?_
    refine br_getIz (k := 89) (z := 1) rfl hKa2 (flP_any_120 hk2) (by decide) (trf_any hk2) rfl ?_
    refine tw_top ((congrFun (hk85.1 a2 (by omega) hk2n.1 hk2n.2) _).trans f2.1) ?_
    refine ar_icmp_eq (k := 90) rfl (by omega) (by omega) (fun c90 => ?_) (fun c90 => ?_)
    · refine ar_iconst (k := 99) rfl ?_
      refine tw_top (y := if s (84 + (t : Int)) ≠ s (84 + s (94 + (t : Int))) ∧ bAnd (I 1 11) (bOr (bShl 1 (t : Int)) (bShl 1 (s (94 + (t : Int))))) = 0 then 1 else 0) (by first | (exfalso; omega) | (rw [if_pos (by omega)]; done) | (rw [if_neg (by omega)]; done)) ?_
      refine ar_sub (l2 := [(7, vi ((if s (26 + s (84 + (t : Int))) = s (26 + s (84 + s (94 + (t : Int)))) then 1 else 0))), (6, vi (bOr (bShl 1 (t : Int)) (bShl 1 (s (94 + (t : Int)))))), (5, vr (some a2)), (4, vr (some a1)), (0, vr (some 40)), (1, vi ((t : Int))), (2, vi (s (94 + (t : Int)))), (3, vr (none))]) (tw_s (tw_g 0 rfl) (tw_s (tw_g 1 rfl) (tw_s (tw_g 2 rfl) (tw_s (tw_g 3 rfl) (tw_s (tw_g 4 rfl) (tw_s (tw_g 5 rfl) (tw_s (tw_g 6 rfl) (tw_s (tw_g 7 rfl) tw_s0)))))))) ?_
      exact sC_addPair_1_n hS hq hN hR hV t1 t2 hc c5 hQ1 hQ2 hk1 hk2 hKa1 hKa2 g1 hk1n hk2n f1 f2 hs6 I85 hk85 ⟨⟨by simp only [e85, e74, e63, e53, uI, up, Nat.reduceEqDiff, reduceIte, Int.reduceEq], by simp only [e85, e74, e63, e53, uI, up, Nat.reduceEqDiff, reduceIte, Int.reduceEq], by simp only [e85, e74, e63, e53, uI, up, Nat.reduceEqDiff, reduceIte, Int.reduceEq], by simp only [e85, e74, e63, e53, uI, up, Nat.reduceEqDiff, reduceIte, Int.reduceEq]⟩, by rw [e85, uI_off _ _ _ (by decide), e74, uI_off _ _ _ (by decide), e63, uI_off _ _ _ (by decide), e53, uI_off _ _ _ (by decide)], by rw [e85, uI_set, setA_at, e74, uI_set, setA_at, e63, uI_off _ _ _ (by decide), e53, uI_off _ _ _ (by decide)], ⟨by rw [e85, uI_off _ _ _ (by decide), e74, uI_off _ _ _ (by decide), e63, uI_off _ _ _ (by decide), e53, uI_off _ _ _ (by decide)], by rw [e85, uI_off _ _ _ (by decide), e74, uI_off _ _ _ (by decide), e63, uI_off _ _ _ (by decide), e53, uI_off _ _ _ (by decide)], by rw [e85, uI_off _ _ _ (by decide), e74, uI_off _ _ _ (by decide), e63, uI_off _ _ _ (by decide), e53, uI_off _ _ _ (by decide)]⟩, fun j hj => by rw [e85, uI_off _ _ _ (by omega), e74, uI_off _ _ _ (by omega), e63, uI_off _ _ _ (by omega), e53, uI_off _ _ _ (by omega)]⟩
    · refine ar_aloadn (k := 91) rfl rfl ?_
      refine br_getR (k := 92) rfl (hS.k (by decide)) flP_18_6 (by decide) rfl hq ?_
      refine br_getIz (k := 93) (z := 11) rfl (hS.k (by decide)) flP_117_10 (by decide) rfl rfl ?_
      refine tw_top (congrFun ((hk85.at hS (by omega)) : _ = I 1) _) ?_
      refine ar_iload (k := 94) rfl rfl ?_
      refine ar_iand (k := 95) rfl ?_
      refine ar_if_ne (k := 96) rfl (by omega) (fun c96 => ?_) (fun c96 => ?_)
      · refine ar_iconst (k := 99) rfl ?_
        refine tw_top (y := if s (84 + (t : Int)) ≠ s (84 + s (94 + (t : Int))) ∧ bAnd (I 1 11) (bOr (bShl 1 (t : Int)) (bShl 1 (s (94 + (t : Int))))) = 0 then 1 else 0) (by first | (exfalso; omega) | (rw [if_pos (by omega)]; done) | (rw [if_neg (by omega)]; done)) ?_
        refine ar_sub (l2 := [(7, vi ((if s (26 + s (84 + (t : Int))) = s (26 + s (84 + s (94 + (t : Int)))) then 1 else 0))), (6, vi (bOr (bShl 1 (t : Int)) (bShl 1 (s (94 + (t : Int)))))), (5, vr (some a2)), (4, vr (some a1)), (0, vr (some 40)), (1, vi ((t : Int))), (2, vi (s (94 + (t : Int)))), (3, vr (none))]) (tw_s (tw_g 0 rfl) (tw_s (tw_g 1 rfl) (tw_s (tw_g 2 rfl) (tw_s (tw_g 3 rfl) (tw_s (tw_g 4 rfl) (tw_s (tw_g 5 rfl) (tw_s (tw_g 6 rfl) (tw_s (tw_g 7 rfl) tw_s0)))))))) ?_
        exact sC_addPair_1_n hS hq hN hR hV t1 t2 hc c5 hQ1 hQ2 hk1 hk2 hKa1 hKa2 g1 hk1n hk2n f1 f2 hs6 I85 hk85 ⟨⟨by simp only [e85, e74, e63, e53, uI, up, Nat.reduceEqDiff, reduceIte, Int.reduceEq], by simp only [e85, e74, e63, e53, uI, up, Nat.reduceEqDiff, reduceIte, Int.reduceEq], by simp only [e85, e74, e63, e53, uI, up, Nat.reduceEqDiff, reduceIte, Int.reduceEq], by simp only [e85, e74, e63, e53, uI, up, Nat.reduceEqDiff, reduceIte, Int.reduceEq]⟩, by rw [e85, uI_off _ _ _ (by decide), e74, uI_off _ _ _ (by decide), e63, uI_off _ _ _ (by decide), e53, uI_off _ _ _ (by decide)], by rw [e85, uI_set, setA_at, e74, uI_set, setA_at, e63, uI_off _ _ _ (by decide), e53, uI_off _ _ _ (by decide)], ⟨by rw [e85, uI_off _ _ _ (by decide), e74, uI_off _ _ _ (by decide), e63, uI_off _ _ _ (by decide), e53, uI_off _ _ _ (by decide)], by rw [e85, uI_off _ _ _ (by decide), e74, uI_off _ _ _ (by decide), e63, uI_off _ _ _ (by decide), e53, uI_off _ _ _ (by decide)], by rw [e85, uI_off _ _ _ (by decide), e74, uI_off _ _ _ (by decide), e63, uI_off _ _ _ (by decide), e53, uI_off _ _ _ (by decide)]⟩, fun j hj => by rw [e85, uI_off _ _ _ (by omega), e74, uI_off _ _ _ (by omega), e63, uI_off _ _ _ (by omega), e53, uI_off _ _ _ (by omega)]⟩
      · refine ar_iconst (k := 97) rfl ?_
        refine ar_goto (k := 98) rfl ?_
        refine tw_top (y := if s (84 + (t : Int)) ≠ s (84 + s (94 + (t : Int))) ∧ bAnd (I 1 11) (bOr (bShl 1 (t : Int)) (bShl 1 (s (94 + (t : Int))))) = 0 then 1 else 0) (by first | (exfalso; omega) | (rw [if_pos (by omega)]; done) | (rw [if_neg (by omega)]; done)) ?_
        refine ar_sub (l2 := [(7, vi ((if s (26 + s (84 + (t : Int))) = s (26 + s (84 + s (94 + (t : Int)))) then 1 else 0))), (6, vi (bOr (bShl 1 (t : Int)) (bShl 1 (s (94 + (t : Int)))))), (5, vr (some a2)), (4, vr (some a1)), (0, vr (some 40)), (1, vi ((t : Int))), (2, vi (s (94 + (t : Int)))), (3, vr (none))]) (tw_s (tw_g 0 rfl) (tw_s (tw_g 1 rfl) (tw_s (tw_g 2 rfl) (tw_s (tw_g 3 rfl) (tw_s (tw_g 4 rfl) (tw_s (tw_g 5 rfl) (tw_s (tw_g 6 rfl) (tw_s (tw_g 7 rfl) tw_s0)))))))) ?_
        exact sC_addPair_1_n hS hq hN hR hV t1 t2 hc c5 hQ1 hQ2 hk1 hk2 hKa1 hKa2 g1 hk1n hk2n f1 f2 hs6 I85 hk85 ⟨⟨by simp only [e85, e74, e63, e53, uI, up, Nat.reduceEqDiff, reduceIte, Int.reduceEq], by simp only [e85, e74, e63, e53, uI, up, Nat.reduceEqDiff, reduceIte, Int.reduceEq], by simp only [e85, e74, e63, e53, uI, up, Nat.reduceEqDiff, reduceIte, Int.reduceEq], by simp only [e85, e74, e63, e53, uI, up, Nat.reduceEqDiff, reduceIte, Int.reduceEq]⟩, by rw [e85, uI_off _ _ _ (by decide), e74, uI_off _ _ _ (by decide), e63, uI_off _ _ _ (by decide), e53, uI_off _ _ _ (by decide)], by rw [e85, uI_set, setA_at, e74, uI_set, setA_at, e63, uI_off _ _ _ (by decide), e53, uI_off _ _ _ (by decide)], ⟨by rw [e85, uI_off _ _ _ (by decide), e74, uI_off _ _ _ (by decide), e63, uI_off _ _ _ (by decide), e53, uI_off _ _ _ (by decide)], by rw [e85, uI_off _ _ _ (by decide), e74, uI_off _ _ _ (by decide), e63, uI_off _ _ _ (by decide), e53, uI_off _ _ _ (by decide)], by rw [e85, uI_off _ _ _ (by decide), e74, uI_off _ _ _ (by decide), e63, uI_off _ _ _ (by decide), e53, uI_off _ _ _ (by decide)]⟩, fun j hj => by rw [e85, uI_off _ _ _ (by omega), e74, uI_off _ _ _ (by omega), e63, uI_off _ _ _ (by omega), e53, uI_off _ _ _ (by omega)]⟩
  · refine ar_iload (k := 59) rfl rfl ?_
    refine ar_goto (k := 60) rfl ?_
    refine tw_top (y := if s (26 + s (84 + (t : Int))) = s (26 + s (84 + s (94 + (t : Int)))) then bOr (bShl 1 (t : Int)) (bShl 1 (s (94 + (t : Int)))) else 0) (by first | (exfalso; omega) | (rw [if_pos (by omega)]; done) | (rw [if_neg (by omega)]; done)) ?_
    refine ar_ior (k := 62) rfl ?_
    refine br_putIJ (k := 63) rfl (hS.k (by decide)) flP_42_6 (by decide) rfl (fun _ _ _ q => by cases q; exact ⟨rfl, rfl⟩) (fun I63 e63 => ?_)
    change _ = uI _ 40 7 _ at e63
    have hk63 := cq.w hk53 (by omega) (by omega) e63
    refine ar_aloadn (k := 64) rfl rfl ?_
    refine br_getR (k := 65) rfl (hS.k (by decide)) flP_36_6 (by decide) rfl (hS.r rfl) ?_
    refine ar_aload (k := 66) rfl rfl ?_
    refine br_getIz (k := 67) (z := 1) rfl hKa2 (flP_any_120 hk2) (by decide) (trf_any hk2) rfl ?_
    refine tw_top ((congrFun (hk63.1 a2 (by omega) hk2n.1 hk2n.2) _).trans f2.1) ?_
    refine ar_dup2 (k := 68) rfl rfl rfl ?_
    refine br_iald (k := 69) rfl (hS.k (by decide)) (by omega) (by omega) (by decide) ?_
    refine tw_top (y := I 53 (s (84 + s (94 + (t : Int))))) (by rw [e63, uI_off _ _ _ (by decide), e53, uI_off _ _ _ (by decide)]) ?_
    refine ar_iconst (k := 70) rfl ?_
    refine ar_iloadn (k := 71) rfl rfl ?_
    refine ar_ishl (k := 72) rfl ?_
    refine ar_ior (k := 73) rfl ?_
    refine br_iastJ (k := 74) rfl (hS.k (by decide)) (by omega) (by omega) (by decide) (fun I74 e74 => ?_)
    have hk74 := cq.w hk63 (by omega) (by omega) e74
    refine ar_aloadn (k := 75) rfl rfl ?_
    refine br_getR (k := 76) rfl (hS.k (by decide)) flP_36_6 (by decide) rfl (hS.r rfl) ?_
    refine ar_aload (k := 77) rfl rfl ?_
    refine br_getIz (k := 78) (z := 1) rfl hKa1 (flP_any_120 hk1) (by decide) (trf_any hk1) rfl ?_
    refine tw_top ((congrFun (hk74.1 a1 (by omega) hk1n.1 hk1n.2) _).trans f1.2.1) ?_
    refine ar_dup2 (k := 79) rfl rfl rfl ?_
    refine br_iald (k := 80) rfl (hS.k (by decide)) (by omega) (by omega) (by decide) ?_
    refine tw_top (y := up (I 53) (s (84 + s (94 + (t : Int)))) (bOr (I 53 (s (84 + s (94 + (t : Int))))) (bShl 1 (t : Int))) (s (84 + (t : Int)))) (by rw [e74, uI_set, setA_at, e63, uI_off _ _ _ (by decide), e53, uI_off _ _ _ (by decide)]) ?_
    refine ar_iconst (k := 81) rfl ?_
    refine ar_iloadn (k := 82) rfl rfl ?_
    refine ar_ishl (k := 83) rfl ?_
    refine ar_ior (k := 84) rfl ?_
    refine br_iastJ (k := 85) rfl (hS.k (by decide)) (by omega) (by omega) (by decide) (fun I85 e85 => ?_)
    have hk85 := cq.w hk74 (by omega) (by omega) e85
    refine ar_aload (k := 86) rfl rfl ?_
    refine br_getIz (k := 87) (z := 1) rfl hKa1 (flP_any_120 hk1) (by decide) (trf_any hk1) rfl ?_
    refine tw_top ((congrFun (hk85.1 a1 (by omega) hk1n.1 hk1n.2) _).trans f1.2.1) ?_
    refine ar_aload (k := 88) rfl rfl ?_
    refine br_getIz (k := 89) (z := 1) rfl hKa2 (flP_any_120 hk2) (by decide) (trf_any hk2) rfl ?_
    refine tw_top ((congrFun (hk85.1 a2 (by omega) hk2n.1 hk2n.2) _).trans f2.1) ?_
    refine ar_icmp_eq (k := 90) rfl (by omega) (by omega) (fun c90 => ?_) (fun c90 => ?_)
    · refine ar_iconst (k := 99) rfl ?_
      refine tw_top (y := if s (84 + (t : Int)) ≠ s (84 + s (94 + (t : Int))) ∧ bAnd (I 1 11) (bOr (bShl 1 (t : Int)) (bShl 1 (s (94 + (t : Int))))) = 0 then 1 else 0) (by first | (exfalso; omega) | (rw [if_pos (by omega)]; done) | (rw [if_neg (by omega)]; done)) ?_
      refine ar_sub (l2 := [(7, vi ((if s (26 + s (84 + (t : Int))) = s (26 + s (84 + s (94 + (t : Int)))) then 1 else 0))), (6, vi (bOr (bShl 1 (t : Int)) (bShl 1 (s (94 + (t : Int)))))), (5, vr (some a2)), (4, vr (some a1)), (0, vr (some 40)), (1, vi ((t : Int))), (2, vi (s (94 + (t : Int)))), (3, vr (none))]) (tw_s (tw_g 0 rfl) (tw_s (tw_g 1 rfl) (tw_s (tw_g 2 rfl) (tw_s (tw_g 3 rfl) (tw_s (tw_g 4 rfl) (tw_s (tw_g 5 rfl) (tw_s (tw_g 6 rfl) (tw_s (tw_g 7 rfl) tw_s0)))))))) ?_
      exact sC_addPair_1_n hS hq hN hR hV t1 t2 hc c5 hQ1 hQ2 hk1 hk2 hKa1 hKa2 g1 hk1n hk2n f1 f2 hs6 I85 hk85 ⟨⟨by simp only [e85, e74, e63, e53, uI, up, Nat.reduceEqDiff, reduceIte, Int.reduceEq], by simp only [e85, e74, e63, e53, uI, up, Nat.reduceEqDiff, reduceIte, Int.reduceEq], by simp only [e85, e74, e63, e53, uI, up, Nat.reduceEqDiff, reduceIte, Int.reduceEq], by simp only [e85, e74, e63, e53, uI, up, Nat.reduceEqDiff, reduceIte, Int.reduceEq]⟩, by rw [e85, uI_off _ _ _ (by decide), e74, uI_off _ _ _ (by decide), e63, uI_off _ _ _ (by decide), e53, uI_off _ _ _ (by decide)], by rw [e85, uI_set, setA_at, e74, uI_set, setA_at, e63, uI_off _ _ _ (by decide), e53, uI_off _ _ _ (by decide)], ⟨by rw [e85, uI_off _ _ _ (by decide), e74, uI_off _ _ _ (by decide), e63, uI_off _ _ _ (by decide), e53, uI_off _ _ _ (by decide)], by rw [e85, uI_off _ _ _ (by decide), e74, uI_off _ _ _ (by decide), e63, uI_off _ _ _ (by decide), e53, uI_off _ _ _ (by decide)], by rw [e85, uI_off _ _ _ (by decide), e74, uI_off _ _ _ (by decide), e63, uI_off _ _ _ (by decide), e53, uI_off _ _ _ (by decide)]⟩, fun j hj => by rw [e85, uI_off _ _ _ (by omega), e74, uI_off _ _ _ (by omega), e63, uI_off _ _ _ (by omega), e53, uI_off _ _ _ (by omega)]⟩
    · refine ar_aloadn (k := 91) rfl rfl ?_
      refine br_getR (k := 92) rfl (hS.k (by decide)) flP_18_6 (by decide) rfl hq ?_
      refine br_getIz (k := 93) (z := 11) rfl (hS.k (by decide)) flP_117_10 (by decide) rfl rfl ?_
      refine tw_top (congrFun ((hk85.at hS (by omega)) : _ = I 1) _) ?_
      refine ar_iload (k := 94) rfl rfl ?_
      refine ar_iand (k := 95) rfl ?_
      refine ar_if_ne (k := 96) rfl (by omega) (fun c96 => ?_) (fun c96 => ?_)
      · refine ar_iconst (k := 99) rfl ?_
        refine tw_top (y := if s (84 + (t : Int)) ≠ s (84 + s (94 + (t : Int))) ∧ bAnd (I 1 11) (bOr (bShl 1 (t : Int)) (bShl 1 (s (94 + (t : Int))))) = 0 then 1 else 0) (by first | (exfalso; omega) | (rw [if_pos (by omega)]; done) | (rw [if_neg (by omega)]; done)) ?_
        refine ar_sub (l2 := [(7, vi ((if s (26 + s (84 + (t : Int))) = s (26 + s (84 + s (94 + (t : Int)))) then 1 else 0))), (6, vi (bOr (bShl 1 (t : Int)) (bShl 1 (s (94 + (t : Int)))))), (5, vr (some a2)), (4, vr (some a1)), (0, vr (some 40)), (1, vi ((t : Int))), (2, vi (s (94 + (t : Int)))), (3, vr (none))]) (tw_s (tw_g 0 rfl) (tw_s (tw_g 1 rfl) (tw_s (tw_g 2 rfl) (tw_s (tw_g 3 rfl) (tw_s (tw_g 4 rfl) (tw_s (tw_g 5 rfl) (tw_s (tw_g 6 rfl) (tw_s (tw_g 7 rfl) tw_s0)))))))) ?_
        exact sC_addPair_1_n hS hq hN hR hV t1 t2 hc c5 hQ1 hQ2 hk1 hk2 hKa1 hKa2 g1 hk1n hk2n f1 f2 hs6 I85 hk85 ⟨⟨by simp only [e85, e74, e63, e53, uI, up, Nat.reduceEqDiff, reduceIte, Int.reduceEq], by simp only [e85, e74, e63, e53, uI, up, Nat.reduceEqDiff, reduceIte, Int.reduceEq], by simp only [e85, e74, e63, e53, uI, up, Nat.reduceEqDiff, reduceIte, Int.reduceEq], by simp only [e85, e74, e63, e53, uI, up, Nat.reduceEqDiff, reduceIte, Int.reduceEq]⟩, by rw [e85, uI_off _ _ _ (by decide), e74, uI_off _ _ _ (by decide), e63, uI_off _ _ _ (by decide), e53, uI_off _ _ _ (by decide)], by rw [e85, uI_set, setA_at, e74, uI_set, setA_at, e63, uI_off _ _ _ (by decide), e53, uI_off _ _ _ (by decide)], ⟨by rw [e85, uI_off _ _ _ (by decide), e74, uI_off _ _ _ (by decide), e63, uI_off _ _ _ (by decide), e53, uI_off _ _ _ (by decide)], by rw [e85, uI_off _ _ _ (by decide), e74, uI_off _ _ _ (by decide), e63, uI_off _ _ _ (by decide), e53, uI_off _ _ _ (by decide)], by rw [e85, uI_off _ _ _ (by decide), e74, uI_off _ _ _ (by decide), e63, uI_off _ _ _ (by decide), e53, uI_off _ _ _ (by decide)]⟩, fun j hj => by rw [e85, uI_off _ _ _ (by omega), e74, uI_off _ _ _ (by omega), e63, uI_off _ _ _ (by omega), e53, uI_off _ _ _ (by omega)]⟩
      · refine ar_iconst (k := 97) rfl ?_
        refine ar_goto (k := 98) rfl ?_
        refine tw_top (y := if s (84 + (t : Int)) ≠ s (84 + s (94 + (t : Int))) ∧ bAnd (I 1 11) (bOr (bShl 1 (t : Int)) (bShl 1 (s (94 + (t : Int))))) = 0 then 1 else 0) (by first | (exfalso; omega) | (rw [if_pos (by omega)]; done) | (rw [if_neg (by omega)]; done)) ?_
        refine ar_sub (l2 := [(7, vi ((if s (26 + s (84 + (t : Int))) = s (26 + s (84 + s (94 + (t : Int)))) then 1 else 0))), (6, vi (bOr (bShl 1 (t : Int)) (bShl 1 (s (94 + (t : Int)))))), (5, vr (some a2)), (4, vr (some a1)), (0, vr (some 40)), (1, vi ((t : Int))), (2, vi (s (94 + (t : Int)))), (3, vr (none))]) (tw_s (tw_g 0 rfl) (tw_s (tw_g 1 rfl) (tw_s (tw_g 2 rfl) (tw_s (tw_g 3 rfl) (tw_s (tw_g 4 rfl) (tw_s (tw_g 5 rfl) (tw_s (tw_g 6 rfl) (tw_s (tw_g 7 rfl) tw_s0)))))))) ?_
        exact sC_addPair_1_n hS hq hN hR hV t1 t2 hc c5 hQ1 hQ2 hk1 hk2 hKa1 hKa2 g1 hk1n hk2n f1 f2 hs6 I85 hk85 ⟨⟨by simp only [e85, e74, e63, e53, uI, up, Nat.reduceEqDiff, reduceIte, Int.reduceEq], by simp only [e85, e74, e63, e53, uI, up, Nat.reduceEqDiff, reduceIte, Int.reduceEq], by simp only [e85, e74, e63, e53, uI, up, Nat.reduceEqDiff, reduceIte, Int.reduceEq], by simp only [e85, e74, e63, e53, uI, up, Nat.reduceEqDiff, reduceIte, Int.reduceEq]⟩, by rw [e85, uI_off _ _ _ (by decide), e74, uI_off _ _ _ (by decide), e63, uI_off _ _ _ (by decide), e53, uI_off _ _ _ (by decide)], by rw [e85, uI_set, setA_at, e74, uI_set, setA_at, e63, uI_off _ _ _ (by decide), e53, uI_off _ _ _ (by decide)], ⟨by rw [e85, uI_off _ _ _ (by decide), e74, uI_off _ _ _ (by decide), e63, uI_off _ _ _ (by decide), e53, uI_off _ _ _ (by decide)], by rw [e85, uI_off _ _ _ (by decide), e74, uI_off _ _ _ (by decide), e63, uI_off _ _ _ (by decide), e53, uI_off _ _ _ (by decide)], by rw [e85, uI_off _ _ _ (by decide), e74, uI_off _ _ _ (by decide), e63, uI_off _ _ _ (by decide), e53, uI_off _ _ _ (by decide)]⟩, fun j hj => by rw [e85, uI_off _ _ _ (by omega), e74, uI_off _ _ _ (by omega), e63, uI_off _ _ _ (by omega), e53, uI_off _ _ _ (by omega)]⟩
theorem c_P_addPair_1_n {t c a1 a2 k1 k2 : Nat} (hS : tSt (K, I, Q, n)) (hq : Q 40 1 = some 1) (hN : WN 1 I s) (hR : RInv s) (hV : RVal s) (t1 : (t : Int) < s 1) (t2 : (t : Int) < s (94 + (t : Int))) (hc : I 40 11 = (c : Int)) (c5 : c < 5) (hQ1 : Q 4 (s (84 + (t : Int))) = some a1) (hQ2 : Q 4 (s (84 + s (94 + (t : Int)))) = some a2) (hk1 : hcl k1) (hk2 : hcl k2) (hKa1 : tK (K, I, Q, n) a1 (k1, 4)) (hKa2 : tK (K, I, Q, n) a2 (k2, 4)) (g1 : 78 ≤ a1 ∧ 78 ≤ a2) (hk1n : K a1 ≠ (14, 5) ∧ K a1 ≠ (14, 13)) (hk2n : K a2 ≠ (14, 5) ∧ K a2 ≠ (14, 13)) (f1 : I a1 0 = s (10 + s (84 + (t : Int))) ∧ I a1 1 = s (84 + (t : Int)) ∧ I a1 3 = s (26 + s (84 + (t : Int)))) (f2 : I a2 1 = s (84 + s (94 + (t : Int))) ∧ I a2 3 = s (26 + s (84 + s (94 + (t : Int))))) (hs6 : s 6 = -1) : tw_M l G 4 0 0 mP_addPair [vr (some 40), vi (t : Int), vi (s (94 + (t : Int))), vr (none)] (K, I, Q, n) (fun r h' => r = none ∧ ∃ L, h' = (K, L, Q, n) ∧ cq K I L ∧ pAdd I L s 1 t c) := by
  obtain ⟨h0, h1, h2, h3, h4, h5, h6, hp, hrw, ht, hr, hb, htp, hv⟩ := id hR
  have w1 := ht (t : Int) (by omega) (by omega)
  have w2 := ht (s (94 + (t : Int))) (by omega) (by omega)
  have wp1 := hp (s (84 + (t : Int))) (by omega) (by omega)
  have wp2 := hp (s (84 + s (94 + (t : Int)))) (by omega) (by omega)
  have hk : cq K I I := cq.rf
  refine tw_intro okP_addPair (Nat.le_of_ble_eq_true rfl) ?_
  refine ar_aloadn (k := 0) rfl rfl ?_
  refine br_getR (k := 1) rfl (hS.k (by decide)) flP_18_6 (by decide) rfl hq ?_
  refine br_getR (k := 2) rfl (hS.k (by decide)) flP_108_10 (by decide) rfl (hS.r rfl) ?_
  refine ar_aloadn (k := 3) rfl rfl ?_
  refine br_getR (k := 4) rfl (hS.k (by decide)) flP_18_6 (by decide) rfl hq ?_
  refine br_getR (k := 5) rfl (hS.k (by decide)) flP_95_10 (by decide) rfl (hS.r rfl) ?_
  refine ar_iloadn (k := 6) rfl rfl ?_
  refine br_iald (k := 7) rfl (hS.k (by decide)) (by omega) (by omega) (by decide) ?_
  refine tw_top (WN.ho (WN.q1 hN hS hk) (by omega) (by omega)) ?_
  refine br_aald16 (k := 8) rfl (hS.k (by decide)) (by omega) (by omega) (by decide) hQ1 ?_
  refine ar_astore (k := 9) (l2 := [(4, _), (0, _), (1, _), (2, _), (3, _)]) rfl (by decide) rfl ?_
  refine ar_aloadn (k := 10) rfl rfl ?_
  refine br_getR (k := 11) rfl (hS.k (by decide)) flP_18_6 (by decide) rfl hq ?_
  refine br_getR (k := 12) rfl (hS.k (by decide)) flP_108_10 (by decide) rfl (hS.r rfl) ?_
  refine ar_aloadn (k := 13) rfl rfl ?_
  refine br_getR (k := 14) rfl (hS.k (by decide)) flP_18_6 (by decide) rfl hq ?_
  refine br_getR (k := 15) rfl (hS.k (by decide)) flP_95_10 (by decide) rfl (hS.r rfl) ?_
  refine ar_iloadn (k := 16) rfl rfl ?_
  refine br_iald (k := 17) rfl (hS.k (by decide)) (by omega) (by omega) (by decide) ?_
  refine tw_top (WN.ho (WN.q1 hN hS hk) (by omega) (by omega)) ?_
  refine br_aald16 (k := 18) rfl (hS.k (by decide)) (by omega) (by omega) (by decide) hQ2 ?_
  refine ar_astore (k := 19) (l2 := [(5, _), (4, _), (0, _), (1, _), (2, _), (3, _)]) rfl (by decide) rfl ?_
  refine ar_aload (k := 20) rfl rfl ?_
  refine ar_ifnull (k := 21) rfl (fun c21 => ?_) (fun a21 c21 => ?_)
  · cases c21
  · refine ar_aload (k := 22) rfl rfl ?_
    refine ar_ifnonnull (k := 23) rfl (fun a23 c23 => ?_) (fun c23 => ?_)
    · refine ar_iconst (k := 25) rfl ?_
      refine ar_iloadn (k := 26) rfl rfl ?_
      refine ar_ishl (k := 27) rfl ?_
      refine ar_iconst (k := 28) rfl ?_
      refine ar_iloadn (k := 29) rfl rfl ?_
      refine ar_ishl (k := 30) rfl ?_
      refine ar_ior (k := 31) rfl ?_
      refine ar_istore (k := 32) (l2 := [(6, _), (5, _), (4, _), (0, _), (1, _), (2, _), (3, _)]) rfl (by decide) rfl ?_
      refine ar_aload (k := 33) rfl rfl ?_
      refine br_getIz (k := 34) (z := 3) rfl hKa1 (flP_any_112 hk1) (by decide) (trf_any hk1) rfl ?_
      refine tw_top ((congrFun (hk.1 a1 (by omega) hk1n.1 hk1n.2) _).trans f1.2.2) ?_
      refine ar_aload (k := 35) rfl rfl ?_
      refine br_getIz (k := 36) (z := 3) rfl hKa2 (flP_any_112 hk2) (by decide) (trf_any hk2) rfl ?_
      refine tw_top ((congrFun (hk.1 a2 (by omega) hk2n.1 hk2n.2) _).trans f2.2) ?_
      refine ar_icmp_ne (k := 37) rfl (by omega) (by omega) (fun c37 => ?_) (fun c37 => ?_)
      · refine ar_iconst (k := 40) rfl ?_
        refine tw_top (y := if s (26 + s (84 + (t : Int))) = s (26 + s (84 + s (94 + (t : Int)))) then 1 else 0) (by first | (exfalso; omega) | (rw [if_pos (by omega)]; done) | (rw [if_neg (by omega)]; done)) ?_
        refine ar_sub (l2 := [(6, vi (bOr (bShl 1 (t : Int)) (bShl 1 (s (94 + (t : Int)))))), (5, vr (some a2)), (4, vr (some a1)), (0, vr (some 40)), (1, vi ((t : Int))), (2, vi (s (94 + (t : Int)))), (3, vr (none))]) (tw_s (tw_g 0 rfl) (tw_s (tw_g 1 rfl) (tw_s (tw_g 2 rfl) (tw_s (tw_g 3 rfl) (tw_s (tw_g 4 rfl) (tw_s (tw_g 5 rfl) (tw_s (tw_g 6 rfl) tw_s0))))))) ?_
        exact sB_addPair_1_n hS hq hN hR hV t1 t2 hc c5 hQ1 hQ2 hk1 hk2 hKa1 hKa2 g1 hk1n hk2n f1 f2 hs6
      · refine ar_iconst (k := 38) rfl ?_
        refine ar_goto (k := 39) rfl ?_
        refine tw_top (y := if s (26 + s (84 + (t : Int))) = s (26 + s (84 + s (94 + (t : Int)))) then 1 else 0) (by first | (exfalso; omega) | (rw [if_pos (by omega)]; done) | (rw [if_neg (by omega)]; done)) ?_
        refine ar_sub (l2 := [(6, vi (bOr (bShl 1 (t : Int)) (bShl 1 (s (94 + (t : Int)))))), (5, vr (some a2)), (4, vr (some a1)), (0, vr (some 40)), (1, vi ((t : Int))), (2, vi (s (94 + (t : Int)))), (3, vr (none))]) (tw_s (tw_g 0 rfl) (tw_s (tw_g 1 rfl) (tw_s (tw_g 2 rfl) (tw_s (tw_g 3 rfl) (tw_s (tw_g 4 rfl) (tw_s (tw_g 5 rfl) (tw_s (tw_g 6 rfl) tw_s0))))))) ?_
        exact sB_addPair_1_n hS hq hN hR hV t1 t2 hc c5 hQ1 hQ2 hk1 hk2 hKa1 hKa2 g1 hk1n hk2n f1 f2 hs6
    · cases c23
theorem sC_addPair_1_v {t c a1 a2 k1 k2 : Nat} {v : Nat} {C : tCL} (hS : tSt (K, I, Q, n)) (hq : Q 40 1 = some 1) (hN : WN 1 I s) (hR : RInv s) (hV : RVal s) (t1 : (t : Int) < s 1) (t2 : (t : Int) < s (94 + (t : Int))) (hc : I 40 11 = (c : Int)) (c5 : c < 5) (hQ1 : Q 4 (s (84 + (t : Int))) = some a1) (hQ2 : Q 4 (s (84 + s (94 + (t : Int)))) = some a2) (hk1 : hcl k1) (hk2 : hcl k2) (hKa1 : tK (K, I, Q, n) a1 (k1, 4)) (hKa2 : tK (K, I, Q, n) a2 (k2, 4)) (g1 : 78 ≤ a1 ∧ 78 ≤ a2) (hk1n : K a1 ≠ (14, 5) ∧ K a1 ≠ (14, 13)) (hk2n : K a2 ≠ (14, 5) ∧ K a2 ≠ (14, 13)) (f1 : I a1 0 = s (10 + s (84 + (t : Int))) ∧ I a1 1 = s (84 + (t : Int)) ∧ I a1 3 = s (26 + s (84 + (t : Int)))) (f2 : I a2 1 = s (84 + s (94 + (t : Int))) ∧ I a2 3 = s (26 + s (84 + s (94 + (t : Int))))) (hvs : VS K Q n v) (hD : VD I v C) (hs6 : s 6 ≠ -1) (ho : rOut s (s 6) = cFl C) : ∀ (J : Nat → Int → Int), cq K I J → ((J 40 2 = I 40 2 ∧ J 40 6 = bOr (I 40 6) (bAnd (bOr (bShl 1 (t : Int)) (bShl 1 (s (94 + (t : Int))))) (bXor (I 1 11) (-1))) ∧ J 40 7 = bOr (I 40 7) (if s (26 + s (84 + (t : Int))) = s (26 + s (84 + s (94 + (t : Int)))) then bOr (bShl 1 (t : Int)) (bShl 1 (s (94 + (t : Int)))) else 0) ∧ J 40 11 = I 40 11) ∧ J 52 = I 52 ∧ J 53 = up (up (I 53) (s (84 + s (94 + (t : Int)))) (bOr (I 53 (s (84 + s (94 + (t : Int))))) (bShl 1 (t : Int)))) (s (84 + (t : Int))) (bOr (up (I 53) (s (84 + s (94 + (t : Int)))) (bOr (I 53 (s (84 + s (94 + (t : Int))))) (bShl 1 (t : Int))) (s (84 + (t : Int)))) (bShl 1 (s (94 + (t : Int))))) ∧ (J 54 = I 54 ∧ J 55 = I 55 ∧ J 56 = I 56) ∧ ∀ j : Nat, j < 10 → J (42 + j) = I (42 + j)) → tw_AW l G mP_addPair 4 0 0 n 0 (fun r h' => r = none ∧ ∃ L, h' = (K, L, Q, n) ∧ cq K I L ∧ pAdd I L s 1 t c) 182 [(7, vi ((if s (26 + s (84 + (t : Int))) = s (26 + s (84 + s (94 + (t : Int)))) then 1 else 0))), (6, vi (bOr (bShl 1 (t : Int)) (bShl 1 (s (94 + (t : Int)))))), (5, vr (some a2)), (4, vr (some a1)), (0, vr (some 40)), (1, vi ((t : Int))), (2, vi (s (94 + (t : Int)))), (3, vr (some v))] [vi (if s (84 + (t : Int)) ≠ s (84 + s (94 + (t : Int))) ∧ bAnd (I 1 11) (bOr (bShl 1 (t : Int)) (bShl 1 (s (94 + (t : Int))))) = 0 then 1 else 0)] (K, J, Q, n) := by
  obtain ⟨h0, h1, h2, h3, h4, h5, h6, hp, hrw, ht, hr, hb, htp, hv⟩ := id hR
  have w1 := ht (t : Int) (by omega) (by omega)
  have w2 := ht (s (94 + (t : Int))) (by omega) (by omega)
  have wp1 := hp (s (84 + (t : Int))) (by omega) (by omega)
  have wp2 := hp (s (84 + s (94 + (t : Int)))) (by omega) (by omega)
  have h0v := hvs.1
  intro J hk hm
  refine ar_istore (k := 100) (l2 := [(8, _), (7, _), (6, _), (5, _), (4, _), (0, _), (1, _), (2, _), (3, _)]) rfl (by decide) rfl ?_
  have hcn : (if s (84 + (t : Int)) ≠ s (84 + s (94 + (t : Int))) ∧ bAnd (I 1 11) (bOr (bShl 1 (t : Int)) (bShl 1 (s (94 + (t : Int))))) = 0 then (1 : Int) else 0) = 0 ∨ (if s (84 + (t : Int)) ≠ s (84 + s (94 + (t : Int))) ∧ bAnd (I 1 11) (bOr (bShl 1 (t : Int)) (bShl 1 (s (94 + (t : Int))))) = 0 then (1 : Int) else 0) = 1 := by split <;> omega
  refine ar_aloadn (k := 101) rfl rfl ?_
  refine br_getR (k := 102) rfl (hS.k (by decide)) flP_45_6 (by decide) rfl (hS.r rfl) ?_
  refine ar_aloadn (k := 103) rfl rfl ?_
  refine br_getIz (k := 104) (z := 11) rfl (hS.k (by decide)) flP_54_6 (by decide) rfl rfl ?_
  refine tw_top (y := (c : Int)) (by rw [hm.1.2.2.2]; exact hc) ?_
  refine ar_iloadn (k := 105) rfl rfl ?_
  refine br_iastJ (k := 106) rfl (hS.k (by decide)) (by omega) (by omega) (by decide) (fun I106 e106 => ?_)
  have hk106 := cq.w hk (by omega) (by omega) e106
  refine ar_aloadn (k := 107) rfl rfl ?_
  refine br_getR (k := 108) rfl (hS.k (by decide)) flP_48_6 (by decide) rfl (hS.r rfl) ?_
  refine ar_aloadn (k := 109) rfl rfl ?_
  refine br_getIz (k := 110) (z := 11) rfl (hS.k (by decide)) flP_54_6 (by decide) rfl rfl ?_
  refine tw_top (y := (c : Int)) (by rw [e106, uI_off _ _ _ (by decide), hm.1.2.2.2]; exact hc) ?_
  refine ar_iconst (k := 111) rfl ?_
  refine ar_aload (k := 112) rfl rfl ?_
  refine br_getIz (k := 113) (z := 1) rfl hKa1 (flP_any_120 hk1) (by decide) (trf_any hk1) rfl ?_
  refine tw_top ((congrFun (hk106.1 a1 (by omega) hk1n.1 hk1n.2) _).trans f1.2.1) ?_
  refine ar_ishl (k := 114) rfl ?_
  refine ar_iconst (k := 115) rfl ?_
  refine ar_aload (k := 116) rfl rfl ?_
  refine br_getIz (k := 117) (z := 1) rfl hKa2 (flP_any_120 hk2) (by decide) (trf_any hk2) rfl ?_
  refine tw_top ((congrFun (hk106.1 a2 (by omega) hk2n.1 hk2n.2) _).trans f2.1) ?_
  refine ar_ishl (k := 118) rfl ?_
  refine ar_ior (k := 119) rfl ?_
  refine br_iastJ (k := 120) rfl (hS.k (by decide)) (by omega) (by omega) (by decide) (fun I120 e120 => ?_)
  have hk120 := cq.w hk106 (by omega) (by omega) e120
  refine ar_aloadn (k := 121) rfl rfl ?_
  refine br_getR (k := 122) rfl (hS.k (by decide)) flP_51_6 (by decide) rfl (hS.r rfl) ?_
  refine ar_aloadn (k := 123) rfl rfl ?_
  refine br_getIz (k := 124) (z := 11) rfl (hS.k (by decide)) flP_54_6 (by decide) rfl rfl ?_
  refine tw_top (y := (c : Int)) (by rw [e120, uI_off _ _ _ (by decide), e106, uI_off _ _ _ (by decide), hm.1.2.2.2]; exact hc) ?_
  refine ar_iload (k := 125) rfl rfl ?_
  refine ar_if_eq (k := 126) rfl (by omega) (fun c126 => ?_) (fun c126 => ?_)
  · refine ar_iconst (k := 141) rfl ?_
    refine tw_top (y := if s (84 + (t : Int)) ≠ s (84 + s (94 + (t : Int))) ∧ bAnd (I 1 11) (bOr (bShl 1 (t : Int)) (bShl 1 (s (94 + (t : Int))))) = 0 then bAnd (s (34 + s (84 + (t : Int)))) (s (34 + s (84 + s (94 + (t : Int))))) else 0) (by first | (exfalso; omega) | (rw [if_pos (by omega)]; done) | (rw [if_neg (by omega)]; done)) ?_
    refine br_iastJ (k := 142) rfl (hS.k (by decide)) (by omega) (by omega) (by decide) (fun I142 e142 => ?_)
    have hk142 := cq.w hk120 (by omega) (by omega) e142
    refine ar_aloadn (k := 143) rfl rfl ?_
    refine ar_dup (k := 144) rfl rfl ?_
    refine br_getIz (k := 145) (z := 11) rfl (hS.k (by decide)) flP_54_6 (by decide) rfl rfl ?_
    refine tw_top (y := (c : Int)) (by rw [e142, uI_off _ _ _ (by decide), e120, uI_off _ _ _ (by decide), e106, uI_off _ _ _ (by decide), hm.1.2.2.2]; exact hc) ?_
    refine ar_iconst (k := 146) rfl ?_
    refine ar_iadd (k := 147) rfl ?_
    refine br_putIJ (k := 148) rfl (hS.k (by decide)) flP_54_6 (by decide) rfl (fun _ _ _ q => by cases q; exact ⟨rfl, rfl⟩) (fun I148 e148 => ?_)
    change _ = uI _ 40 11 _ at e148
    have hk148 := cq.w hk142 (by omega) (by omega) e148
    refine ar_aloadn (k := 149) rfl rfl ?_
    refine br_getR (k := 150) rfl (hS.k (by decide)) flP_29_6 (by decide) rfl (hS.r rfl) ?_
    refine ar_iloadn (k := 151) rfl rfl ?_
    refine br_aald18 (k := 152) rfl (hS.k (by decide)) (by omega) (by omega) (by decide) (hS.row (t := (t : Int)) (by omega) (by omega)).1 ?_
    refine ar_iconst (k := 153) rfl ?_
    refine ar_callS (k := 154) (as := [_, _]) rfl lsP_86 (c_fillJ (by decide) (hS.row (t := (t : Int)) (by omega) (by omega)).2) rfl (by decide) (by decide) tw_m0 (Nat.le_of_ble_eq_true rfl) (fun r154 h154 p154 => ?_)
    obtain ⟨rfl, I154, rfl, fo154, fa154⟩ := p154
    have hk154 := cq.f hk148 (by omega) (by omega) fo154
    refine ar_aloadn (k := 155) rfl rfl ?_
    refine ar_ifnull (k := 156) rfl (fun c156 => ?_) (fun a156 c156 => ?_)
    · cases c156
    · refine ar_aloadn (k := 157) rfl rfl ?_
      refine ar_aloadn (k := 158) rfl rfl ?_
      refine br_getR (k := 159) rfl (hS.k (by decide)) flP_18_6 (by decide) rfl hq ?_
      refine br_getR (k := 160) rfl (hS.k (by decide)) flP_126_10 (by decide) rfl (hS.r rfl) ?_
      refine ar_iloadn (k := 161) rfl rfl ?_
      refine br_iald (k := 162) rfl (hS.k (by decide)) (by omega) (by omega) (by decide) ?_
      refine tw_top (WN.so (WN.q1 hN hS hk154) (by omega) (by omega)) ?_
      refine ar_iloadn (k := 163) rfl rfl ?_
      refine ar_aload (k := 164) rfl rfl ?_
      refine br_getIz (k := 165) (z := 0) rfl hKa1 (flP_any_129 hk1) (by decide) (trf_any hk1) rfl ?_
      refine tw_top ((congrFun (hk154.1 a1 (by omega) hk1n.1 hk1n.2) _).trans f1.1) ?_
      refine ar_iload (k := 166) rfl rfl ?_
      refine ar_callV (k := 167) (as := [_, _, _, _]) rfl lvP_132 hvs.k0 rfl (c_factJ hvs (by omega)) rfl (by decide) (by decide) tw_m0 (Nat.le_of_ble_eq_true rfl) (fun r167 h167 p167 => ?_)
      obtain ⟨rfl, I167, rfl, fo167, fa167⟩ := p167
      have hk167 := cq.fv hk154 (Or.inl hvs.2.1.2.2.2.2.1) (by omega) fo167
      have hfx : ∀ j, 1 ≤ j → j ≤ 4 → I167 (v + 4) j = rBy s (t : Int) 0 j := fun j j1 j2 => by
        have el : rLess s (t : Int) = (t : Int) := by unfold rLess; rw [if_neg (by omega)]
        unfold rBy
        rw [el]
        rcases (show j = 1 ∨ j = 2 ∨ j = 3 ∨ j = 4 by omega) with rfl | rfl | rfl | rfl
        · rw [fa167.1]; rfl
        · rw [fa167.2.1]; rfl
        · rw [fa167.2.2.1]; rfl
        · rw [fa167.2.2.2]; simp
      have hbx : ∀ j, 1 ≤ j → j ≤ 4 → tr (rBy s (t : Int) 0 j) := fun j j1 j2 => by
        have el : rLess s (t : Int) = (t : Int) := by unfold rLess; rw [if_neg (by omega)]
        unfold rBy
        rw [el]
        (repeat' split) <;> omega
      refine ar_aloadn (k := 168) rfl rfl ?_
      refine ar_aloadn (k := 169) rfl rfl ?_
      refine br_getR (k := 170) rfl (hS.k (by decide)) flP_29_6 (by decide) rfl (hS.r rfl) ?_
      refine ar_iloadn (k := 171) rfl rfl ?_
      refine br_aald18 (k := 172) rfl (hS.k (by decide)) (by omega) (by omega) (by decide) (hS.row (t := (t : Int)) (by omega) (by omega)).1 ?_
      refine ar_callV (k := 173) (as := [_]) rfl lvP_136 hvs.k0 rfl (c_V_reckon (b := rBy s (t : Int) 0) (L := C) hvs (hS.row (t := (t : Int)) (by omega) (by omega)).2 (by omega) hfx (fun j j1 j2 => hbx j j1 j2) (hD.g (hvs.g hk167.g)) (by rw [← ho]; exact rOut_deep hR hV (by omega))) rfl (by decide) (by decide) tw_m0 (Nat.le_of_ble_eq_true rfl) (fun r173 h173 p173 => ?_)
      obtain ⟨rfl, I173, rfl, fo173, fa173⟩ := p173
      have hk173 : cq K I I173 := hk167.trans ⟨fun b b1 _ b3 => fo173 b (by omega) (fun q => by subst q; exact b3 hvs.2.1.2.2.2.2.2), by rw [fo173 57 (by omega) (by omega)], by rw [fo173 59 (by omega) (by omega)], fun k _ => by rw [fo173 40 (by omega) (by omega)], fo173 60 (by omega) (by omega)⟩
      have hWW : ∀ u : Int, 0 ≤ u → u < 24 → I173 (42 + t) u = rWorth s (t : Int) u := fun u u1 u2 => by
        have q := fa173 u.toNat (by omega)
        rw [show ((u.toNat : Nat) : Int) = u by omega, fo167 _ (by omega), fa154 u (by omega) (by omega), Int.toNat_natCast] at q
        rw [q, rWorth_cl hs6 ho hD.2.2.2.2.2.2]
      refine ar_skip ?_
      refine ar_aloadn (k := 174) rfl rfl ?_
      refine br_getR (k := 175) rfl (hS.k (by decide)) flP_29_6 (by decide) rfl (hS.r rfl) ?_
      refine ar_iloadn (k := 176) rfl rfl ?_
      refine br_aald18 (k := 177) rfl (hS.k (by decide)) (by omega) (by omega) (by decide) (hS.row (t := (t : Int)) (by omega) (by omega)).1 ?_
      refine ar_iconst (k := 178) rfl ?_
      refine ar_aloadn (k := 179) rfl rfl ?_
      refine br_getR (k := 180) rfl (hS.k (by decide)) flP_29_6 (by decide) rfl (hS.r rfl) ?_
      refine ar_iloadn (k := 181) rfl rfl ?_
      refine br_aald18 (k := 182) rfl (hS.k (by decide)) (by omega) (by omega) (by decide) (hS.row (t := s (94 + (t : Int))) (by omega) (by omega)).1 ?_
      refine ar_iconst (k := 183) rfl ?_
      refine ar_bipush (k := 184) rfl (by decide) ?_
      refine ar_copyiJ (k := 185) (n := 24) rfl lcP_140 (hS.row (t := (t : Int)) (by omega) (by omega)).2 (hS.row (t := s (94 + (t : Int))) (by omega) (by omega)).2 rfl (by decide) (by decide) (Nat.le_of_ble_eq_true rfl) (fun I185 e185 f185 => ?_)
      have hk185 := cq.f hk173 (by omega) (by omega) e185
      refine ar_ret (k := 186) rfl rfl rfl (Nat.le_refl _) ?_
      refine ⟨rfl, I185, rfl, hk185, ?_⟩
      have z40 : I185 40 = uI I142 40 11 ((c : Int) + 1) 40 := by rw [e185 40 (by omega), fo173 40 (by omega) (by omega), fo167 40 (by omega), fo154 40 (by omega), e148]
      have zo : ∀ a, 52 ≤ a → a ≤ 56 → I185 a = I142 a := fun a b1 b2 => by rw [e185 a (by omega), fo173 a (by omega) (by omega), fo167 a (by omega), fo154 a (by omega), e148, uI_off _ _ _ (by omega)]
      have z53 : I142 53 = J 53 := by rw [e142, uI_off _ _ _ (by decide), e120, uI_off _ _ _ (by decide), e106, uI_off _ _ _ (by decide)]
      have z52 : I142 52 = J 52 := by rw [e142, uI_off _ _ _ (by decide), e120, uI_off _ _ _ (by decide), e106, uI_off _ _ _ (by decide)]
      have y40 : I142 40 = J 40 := by rw [e142, uI_off _ _ _ (by decide), e120, uI_off _ _ _ (by decide), e106, uI_off _ _ _ (by decide)]
      have z54 : I142 54 = up (J 54) (c : Int) (t : Int) := by rw [e142, uI_off _ _ _ (by decide), e120, uI_off _ _ _ (by decide), e106, uI_set, setA_at]
      have z55 : I142 55 = up (J 55) (c : Int) (pHd s t) := by rw [e142, uI_off _ _ _ (by decide), e120, uI_set, setA_at, e106, uI_off _ _ _ (by decide)]; rfl
      have z56 : I142 56 = up (J 56) (c : Int) (if s (84 + (t : Int)) ≠ s (84 + s (94 + (t : Int))) ∧ bAnd (I 1 11) (bOr (bShl 1 (t : Int)) (bShl 1 (s (94 + (t : Int))))) = 0 then bAnd (s (34 + s (84 + (t : Int)))) (s (34 + s (84 + s (94 + (t : Int))))) else 0) := by rw [e142, uI_set, setA_at, e120, uI_off _ _ _ (by decide), e106, uI_off _ _ _ (by decide)]
      refine ⟨⟨?_, ?_, ?_, ?_⟩, ?_, ?_, ?_, ?_, ?_, fun u u1 u2 => ⟨?_, ?_⟩, fun j j1 j2 j3 => ?_⟩
      · rw [z40, uI_at, if_neg (by decide), y40]; exact hm.1.1
      · rw [z40, uI_at, if_neg (by decide), y40]; exact hm.1.2.1
      · rw [z40, uI_at, if_neg (by decide), y40]; exact hm.1.2.2.1
      · rw [z40, uI_at, if_pos rfl, hc]
      · rw [zo 52 (by omega) (by omega), z52]; exact hm.2.1
      · rw [zo 53 (by omega) (by omega), z53]; exact hm.2.2.1
      · rw [zo 54 (by omega) (by omega), z54, hm.2.2.2.1.1]
      · rw [zo 55 (by omega) (by omega), z55, hm.2.2.2.1.2.1]
      · rw [zo 56 (by omega) (by omega), z56, hm.2.2.2.1.2.2]
      · rw [e185 _ (by omega)]; exact hWW u u1 u2
      · rw [f185 u, if_pos ⟨u1, u2⟩]; exact hWW u u1 u2
      · rw [e185 _ (by omega), fo173 _ (by omega) (by omega), fo167 _ (by omega), fo154 _ (by omega), e148, uI_off _ _ _ (by omega), e142, uI_off _ _ _ (by omega), e120, uI_off _ _ _ (by omega), e106, uI_off _ _ _ (by omega)]; exact hm.2.2.2.2 j j1
  · refine ar_aloadn (k := 127) rfl rfl ?_
    refine br_getR (k := 128) rfl (hS.k (by decide)) flP_18_6 (by decide) rfl hq ?_
    refine br_getR (k := 129) rfl (hS.k (by decide)) flP_123_10 (by decide) rfl (hS.r rfl) ?_
    refine ar_aload (k := 130) rfl rfl ?_
    refine br_getIz (k := 131) (z := 1) rfl hKa1 (flP_any_120 hk1) (by decide) (trf_any hk1) rfl ?_
    refine tw_top ((congrFun (hk120.1 a1 (by omega) hk1n.1 hk1n.2) _).trans f1.2.1) ?_
    refine br_iald (k := 132) rfl (hS.k (by decide)) (by omega) (by omega) (by decide) ?_
    refine tw_top (WN.fr (WN.q1 hN hS hk120) (by omega) (by omega)) ?_
    refine ar_aloadn (k := 133) rfl rfl ?_
    refine br_getR (k := 134) rfl (hS.k (by decide)) flP_18_6 (by decide) rfl hq ?_
    refine br_getR (k := 135) rfl (hS.k (by decide)) flP_123_10 (by decide) rfl (hS.r rfl) ?_
    refine ar_aload (k := 136) rfl rfl ?_
    refine br_getIz (k := 137) (z := 1) rfl hKa2 (flP_any_120 hk2) (by decide) (trf_any hk2) rfl ?_
    refine tw_top ((congrFun (hk120.1 a2 (by omega) hk2n.1 hk2n.2) _).trans f2.1) ?_
    refine br_iald (k := 138) rfl (hS.k (by decide)) (by omega) (by omega) (by decide) ?_
    refine tw_top (WN.fr (WN.q1 hN hS hk120) (by omega) (by omega)) ?_
    refine ar_iand (k := 139) rfl ?_
    refine ar_goto (k := 140) rfl ?_
    refine tw_top (y := if s (84 + (t : Int)) ≠ s (84 + s (94 + (t : Int))) ∧ bAnd (I 1 11) (bOr (bShl 1 (t : Int)) (bShl 1 (s (94 + (t : Int))))) = 0 then bAnd (s (34 + s (84 + (t : Int)))) (s (34 + s (84 + s (94 + (t : Int))))) else 0) (by first | (exfalso; omega) | (rw [if_pos (by omega)]; done) | (rw [if_neg (by omega)]; done)) ?_
    refine br_iastJ (k := 142) rfl (hS.k (by decide)) (by omega) (by omega) (by decide) (fun I142 e142 => ?_)
    have hk142 := cq.w hk120 (by omega) (by omega) e142
    refine ar_aloadn (k := 143) rfl rfl ?_
    refine ar_dup (k := 144) rfl rfl ?_
    refine br_getIz (k := 145) (z := 11) rfl (hS.k (by decide)) flP_54_6 (by decide) rfl rfl ?_
    refine tw_top (y := (c : Int)) (by rw [e142, uI_off _ _ _ (by decide), e120, uI_off _ _ _ (by decide), e106, uI_off _ _ _ (by decide), hm.1.2.2.2]; exact hc) ?_
    refine ar_iconst (k := 146) rfl ?_
    refine ar_iadd (k := 147) rfl ?_
    refine br_putIJ (k := 148) rfl (hS.k (by decide)) flP_54_6 (by decide) rfl (fun _ _ _ q => by cases q; exact ⟨rfl, rfl⟩) (fun I148 e148 => ?_)
    change _ = uI _ 40 11 _ at e148
    have hk148 := cq.w hk142 (by omega) (by omega) e148
    refine ar_aloadn (k := 149) rfl rfl ?_
    refine br_getR (k := 150) rfl (hS.k (by decide)) flP_29_6 (by decide) rfl (hS.r rfl) ?_
    refine ar_iloadn (k := 151) rfl rfl ?_
    refine br_aald18 (k := 152) rfl (hS.k (by decide)) (by omega) (by omega) (by decide) (hS.row (t := (t : Int)) (by omega) (by omega)).1 ?_
    refine ar_iconst (k := 153) rfl ?_
    refine ar_callS (k := 154) (as := [_, _]) rfl lsP_86 (c_fillJ (by decide) (hS.row (t := (t : Int)) (by omega) (by omega)).2) rfl (by decide) (by decide) tw_m0 (Nat.le_of_ble_eq_true rfl) (fun r154 h154 p154 => ?_)
    obtain ⟨rfl, I154, rfl, fo154, fa154⟩ := p154
    have hk154 := cq.f hk148 (by omega) (by omega) fo154
    refine ar_aloadn (k := 155) rfl rfl ?_
    refine ar_ifnull (k := 156) rfl (fun c156 => ?_) (fun a156 c156 => ?_)
    · cases c156
    · refine ar_aloadn (k := 157) rfl rfl ?_
      refine ar_aloadn (k := 158) rfl rfl ?_
      refine br_getR (k := 159) rfl (hS.k (by decide)) flP_18_6 (by decide) rfl hq ?_
      refine br_getR (k := 160) rfl (hS.k (by decide)) flP_126_10 (by decide) rfl (hS.r rfl) ?_
      refine ar_iloadn (k := 161) rfl rfl ?_
      refine br_iald (k := 162) rfl (hS.k (by decide)) (by omega) (by omega) (by decide) ?_
      refine tw_top (WN.so (WN.q1 hN hS hk154) (by omega) (by omega)) ?_
      refine ar_iloadn (k := 163) rfl rfl ?_
      refine ar_aload (k := 164) rfl rfl ?_
      refine br_getIz (k := 165) (z := 0) rfl hKa1 (flP_any_129 hk1) (by decide) (trf_any hk1) rfl ?_
      refine tw_top ((congrFun (hk154.1 a1 (by omega) hk1n.1 hk1n.2) _).trans f1.1) ?_
      refine ar_iload (k := 166) rfl rfl ?_
      refine ar_callV (k := 167) (as := [_, _, _, _]) rfl lvP_132 hvs.k0 rfl (c_factJ hvs (by omega)) rfl (by decide) (by decide) tw_m0 (Nat.le_of_ble_eq_true rfl) (fun r167 h167 p167 => ?_)
      obtain ⟨rfl, I167, rfl, fo167, fa167⟩ := p167
      have hk167 := cq.fv hk154 (Or.inl hvs.2.1.2.2.2.2.1) (by omega) fo167
      have hfx : ∀ j, 1 ≤ j → j ≤ 4 → I167 (v + 4) j = rBy s (t : Int) 0 j := fun j j1 j2 => by
        have el : rLess s (t : Int) = (t : Int) := by unfold rLess; rw [if_neg (by omega)]
        unfold rBy
        rw [el]
        rcases (show j = 1 ∨ j = 2 ∨ j = 3 ∨ j = 4 by omega) with rfl | rfl | rfl | rfl
        · rw [fa167.1]; rfl
        · rw [fa167.2.1]; rfl
        · rw [fa167.2.2.1]; rfl
        · rw [fa167.2.2.2]; simp
      have hbx : ∀ j, 1 ≤ j → j ≤ 4 → tr (rBy s (t : Int) 0 j) := fun j j1 j2 => by
        have el : rLess s (t : Int) = (t : Int) := by unfold rLess; rw [if_neg (by omega)]
        unfold rBy
        rw [el]
        (repeat' split) <;> omega
      refine ar_aloadn (k := 168) rfl rfl ?_
      refine ar_aloadn (k := 169) rfl rfl ?_
      refine br_getR (k := 170) rfl (hS.k (by decide)) flP_29_6 (by decide) rfl (hS.r rfl) ?_
      refine ar_iloadn (k := 171) rfl rfl ?_
      refine br_aald18 (k := 172) rfl (hS.k (by decide)) (by omega) (by omega) (by decide) (hS.row (t := (t : Int)) (by omega) (by omega)).1 ?_
      refine ar_callV (k := 173) (as := [_]) rfl lvP_136 hvs.k0 rfl (c_V_reckon (b := rBy s (t : Int) 0) (L := C) hvs (hS.row (t := (t : Int)) (by omega) (by omega)).2 (by omega) hfx (fun j j1 j2 => hbx j j1 j2) (hD.g (hvs.g hk167.g)) (by rw [← ho]; exact rOut_deep hR hV (by omega))) rfl (by decide) (by decide) tw_m0 (Nat.le_of_ble_eq_true rfl) (fun r173 h173 p173 => ?_)
      obtain ⟨rfl, I173, rfl, fo173, fa173⟩ := p173
      have hk173 : cq K I I173 := hk167.trans ⟨fun b b1 _ b3 => fo173 b (by omega) (fun q => by subst q; exact b3 hvs.2.1.2.2.2.2.2), by rw [fo173 57 (by omega) (by omega)], by rw [fo173 59 (by omega) (by omega)], fun k _ => by rw [fo173 40 (by omega) (by omega)], fo173 60 (by omega) (by omega)⟩
      have hWW : ∀ u : Int, 0 ≤ u → u < 24 → I173 (42 + t) u = rWorth s (t : Int) u := fun u u1 u2 => by
        have q := fa173 u.toNat (by omega)
        rw [show ((u.toNat : Nat) : Int) = u by omega, fo167 _ (by omega), fa154 u (by omega) (by omega), Int.toNat_natCast] at q
        rw [q, rWorth_cl hs6 ho hD.2.2.2.2.2.2]
      refine ar_skip ?_
      refine ar_aloadn (k := 174) rfl rfl ?_
      refine br_getR (k := 175) rfl (hS.k (by decide)) flP_29_6 (by decide) rfl (hS.r rfl) ?_
      refine ar_iloadn (k := 176) rfl rfl ?_
      refine br_aald18 (k := 177) rfl (hS.k (by decide)) (by omega) (by omega) (by decide) (hS.row (t := (t : Int)) (by omega) (by omega)).1 ?_
      refine ar_iconst (k := 178) rfl ?_
      refine ar_aloadn (k := 179) rfl rfl ?_
      refine br_getR (k := 180) rfl (hS.k (by decide)) flP_29_6 (by decide) rfl (hS.r rfl) ?_
      refine ar_iloadn (k := 181) rfl rfl ?_
      refine br_aald18 (k := 182) rfl (hS.k (by decide)) (by omega) (by omega) (by decide) (hS.row (t := s (94 + (t : Int))) (by omega) (by omega)).1 ?_
      refine ar_iconst (k := 183) rfl ?_
      refine ar_bipush (k := 184) rfl (by decide) ?_
      refine ar_copyiJ (k := 185) (n := 24) rfl lcP_140 (hS.row (t := (t : Int)) (by omega) (by omega)).2 (hS.row (t := s (94 + (t : Int))) (by omega) (by omega)).2 rfl (by decide) (by decide) (Nat.le_of_ble_eq_true rfl) (fun I185 e185 f185 => ?_)
      have hk185 := cq.f hk173 (by omega) (by omega) e185
      refine ar_ret (k := 186) rfl rfl rfl (Nat.le_refl _) ?_
      refine ⟨rfl, I185, rfl, hk185, ?_⟩
      have z40 : I185 40 = uI I142 40 11 ((c : Int) + 1) 40 := by rw [e185 40 (by omega), fo173 40 (by omega) (by omega), fo167 40 (by omega), fo154 40 (by omega), e148]
      have zo : ∀ a, 52 ≤ a → a ≤ 56 → I185 a = I142 a := fun a b1 b2 => by rw [e185 a (by omega), fo173 a (by omega) (by omega), fo167 a (by omega), fo154 a (by omega), e148, uI_off _ _ _ (by omega)]
      have z53 : I142 53 = J 53 := by rw [e142, uI_off _ _ _ (by decide), e120, uI_off _ _ _ (by decide), e106, uI_off _ _ _ (by decide)]
      have z52 : I142 52 = J 52 := by rw [e142, uI_off _ _ _ (by decide), e120, uI_off _ _ _ (by decide), e106, uI_off _ _ _ (by decide)]
      have y40 : I142 40 = J 40 := by rw [e142, uI_off _ _ _ (by decide), e120, uI_off _ _ _ (by decide), e106, uI_off _ _ _ (by decide)]
      have z54 : I142 54 = up (J 54) (c : Int) (t : Int) := by rw [e142, uI_off _ _ _ (by decide), e120, uI_off _ _ _ (by decide), e106, uI_set, setA_at]
      have z55 : I142 55 = up (J 55) (c : Int) (pHd s t) := by rw [e142, uI_off _ _ _ (by decide), e120, uI_set, setA_at, e106, uI_off _ _ _ (by decide)]; rfl
      have z56 : I142 56 = up (J 56) (c : Int) (if s (84 + (t : Int)) ≠ s (84 + s (94 + (t : Int))) ∧ bAnd (I 1 11) (bOr (bShl 1 (t : Int)) (bShl 1 (s (94 + (t : Int))))) = 0 then bAnd (s (34 + s (84 + (t : Int)))) (s (34 + s (84 + s (94 + (t : Int))))) else 0) := by rw [e142, uI_set, setA_at, e120, uI_off _ _ _ (by decide), e106, uI_off _ _ _ (by decide)]
      refine ⟨⟨?_, ?_, ?_, ?_⟩, ?_, ?_, ?_, ?_, ?_, fun u u1 u2 => ⟨?_, ?_⟩, fun j j1 j2 j3 => ?_⟩
      · rw [z40, uI_at, if_neg (by decide), y40]; exact hm.1.1
      · rw [z40, uI_at, if_neg (by decide), y40]; exact hm.1.2.1
      · rw [z40, uI_at, if_neg (by decide), y40]; exact hm.1.2.2.1
      · rw [z40, uI_at, if_pos rfl, hc]
      · rw [zo 52 (by omega) (by omega), z52]; exact hm.2.1
      · rw [zo 53 (by omega) (by omega), z53]; exact hm.2.2.1
      · rw [zo 54 (by omega) (by omega), z54, hm.2.2.2.1.1]
      · rw [zo 55 (by omega) (by omega), z55, hm.2.2.2.1.2.1]
      · rw [zo 56 (by omega) (by omega), z56, hm.2.2.2.1.2.2]
      · rw [e185 _ (by omega)]; exact hWW u u1 u2
      · rw [f185 u, if_pos ⟨u1, u2⟩]; exact hWW u u1 u2
      · rw [e185 _ (by omega), fo173 _ (by omega) (by omega), fo167 _ (by omega), fo154 _ (by omega), e148, uI_off _ _ _ (by omega), e142, uI_off _ _ _ (by omega), e120, uI_off _ _ _ (by omega), e106, uI_off _ _ _ (by omega)]; exact hm.2.2.2.2 j j1
theorem sB_addPair_1_v {t c a1 a2 k1 k2 : Nat} {v : Nat} {C : tCL} (hS : tSt (K, I, Q, n)) (hq : Q 40 1 = some 1) (hN : WN 1 I s) (hR : RInv s) (hV : RVal s) (t1 : (t : Int) < s 1) (t2 : (t : Int) < s (94 + (t : Int))) (hc : I 40 11 = (c : Int)) (c5 : c < 5) (hQ1 : Q 4 (s (84 + (t : Int))) = some a1) (hQ2 : Q 4 (s (84 + s (94 + (t : Int)))) = some a2) (hk1 : hcl k1) (hk2 : hcl k2) (hKa1 : tK (K, I, Q, n) a1 (k1, 4)) (hKa2 : tK (K, I, Q, n) a2 (k2, 4)) (g1 : 78 ≤ a1 ∧ 78 ≤ a2) (hk1n : K a1 ≠ (14, 5) ∧ K a1 ≠ (14, 13)) (hk2n : K a2 ≠ (14, 5) ∧ K a2 ≠ (14, 13)) (f1 : I a1 0 = s (10 + s (84 + (t : Int))) ∧ I a1 1 = s (84 + (t : Int)) ∧ I a1 3 = s (26 + s (84 + (t : Int)))) (f2 : I a2 1 = s (84 + s (94 + (t : Int))) ∧ I a2 3 = s (26 + s (84 + s (94 + (t : Int))))) (hvs : VS K Q n v) (hD : VD I v C) (hs6 : s 6 ≠ -1) (ho : rOut s (s 6) = cFl C) : tw_AW l G mP_addPair 4 0 0 n 0 (fun r h' => r = none ∧ ∃ L, h' = (K, L, Q, n) ∧ cq K I L ∧ pAdd I L s 1 t c) 76 [(6, vi (bOr (bShl 1 (t : Int)) (bShl 1 (s (94 + (t : Int)))))), (5, vr (some a2)), (4, vr (some a1)), (0, vr (some 40)), (1, vi ((t : Int))), (2, vi (s (94 + (t : Int)))), (3, vr (some v))] [vi (if s (26 + s (84 + (t : Int))) = s (26 + s (84 + s (94 + (t : Int)))) then 1 else 0)] (K, I, Q, n) := by
  obtain ⟨h0, h1, h2, h3, h4, h5, h6, hp, hrw, ht, hr, hb, htp, hv⟩ := id hR
  have w1 := ht (t : Int) (by omega) (by omega)
  have w2 := ht (s (94 + (t : Int))) (by omega) (by omega)
  have wp1 := hp (s (84 + (t : Int))) (by omega) (by omega)
  have wp2 := hp (s (84 + s (94 + (t : Int)))) (by omega) (by omega)
  have h0v := hvs.1
  have hk : cq K I I := cq.rf
  have hcn : (if s (26 + s (84 + (t : Int))) = s (26 + s (84 + s (94 + (t : Int)))) then (1 : Int) else 0) = 0 ∨ (if s (26 + s (84 + (t : Int))) = s (26 + s (84 + s (94 + (t : Int)))) then (1 : Int) else 0) = 1 := by split <;> omega
  have tb9 : tr (bAnd (I 1 11) (bOr (bShl 1 (t : Int)) (bShl 1 (s (94 + (t : Int)))))) := tr_toInt _
  refine ar_istore (k := 41) (l2 := [(7, _), (6, _), (5, _), (4, _), (0, _), (1, _), (2, _), (3, _)]) rfl (by decide) rfl ?_
  refine ar_aloadn (k := 42) rfl rfl ?_
  refine ar_dup (k := 43) rfl rfl ?_
  refine br_getIz (k := 44) (z := 6) rfl (hS.k (by decide)) flP_39_6 (by decide) rfl rfl ?_
  refine ar_iload (k := 45) rfl rfl ?_
  refine ar_aloadn (k := 46) rfl rfl ?_
  refine br_getR (k := 47) rfl (hS.k (by decide)) flP_18_6 (by decide) rfl hq ?_
  refine br_getIz (k := 48) (z := 11) rfl (hS.k (by decide)) flP_117_10 (by decide) rfl rfl ?_
  refine tw_top (congrFun ((hk.at hS (by omega)) : _ = I 1) _) ?_
  refine ar_iconst (k := 49) rfl ?_
  refine ar_ixor (k := 50) rfl ?_
  refine ar_iand (k := 51) rfl ?_
  refine ar_ior (k := 52) rfl ?_
  refine br_putIJ (k := 53) rfl (hS.k (by decide)) flP_39_6 (by decide) rfl (fun _ _ _ q => by cases q; exact ⟨rfl, rfl⟩) (fun I53 e53 => ?_)
  change _ = uI _ 40 6 _ at e53
  have hk53 := cq.w hk (by omega) (by omega) e53
  refine ar_aloadn (k := 54) rfl rfl ?_
  refine ar_dup (k := 55) rfl rfl ?_
  refine br_getIz (k := 56) (z := 7) rfl (hS.k (by decide)) flP_42_6 (by decide) rfl rfl ?_
  refine tw_top (y := I 40 7) (by rw [e53, uI_at, if_neg (by decide)]) ?_
  refine ar_iload (k := 57) rfl rfl ?_
  refine ar_if_eq (k := 58) rfl (by omega) (fun c58 => ?_) (fun c58 => ?_)
  · refine ar_iconst (k := 61) rfl ?_
    refine tw_top (y := if s (26 + s (84 + (t : Int))) = s (26 + s (84 + s (94 + (t : Int)))) then bOr (bShl 1 (t : Int)) (bShl 1 (s (94 + (t : Int)))) else 0) (by first | (exfalso; omega) | (rw [if_pos (by omega)]; done) | (rw [if_neg (by omega)]; done)) ?_
    refine ar_ior (k := 62) rfl ?_
    refine br_putIJ (k := 63) rfl (hS.k (by decide)) flP_42_6 (by decide) rfl (fun _ _ _ q => by cases q; exact ⟨rfl, rfl⟩) (fun I63 e63 => ?_)
    change _ = uI _ 40 7 _ at e63
    have hk63 := cq.w hk53 (by omega) (by omega) e63
    refine ar_aloadn (k := 64) rfl rfl ?_
    refine br_getR (k := 65) rfl (hS.k (by decide)) flP_36_6 (by decide) rfl (hS.r rfl) ?_
    refine ar_aload (k := 66) rfl rfl ?_
    refine br_getIz (k := 67) (z := 1) rfl hKa2 (flP_any_120 hk2) (by decide) (trf_any hk2) rfl ?_
    refine tw_top ((congrFun (hk63.1 a2 (by omega) hk2n.1 hk2n.2) _).trans f2.1) ?_
    refine ar_dup2 (k := 68) rfl rfl rfl ?_
    refine br_iald (k := 69) rfl (hS.k (by decide)) (by omega) (by omega) (by decide) ?_
    refine tw_top (y := I 53 (s (84 + s (94 + (t : Int))))) (by rw [e63, uI_off _ _ _ (by decide), e53, uI_off _ _ _ (by decide)]) ?_
    refine ar_iconst (k := 70) rfl ?_
    refine ar_iloadn (k := 71) rfl rfl ?_
    refine ar_ishl (k := 72) rfl ?_
    refine ar_ior (k := 73) rfl ?_
    refine br_iastJ (k := 74) rfl (hS.k (by decide)) (by omega) (by omega) (by decide) (fun I74 e74 => ?_)
    have hk74 := cq.w hk63 (by omega) (by omega) e74
    refine ar_aloadn (k := 75) rfl rfl ?_
    refine br_getR (k := 76) rfl (hS.k (by decide)) flP_36_6 (by decide) rfl (hS.r rfl) ?_
    refine ar_aload (k := 77) rfl rfl ?_
    refine br_getIz (k := 78) (z := 1) rfl hKa1 (flP_any_120 hk1) (by decide) (trf_any hk1) rfl ?_
    refine tw_top ((congrFun (hk74.1 a1 (by omega) hk1n.1 hk1n.2) _).trans f1.2.1) ?_
    refine ar_dup2 (k := 79) rfl rfl rfl ?_
    refine br_iald (k := 80) rfl (hS.k (by decide)) (by omega) (by omega) (by decide) ?_
    refine tw_top (y := up (I 53) (s (84 + s (94 + (t : Int)))) (bOr (I 53 (s (84 + s (94 + (t : Int))))) (bShl 1 (t : Int))) (s (84 + (t : Int)))) (by rw [e74, uI_set, setA_at, e63, uI_off _ _ _ (by decide), e53, uI_off _ _ _ (by decide)]) ?_
    refine ar_iconst (k := 81) rfl ?_
    refine ar_iloadn (k := 82) rfl rfl ?_
    refine ar_ishl (k := 83) rfl ?_
    refine ar_ior (k := 84) rfl ?_
    refine br_iastJ (k := 85) rfl (hS.k (by decide)) (by omega) (by omega) (by decide) (fun I85 e85 => ?_)
    have hk85 := cq.w hk74 (by omega) (by omega) e85
    refine ar_aload (k := 86) rfl rfl ?_
    refine br_getIz (k := 87) (z := 1) rfl hKa1 (flP_any_120 hk1) (by decide) (trf_any hk1) rfl ?_
    refine tw_top ((congrFun (hk85.1 a1 (by omega) hk1n.1 hk1n.2) _).trans f1.2.1) ?_
    refine ar_aload (k := 88) rfl rfl ?_
    refine br_getIz (k := 89) (z := 1) rfl hKa2 (flP_any_120 hk2) (by decide) (trf_any hk2) rfl ?_
    refine tw_top ((congrFun (hk85.1 a2 (by omega) hk2n.1 hk2n.2) _).trans f2.1) ?_
    refine ar_icmp_eq (k := 90) rfl (by omega) (by omega) (fun c90 => ?_) (fun c90 => ?_)
    · refine ar_iconst (k := 99) rfl ?_
      refine tw_top (y := if s (84 + (t : Int)) ≠ s (84 + s (94 + (t : Int))) ∧ bAnd (I 1 11) (bOr (bShl 1 (t : Int)) (bShl 1 (s (94 + (t : Int))))) = 0 then 1 else 0) (by first | (exfalso; omega) | (rw [if_pos (by omega)]; done) | (rw [if_neg (by omega)]; done)) ?_
      refine ar_sub (l2 := [(7, vi ((if s (26 + s (84 + (t : Int))) = s (26 + s (84 + s (94 + (t : Int)))) then 1 else 0))), (6, vi (bOr (bShl 1 (t : Int)) (bShl 1 (s (94 + (t : Int)))))), (5, vr (some a2)), (4, vr (some a1)), (0, vr (some 40)), (1, vi ((t : Int))), (2, vi (s (94 + (t : Int)))), (3, vr (some v))]) (tw_s (tw_g 0 rfl) (tw_s (tw_g 1 rfl) (tw_s (tw_g 2 rfl) (tw_s (tw_g 3 rfl) (tw_s (tw_g 4 rfl) (tw_s (tw_g 5 rfl) (tw_s (tw_g 6 rfl) (tw_s (tw_g 7 rfl) tw_s0)))))))) ?_
      exact sC_addPair_1_v hS hq hN hR hV t1 t2 hc c5 hQ1 hQ2 hk1 hk2 hKa1 hKa2 g1 hk1n hk2n f1 f2 hvs hD hs6 ho I85 hk85 ⟨⟨by simp only [e85, e74, e63, e53, uI, up, Nat.reduceEqDiff, reduceIte, Int.reduceEq], by simp only [e85, e74, e63, e53, uI, up, Nat.reduceEqDiff, reduceIte, Int.reduceEq], by simp only [e85, e74, e63, e53, uI, up, Nat.reduceEqDiff, reduceIte, Int.reduceEq], by simp only [e85, e74, e63, e53, uI, up, Nat.reduceEqDiff, reduceIte, Int.reduceEq]⟩, by rw [e85, uI_off _ _ _ (by decide), e74, uI_off _ _ _ (by decide), e63, uI_off _ _ _ (by decide), e53, uI_off _ _ _ (by decide)], by rw [e85, uI_set, setA_at, e74, uI_set, setA_at, e63, uI_off _ _ _ (by decide), e53, uI_off _ _ _ (by decide)], ⟨by rw [e85, uI_off _ _ _ (by decide), e74, uI_off _ _ _ (by decide), e63, uI_off _ _ _ (by decide), e53, uI_off _ _ _ (by decide)], by rw [e85, uI_off _ _ _ (by decide), e74, uI_off _ _ _ (by decide), e63, uI_off _ _ _ (by decide), e53, uI_off _ _ _ (by decide)], by rw [e85, uI_off _ _ _ (by decide), e74, uI_off _ _ _ (by decide), e63, uI_off _ _ _ (by decide), e53, uI_off _ _ _ (by decide)]⟩, fun j hj => by rw [e85, uI_off _ _ _ (by omega), e74, uI_off _ _ _ (by omega), e63, uI_off _ _ _ (by omega), e53, uI_off _ _ _ (by omega)]⟩
    · refine ar_aloadn (k := 91) rfl rfl ?_
      refine br_getR (k := 92) rfl (hS.k (by decide)) flP_18_6 (by decide) rfl hq ?_
      refine br_getIz (k := 93) (z := 11) rfl (hS.k (by decide)) flP_117_10 (by decide) rfl rfl ?_
      refine tw_top (congrFun ((hk85.at hS (by omega)) : _ = I 1) _) ?_
      refine ar_iload (k := 94) rfl rfl ?_
      refine ar_iand (k := 95) rfl ?_
      refine ar_if_ne (k := 96) rfl (by omega) (fun c96 => ?_) (fun c96 => ?_)
      · refine ar_iconst (k := 99) rfl ?_
        refine tw_top (y := if s (84 + (t : Int)) ≠ s (84 + s (94 + (t : Int))) ∧ bAnd (I 1 11) (bOr (bShl 1 (t : Int)) (bShl 1 (s (94 + (t : Int))))) = 0 then 1 else 0) (by first | (exfalso; omega) | (rw [if_pos (by omega)]; done) | (rw [if_neg (by omega)]; done)) ?_
        refine ar_sub (l2 := [(7, vi ((if s (26 + s (84 + (t : Int))) = s (26 + s (84 + s (94 + (t : Int)))) then 1 else 0))), (6, vi (bOr (bShl 1 (t : Int)) (bShl 1 (s (94 + (t : Int)))))), (5, vr (some a2)), (4, vr (some a1)), (0, vr (some 40)), (1, vi ((t : Int))), (2, vi (s (94 + (t : Int)))), (3, vr (some v))]) (tw_s (tw_g 0 rfl) (tw_s (tw_g 1 rfl) (tw_s (tw_g 2 rfl) (tw_s (tw_g 3 rfl) (tw_s (tw_g 4 rfl) (tw_s (tw_g 5 rfl) (tw_s (tw_g 6 rfl) (tw_s (tw_g 7 rfl) tw_s0)))))))) ?_
        exact sC_addPair_1_v hS hq hN hR hV t1 t2 hc c5 hQ1 hQ2 hk1 hk2 hKa1 hKa2 g1 hk1n hk2n f1 f2 hvs hD hs6 ho I85 hk85 ⟨⟨by simp only [e85, e74, e63, e53, uI, up, Nat.reduceEqDiff, reduceIte, Int.reduceEq], by simp only [e85, e74, e63, e53, uI, up, Nat.reduceEqDiff, reduceIte, Int.reduceEq], by simp only [e85, e74, e63, e53, uI, up, Nat.reduceEqDiff, reduceIte, Int.reduceEq], by simp only [e85, e74, e63, e53, uI, up, Nat.reduceEqDiff, reduceIte, Int.reduceEq]⟩, by rw [e85, uI_off _ _ _ (by decide), e74, uI_off _ _ _ (by decide), e63, uI_off _ _ _ (by decide), e53, uI_off _ _ _ (by decide)], by rw [e85, uI_set, setA_at, e74, uI_set, setA_at, e63, uI_off _ _ _ (by decide), e53, uI_off _ _ _ (by decide)], ⟨by rw [e85, uI_off _ _ _ (by decide), e74, uI_off _ _ _ (by decide), e63, uI_off _ _ _ (by decide), e53, uI_off _ _ _ (by decide)], by rw [e85, uI_off _ _ _ (by decide), e74, uI_off _ _ _ (by decide), e63, uI_off _ _ _ (by decide), e53, uI_off _ _ _ (by decide)], by rw [e85, uI_off _ _ _ (by decide), e74, uI_off _ _ _ (by decide), e63, uI_off _ _ _ (by decide), e53, uI_off _ _ _ (by decide)]⟩, fun j hj => by rw [e85, uI_off _ _ _ (by omega), e74, uI_off _ _ _ (by omega), e63, uI_off _ _ _ (by omega), e53, uI_off _ _ _ (by omega)]⟩
      · refine ar_iconst (k := 97) rfl ?_
        refine ar_goto (k := 98) rfl ?_
        refine tw_top (y := if s (84 + (t : Int)) ≠ s (84 + s (94 + (t : Int))) ∧ bAnd (I 1 11) (bOr (bShl 1 (t : Int)) (bShl 1 (s (94 + (t : Int))))) = 0 then 1 else 0) (by first | (exfalso; omega) | (rw [if_pos (by omega)]; done) | (rw [if_neg (by omega)]; done)) ?_
        refine ar_sub (l2 := [(7, vi ((if s (26 + s (84 + (t : Int))) = s (26 + s (84 + s (94 + (t : Int)))) then 1 else 0))), (6, vi (bOr (bShl 1 (t : Int)) (bShl 1 (s (94 + (t : Int)))))), (5, vr (some a2)), (4, vr (some a1)), (0, vr (some 40)), (1, vi ((t : Int))), (2, vi (s (94 + (t : Int)))), (3, vr (some v))]) (tw_s (tw_g 0 rfl) (tw_s (tw_g 1 rfl) (tw_s (tw_g 2 rfl) (tw_s (tw_g 3 rfl) (tw_s (tw_g 4 rfl) (tw_s (tw_g 5 rfl) (tw_s (tw_g 6 rfl) (tw_s (tw_g 7 rfl) tw_s0)))))))) ?_
        exact sC_addPair_1_v hS hq hN hR hV t1 t2 hc c5 hQ1 hQ2 hk1 hk2 hKa1 hKa2 g1 hk1n hk2n f1 f2 hvs hD hs6 ho I85 hk85 ⟨⟨by simp only [e85, e74, e63, e53, uI, up, Nat.reduceEqDiff, reduceIte, Int.reduceEq], by simp only [e85, e74, e63, e53, uI, up, Nat.reduceEqDiff, reduceIte, Int.reduceEq], by simp only [e85, e74, e63, e53, uI, up, Nat.reduceEqDiff, reduceIte, Int.reduceEq], by simp only [e85, e74, e63, e53, uI, up, Nat.reduceEqDiff, reduceIte, Int.reduceEq]⟩, by rw [e85, uI_off _ _ _ (by decide), e74, uI_off _ _ _ (by decide), e63, uI_off _ _ _ (by decide), e53, uI_off _ _ _ (by decide)], by rw [e85, uI_set, setA_at, e74, uI_set, setA_at, e63, uI_off _ _ _ (by decide), e53, uI_off _ _ _ (by decide)], ⟨by rw [e85, uI_off _ _ _ (by decide), e74, uI_off _ _ _ (by decide), e63, uI_off _ _ _ (by decide), e53, uI_off _ _ _ (by decide)], by rw [e85, uI_off _ _ _ (by decide), e74, uI_off _ _ _ (by decide), e63, uI_off _ _ _ (by decide), e53, uI_off _ _ _ (by decide)], by rw [e85, uI_off _ _ _ (by decide), e74, uI_off _ _ _ (by decide), e63, uI_off _ _ _ (by decide), e53, uI_off _ _ _ (by decide)]⟩, fun j hj => by rw [e85, uI_off _ _ _ (by omega), e74, uI_off _ _ _ (by omega), e63, uI_off _ _ _ (by omega), e53, uI_off _ _ _ (by omega)]⟩
  · refine ar_iload (k := 59) rfl rfl ?_
    refine ar_goto (k := 60) rfl ?_
    refine tw_top (y := if s (26 + s (84 + (t : Int))) = s (26 + s (84 + s (94 + (t : Int)))) then bOr (bShl 1 (t : Int)) (bShl 1 (s (94 + (t : Int)))) else 0) (by first | (exfalso; omega) | (rw [if_pos (by omega)]; done) | (rw [if_neg (by omega)]; done)) ?_
    refine ar_ior (k := 62) rfl ?_
    refine br_putIJ (k := 63) rfl (hS.k (by decide)) flP_42_6 (by decide) rfl (fun _ _ _ q => by cases q; exact ⟨rfl, rfl⟩) (fun I63 e63 => ?_)
    change _ = uI _ 40 7 _ at e63
    have hk63 := cq.w hk53 (by omega) (by omega) e63
    refine ar_aloadn (k := 64) rfl rfl ?_
    refine br_getR (k := 65) rfl (hS.k (by decide)) flP_36_6 (by decide) rfl (hS.r rfl) ?_
    refine ar_aload (k := 66) rfl rfl ?_
    refine br_getIz (k := 67) (z := 1) rfl hKa2 (flP_any_120 hk2) (by decide) (trf_any hk2) rfl ?_
    refine tw_top ((congrFun (hk63.1 a2 (by omega) hk2n.1 hk2n.2) _).trans f2.1) ?_
    refine ar_dup2 (k := 68) rfl rfl rfl ?_
    refine br_iald (k := 69) rfl (hS.k (by decide)) (by omega) (by omega) (by decide) ?_
    refine tw_top (y := I 53 (s (84 + s (94 + (t : Int))))) (by rw [e63, uI_off _ _ _ (by decide), e53, uI_off _ _ _ (by decide)]) ?_
    refine ar_iconst (k := 70) rfl ?_
    refine ar_iloadn (k := 71) rfl rfl ?_
    refine ar_ishl (k := 72) rfl ?_
    refine ar_ior (k := 73) rfl ?_
    refine br_iastJ (k := 74) rfl (hS.k (by decide)) (by omega) (by omega) (by decide) (fun I74 e74 => ?_)
    have hk74 := cq.w hk63 (by omega) (by omega) e74
    refine ar_aloadn (k := 75) rfl rfl ?_
    refine br_getR (k := 76) rfl (hS.k (by decide)) flP_36_6 (by decide) rfl (hS.r rfl) ?_
    refine ar_aload (k := 77) rfl rfl ?_
    refine br_getIz (k := 78) (z := 1) rfl hKa1 (flP_any_120 hk1) (by decide) (trf_any hk1) rfl ?_
    refine tw_top ((congrFun (hk74.1 a1 (by omega) hk1n.1 hk1n.2) _).trans f1.2.1) ?_
    refine ar_dup2 (k := 79) rfl rfl rfl ?_
    refine br_iald (k := 80) rfl (hS.k (by decide)) (by omega) (by omega) (by decide) ?_
    refine tw_top (y := up (I 53) (s (84 + s (94 + (t : Int)))) (bOr (I 53 (s (84 + s (94 + (t : Int))))) (bShl 1 (t : Int))) (s (84 + (t : Int)))) (by rw [e74, uI_set, setA_at, e63, uI_off _ _ _ (by decide), e53, uI_off _ _ _ (by decide)]) ?_
    refine ar_iconst (k := 81) rfl ?_
    refine ar_iloadn (k := 82) rfl rfl ?_
    refine ar_ishl (k := 83) rfl ?_
    refine ar_ior (k := 84) rfl ?_
    refine br_iastJ (k := 85) rfl (hS.k (by decide)) (by omega) (by omega) (by decide) (fun I85 e85 => ?_)
    have hk85 := cq.w hk74 (by omega) (by omega) e85
    refine ar_aload (k := 86) rfl rfl ?_
    refine br_getIz (k := 87) (z := 1) rfl hKa1 (flP_any_120 hk1) (by decide) (trf_any hk1) rfl ?_
    refine tw_top ((congrFun (hk85.1 a1 (by omega) hk1n.1 hk1n.2) _).trans f1.2.1) ?_
    refine ar_aload (k := 88) rfl rfl ?_
    refine br_getIz (k := 89) (z := 1) rfl hKa2 (flP_any_120 hk2) (by decide) (trf_any hk2) rfl ?_
    refine tw_top ((congrFun (hk85.1 a2 (by omega) hk2n.1 hk2n.2) _).trans f2.1) ?_
    refine ar_icmp_eq (k := 90) rfl (by omega) (by omega) (fun c90 => ?_) (fun c90 => ?_)
    · refine ar_iconst (k := 99) rfl ?_
      refine tw_top (y := if s (84 + (t : Int)) ≠ s (84 + s (94 + (t : Int))) ∧ bAnd (I 1 11) (bOr (bShl 1 (t : Int)) (bShl 1 (s (94 + (t : Int))))) = 0 then 1 else 0) (by first | (exfalso; omega) | (rw [if_pos (by omega)]; done) | (rw [if_neg (by omega)]; done)) ?_
      refine ar_sub (l2 := [(7, vi ((if s (26 + s (84 + (t : Int))) = s (26 + s (84 + s (94 + (t : Int)))) then 1 else 0))), (6, vi (bOr (bShl 1 (t : Int)) (bShl 1 (s (94 + (t : Int)))))), (5, vr (some a2)), (4, vr (some a1)), (0, vr (some 40)), (1, vi ((t : Int))), (2, vi (s (94 + (t : Int)))), (3, vr (some v))]) (tw_s (tw_g 0 rfl) (tw_s (tw_g 1 rfl) (tw_s (tw_g 2 rfl) (tw_s (tw_g 3 rfl) (tw_s (tw_g 4 rfl) (tw_s (tw_g 5 rfl) (tw_s (tw_g 6 rfl) (tw_s (tw_g 7 rfl) tw_s0)))))))) ?_
      exact sC_addPair_1_v hS hq hN hR hV t1 t2 hc c5 hQ1 hQ2 hk1 hk2 hKa1 hKa2 g1 hk1n hk2n f1 f2 hvs hD hs6 ho I85 hk85 ⟨⟨by simp only [e85, e74, e63, e53, uI, up, Nat.reduceEqDiff, reduceIte, Int.reduceEq], by simp only [e85, e74, e63, e53, uI, up, Nat.reduceEqDiff, reduceIte, Int.reduceEq], by simp only [e85, e74, e63, e53, uI, up, Nat.reduceEqDiff, reduceIte, Int.reduceEq], by simp only [e85, e74, e63, e53, uI, up, Nat.reduceEqDiff, reduceIte, Int.reduceEq]⟩, by rw [e85, uI_off _ _ _ (by decide), e74, uI_off _ _ _ (by decide), e63, uI_off _ _ _ (by decide), e53, uI_off _ _ _ (by decide)], by rw [e85, uI_set, setA_at, e74, uI_set, setA_at, e63, uI_off _ _ _ (by decide), e53, uI_off _ _ _ (by decide)], ⟨by rw [e85, uI_off _ _ _ (by decide), e74, uI_off _ _ _ (by decide), e63, uI_off _ _ _ (by decide), e53, uI_off _ _ _ (by decide)], by rw [e85, uI_off _ _ _ (by decide), e74, uI_off _ _ _ (by decide), e63, uI_off _ _ _ (by decide), e53, uI_off _ _ _ (by decide)], by rw [e85, uI_off _ _ _ (by decide), e74, uI_off _ _ _ (by decide), e63, uI_off _ _ _ (by decide), e53, uI_off _ _ _ (by decide)]⟩, fun j hj => by rw [e85, uI_off _ _ _ (by omega), e74, uI_off _ _ _ (by omega), e63, uI_off _ _ _ (by omega), e53, uI_off _ _ _ (by omega)]⟩
    · refine ar_aloadn (k := 91) rfl rfl ?_
      refine br_getR (k := 92) rfl (hS.k (by decide)) flP_18_6 (by decide) rfl hq ?_
      refine br_getIz (k := 93) (z := 11) rfl (hS.k (by decide)) flP_117_10 (by decide) rfl rfl ?_
      refine tw_top (congrFun ((hk85.at hS (by omega)) : _ = I 1) _) ?_
      refine ar_iload (k := 94) rfl rfl ?_
      refine ar_iand (k := 95) rfl ?_
      refine ar_if_ne (k := 96) rfl (by omega) (fun c96 => ?_) (fun c96 => ?_)
      · refine ar_iconst (k := 99) rfl ?_
        refine tw_top (y := if s (84 + (t : Int)) ≠ s (84 + s (94 + (t : Int))) ∧ bAnd (I 1 11) (bOr (bShl 1 (t : Int)) (bShl 1 (s (94 + (t : Int))))) = 0 then 1 else 0) (by first | (exfalso; omega) | (rw [if_pos (by omega)]; done) | (rw [if_neg (by omega)]; done)) ?_
        refine ar_sub (l2 := [(7, vi ((if s (26 + s (84 + (t : Int))) = s (26 + s (84 + s (94 + (t : Int)))) then 1 else 0))), (6, vi (bOr (bShl 1 (t : Int)) (bShl 1 (s (94 + (t : Int)))))), (5, vr (some a2)), (4, vr (some a1)), (0, vr (some 40)), (1, vi ((t : Int))), (2, vi (s (94 + (t : Int)))), (3, vr (some v))]) (tw_s (tw_g 0 rfl) (tw_s (tw_g 1 rfl) (tw_s (tw_g 2 rfl) (tw_s (tw_g 3 rfl) (tw_s (tw_g 4 rfl) (tw_s (tw_g 5 rfl) (tw_s (tw_g 6 rfl) (tw_s (tw_g 7 rfl) tw_s0)))))))) ?_
        exact sC_addPair_1_v hS hq hN hR hV t1 t2 hc c5 hQ1 hQ2 hk1 hk2 hKa1 hKa2 g1 hk1n hk2n f1 f2 hvs hD hs6 ho I85 hk85 ⟨⟨by simp only [e85, e74, e63, e53, uI, up, Nat.reduceEqDiff, reduceIte, Int.reduceEq], by simp only [e85, e74, e63, e53, uI, up, Nat.reduceEqDiff, reduceIte, Int.reduceEq], by simp only [e85, e74, e63, e53, uI, up, Nat.reduceEqDiff, reduceIte, Int.reduceEq], by simp only [e85, e74, e63, e53, uI, up, Nat.reduceEqDiff, reduceIte, Int.reduceEq]⟩, by rw [e85, uI_off _ _ _ (by decide), e74, uI_off _ _ _ (by decide), e63, uI_off _ _ _ (by decide), e53, uI_off _ _ _ (by decide)], by rw [e85, uI_set, setA_at, e74, uI_set, setA_at, e63, uI_off _ _ _ (by decide), e53, uI_off _ _ _ (by decide)], ⟨by rw [e85, uI_off _ _ _ (by decide), e74, uI_off _ _ _ (by decide), e63, uI_off _ _ _ (by decide), e53, uI_off _ _ _ (by decide)], by rw [e85, uI_off _ _ _ (by decide), e74, uI_off _ _ _ (by decide), e63, uI_off _ _ _ (by decide), e53, uI_off _ _ _ (by decide)], by rw [e85, uI_off _ _ _ (by decide), e74, uI_off _ _ _ (by decide), e63, uI_off _ _ _ (by decide), e53, uI_off _ _ _ (by decide)]⟩, fun j hj => by rw [e85, uI_off _ _ _ (by omega), e74, uI_off _ _ _ (by omega), e63, uI_off _ _ _ (by omega), e53, uI_off _ _ _ (by omega)]⟩
      · refine ar_iconst (k := 97) rfl ?_
        refine ar_goto (k := 98) rfl ?_
        refine tw_top (y := if s (84 + (t : Int)) ≠ s (84 + s (94 + (t : Int))) ∧ bAnd (I 1 11) (bOr (bShl 1 (t : Int)) (bShl 1 (s (94 + (t : Int))))) = 0 then 1 else 0) (by first | (exfalso; omega) | (rw [if_pos (by omega)]; done) | (rw [if_neg (by omega)]; done)) ?_
        refine ar_sub (l2 := [(7, vi ((if s (26 + s (84 + (t : Int))) = s (26 + s (84 + s (94 + (t : Int)))) then 1 else 0))), (6, vi (bOr (bShl 1 (t : Int)) (bShl 1 (s (94 + (t : Int)))))), (5, vr (some a2)), (4, vr (some a1)), (0, vr (some 40)), (1, vi ((t : Int))), (2, vi (s (94 + (t : Int)))), (3, vr (some v))]) (tw_s (tw_g 0 rfl) (tw_s (tw_g 1 rfl) (tw_s (tw_g 2 rfl) (tw_s (tw_g 3 rfl) (tw_s (tw_g 4 rfl) (tw_s (tw_g 5 rfl) (tw_s (tw_g 6 rfl) (tw_s (tw_g 7 rfl) tw_s0)))))))) ?_
        exact sC_addPair_1_v hS hq hN hR hV t1 t2 hc c5 hQ1 hQ2 hk1 hk2 hKa1 hKa2 g1 hk1n hk2n f1 f2 hvs hD hs6 ho I85 hk85 ⟨⟨by simp only [e85, e74, e63, e53, uI, up, Nat.reduceEqDiff, reduceIte, Int.reduceEq], by simp only [e85, e74, e63, e53, uI, up, Nat.reduceEqDiff, reduceIte, Int.reduceEq], by simp only [e85, e74, e63, e53, uI, up, Nat.reduceEqDiff, reduceIte, Int.reduceEq], by simp only [e85, e74, e63, e53, uI, up, Nat.reduceEqDiff, reduceIte, Int.reduceEq]⟩, by rw [e85, uI_off _ _ _ (by decide), e74, uI_off _ _ _ (by decide), e63, uI_off _ _ _ (by decide), e53, uI_off _ _ _ (by decide)], by rw [e85, uI_set, setA_at, e74, uI_set, setA_at, e63, uI_off _ _ _ (by decide), e53, uI_off _ _ _ (by decide)], ⟨by rw [e85, uI_off _ _ _ (by decide), e74, uI_off _ _ _ (by decide), e63, uI_off _ _ _ (by decide), e53, uI_off _ _ _ (by decide)], by rw [e85, uI_off _ _ _ (by decide), e74, uI_off _ _ _ (by decide), e63, uI_off _ _ _ (by decide), e53, uI_off _ _ _ (by decide)], by rw [e85, uI_off _ _ _ (by decide), e74, uI_off _ _ _ (by decide), e63, uI_off _ _ _ (by decide), e53, uI_off _ _ _ (by decide)]⟩, fun j hj => by rw [e85, uI_off _ _ _ (by omega), e74, uI_off _ _ _ (by omega), e63, uI_off _ _ _ (by omega), e53, uI_off _ _ _ (by omega)]⟩
theorem c_P_addPair_1_v {t c a1 a2 k1 k2 : Nat} {v : Nat} {C : tCL} (hS : tSt (K, I, Q, n)) (hq : Q 40 1 = some 1) (hN : WN 1 I s) (hR : RInv s) (hV : RVal s) (t1 : (t : Int) < s 1) (t2 : (t : Int) < s (94 + (t : Int))) (hc : I 40 11 = (c : Int)) (c5 : c < 5) (hQ1 : Q 4 (s (84 + (t : Int))) = some a1) (hQ2 : Q 4 (s (84 + s (94 + (t : Int)))) = some a2) (hk1 : hcl k1) (hk2 : hcl k2) (hKa1 : tK (K, I, Q, n) a1 (k1, 4)) (hKa2 : tK (K, I, Q, n) a2 (k2, 4)) (g1 : 78 ≤ a1 ∧ 78 ≤ a2) (hk1n : K a1 ≠ (14, 5) ∧ K a1 ≠ (14, 13)) (hk2n : K a2 ≠ (14, 5) ∧ K a2 ≠ (14, 13)) (f1 : I a1 0 = s (10 + s (84 + (t : Int))) ∧ I a1 1 = s (84 + (t : Int)) ∧ I a1 3 = s (26 + s (84 + (t : Int)))) (f2 : I a2 1 = s (84 + s (94 + (t : Int))) ∧ I a2 3 = s (26 + s (84 + s (94 + (t : Int))))) (hvs : VS K Q n v) (hD : VD I v C) (hs6 : s 6 ≠ -1) (ho : rOut s (s 6) = cFl C) : tw_M l G 4 0 0 mP_addPair [vr (some 40), vi (t : Int), vi (s (94 + (t : Int))), vr (some v)] (K, I, Q, n) (fun r h' => r = none ∧ ∃ L, h' = (K, L, Q, n) ∧ cq K I L ∧ pAdd I L s 1 t c) := by
  obtain ⟨h0, h1, h2, h3, h4, h5, h6, hp, hrw, ht, hr, hb, htp, hv⟩ := id hR
  have w1 := ht (t : Int) (by omega) (by omega)
  have w2 := ht (s (94 + (t : Int))) (by omega) (by omega)
  have wp1 := hp (s (84 + (t : Int))) (by omega) (by omega)
  have wp2 := hp (s (84 + s (94 + (t : Int)))) (by omega) (by omega)
  have h0v := hvs.1
  have hk : cq K I I := cq.rf
  refine tw_intro okP_addPair (Nat.le_of_ble_eq_true rfl) ?_
  refine ar_aloadn (k := 0) rfl rfl ?_
  refine br_getR (k := 1) rfl (hS.k (by decide)) flP_18_6 (by decide) rfl hq ?_
  refine br_getR (k := 2) rfl (hS.k (by decide)) flP_108_10 (by decide) rfl (hS.r rfl) ?_
  refine ar_aloadn (k := 3) rfl rfl ?_
  refine br_getR (k := 4) rfl (hS.k (by decide)) flP_18_6 (by decide) rfl hq ?_
  refine br_getR (k := 5) rfl (hS.k (by decide)) flP_95_10 (by decide) rfl (hS.r rfl) ?_
  refine ar_iloadn (k := 6) rfl rfl ?_
  refine br_iald (k := 7) rfl (hS.k (by decide)) (by omega) (by omega) (by decide) ?_
  refine tw_top (WN.ho (WN.q1 hN hS hk) (by omega) (by omega)) ?_
  refine br_aald16 (k := 8) rfl (hS.k (by decide)) (by omega) (by omega) (by decide) hQ1 ?_
  refine ar_astore (k := 9) (l2 := [(4, _), (0, _), (1, _), (2, _), (3, _)]) rfl (by decide) rfl ?_
  refine ar_aloadn (k := 10) rfl rfl ?_
  refine br_getR (k := 11) rfl (hS.k (by decide)) flP_18_6 (by decide) rfl hq ?_
  refine br_getR (k := 12) rfl (hS.k (by decide)) flP_108_10 (by decide) rfl (hS.r rfl) ?_
  refine ar_aloadn (k := 13) rfl rfl ?_
  refine br_getR (k := 14) rfl (hS.k (by decide)) flP_18_6 (by decide) rfl hq ?_
  refine br_getR (k := 15) rfl (hS.k (by decide)) flP_95_10 (by decide) rfl (hS.r rfl) ?_
  refine ar_iloadn (k := 16) rfl rfl ?_
  refine br_iald (k := 17) rfl (hS.k (by decide)) (by omega) (by omega) (by decide) ?_
  refine tw_top (WN.ho (WN.q1 hN hS hk) (by omega) (by omega)) ?_
  refine br_aald16 (k := 18) rfl (hS.k (by decide)) (by omega) (by omega) (by decide) hQ2 ?_
  refine ar_astore (k := 19) (l2 := [(5, _), (4, _), (0, _), (1, _), (2, _), (3, _)]) rfl (by decide) rfl ?_
  refine ar_aload (k := 20) rfl rfl ?_
  refine ar_ifnull (k := 21) rfl (fun c21 => ?_) (fun a21 c21 => ?_)
  · cases c21
  · refine ar_aload (k := 22) rfl rfl ?_
    refine ar_ifnonnull (k := 23) rfl (fun a23 c23 => ?_) (fun c23 => ?_)
    · refine ar_iconst (k := 25) rfl ?_
      refine ar_iloadn (k := 26) rfl rfl ?_
      refine ar_ishl (k := 27) rfl ?_
      refine ar_iconst (k := 28) rfl ?_
      refine ar_iloadn (k := 29) rfl rfl ?_
      refine ar_ishl (k := 30) rfl ?_
      refine ar_ior (k := 31) rfl ?_
      refine ar_istore (k := 32) (l2 := [(6, _), (5, _), (4, _), (0, _), (1, _), (2, _), (3, _)]) rfl (by decide) rfl ?_
      refine ar_aload (k := 33) rfl rfl ?_
      refine br_getIz (k := 34) (z := 3) rfl hKa1 (flP_any_112 hk1) (by decide) (trf_any hk1) rfl ?_
      refine tw_top ((congrFun (hk.1 a1 (by omega) hk1n.1 hk1n.2) _).trans f1.2.2) ?_
      refine ar_aload (k := 35) rfl rfl ?_
      refine br_getIz (k := 36) (z := 3) rfl hKa2 (flP_any_112 hk2) (by decide) (trf_any hk2) rfl ?_
      refine tw_top ((congrFun (hk.1 a2 (by omega) hk2n.1 hk2n.2) _).trans f2.2) ?_
      refine ar_icmp_ne (k := 37) rfl (by omega) (by omega) (fun c37 => ?_) (fun c37 => ?_)
      · refine ar_iconst (k := 40) rfl ?_
        refine tw_top (y := if s (26 + s (84 + (t : Int))) = s (26 + s (84 + s (94 + (t : Int)))) then 1 else 0) (by first | (exfalso; omega) | (rw [if_pos (by omega)]; done) | (rw [if_neg (by omega)]; done)) ?_
        refine ar_sub (l2 := [(6, vi (bOr (bShl 1 (t : Int)) (bShl 1 (s (94 + (t : Int)))))), (5, vr (some a2)), (4, vr (some a1)), (0, vr (some 40)), (1, vi ((t : Int))), (2, vi (s (94 + (t : Int)))), (3, vr (some v))]) (tw_s (tw_g 0 rfl) (tw_s (tw_g 1 rfl) (tw_s (tw_g 2 rfl) (tw_s (tw_g 3 rfl) (tw_s (tw_g 4 rfl) (tw_s (tw_g 5 rfl) (tw_s (tw_g 6 rfl) tw_s0))))))) ?_
        exact sB_addPair_1_v hS hq hN hR hV t1 t2 hc c5 hQ1 hQ2 hk1 hk2 hKa1 hKa2 g1 hk1n hk2n f1 f2 hvs hD hs6 ho
      · refine ar_iconst (k := 38) rfl ?_
        refine ar_goto (k := 39) rfl ?_
        refine tw_top (y := if s (26 + s (84 + (t : Int))) = s (26 + s (84 + s (94 + (t : Int)))) then 1 else 0) (by first | (exfalso; omega) | (rw [if_pos (by omega)]; done) | (rw [if_neg (by omega)]; done)) ?_
        refine ar_sub (l2 := [(6, vi (bOr (bShl 1 (t : Int)) (bShl 1 (s (94 + (t : Int)))))), (5, vr (some a2)), (4, vr (some a1)), (0, vr (some 40)), (1, vi ((t : Int))), (2, vi (s (94 + (t : Int)))), (3, vr (some v))]) (tw_s (tw_g 0 rfl) (tw_s (tw_g 1 rfl) (tw_s (tw_g 2 rfl) (tw_s (tw_g 3 rfl) (tw_s (tw_g 4 rfl) (tw_s (tw_g 5 rfl) (tw_s (tw_g 6 rfl) tw_s0))))))) ?_
        exact sB_addPair_1_v hS hq hN hR hV t1 t2 hc c5 hQ1 hQ2 hk1 hk2 hKa1 hKa2 g1 hk1n hk2n f1 f2 hvs hD hs6 ho
    · cases c23
theorem sC_addPair_27_n {t c a1 a2 k1 k2 : Nat} (hS : tSt (K, I, Q, n)) (hq : Q 40 1 = some 27) (hN : WN 27 I s) (hR : RInv s) (hV : RVal s) (t1 : (t : Int) < s 1) (t2 : (t : Int) < s (94 + (t : Int))) (hc : I 40 11 = (c : Int)) (c5 : c < 5) (hQ1 : Q 30 (s (84 + (t : Int))) = some a1) (hQ2 : Q 30 (s (84 + s (94 + (t : Int)))) = some a2) (hk1 : hcl k1) (hk2 : hcl k2) (hKa1 : tK (K, I, Q, n) a1 (k1, 4)) (hKa2 : tK (K, I, Q, n) a2 (k2, 4)) (g1 : 78 ≤ a1 ∧ 78 ≤ a2) (hk1n : K a1 ≠ (14, 5) ∧ K a1 ≠ (14, 13)) (hk2n : K a2 ≠ (14, 5) ∧ K a2 ≠ (14, 13)) (f1 : I a1 0 = s (10 + s (84 + (t : Int))) ∧ I a1 1 = s (84 + (t : Int)) ∧ I a1 3 = s (26 + s (84 + (t : Int)))) (f2 : I a2 1 = s (84 + s (94 + (t : Int))) ∧ I a2 3 = s (26 + s (84 + s (94 + (t : Int))))) (hs6 : s 6 = -1) : ∀ (J : Nat → Int → Int), cq K I J → ((J 40 2 = I 40 2 ∧ J 40 6 = bOr (I 40 6) (bAnd (bOr (bShl 1 (t : Int)) (bShl 1 (s (94 + (t : Int))))) (bXor (I 27 11) (-1))) ∧ J 40 7 = bOr (I 40 7) (if s (26 + s (84 + (t : Int))) = s (26 + s (84 + s (94 + (t : Int)))) then bOr (bShl 1 (t : Int)) (bShl 1 (s (94 + (t : Int)))) else 0) ∧ J 40 11 = I 40 11) ∧ J 52 = I 52 ∧ J 53 = up (up (I 53) (s (84 + s (94 + (t : Int)))) (bOr (I 53 (s (84 + s (94 + (t : Int))))) (bShl 1 (t : Int)))) (s (84 + (t : Int))) (bOr (up (I 53) (s (84 + s (94 + (t : Int)))) (bOr (I 53 (s (84 + s (94 + (t : Int))))) (bShl 1 (t : Int))) (s (84 + (t : Int)))) (bShl 1 (s (94 + (t : Int))))) ∧ (J 54 = I 54 ∧ J 55 = I 55 ∧ J 56 = I 56) ∧ ∀ j : Nat, j < 10 → J (42 + j) = I (42 + j)) → tw_AW l G mP_addPair 4 0 0 n 0 (fun r h' => r = none ∧ ∃ L, h' = (K, L, Q, n) ∧ cq K I L ∧ pAdd I L s 27 t c) 182 [(7, vi ((if s (26 + s (84 + (t : Int))) = s (26 + s (84 + s (94 + (t : Int)))) then 1 else 0))), (6, vi (bOr (bShl 1 (t : Int)) (bShl 1 (s (94 + (t : Int)))))), (5, vr (some a2)), (4, vr (some a1)), (0, vr (some 40)), (1, vi ((t : Int))), (2, vi (s (94 + (t : Int)))), (3, vr (none))] [vi (if s (84 + (t : Int)) ≠ s (84 + s (94 + (t : Int))) ∧ bAnd (I 27 11) (bOr (bShl 1 (t : Int)) (bShl 1 (s (94 + (t : Int))))) = 0 then 1 else 0)] (K, J, Q, n) := by
  obtain ⟨h0, h1, h2, h3, h4, h5, h6, hp, hrw, ht, hr, hb, htp, hv⟩ := id hR
  have w1 := ht (t : Int) (by omega) (by omega)
  have w2 := ht (s (94 + (t : Int))) (by omega) (by omega)
  have wp1 := hp (s (84 + (t : Int))) (by omega) (by omega)
  have wp2 := hp (s (84 + s (94 + (t : Int)))) (by omega) (by omega)
  intro J hk hm
  refine ar_istore (k := 100) (l2 := [(8, _), (7, _), (6, _), (5, _), (4, _), (0, _), (1, _), (2, _), (3, _)]) rfl (by decide) rfl ?_
  have hcn : (if s (84 + (t : Int)) ≠ s (84 + s (94 + (t : Int))) ∧ bAnd (I 27 11) (bOr (bShl 1 (t : Int)) (bShl 1 (s (94 + (t : Int))))) = 0 then (1 : Int) else 0) = 0 ∨ (if s (84 + (t : Int)) ≠ s (84 + s (94 + (t : Int))) ∧ bAnd (I 27 11) (bOr (bShl 1 (t : Int)) (bShl 1 (s (94 + (t : Int))))) = 0 then (1 : Int) else 0) = 1 := by split <;> omega
  refine ar_aloadn (k := 101) rfl rfl ?_
  refine br_getR (k := 102) rfl (hS.k (by decide)) flP_45_6 (by decide) rfl (hS.r rfl) ?_
  refine ar_aloadn (k := 103) rfl rfl ?_
  refine br_getIz (k := 104) (z := 11) rfl (hS.k (by decide)) flP_54_6 (by decide) rfl rfl ?_
  refine tw_top (y := (c : Int)) (by rw [hm.1.2.2.2]; exact hc) ?_
  refine ar_iloadn (k := 105) rfl rfl ?_
  refine br_iastJ (k := 106) rfl (hS.k (by decide)) (by omega) (by omega) (by decide) (fun I106 e106 => ?_)
  have hk106 := cq.w hk (by omega) (by omega) e106
  refine ar_aloadn (k := 107) rfl rfl ?_
  refine br_getR (k := 108) rfl (hS.k (by decide)) flP_48_6 (by decide) rfl (hS.r rfl) ?_
  refine ar_aloadn (k := 109) rfl rfl ?_
  refine br_getIz (k := 110) (z := 11) rfl (hS.k (by decide)) flP_54_6 (by decide) rfl rfl ?_
  refine tw_top (y := (c : Int)) (by rw [e106, uI_off _ _ _ (by decide), hm.1.2.2.2]; exact hc) ?_
  refine ar_iconst (k := 111) rfl ?_
  refine ar_aload (k := 112) rfl rfl ?_
  refine br_getIz (k := 113) (z := 1) rfl hKa1 (flP_any_120 hk1) (by decide) (trf_any hk1) rfl ?_
  refine tw_top ((congrFun (hk106.1 a1 (by omega) hk1n.1 hk1n.2) _).trans f1.2.1) ?_
  refine ar_ishl (k := 114) rfl ?_
  refine ar_iconst (k := 115) rfl ?_
  refine ar_aload (k := 116) rfl rfl ?_
  refine br_getIz (k := 117) (z := 1) rfl hKa2 (flP_any_120 hk2) (by decide) (trf_any hk2) rfl ?_
  refine tw_top ((congrFun (hk106.1 a2 (by omega) hk2n.1 hk2n.2) _).trans f2.1) ?_
  refine ar_ishl (k := 118) rfl ?_
  refine ar_ior (k := 119) rfl ?_
  refine br_iastJ (k := 120) rfl (hS.k (by decide)) (by omega) (by omega) (by decide) (fun I120 e120 => ?_)
  have hk120 := cq.w hk106 (by omega) (by omega) e120
  refine ar_aloadn (k := 121) rfl rfl ?_
  refine br_getR (k := 122) rfl (hS.k (by decide)) flP_51_6 (by decide) rfl (hS.r rfl) ?_
  refine ar_aloadn (k := 123) rfl rfl ?_
  refine br_getIz (k := 124) (z := 11) rfl (hS.k (by decide)) flP_54_6 (by decide) rfl rfl ?_
  refine tw_top (y := (c : Int)) (by rw [e120, uI_off _ _ _ (by decide), e106, uI_off _ _ _ (by decide), hm.1.2.2.2]; exact hc) ?_
  refine ar_iload (k := 125) rfl rfl ?_
  refine ar_if_eq (k := 126) rfl (by omega) (fun c126 => ?_) (fun c126 => ?_)
  · refine ar_iconst (k := 141) rfl ?_
    refine tw_top (y := if s (84 + (t : Int)) ≠ s (84 + s (94 + (t : Int))) ∧ bAnd (I 27 11) (bOr (bShl 1 (t : Int)) (bShl 1 (s (94 + (t : Int))))) = 0 then bAnd (s (34 + s (84 + (t : Int)))) (s (34 + s (84 + s (94 + (t : Int))))) else 0) (by first | (exfalso; omega) | (rw [if_pos (by omega)]; done) | (rw [if_neg (by omega)]; done)) ?_
    refine br_iastJ (k := 142) rfl (hS.k (by decide)) (by omega) (by omega) (by decide) (fun I142 e142 => ?_)
    have hk142 := cq.w hk120 (by omega) (by omega) e142
    refine ar_aloadn (k := 143) rfl rfl ?_
    refine ar_dup (k := 144) rfl rfl ?_
    refine br_getIz (k := 145) (z := 11) rfl (hS.k (by decide)) flP_54_6 (by decide) rfl rfl ?_
    refine tw_top (y := (c : Int)) (by rw [e142, uI_off _ _ _ (by decide), e120, uI_off _ _ _ (by decide), e106, uI_off _ _ _ (by decide), hm.1.2.2.2]; exact hc) ?_
    refine ar_iconst (k := 146) rfl ?_
    refine ar_iadd (k := 147) rfl ?_
    refine br_putIJ (k := 148) rfl (hS.k (by decide)) flP_54_6 (by decide) rfl (fun _ _ _ q => by cases q; exact ⟨rfl, rfl⟩) (fun I148 e148 => ?_)
    change _ = uI _ 40 11 _ at e148
    have hk148 := cq.w hk142 (by omega) (by omega) e148
    refine ar_aloadn (k := 149) rfl rfl ?_
    refine br_getR (k := 150) rfl (hS.k (by decide)) flP_29_6 (by decide) rfl (hS.r rfl) ?_
    refine ar_iloadn (k := 151) rfl rfl ?_
    refine br_aald18 (k := 152) rfl (hS.k (by decide)) (by omega) (by omega) (by decide) (hS.row (t := (t : Int)) (by omega) (by omega)).1 ?_
    refine ar_iconst (k := 153) rfl ?_
    refine ar_callS (k := 154) (as := [_, _]) rfl lsP_86 (c_fillJ (by decide) (hS.row (t := (t : Int)) (by omega) (by omega)).2) rfl (by decide) (by decide) tw_m0 (Nat.le_of_ble_eq_true rfl) (fun r154 h154 p154 => ?_)
    obtain ⟨rfl, I154, rfl, fo154, fa154⟩ := p154
    have hk154 := cq.f hk148 (by omega) (by omega) fo154
    refine ar_aloadn (k := 155) rfl rfl ?_
    refine ar_ifnull (k := 156) rfl (fun c156 => ?_) (fun a156 c156 => ?_)
    · have hWW : ∀ u : Int, 0 ≤ u → u < 24 → I154 (42 + t) u = rWorth s (t : Int) u := fun u u1 u2 => by
        have q := fa154 u u1 u2
        rw [Int.toNat_natCast] at q
        rw [q]; unfold rWorth; rw [if_pos hs6]
      refine ar_skip ?_
      refine ar_aloadn (k := 174) rfl rfl ?_
      refine br_getR (k := 175) rfl (hS.k (by decide)) flP_29_6 (by decide) rfl (hS.r rfl) ?_
      refine ar_iloadn (k := 176) rfl rfl ?_
      refine br_aald18 (k := 177) rfl (hS.k (by decide)) (by omega) (by omega) (by decide) (hS.row (t := (t : Int)) (by omega) (by omega)).1 ?_
      refine ar_iconst (k := 178) rfl ?_
      refine ar_aloadn (k := 179) rfl rfl ?_
      refine br_getR (k := 180) rfl (hS.k (by decide)) flP_29_6 (by decide) rfl (hS.r rfl) ?_
      refine ar_iloadn (k := 181) rfl rfl ?_
      refine br_aald18 (k := 182) rfl (hS.k (by decide)) (by omega) (by omega) (by decide) (hS.row (t := s (94 + (t : Int))) (by omega) (by omega)).1 ?_
      refine ar_iconst (k := 183) rfl ?_
      refine ar_bipush (k := 184) rfl (by decide) ?_
      refine ar_copyiJ (k := 185) (n := 24) rfl lcP_140 (hS.row (t := (t : Int)) (by omega) (by omega)).2 (hS.row (t := s (94 + (t : Int))) (by omega) (by omega)).2 rfl (by decide) (by decide) (Nat.le_of_ble_eq_true rfl) (fun I185 e185 f185 => ?_)
      have hk185 := cq.f hk154 (by omega) (by omega) e185
      refine ar_ret (k := 186) rfl rfl rfl (Nat.le_refl _) ?_
      refine ⟨rfl, I185, rfl, hk185, ?_⟩
      have z40 : I185 40 = uI I142 40 11 ((c : Int) + 1) 40 := by rw [e185 40 (by omega), fo154 40 (by omega), e148]
      have zo : ∀ a, 52 ≤ a → a ≤ 56 → I185 a = I142 a := fun a b1 b2 => by rw [e185 a (by omega), fo154 a (by omega), e148, uI_off _ _ _ (by omega)]
      have z53 : I142 53 = J 53 := by rw [e142, uI_off _ _ _ (by decide), e120, uI_off _ _ _ (by decide), e106, uI_off _ _ _ (by decide)]
      have z52 : I142 52 = J 52 := by rw [e142, uI_off _ _ _ (by decide), e120, uI_off _ _ _ (by decide), e106, uI_off _ _ _ (by decide)]
      have y40 : I142 40 = J 40 := by rw [e142, uI_off _ _ _ (by decide), e120, uI_off _ _ _ (by decide), e106, uI_off _ _ _ (by decide)]
      have z54 : I142 54 = up (J 54) (c : Int) (t : Int) := by rw [e142, uI_off _ _ _ (by decide), e120, uI_off _ _ _ (by decide), e106, uI_set, setA_at]
      have z55 : I142 55 = up (J 55) (c : Int) (pHd s t) := by rw [e142, uI_off _ _ _ (by decide), e120, uI_set, setA_at, e106, uI_off _ _ _ (by decide)]; rfl
      have z56 : I142 56 = up (J 56) (c : Int) (if s (84 + (t : Int)) ≠ s (84 + s (94 + (t : Int))) ∧ bAnd (I 27 11) (bOr (bShl 1 (t : Int)) (bShl 1 (s (94 + (t : Int))))) = 0 then bAnd (s (34 + s (84 + (t : Int)))) (s (34 + s (84 + s (94 + (t : Int))))) else 0) := by rw [e142, uI_set, setA_at, e120, uI_off _ _ _ (by decide), e106, uI_off _ _ _ (by decide)]
      refine ⟨⟨?_, ?_, ?_, ?_⟩, ?_, ?_, ?_, ?_, ?_, fun u u1 u2 => ⟨?_, ?_⟩, fun j j1 j2 j3 => ?_⟩
      · rw [z40, uI_at, if_neg (by decide), y40]; exact hm.1.1
      · rw [z40, uI_at, if_neg (by decide), y40]; exact hm.1.2.1
      · rw [z40, uI_at, if_neg (by decide), y40]; exact hm.1.2.2.1
      · rw [z40, uI_at, if_pos rfl, hc]
      · rw [zo 52 (by omega) (by omega), z52]; exact hm.2.1
      · rw [zo 53 (by omega) (by omega), z53]; exact hm.2.2.1
      · rw [zo 54 (by omega) (by omega), z54, hm.2.2.2.1.1]
      · rw [zo 55 (by omega) (by omega), z55, hm.2.2.2.1.2.1]
      · rw [zo 56 (by omega) (by omega), z56, hm.2.2.2.1.2.2]
      · rw [e185 _ (by omega)]; exact hWW u u1 u2
      · rw [f185 u, if_pos ⟨u1, u2⟩]; exact hWW u u1 u2
      · rw [e185 _ (by omega), fo154 _ (by omega), e148, uI_off _ _ _ (by omega), e142, uI_off _ _ _ (by omega), e120, uI_off _ _ _ (by omega), e106, uI_off _ _ _ (by omega)]; exact hm.2.2.2.2 j j1
    · cases c156
  · refine ar_aloadn (k := 127) rfl rfl ?_
    refine br_getR (k := 128) rfl (hS.k (by decide)) flP_18_6 (by decide) rfl hq ?_
    refine br_getR (k := 129) rfl (hS.k (by decide)) flP_123_10 (by decide) rfl (hS.r rfl) ?_
    refine ar_aload (k := 130) rfl rfl ?_
    refine br_getIz (k := 131) (z := 1) rfl hKa1 (flP_any_120 hk1) (by decide) (trf_any hk1) rfl ?_
    refine tw_top ((congrFun (hk120.1 a1 (by omega) hk1n.1 hk1n.2) _).trans f1.2.1) ?_
    refine br_iald (k := 132) rfl (hS.k (by decide)) (by omega) (by omega) (by decide) ?_
    refine tw_top (WN.fr (WN.q27 hN hS hk120) (by omega) (by omega)) ?_
    refine ar_aloadn (k := 133) rfl rfl ?_
    refine br_getR (k := 134) rfl (hS.k (by decide)) flP_18_6 (by decide) rfl hq ?_
    refine br_getR (k := 135) rfl (hS.k (by decide)) flP_123_10 (by decide) rfl (hS.r rfl) ?_
    refine ar_aload (k := 136) rfl rfl ?_
    refine br_getIz (k := 137) (z := 1) rfl hKa2 (flP_any_120 hk2) (by decide) (trf_any hk2) rfl ?_
    refine tw_top ((congrFun (hk120.1 a2 (by omega) hk2n.1 hk2n.2) _).trans f2.1) ?_
    refine br_iald (k := 138) rfl (hS.k (by decide)) (by omega) (by omega) (by decide) ?_
    refine tw_top (WN.fr (WN.q27 hN hS hk120) (by omega) (by omega)) ?_
    refine ar_iand (k := 139) rfl ?_
    refine ar_goto (k := 140) rfl ?_
    refine tw_top (y := if s (84 + (t : Int)) ≠ s (84 + s (94 + (t : Int))) ∧ bAnd (I 27 11) (bOr (bShl 1 (t : Int)) (bShl 1 (s (94 + (t : Int))))) = 0 then bAnd (s (34 + s (84 + (t : Int)))) (s (34 + s (84 + s (94 + (t : Int))))) else 0) (by first | (exfalso; omega) | (rw [if_pos (by omega)]; done) | (rw [if_neg (by omega)]; done)) ?_
    refine br_iastJ (k := 142) rfl (hS.k (by decide)) (by omega) (by omega) (by decide) (fun I142 e142 => ?_)
    have hk142 := cq.w hk120 (by omega) (by omega) e142
    refine ar_aloadn (k := 143) rfl rfl ?_
    refine ar_dup (k := 144) rfl rfl ?_
    refine br_getIz (k := 145) (z := 11) rfl (hS.k (by decide)) flP_54_6 (by decide) rfl rfl ?_
    refine tw_top (y := (c : Int)) (by rw [e142, uI_off _ _ _ (by decide), e120, uI_off _ _ _ (by decide), e106, uI_off _ _ _ (by decide), hm.1.2.2.2]; exact hc) ?_
    refine ar_iconst (k := 146) rfl ?_
    refine ar_iadd (k := 147) rfl ?_
    refine br_putIJ (k := 148) rfl (hS.k (by decide)) flP_54_6 (by decide) rfl (fun _ _ _ q => by cases q; exact ⟨rfl, rfl⟩) (fun I148 e148 => ?_)
    change _ = uI _ 40 11 _ at e148
    have hk148 := cq.w hk142 (by omega) (by omega) e148
    refine ar_aloadn (k := 149) rfl rfl ?_
    refine br_getR (k := 150) rfl (hS.k (by decide)) flP_29_6 (by decide) rfl (hS.r rfl) ?_
    refine ar_iloadn (k := 151) rfl rfl ?_
    refine br_aald18 (k := 152) rfl (hS.k (by decide)) (by omega) (by omega) (by decide) (hS.row (t := (t : Int)) (by omega) (by omega)).1 ?_
    refine ar_iconst (k := 153) rfl ?_
    refine ar_callS (k := 154) (as := [_, _]) rfl lsP_86 (c_fillJ (by decide) (hS.row (t := (t : Int)) (by omega) (by omega)).2) rfl (by decide) (by decide) tw_m0 (Nat.le_of_ble_eq_true rfl) (fun r154 h154 p154 => ?_)
    obtain ⟨rfl, I154, rfl, fo154, fa154⟩ := p154
    have hk154 := cq.f hk148 (by omega) (by omega) fo154
    refine ar_aloadn (k := 155) rfl rfl ?_
    refine ar_ifnull (k := 156) rfl (fun c156 => ?_) (fun a156 c156 => ?_)
    · have hWW : ∀ u : Int, 0 ≤ u → u < 24 → I154 (42 + t) u = rWorth s (t : Int) u := fun u u1 u2 => by
        have q := fa154 u u1 u2
        rw [Int.toNat_natCast] at q
        rw [q]; unfold rWorth; rw [if_pos hs6]
      refine ar_skip ?_
      refine ar_aloadn (k := 174) rfl rfl ?_
      refine br_getR (k := 175) rfl (hS.k (by decide)) flP_29_6 (by decide) rfl (hS.r rfl) ?_
      refine ar_iloadn (k := 176) rfl rfl ?_
      refine br_aald18 (k := 177) rfl (hS.k (by decide)) (by omega) (by omega) (by decide) (hS.row (t := (t : Int)) (by omega) (by omega)).1 ?_
      refine ar_iconst (k := 178) rfl ?_
      refine ar_aloadn (k := 179) rfl rfl ?_
      refine br_getR (k := 180) rfl (hS.k (by decide)) flP_29_6 (by decide) rfl (hS.r rfl) ?_
      refine ar_iloadn (k := 181) rfl rfl ?_
      refine br_aald18 (k := 182) rfl (hS.k (by decide)) (by omega) (by omega) (by decide) (hS.row (t := s (94 + (t : Int))) (by omega) (by omega)).1 ?_
      refine ar_iconst (k := 183) rfl ?_
      refine ar_bipush (k := 184) rfl (by decide) ?_
      refine ar_copyiJ (k := 185) (n := 24) rfl lcP_140 (hS.row (t := (t : Int)) (by omega) (by omega)).2 (hS.row (t := s (94 + (t : Int))) (by omega) (by omega)).2 rfl (by decide) (by decide) (Nat.le_of_ble_eq_true rfl) (fun I185 e185 f185 => ?_)
      have hk185 := cq.f hk154 (by omega) (by omega) e185
      refine ar_ret (k := 186) rfl rfl rfl (Nat.le_refl _) ?_
      refine ⟨rfl, I185, rfl, hk185, ?_⟩
      have z40 : I185 40 = uI I142 40 11 ((c : Int) + 1) 40 := by rw [e185 40 (by omega), fo154 40 (by omega), e148]
      have zo : ∀ a, 52 ≤ a → a ≤ 56 → I185 a = I142 a := fun a b1 b2 => by rw [e185 a (by omega), fo154 a (by omega), e148, uI_off _ _ _ (by omega)]
      have z53 : I142 53 = J 53 := by rw [e142, uI_off _ _ _ (by decide), e120, uI_off _ _ _ (by decide), e106, uI_off _ _ _ (by decide)]
      have z52 : I142 52 = J 52 := by rw [e142, uI_off _ _ _ (by decide), e120, uI_off _ _ _ (by decide), e106, uI_off _ _ _ (by decide)]
      have y40 : I142 40 = J 40 := by rw [e142, uI_off _ _ _ (by decide), e120, uI_off _ _ _ (by decide), e106, uI_off _ _ _ (by decide)]
      have z54 : I142 54 = up (J 54) (c : Int) (t : Int) := by rw [e142, uI_off _ _ _ (by decide), e120, uI_off _ _ _ (by decide), e106, uI_set, setA_at]
      have z55 : I142 55 = up (J 55) (c : Int) (pHd s t) := by rw [e142, uI_off _ _ _ (by decide), e120, uI_set, setA_at, e106, uI_off _ _ _ (by decide)]; rfl
      have z56 : I142 56 = up (J 56) (c : Int) (if s (84 + (t : Int)) ≠ s (84 + s (94 + (t : Int))) ∧ bAnd (I 27 11) (bOr (bShl 1 (t : Int)) (bShl 1 (s (94 + (t : Int))))) = 0 then bAnd (s (34 + s (84 + (t : Int)))) (s (34 + s (84 + s (94 + (t : Int))))) else 0) := by rw [e142, uI_set, setA_at, e120, uI_off _ _ _ (by decide), e106, uI_off _ _ _ (by decide)]
      refine ⟨⟨?_, ?_, ?_, ?_⟩, ?_, ?_, ?_, ?_, ?_, fun u u1 u2 => ⟨?_, ?_⟩, fun j j1 j2 j3 => ?_⟩
      · rw [z40, uI_at, if_neg (by decide), y40]; exact hm.1.1
      · rw [z40, uI_at, if_neg (by decide), y40]; exact hm.1.2.1
      · rw [z40, uI_at, if_neg (by decide), y40]; exact hm.1.2.2.1
      · rw [z40, uI_at, if_pos rfl, hc]
      · rw [zo 52 (by omega) (by omega), z52]; exact hm.2.1
      · rw [zo 53 (by omega) (by omega), z53]; exact hm.2.2.1
      · rw [zo 54 (by omega) (by omega), z54, hm.2.2.2.1.1]
      · rw [zo 55 (by omega) (by omega), z55, hm.2.2.2.1.2.1]
      · rw [zo 56 (by omega) (by omega), z56, hm.2.2.2.1.2.2]
      · rw [e185 _ (by omega)]; exact hWW u u1 u2
      · rw [f185 u, if_pos ⟨u1, u2⟩]; exact hWW u u1 u2
      · rw [e185 _ (by omega), fo154 _ (by omega), e148, uI_off _ _ _ (by omega), e142, uI_off _ _ _ (by omega), e120, uI_off _ _ _ (by omega), e106, uI_off _ _ _ (by omega)]; exact hm.2.2.2.2 j j1
    · cases c156
theorem sB_addPair_27_n {t c a1 a2 k1 k2 : Nat} (hS : tSt (K, I, Q, n)) (hq : Q 40 1 = some 27) (hN : WN 27 I s) (hR : RInv s) (hV : RVal s) (t1 : (t : Int) < s 1) (t2 : (t : Int) < s (94 + (t : Int))) (hc : I 40 11 = (c : Int)) (c5 : c < 5) (hQ1 : Q 30 (s (84 + (t : Int))) = some a1) (hQ2 : Q 30 (s (84 + s (94 + (t : Int)))) = some a2) (hk1 : hcl k1) (hk2 : hcl k2) (hKa1 : tK (K, I, Q, n) a1 (k1, 4)) (hKa2 : tK (K, I, Q, n) a2 (k2, 4)) (g1 : 78 ≤ a1 ∧ 78 ≤ a2) (hk1n : K a1 ≠ (14, 5) ∧ K a1 ≠ (14, 13)) (hk2n : K a2 ≠ (14, 5) ∧ K a2 ≠ (14, 13)) (f1 : I a1 0 = s (10 + s (84 + (t : Int))) ∧ I a1 1 = s (84 + (t : Int)) ∧ I a1 3 = s (26 + s (84 + (t : Int)))) (f2 : I a2 1 = s (84 + s (94 + (t : Int))) ∧ I a2 3 = s (26 + s (84 + s (94 + (t : Int))))) (hs6 : s 6 = -1) : tw_AW l G mP_addPair 4 0 0 n 0 (fun r h' => r = none ∧ ∃ L, h' = (K, L, Q, n) ∧ cq K I L ∧ pAdd I L s 27 t c) 76 [(6, vi (bOr (bShl 1 (t : Int)) (bShl 1 (s (94 + (t : Int)))))), (5, vr (some a2)), (4, vr (some a1)), (0, vr (some 40)), (1, vi ((t : Int))), (2, vi (s (94 + (t : Int)))), (3, vr (none))] [vi (if s (26 + s (84 + (t : Int))) = s (26 + s (84 + s (94 + (t : Int)))) then 1 else 0)] (K, I, Q, n) := by
  obtain ⟨h0, h1, h2, h3, h4, h5, h6, hp, hrw, ht, hr, hb, htp, hv⟩ := id hR
  have w1 := ht (t : Int) (by omega) (by omega)
  have w2 := ht (s (94 + (t : Int))) (by omega) (by omega)
  have wp1 := hp (s (84 + (t : Int))) (by omega) (by omega)
  have wp2 := hp (s (84 + s (94 + (t : Int)))) (by omega) (by omega)
  have hk : cq K I I := cq.rf
  have hcn : (if s (26 + s (84 + (t : Int))) = s (26 + s (84 + s (94 + (t : Int)))) then (1 : Int) else 0) = 0 ∨ (if s (26 + s (84 + (t : Int))) = s (26 + s (84 + s (94 + (t : Int)))) then (1 : Int) else 0) = 1 := by split <;> omega
  have tb9 : tr (bAnd (I 27 11) (bOr (bShl 1 (t : Int)) (bShl 1 (s (94 + (t : Int)))))) := tr_toInt _
  refine ar_istore (k := 41) (l2 := [(7, _), (6, _), (5, _), (4, _), (0, _), (1, _), (2, _), (3, _)]) rfl (by decide) rfl ?_
  refine ar_aloadn (k := 42) rfl rfl ?_
  refine ar_dup (k := 43) rfl rfl ?_
  refine br_getIz (k := 44) (z := 6) rfl (hS.k (by decide)) flP_39_6 (by decide) rfl rfl ?_
  refine ar_iload (k := 45) rfl rfl ?_
  refine ar_aloadn (k := 46) rfl rfl ?_
  refine br_getR (k := 47) rfl (hS.k (by decide)) flP_18_6 (by decide) rfl hq ?_
  refine br_getIz (k := 48) (z := 11) rfl (hS.k (by decide)) flP_117_10 (by decide) rfl rfl ?_
  refine tw_top (congrFun ((hk.at hS (by omega)) : _ = I 27) _) ?_
  refine ar_iconst (k := 49) rfl ?_
  refine ar_ixor (k := 50) rfl ?_
  refine ar_iand (k := 51) rfl ?_
  refine ar_ior (k := 52) rfl ?_
  refine br_putIJ (k := 53) rfl (hS.k (by decide)) flP_39_6 (by decide) rfl (fun _ _ _ q => by cases q; exact ⟨rfl, rfl⟩) (fun I53 e53 => ?_)
  change _ = uI _ 40 6 _ at e53
  have hk53 := cq.w hk (by omega) (by omega) e53
  refine ar_aloadn (k := 54) rfl rfl ?_
  refine ar_dup (k := 55) rfl rfl ?_
  refine br_getIz (k := 56) (z := 7) rfl (hS.k (by decide)) flP_42_6 (by decide) rfl rfl ?_
  refine tw_top (y := I 40 7) (by rw [e53, uI_at, if_neg (by decide)]) ?_
  refine ar_iload (k := 57) rfl rfl ?_
  refine ar_if_eq (k := 58) rfl (by omega) (fun c58 => ?_) (fun c58 => ?_)
  · refine ar_iconst (k := 61) rfl ?_
    refine tw_top (y := if s (26 + s (84 + (t : Int))) = s (26 + s (84 + s (94 + (t : Int)))) then bOr (bShl 1 (t : Int)) (bShl 1 (s (94 + (t : Int)))) else 0) (by first | (exfalso; omega) | (rw [if_pos (by omega)]; done) | (rw [if_neg (by omega)]; done)) ?_
    refine ar_ior (k := 62) rfl ?_
    refine br_putIJ (k := 63) rfl (hS.k (by decide)) flP_42_6 (by decide) rfl (fun _ _ _ q => by cases q; exact ⟨rfl, rfl⟩) (fun I63 e63 => ?_)
    change _ = uI _ 40 7 _ at e63
    have hk63 := cq.w hk53 (by omega) (by omega) e63
    refine ar_aloadn (k := 64) rfl rfl ?_
    refine br_getR (k := 65) rfl (hS.k (by decide)) flP_36_6 (by decide) rfl (hS.r rfl) ?_
    refine ar_aload (k := 66) rfl rfl ?_
    refine br_getIz (k := 67) (z := 1) rfl hKa2 (flP_any_120 hk2) (by decide) (trf_any hk2) rfl ?_
    refine tw_top ((congrFun (hk63.1 a2 (by omega) hk2n.1 hk2n.2) _).trans f2.1) ?_
    refine ar_dup2 (k := 68) rfl rfl rfl ?_
    refine br_iald (k := 69) rfl (hS.k (by decide)) (by omega) (by omega) (by decide) ?_
    refine tw_top (y := I 53 (s (84 + s (94 + (t : Int))))) (by rw [e63, uI_off _ _ _ (by decide), e53, uI_off _ _ _ (by decide)]) ?_
    refine ar_iconst (k := 70) rfl ?_
    refine ar_iloadn (k := 71) rfl rfl ?_
    refine ar_ishl (k := 72) rfl ?_
    refine ar_ior (k := 73) rfl ?_
    refine br_iastJ (k := 74) rfl (hS.k (by decide)) (by omega) (by omega) (by decide) (fun I74 e74 => ?_)
    have hk74 := cq.w hk63 (by omega) (by omega) e74
    refine ar_aloadn (k := 75) rfl rfl ?_
    refine br_getR (k := 76) rfl (hS.k (by decide)) flP_36_6 (by decide) rfl (hS.r rfl) ?_
    refine ar_aload (k := 77) rfl rfl ?_
    refine br_getIz (k := 78) (z := 1) rfl hKa1 (flP_any_120 hk1) (by decide) (trf_any hk1) rfl ?_
    refine tw_top ((congrFun (hk74.1 a1 (by omega) hk1n.1 hk1n.2) _).trans f1.2.1) ?_
    refine ar_dup2 (k := 79) rfl rfl rfl ?_
    refine br_iald (k := 80) rfl (hS.k (by decide)) (by omega) (by omega) (by decide) ?_
    refine tw_top (y := up (I 53) (s (84 + s (94 + (t : Int)))) (bOr (I 53 (s (84 + s (94 + (t : Int))))) (bShl 1 (t : Int))) (s (84 + (t : Int)))) (by rw [e74, uI_set, setA_at, e63, uI_off _ _ _ (by decide), e53, uI_off _ _ _ (by decide)]) ?_
    refine ar_iconst (k := 81) rfl ?_
    refine ar_iloadn (k := 82) rfl rfl ?_
    refine ar_ishl (k := 83) rfl ?_
    refine ar_ior (k := 84) rfl ?_
    refine br_iastJ (k := 85) rfl (hS.k (by decide)) (by omega) (by omega) (by decide) (fun I85 e85 => ?_)
    have hk85 := cq.w hk74 (by omega) (by omega) e85
    refine ar_aload (k := 86) rfl rfl ?_
    refine br_getIz (k := 87) (z := 1) rfl hKa1 (flP_any_120 hk1) (by decide) (trf_any hk1) rfl ?_
    refine tw_top ((congrFun (hk85.1 a1 (by omega) hk1n.1 hk1n.2) _).trans f1.2.1) ?_
    refine ar_aload (k := 88) rfl rfl ?_
    refine br_getIz (k := 89) (z := 1) rfl hKa2 (flP_any_120 hk2) (by decide) (trf_any hk2) rfl ?_
    refine tw_top ((congrFun (hk85.1 a2 (by omega) hk2n.1 hk2n.2) _).trans f2.1) ?_
    refine ar_icmp_eq (k := 90) rfl (by omega) (by omega) (fun c90 => ?_) (fun c90 => ?_)
    · refine ar_iconst (k := 99) rfl ?_
      refine tw_top (y := if s (84 + (t : Int)) ≠ s (84 + s (94 + (t : Int))) ∧ bAnd (I 27 11) (bOr (bShl 1 (t : Int)) (bShl 1 (s (94 + (t : Int))))) = 0 then 1 else 0) (by first | (exfalso; omega) | (rw [if_pos (by omega)]; done) | (rw [if_neg (by omega)]; done)) ?_
      refine ar_sub (l2 := [(7, vi ((if s (26 + s (84 + (t : Int))) = s (26 + s (84 + s (94 + (t : Int)))) then 1 else 0))), (6, vi (bOr (bShl 1 (t : Int)) (bShl 1 (s (94 + (t : Int)))))), (5, vr (some a2)), (4, vr (some a1)), (0, vr (some 40)), (1, vi ((t : Int))), (2, vi (s (94 + (t : Int)))), (3, vr (none))]) (tw_s (tw_g 0 rfl) (tw_s (tw_g 1 rfl) (tw_s (tw_g 2 rfl) (tw_s (tw_g 3 rfl) (tw_s (tw_g 4 rfl) (tw_s (tw_g 5 rfl) (tw_s (tw_g 6 rfl) (tw_s (tw_g 7 rfl) tw_s0)))))))) ?_
      exact sC_addPair_27_n hS hq hN hR hV t1 t2 hc c5 hQ1 hQ2 hk1 hk2 hKa1 hKa2 g1 hk1n hk2n f1 f2 hs6 I85 hk85 ⟨⟨by simp only [e85, e74, e63, e53, uI, up, Nat.reduceEqDiff, reduceIte, Int.reduceEq], by simp only [e85, e74, e63, e53, uI, up, Nat.reduceEqDiff, reduceIte, Int.reduceEq], by simp only [e85, e74, e63, e53, uI, up, Nat.reduceEqDiff, reduceIte, Int.reduceEq], by simp only [e85, e74, e63, e53, uI, up, Nat.reduceEqDiff, reduceIte, Int.reduceEq]⟩, by rw [e85, uI_off _ _ _ (by decide), e74, uI_off _ _ _ (by decide), e63, uI_off _ _ _ (by decide), e53, uI_off _ _ _ (by decide)], by rw [e85, uI_set, setA_at, e74, uI_set, setA_at, e63, uI_off _ _ _ (by decide), e53, uI_off _ _ _ (by decide)], ⟨by rw [e85, uI_off _ _ _ (by decide), e74, uI_off _ _ _ (by decide), e63, uI_off _ _ _ (by decide), e53, uI_off _ _ _ (by decide)], by rw [e85, uI_off _ _ _ (by decide), e74, uI_off _ _ _ (by decide), e63, uI_off _ _ _ (by decide), e53, uI_off _ _ _ (by decide)], by rw [e85, uI_off _ _ _ (by decide), e74, uI_off _ _ _ (by decide), e63, uI_off _ _ _ (by decide), e53, uI_off _ _ _ (by decide)]⟩, fun j hj => by rw [e85, uI_off _ _ _ (by omega), e74, uI_off _ _ _ (by omega), e63, uI_off _ _ _ (by omega), e53, uI_off _ _ _ (by omega)]⟩
    · refine ar_aloadn (k := 91) rfl rfl ?_
      refine br_getR (k := 92) rfl (hS.k (by decide)) flP_18_6 (by decide) rfl hq ?_
      refine br_getIz (k := 93) (z := 11) rfl (hS.k (by decide)) flP_117_10 (by decide) rfl rfl ?_
      refine tw_top (congrFun ((hk85.at hS (by omega)) : _ = I 27) _) ?_
      refine ar_iload (k := 94) rfl rfl ?_
      refine ar_iand (k := 95) rfl ?_
      refine ar_if_ne (k := 96) rfl (by omega) (fun c96 => ?_) (fun c96 => ?_)
      · refine ar_iconst (k := 99) rfl ?_
        refine tw_top (y := if s (84 + (t : Int)) ≠ s (84 + s (94 + (t : Int))) ∧ bAnd (I 27 11) (bOr (bShl 1 (t : Int)) (bShl 1 (s (94 + (t : Int))))) = 0 then 1 else 0) (by first | (exfalso; omega) | (rw [if_pos (by omega)]; done) | (rw [if_neg (by omega)]; done)) ?_
        refine ar_sub (l2 := [(7, vi ((if s (26 + s (84 + (t : Int))) = s (26 + s (84 + s (94 + (t : Int)))) then 1 else 0))), (6, vi (bOr (bShl 1 (t : Int)) (bShl 1 (s (94 + (t : Int)))))), (5, vr (some a2)), (4, vr (some a1)), (0, vr (some 40)), (1, vi ((t : Int))), (2, vi (s (94 + (t : Int)))), (3, vr (none))]) (tw_s (tw_g 0 rfl) (tw_s (tw_g 1 rfl) (tw_s (tw_g 2 rfl) (tw_s (tw_g 3 rfl) (tw_s (tw_g 4 rfl) (tw_s (tw_g 5 rfl) (tw_s (tw_g 6 rfl) (tw_s (tw_g 7 rfl) tw_s0)))))))) ?_
        exact sC_addPair_27_n hS hq hN hR hV t1 t2 hc c5 hQ1 hQ2 hk1 hk2 hKa1 hKa2 g1 hk1n hk2n f1 f2 hs6 I85 hk85 ⟨⟨by simp only [e85, e74, e63, e53, uI, up, Nat.reduceEqDiff, reduceIte, Int.reduceEq], by simp only [e85, e74, e63, e53, uI, up, Nat.reduceEqDiff, reduceIte, Int.reduceEq], by simp only [e85, e74, e63, e53, uI, up, Nat.reduceEqDiff, reduceIte, Int.reduceEq], by simp only [e85, e74, e63, e53, uI, up, Nat.reduceEqDiff, reduceIte, Int.reduceEq]⟩, by rw [e85, uI_off _ _ _ (by decide), e74, uI_off _ _ _ (by decide), e63, uI_off _ _ _ (by decide), e53, uI_off _ _ _ (by decide)], by rw [e85, uI_set, setA_at, e74, uI_set, setA_at, e63, uI_off _ _ _ (by decide), e53, uI_off _ _ _ (by decide)], ⟨by rw [e85, uI_off _ _ _ (by decide), e74, uI_off _ _ _ (by decide), e63, uI_off _ _ _ (by decide), e53, uI_off _ _ _ (by decide)], by rw [e85, uI_off _ _ _ (by decide), e74, uI_off _ _ _ (by decide), e63, uI_off _ _ _ (by decide), e53, uI_off _ _ _ (by decide)], by rw [e85, uI_off _ _ _ (by decide), e74, uI_off _ _ _ (by decide), e63, uI_off _ _ _ (by decide), e53, uI_off _ _ _ (by decide)]⟩, fun j hj => by rw [e85, uI_off _ _ _ (by omega), e74, uI_off _ _ _ (by omega), e63, uI_off _ _ _ (by omega), e53, uI_off _ _ _ (by omega)]⟩
      · refine ar_iconst (k := 97) rfl ?_
        refine ar_goto (k := 98) rfl ?_
        refine tw_top (y := if s (84 + (t : Int)) ≠ s (84 + s (94 + (t : Int))) ∧ bAnd (I 27 11) (bOr (bShl 1 (t : Int)) (bShl 1 (s (94 + (t : Int))))) = 0 then 1 else 0) (by first | (exfalso; omega) | (rw [if_pos (by omega)]; done) | (rw [if_neg (by omega)]; done)) ?_
        refine ar_sub (l2 := [(7, vi ((if s (26 + s (84 + (t : Int))) = s (26 + s (84 + s (94 + (t : Int)))) then 1 else 0))), (6, vi (bOr (bShl 1 (t : Int)) (bShl 1 (s (94 + (t : Int)))))), (5, vr (some a2)), (4, vr (some a1)), (0, vr (some 40)), (1, vi ((t : Int))), (2, vi (s (94 + (t : Int)))), (3, vr (none))]) (tw_s (tw_g 0 rfl) (tw_s (tw_g 1 rfl) (tw_s (tw_g 2 rfl) (tw_s (tw_g 3 rfl) (tw_s (tw_g 4 rfl) (tw_s (tw_g 5 rfl) (tw_s (tw_g 6 rfl) (tw_s (tw_g 7 rfl) tw_s0)))))))) ?_
        exact sC_addPair_27_n hS hq hN hR hV t1 t2 hc c5 hQ1 hQ2 hk1 hk2 hKa1 hKa2 g1 hk1n hk2n f1 f2 hs6 I85 hk85 ⟨⟨by simp only [e85, e74, e63, e53, uI, up, Nat.reduceEqDiff, reduceIte, Int.reduceEq], by simp only [e85, e74, e63, e53, uI, up, Nat.reduceEqDiff, reduceIte, Int.reduceEq], by simp only [e85, e74, e63, e53, uI, up, Nat.reduceEqDiff, reduceIte, Int.reduceEq], by simp only [e85, e74, e63, e53, uI, up, Nat.reduceEqDiff, reduceIte, Int.reduceEq]⟩, by rw [e85, uI_off _ _ _ (by decide), e74, uI_off _ _ _ (by decide), e63, uI_off _ _ _ (by decide), e53, uI_off _ _ _ (by decide)], by rw [e85, uI_set, setA_at, e74, uI_set, setA_at, e63, uI_off _ _ _ (by decide), e53, uI_off _ _ _ (by decide)], ⟨by rw [e85, uI_off _ _ _ (by decide), e74, uI_off _ _ _ (by decide), e63, uI_off _ _ _ (by decide), e53, uI_off _ _ _ (by decide)], by rw [e85, uI_off _ _ _ (by decide), e74, uI_off _ _ _ (by decide), e63, uI_off _ _ _ (by decide), e53, uI_off _ _ _ (by decide)], by rw [e85, uI_off _ _ _ (by decide), e74, uI_off _ _ _ (by decide), e63, uI_off _ _ _ (by decide), e53, uI_off _ _ _ (by decide)]⟩, fun j hj => by rw [e85, uI_off _ _ _ (by omega), e74, uI_off _ _ _ (by omega), e63, uI_off _ _ _ (by omega), e53, uI_off _ _ _ (by omega)]⟩
  · refine ar_iload (k := 59) rfl rfl ?_
    refine ar_goto (k := 60) rfl ?_
    refine tw_top (y := if s (26 + s (84 + (t : Int))) = s (26 + s (84 + s (94 + (t : Int)))) then bOr (bShl 1 (t : Int)) (bShl 1 (s (94 + (t : Int)))) else 0) (by first | (exfalso; omega) | (rw [if_pos (by omega)]; done) | (rw [if_neg (by omega)]; done)) ?_
    refine ar_ior (k := 62) rfl ?_
    refine br_putIJ (k := 63) rfl (hS.k (by decide)) flP_42_6 (by decide) rfl (fun _ _ _ q => by cases q; exact ⟨rfl, rfl⟩) (fun I63 e63 => ?_)
    change _ = uI _ 40 7 _ at e63
    have hk63 := cq.w hk53 (by omega) (by omega) e63
    refine ar_aloadn (k := 64) rfl rfl ?_
    refine br_getR (k := 65) rfl (hS.k (by decide)) flP_36_6 (by decide) rfl (hS.r rfl) ?_
    refine ar_aload (k := 66) rfl rfl ?_
    refine br_getIz (k := 67) (z := 1) rfl hKa2 (flP_any_120 hk2) (by decide) (trf_any hk2) rfl ?_
    refine tw_top ((congrFun (hk63.1 a2 (by omega) hk2n.1 hk2n.2) _).trans f2.1) ?_
    refine ar_dup2 (k := 68) rfl rfl rfl ?_
    refine br_iald (k := 69) rfl (hS.k (by decide)) (by omega) (by omega) (by decide) ?_
    refine tw_top (y := I 53 (s (84 + s (94 + (t : Int))))) (by rw [e63, uI_off _ _ _ (by decide), e53, uI_off _ _ _ (by decide)]) ?_
    refine ar_iconst (k := 70) rfl ?_
    refine ar_iloadn (k := 71) rfl rfl ?_
    refine ar_ishl (k := 72) rfl ?_
    refine ar_ior (k := 73) rfl ?_
    refine br_iastJ (k := 74) rfl (hS.k (by decide)) (by omega) (by omega) (by decide) (fun I74 e74 => ?_)
    have hk74 := cq.w hk63 (by omega) (by omega) e74
    refine ar_aloadn (k := 75) rfl rfl ?_
    refine br_getR (k := 76) rfl (hS.k (by decide)) flP_36_6 (by decide) rfl (hS.r rfl) ?_
    refine ar_aload (k := 77) rfl rfl ?_
    refine br_getIz (k := 78) (z := 1) rfl hKa1 (flP_any_120 hk1) (by decide) (trf_any hk1) rfl ?_
    refine tw_top ((congrFun (hk74.1 a1 (by omega) hk1n.1 hk1n.2) _).trans f1.2.1) ?_
    refine ar_dup2 (k := 79) rfl rfl rfl ?_
    refine br_iald (k := 80) rfl (hS.k (by decide)) (by omega) (by omega) (by decide) ?_
    refine tw_top (y := up (I 53) (s (84 + s (94 + (t : Int)))) (bOr (I 53 (s (84 + s (94 + (t : Int))))) (bShl 1 (t : Int))) (s (84 + (t : Int)))) (by rw [e74, uI_set, setA_at, e63, uI_off _ _ _ (by decide), e53, uI_off _ _ _ (by decide)]) ?_
    refine ar_iconst (k := 81) rfl ?_
    refine ar_iloadn (k := 82) rfl rfl ?_
    refine ar_ishl (k := 83) rfl ?_
    refine ar_ior (k := 84) rfl ?_
    refine br_iastJ (k := 85) rfl (hS.k (by decide)) (by omega) (by omega) (by decide) (fun I85 e85 => ?_)
    have hk85 := cq.w hk74 (by omega) (by omega) e85
    refine ar_aload (k := 86) rfl rfl ?_
    refine br_getIz (k := 87) (z := 1) rfl hKa1 (flP_any_120 hk1) (by decide) (trf_any hk1) rfl ?_
    refine tw_top ((congrFun (hk85.1 a1 (by omega) hk1n.1 hk1n.2) _).trans f1.2.1) ?_
    refine ar_aload (k := 88) rfl rfl ?_
    refine br_getIz (k := 89) (z := 1) rfl hKa2 (flP_any_120 hk2) (by decide) (trf_any hk2) rfl ?_
    refine tw_top ((congrFun (hk85.1 a2 (by omega) hk2n.1 hk2n.2) _).trans f2.1) ?_
    refine ar_icmp_eq (k := 90) rfl (by omega) (by omega) (fun c90 => ?_) (fun c90 => ?_)
    · refine ar_iconst (k := 99) rfl ?_
      refine tw_top (y := if s (84 + (t : Int)) ≠ s (84 + s (94 + (t : Int))) ∧ bAnd (I 27 11) (bOr (bShl 1 (t : Int)) (bShl 1 (s (94 + (t : Int))))) = 0 then 1 else 0) (by first | (exfalso; omega) | (rw [if_pos (by omega)]; done) | (rw [if_neg (by omega)]; done)) ?_
      refine ar_sub (l2 := [(7, vi ((if s (26 + s (84 + (t : Int))) = s (26 + s (84 + s (94 + (t : Int)))) then 1 else 0))), (6, vi (bOr (bShl 1 (t : Int)) (bShl 1 (s (94 + (t : Int)))))), (5, vr (some a2)), (4, vr (some a1)), (0, vr (some 40)), (1, vi ((t : Int))), (2, vi (s (94 + (t : Int)))), (3, vr (none))]) (tw_s (tw_g 0 rfl) (tw_s (tw_g 1 rfl) (tw_s (tw_g 2 rfl) (tw_s (tw_g 3 rfl) (tw_s (tw_g 4 rfl) (tw_s (tw_g 5 rfl) (tw_s (tw_g 6 rfl) (tw_s (tw_g 7 rfl) tw_s0)))))))) ?_
      exact sC_addPair_27_n hS hq hN hR hV t1 t2 hc c5 hQ1 hQ2 hk1 hk2 hKa1 hKa2 g1 hk1n hk2n f1 f2 hs6 I85 hk85 ⟨⟨by simp only [e85, e74, e63, e53, uI, up, Nat.reduceEqDiff, reduceIte, Int.reduceEq], by simp only [e85, e74, e63, e53, uI, up, Nat.reduceEqDiff, reduceIte, Int.reduceEq], by simp only [e85, e74, e63, e53, uI, up, Nat.reduceEqDiff, reduceIte, Int.reduceEq], by simp only [e85, e74, e63, e53, uI, up, Nat.reduceEqDiff, reduceIte, Int.reduceEq]⟩, by rw [e85, uI_off _ _ _ (by decide), e74, uI_off _ _ _ (by decide), e63, uI_off _ _ _ (by decide), e53, uI_off _ _ _ (by decide)], by rw [e85, uI_set, setA_at, e74, uI_set, setA_at, e63, uI_off _ _ _ (by decide), e53, uI_off _ _ _ (by decide)], ⟨by rw [e85, uI_off _ _ _ (by decide), e74, uI_off _ _ _ (by decide), e63, uI_off _ _ _ (by decide), e53, uI_off _ _ _ (by decide)], by rw [e85, uI_off _ _ _ (by decide), e74, uI_off _ _ _ (by decide), e63, uI_off _ _ _ (by decide), e53, uI_off _ _ _ (by decide)], by rw [e85, uI_off _ _ _ (by decide), e74, uI_off _ _ _ (by decide), e63, uI_off _ _ _ (by decide), e53, uI_off _ _ _ (by decide)]⟩, fun j hj => by rw [e85, uI_off _ _ _ (by omega), e74, uI_off _ _ _ (by omega), e63, uI_off _ _ _ (by omega), e53, uI_off _ _ _ (by omega)]⟩
    · refine ar_aloadn (k := 91) rfl rfl ?_
      refine br_getR (k := 92) rfl (hS.k (by decide)) flP_18_6 (by decide) rfl hq ?_
      refine br_getIz (k := 93) (z := 11) rfl (hS.k (by decide)) flP_117_10 (by decide) rfl rfl ?_
      refine tw_top (congrFun ((hk85.at hS (by omega)) : _ = I 27) _) ?_
      refine ar_iload (k := 94) rfl rfl ?_
      refine ar_iand (k := 95) rfl ?_
      refine ar_if_ne (k := 96) rfl (by omega) (fun c96 => ?_) (fun c96 => ?_)
      · refine ar_iconst (k := 99) rfl ?_
        refine tw_top (y := if s (84 + (t : Int)) ≠ s (84 + s (94 + (t : Int))) ∧ bAnd (I 27 11) (bOr (bShl 1 (t : Int)) (bShl 1 (s (94 + (t : Int))))) = 0 then 1 else 0) (by first | (exfalso; omega) | (rw [if_pos (by omega)]; done) | (rw [if_neg (by omega)]; done)) ?_
        refine ar_sub (l2 := [(7, vi ((if s (26 + s (84 + (t : Int))) = s (26 + s (84 + s (94 + (t : Int)))) then 1 else 0))), (6, vi (bOr (bShl 1 (t : Int)) (bShl 1 (s (94 + (t : Int)))))), (5, vr (some a2)), (4, vr (some a1)), (0, vr (some 40)), (1, vi ((t : Int))), (2, vi (s (94 + (t : Int)))), (3, vr (none))]) (tw_s (tw_g 0 rfl) (tw_s (tw_g 1 rfl) (tw_s (tw_g 2 rfl) (tw_s (tw_g 3 rfl) (tw_s (tw_g 4 rfl) (tw_s (tw_g 5 rfl) (tw_s (tw_g 6 rfl) (tw_s (tw_g 7 rfl) tw_s0)))))))) ?_
        exact sC_addPair_27_n hS hq hN hR hV t1 t2 hc c5 hQ1 hQ2 hk1 hk2 hKa1 hKa2 g1 hk1n hk2n f1 f2 hs6 I85 hk85 ⟨⟨by simp only [e85, e74, e63, e53, uI, up, Nat.reduceEqDiff, reduceIte, Int.reduceEq], by simp only [e85, e74, e63, e53, uI, up, Nat.reduceEqDiff, reduceIte, Int.reduceEq], by simp only [e85, e74, e63, e53, uI, up, Nat.reduceEqDiff, reduceIte, Int.reduceEq], by simp only [e85, e74, e63, e53, uI, up, Nat.reduceEqDiff, reduceIte, Int.reduceEq]⟩, by rw [e85, uI_off _ _ _ (by decide), e74, uI_off _ _ _ (by decide), e63, uI_off _ _ _ (by decide), e53, uI_off _ _ _ (by decide)], by rw [e85, uI_set, setA_at, e74, uI_set, setA_at, e63, uI_off _ _ _ (by decide), e53, uI_off _ _ _ (by decide)], ⟨by rw [e85, uI_off _ _ _ (by decide), e74, uI_off _ _ _ (by decide), e63, uI_off _ _ _ (by decide), e53, uI_off _ _ _ (by decide)], by rw [e85, uI_off _ _ _ (by decide), e74, uI_off _ _ _ (by decide), e63, uI_off _ _ _ (by decide), e53, uI_off _ _ _ (by decide)], by rw [e85, uI_off _ _ _ (by decide), e74, uI_off _ _ _ (by decide), e63, uI_off _ _ _ (by decide), e53, uI_off _ _ _ (by decide)]⟩, fun j hj => by rw [e85, uI_off _ _ _ (by omega), e74, uI_off _ _ _ (by omega), e63, uI_off _ _ _ (by omega), e53, uI_off _ _ _ (by omega)]⟩
      · refine ar_iconst (k := 97) rfl ?_
        refine ar_goto (k := 98) rfl ?_
        refine tw_top (y := if s (84 + (t : Int)) ≠ s (84 + s (94 + (t : Int))) ∧ bAnd (I 27 11) (bOr (bShl 1 (t : Int)) (bShl 1 (s (94 + (t : Int))))) = 0 then 1 else 0) (by first | (exfalso; omega) | (rw [if_pos (by omega)]; done) | (rw [if_neg (by omega)]; done)) ?_
        refine ar_sub (l2 := [(7, vi ((if s (26 + s (84 + (t : Int))) = s (26 + s (84 + s (94 + (t : Int)))) then 1 else 0))), (6, vi (bOr (bShl 1 (t : Int)) (bShl 1 (s (94 + (t : Int)))))), (5, vr (some a2)), (4, vr (some a1)), (0, vr (some 40)), (1, vi ((t : Int))), (2, vi (s (94 + (t : Int)))), (3, vr (none))]) (tw_s (tw_g 0 rfl) (tw_s (tw_g 1 rfl) (tw_s (tw_g 2 rfl) (tw_s (tw_g 3 rfl) (tw_s (tw_g 4 rfl) (tw_s (tw_g 5 rfl) (tw_s (tw_g 6 rfl) (tw_s (tw_g 7 rfl) tw_s0)))))))) ?_
        exact sC_addPair_27_n hS hq hN hR hV t1 t2 hc c5 hQ1 hQ2 hk1 hk2 hKa1 hKa2 g1 hk1n hk2n f1 f2 hs6 I85 hk85 ⟨⟨by simp only [e85, e74, e63, e53, uI, up, Nat.reduceEqDiff, reduceIte, Int.reduceEq], by simp only [e85, e74, e63, e53, uI, up, Nat.reduceEqDiff, reduceIte, Int.reduceEq], by simp only [e85, e74, e63, e53, uI, up, Nat.reduceEqDiff, reduceIte, Int.reduceEq], by simp only [e85, e74, e63, e53, uI, up, Nat.reduceEqDiff, reduceIte, Int.reduceEq]⟩, by rw [e85, uI_off _ _ _ (by decide), e74, uI_off _ _ _ (by decide), e63, uI_off _ _ _ (by decide), e53, uI_off _ _ _ (by decide)], by rw [e85, uI_set, setA_at, e74, uI_set, setA_at, e63, uI_off _ _ _ (by decide), e53, uI_off _ _ _ (by decide)], ⟨by rw [e85, uI_off _ _ _ (by decide), e74, uI_off _ _ _ (by decide), e63, uI_off _ _ _ (by decide), e53, uI_off _ _ _ (by decide)], by rw [e85, uI_off _ _ _ (by decide), e74, uI_off _ _ _ (by decide), e63, uI_off _ _ _ (by decide), e53, uI_off _ _ _ (by decide)], by rw [e85, uI_off _ _ _ (by decide), e74, uI_off _ _ _ (by decide), e63, uI_off _ _ _ (by decide), e53, uI_off _ _ _ (by decide)]⟩, fun j hj => by rw [e85, uI_off _ _ _ (by omega), e74, uI_off _ _ _ (by omega), e63, uI_off _ _ _ (by omega), e53, uI_off _ _ _ (by omega)]⟩
theorem c_P_addPair_27_n {t c a1 a2 k1 k2 : Nat} (hS : tSt (K, I, Q, n)) (hq : Q 40 1 = some 27) (hN : WN 27 I s) (hR : RInv s) (hV : RVal s) (t1 : (t : Int) < s 1) (t2 : (t : Int) < s (94 + (t : Int))) (hc : I 40 11 = (c : Int)) (c5 : c < 5) (hQ1 : Q 30 (s (84 + (t : Int))) = some a1) (hQ2 : Q 30 (s (84 + s (94 + (t : Int)))) = some a2) (hk1 : hcl k1) (hk2 : hcl k2) (hKa1 : tK (K, I, Q, n) a1 (k1, 4)) (hKa2 : tK (K, I, Q, n) a2 (k2, 4)) (g1 : 78 ≤ a1 ∧ 78 ≤ a2) (hk1n : K a1 ≠ (14, 5) ∧ K a1 ≠ (14, 13)) (hk2n : K a2 ≠ (14, 5) ∧ K a2 ≠ (14, 13)) (f1 : I a1 0 = s (10 + s (84 + (t : Int))) ∧ I a1 1 = s (84 + (t : Int)) ∧ I a1 3 = s (26 + s (84 + (t : Int)))) (f2 : I a2 1 = s (84 + s (94 + (t : Int))) ∧ I a2 3 = s (26 + s (84 + s (94 + (t : Int))))) (hs6 : s 6 = -1) : tw_M l G 4 0 0 mP_addPair [vr (some 40), vi (t : Int), vi (s (94 + (t : Int))), vr (none)] (K, I, Q, n) (fun r h' => r = none ∧ ∃ L, h' = (K, L, Q, n) ∧ cq K I L ∧ pAdd I L s 27 t c) := by
  obtain ⟨h0, h1, h2, h3, h4, h5, h6, hp, hrw, ht, hr, hb, htp, hv⟩ := id hR
  have w1 := ht (t : Int) (by omega) (by omega)
  have w2 := ht (s (94 + (t : Int))) (by omega) (by omega)
  have wp1 := hp (s (84 + (t : Int))) (by omega) (by omega)
  have wp2 := hp (s (84 + s (94 + (t : Int)))) (by omega) (by omega)
  have hk : cq K I I := cq.rf
  refine tw_intro okP_addPair (Nat.le_of_ble_eq_true rfl) ?_
  refine ar_aloadn (k := 0) rfl rfl ?_
  refine br_getR (k := 1) rfl (hS.k (by decide)) flP_18_6 (by decide) rfl hq ?_
  refine br_getR (k := 2) rfl (hS.k (by decide)) flP_108_10 (by decide) rfl (hS.r rfl) ?_
  refine ar_aloadn (k := 3) rfl rfl ?_
  refine br_getR (k := 4) rfl (hS.k (by decide)) flP_18_6 (by decide) rfl hq ?_
  refine br_getR (k := 5) rfl (hS.k (by decide)) flP_95_10 (by decide) rfl (hS.r rfl) ?_
  refine ar_iloadn (k := 6) rfl rfl ?_
  refine br_iald (k := 7) rfl (hS.k (by decide)) (by omega) (by omega) (by decide) ?_
  refine tw_top (WN.ho (WN.q27 hN hS hk) (by omega) (by omega)) ?_
  refine br_aald16 (k := 8) rfl (hS.k (by decide)) (by omega) (by omega) (by decide) hQ1 ?_
  refine ar_astore (k := 9) (l2 := [(4, _), (0, _), (1, _), (2, _), (3, _)]) rfl (by decide) rfl ?_
  refine ar_aloadn (k := 10) rfl rfl ?_
  refine br_getR (k := 11) rfl (hS.k (by decide)) flP_18_6 (by decide) rfl hq ?_
  refine br_getR (k := 12) rfl (hS.k (by decide)) flP_108_10 (by decide) rfl (hS.r rfl) ?_
  refine ar_aloadn (k := 13) rfl rfl ?_
  refine br_getR (k := 14) rfl (hS.k (by decide)) flP_18_6 (by decide) rfl hq ?_
  refine br_getR (k := 15) rfl (hS.k (by decide)) flP_95_10 (by decide) rfl (hS.r rfl) ?_
  refine ar_iloadn (k := 16) rfl rfl ?_
  refine br_iald (k := 17) rfl (hS.k (by decide)) (by omega) (by omega) (by decide) ?_
  refine tw_top (WN.ho (WN.q27 hN hS hk) (by omega) (by omega)) ?_
  refine br_aald16 (k := 18) rfl (hS.k (by decide)) (by omega) (by omega) (by decide) hQ2 ?_
  refine ar_astore (k := 19) (l2 := [(5, _), (4, _), (0, _), (1, _), (2, _), (3, _)]) rfl (by decide) rfl ?_
  refine ar_aload (k := 20) rfl rfl ?_
  refine ar_ifnull (k := 21) rfl (fun c21 => ?_) (fun a21 c21 => ?_)
  · cases c21
  · refine ar_aload (k := 22) rfl rfl ?_
    refine ar_ifnonnull (k := 23) rfl (fun a23 c23 => ?_) (fun c23 => ?_)
    · refine ar_iconst (k := 25) rfl ?_
      refine ar_iloadn (k := 26) rfl rfl ?_
      refine ar_ishl (k := 27) rfl ?_
      refine ar_iconst (k := 28) rfl ?_
      refine ar_iloadn (k := 29) rfl rfl ?_
      refine ar_ishl (k := 30) rfl ?_
      refine ar_ior (k := 31) rfl ?_
      refine ar_istore (k := 32) (l2 := [(6, _), (5, _), (4, _), (0, _), (1, _), (2, _), (3, _)]) rfl (by decide) rfl ?_
      refine ar_aload (k := 33) rfl rfl ?_
      refine br_getIz (k := 34) (z := 3) rfl hKa1 (flP_any_112 hk1) (by decide) (trf_any hk1) rfl ?_
      refine tw_top ((congrFun (hk.1 a1 (by omega) hk1n.1 hk1n.2) _).trans f1.2.2) ?_
      refine ar_aload (k := 35) rfl rfl ?_
      refine br_getIz (k := 36) (z := 3) rfl hKa2 (flP_any_112 hk2) (by decide) (trf_any hk2) rfl ?_
      refine tw_top ((congrFun (hk.1 a2 (by omega) hk2n.1 hk2n.2) _).trans f2.2) ?_
      refine ar_icmp_ne (k := 37) rfl (by omega) (by omega) (fun c37 => ?_) (fun c37 => ?_)
      · refine ar_iconst (k := 40) rfl ?_
        refine tw_top (y := if s (26 + s (84 + (t : Int))) = s (26 + s (84 + s (94 + (t : Int)))) then 1 else 0) (by first | (exfalso; omega) | (rw [if_pos (by omega)]; done) | (rw [if_neg (by omega)]; done)) ?_
        refine ar_sub (l2 := [(6, vi (bOr (bShl 1 (t : Int)) (bShl 1 (s (94 + (t : Int)))))), (5, vr (some a2)), (4, vr (some a1)), (0, vr (some 40)), (1, vi ((t : Int))), (2, vi (s (94 + (t : Int)))), (3, vr (none))]) (tw_s (tw_g 0 rfl) (tw_s (tw_g 1 rfl) (tw_s (tw_g 2 rfl) (tw_s (tw_g 3 rfl) (tw_s (tw_g 4 rfl) (tw_s (tw_g 5 rfl) (tw_s (tw_g 6 rfl) tw_s0))))))) ?_
        exact sB_addPair_27_n hS hq hN hR hV t1 t2 hc c5 hQ1 hQ2 hk1 hk2 hKa1 hKa2 g1 hk1n hk2n f1 f2 hs6
      · refine ar_iconst (k := 38) rfl ?_
        refine ar_goto (k := 39) rfl ?_
        refine tw_top (y := if s (26 + s (84 + (t : Int))) = s (26 + s (84 + s (94 + (t : Int)))) then 1 else 0) (by first | (exfalso; omega) | (rw [if_pos (by omega)]; done) | (rw [if_neg (by omega)]; done)) ?_
        refine ar_sub (l2 := [(6, vi (bOr (bShl 1 (t : Int)) (bShl 1 (s (94 + (t : Int)))))), (5, vr (some a2)), (4, vr (some a1)), (0, vr (some 40)), (1, vi ((t : Int))), (2, vi (s (94 + (t : Int)))), (3, vr (none))]) (tw_s (tw_g 0 rfl) (tw_s (tw_g 1 rfl) (tw_s (tw_g 2 rfl) (tw_s (tw_g 3 rfl) (tw_s (tw_g 4 rfl) (tw_s (tw_g 5 rfl) (tw_s (tw_g 6 rfl) tw_s0))))))) ?_
        exact sB_addPair_27_n hS hq hN hR hV t1 t2 hc c5 hQ1 hQ2 hk1 hk2 hKa1 hKa2 g1 hk1n hk2n f1 f2 hs6
    · cases c23
theorem sC_addPair_27_v {t c a1 a2 k1 k2 : Nat} {v : Nat} {C : tCL} (hS : tSt (K, I, Q, n)) (hq : Q 40 1 = some 27) (hN : WN 27 I s) (hR : RInv s) (hV : RVal s) (t1 : (t : Int) < s 1) (t2 : (t : Int) < s (94 + (t : Int))) (hc : I 40 11 = (c : Int)) (c5 : c < 5) (hQ1 : Q 30 (s (84 + (t : Int))) = some a1) (hQ2 : Q 30 (s (84 + s (94 + (t : Int)))) = some a2) (hk1 : hcl k1) (hk2 : hcl k2) (hKa1 : tK (K, I, Q, n) a1 (k1, 4)) (hKa2 : tK (K, I, Q, n) a2 (k2, 4)) (g1 : 78 ≤ a1 ∧ 78 ≤ a2) (hk1n : K a1 ≠ (14, 5) ∧ K a1 ≠ (14, 13)) (hk2n : K a2 ≠ (14, 5) ∧ K a2 ≠ (14, 13)) (f1 : I a1 0 = s (10 + s (84 + (t : Int))) ∧ I a1 1 = s (84 + (t : Int)) ∧ I a1 3 = s (26 + s (84 + (t : Int)))) (f2 : I a2 1 = s (84 + s (94 + (t : Int))) ∧ I a2 3 = s (26 + s (84 + s (94 + (t : Int))))) (hvs : VS K Q n v) (hD : VD I v C) (hs6 : s 6 ≠ -1) (ho : rOut s (s 6) = cFl C) : ∀ (J : Nat → Int → Int), cq K I J → ((J 40 2 = I 40 2 ∧ J 40 6 = bOr (I 40 6) (bAnd (bOr (bShl 1 (t : Int)) (bShl 1 (s (94 + (t : Int))))) (bXor (I 27 11) (-1))) ∧ J 40 7 = bOr (I 40 7) (if s (26 + s (84 + (t : Int))) = s (26 + s (84 + s (94 + (t : Int)))) then bOr (bShl 1 (t : Int)) (bShl 1 (s (94 + (t : Int)))) else 0) ∧ J 40 11 = I 40 11) ∧ J 52 = I 52 ∧ J 53 = up (up (I 53) (s (84 + s (94 + (t : Int)))) (bOr (I 53 (s (84 + s (94 + (t : Int))))) (bShl 1 (t : Int)))) (s (84 + (t : Int))) (bOr (up (I 53) (s (84 + s (94 + (t : Int)))) (bOr (I 53 (s (84 + s (94 + (t : Int))))) (bShl 1 (t : Int))) (s (84 + (t : Int)))) (bShl 1 (s (94 + (t : Int))))) ∧ (J 54 = I 54 ∧ J 55 = I 55 ∧ J 56 = I 56) ∧ ∀ j : Nat, j < 10 → J (42 + j) = I (42 + j)) → tw_AW l G mP_addPair 4 0 0 n 0 (fun r h' => r = none ∧ ∃ L, h' = (K, L, Q, n) ∧ cq K I L ∧ pAdd I L s 27 t c) 182 [(7, vi ((if s (26 + s (84 + (t : Int))) = s (26 + s (84 + s (94 + (t : Int)))) then 1 else 0))), (6, vi (bOr (bShl 1 (t : Int)) (bShl 1 (s (94 + (t : Int)))))), (5, vr (some a2)), (4, vr (some a1)), (0, vr (some 40)), (1, vi ((t : Int))), (2, vi (s (94 + (t : Int)))), (3, vr (some v))] [vi (if s (84 + (t : Int)) ≠ s (84 + s (94 + (t : Int))) ∧ bAnd (I 27 11) (bOr (bShl 1 (t : Int)) (bShl 1 (s (94 + (t : Int))))) = 0 then 1 else 0)] (K, J, Q, n) := by
  obtain ⟨h0, h1, h2, h3, h4, h5, h6, hp, hrw, ht, hr, hb, htp, hv⟩ := id hR
  have w1 := ht (t : Int) (by omega) (by omega)
  have w2 := ht (s (94 + (t : Int))) (by omega) (by omega)
  have wp1 := hp (s (84 + (t : Int))) (by omega) (by omega)
  have wp2 := hp (s (84 + s (94 + (t : Int)))) (by omega) (by omega)
  have h0v := hvs.1
  intro J hk hm
  refine ar_istore (k := 100) (l2 := [(8, _), (7, _), (6, _), (5, _), (4, _), (0, _), (1, _), (2, _), (3, _)]) rfl (by decide) rfl ?_
  have hcn : (if s (84 + (t : Int)) ≠ s (84 + s (94 + (t : Int))) ∧ bAnd (I 27 11) (bOr (bShl 1 (t : Int)) (bShl 1 (s (94 + (t : Int))))) = 0 then (1 : Int) else 0) = 0 ∨ (if s (84 + (t : Int)) ≠ s (84 + s (94 + (t : Int))) ∧ bAnd (I 27 11) (bOr (bShl 1 (t : Int)) (bShl 1 (s (94 + (t : Int))))) = 0 then (1 : Int) else 0) = 1 := by split <;> omega
  refine ar_aloadn (k := 101) rfl rfl ?_
  refine br_getR (k := 102) rfl (hS.k (by decide)) flP_45_6 (by decide) rfl (hS.r rfl) ?_
  refine ar_aloadn (k := 103) rfl rfl ?_
  refine br_getIz (k := 104) (z := 11) rfl (hS.k (by decide)) flP_54_6 (by decide) rfl rfl ?_
  refine tw_top (y := (c : Int)) (by rw [hm.1.2.2.2]; exact hc) ?_
  refine ar_iloadn (k := 105) rfl rfl ?_
  refine br_iastJ (k := 106) rfl (hS.k (by decide)) (by omega) (by omega) (by decide) (fun I106 e106 => ?_)
  have hk106 := cq.w hk (by omega) (by omega) e106
  refine ar_aloadn (k := 107) rfl rfl ?_
  refine br_getR (k := 108) rfl (hS.k (by decide)) flP_48_6 (by decide) rfl (hS.r rfl) ?_
  refine ar_aloadn (k := 109) rfl rfl ?_
  refine br_getIz (k := 110) (z := 11) rfl (hS.k (by decide)) flP_54_6 (by decide) rfl rfl ?_
  refine tw_top (y := (c : Int)) (by rw [e106, uI_off _ _ _ (by decide), hm.1.2.2.2]; exact hc) ?_
  refine ar_iconst (k := 111) rfl ?_
  refine ar_aload (k := 112) rfl rfl ?_
  refine br_getIz (k := 113) (z := 1) rfl hKa1 (flP_any_120 hk1) (by decide) (trf_any hk1) rfl ?_
  refine tw_top ((congrFun (hk106.1 a1 (by omega) hk1n.1 hk1n.2) _).trans f1.2.1) ?_
  refine ar_ishl (k := 114) rfl ?_
  refine ar_iconst (k := 115) rfl ?_
  refine ar_aload (k := 116) rfl rfl ?_
  refine br_getIz (k := 117) (z := 1) rfl hKa2 (flP_any_120 hk2) (by decide) (trf_any hk2) rfl ?_
  refine tw_top ((congrFun (hk106.1 a2 (by omega) hk2n.1 hk2n.2) _).trans f2.1) ?_
  refine ar_ishl (k := 118) rfl ?_
  refine ar_ior (k := 119) rfl ?_
  refine br_iastJ (k := 120) rfl (hS.k (by decide)) (by omega) (by omega) (by decide) (fun I120 e120 => ?_)
  have hk120 := cq.w hk106 (by omega) (by omega) e120
  refine ar_aloadn (k := 121) rfl rfl ?_
  refine br_getR (k := 122) rfl (hS.k (by decide)) flP_51_6 (by decide) rfl (hS.r rfl) ?_
  refine ar_aloadn (k := 123) rfl rfl ?_
  refine br_getIz (k := 124) (z := 11) rfl (hS.k (by decide)) flP_54_6 (by decide) rfl rfl ?_
  refine tw_top (y := (c : Int)) (by rw [e120, uI_off _ _ _ (by decide), e106, uI_off _ _ _ (by decide), hm.1.2.2.2]; exact hc) ?_
  refine ar_iload (k := 125) rfl rfl ?_
  refine ar_if_eq (k := 126) rfl (by omega) (fun c126 => ?_) (fun c126 => ?_)
  · refine ar_iconst (k := 141) rfl ?_
    refine tw_top (y := if s (84 + (t : Int)) ≠ s (84 + s (94 + (t : Int))) ∧ bAnd (I 27 11) (bOr (bShl 1 (t : Int)) (bShl 1 (s (94 + (t : Int))))) = 0 then bAnd (s (34 + s (84 + (t : Int)))) (s (34 + s (84 + s (94 + (t : Int))))) else 0) (by first | (exfalso; omega) | (rw [if_pos (by omega)]; done) | (rw [if_neg (by omega)]; done)) ?_
    refine br_iastJ (k := 142) rfl (hS.k (by decide)) (by omega) (by omega) (by decide) (fun I142 e142 => ?_)
    have hk142 := cq.w hk120 (by omega) (by omega) e142
    refine ar_aloadn (k := 143) rfl rfl ?_
    refine ar_dup (k := 144) rfl rfl ?_
    refine br_getIz (k := 145) (z := 11) rfl (hS.k (by decide)) flP_54_6 (by decide) rfl rfl ?_
    refine tw_top (y := (c : Int)) (by rw [e142, uI_off _ _ _ (by decide), e120, uI_off _ _ _ (by decide), e106, uI_off _ _ _ (by decide), hm.1.2.2.2]; exact hc) ?_
    refine ar_iconst (k := 146) rfl ?_
    refine ar_iadd (k := 147) rfl ?_
    refine br_putIJ (k := 148) rfl (hS.k (by decide)) flP_54_6 (by decide) rfl (fun _ _ _ q => by cases q; exact ⟨rfl, rfl⟩) (fun I148 e148 => ?_)
    change _ = uI _ 40 11 _ at e148
    have hk148 := cq.w hk142 (by omega) (by omega) e148
    refine ar_aloadn (k := 149) rfl rfl ?_
    refine br_getR (k := 150) rfl (hS.k (by decide)) flP_29_6 (by decide) rfl (hS.r rfl) ?_
    refine ar_iloadn (k := 151) rfl rfl ?_
    refine br_aald18 (k := 152) rfl (hS.k (by decide)) (by omega) (by omega) (by decide) (hS.row (t := (t : Int)) (by omega) (by omega)).1 ?_
    refine ar_iconst (k := 153) rfl ?_
    refine ar_callS (k := 154) (as := [_, _]) rfl lsP_86 (c_fillJ (by decide) (hS.row (t := (t : Int)) (by omega) (by omega)).2) rfl (by decide) (by decide) tw_m0 (Nat.le_of_ble_eq_true rfl) (fun r154 h154 p154 => ?_)
    obtain ⟨rfl, I154, rfl, fo154, fa154⟩ := p154
    have hk154 := cq.f hk148 (by omega) (by omega) fo154
    refine ar_aloadn (k := 155) rfl rfl ?_
    refine ar_ifnull (k := 156) rfl (fun c156 => ?_) (fun a156 c156 => ?_)
    · cases c156
    · refine ar_aloadn (k := 157) rfl rfl ?_
      refine ar_aloadn (k := 158) rfl rfl ?_
      refine br_getR (k := 159) rfl (hS.k (by decide)) flP_18_6 (by decide) rfl hq ?_
      refine br_getR (k := 160) rfl (hS.k (by decide)) flP_126_10 (by decide) rfl (hS.r rfl) ?_
      refine ar_iloadn (k := 161) rfl rfl ?_
      refine br_iald (k := 162) rfl (hS.k (by decide)) (by omega) (by omega) (by decide) ?_
      refine tw_top (WN.so (WN.q27 hN hS hk154) (by omega) (by omega)) ?_
      refine ar_iloadn (k := 163) rfl rfl ?_
      refine ar_aload (k := 164) rfl rfl ?_
      refine br_getIz (k := 165) (z := 0) rfl hKa1 (flP_any_129 hk1) (by decide) (trf_any hk1) rfl ?_
      refine tw_top ((congrFun (hk154.1 a1 (by omega) hk1n.1 hk1n.2) _).trans f1.1) ?_
      refine ar_iload (k := 166) rfl rfl ?_
      refine ar_callV (k := 167) (as := [_, _, _, _]) rfl lvP_132 hvs.k0 rfl (c_factJ hvs (by omega)) rfl (by decide) (by decide) tw_m0 (Nat.le_of_ble_eq_true rfl) (fun r167 h167 p167 => ?_)
      obtain ⟨rfl, I167, rfl, fo167, fa167⟩ := p167
      have hk167 := cq.fv hk154 (Or.inl hvs.2.1.2.2.2.2.1) (by omega) fo167
      have hfx : ∀ j, 1 ≤ j → j ≤ 4 → I167 (v + 4) j = rBy s (t : Int) 0 j := fun j j1 j2 => by
        have el : rLess s (t : Int) = (t : Int) := by unfold rLess; rw [if_neg (by omega)]
        unfold rBy
        rw [el]
        rcases (show j = 1 ∨ j = 2 ∨ j = 3 ∨ j = 4 by omega) with rfl | rfl | rfl | rfl
        · rw [fa167.1]; rfl
        · rw [fa167.2.1]; rfl
        · rw [fa167.2.2.1]; rfl
        · rw [fa167.2.2.2]; simp
      have hbx : ∀ j, 1 ≤ j → j ≤ 4 → tr (rBy s (t : Int) 0 j) := fun j j1 j2 => by
        have el : rLess s (t : Int) = (t : Int) := by unfold rLess; rw [if_neg (by omega)]
        unfold rBy
        rw [el]
        (repeat' split) <;> omega
      refine ar_aloadn (k := 168) rfl rfl ?_
      refine ar_aloadn (k := 169) rfl rfl ?_
      refine br_getR (k := 170) rfl (hS.k (by decide)) flP_29_6 (by decide) rfl (hS.r rfl) ?_
      refine ar_iloadn (k := 171) rfl rfl ?_
      refine br_aald18 (k := 172) rfl (hS.k (by decide)) (by omega) (by omega) (by decide) (hS.row (t := (t : Int)) (by omega) (by omega)).1 ?_
      refine ar_callV (k := 173) (as := [_]) rfl lvP_136 hvs.k0 rfl (c_V_reckon (b := rBy s (t : Int) 0) (L := C) hvs (hS.row (t := (t : Int)) (by omega) (by omega)).2 (by omega) hfx (fun j j1 j2 => hbx j j1 j2) (hD.g (hvs.g hk167.g)) (by rw [← ho]; exact rOut_deep hR hV (by omega))) rfl (by decide) (by decide) tw_m0 (Nat.le_of_ble_eq_true rfl) (fun r173 h173 p173 => ?_)
      obtain ⟨rfl, I173, rfl, fo173, fa173⟩ := p173
      have hk173 : cq K I I173 := hk167.trans ⟨fun b b1 _ b3 => fo173 b (by omega) (fun q => by subst q; exact b3 hvs.2.1.2.2.2.2.2), by rw [fo173 57 (by omega) (by omega)], by rw [fo173 59 (by omega) (by omega)], fun k _ => by rw [fo173 40 (by omega) (by omega)], fo173 60 (by omega) (by omega)⟩
      have hWW : ∀ u : Int, 0 ≤ u → u < 24 → I173 (42 + t) u = rWorth s (t : Int) u := fun u u1 u2 => by
        have q := fa173 u.toNat (by omega)
        rw [show ((u.toNat : Nat) : Int) = u by omega, fo167 _ (by omega), fa154 u (by omega) (by omega), Int.toNat_natCast] at q
        rw [q, rWorth_cl hs6 ho hD.2.2.2.2.2.2]
      refine ar_skip ?_
      refine ar_aloadn (k := 174) rfl rfl ?_
      refine br_getR (k := 175) rfl (hS.k (by decide)) flP_29_6 (by decide) rfl (hS.r rfl) ?_
      refine ar_iloadn (k := 176) rfl rfl ?_
      refine br_aald18 (k := 177) rfl (hS.k (by decide)) (by omega) (by omega) (by decide) (hS.row (t := (t : Int)) (by omega) (by omega)).1 ?_
      refine ar_iconst (k := 178) rfl ?_
      refine ar_aloadn (k := 179) rfl rfl ?_
      refine br_getR (k := 180) rfl (hS.k (by decide)) flP_29_6 (by decide) rfl (hS.r rfl) ?_
      refine ar_iloadn (k := 181) rfl rfl ?_
      refine br_aald18 (k := 182) rfl (hS.k (by decide)) (by omega) (by omega) (by decide) (hS.row (t := s (94 + (t : Int))) (by omega) (by omega)).1 ?_
      refine ar_iconst (k := 183) rfl ?_
      refine ar_bipush (k := 184) rfl (by decide) ?_
      refine ar_copyiJ (k := 185) (n := 24) rfl lcP_140 (hS.row (t := (t : Int)) (by omega) (by omega)).2 (hS.row (t := s (94 + (t : Int))) (by omega) (by omega)).2 rfl (by decide) (by decide) (Nat.le_of_ble_eq_true rfl) (fun I185 e185 f185 => ?_)
      have hk185 := cq.f hk173 (by omega) (by omega) e185
      refine ar_ret (k := 186) rfl rfl rfl (Nat.le_refl _) ?_
      refine ⟨rfl, I185, rfl, hk185, ?_⟩
      have z40 : I185 40 = uI I142 40 11 ((c : Int) + 1) 40 := by rw [e185 40 (by omega), fo173 40 (by omega) (by omega), fo167 40 (by omega), fo154 40 (by omega), e148]
      have zo : ∀ a, 52 ≤ a → a ≤ 56 → I185 a = I142 a := fun a b1 b2 => by rw [e185 a (by omega), fo173 a (by omega) (by omega), fo167 a (by omega), fo154 a (by omega), e148, uI_off _ _ _ (by omega)]
      have z53 : I142 53 = J 53 := by rw [e142, uI_off _ _ _ (by decide), e120, uI_off _ _ _ (by decide), e106, uI_off _ _ _ (by decide)]
      have z52 : I142 52 = J 52 := by rw [e142, uI_off _ _ _ (by decide), e120, uI_off _ _ _ (by decide), e106, uI_off _ _ _ (by decide)]
      have y40 : I142 40 = J 40 := by rw [e142, uI_off _ _ _ (by decide), e120, uI_off _ _ _ (by decide), e106, uI_off _ _ _ (by decide)]
      have z54 : I142 54 = up (J 54) (c : Int) (t : Int) := by rw [e142, uI_off _ _ _ (by decide), e120, uI_off _ _ _ (by decide), e106, uI_set, setA_at]
      have z55 : I142 55 = up (J 55) (c : Int) (pHd s t) := by rw [e142, uI_off _ _ _ (by decide), e120, uI_set, setA_at, e106, uI_off _ _ _ (by decide)]; rfl
      have z56 : I142 56 = up (J 56) (c : Int) (if s (84 + (t : Int)) ≠ s (84 + s (94 + (t : Int))) ∧ bAnd (I 27 11) (bOr (bShl 1 (t : Int)) (bShl 1 (s (94 + (t : Int))))) = 0 then bAnd (s (34 + s (84 + (t : Int)))) (s (34 + s (84 + s (94 + (t : Int))))) else 0) := by rw [e142, uI_set, setA_at, e120, uI_off _ _ _ (by decide), e106, uI_off _ _ _ (by decide)]
      refine ⟨⟨?_, ?_, ?_, ?_⟩, ?_, ?_, ?_, ?_, ?_, fun u u1 u2 => ⟨?_, ?_⟩, fun j j1 j2 j3 => ?_⟩
      · rw [z40, uI_at, if_neg (by decide), y40]; exact hm.1.1
      · rw [z40, uI_at, if_neg (by decide), y40]; exact hm.1.2.1
      · rw [z40, uI_at, if_neg (by decide), y40]; exact hm.1.2.2.1
      · rw [z40, uI_at, if_pos rfl, hc]
      · rw [zo 52 (by omega) (by omega), z52]; exact hm.2.1
      · rw [zo 53 (by omega) (by omega), z53]; exact hm.2.2.1
      · rw [zo 54 (by omega) (by omega), z54, hm.2.2.2.1.1]
      · rw [zo 55 (by omega) (by omega), z55, hm.2.2.2.1.2.1]
      · rw [zo 56 (by omega) (by omega), z56, hm.2.2.2.1.2.2]
      · rw [e185 _ (by omega)]; exact hWW u u1 u2
      · rw [f185 u, if_pos ⟨u1, u2⟩]; exact hWW u u1 u2
      · rw [e185 _ (by omega), fo173 _ (by omega) (by omega), fo167 _ (by omega), fo154 _ (by omega), e148, uI_off _ _ _ (by omega), e142, uI_off _ _ _ (by omega), e120, uI_off _ _ _ (by omega), e106, uI_off _ _ _ (by omega)]; exact hm.2.2.2.2 j j1
  · refine ar_aloadn (k := 127) rfl rfl ?_
    refine br_getR (k := 128) rfl (hS.k (by decide)) flP_18_6 (by decide) rfl hq ?_
    refine br_getR (k := 129) rfl (hS.k (by decide)) flP_123_10 (by decide) rfl (hS.r rfl) ?_
    refine ar_aload (k := 130) rfl rfl ?_
    refine br_getIz (k := 131) (z := 1) rfl hKa1 (flP_any_120 hk1) (by decide) (trf_any hk1) rfl ?_
    refine tw_top ((congrFun (hk120.1 a1 (by omega) hk1n.1 hk1n.2) _).trans f1.2.1) ?_
    refine br_iald (k := 132) rfl (hS.k (by decide)) (by omega) (by omega) (by decide) ?_
    refine tw_top (WN.fr (WN.q27 hN hS hk120) (by omega) (by omega)) ?_
    refine ar_aloadn (k := 133) rfl rfl ?_
    refine br_getR (k := 134) rfl (hS.k (by decide)) flP_18_6 (by decide) rfl hq ?_
    refine br_getR (k := 135) rfl (hS.k (by decide)) flP_123_10 (by decide) rfl (hS.r rfl) ?_
    refine ar_aload (k := 136) rfl rfl ?_
    refine br_getIz (k := 137) (z := 1) rfl hKa2 (flP_any_120 hk2) (by decide) (trf_any hk2) rfl ?_
    refine tw_top ((congrFun (hk120.1 a2 (by omega) hk2n.1 hk2n.2) _).trans f2.1) ?_
    refine br_iald (k := 138) rfl (hS.k (by decide)) (by omega) (by omega) (by decide) ?_
    refine tw_top (WN.fr (WN.q27 hN hS hk120) (by omega) (by omega)) ?_
    refine ar_iand (k := 139) rfl ?_
    refine ar_goto (k := 140) rfl ?_
    refine tw_top (y := if s (84 + (t : Int)) ≠ s (84 + s (94 + (t : Int))) ∧ bAnd (I 27 11) (bOr (bShl 1 (t : Int)) (bShl 1 (s (94 + (t : Int))))) = 0 then bAnd (s (34 + s (84 + (t : Int)))) (s (34 + s (84 + s (94 + (t : Int))))) else 0) (by first | (exfalso; omega) | (rw [if_pos (by omega)]; done) | (rw [if_neg (by omega)]; done)) ?_
    refine br_iastJ (k := 142) rfl (hS.k (by decide)) (by omega) (by omega) (by decide) (fun I142 e142 => ?_)
    have hk142 := cq.w hk120 (by omega) (by omega) e142
    refine ar_aloadn (k := 143) rfl rfl ?_
    refine ar_dup (k := 144) rfl rfl ?_
    refine br_getIz (k := 145) (z := 11) rfl (hS.k (by decide)) flP_54_6 (by decide) rfl rfl ?_
    refine tw_top (y := (c : Int)) (by rw [e142, uI_off _ _ _ (by decide), e120, uI_off _ _ _ (by decide), e106, uI_off _ _ _ (by decide), hm.1.2.2.2]; exact hc) ?_
    refine ar_iconst (k := 146) rfl ?_
    refine ar_iadd (k := 147) rfl ?_
    refine br_putIJ (k := 148) rfl (hS.k (by decide)) flP_54_6 (by decide) rfl (fun _ _ _ q => by cases q; exact ⟨rfl, rfl⟩) (fun I148 e148 => ?_)
    change _ = uI _ 40 11 _ at e148
    have hk148 := cq.w hk142 (by omega) (by omega) e148
    refine ar_aloadn (k := 149) rfl rfl ?_
    refine br_getR (k := 150) rfl (hS.k (by decide)) flP_29_6 (by decide) rfl (hS.r rfl) ?_
    refine ar_iloadn (k := 151) rfl rfl ?_
    refine br_aald18 (k := 152) rfl (hS.k (by decide)) (by omega) (by omega) (by decide) (hS.row (t := (t : Int)) (by omega) (by omega)).1 ?_
    refine ar_iconst (k := 153) rfl ?_
    refine ar_callS (k := 154) (as := [_, _]) rfl lsP_86 (c_fillJ (by decide) (hS.row (t := (t : Int)) (by omega) (by omega)).2) rfl (by decide) (by decide) tw_m0 (Nat.le_of_ble_eq_true rfl) (fun r154 h154 p154 => ?_)
    obtain ⟨rfl, I154, rfl, fo154, fa154⟩ := p154
    have hk154 := cq.f hk148 (by omega) (by omega) fo154
    refine ar_aloadn (k := 155) rfl rfl ?_
    refine ar_ifnull (k := 156) rfl (fun c156 => ?_) (fun a156 c156 => ?_)
    · cases c156
    · refine ar_aloadn (k := 157) rfl rfl ?_
      refine ar_aloadn (k := 158) rfl rfl ?_
      refine br_getR (k := 159) rfl (hS.k (by decide)) flP_18_6 (by decide) rfl hq ?_
      refine br_getR (k := 160) rfl (hS.k (by decide)) flP_126_10 (by decide) rfl (hS.r rfl) ?_
      refine ar_iloadn (k := 161) rfl rfl ?_
      refine br_iald (k := 162) rfl (hS.k (by decide)) (by omega) (by omega) (by decide) ?_
      refine tw_top (WN.so (WN.q27 hN hS hk154) (by omega) (by omega)) ?_
      refine ar_iloadn (k := 163) rfl rfl ?_
      refine ar_aload (k := 164) rfl rfl ?_
      refine br_getIz (k := 165) (z := 0) rfl hKa1 (flP_any_129 hk1) (by decide) (trf_any hk1) rfl ?_
      refine tw_top ((congrFun (hk154.1 a1 (by omega) hk1n.1 hk1n.2) _).trans f1.1) ?_
      refine ar_iload (k := 166) rfl rfl ?_
      refine ar_callV (k := 167) (as := [_, _, _, _]) rfl lvP_132 hvs.k0 rfl (c_factJ hvs (by omega)) rfl (by decide) (by decide) tw_m0 (Nat.le_of_ble_eq_true rfl) (fun r167 h167 p167 => ?_)
      obtain ⟨rfl, I167, rfl, fo167, fa167⟩ := p167
      have hk167 := cq.fv hk154 (Or.inl hvs.2.1.2.2.2.2.1) (by omega) fo167
      have hfx : ∀ j, 1 ≤ j → j ≤ 4 → I167 (v + 4) j = rBy s (t : Int) 0 j := fun j j1 j2 => by
        have el : rLess s (t : Int) = (t : Int) := by unfold rLess; rw [if_neg (by omega)]
        unfold rBy
        rw [el]
        rcases (show j = 1 ∨ j = 2 ∨ j = 3 ∨ j = 4 by omega) with rfl | rfl | rfl | rfl
        · rw [fa167.1]; rfl
        · rw [fa167.2.1]; rfl
        · rw [fa167.2.2.1]; rfl
        · rw [fa167.2.2.2]; simp
      have hbx : ∀ j, 1 ≤ j → j ≤ 4 → tr (rBy s (t : Int) 0 j) := fun j j1 j2 => by
        have el : rLess s (t : Int) = (t : Int) := by unfold rLess; rw [if_neg (by omega)]
        unfold rBy
        rw [el]
        (repeat' split) <;> omega
      refine ar_aloadn (k := 168) rfl rfl ?_
      refine ar_aloadn (k := 169) rfl rfl ?_
      refine br_getR (k := 170) rfl (hS.k (by decide)) flP_29_6 (by decide) rfl (hS.r rfl) ?_
      refine ar_iloadn (k := 171) rfl rfl ?_
      refine br_aald18 (k := 172) rfl (hS.k (by decide)) (by omega) (by omega) (by decide) (hS.row (t := (t : Int)) (by omega) (by omega)).1 ?_
      refine ar_callV (k := 173) (as := [_]) rfl lvP_136 hvs.k0 rfl (c_V_reckon (b := rBy s (t : Int) 0) (L := C) hvs (hS.row (t := (t : Int)) (by omega) (by omega)).2 (by omega) hfx (fun j j1 j2 => hbx j j1 j2) (hD.g (hvs.g hk167.g)) (by rw [← ho]; exact rOut_deep hR hV (by omega))) rfl (by decide) (by decide) tw_m0 (Nat.le_of_ble_eq_true rfl) (fun r173 h173 p173 => ?_)
      obtain ⟨rfl, I173, rfl, fo173, fa173⟩ := p173
      have hk173 : cq K I I173 := hk167.trans ⟨fun b b1 _ b3 => fo173 b (by omega) (fun q => by subst q; exact b3 hvs.2.1.2.2.2.2.2), by rw [fo173 57 (by omega) (by omega)], by rw [fo173 59 (by omega) (by omega)], fun k _ => by rw [fo173 40 (by omega) (by omega)], fo173 60 (by omega) (by omega)⟩
      have hWW : ∀ u : Int, 0 ≤ u → u < 24 → I173 (42 + t) u = rWorth s (t : Int) u := fun u u1 u2 => by
        have q := fa173 u.toNat (by omega)
        rw [show ((u.toNat : Nat) : Int) = u by omega, fo167 _ (by omega), fa154 u (by omega) (by omega), Int.toNat_natCast] at q
        rw [q, rWorth_cl hs6 ho hD.2.2.2.2.2.2]
      refine ar_skip ?_
      refine ar_aloadn (k := 174) rfl rfl ?_
      refine br_getR (k := 175) rfl (hS.k (by decide)) flP_29_6 (by decide) rfl (hS.r rfl) ?_
      refine ar_iloadn (k := 176) rfl rfl ?_
      refine br_aald18 (k := 177) rfl (hS.k (by decide)) (by omega) (by omega) (by decide) (hS.row (t := (t : Int)) (by omega) (by omega)).1 ?_
      refine ar_iconst (k := 178) rfl ?_
      refine ar_aloadn (k := 179) rfl rfl ?_
      refine br_getR (k := 180) rfl (hS.k (by decide)) flP_29_6 (by decide) rfl (hS.r rfl) ?_
      refine ar_iloadn (k := 181) rfl rfl ?_
      refine br_aald18 (k := 182) rfl (hS.k (by decide)) (by omega) (by omega) (by decide) (hS.row (t := s (94 + (t : Int))) (by omega) (by omega)).1 ?_
      refine ar_iconst (k := 183) rfl ?_
      refine ar_bipush (k := 184) rfl (by decide) ?_
      refine ar_copyiJ (k := 185) (n := 24) rfl lcP_140 (hS.row (t := (t : Int)) (by omega) (by omega)).2 (hS.row (t := s (94 + (t : Int))) (by omega) (by omega)).2 rfl (by decide) (by decide) (Nat.le_of_ble_eq_true rfl) (fun I185 e185 f185 => ?_)
      have hk185 := cq.f hk173 (by omega) (by omega) e185
      refine ar_ret (k := 186) rfl rfl rfl (Nat.le_refl _) ?_
      refine ⟨rfl, I185, rfl, hk185, ?_⟩
      have z40 : I185 40 = uI I142 40 11 ((c : Int) + 1) 40 := by rw [e185 40 (by omega), fo173 40 (by omega) (by omega), fo167 40 (by omega), fo154 40 (by omega), e148]
      have zo : ∀ a, 52 ≤ a → a ≤ 56 → I185 a = I142 a := fun a b1 b2 => by rw [e185 a (by omega), fo173 a (by omega) (by omega), fo167 a (by omega), fo154 a (by omega), e148, uI_off _ _ _ (by omega)]
      have z53 : I142 53 = J 53 := by rw [e142, uI_off _ _ _ (by decide), e120, uI_off _ _ _ (by decide), e106, uI_off _ _ _ (by decide)]
      have z52 : I142 52 = J 52 := by rw [e142, uI_off _ _ _ (by decide), e120, uI_off _ _ _ (by decide), e106, uI_off _ _ _ (by decide)]
      have y40 : I142 40 = J 40 := by rw [e142, uI_off _ _ _ (by decide), e120, uI_off _ _ _ (by decide), e106, uI_off _ _ _ (by decide)]
      have z54 : I142 54 = up (J 54) (c : Int) (t : Int) := by rw [e142, uI_off _ _ _ (by decide), e120, uI_off _ _ _ (by decide), e106, uI_set, setA_at]
      have z55 : I142 55 = up (J 55) (c : Int) (pHd s t) := by rw [e142, uI_off _ _ _ (by decide), e120, uI_set, setA_at, e106, uI_off _ _ _ (by decide)]; rfl
      have z56 : I142 56 = up (J 56) (c : Int) (if s (84 + (t : Int)) ≠ s (84 + s (94 + (t : Int))) ∧ bAnd (I 27 11) (bOr (bShl 1 (t : Int)) (bShl 1 (s (94 + (t : Int))))) = 0 then bAnd (s (34 + s (84 + (t : Int)))) (s (34 + s (84 + s (94 + (t : Int))))) else 0) := by rw [e142, uI_set, setA_at, e120, uI_off _ _ _ (by decide), e106, uI_off _ _ _ (by decide)]
      refine ⟨⟨?_, ?_, ?_, ?_⟩, ?_, ?_, ?_, ?_, ?_, fun u u1 u2 => ⟨?_, ?_⟩, fun j j1 j2 j3 => ?_⟩
      · rw [z40, uI_at, if_neg (by decide), y40]; exact hm.1.1
      · rw [z40, uI_at, if_neg (by decide), y40]; exact hm.1.2.1
      · rw [z40, uI_at, if_neg (by decide), y40]; exact hm.1.2.2.1
      · rw [z40, uI_at, if_pos rfl, hc]
      · rw [zo 52 (by omega) (by omega), z52]; exact hm.2.1
      · rw [zo 53 (by omega) (by omega), z53]; exact hm.2.2.1
      · rw [zo 54 (by omega) (by omega), z54, hm.2.2.2.1.1]
      · rw [zo 55 (by omega) (by omega), z55, hm.2.2.2.1.2.1]
      · rw [zo 56 (by omega) (by omega), z56, hm.2.2.2.1.2.2]
      · rw [e185 _ (by omega)]; exact hWW u u1 u2
      · rw [f185 u, if_pos ⟨u1, u2⟩]; exact hWW u u1 u2
      · rw [e185 _ (by omega), fo173 _ (by omega) (by omega), fo167 _ (by omega), fo154 _ (by omega), e148, uI_off _ _ _ (by omega), e142, uI_off _ _ _ (by omega), e120, uI_off _ _ _ (by omega), e106, uI_off _ _ _ (by omega)]; exact hm.2.2.2.2 j j1
theorem sB_addPair_27_v {t c a1 a2 k1 k2 : Nat} {v : Nat} {C : tCL} (hS : tSt (K, I, Q, n)) (hq : Q 40 1 = some 27) (hN : WN 27 I s) (hR : RInv s) (hV : RVal s) (t1 : (t : Int) < s 1) (t2 : (t : Int) < s (94 + (t : Int))) (hc : I 40 11 = (c : Int)) (c5 : c < 5) (hQ1 : Q 30 (s (84 + (t : Int))) = some a1) (hQ2 : Q 30 (s (84 + s (94 + (t : Int)))) = some a2) (hk1 : hcl k1) (hk2 : hcl k2) (hKa1 : tK (K, I, Q, n) a1 (k1, 4)) (hKa2 : tK (K, I, Q, n) a2 (k2, 4)) (g1 : 78 ≤ a1 ∧ 78 ≤ a2) (hk1n : K a1 ≠ (14, 5) ∧ K a1 ≠ (14, 13)) (hk2n : K a2 ≠ (14, 5) ∧ K a2 ≠ (14, 13)) (f1 : I a1 0 = s (10 + s (84 + (t : Int))) ∧ I a1 1 = s (84 + (t : Int)) ∧ I a1 3 = s (26 + s (84 + (t : Int)))) (f2 : I a2 1 = s (84 + s (94 + (t : Int))) ∧ I a2 3 = s (26 + s (84 + s (94 + (t : Int))))) (hvs : VS K Q n v) (hD : VD I v C) (hs6 : s 6 ≠ -1) (ho : rOut s (s 6) = cFl C) : tw_AW l G mP_addPair 4 0 0 n 0 (fun r h' => r = none ∧ ∃ L, h' = (K, L, Q, n) ∧ cq K I L ∧ pAdd I L s 27 t c) 76 [(6, vi (bOr (bShl 1 (t : Int)) (bShl 1 (s (94 + (t : Int)))))), (5, vr (some a2)), (4, vr (some a1)), (0, vr (some 40)), (1, vi ((t : Int))), (2, vi (s (94 + (t : Int)))), (3, vr (some v))] [vi (if s (26 + s (84 + (t : Int))) = s (26 + s (84 + s (94 + (t : Int)))) then 1 else 0)] (K, I, Q, n) := by
  obtain ⟨h0, h1, h2, h3, h4, h5, h6, hp, hrw, ht, hr, hb, htp, hv⟩ := id hR
  have w1 := ht (t : Int) (by omega) (by omega)
  have w2 := ht (s (94 + (t : Int))) (by omega) (by omega)
  have wp1 := hp (s (84 + (t : Int))) (by omega) (by omega)
  have wp2 := hp (s (84 + s (94 + (t : Int)))) (by omega) (by omega)
  have h0v := hvs.1
  have hk : cq K I I := cq.rf
  have hcn : (if s (26 + s (84 + (t : Int))) = s (26 + s (84 + s (94 + (t : Int)))) then (1 : Int) else 0) = 0 ∨ (if s (26 + s (84 + (t : Int))) = s (26 + s (84 + s (94 + (t : Int)))) then (1 : Int) else 0) = 1 := by split <;> omega
  have tb9 : tr (bAnd (I 27 11) (bOr (bShl 1 (t : Int)) (bShl 1 (s (94 + (t : Int)))))) := tr_toInt _
  refine ar_istore (k := 41) (l2 := [(7, _), (6, _), (5, _), (4, _), (0, _), (1, _), (2, _), (3, _)]) rfl (by decide) rfl ?_
  refine ar_aloadn (k := 42) rfl rfl ?_
  refine ar_dup (k := 43) rfl rfl ?_
  refine br_getIz (k := 44) (z := 6) rfl (hS.k (by decide)) flP_39_6 (by decide) rfl rfl ?_
  refine ar_iload (k := 45) rfl rfl ?_
  refine ar_aloadn (k := 46) rfl rfl ?_
  refine br_getR (k := 47) rfl (hS.k (by decide)) flP_18_6 (by decide) rfl hq ?_
  refine br_getIz (k := 48) (z := 11) rfl (hS.k (by decide)) flP_117_10 (by decide) rfl rfl ?_
  refine tw_top (congrFun ((hk.at hS (by omega)) : _ = I 27) _) ?_
  refine ar_iconst (k := 49) rfl ?_
  refine ar_ixor (k := 50) rfl ?_
  refine ar_iand (k := 51) rfl ?_
  refine ar_ior (k := 52) rfl ?_
  refine br_putIJ (k := 53) rfl (hS.k (by decide)) flP_39_6 (by decide) rfl (fun _ _ _ q => by cases q; exact ⟨rfl, rfl⟩) (fun I53 e53 => ?_)
  change _ = uI _ 40 6 _ at e53
  have hk53 := cq.w hk (by omega) (by omega) e53
  refine ar_aloadn (k := 54) rfl rfl ?_
  refine ar_dup (k := 55) rfl rfl ?_
  refine br_getIz (k := 56) (z := 7) rfl (hS.k (by decide)) flP_42_6 (by decide) rfl rfl ?_
  refine tw_top (y := I 40 7) (by rw [e53, uI_at, if_neg (by decide)]) ?_
  refine ar_iload (k := 57) rfl rfl ?_
  refine ar_if_eq (k := 58) rfl (by omega) (fun c58 => ?_) (fun c58 => ?_)
  · refine ar_iconst (k := 61) rfl ?_
    refine tw_top (y := if s (26 + s (84 + (t : Int))) = s (26 + s (84 + s (94 + (t : Int)))) then bOr (bShl 1 (t : Int)) (bShl 1 (s (94 + (t : Int)))) else 0) (by first | (exfalso; omega) | (rw [if_pos (by omega)]; done) | (rw [if_neg (by omega)]; done)) ?_
    refine ar_ior (k := 62) rfl ?_
    refine br_putIJ (k := 63) rfl (hS.k (by decide)) flP_42_6 (by decide) rfl (fun _ _ _ q => by cases q; exact ⟨rfl, rfl⟩) (fun I63 e63 => ?_)
    change _ = uI _ 40 7 _ at e63
    have hk63 := cq.w hk53 (by omega) (by omega) e63
    refine ar_aloadn (k := 64) rfl rfl ?_
    refine br_getR (k := 65) rfl (hS.k (by decide)) flP_36_6 (by decide) rfl (hS.r rfl) ?_
    refine ar_aload (k := 66) rfl rfl ?_
    refine br_getIz (k := 67) (z := 1) rfl hKa2 (flP_any_120 hk2) (by decide) (trf_any hk2) rfl ?_
    refine tw_top ((congrFun (hk63.1 a2 (by omega) hk2n.1 hk2n.2) _).trans f2.1) ?_
    refine ar_dup2 (k := 68) rfl rfl rfl ?_
    refine br_iald (k := 69) rfl (hS.k (by decide)) (by omega) (by omega) (by decide) ?_
    refine tw_top (y := I 53 (s (84 + s (94 + (t : Int))))) (by rw [e63, uI_off _ _ _ (by decide), e53, uI_off _ _ _ (by decide)]) ?_
    refine ar_iconst (k := 70) rfl ?_
    refine ar_iloadn (k := 71) rfl rfl ?_
    refine ar_ishl (k := 72) rfl ?_
    refine ar_ior (k := 73) rfl ?_
    refine br_iastJ (k := 74) rfl (hS.k (by decide)) (by omega) (by omega) (by decide) (fun I74 e74 => ?_)
    have hk74 := cq.w hk63 (by omega) (by omega) e74
    refine ar_aloadn (k := 75) rfl rfl ?_
    refine br_getR (k := 76) rfl (hS.k (by decide)) flP_36_6 (by decide) rfl (hS.r rfl) ?_
    refine ar_aload (k := 77) rfl rfl ?_
    refine br_getIz (k := 78) (z := 1) rfl hKa1 (flP_any_120 hk1) (by decide) (trf_any hk1) rfl ?_
    refine tw_top ((congrFun (hk74.1 a1 (by omega) hk1n.1 hk1n.2) _).trans f1.2.1) ?_
    refine ar_dup2 (k := 79) rfl rfl rfl ?_
    refine br_iald (k := 80) rfl (hS.k (by decide)) (by omega) (by omega) (by decide) ?_
    refine tw_top (y := up (I 53) (s (84 + s (94 + (t : Int)))) (bOr (I 53 (s (84 + s (94 + (t : Int))))) (bShl 1 (t : Int))) (s (84 + (t : Int)))) (by rw [e74, uI_set, setA_at, e63, uI_off _ _ _ (by decide), e53, uI_off _ _ _ (by decide)]) ?_
    refine ar_iconst (k := 81) rfl ?_
    refine ar_iloadn (k := 82) rfl rfl ?_
    refine ar_ishl (k := 83) rfl ?_
    refine ar_ior (k := 84) rfl ?_
    refine br_iastJ (k := 85) rfl (hS.k (by decide)) (by omega) (by omega) (by decide) (fun I85 e85 => ?_)
    have hk85 := cq.w hk74 (by omega) (by omega) e85
    refine ar_aload (k := 86) rfl rfl ?_
    refine br_getIz (k := 87) (z := 1) rfl hKa1 (flP_any_120 hk1) (by decide) (trf_any hk1) rfl ?_
    refine tw_top ((congrFun (hk85.1 a1 (by omega) hk1n.1 hk1n.2) _).trans f1.2.1) ?_
    refine ar_aload (k := 88) rfl rfl ?_
    refine br_getIz (k := 89) (z := 1) rfl hKa2 (flP_any_120 hk2) (by decide) (trf_any hk2) rfl ?_
    refine tw_top ((congrFun (hk85.1 a2 (by omega) hk2n.1 hk2n.2) _).trans f2.1) ?_
    refine ar_icmp_eq (k := 90) rfl (by omega) (by omega) (fun c90 => ?_) (fun c90 => ?_)
    · refine ar_iconst (k := 99) rfl ?_
      refine tw_top (y := if s (84 + (t : Int)) ≠ s (84 + s (94 + (t : Int))) ∧ bAnd (I 27 11) (bOr (bShl 1 (t : Int)) (bShl 1 (s (94 + (t : Int))))) = 0 then 1 else 0) (by first | (exfalso; omega) | (rw [if_pos (by omega)]; done) | (rw [if_neg (by omega)]; done)) ?_
      refine ar_sub (l2 := [(7, vi ((if s (26 + s (84 + (t : Int))) = s (26 + s (84 + s (94 + (t : Int)))) then 1 else 0))), (6, vi (bOr (bShl 1 (t : Int)) (bShl 1 (s (94 + (t : Int)))))), (5, vr (some a2)), (4, vr (some a1)), (0, vr (some 40)), (1, vi ((t : Int))), (2, vi (s (94 + (t : Int)))), (3, vr (some v))]) (tw_s (tw_g 0 rfl) (tw_s (tw_g 1 rfl) (tw_s (tw_g 2 rfl) (tw_s (tw_g 3 rfl) (tw_s (tw_g 4 rfl) (tw_s (tw_g 5 rfl) (tw_s (tw_g 6 rfl) (tw_s (tw_g 7 rfl) tw_s0)))))))) ?_
      exact sC_addPair_27_v hS hq hN hR hV t1 t2 hc c5 hQ1 hQ2 hk1 hk2 hKa1 hKa2 g1 hk1n hk2n f1 f2 hvs hD hs6 ho I85 hk85 ⟨⟨by simp only [e85, e74, e63, e53, uI, up, Nat.reduceEqDiff, reduceIte, Int.reduceEq], by simp only [e85, e74, e63, e53, uI, up, Nat.reduceEqDiff, reduceIte, Int.reduceEq], by simp only [e85, e74, e63, e53, uI, up, Nat.reduceEqDiff, reduceIte, Int.reduceEq], by simp only [e85, e74, e63, e53, uI, up, Nat.reduceEqDiff, reduceIte, Int.reduceEq]⟩, by rw [e85, uI_off _ _ _ (by decide), e74, uI_off _ _ _ (by decide), e63, uI_off _ _ _ (by decide), e53, uI_off _ _ _ (by decide)], by rw [e85, uI_set, setA_at, e74, uI_set, setA_at, e63, uI_off _ _ _ (by decide), e53, uI_off _ _ _ (by decide)], ⟨by rw [e85, uI_off _ _ _ (by decide), e74, uI_off _ _ _ (by decide), e63, uI_off _ _ _ (by decide), e53, uI_off _ _ _ (by decide)], by rw [e85, uI_off _ _ _ (by decide), e74, uI_off _ _ _ (by decide), e63, uI_off _ _ _ (by decide), e53, uI_off _ _ _ (by decide)], by rw [e85, uI_off _ _ _ (by decide), e74, uI_off _ _ _ (by decide), e63, uI_off _ _ _ (by decide), e53, uI_off _ _ _ (by decide)]⟩, fun j hj => by rw [e85, uI_off _ _ _ (by omega), e74, uI_off _ _ _ (by omega), e63, uI_off _ _ _ (by omega), e53, uI_off _ _ _ (by omega)]⟩
    · refine ar_aloadn (k := 91) rfl rfl ?_
      refine br_getR (k := 92) rfl (hS.k (by decide)) flP_18_6 (by decide) rfl hq ?_
      refine br_getIz (k := 93) (z := 11) rfl (hS.k (by decide)) flP_117_10 (by decide) rfl rfl ?_
      refine tw_top (congrFun ((hk85.at hS (by omega)) : _ = I 27) _) ?_
      refine ar_iload (k := 94) rfl rfl ?_
      refine ar_iand (k := 95) rfl ?_
      refine ar_if_ne (k := 96) rfl (by omega) (fun c96 => ?_) (fun c96 => ?_)
      · refine ar_iconst (k := 99) rfl ?_
        refine tw_top (y := if s (84 + (t : Int)) ≠ s (84 + s (94 + (t : Int))) ∧ bAnd (I 27 11) (bOr (bShl 1 (t : Int)) (bShl 1 (s (94 + (t : Int))))) = 0 then 1 else 0) (by first | (exfalso; omega) | (rw [if_pos (by omega)]; done) | (rw [if_neg (by omega)]; done)) ?_
        refine ar_sub (l2 := [(7, vi ((if s (26 + s (84 + (t : Int))) = s (26 + s (84 + s (94 + (t : Int)))) then 1 else 0))), (6, vi (bOr (bShl 1 (t : Int)) (bShl 1 (s (94 + (t : Int)))))), (5, vr (some a2)), (4, vr (some a1)), (0, vr (some 40)), (1, vi ((t : Int))), (2, vi (s (94 + (t : Int)))), (3, vr (some v))]) (tw_s (tw_g 0 rfl) (tw_s (tw_g 1 rfl) (tw_s (tw_g 2 rfl) (tw_s (tw_g 3 rfl) (tw_s (tw_g 4 rfl) (tw_s (tw_g 5 rfl) (tw_s (tw_g 6 rfl) (tw_s (tw_g 7 rfl) tw_s0)))))))) ?_
        exact sC_addPair_27_v hS hq hN hR hV t1 t2 hc c5 hQ1 hQ2 hk1 hk2 hKa1 hKa2 g1 hk1n hk2n f1 f2 hvs hD hs6 ho I85 hk85 ⟨⟨by simp only [e85, e74, e63, e53, uI, up, Nat.reduceEqDiff, reduceIte, Int.reduceEq], by simp only [e85, e74, e63, e53, uI, up, Nat.reduceEqDiff, reduceIte, Int.reduceEq], by simp only [e85, e74, e63, e53, uI, up, Nat.reduceEqDiff, reduceIte, Int.reduceEq], by simp only [e85, e74, e63, e53, uI, up, Nat.reduceEqDiff, reduceIte, Int.reduceEq]⟩, by rw [e85, uI_off _ _ _ (by decide), e74, uI_off _ _ _ (by decide), e63, uI_off _ _ _ (by decide), e53, uI_off _ _ _ (by decide)], by rw [e85, uI_set, setA_at, e74, uI_set, setA_at, e63, uI_off _ _ _ (by decide), e53, uI_off _ _ _ (by decide)], ⟨by rw [e85, uI_off _ _ _ (by decide), e74, uI_off _ _ _ (by decide), e63, uI_off _ _ _ (by decide), e53, uI_off _ _ _ (by decide)], by rw [e85, uI_off _ _ _ (by decide), e74, uI_off _ _ _ (by decide), e63, uI_off _ _ _ (by decide), e53, uI_off _ _ _ (by decide)], by rw [e85, uI_off _ _ _ (by decide), e74, uI_off _ _ _ (by decide), e63, uI_off _ _ _ (by decide), e53, uI_off _ _ _ (by decide)]⟩, fun j hj => by rw [e85, uI_off _ _ _ (by omega), e74, uI_off _ _ _ (by omega), e63, uI_off _ _ _ (by omega), e53, uI_off _ _ _ (by omega)]⟩
      · refine ar_iconst (k := 97) rfl ?_
        refine ar_goto (k := 98) rfl ?_
        refine tw_top (y := if s (84 + (t : Int)) ≠ s (84 + s (94 + (t : Int))) ∧ bAnd (I 27 11) (bOr (bShl 1 (t : Int)) (bShl 1 (s (94 + (t : Int))))) = 0 then 1 else 0) (by first | (exfalso; omega) | (rw [if_pos (by omega)]; done) | (rw [if_neg (by omega)]; done)) ?_
        refine ar_sub (l2 := [(7, vi ((if s (26 + s (84 + (t : Int))) = s (26 + s (84 + s (94 + (t : Int)))) then 1 else 0))), (6, vi (bOr (bShl 1 (t : Int)) (bShl 1 (s (94 + (t : Int)))))), (5, vr (some a2)), (4, vr (some a1)), (0, vr (some 40)), (1, vi ((t : Int))), (2, vi (s (94 + (t : Int)))), (3, vr (some v))]) (tw_s (tw_g 0 rfl) (tw_s (tw_g 1 rfl) (tw_s (tw_g 2 rfl) (tw_s (tw_g 3 rfl) (tw_s (tw_g 4 rfl) (tw_s (tw_g 5 rfl) (tw_s (tw_g 6 rfl) (tw_s (tw_g 7 rfl) tw_s0)))))))) ?_
        exact sC_addPair_27_v hS hq hN hR hV t1 t2 hc c5 hQ1 hQ2 hk1 hk2 hKa1 hKa2 g1 hk1n hk2n f1 f2 hvs hD hs6 ho I85 hk85 ⟨⟨by simp only [e85, e74, e63, e53, uI, up, Nat.reduceEqDiff, reduceIte, Int.reduceEq], by simp only [e85, e74, e63, e53, uI, up, Nat.reduceEqDiff, reduceIte, Int.reduceEq], by simp only [e85, e74, e63, e53, uI, up, Nat.reduceEqDiff, reduceIte, Int.reduceEq], by simp only [e85, e74, e63, e53, uI, up, Nat.reduceEqDiff, reduceIte, Int.reduceEq]⟩, by rw [e85, uI_off _ _ _ (by decide), e74, uI_off _ _ _ (by decide), e63, uI_off _ _ _ (by decide), e53, uI_off _ _ _ (by decide)], by rw [e85, uI_set, setA_at, e74, uI_set, setA_at, e63, uI_off _ _ _ (by decide), e53, uI_off _ _ _ (by decide)], ⟨by rw [e85, uI_off _ _ _ (by decide), e74, uI_off _ _ _ (by decide), e63, uI_off _ _ _ (by decide), e53, uI_off _ _ _ (by decide)], by rw [e85, uI_off _ _ _ (by decide), e74, uI_off _ _ _ (by decide), e63, uI_off _ _ _ (by decide), e53, uI_off _ _ _ (by decide)], by rw [e85, uI_off _ _ _ (by decide), e74, uI_off _ _ _ (by decide), e63, uI_off _ _ _ (by decide), e53, uI_off _ _ _ (by decide)]⟩, fun j hj => by rw [e85, uI_off _ _ _ (by omega), e74, uI_off _ _ _ (by omega), e63, uI_off _ _ _ (by omega), e53, uI_off _ _ _ (by omega)]⟩
  · refine ar_iload (k := 59) rfl rfl ?_
    refine ar_goto (k := 60) rfl ?_
    refine tw_top (y := if s (26 + s (84 + (t : Int))) = s (26 + s (84 + s (94 + (t : Int)))) then bOr (bShl 1 (t : Int)) (bShl 1 (s (94 + (t : Int)))) else 0) (by first | (exfalso; omega) | (rw [if_pos (by omega)]; done) | (rw [if_neg (by omega)]; done)) ?_
    refine ar_ior (k := 62) rfl ?_
    refine br_putIJ (k := 63) rfl (hS.k (by decide)) flP_42_6 (by decide) rfl (fun _ _ _ q => by cases q; exact ⟨rfl, rfl⟩) (fun I63 e63 => ?_)
    change _ = uI _ 40 7 _ at e63
    have hk63 := cq.w hk53 (by omega) (by omega) e63
    refine ar_aloadn (k := 64) rfl rfl ?_
    refine br_getR (k := 65) rfl (hS.k (by decide)) flP_36_6 (by decide) rfl (hS.r rfl) ?_
    refine ar_aload (k := 66) rfl rfl ?_
    refine br_getIz (k := 67) (z := 1) rfl hKa2 (flP_any_120 hk2) (by decide) (trf_any hk2) rfl ?_
    refine tw_top ((congrFun (hk63.1 a2 (by omega) hk2n.1 hk2n.2) _).trans f2.1) ?_
    refine ar_dup2 (k := 68) rfl rfl rfl ?_
    refine br_iald (k := 69) rfl (hS.k (by decide)) (by omega) (by omega) (by decide) ?_
    refine tw_top (y := I 53 (s (84 + s (94 + (t : Int))))) (by rw [e63, uI_off _ _ _ (by decide), e53, uI_off _ _ _ (by decide)]) ?_
    refine ar_iconst (k := 70) rfl ?_
    refine ar_iloadn (k := 71) rfl rfl ?_
    refine ar_ishl (k := 72) rfl ?_
    refine ar_ior (k := 73) rfl ?_
    refine br_iastJ (k := 74) rfl (hS.k (by decide)) (by omega) (by omega) (by decide) (fun I74 e74 => ?_)
    have hk74 := cq.w hk63 (by omega) (by omega) e74
    refine ar_aloadn (k := 75) rfl rfl ?_
    refine br_getR (k := 76) rfl (hS.k (by decide)) flP_36_6 (by decide) rfl (hS.r rfl) ?_
    refine ar_aload (k := 77) rfl rfl ?_
    refine br_getIz (k := 78) (z := 1) rfl hKa1 (flP_any_120 hk1) (by decide) (trf_any hk1) rfl ?_
    refine tw_top ((congrFun (hk74.1 a1 (by omega) hk1n.1 hk1n.2) _).trans f1.2.1) ?_
    refine ar_dup2 (k := 79) rfl rfl rfl ?_
    refine br_iald (k := 80) rfl (hS.k (by decide)) (by omega) (by omega) (by decide) ?_
    refine tw_top (y := up (I 53) (s (84 + s (94 + (t : Int)))) (bOr (I 53 (s (84 + s (94 + (t : Int))))) (bShl 1 (t : Int))) (s (84 + (t : Int)))) (by rw [e74, uI_set, setA_at, e63, uI_off _ _ _ (by decide), e53, uI_off _ _ _ (by decide)]) ?_
    refine ar_iconst (k := 81) rfl ?_
    refine ar_iloadn (k := 82) rfl rfl ?_
    refine ar_ishl (k := 83) rfl ?_
    refine ar_ior (k := 84) rfl ?_
    refine br_iastJ (k := 85) rfl (hS.k (by decide)) (by omega) (by omega) (by decide) (fun I85 e85 => ?_)
    have hk85 := cq.w hk74 (by omega) (by omega) e85
    refine ar_aload (k := 86) rfl rfl ?_
    refine br_getIz (k := 87) (z := 1) rfl hKa1 (flP_any_120 hk1) (by decide) (trf_any hk1) rfl ?_
    refine tw_top ((congrFun (hk85.1 a1 (by omega) hk1n.1 hk1n.2) _).trans f1.2.1) ?_
    refine ar_aload (k := 88) rfl rfl ?_
    refine br_getIz (k := 89) (z := 1) rfl hKa2 (flP_any_120 hk2) (by decide) (trf_any hk2) rfl ?_
    refine tw_top ((congrFun (hk85.1 a2 (by omega) hk2n.1 hk2n.2) _).trans f2.1) ?_
    refine ar_icmp_eq (k := 90) rfl (by omega) (by omega) (fun c90 => ?_) (fun c90 => ?_)
    · refine ar_iconst (k := 99) rfl ?_
      refine tw_top (y := if s (84 + (t : Int)) ≠ s (84 + s (94 + (t : Int))) ∧ bAnd (I 27 11) (bOr (bShl 1 (t : Int)) (bShl 1 (s (94 + (t : Int))))) = 0 then 1 else 0) (by first | (exfalso; omega) | (rw [if_pos (by omega)]; done) | (rw [if_neg (by omega)]; done)) ?_
      refine ar_sub (l2 := [(7, vi ((if s (26 + s (84 + (t : Int))) = s (26 + s (84 + s (94 + (t : Int)))) then 1 else 0))), (6, vi (bOr (bShl 1 (t : Int)) (bShl 1 (s (94 + (t : Int)))))), (5, vr (some a2)), (4, vr (some a1)), (0, vr (some 40)), (1, vi ((t : Int))), (2, vi (s (94 + (t : Int)))), (3, vr (some v))]) (tw_s (tw_g 0 rfl) (tw_s (tw_g 1 rfl) (tw_s (tw_g 2 rfl) (tw_s (tw_g 3 rfl) (tw_s (tw_g 4 rfl) (tw_s (tw_g 5 rfl) (tw_s (tw_g 6 rfl) (tw_s (tw_g 7 rfl) tw_s0)))))))) ?_
      exact sC_addPair_27_v hS hq hN hR hV t1 t2 hc c5 hQ1 hQ2 hk1 hk2 hKa1 hKa2 g1 hk1n hk2n f1 f2 hvs hD hs6 ho I85 hk85 ⟨⟨by simp only [e85, e74, e63, e53, uI, up, Nat.reduceEqDiff, reduceIte, Int.reduceEq], by simp only [e85, e74, e63, e53, uI, up, Nat.reduceEqDiff, reduceIte, Int.reduceEq], by simp only [e85, e74, e63, e53, uI, up, Nat.reduceEqDiff, reduceIte, Int.reduceEq], by simp only [e85, e74, e63, e53, uI, up, Nat.reduceEqDiff, reduceIte, Int.reduceEq]⟩, by rw [e85, uI_off _ _ _ (by decide), e74, uI_off _ _ _ (by decide), e63, uI_off _ _ _ (by decide), e53, uI_off _ _ _ (by decide)], by rw [e85, uI_set, setA_at, e74, uI_set, setA_at, e63, uI_off _ _ _ (by decide), e53, uI_off _ _ _ (by decide)], ⟨by rw [e85, uI_off _ _ _ (by decide), e74, uI_off _ _ _ (by decide), e63, uI_off _ _ _ (by decide), e53, uI_off _ _ _ (by decide)], by rw [e85, uI_off _ _ _ (by decide), e74, uI_off _ _ _ (by decide), e63, uI_off _ _ _ (by decide), e53, uI_off _ _ _ (by decide)], by rw [e85, uI_off _ _ _ (by decide), e74, uI_off _ _ _ (by decide), e63, uI_off _ _ _ (by decide), e53, uI_off _ _ _ (by decide)]⟩, fun j hj => by rw [e85, uI_off _ _ _ (by omega), e74, uI_off _ _ _ (by omega), e63, uI_off _ _ _ (by omega), e53, uI_off _ _ _ (by omega)]⟩
    · refine ar_aloadn (k := 91) rfl rfl ?_
      refine br_getR (k := 92) rfl (hS.k (by decide)) flP_18_6 (by decide) rfl hq ?_
      refine br_getIz (k := 93) (z := 11) rfl (hS.k (by decide)) flP_117_10 (by decide) rfl rfl ?_
      refine tw_top (congrFun ((hk85.at hS (by omega)) : _ = I 27) _) ?_
      refine ar_iload (k := 94) rfl rfl ?_
      refine ar_iand (k := 95) rfl ?_
      refine ar_if_ne (k := 96) rfl (by omega) (fun c96 => ?_) (fun c96 => ?_)
      · refine ar_iconst (k := 99) rfl ?_
        refine tw_top (y := if s (84 + (t : Int)) ≠ s (84 + s (94 + (t : Int))) ∧ bAnd (I 27 11) (bOr (bShl 1 (t : Int)) (bShl 1 (s (94 + (t : Int))))) = 0 then 1 else 0) (by first | (exfalso; omega) | (rw [if_pos (by omega)]; done) | (rw [if_neg (by omega)]; done)) ?_
        refine ar_sub (l2 := [(7, vi ((if s (26 + s (84 + (t : Int))) = s (26 + s (84 + s (94 + (t : Int)))) then 1 else 0))), (6, vi (bOr (bShl 1 (t : Int)) (bShl 1 (s (94 + (t : Int)))))), (5, vr (some a2)), (4, vr (some a1)), (0, vr (some 40)), (1, vi ((t : Int))), (2, vi (s (94 + (t : Int)))), (3, vr (some v))]) (tw_s (tw_g 0 rfl) (tw_s (tw_g 1 rfl) (tw_s (tw_g 2 rfl) (tw_s (tw_g 3 rfl) (tw_s (tw_g 4 rfl) (tw_s (tw_g 5 rfl) (tw_s (tw_g 6 rfl) (tw_s (tw_g 7 rfl) tw_s0)))))))) ?_
        exact sC_addPair_27_v hS hq hN hR hV t1 t2 hc c5 hQ1 hQ2 hk1 hk2 hKa1 hKa2 g1 hk1n hk2n f1 f2 hvs hD hs6 ho I85 hk85 ⟨⟨by simp only [e85, e74, e63, e53, uI, up, Nat.reduceEqDiff, reduceIte, Int.reduceEq], by simp only [e85, e74, e63, e53, uI, up, Nat.reduceEqDiff, reduceIte, Int.reduceEq], by simp only [e85, e74, e63, e53, uI, up, Nat.reduceEqDiff, reduceIte, Int.reduceEq], by simp only [e85, e74, e63, e53, uI, up, Nat.reduceEqDiff, reduceIte, Int.reduceEq]⟩, by rw [e85, uI_off _ _ _ (by decide), e74, uI_off _ _ _ (by decide), e63, uI_off _ _ _ (by decide), e53, uI_off _ _ _ (by decide)], by rw [e85, uI_set, setA_at, e74, uI_set, setA_at, e63, uI_off _ _ _ (by decide), e53, uI_off _ _ _ (by decide)], ⟨by rw [e85, uI_off _ _ _ (by decide), e74, uI_off _ _ _ (by decide), e63, uI_off _ _ _ (by decide), e53, uI_off _ _ _ (by decide)], by rw [e85, uI_off _ _ _ (by decide), e74, uI_off _ _ _ (by decide), e63, uI_off _ _ _ (by decide), e53, uI_off _ _ _ (by decide)], by rw [e85, uI_off _ _ _ (by decide), e74, uI_off _ _ _ (by decide), e63, uI_off _ _ _ (by decide), e53, uI_off _ _ _ (by decide)]⟩, fun j hj => by rw [e85, uI_off _ _ _ (by omega), e74, uI_off _ _ _ (by omega), e63, uI_off _ _ _ (by omega), e53, uI_off _ _ _ (by omega)]⟩
      · refine ar_iconst (k := 97) rfl ?_
        refine ar_goto (k := 98) rfl ?_
        refine tw_top (y := if s (84 + (t : Int)) ≠ s (84 + s (94 + (t : Int))) ∧ bAnd (I 27 11) (bOr (bShl 1 (t : Int)) (bShl 1 (s (94 + (t : Int))))) = 0 then 1 else 0) (by first | (exfalso; omega) | (rw [if_pos (by omega)]; done) | (rw [if_neg (by omega)]; done)) ?_
        refine ar_sub (l2 := [(7, vi ((if s (26 + s (84 + (t : Int))) = s (26 + s (84 + s (94 + (t : Int)))) then 1 else 0))), (6, vi (bOr (bShl 1 (t : Int)) (bShl 1 (s (94 + (t : Int)))))), (5, vr (some a2)), (4, vr (some a1)), (0, vr (some 40)), (1, vi ((t : Int))), (2, vi (s (94 + (t : Int)))), (3, vr (some v))]) (tw_s (tw_g 0 rfl) (tw_s (tw_g 1 rfl) (tw_s (tw_g 2 rfl) (tw_s (tw_g 3 rfl) (tw_s (tw_g 4 rfl) (tw_s (tw_g 5 rfl) (tw_s (tw_g 6 rfl) (tw_s (tw_g 7 rfl) tw_s0)))))))) ?_
        exact sC_addPair_27_v hS hq hN hR hV t1 t2 hc c5 hQ1 hQ2 hk1 hk2 hKa1 hKa2 g1 hk1n hk2n f1 f2 hvs hD hs6 ho I85 hk85 ⟨⟨by simp only [e85, e74, e63, e53, uI, up, Nat.reduceEqDiff, reduceIte, Int.reduceEq], by simp only [e85, e74, e63, e53, uI, up, Nat.reduceEqDiff, reduceIte, Int.reduceEq], by simp only [e85, e74, e63, e53, uI, up, Nat.reduceEqDiff, reduceIte, Int.reduceEq], by simp only [e85, e74, e63, e53, uI, up, Nat.reduceEqDiff, reduceIte, Int.reduceEq]⟩, by rw [e85, uI_off _ _ _ (by decide), e74, uI_off _ _ _ (by decide), e63, uI_off _ _ _ (by decide), e53, uI_off _ _ _ (by decide)], by rw [e85, uI_set, setA_at, e74, uI_set, setA_at, e63, uI_off _ _ _ (by decide), e53, uI_off _ _ _ (by decide)], ⟨by rw [e85, uI_off _ _ _ (by decide), e74, uI_off _ _ _ (by decide), e63, uI_off _ _ _ (by decide), e53, uI_off _ _ _ (by decide)], by rw [e85, uI_off _ _ _ (by decide), e74, uI_off _ _ _ (by decide), e63, uI_off _ _ _ (by decide), e53, uI_off _ _ _ (by decide)], by rw [e85, uI_off _ _ _ (by decide), e74, uI_off _ _ _ (by decide), e63, uI_off _ _ _ (by decide), e53, uI_off _ _ _ (by decide)]⟩, fun j hj => by rw [e85, uI_off _ _ _ (by omega), e74, uI_off _ _ _ (by omega), e63, uI_off _ _ _ (by omega), e53, uI_off _ _ _ (by omega)]⟩
theorem c_P_addPair_27_v {t c a1 a2 k1 k2 : Nat} {v : Nat} {C : tCL} (hS : tSt (K, I, Q, n)) (hq : Q 40 1 = some 27) (hN : WN 27 I s) (hR : RInv s) (hV : RVal s) (t1 : (t : Int) < s 1) (t2 : (t : Int) < s (94 + (t : Int))) (hc : I 40 11 = (c : Int)) (c5 : c < 5) (hQ1 : Q 30 (s (84 + (t : Int))) = some a1) (hQ2 : Q 30 (s (84 + s (94 + (t : Int)))) = some a2) (hk1 : hcl k1) (hk2 : hcl k2) (hKa1 : tK (K, I, Q, n) a1 (k1, 4)) (hKa2 : tK (K, I, Q, n) a2 (k2, 4)) (g1 : 78 ≤ a1 ∧ 78 ≤ a2) (hk1n : K a1 ≠ (14, 5) ∧ K a1 ≠ (14, 13)) (hk2n : K a2 ≠ (14, 5) ∧ K a2 ≠ (14, 13)) (f1 : I a1 0 = s (10 + s (84 + (t : Int))) ∧ I a1 1 = s (84 + (t : Int)) ∧ I a1 3 = s (26 + s (84 + (t : Int)))) (f2 : I a2 1 = s (84 + s (94 + (t : Int))) ∧ I a2 3 = s (26 + s (84 + s (94 + (t : Int))))) (hvs : VS K Q n v) (hD : VD I v C) (hs6 : s 6 ≠ -1) (ho : rOut s (s 6) = cFl C) : tw_M l G 4 0 0 mP_addPair [vr (some 40), vi (t : Int), vi (s (94 + (t : Int))), vr (some v)] (K, I, Q, n) (fun r h' => r = none ∧ ∃ L, h' = (K, L, Q, n) ∧ cq K I L ∧ pAdd I L s 27 t c) := by
  obtain ⟨h0, h1, h2, h3, h4, h5, h6, hp, hrw, ht, hr, hb, htp, hv⟩ := id hR
  have w1 := ht (t : Int) (by omega) (by omega)
  have w2 := ht (s (94 + (t : Int))) (by omega) (by omega)
  have wp1 := hp (s (84 + (t : Int))) (by omega) (by omega)
  have wp2 := hp (s (84 + s (94 + (t : Int)))) (by omega) (by omega)
  have h0v := hvs.1
  have hk : cq K I I := cq.rf
  refine tw_intro okP_addPair (Nat.le_of_ble_eq_true rfl) ?_
  refine ar_aloadn (k := 0) rfl rfl ?_
  refine br_getR (k := 1) rfl (hS.k (by decide)) flP_18_6 (by decide) rfl hq ?_
  refine br_getR (k := 2) rfl (hS.k (by decide)) flP_108_10 (by decide) rfl (hS.r rfl) ?_
  refine ar_aloadn (k := 3) rfl rfl ?_
  refine br_getR (k := 4) rfl (hS.k (by decide)) flP_18_6 (by decide) rfl hq ?_
  refine br_getR (k := 5) rfl (hS.k (by decide)) flP_95_10 (by decide) rfl (hS.r rfl) ?_
  refine ar_iloadn (k := 6) rfl rfl ?_
  refine br_iald (k := 7) rfl (hS.k (by decide)) (by omega) (by omega) (by decide) ?_
  refine tw_top (WN.ho (WN.q27 hN hS hk) (by omega) (by omega)) ?_
  refine br_aald16 (k := 8) rfl (hS.k (by decide)) (by omega) (by omega) (by decide) hQ1 ?_
  refine ar_astore (k := 9) (l2 := [(4, _), (0, _), (1, _), (2, _), (3, _)]) rfl (by decide) rfl ?_
  refine ar_aloadn (k := 10) rfl rfl ?_
  refine br_getR (k := 11) rfl (hS.k (by decide)) flP_18_6 (by decide) rfl hq ?_
  refine br_getR (k := 12) rfl (hS.k (by decide)) flP_108_10 (by decide) rfl (hS.r rfl) ?_
  refine ar_aloadn (k := 13) rfl rfl ?_
  refine br_getR (k := 14) rfl (hS.k (by decide)) flP_18_6 (by decide) rfl hq ?_
  refine br_getR (k := 15) rfl (hS.k (by decide)) flP_95_10 (by decide) rfl (hS.r rfl) ?_
  refine ar_iloadn (k := 16) rfl rfl ?_
  refine br_iald (k := 17) rfl (hS.k (by decide)) (by omega) (by omega) (by decide) ?_
  refine tw_top (WN.ho (WN.q27 hN hS hk) (by omega) (by omega)) ?_
  refine br_aald16 (k := 18) rfl (hS.k (by decide)) (by omega) (by omega) (by decide) hQ2 ?_
  refine ar_astore (k := 19) (l2 := [(5, _), (4, _), (0, _), (1, _), (2, _), (3, _)]) rfl (by decide) rfl ?_
  refine ar_aload (k := 20) rfl rfl ?_
  refine ar_ifnull (k := 21) rfl (fun c21 => ?_) (fun a21 c21 => ?_)
  · cases c21
  · refine ar_aload (k := 22) rfl rfl ?_
    refine ar_ifnonnull (k := 23) rfl (fun a23 c23 => ?_) (fun c23 => ?_)
    · refine ar_iconst (k := 25) rfl ?_
      refine ar_iloadn (k := 26) rfl rfl ?_
      refine ar_ishl (k := 27) rfl ?_
      refine ar_iconst (k := 28) rfl ?_
      refine ar_iloadn (k := 29) rfl rfl ?_
      refine ar_ishl (k := 30) rfl ?_
      refine ar_ior (k := 31) rfl ?_
      refine ar_istore (k := 32) (l2 := [(6, _), (5, _), (4, _), (0, _), (1, _), (2, _), (3, _)]) rfl (by decide) rfl ?_
      refine ar_aload (k := 33) rfl rfl ?_
      refine br_getIz (k := 34) (z := 3) rfl hKa1 (flP_any_112 hk1) (by decide) (trf_any hk1) rfl ?_
      refine tw_top ((congrFun (hk.1 a1 (by omega) hk1n.1 hk1n.2) _).trans f1.2.2) ?_
      refine ar_aload (k := 35) rfl rfl ?_
      refine br_getIz (k := 36) (z := 3) rfl hKa2 (flP_any_112 hk2) (by decide) (trf_any hk2) rfl ?_
      refine tw_top ((congrFun (hk.1 a2 (by omega) hk2n.1 hk2n.2) _).trans f2.2) ?_
      refine ar_icmp_ne (k := 37) rfl (by omega) (by omega) (fun c37 => ?_) (fun c37 => ?_)
      · refine ar_iconst (k := 40) rfl ?_
        refine tw_top (y := if s (26 + s (84 + (t : Int))) = s (26 + s (84 + s (94 + (t : Int)))) then 1 else 0) (by first | (exfalso; omega) | (rw [if_pos (by omega)]; done) | (rw [if_neg (by omega)]; done)) ?_
        refine ar_sub (l2 := [(6, vi (bOr (bShl 1 (t : Int)) (bShl 1 (s (94 + (t : Int)))))), (5, vr (some a2)), (4, vr (some a1)), (0, vr (some 40)), (1, vi ((t : Int))), (2, vi (s (94 + (t : Int)))), (3, vr (some v))]) (tw_s (tw_g 0 rfl) (tw_s (tw_g 1 rfl) (tw_s (tw_g 2 rfl) (tw_s (tw_g 3 rfl) (tw_s (tw_g 4 rfl) (tw_s (tw_g 5 rfl) (tw_s (tw_g 6 rfl) tw_s0))))))) ?_
        exact sB_addPair_27_v hS hq hN hR hV t1 t2 hc c5 hQ1 hQ2 hk1 hk2 hKa1 hKa2 g1 hk1n hk2n f1 f2 hvs hD hs6 ho
      · refine ar_iconst (k := 38) rfl ?_
        refine ar_goto (k := 39) rfl ?_
        refine tw_top (y := if s (26 + s (84 + (t : Int))) = s (26 + s (84 + s (94 + (t : Int)))) then 1 else 0) (by first | (exfalso; omega) | (rw [if_pos (by omega)]; done) | (rw [if_neg (by omega)]; done)) ?_
        refine ar_sub (l2 := [(6, vi (bOr (bShl 1 (t : Int)) (bShl 1 (s (94 + (t : Int)))))), (5, vr (some a2)), (4, vr (some a1)), (0, vr (some 40)), (1, vi ((t : Int))), (2, vi (s (94 + (t : Int)))), (3, vr (some v))]) (tw_s (tw_g 0 rfl) (tw_s (tw_g 1 rfl) (tw_s (tw_g 2 rfl) (tw_s (tw_g 3 rfl) (tw_s (tw_g 4 rfl) (tw_s (tw_g 5 rfl) (tw_s (tw_g 6 rfl) tw_s0))))))) ?_
        exact sB_addPair_27_v hS hq hN hR hV t1 t2 hc c5 hQ1 hQ2 hk1 hk2 hKa1 hKa2 g1 hk1n hk2n f1 f2 hvs hD hs6 ho
    · cases c23
end CA2
