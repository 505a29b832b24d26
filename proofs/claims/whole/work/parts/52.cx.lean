def orP (g : Nat → Int) : List Nat → Int → Int
  | [], a => a
  | t :: r, a => orP g r (bOr a (g t))
def smP (g : Nat → Int) : List Nat → Int → Int
  | [], a => a
  | t :: r, a => smP g r (a + g t)
theorem orV_prs {s : Int → Int} {c : Nat → Prop} [DecidablePred c] {x : Nat → Int} : ∀ (k t : Nat) (a : Int), tr a → orV (fun t => if c t ∧ (t : Int) < s (94 + (t : Int)) then x t else 0) k t a = orP (fun t => if c t then x t else 0) (prsN s k t) a
  | 0, _, _, _ => rfl
  | k + 1, t, a, ha => by
    rw [orV, prsN]
    by_cases h : (t : Int) < s (94 + (t : Int))
    · rw [if_pos h, orP, orV_prs k (t + 1) _ (tr_bOr _ _)]
      congr 2
      by_cases h2 : c t
      · rw [if_pos ⟨h2, h⟩, if_pos h2]
      · rw [if_neg (fun z => h2 z.1), if_neg h2]
    · rw [if_neg h, if_neg (fun z => h z.2), bOr_0 ha]
      exact orV_prs k (t + 1) a ha
theorem smV_prs {s : Int → Int} {c : Nat → Prop} [DecidablePred c] {x : Nat → Int} : ∀ (k t : Nat) (a : Int), smV (fun t => if c t ∧ (t : Int) < s (94 + (t : Int)) then x t else 0) k t a = smP (fun t => if c t then x t else 0) (prsN s k t) a
  | 0, _, _ => rfl
  | k + 1, t, a => by
    rw [smV, prsN]
    by_cases h : (t : Int) < s (94 + (t : Int))
    · rw [if_pos h, smP, smV_prs k (t + 1)]
      congr 2
      by_cases h2 : c t
      · rw [if_pos ⟨h2, h⟩, if_pos h2]
      · rw [if_neg (fun z => h2 z.1), if_neg h2]
    · rw [if_neg h, if_neg (fun z => h z.2), Int.add_zero]
      exact smV_prs k (t + 1) a
theorem prsN_mem {s : Int → Int} : ∀ (k t x : Nat), x ∈ prsN s k t → t ≤ x ∧ x < t + k ∧ (x : Int) < s (94 + (x : Int))
  | 0, t, x, h => by cases h
  | k + 1, t, x, h => by
    rw [prsN] at h
    by_cases g : (t : Int) < s (94 + (t : Int))
    · rw [if_pos g] at h
      rcases List.mem_cons.mp h with e | e
      · subst e; exact ⟨by omega, by omega, g⟩
      · have := prsN_mem k (t + 1) x e; omega
    · rw [if_neg g] at h
      have := prsN_mem k (t + 1) x h; omega
theorem prs_get {s : Int → Int} (h1 : 0 ≤ s 1) {i : Nat} (hi : i < (prs s).length) : ((((prs s).getD i 0 : Nat) : Int) < s 1) ∧ (((prs s).getD i 0 : Nat) : Int) < s (94 + (((prs s).getD i 0 : Nat) : Int)) := by
  have hm : (prs s).getD i 0 ∈ prs s := by
    rw [List.getD_eq_getElem?_getD, List.getElem?_eq_getElem hi]
    exact List.getElem_mem hi
  have := prsN_mem _ _ _ hm
  exact ⟨by omega, this.2.2⟩
theorem prs_drop {s : Int → Int} {i : Nat} (hi : i < (prs s).length) : (prs s).drop i = (prs s).getD i 0 :: (prs s).drop (i + 1) := by
  rw [List.drop_eq_getElem_cons hi, List.getD_eq_getElem?_getD, List.getElem?_eq_getElem hi]
  rfl
theorem go_eq {x : Int} {t v : Nat} (ht : t < 32) (hv : v < 32) : bAnd x (bOr (bShl 1 (t : Int)) (bShl 1 (v : Int))) = bOr (bShl 1 (t : Int)) (bShl 1 (v : Int)) ↔ (ib x t = true ∧ ib x v = true) := by
  constructor
  · intro h
    have a1 : ib (bAnd x (bOr (bShl 1 (t : Int)) (bShl 1 (v : Int)))) t = true := by rw [h, ib_or, ib_shl1 t ht t ht]; simp
    have a2 : ib (bAnd x (bOr (bShl 1 (t : Int)) (bShl 1 (v : Int)))) v = true := by rw [h, ib_or, ib_shl1 v hv v hv]; simp
    rw [ib_and, Bool.and_eq_true] at a1 a2
    exact ⟨a1.1, a2.1⟩
  · rintro ⟨h1, h2⟩
    refine ib_ext (tr_toInt _) (tr_toInt _) (fun i hi => ?_)
    rw [ib_and, ib_or, ib_shl1 t ht i hi, ib_shl1 v hv i hi]
    by_cases e1 : t = i
    · subst e1; rw [h1]; simp
    · by_cases e2 : v = i
      · subst e2; rw [h2]; simp
      · simp [e1, e2]
theorem rWork_hi {s : Int → Int} {u : Int} (h1 : 0 ≤ s 1 ∧ s 1 ≤ 10) {j : Nat} (hj : j < 32) (h : s 1 ≤ (j : Int)) : ib (rWork s u) j = false := by
  rw [Bool.eq_false_iff]
  intro g
  unfold rWork at g
  rw [orV_any, ib_0] at g
  rcases g with g | ⟨q, -, -, g⟩
  · cases g
  · have hb := rAt_bd (s := s) (p := (q : Int)) (u := u) h1.1
    by_cases e : rAt s (q : Int) u = -1
    · rw [if_pos e, ib_0] at g; cases g
    · rw [if_neg e, show rAt s (q : Int) u = (((rAt s (q : Int) u).toNat : Nat) : Int) by omega, ib_shl1 _ (by omega) j hj, decide_eq_true_eq] at g
      omega
section CX
variable {l : Launch} {G : tG} {K : Nat → Nat × Nat} {I : Nat → Int → Int} {Q : Nat → Int → Option Nat} {n : Nat} {s : Int → Int}
theorem l_P_workedTools {u : Int} (hS : tSt (K, I, Q, n)) (hq : Q 40 1 = some 1) (hN : WN 1 I s) (hR : RInv s) (hV : RVal s) (hB : PB I s) (hP : WP 1 K I Q n s) (u1 : 0 ≤ u ∧ u ≤ 23) : ∀ (k : Nat) (j : Nat) (b : Int), j + k = (s 0).toNat → tr b → tw_AW l G mP_workedTools 5 0 0 n 0 (tw_fn (some (vi (orV (fun p : Nat => if rAt s (p : Int) u = -1 then 0 else bShl 1 (rAt s (p : Int) u)) k j b))) (K, I, Q, n)) 4 [(3, vi (j : Int)), (2, vi b), (0, vr (some 40)), (1, vi u)] [] (K, I, Q, n) := by
  obtain ⟨h0, h1, h2, h3, h4, h5, h6, hp, hrw, ht, hr, hb, htp, hv⟩ := id hR
  intro k
  induction k with
  | zero =>
    intro j b hj hb8
    refine ar_iloadn (k := 4) rfl rfl ?_
    refine ar_aloadn (k := 5) rfl rfl ?_
    refine br_getR (k := 6) rfl (hS.k (by decide)) flP_18_6 (by decide) rfl hq ?_
    refine br_getIz (k := 7) (z := 5) rfl (hS.k (by decide)) flP_147_10 (by decide) rfl rfl ?_
    refine tw_top (WN.pc hN) ?_
    refine ar_icmp_ge (k := 8) rfl (by omega) (by omega) (fun c8 => ?_) (fun c8 => ?_)
    · refine ar_iloadn (k := 34) rfl rfl ?_
      refine ar_iret (k := 35) rfl rfl rfl (Nat.le_refl _) ?_
      exact ⟨rfl, rfl⟩
    · exfalso; omega
  | succ k ih =>
    intro j b hj hb8
    refine ar_iloadn (k := 4) rfl rfl ?_
    refine ar_aloadn (k := 5) rfl rfl ?_
    refine br_getR (k := 6) rfl (hS.k (by decide)) flP_18_6 (by decide) rfl hq ?_
    refine br_getIz (k := 7) (z := 5) rfl (hS.k (by decide)) flP_147_10 (by decide) rfl rfl ?_
    refine tw_top (WN.pc hN) ?_
    refine ar_icmp_ge (k := 8) rfl (by omega) (by omega) (fun c8 => ?_) (fun c8 => ?_)
    · exfalso; omega
    · obtain ⟨a, hQa, ha77, han, haK, ha0, ha1, ha2, ha3⟩ := hP (j : Int) (by omega) (by omega)
      rcases (show s (10 + (j : Int)) = 0 ∨ s (10 + (j : Int)) = 1 ∨ s (10 + (j : Int)) = 2 ∨ s (10 + (j : Int)) = 3 ∨ s (10 + (j : Int)) = 4 ∨ s (10 + (j : Int)) = 5 ∨ s (10 + (j : Int)) = 6 by have := hp (j : Int) (by omega) (by omega); omega) with hq7 | hq7 | hq7 | hq7 | hq7 | hq7 | hq7
      · have hKa : tK (K, I, Q, n) a (2, 4) := ⟨by show K a = _; rw [haK, hq7]; rfl, han⟩
        refine ar_aloadn (k := 9) rfl rfl ?_
        refine br_getR (k := 10) rfl (hS.k (by decide)) flP_18_6 (by decide) rfl hq ?_
        refine br_getR (k := 11) rfl (hS.k (by decide)) flP_108_10 (by decide) rfl (hS.r rfl) ?_
        refine ar_iloadn (k := 12) rfl rfl ?_
        refine br_aald16 (k := 13) rfl (hS.k (by decide)) (by omega) (by omega) (by decide) hQa ?_
        refine ar_astore (k := 14) (l2 := [(4, _), (3, _), (2, _), (0, _), (1, _)]) rfl (by decide) rfl ?_
        refine ar_aload (k := 15) rfl rfl ?_
        refine ar_ifnonnull (k := 16) rfl (fun a16 c16 => ?_) (fun c16 => ?_)
        · refine ar_aload (k := 19) rfl rfl ?_
          refine ar_aloadn (k := 20) rfl rfl ?_
          refine ar_iloadn (k := 21) rfl rfl ?_
          refine ar_callU (k := 22) (as := [_, _]) rfl lvP_150_H hKa rfl (c_H_worksAt_H hS hq hN hR hV hB hKa ha1 ha2 (by omega) u1 hq7) rfl (by decide) (by decide) tw_m0 (Nat.le_of_ble_eq_true rfl) (fun r22 h22 p22 => ?_)
          obtain ⟨rfl, rfl⟩ := p22
          have hb9 := rAt_bd (s := s) (p := (j : Int)) (u := u) h1.1
          have hn5 : n5' (rAt s (j : Int) u) = if rAt s (j : Int) u = -1 then -5 else rAt s (j : Int) u := rfl
          refine ar_istore (k := 23) (l2 := [(5, _), (4, _), (3, _), (2, _), (0, _), (1, _)]) rfl (by decide) rfl ?_
          refine ar_iload (k := 24) rfl rfl ?_
          refine ar_if_lt (k := 25) rfl (by omega) (fun c25 => ?_) (fun c25 => ?_)
          · refine ar_iinc (k := 32) (l2 := [(3, _), (5, _), (4, _), (2, _), (0, _), (1, _)]) rfl (by decide) rfl rfl ?_
            refine ar_goto (k := 33) rfl ?_
            refine ar_sub (l2 := [(3, vi ((j + 1 : Nat) : Int)), (2, vi (bOr b ((fun p : Nat => if rAt s (p : Int) u = -1 then 0 else bShl 1 (rAt s (p : Int) u)) j))), (0, vr (some 40)), (1, vi u)]) (tw_s (tw_e 0 rfl (by omega)) (tw_s (tw_e 3 rfl (by show _ = bOr b (if rAt s (j : Int) u = -1 then 0 else bShl 1 (rAt s (j : Int) u)); first | (exfalso; omega) | (rw [if_neg (by omega), show n5' (rAt s (j : Int) u) = rAt s (j : Int) u by omega]; done) | (rw [if_pos (by omega), bOr_0 hb8]))) (tw_s (tw_g 4 rfl) (tw_s (tw_g 5 rfl) tw_s0)))) ?_
            exact ih (j + 1) _ (by omega) (tr_bOr _ _)
          · refine ar_iloadn (k := 26) rfl rfl ?_
            refine ar_iconst (k := 27) rfl ?_
            refine ar_iload (k := 28) rfl rfl ?_
            refine ar_ishl (k := 29) rfl ?_
            refine ar_ior (k := 30) rfl ?_
            refine ar_istoren (k := 31) (l2 := [(2, _), (5, _), (4, _), (3, _), (0, _), (1, _)]) rfl (by decide) rfl ?_
            refine ar_iinc (k := 32) (l2 := [(3, _), (2, _), (5, _), (4, _), (0, _), (1, _)]) rfl (by decide) rfl rfl ?_
            refine ar_goto (k := 33) rfl ?_
            refine ar_sub (l2 := [(3, vi ((j + 1 : Nat) : Int)), (2, vi (bOr b ((fun p : Nat => if rAt s (p : Int) u = -1 then 0 else bShl 1 (rAt s (p : Int) u)) j))), (0, vr (some 40)), (1, vi u)]) (tw_s (tw_e 0 rfl (by omega)) (tw_s (tw_e 1 rfl (by show _ = bOr b (if rAt s (j : Int) u = -1 then 0 else bShl 1 (rAt s (j : Int) u)); first | (exfalso; omega) | (rw [if_neg (by omega), show n5' (rAt s (j : Int) u) = rAt s (j : Int) u by omega]; done) | (rw [if_pos (by omega), bOr_0 hb8]))) (tw_s (tw_g 4 rfl) (tw_s (tw_g 5 rfl) tw_s0)))) ?_
            exact ih (j + 1) _ (by omega) (tr_bOr _ _)
        · cases c16
      · have hKa : tK (K, I, Q, n) a (0, 4) := ⟨by show K a = _; rw [haK, hq7]; rfl, han⟩
        refine ar_aloadn (k := 9) rfl rfl ?_
        refine br_getR (k := 10) rfl (hS.k (by decide)) flP_18_6 (by decide) rfl hq ?_
        refine br_getR (k := 11) rfl (hS.k (by decide)) flP_108_10 (by decide) rfl (hS.r rfl) ?_
        refine ar_iloadn (k := 12) rfl rfl ?_
        refine br_aald16 (k := 13) rfl (hS.k (by decide)) (by omega) (by omega) (by decide) hQa ?_
        refine ar_astore (k := 14) (l2 := [(4, _), (3, _), (2, _), (0, _), (1, _)]) rfl (by decide) rfl ?_
        refine ar_aload (k := 15) rfl rfl ?_
        refine ar_ifnonnull (k := 16) rfl (fun a16 c16 => ?_) (fun c16 => ?_)
        · refine ar_aload (k := 19) rfl rfl ?_
          refine ar_aloadn (k := 20) rfl rfl ?_
          refine ar_iloadn (k := 21) rfl rfl ?_
          refine ar_callU (k := 22) (as := [_, _]) rfl lvP_150_B hKa rfl (c_H_worksAt_B hS hq hN hR hV hB hKa ha1 ha2 (by omega) u1 hq7) rfl (by decide) (by decide) tw_m0 (Nat.le_of_ble_eq_true rfl) (fun r22 h22 p22 => ?_)
          obtain ⟨rfl, rfl⟩ := p22
          have hb9 := rAt_bd (s := s) (p := (j : Int)) (u := u) h1.1
          have hn5 : n5' (rAt s (j : Int) u) = if rAt s (j : Int) u = -1 then -5 else rAt s (j : Int) u := rfl
          refine ar_istore (k := 23) (l2 := [(5, _), (4, _), (3, _), (2, _), (0, _), (1, _)]) rfl (by decide) rfl ?_
          refine ar_iload (k := 24) rfl rfl ?_
          refine ar_if_lt (k := 25) rfl (by omega) (fun c25 => ?_) (fun c25 => ?_)
          · refine ar_iinc (k := 32) (l2 := [(3, _), (5, _), (4, _), (2, _), (0, _), (1, _)]) rfl (by decide) rfl rfl ?_
            refine ar_goto (k := 33) rfl ?_
            refine ar_sub (l2 := [(3, vi ((j + 1 : Nat) : Int)), (2, vi (bOr b ((fun p : Nat => if rAt s (p : Int) u = -1 then 0 else bShl 1 (rAt s (p : Int) u)) j))), (0, vr (some 40)), (1, vi u)]) (tw_s (tw_e 0 rfl (by omega)) (tw_s (tw_e 3 rfl (by show _ = bOr b (if rAt s (j : Int) u = -1 then 0 else bShl 1 (rAt s (j : Int) u)); first | (exfalso; omega) | (rw [if_neg (by omega), show n5' (rAt s (j : Int) u) = rAt s (j : Int) u by omega]; done) | (rw [if_pos (by omega), bOr_0 hb8]))) (tw_s (tw_g 4 rfl) (tw_s (tw_g 5 rfl) tw_s0)))) ?_
            exact ih (j + 1) _ (by omega) (tr_bOr _ _)
          · refine ar_iloadn (k := 26) rfl rfl ?_
            refine ar_iconst (k := 27) rfl ?_
            refine ar_iload (k := 28) rfl rfl ?_
            refine ar_ishl (k := 29) rfl ?_
            refine ar_ior (k := 30) rfl ?_
            refine ar_istoren (k := 31) (l2 := [(2, _), (5, _), (4, _), (3, _), (0, _), (1, _)]) rfl (by decide) rfl ?_
            refine ar_iinc (k := 32) (l2 := [(3, _), (2, _), (5, _), (4, _), (0, _), (1, _)]) rfl (by decide) rfl rfl ?_
            refine ar_goto (k := 33) rfl ?_
            refine ar_sub (l2 := [(3, vi ((j + 1 : Nat) : Int)), (2, vi (bOr b ((fun p : Nat => if rAt s (p : Int) u = -1 then 0 else bShl 1 (rAt s (p : Int) u)) j))), (0, vr (some 40)), (1, vi u)]) (tw_s (tw_e 0 rfl (by omega)) (tw_s (tw_e 1 rfl (by show _ = bOr b (if rAt s (j : Int) u = -1 then 0 else bShl 1 (rAt s (j : Int) u)); first | (exfalso; omega) | (rw [if_neg (by omega), show n5' (rAt s (j : Int) u) = rAt s (j : Int) u by omega]; done) | (rw [if_pos (by omega), bOr_0 hb8]))) (tw_s (tw_g 4 rfl) (tw_s (tw_g 5 rfl) tw_s0)))) ?_
            exact ih (j + 1) _ (by omega) (tr_bOr _ _)
        · cases c16
      · have hKa : tK (K, I, Q, n) a (3, 4) := ⟨by show K a = _; rw [haK, hq7]; rfl, han⟩
        refine ar_aloadn (k := 9) rfl rfl ?_
        refine br_getR (k := 10) rfl (hS.k (by decide)) flP_18_6 (by decide) rfl hq ?_
        refine br_getR (k := 11) rfl (hS.k (by decide)) flP_108_10 (by decide) rfl (hS.r rfl) ?_
        refine ar_iloadn (k := 12) rfl rfl ?_
        refine br_aald16 (k := 13) rfl (hS.k (by decide)) (by omega) (by omega) (by decide) hQa ?_
        refine ar_astore (k := 14) (l2 := [(4, _), (3, _), (2, _), (0, _), (1, _)]) rfl (by decide) rfl ?_
        refine ar_aload (k := 15) rfl rfl ?_
        refine ar_ifnonnull (k := 16) rfl (fun a16 c16 => ?_) (fun c16 => ?_)
        · refine ar_aload (k := 19) rfl rfl ?_
          refine ar_aloadn (k := 20) rfl rfl ?_
          refine ar_iloadn (k := 21) rfl rfl ?_
          refine ar_callU (k := 22) (as := [_, _]) rfl lvP_150_O hKa rfl (c_H_worksAt_O hS hq hN hR hV hB hKa ha1 ha2 (by omega) u1 hq7) rfl (by decide) (by decide) tw_m0 (Nat.le_of_ble_eq_true rfl) (fun r22 h22 p22 => ?_)
          obtain ⟨rfl, rfl⟩ := p22
          have hb9 := rAt_bd (s := s) (p := (j : Int)) (u := u) h1.1
          have hn5 : n5' (rAt s (j : Int) u) = if rAt s (j : Int) u = -1 then -5 else rAt s (j : Int) u := rfl
          refine ar_istore (k := 23) (l2 := [(5, _), (4, _), (3, _), (2, _), (0, _), (1, _)]) rfl (by decide) rfl ?_
          refine ar_iload (k := 24) rfl rfl ?_
          refine ar_if_lt (k := 25) rfl (by omega) (fun c25 => ?_) (fun c25 => ?_)
          · refine ar_iinc (k := 32) (l2 := [(3, _), (5, _), (4, _), (2, _), (0, _), (1, _)]) rfl (by decide) rfl rfl ?_
            refine ar_goto (k := 33) rfl ?_
            refine ar_sub (l2 := [(3, vi ((j + 1 : Nat) : Int)), (2, vi (bOr b ((fun p : Nat => if rAt s (p : Int) u = -1 then 0 else bShl 1 (rAt s (p : Int) u)) j))), (0, vr (some 40)), (1, vi u)]) (tw_s (tw_e 0 rfl (by omega)) (tw_s (tw_e 3 rfl (by show _ = bOr b (if rAt s (j : Int) u = -1 then 0 else bShl 1 (rAt s (j : Int) u)); first | (exfalso; omega) | (rw [if_neg (by omega), show n5' (rAt s (j : Int) u) = rAt s (j : Int) u by omega]; done) | (rw [if_pos (by omega), bOr_0 hb8]))) (tw_s (tw_g 4 rfl) (tw_s (tw_g 5 rfl) tw_s0)))) ?_
            exact ih (j + 1) _ (by omega) (tr_bOr _ _)
          · refine ar_iloadn (k := 26) rfl rfl ?_
            refine ar_iconst (k := 27) rfl ?_
            refine ar_iload (k := 28) rfl rfl ?_
            refine ar_ishl (k := 29) rfl ?_
            refine ar_ior (k := 30) rfl ?_
            refine ar_istoren (k := 31) (l2 := [(2, _), (5, _), (4, _), (3, _), (0, _), (1, _)]) rfl (by decide) rfl ?_
            refine ar_iinc (k := 32) (l2 := [(3, _), (2, _), (5, _), (4, _), (0, _), (1, _)]) rfl (by decide) rfl rfl ?_
            refine ar_goto (k := 33) rfl ?_
            refine ar_sub (l2 := [(3, vi ((j + 1 : Nat) : Int)), (2, vi (bOr b ((fun p : Nat => if rAt s (p : Int) u = -1 then 0 else bShl 1 (rAt s (p : Int) u)) j))), (0, vr (some 40)), (1, vi u)]) (tw_s (tw_e 0 rfl (by omega)) (tw_s (tw_e 1 rfl (by show _ = bOr b (if rAt s (j : Int) u = -1 then 0 else bShl 1 (rAt s (j : Int) u)); first | (exfalso; omega) | (rw [if_neg (by omega), show n5' (rAt s (j : Int) u) = rAt s (j : Int) u by omega]; done) | (rw [if_pos (by omega), bOr_0 hb8]))) (tw_s (tw_g 4 rfl) (tw_s (tw_g 5 rfl) tw_s0)))) ?_
            exact ih (j + 1) _ (by omega) (tr_bOr _ _)
        · cases c16
      · have hKa : tK (K, I, Q, n) a (1, 4) := ⟨by show K a = _; rw [haK, hq7]; rfl, han⟩
        refine ar_aloadn (k := 9) rfl rfl ?_
        refine br_getR (k := 10) rfl (hS.k (by decide)) flP_18_6 (by decide) rfl hq ?_
        refine br_getR (k := 11) rfl (hS.k (by decide)) flP_108_10 (by decide) rfl (hS.r rfl) ?_
        refine ar_iloadn (k := 12) rfl rfl ?_
        refine br_aald16 (k := 13) rfl (hS.k (by decide)) (by omega) (by omega) (by decide) hQa ?_
        refine ar_astore (k := 14) (l2 := [(4, _), (3, _), (2, _), (0, _), (1, _)]) rfl (by decide) rfl ?_
        refine ar_aload (k := 15) rfl rfl ?_
        refine ar_ifnonnull (k := 16) rfl (fun a16 c16 => ?_) (fun c16 => ?_)
        · refine ar_aload (k := 19) rfl rfl ?_
          refine ar_aloadn (k := 20) rfl rfl ?_
          refine ar_iloadn (k := 21) rfl rfl ?_
          refine ar_callU (k := 22) (as := [_, _]) rfl lvP_150_G hKa rfl (c_H_worksAt_G hS hq hN hR hV hB hKa ha1 ha2 (by omega) u1 hq7) rfl (by decide) (by decide) tw_m0 (Nat.le_of_ble_eq_true rfl) (fun r22 h22 p22 => ?_)
          obtain ⟨rfl, rfl⟩ := p22
          have hb9 := rAt_bd (s := s) (p := (j : Int)) (u := u) h1.1
          have hn5 : n5' (rAt s (j : Int) u) = if rAt s (j : Int) u = -1 then -5 else rAt s (j : Int) u := rfl
          refine ar_istore (k := 23) (l2 := [(5, _), (4, _), (3, _), (2, _), (0, _), (1, _)]) rfl (by decide) rfl ?_
          refine ar_iload (k := 24) rfl rfl ?_
          refine ar_if_lt (k := 25) rfl (by omega) (fun c25 => ?_) (fun c25 => ?_)
          · refine ar_iinc (k := 32) (l2 := [(3, _), (5, _), (4, _), (2, _), (0, _), (1, _)]) rfl (by decide) rfl rfl ?_
            refine ar_goto (k := 33) rfl ?_
            refine ar_sub (l2 := [(3, vi ((j + 1 : Nat) : Int)), (2, vi (bOr b ((fun p : Nat => if rAt s (p : Int) u = -1 then 0 else bShl 1 (rAt s (p : Int) u)) j))), (0, vr (some 40)), (1, vi u)]) (tw_s (tw_e 0 rfl (by omega)) (tw_s (tw_e 3 rfl (by show _ = bOr b (if rAt s (j : Int) u = -1 then 0 else bShl 1 (rAt s (j : Int) u)); first | (exfalso; omega) | (rw [if_neg (by omega), show n5' (rAt s (j : Int) u) = rAt s (j : Int) u by omega]; done) | (rw [if_pos (by omega), bOr_0 hb8]))) (tw_s (tw_g 4 rfl) (tw_s (tw_g 5 rfl) tw_s0)))) ?_
            exact ih (j + 1) _ (by omega) (tr_bOr _ _)
          · refine ar_iloadn (k := 26) rfl rfl ?_
            refine ar_iconst (k := 27) rfl ?_
            refine ar_iload (k := 28) rfl rfl ?_
            refine ar_ishl (k := 29) rfl ?_
            refine ar_ior (k := 30) rfl ?_
            refine ar_istoren (k := 31) (l2 := [(2, _), (5, _), (4, _), (3, _), (0, _), (1, _)]) rfl (by decide) rfl ?_
            refine ar_iinc (k := 32) (l2 := [(3, _), (2, _), (5, _), (4, _), (0, _), (1, _)]) rfl (by decide) rfl rfl ?_
            refine ar_goto (k := 33) rfl ?_
            refine ar_sub (l2 := [(3, vi ((j + 1 : Nat) : Int)), (2, vi (bOr b ((fun p : Nat => if rAt s (p : Int) u = -1 then 0 else bShl 1 (rAt s (p : Int) u)) j))), (0, vr (some 40)), (1, vi u)]) (tw_s (tw_e 0 rfl (by omega)) (tw_s (tw_e 1 rfl (by show _ = bOr b (if rAt s (j : Int) u = -1 then 0 else bShl 1 (rAt s (j : Int) u)); first | (exfalso; omega) | (rw [if_neg (by omega), show n5' (rAt s (j : Int) u) = rAt s (j : Int) u by omega]; done) | (rw [if_pos (by omega), bOr_0 hb8]))) (tw_s (tw_g 4 rfl) (tw_s (tw_g 5 rfl) tw_s0)))) ?_
            exact ih (j + 1) _ (by omega) (tr_bOr _ _)
        · cases c16
      · have hKa : tK (K, I, Q, n) a (5, 4) := ⟨by show K a = _; rw [haK, hq7]; rfl, han⟩
        refine ar_aloadn (k := 9) rfl rfl ?_
        refine br_getR (k := 10) rfl (hS.k (by decide)) flP_18_6 (by decide) rfl hq ?_
        refine br_getR (k := 11) rfl (hS.k (by decide)) flP_108_10 (by decide) rfl (hS.r rfl) ?_
        refine ar_iloadn (k := 12) rfl rfl ?_
        refine br_aald16 (k := 13) rfl (hS.k (by decide)) (by omega) (by omega) (by decide) hQa ?_
        refine ar_astore (k := 14) (l2 := [(4, _), (3, _), (2, _), (0, _), (1, _)]) rfl (by decide) rfl ?_
        refine ar_aload (k := 15) rfl rfl ?_
        refine ar_ifnonnull (k := 16) rfl (fun a16 c16 => ?_) (fun c16 => ?_)
        · refine ar_aload (k := 19) rfl rfl ?_
          refine ar_aloadn (k := 20) rfl rfl ?_
          refine ar_iloadn (k := 21) rfl rfl ?_
          refine ar_callU (k := 22) (as := [_, _]) rfl lvP_150_L hKa rfl (c_H_worksAt_L hS hq hN hR hV hB hKa ha1 ha2 (by omega) u1 hq7) rfl (by decide) (by decide) tw_m0 (Nat.le_of_ble_eq_true rfl) (fun r22 h22 p22 => ?_)
          obtain ⟨rfl, rfl⟩ := p22
          have hb9 := rAt_bd (s := s) (p := (j : Int)) (u := u) h1.1
          have hn5 : n5' (rAt s (j : Int) u) = if rAt s (j : Int) u = -1 then -5 else rAt s (j : Int) u := rfl
          refine ar_istore (k := 23) (l2 := [(5, _), (4, _), (3, _), (2, _), (0, _), (1, _)]) rfl (by decide) rfl ?_
          refine ar_iload (k := 24) rfl rfl ?_
          refine ar_if_lt (k := 25) rfl (by omega) (fun c25 => ?_) (fun c25 => ?_)
          · refine ar_iinc (k := 32) (l2 := [(3, _), (5, _), (4, _), (2, _), (0, _), (1, _)]) rfl (by decide) rfl rfl ?_
            refine ar_goto (k := 33) rfl ?_
            refine ar_sub (l2 := [(3, vi ((j + 1 : Nat) : Int)), (2, vi (bOr b ((fun p : Nat => if rAt s (p : Int) u = -1 then 0 else bShl 1 (rAt s (p : Int) u)) j))), (0, vr (some 40)), (1, vi u)]) (tw_s (tw_e 0 rfl (by omega)) (tw_s (tw_e 3 rfl (by show _ = bOr b (if rAt s (j : Int) u = -1 then 0 else bShl 1 (rAt s (j : Int) u)); first | (exfalso; omega) | (rw [if_neg (by omega), show n5' (rAt s (j : Int) u) = rAt s (j : Int) u by omega]; done) | (rw [if_pos (by omega), bOr_0 hb8]))) (tw_s (tw_g 4 rfl) (tw_s (tw_g 5 rfl) tw_s0)))) ?_
            exact ih (j + 1) _ (by omega) (tr_bOr _ _)
          · refine ar_iloadn (k := 26) rfl rfl ?_
            refine ar_iconst (k := 27) rfl ?_
            refine ar_iload (k := 28) rfl rfl ?_
            refine ar_ishl (k := 29) rfl ?_
            refine ar_ior (k := 30) rfl ?_
            refine ar_istoren (k := 31) (l2 := [(2, _), (5, _), (4, _), (3, _), (0, _), (1, _)]) rfl (by decide) rfl ?_
            refine ar_iinc (k := 32) (l2 := [(3, _), (2, _), (5, _), (4, _), (0, _), (1, _)]) rfl (by decide) rfl rfl ?_
            refine ar_goto (k := 33) rfl ?_
            refine ar_sub (l2 := [(3, vi ((j + 1 : Nat) : Int)), (2, vi (bOr b ((fun p : Nat => if rAt s (p : Int) u = -1 then 0 else bShl 1 (rAt s (p : Int) u)) j))), (0, vr (some 40)), (1, vi u)]) (tw_s (tw_e 0 rfl (by omega)) (tw_s (tw_e 1 rfl (by show _ = bOr b (if rAt s (j : Int) u = -1 then 0 else bShl 1 (rAt s (j : Int) u)); first | (exfalso; omega) | (rw [if_neg (by omega), show n5' (rAt s (j : Int) u) = rAt s (j : Int) u by omega]; done) | (rw [if_pos (by omega), bOr_0 hb8]))) (tw_s (tw_g 4 rfl) (tw_s (tw_g 5 rfl) tw_s0)))) ?_
            exact ih (j + 1) _ (by omega) (tr_bOr _ _)
        · cases c16
      · have hKa : tK (K, I, Q, n) a (4, 4) := ⟨by show K a = _; rw [haK, hq7]; rfl, han⟩
        refine ar_aloadn (k := 9) rfl rfl ?_
        refine br_getR (k := 10) rfl (hS.k (by decide)) flP_18_6 (by decide) rfl hq ?_
        refine br_getR (k := 11) rfl (hS.k (by decide)) flP_108_10 (by decide) rfl (hS.r rfl) ?_
        refine ar_iloadn (k := 12) rfl rfl ?_
        refine br_aald16 (k := 13) rfl (hS.k (by decide)) (by omega) (by omega) (by decide) hQa ?_
        refine ar_astore (k := 14) (l2 := [(4, _), (3, _), (2, _), (0, _), (1, _)]) rfl (by decide) rfl ?_
        refine ar_aload (k := 15) rfl rfl ?_
        refine ar_ifnonnull (k := 16) rfl (fun a16 c16 => ?_) (fun c16 => ?_)
        · refine ar_aload (k := 19) rfl rfl ?_
          refine ar_aloadn (k := 20) rfl rfl ?_
          refine ar_iloadn (k := 21) rfl rfl ?_
          refine ar_callU (k := 22) (as := [_, _]) rfl lvP_150_A hKa rfl (c_H_worksAt_A hS hq hN hR hV hB hKa ha1 ha2 (by omega) u1 hq7) rfl (by decide) (by decide) tw_m0 (Nat.le_of_ble_eq_true rfl) (fun r22 h22 p22 => ?_)
          obtain ⟨rfl, rfl⟩ := p22
          have hb9 := rAt_bd (s := s) (p := (j : Int)) (u := u) h1.1
          have hn5 : n5' (rAt s (j : Int) u) = if rAt s (j : Int) u = -1 then -5 else rAt s (j : Int) u := rfl
          refine ar_istore (k := 23) (l2 := [(5, _), (4, _), (3, _), (2, _), (0, _), (1, _)]) rfl (by decide) rfl ?_
          refine ar_iload (k := 24) rfl rfl ?_
          refine ar_if_lt (k := 25) rfl (by omega) (fun c25 => ?_) (fun c25 => ?_)
          · refine ar_iinc (k := 32) (l2 := [(3, _), (5, _), (4, _), (2, _), (0, _), (1, _)]) rfl (by decide) rfl rfl ?_
            refine ar_goto (k := 33) rfl ?_
            refine ar_sub (l2 := [(3, vi ((j + 1 : Nat) : Int)), (2, vi (bOr b ((fun p : Nat => if rAt s (p : Int) u = -1 then 0 else bShl 1 (rAt s (p : Int) u)) j))), (0, vr (some 40)), (1, vi u)]) (tw_s (tw_e 0 rfl (by omega)) (tw_s (tw_e 3 rfl (by show _ = bOr b (if rAt s (j : Int) u = -1 then 0 else bShl 1 (rAt s (j : Int) u)); first | (exfalso; omega) | (rw [if_neg (by omega), show n5' (rAt s (j : Int) u) = rAt s (j : Int) u by omega]; done) | (rw [if_pos (by omega), bOr_0 hb8]))) (tw_s (tw_g 4 rfl) (tw_s (tw_g 5 rfl) tw_s0)))) ?_
            exact ih (j + 1) _ (by omega) (tr_bOr _ _)
          · refine ar_iloadn (k := 26) rfl rfl ?_
            refine ar_iconst (k := 27) rfl ?_
            refine ar_iload (k := 28) rfl rfl ?_
            refine ar_ishl (k := 29) rfl ?_
            refine ar_ior (k := 30) rfl ?_
            refine ar_istoren (k := 31) (l2 := [(2, _), (5, _), (4, _), (3, _), (0, _), (1, _)]) rfl (by decide) rfl ?_
            refine ar_iinc (k := 32) (l2 := [(3, _), (2, _), (5, _), (4, _), (0, _), (1, _)]) rfl (by decide) rfl rfl ?_
            refine ar_goto (k := 33) rfl ?_
            refine ar_sub (l2 := [(3, vi ((j + 1 : Nat) : Int)), (2, vi (bOr b ((fun p : Nat => if rAt s (p : Int) u = -1 then 0 else bShl 1 (rAt s (p : Int) u)) j))), (0, vr (some 40)), (1, vi u)]) (tw_s (tw_e 0 rfl (by omega)) (tw_s (tw_e 1 rfl (by show _ = bOr b (if rAt s (j : Int) u = -1 then 0 else bShl 1 (rAt s (j : Int) u)); first | (exfalso; omega) | (rw [if_neg (by omega), show n5' (rAt s (j : Int) u) = rAt s (j : Int) u by omega]; done) | (rw [if_pos (by omega), bOr_0 hb8]))) (tw_s (tw_g 4 rfl) (tw_s (tw_g 5 rfl) tw_s0)))) ?_
            exact ih (j + 1) _ (by omega) (tr_bOr _ _)
        · cases c16
      · have hKa : tK (K, I, Q, n) a (7, 4) := ⟨by show K a = _; rw [haK, hq7]; rfl, han⟩
        refine ar_aloadn (k := 9) rfl rfl ?_
        refine br_getR (k := 10) rfl (hS.k (by decide)) flP_18_6 (by decide) rfl hq ?_
        refine br_getR (k := 11) rfl (hS.k (by decide)) flP_108_10 (by decide) rfl (hS.r rfl) ?_
        refine ar_iloadn (k := 12) rfl rfl ?_
        refine br_aald16 (k := 13) rfl (hS.k (by decide)) (by omega) (by omega) (by decide) hQa ?_
        refine ar_astore (k := 14) (l2 := [(4, _), (3, _), (2, _), (0, _), (1, _)]) rfl (by decide) rfl ?_
        refine ar_aload (k := 15) rfl rfl ?_
        refine ar_ifnonnull (k := 16) rfl (fun a16 c16 => ?_) (fun c16 => ?_)
        · refine ar_aload (k := 19) rfl rfl ?_
          refine ar_aloadn (k := 20) rfl rfl ?_
          refine ar_iloadn (k := 21) rfl rfl ?_
          refine ar_callU (k := 22) (as := [_, _]) rfl lvP_150_D hKa rfl (c_H_worksAt_D hS hq hN hR hV hB hKa ha1 ha2 (by omega) u1 hq7) rfl (by decide) (by decide) tw_m0 (Nat.le_of_ble_eq_true rfl) (fun r22 h22 p22 => ?_)
          obtain ⟨rfl, rfl⟩ := p22
          have hb9 := rAt_bd (s := s) (p := (j : Int)) (u := u) h1.1
          have hn5 : n5' (rAt s (j : Int) u) = if rAt s (j : Int) u = -1 then -5 else rAt s (j : Int) u := rfl
          refine ar_istore (k := 23) (l2 := [(5, _), (4, _), (3, _), (2, _), (0, _), (1, _)]) rfl (by decide) rfl ?_
          refine ar_iload (k := 24) rfl rfl ?_
          refine ar_if_lt (k := 25) rfl (by omega) (fun c25 => ?_) (fun c25 => ?_)
          · refine ar_iinc (k := 32) (l2 := [(3, _), (5, _), (4, _), (2, _), (0, _), (1, _)]) rfl (by decide) rfl rfl ?_
            refine ar_goto (k := 33) rfl ?_
            refine ar_sub (l2 := [(3, vi ((j + 1 : Nat) : Int)), (2, vi (bOr b ((fun p : Nat => if rAt s (p : Int) u = -1 then 0 else bShl 1 (rAt s (p : Int) u)) j))), (0, vr (some 40)), (1, vi u)]) (tw_s (tw_e 0 rfl (by omega)) (tw_s (tw_e 3 rfl (by show _ = bOr b (if rAt s (j : Int) u = -1 then 0 else bShl 1 (rAt s (j : Int) u)); first | (exfalso; omega) | (rw [if_neg (by omega), show n5' (rAt s (j : Int) u) = rAt s (j : Int) u by omega]; done) | (rw [if_pos (by omega), bOr_0 hb8]))) (tw_s (tw_g 4 rfl) (tw_s (tw_g 5 rfl) tw_s0)))) ?_
            exact ih (j + 1) _ (by omega) (tr_bOr _ _)
          · refine ar_iloadn (k := 26) rfl rfl ?_
            refine ar_iconst (k := 27) rfl ?_
            refine ar_iload (k := 28) rfl rfl ?_
            refine ar_ishl (k := 29) rfl ?_
            refine ar_ior (k := 30) rfl ?_
            refine ar_istoren (k := 31) (l2 := [(2, _), (5, _), (4, _), (3, _), (0, _), (1, _)]) rfl (by decide) rfl ?_
            refine ar_iinc (k := 32) (l2 := [(3, _), (2, _), (5, _), (4, _), (0, _), (1, _)]) rfl (by decide) rfl rfl ?_
            refine ar_goto (k := 33) rfl ?_
            refine ar_sub (l2 := [(3, vi ((j + 1 : Nat) : Int)), (2, vi (bOr b ((fun p : Nat => if rAt s (p : Int) u = -1 then 0 else bShl 1 (rAt s (p : Int) u)) j))), (0, vr (some 40)), (1, vi u)]) (tw_s (tw_e 0 rfl (by omega)) (tw_s (tw_e 1 rfl (by show _ = bOr b (if rAt s (j : Int) u = -1 then 0 else bShl 1 (rAt s (j : Int) u)); first | (exfalso; omega) | (rw [if_neg (by omega), show n5' (rAt s (j : Int) u) = rAt s (j : Int) u by omega]; done) | (rw [if_pos (by omega), bOr_0 hb8]))) (tw_s (tw_g 4 rfl) (tw_s (tw_g 5 rfl) tw_s0)))) ?_
            exact ih (j + 1) _ (by omega) (tr_bOr _ _)
        · cases c16
theorem c_P_workedTools {u : Int} (hS : tSt (K, I, Q, n)) (hq : Q 40 1 = some 1) (hN : WN 1 I s) (hR : RInv s) (hV : RVal s) (hB : PB I s) (hP : WP 1 K I Q n s) (u1 : 0 ≤ u ∧ u ≤ 23) : tw_F l G 5 0 0 mP_workedTools [vr (some 40), vi u] (K, I, Q, n) (some (vi (rWork s u))) (K, I, Q, n) := by
  obtain ⟨h0, h1, h2, h3, h4, h5, h6, hp, hrw, ht, hr, hb, htp, hv⟩ := id hR
  refine tw_intro okP_workedTools (Nat.le_of_ble_eq_true rfl) ?_
  refine ar_iconst (k := 0) rfl ?_
  refine ar_istoren (k := 1) (l2 := [(2, _), (0, _), (1, _)]) rfl (by decide) rfl ?_
  refine ar_iconst (k := 2) rfl ?_
  refine ar_istoren (k := 3) (l2 := [(3, _), (2, _), (0, _), (1, _)]) rfl (by decide) rfl ?_
  refine ar_sub (l2 := [(3, vi ((0 : Nat) : Int)), (2, vi 0), (0, vr (some 40)), (1, vi u)]) (tw_s (tw_e 0 rfl (by rfl)) (tw_s (tw_g 1 rfl) (tw_s (tw_g 2 rfl) (tw_s (tw_g 3 rfl) tw_s0)))) ?_
  exact l_P_workedTools hS hq hN hR hV hB hP u1 (s 0).toNat 0 0 (by omega) (by decide)
theorem c_P_goes {t w : Int} (hS : tSt (K, I, Q, n)) (hq : Q 40 1 = some 1) (hN : WN 1 I s) (hR : RInv s) (t1 : 0 ≤ t ∧ t < s 1) : tw_F l G 1 0 0 mP_goes [vr (some 40), vi t, vi w] (K, I, Q, n) (some (vi (if rGoP s t w then 1 else 0))) (K, I, Q, n) := by
  obtain ⟨h0, h1, h2, h3, h4, h5, h6, hp, hrw, ht, hr, hb, htp, hv⟩ := id hR
  refine tw_intro okP_goes (Nat.le_of_ble_eq_true rfl) ?_
  refine ar_aloadn (k := 0) rfl rfl ?_
  refine br_getR (k := 1) rfl (hS.k (by decide)) flP_18_6 (by decide) rfl hq ?_
  refine br_getR (k := 2) rfl (hS.k (by decide)) flP_98_10 (by decide) rfl (hS.r rfl) ?_
  refine ar_iloadn (k := 3) rfl rfl ?_
  refine br_iald (k := 4) rfl (hS.k (by decide)) (by omega) (by omega) (by decide) ?_
  refine tw_top (WN.tw hN (by omega) (by omega)) ?_
  refine ar_istoren (k := 5) (l2 := [(3, _), (0, _), (1, _), (2, _)]) rfl (by decide) rfl ?_
  have hw := ht t (by omega) (by omega)
  refine ar_iloadn (k := 6) rfl rfl ?_
  refine ar_if_ge (k := 7) rfl (by omega) (fun c7 => ?_) (fun c7 => ?_)
  · have hw2 := ht (s (94 + t)) (by omega) (by omega)
    have e5 : (if s (94 + t) = -1 then -5 else s (94 + t)) = s (94 + t) := if_neg (by omega)
    have hgo : bAnd (bAnd w (bXor (I 1 11) (-1))) (bOr (bShl 1 t) (bShl 1 (s (94 + t)))) = bOr (bShl 1 t) (bShl 1 (s (94 + t))) ↔ rGoP s t w := by
      have b1 := hN.br (t := t) (by omega) (by omega)
      have b2 := hN.br (t := s (94 + t)) (by omega) (by omega)
      obtain ⟨a, rfl⟩ : ∃ a : Nat, t = (a : Int) := ⟨t.toNat, by omega⟩
      obtain ⟨v, ev⟩ : ∃ v : Nat, s (94 + (a : Int)) = (v : Int) := ⟨(s (94 + (a : Int))).toNat, by omega⟩
      unfold rGoP
      rw [ev] at b2 hw2 ⊢
      rw [Int.toNat_natCast] at b1 b2
      rw [go_eq (by omega) (by omega), ib_and, ib_and, ib_neg (by omega), ib_neg (by omega), b1, b2, ib_bit1 w (by omega), ib_bit1 w (by omega)]
      simp only [Bool.and_eq_true, Bool.not_eq_true', decide_eq_false_iff_not]
      constructor
      · rintro ⟨⟨x1, x2⟩, x3, x4⟩; exact ⟨by omega, x1, x3, by omega, by omega⟩
      · rintro ⟨-, x1, x3, x2, x4⟩; exact ⟨⟨x1, by omega⟩, x3, by omega⟩
    have tg1 : tr (bAnd (bAnd w (bXor (I 1 11) (-1))) (bOr (bShl 1 t) (bShl 1 (s (94 + t))))) := tr_toInt _
    have tg2 : tr (bOr (bShl 1 t) (bShl 1 (s (94 + t)))) := tr_toInt _
    refine ar_iconst (k := 10) rfl ?_
    refine ar_iloadn (k := 11) rfl rfl ?_
    refine ar_ishl (k := 12) rfl ?_
    refine ar_iconst (k := 13) rfl ?_
    refine ar_iloadn (k := 14) rfl rfl ?_
    refine tw_top (y := s (94 + t)) (by exact e5) ?_
    refine ar_ishl (k := 15) rfl ?_
    refine ar_ior (k := 16) rfl ?_
    refine ar_istore (k := 17) (l2 := [(4, _), (3, _), (0, _), (1, _), (2, _)]) rfl (by decide) rfl ?_
    refine ar_iloadn (k := 18) rfl rfl ?_
    refine ar_aloadn (k := 19) rfl rfl ?_
    refine br_getR (k := 20) rfl (hS.k (by decide)) flP_18_6 (by decide) rfl hq ?_
    refine br_getIz (k := 21) (z := 11) rfl (hS.k (by decide)) flP_117_10 (by decide) rfl rfl ?_
    refine ar_iconst (k := 22) rfl ?_
    refine ar_ixor (k := 23) rfl ?_
    refine ar_iand (k := 24) rfl ?_
    refine ar_iload (k := 25) rfl rfl ?_
    refine ar_iand (k := 26) rfl ?_
    refine ar_iload (k := 27) rfl rfl ?_
    refine ar_icmp_ne (k := 28) rfl (by omega) (by omega) (fun c28 => ?_) (fun c28 => ?_)
    · refine ar_iconst (k := 31) rfl ?_
      refine ar_zret (k := 32) rfl rfl (by omega) rfl (Nat.le_refl _) ?_
      first
        | (exfalso; omega)
        | exact ⟨congrArg (fun z => some (vi z)) (by rw [if_neg (fun z => by have := z.1; omega)]), rfl⟩
        | exact ⟨congrArg (fun z => some (vi z)) (by rw [if_pos (hgo.mp (by omega))]), rfl⟩
        | exact ⟨congrArg (fun z => some (vi z)) (by rw [if_neg (fun z => by have := hgo.mpr z; omega)]), rfl⟩
    · refine ar_iconst (k := 29) rfl ?_
      refine ar_goto (k := 30) rfl ?_
      refine ar_zret (k := 32) rfl rfl (by omega) rfl (Nat.le_refl _) ?_
      first
        | (exfalso; omega)
        | exact ⟨congrArg (fun z => some (vi z)) (by rw [if_neg (fun z => by have := z.1; omega)]), rfl⟩
        | exact ⟨congrArg (fun z => some (vi z)) (by rw [if_pos (hgo.mp (by omega))]), rfl⟩
        | exact ⟨congrArg (fun z => some (vi z)) (by rw [if_neg (fun z => by have := hgo.mpr z; omega)]), rfl⟩
  · refine ar_iconst (k := 8) rfl ?_
    refine ar_zret (k := 9) rfl rfl (by omega) rfl (Nat.le_refl _) ?_
    first
      | (exfalso; omega)
      | exact ⟨congrArg (fun z => some (vi z)) (by rw [if_neg (fun z => by have := z.1; omega)]), rfl⟩
      | exact ⟨congrArg (fun z => some (vi z)) (by rw [if_pos (hgo.mp (by omega))]), rfl⟩
      | exact ⟨congrArg (fun z => some (vi z)) (by rw [if_neg (fun z => by have := hgo.mpr z; omega)]), rfl⟩
theorem l_P_goingPairs {w : Int} (hS : tSt (K, I, Q, n)) (hq : Q 40 1 = some 1) (hN : WN 1 I s) (hR : RInv s) (hV : RVal s) (hB : PB I s) (hP : WP 1 K I Q n s) (hPR : PR I s) : ∀ (k : Nat) (j : Nat) (b : Int), j + k = (prs s).length → tr b → tw_AW l G mP_goingPairs 2 0 0 n 0 (tw_fn (some (vi (orP (fun t : Nat => if rGoP s (t : Int) w then bShl 1 (t : Int) else 0) ((prs s).drop j) b))) (K, I, Q, n)) 4 [(3, vi (j : Int)), (2, vi b), (0, vr (some 40)), (1, vi w)] [] (K, I, Q, n) := by
  obtain ⟨h0, h1, h2, h3, h4, h5, h6, hp, hrw, ht, hr, hb, htp, hv⟩ := id hR
  obtain ⟨hc0, hc5, hcp⟩ := id hPR
  intro k
  induction k with
  | zero =>
    intro j b hj hb8
    refine ar_iloadn (k := 4) rfl rfl ?_
    refine ar_aloadn (k := 5) rfl rfl ?_
    refine br_getIz (k := 6) (z := 11) rfl (hS.k (by decide)) flP_54_6 (by decide) rfl rfl ?_
    refine tw_top hc0 ?_
    refine ar_icmp_ge (k := 7) rfl (by omega) (by omega) (fun c7 => ?_) (fun c7 => ?_)
    · refine ar_iloadn (k := 27) rfl rfl ?_
      refine ar_iret (k := 28) rfl rfl rfl (Nat.le_refl _) ?_
      rw [List.drop_eq_nil_of_le (by omega)]
      exact ⟨rfl, rfl⟩
    · exfalso; omega
  | succ k ih =>
    intro j b hj hb8
    refine ar_iloadn (k := 4) rfl rfl ?_
    refine ar_aloadn (k := 5) rfl rfl ?_
    refine br_getIz (k := 6) (z := 11) rfl (hS.k (by decide)) flP_54_6 (by decide) rfl rfl ?_
    refine tw_top hc0 ?_
    refine ar_icmp_ge (k := 7) rfl (by omega) (by omega) (fun c7 => ?_) (fun c7 => ?_)
    · exfalso; omega
    · have hg5 := prs_get (s := s) h1.1 (i := j) (by omega)
      refine ar_aloadn (k := 8) rfl rfl ?_
      refine ar_aloadn (k := 9) rfl rfl ?_
      refine br_getR (k := 10) rfl (hS.k (by decide)) flP_45_6 (by decide) rfl (hS.r rfl) ?_
      refine ar_iloadn (k := 11) rfl rfl ?_
      refine br_iald (k := 12) rfl (hS.k (by decide)) (by omega) (by omega) (by decide) ?_
      refine tw_top (hcp j (by omega)) ?_
      refine ar_iloadn (k := 13) rfl rfl ?_
      refine ar_callV (k := 14) (as := [_, _]) rfl lvP_154 (hS.k (by decide)) rfl (c_P_goes hS hq hN hR (by omega)) rfl (by decide) (by decide) tw_m0 (Nat.le_of_ble_eq_true rfl) (fun r14 h14 p14 => ?_)
      obtain ⟨rfl, rfl⟩ := p14
      refine ar_if_eq (k := 15) rfl (by omega) (fun c15 => ?_) (fun c15 => ?_)
      · refine ar_iinc (k := 25) (l2 := [(3, _), (2, _), (0, _), (1, _)]) rfl (by decide) rfl rfl ?_
        refine ar_goto (k := 26) rfl ?_
        refine ar_sub (l2 := [(3, vi ((j + 1 : Nat) : Int)), (2, vi (bOr b ((fun t : Nat => if rGoP s (t : Int) w then bShl 1 (t : Int) else 0) ((prs s).getD j 0)))), (0, vr (some 40)), (1, vi w)]) (tw_s (tw_e 0 rfl (by omega)) (tw_s (tw_e 1 rfl (by show _ = bOr b (if rGoP s (((prs s).getD j 0 : Nat) : Int) w then bShl 1 (((prs s).getD j 0 : Nat) : Int) else 0); by_cases g9 : rGoP s (((prs s).getD j 0 : Nat) : Int) w <;> first | (rw [if_pos g9]; done) | (rw [if_neg g9, bOr_0 hb8]; done) | (exfalso; rw [if_pos g9] at c15; omega) | (exfalso; rw [if_neg g9] at c15; omega))) (tw_s (tw_g 2 rfl) (tw_s (tw_g 3 rfl) tw_s0)))) ?_
        rw [prs_drop (by omega), orP]
        exact ih (j + 1) _ (by omega) (tr_bOr _ _)
      · refine ar_iloadn (k := 16) rfl rfl ?_
        refine ar_iconst (k := 17) rfl ?_
        refine ar_aloadn (k := 18) rfl rfl ?_
        refine br_getR (k := 19) rfl (hS.k (by decide)) flP_45_6 (by decide) rfl (hS.r rfl) ?_
        refine ar_iloadn (k := 20) rfl rfl ?_
        refine br_iald (k := 21) rfl (hS.k (by decide)) (by omega) (by omega) (by decide) ?_
        refine tw_top (hcp j (by omega)) ?_
        refine ar_ishl (k := 22) rfl ?_
        refine ar_ior (k := 23) rfl ?_
        refine ar_istoren (k := 24) (l2 := [(2, _), (3, _), (0, _), (1, _)]) rfl (by decide) rfl ?_
        refine ar_iinc (k := 25) (l2 := [(3, _), (2, _), (0, _), (1, _)]) rfl (by decide) rfl rfl ?_
        refine ar_goto (k := 26) rfl ?_
        refine ar_sub (l2 := [(3, vi ((j + 1 : Nat) : Int)), (2, vi (bOr b ((fun t : Nat => if rGoP s (t : Int) w then bShl 1 (t : Int) else 0) ((prs s).getD j 0)))), (0, vr (some 40)), (1, vi w)]) (tw_s (tw_e 0 rfl (by omega)) (tw_s (tw_e 1 rfl (by show _ = bOr b (if rGoP s (((prs s).getD j 0 : Nat) : Int) w then bShl 1 (((prs s).getD j 0 : Nat) : Int) else 0); by_cases g9 : rGoP s (((prs s).getD j 0 : Nat) : Int) w <;> first | (rw [if_pos g9]; done) | (rw [if_neg g9, bOr_0 hb8]; done) | (exfalso; rw [if_pos g9] at c15; omega) | (exfalso; rw [if_neg g9] at c15; omega))) (tw_s (tw_g 2 rfl) (tw_s (tw_g 3 rfl) tw_s0)))) ?_
        rw [prs_drop (by omega), orP]
        exact ih (j + 1) _ (by omega) (tr_bOr _ _)
theorem c_P_goingPairs {u : Int} (hS : tSt (K, I, Q, n)) (hq : Q 40 1 = some 1) (hN : WN 1 I s) (hR : RInv s) (hV : RVal s) (hB : PB I s) (hP : WP 1 K I Q n s) (hPR : PR I s) : tw_F l G 2 0 0 mP_goingPairs [vr (some 40), vi (rWork s u)] (K, I, Q, n) (some (vi (rGoing s u))) (K, I, Q, n) := by
  obtain ⟨h0, h1, h2, h3, h4, h5, h6, hp, hrw, ht, hr, hb, htp, hv⟩ := id hR
  refine tw_intro okP_goingPairs (Nat.le_of_ble_eq_true rfl) ?_
  refine ar_iconst (k := 0) rfl ?_
  refine ar_istoren (k := 1) (l2 := [(2, _), (0, _), (1, _)]) rfl (by decide) rfl ?_
  refine ar_iconst (k := 2) rfl ?_
  refine ar_istoren (k := 3) (l2 := [(3, _), (2, _), (0, _), (1, _)]) rfl (by decide) rfl ?_
  refine ar_sub (l2 := [(3, vi ((0 : Nat) : Int)), (2, vi 0), (0, vr (some 40)), (1, vi (rWork s u))]) (tw_s (tw_e 0 rfl (by rfl)) (tw_s (tw_g 1 rfl) (tw_s (tw_g 2 rfl) (tw_s (tw_g 3 rfl) tw_s0)))) ?_
  have z := l_P_goingPairs (l := l) (G := G) (w := rWork s u) hS hq hN hR hV hB hP hPR (prs s).length 0 0 (by omega) (by decide)
  have e9 : rGoing s u = orP (fun t : Nat => if rGoP s (t : Int) (rWork s u) then bShl 1 (t : Int) else 0) (prs s) 0 := orV_prs (c := fun t => rGoP s (t : Int) (rWork s u)) (x := fun t => bShl 1 (t : Int)) (s 1).toNat 0 0 (by decide)
  rw [e9]
  exact z
theorem l_P_waitingTools {w : Int} (hS : tSt (K, I, Q, n)) (hq : Q 40 1 = some 1) (hN : WN 1 I s) (hR : RInv s) (hV : RVal s) (hB : PB I s) (hP : WP 1 K I Q n s) : ∀ (k : Nat) (j : Nat) (b : Int), j + k = (s 1).toNat → tr b → tw_AW l G mP_waitingTools 2 0 0 n 0 ((fun r h' => ∃ x, r = some (vi x) ∧ h' = (K, I, Q, n) ∧ tr x ∧ ∀ i, i < 32 → (ib x i = true ↔ (ib b i = true ∧ ¬ (j ≤ i ∧ (i : Int) < s 1 ∧ rGoP s (i : Int) w))))) 4 [(3, vi (j : Int)), (2, vi b), (0, vr (some 40)), (1, vi w)] [] (K, I, Q, n) := by
  obtain ⟨h0, h1, h2, h3, h4, h5, h6, hp, hrw, ht, hr, hb, htp, hv⟩ := id hR
  intro k
  induction k with
  | zero =>
    intro j b hj hb8
    refine ar_iloadn (k := 4) rfl rfl ?_
    refine ar_aloadn (k := 5) rfl rfl ?_
    refine br_getR (k := 6) rfl (hS.k (by decide)) flP_18_6 (by decide) rfl hq ?_
    refine br_getIz (k := 7) (z := 12) rfl (hS.k (by decide)) flP_92_10 (by decide) rfl rfl ?_
    refine tw_top (WN.tc hN) ?_
    refine ar_icmp_ge (k := 8) rfl (by omega) (by omega) (fun c8 => ?_) (fun c8 => ?_)
    · refine ar_iloadn (k := 24) rfl rfl ?_
      refine ar_iret (k := 25) rfl rfl rfl (Nat.le_refl _) ?_
      exact ⟨b, rfl, rfl, hb8, fun i hi => ⟨fun z => ⟨z, fun y => by omega⟩, fun z => z.1⟩⟩
    · exfalso; omega
  | succ k ih =>
    intro j b hj hb8
    refine ar_iloadn (k := 4) rfl rfl ?_
    refine ar_aloadn (k := 5) rfl rfl ?_
    refine br_getR (k := 6) rfl (hS.k (by decide)) flP_18_6 (by decide) rfl hq ?_
    refine br_getIz (k := 7) (z := 12) rfl (hS.k (by decide)) flP_92_10 (by decide) rfl rfl ?_
    refine tw_top (WN.tc hN) ?_
    refine ar_icmp_ge (k := 8) rfl (by omega) (by omega) (fun c8 => ?_) (fun c8 => ?_)
    · exfalso; omega
    · refine ar_aloadn (k := 9) rfl rfl ?_
      refine ar_iloadn (k := 10) rfl rfl ?_
      refine ar_iloadn (k := 11) rfl rfl ?_
      refine ar_callV (k := 12) (as := [_, _]) rfl lvP_154 (hS.k (by decide)) rfl (c_P_goes hS hq hN hR (by omega)) rfl (by decide) (by decide) tw_m0 (Nat.le_of_ble_eq_true rfl) (fun r12 h12 p12 => ?_)
      obtain ⟨rfl, rfl⟩ := p12
      refine ar_if_eq (k := 13) rfl (by omega) (fun c13 => ?_) (fun c13 => ?_)
      · refine ar_iinc (k := 22) (l2 := [(3, _), (2, _), (0, _), (1, _)]) rfl (by decide) rfl rfl ?_
        refine ar_goto (k := 23) rfl ?_
        refine ar_sub (l2 := [(3, vi ((j + 1 : Nat) : Int)), (2, vi b), (0, vr (some 40)), (1, vi w)]) (tw_s (tw_e 0 rfl (by omega)) (tw_s (tw_g 1 rfl) (tw_s (tw_g 2 rfl) (tw_s (tw_g 3 rfl) tw_s0)))) ?_
        refine tw_pst ?_ (ih (j + 1) b (by omega) hb8)
        intro r h' ⟨x, e1, e2, e3, e4⟩
        refine ⟨x, e1, e2, e3, fun i hi => ?_⟩
        have g9 : ¬ rGoP s (j : Int) w := fun y => by first | omega | (rw [if_pos y] at c13; omega)
        rw [e4 i hi]
        constructor
        · rintro ⟨y1, y3⟩; exact ⟨y1, fun y => by rcases (show j = i ∨ j + 1 ≤ i by omega) with z | z; (subst z; exact g9 y.2.2); exact y3 ⟨z, y.2⟩⟩
        · rintro ⟨y1, y2⟩; exact ⟨y1, fun y => y2 ⟨by omega, y.2⟩⟩
      · skip
        refine ar_iloadn (k := 14) rfl rfl ?_
        refine ar_iconst (k := 15) rfl ?_
        refine ar_iloadn (k := 16) rfl rfl ?_
        refine ar_ishl (k := 17) rfl ?_
        refine ar_iconst (k := 18) rfl ?_
        refine ar_ixor (k := 19) rfl ?_
        refine ar_iand (k := 20) rfl ?_
        refine ar_istoren (k := 21) (l2 := [(2, _), (3, _), (0, _), (1, _)]) rfl (by decide) rfl ?_
        refine ar_iinc (k := 22) (l2 := [(3, _), (2, _), (0, _), (1, _)]) rfl (by decide) rfl rfl ?_
        refine ar_goto (k := 23) rfl ?_
        refine ar_sub (l2 := [(3, vi ((j + 1 : Nat) : Int)), (2, vi (bAnd b (bXor (bShl 1 (j : Int)) (-1)))), (0, vr (some 40)), (1, vi w)]) (tw_s (tw_e 0 rfl (by omega)) (tw_s (tw_g 1 rfl) (tw_s (tw_g 2 rfl) (tw_s (tw_g 3 rfl) tw_s0)))) ?_
        refine tw_pst ?_ (ih (j + 1) _ (by omega) (tr_toInt _))
        intro r h' ⟨x, e1, e2, e3, e4⟩
        refine ⟨x, e1, e2, e3, fun i hi => ?_⟩
        rw [e4 i hi, ib_clr (by omega) hi, Bool.and_eq_true]
        simp only [Bool.not_eq_true', decide_eq_false_iff_not]
        have g9 : rGoP s (j : Int) w := by by_cases y : rGoP s (j : Int) w; exact y; exfalso; omega
        constructor
        · rintro ⟨⟨y1, y2⟩, y3⟩; exact ⟨y1, fun y => y3 ⟨by omega, y.2⟩⟩
        · rintro ⟨y1, y2⟩
          have y4 : ¬ j = i := fun y => by subst y; exact y2 ⟨by omega, by omega, g9⟩
          exact ⟨⟨y1, y4⟩, fun y => y2 ⟨by omega, y.2⟩⟩
theorem c_P_waitingTools {u : Int} (hS : tSt (K, I, Q, n)) (hq : Q 40 1 = some 1) (hN : WN 1 I s) (hR : RInv s) (hV : RVal s) (hB : PB I s) (hP : WP 1 K I Q n s) : tw_F l G 2 0 0 mP_waitingTools [vr (some 40), vi (rWork s u)] (K, I, Q, n) (some (vi (rWait s u))) (K, I, Q, n) := by
  obtain ⟨h0, h1, h2, h3, h4, h5, h6, hp, hrw, ht, hr, hb, htp, hv⟩ := id hR
  refine tw_intro okP_waitingTools (Nat.le_of_ble_eq_true rfl) ?_
  refine ar_iloadn (k := 0) rfl rfl ?_
  refine ar_istoren (k := 1) (l2 := [(2, _), (0, _), (1, _)]) rfl (by decide) rfl ?_
  refine ar_iconst (k := 2) rfl ?_
  refine ar_istoren (k := 3) (l2 := [(3, _), (2, _), (0, _), (1, _)]) rfl (by decide) rfl ?_
  refine ar_sub (l2 := [(3, vi ((0 : Nat) : Int)), (2, vi (rWork s u)), (0, vr (some 40)), (1, vi (rWork s u))]) (tw_s (tw_e 0 rfl (by rfl)) (tw_s (tw_g 1 rfl) (tw_s (tw_g 2 rfl) (tw_s (tw_g 3 rfl) tw_s0)))) ?_
  refine tw_pst ?_ (l_P_waitingTools hS hq hN hR hV hB hP (s 1).toNat 0 (rWork s u) (by omega) (orV_tr _ _ _ (by decide)))
  intro r h' ⟨x, e1, e2, e3, e4⟩
  refine ⟨?_, e2⟩
  rw [e1]
  congr 2
  refine ib_ext e3 (orV_tr _ _ _ (by decide)) (fun i hi => ?_)
  rw [Bool.eq_iff_iff, e4 i hi, rWait, orV_any, ib_0]
  constructor
  · rintro ⟨y1, y2⟩
    have y3 : (i : Int) < s 1 := by
      by_cases z : (i : Int) < s 1
      · exact z
      · have := rWork_hi (u := u) h1 hi (by omega); rw [this] at y1; cases y1
    refine Or.inr ⟨i, by omega, by omega, ?_⟩
    rw [if_pos ⟨(ib_bit1 _ hi).mpr y1, fun z => y2 ⟨by omega, y3, z⟩⟩, ib_shl1 i hi i hi]
    simp
  · rintro (y | ⟨q, -, q2, y⟩)
    · cases y
    · by_cases z : bAnd (bShr (rWork s u) (q : Int)) 1 = 1 ∧ ¬ rGoP s (q : Int) (rWork s u)
      · rw [if_pos z, ib_shl1 q (by omega) i hi, decide_eq_true_eq] at y
        subst y
        exact ⟨(ib_bit1 _ hi).mp z.1, fun x => z.2 x.2.2⟩
      · rw [if_neg z, ib_0] at y; cases y
theorem l_P_goneHours {t : Int} (hS : tSt (K, I, Q, n)) (hq : Q 40 1 = some 1) (hN : WN 1 I s) (hR : RInv s) (hV : RVal s) (hB : PB I s) (hP : WP 1 K I Q n s) (t1 : 0 ≤ t ∧ t < s 1) : ∀ (k : Nat) (j : Nat) (b : Int), j + k = 24 → tr b → tw_AW l G mP_goneHours 6 0 0 n 0 (tw_fn (some (vi (orV (fun u : Nat => if rGoP s t (rWork s (u : Int)) then bShl 1 (u : Int) else 0) k j b))) (K, I, Q, n)) 4 [(3, vi (j : Int)), (2, vi b), (0, vr (some 40)), (1, vi t)] [] (K, I, Q, n) := by
  obtain ⟨h0, h1, h2, h3, h4, h5, h6, hp, hrw, ht, hr, hb, htp, hv⟩ := id hR
  intro k
  induction k with
  | zero =>
    intro j b hj hb8
    refine ar_iloadn (k := 4) rfl rfl ?_
    refine ar_bipush (k := 5) rfl (by decide) ?_
    refine ar_icmp_ge (k := 6) rfl (by omega) (by omega) (fun c6 => ?_) (fun c6 => ?_)
    · refine ar_iloadn (k := 22) rfl rfl ?_
      refine ar_iret (k := 23) rfl rfl rfl (Nat.le_refl _) ?_
      exact ⟨rfl, rfl⟩
    · exfalso; omega
  | succ k ih =>
    intro j b hj hb8
    refine ar_iloadn (k := 4) rfl rfl ?_
    refine ar_bipush (k := 5) rfl (by decide) ?_
    refine ar_icmp_ge (k := 6) rfl (by omega) (by omega) (fun c6 => ?_) (fun c6 => ?_)
    · exfalso; omega
    · refine ar_aloadn (k := 7) rfl rfl ?_
      refine ar_iloadn (k := 8) rfl rfl ?_
      refine ar_aloadn (k := 9) rfl rfl ?_
      refine ar_iloadn (k := 10) rfl rfl ?_
      refine ar_callV (k := 11) (as := [_]) rfl lvP_158 (hS.k (by decide)) rfl (c_P_workedTools hS hq hN hR hV hB hP (by omega)) rfl (by decide) (by decide) tw_m0 (Nat.le_of_ble_eq_true rfl) (fun r11 h11 p11 => ?_)
      obtain ⟨rfl, rfl⟩ := p11
      refine ar_callV (k := 12) (as := [_, _]) rfl lvP_154 (hS.k (by decide)) rfl (c_P_goes hS hq hN hR (by omega)) rfl (by decide) (by decide) tw_m0 (Nat.le_of_ble_eq_true rfl) (fun r12 h12 p12 => ?_)
      obtain ⟨rfl, rfl⟩ := p12
      refine ar_if_eq (k := 13) rfl (by omega) (fun c13 => ?_) (fun c13 => ?_)
      · refine ar_iinc (k := 20) (l2 := [(3, _), (2, _), (0, _), (1, _)]) rfl (by decide) rfl rfl ?_
        refine ar_goto (k := 21) rfl ?_
        refine ar_sub (l2 := [(3, vi ((j + 1 : Nat) : Int)), (2, vi (bOr b ((fun u : Nat => if rGoP s t (rWork s (u : Int)) then bShl 1 (u : Int) else 0) j))), (0, vr (some 40)), (1, vi t)]) (tw_s (tw_e 0 rfl (by omega)) (tw_s (tw_e 1 rfl (by show _ = bOr b (if rGoP s t (rWork s (j : Int)) then bShl 1 (j : Int) else 0); by_cases g9 : rGoP s t (rWork s (j : Int)) <;> first | (rw [if_pos g9]; done) | (rw [if_neg g9, bOr_0 hb8]; done) | (exfalso; rw [if_pos g9] at c13; omega) | (exfalso; rw [if_neg g9] at c13; omega))) (tw_s (tw_g 2 rfl) (tw_s (tw_g 3 rfl) tw_s0)))) ?_
        exact ih (j + 1) _ (by omega) (tr_bOr _ _)
      · refine ar_iloadn (k := 14) rfl rfl ?_
        refine ar_iconst (k := 15) rfl ?_
        refine ar_iloadn (k := 16) rfl rfl ?_
        refine ar_ishl (k := 17) rfl ?_
        refine ar_ior (k := 18) rfl ?_
        refine ar_istoren (k := 19) (l2 := [(2, _), (3, _), (0, _), (1, _)]) rfl (by decide) rfl ?_
        refine ar_iinc (k := 20) (l2 := [(3, _), (2, _), (0, _), (1, _)]) rfl (by decide) rfl rfl ?_
        refine ar_goto (k := 21) rfl ?_
        refine ar_sub (l2 := [(3, vi ((j + 1 : Nat) : Int)), (2, vi (bOr b ((fun u : Nat => if rGoP s t (rWork s (u : Int)) then bShl 1 (u : Int) else 0) j))), (0, vr (some 40)), (1, vi t)]) (tw_s (tw_e 0 rfl (by omega)) (tw_s (tw_e 1 rfl (by show _ = bOr b (if rGoP s t (rWork s (j : Int)) then bShl 1 (j : Int) else 0); by_cases g9 : rGoP s t (rWork s (j : Int)) <;> first | (rw [if_pos g9]; done) | (rw [if_neg g9, bOr_0 hb8]; done) | (exfalso; rw [if_pos g9] at c13; omega) | (exfalso; rw [if_neg g9] at c13; omega))) (tw_s (tw_g 2 rfl) (tw_s (tw_g 3 rfl) tw_s0)))) ?_
        exact ih (j + 1) _ (by omega) (tr_bOr _ _)
theorem c_P_goneHours {t : Int} (hS : tSt (K, I, Q, n)) (hq : Q 40 1 = some 1) (hN : WN 1 I s) (hR : RInv s) (hV : RVal s) (hB : PB I s) (hP : WP 1 K I Q n s) (t1 : 0 ≤ t ∧ t < s 1) : tw_F l G 6 0 0 mP_goneHours [vr (some 40), vi t] (K, I, Q, n) (some (vi (rGone s t))) (K, I, Q, n) := by
  obtain ⟨h0, h1, h2, h3, h4, h5, h6, hp, hrw, ht, hr, hb, htp, hv⟩ := id hR
  refine tw_intro okP_goneHours (Nat.le_of_ble_eq_true rfl) ?_
  refine ar_iconst (k := 0) rfl ?_
  refine ar_istoren (k := 1) (l2 := [(2, _), (0, _), (1, _)]) rfl (by decide) rfl ?_
  refine ar_iconst (k := 2) rfl ?_
  refine ar_istoren (k := 3) (l2 := [(3, _), (2, _), (0, _), (1, _)]) rfl (by decide) rfl ?_
  refine ar_sub (l2 := [(3, vi ((0 : Nat) : Int)), (2, vi 0), (0, vr (some 40)), (1, vi t)]) (tw_s (tw_e 0 rfl (by rfl)) (tw_s (tw_g 1 rfl) (tw_s (tw_g 2 rfl) (tw_s (tw_g 3 rfl) tw_s0)))) ?_
  exact l_P_goneHours hS hq hN hR hV hB hP t1 24 0 0 (by omega) (by decide)
theorem rWait_bd {u : Int} (h1 : 0 ≤ s 1 ∧ s 1 ≤ 10) : 0 ≤ rWait s u ∧ rWait s u < 1024 := by
  refine ib_lt (orV_tr _ _ _ (by decide)) (fun j j1 j2 => ?_)
  rw [Bool.eq_false_iff]
  intro g
  unfold rWait at g
  rw [orV_any, ib_0] at g
  rcases g with g | ⟨q, -, q2, g⟩
  · cases g
  · by_cases z : bAnd (bShr (rWork s u) (q : Int)) 1 = 1 ∧ ¬ rGoP s (q : Int) (rWork s u)
    · rw [if_pos z, ib_shl1 q (by omega) j j2, decide_eq_true_eq] at g; omega
    · rw [if_neg z, ib_0] at g; cases g
theorem l_P_waiting (hS : tSt (K, I, Q, n)) (hq : Q 40 1 = some 1) (hN : WN 1 I s) (hR : RInv s) (hV : RVal s) (hB : PB I s) (hP : WP 1 K I Q n s) : ∀ (k : Nat) (j : Nat) (b : Int), j + k = 24 → tw_AW l G mP_waiting 6 0 0 n 0 (tw_fn (some (vi (smV (fun u : Nat => rCnt (rWait s (u : Int))) k j b))) (K, I, Q, n)) 4 [(2, vi (j : Int)), (1, vi b), (0, vr (some 40))] [] (K, I, Q, n) := by
  obtain ⟨h0, h1, h2, h3, h4, h5, h6, hp, hrw, ht, hr, hb, htp, hv⟩ := id hR
  intro k
  induction k with
  | zero =>
    intro j b hj
    refine ar_iloadn (k := 4) rfl rfl ?_
    refine ar_bipush (k := 5) rfl (by decide) ?_
    refine ar_icmp_ge (k := 6) rfl (by omega) (by omega) (fun c6 => ?_) (fun c6 => ?_)
    · refine ar_iloadn (k := 18) rfl rfl ?_
      refine ar_iret (k := 19) rfl rfl rfl (Nat.le_refl _) ?_
      exact ⟨rfl, rfl⟩
    · exfalso; omega
  | succ k ih =>
    intro j b hj
    refine ar_iloadn (k := 4) rfl rfl ?_
    refine ar_bipush (k := 5) rfl (by decide) ?_
    refine ar_icmp_ge (k := 6) rfl (by omega) (by omega) (fun c6 => ?_) (fun c6 => ?_)
    · exfalso; omega
    · refine ar_iloadn (k := 7) rfl rfl ?_
      refine ar_aloadn (k := 8) rfl rfl ?_
      refine ar_aloadn (k := 9) rfl rfl ?_
      refine ar_iloadn (k := 10) rfl rfl ?_
      refine ar_callV (k := 11) (as := [_]) rfl lvP_158 (hS.k (by decide)) rfl (c_P_workedTools hS hq hN hR hV hB hP (by omega)) rfl (by decide) (by decide) tw_m0 (Nat.le_of_ble_eq_true rfl) (fun r11 h11 p11 => ?_)
      obtain ⟨rfl, rfl⟩ := p11
      refine ar_callV (k := 12) (as := [_]) rfl lvP_162 (hS.k (by decide)) rfl (c_P_waitingTools hS hq hN hR hV hB hP) rfl (by decide) (by decide) tw_m0 (Nat.le_of_ble_eq_true rfl) (fun r12 h12 p12 => ?_)
      obtain ⟨rfl, rfl⟩ := p12
      refine ar_callS (k := 13) (as := [_]) rfl lsP_165 c_J6_bitCount rfl (by decide) (by decide) tw_m0 (Nat.le_of_ble_eq_true rfl) (fun r13 h13 p13 => ?_)
      obtain ⟨rfl, rfl⟩ := p13
      refine tw_top (bcn_10 (rWait_bd h1)) ?_
      refine ar_iadd (k := 14) rfl ?_
      refine ar_istoren (k := 15) (l2 := [(1, _), (2, _), (0, _)]) rfl (by decide) rfl ?_
      refine ar_iinc (k := 16) (l2 := [(2, _), (1, _), (0, _)]) rfl (by decide) rfl rfl ?_
      refine ar_goto (k := 17) rfl ?_
      refine ar_sub (l2 := [(2, vi ((j + 1 : Nat) : Int)), (1, vi (b + rCnt (rWait s (j : Int)))), (0, vr (some 40))]) (tw_s (tw_e 0 rfl (by omega)) (tw_s (tw_g 1 rfl) (tw_s (tw_g 2 rfl) tw_s0))) ?_
      exact ih (j + 1) _ (by omega)
theorem c_P_waiting (hS : tSt (K, I, Q, n)) (hq : Q 40 1 = some 1) (hN : WN 1 I s) (hR : RInv s) (hV : RVal s) (hB : PB I s) (hP : WP 1 K I Q n s) : tw_F l G 6 0 0 mP_waiting [vr (some 40)] (K, I, Q, n) (some (vi (rAllWait s))) (K, I, Q, n) := by
  obtain ⟨h0, h1, h2, h3, h4, h5, h6, hp, hrw, ht, hr, hb, htp, hv⟩ := id hR
  refine tw_intro okP_waiting (Nat.le_of_ble_eq_true rfl) ?_
  refine ar_iconst (k := 0) rfl ?_
  refine ar_istoren (k := 1) (l2 := [(1, _), (0, _)]) rfl (by decide) rfl ?_
  refine ar_iconst (k := 2) rfl ?_
  refine ar_istoren (k := 3) (l2 := [(2, _), (1, _), (0, _)]) rfl (by decide) rfl ?_
  refine ar_sub (l2 := [(2, vi ((0 : Nat) : Int)), (1, vi 0), (0, vr (some 40))]) (tw_s (tw_e 0 rfl (by rfl)) (tw_s (tw_g 1 rfl) (tw_s (tw_g 2 rfl) tw_s0))) ?_
  exact l_P_waiting hS hq hN hR hV hB hP 24 0 0 (by omega)
theorem rHourW_prs {u a : Int} (h1 : 0 ≤ s 1 ∧ s 1 ≤ 10) : rHourW s u a = smP (fun t : Nat => if rGoP s (t : Int) (rWork s u) then rWorth s (t : Int) u else 0) (prs s) a := by
  have e9 := smV_prs (s := s) (c := fun t => rGoP s (t : Int) (rWork s u)) (x := fun t => rWorth s (t : Int) u) (s 1).toNat 0 a
  unfold rHourW prs
  rw [← e9]
  refine smV_cg (m := (s 1).toNat) (fun i hi => ?_) _ _ _ (by omega)
  have e8 : (bAnd (bShr (rGoing s u) (i : Int)) 1 = 1) ↔ (rGoP s (i : Int) (rWork s u) ∧ (i : Int) < s (94 + (i : Int))) := by
    rw [ib_bit1 _ (by omega), rGoing, orV_any, ib_0]
    constructor
    · rintro (y | ⟨q, -, q2, y⟩)
      · cases y
      · by_cases z : rGoP s (q : Int) (rWork s u) ∧ (q : Int) < s (94 + (q : Int))
        · rw [if_pos z, ib_shl1 q (by omega) i (by omega), decide_eq_true_eq] at y
          subst y; exact z
        · rw [if_neg z, ib_0] at y; cases y
    · intro z
      refine Or.inr ⟨i, by omega, by omega, ?_⟩
      rw [if_pos z, ib_shl1 i (by omega) i (by omega)]
      simp
  by_cases z : rGoP s (i : Int) (rWork s u) ∧ (i : Int) < s (94 + (i : Int))
  · rw [if_pos (e8.mpr z), if_pos z]
  · rw [if_neg (fun y => z (e8.mp y)), if_neg z]
theorem li_P_allWorth {u : Nat} {F : Int} {P : Option tV → tH → Prop} (hS : tSt (K, I, Q, n)) (hq : Q 40 1 = some 1) (hN : WN 1 I s) (hR : RInv s) (hV : RVal s) (hB : PB I s) (hP : WP 1 K I Q n s) (hPR : PR I s) (u1 : u < 24) (cont : ∀ (i : Int), tw_AW l G mP_allWorth 7 0 0 n 0 P 66 [(4, vi i), (1, vi F), (0, vr (some 40)), (2, vi (u : Int)), (3, vi (rWork s (u : Int)))] [] (K, I, Q, n)) : ∀ (k : Nat) (j : Nat) (b : Int), j + k = (prs s).length → smP (fun t : Nat => if rGoP s (t : Int) (rWork s (u : Int)) then rWorth s (t : Int) (u : Int) else 0) ((prs s).drop j) b = F → tw_AW l G mP_allWorth 7 0 0 n 0 (P) 19 [(4, vi (j : Int)), (1, vi b), (0, vr (some 40)), (2, vi (u : Int)), (3, vi (rWork s (u : Int)))] [] (K, I, Q, n) := by
  obtain ⟨h0, h1, h2, h3, h4, h5, h6, hp, hrw, ht, hr, hb, htp, hv⟩ := id hR
  obtain ⟨hc0, hc5, hcp⟩ := id hPR
  intro k
  induction k with
  | zero =>
    intro j b hj hF
    refine ar_iload (k := 13) rfl rfl ?_
    refine ar_aloadn (k := 14) rfl rfl ?_
    refine br_getIz (k := 15) (z := 11) rfl (hS.k (by decide)) flP_54_6 (by decide) rfl rfl ?_
    refine tw_top hc0 ?_
    refine ar_icmp_ge (k := 16) rfl (by omega) (by omega) (fun c16 => ?_) (fun c16 => ?_)
    · rw [List.drop_eq_nil_of_le (by omega), smP] at hF
      subst hF
      exact cont _
    · exfalso; omega
  | succ k ih =>
    intro j b hj hF
    refine ar_iload (k := 13) rfl rfl ?_
    refine ar_aloadn (k := 14) rfl rfl ?_
    refine br_getIz (k := 15) (z := 11) rfl (hS.k (by decide)) flP_54_6 (by decide) rfl rfl ?_
    refine tw_top hc0 ?_
    refine ar_icmp_ge (k := 16) rfl (by omega) (by omega) (fun c16 => ?_) (fun c16 => ?_)
    · exfalso; omega
    · have hg5 := prs_get (s := s) h1.1 (i := j) (by omega)
      refine ar_aloadn (k := 17) rfl rfl ?_
      refine ar_aloadn (k := 18) rfl rfl ?_
      refine br_getR (k := 19) rfl (hS.k (by decide)) flP_45_6 (by decide) rfl (hS.r rfl) ?_
      refine ar_iload (k := 20) rfl rfl ?_
      refine br_iald (k := 21) rfl (hS.k (by decide)) (by omega) (by omega) (by decide) ?_
      refine tw_top (hcp j (by omega)) ?_
      refine ar_iloadn (k := 22) rfl rfl ?_
      refine ar_callV (k := 23) (as := [_, _]) rfl lvP_154 (hS.k (by decide)) rfl (c_P_goes hS hq hN hR (by omega)) rfl (by decide) (by decide) tw_m0 (Nat.le_of_ble_eq_true rfl) (fun r23 h23 p23 => ?_)
      obtain ⟨rfl, rfl⟩ := p23
      refine ar_if_eq (k := 24) rfl (by omega) (fun c24 => ?_) (fun c24 => ?_)
      · refine ar_iinc (k := 37) (l2 := [(4, _), (1, _), (0, _), (2, _), (3, _)]) rfl (by decide) rfl rfl ?_
        refine ar_goto (k := 38) rfl ?_
        refine ar_sub (l2 := [(4, vi ((j + 1 : Nat) : Int)), (1, vi (b + (if rGoP s (((prs s).getD j 0 : Nat) : Int) (rWork s (u : Int)) then rWorth s (((prs s).getD j 0 : Nat) : Int) (u : Int) else 0))), (0, vr (some 40)), (2, vi (u : Int)), (3, vi (rWork s (u : Int)))]) (tw_s (tw_e 0 rfl (by omega)) (tw_s (tw_e 1 rfl (by by_cases g9 : rGoP s (((prs s).getD j 0 : Nat) : Int) (rWork s (u : Int)) <;> first | (rw [if_pos g9]; done) | (rw [if_neg g9, Int.add_zero]; done) | (exfalso; rw [if_pos g9] at c24; omega) | (exfalso; rw [if_neg g9] at c24; omega))) (tw_s (tw_g 2 rfl) (tw_s (tw_g 3 rfl) (tw_s (tw_g 4 rfl) tw_s0))))) ?_
        rw [prs_drop (by omega), smP] at hF
        exact ih (j + 1) _ (by omega) hF
      · refine ar_iloadn (k := 25) rfl rfl ?_
        refine ar_aloadn (k := 26) rfl rfl ?_
        refine br_getR (k := 27) rfl (hS.k (by decide)) flP_29_6 (by decide) rfl (hS.r rfl) ?_
        refine ar_aloadn (k := 28) rfl rfl ?_
        refine br_getR (k := 29) rfl (hS.k (by decide)) flP_45_6 (by decide) rfl (hS.r rfl) ?_
        refine ar_iload (k := 30) rfl rfl ?_
        refine br_iald (k := 31) rfl (hS.k (by decide)) (by omega) (by omega) (by decide) ?_
        refine tw_top (hcp j (by omega)) ?_
        refine br_aald18 (k := 32) rfl (hS.k (by decide)) (by omega) (by omega) (by decide) (hS.row (by omega) (by omega)).1 ?_
        refine ar_iloadn (k := 33) rfl rfl ?_
        refine br_iald (k := 34) rfl (hS.row (by omega) (by omega)).2 (by omega) (by omega) (by decide) ?_
        refine tw_top (hB.2.2.2.2.2 _ (by omega) (by omega) (by omega) _ (by omega) (by omega)) ?_
        refine ar_iadd (k := 35) rfl ?_
        refine ar_istoren (k := 36) (l2 := [(1, _), (4, _), (0, _), (2, _), (3, _)]) rfl (by decide) rfl ?_
        refine ar_iinc (k := 37) (l2 := [(4, _), (1, _), (0, _), (2, _), (3, _)]) rfl (by decide) rfl rfl ?_
        refine ar_goto (k := 38) rfl ?_
        refine ar_sub (l2 := [(4, vi ((j + 1 : Nat) : Int)), (1, vi (b + (if rGoP s (((prs s).getD j 0 : Nat) : Int) (rWork s (u : Int)) then rWorth s (((prs s).getD j 0 : Nat) : Int) (u : Int) else 0))), (0, vr (some 40)), (2, vi (u : Int)), (3, vi (rWork s (u : Int)))]) (tw_s (tw_e 0 rfl (by omega)) (tw_s (tw_e 1 rfl (by by_cases g9 : rGoP s (((prs s).getD j 0 : Nat) : Int) (rWork s (u : Int)) <;> first | (rw [if_pos g9]; done) | (rw [if_neg g9, Int.add_zero]; done) | (exfalso; rw [if_pos g9] at c24; omega) | (exfalso; rw [if_neg g9] at c24; omega))) (tw_s (tw_g 2 rfl) (tw_s (tw_g 3 rfl) (tw_s (tw_g 4 rfl) tw_s0))))) ?_
        rw [prs_drop (by omega), smP] at hF
        exact ih (j + 1) _ (by omega) hF
theorem l_P_allWorth (hS : tSt (K, I, Q, n)) (hq : Q 40 1 = some 1) (hN : WN 1 I s) (hR : RInv s) (hV : RVal s) (hB : PB I s) (hP : WP 1 K I Q n s) (hPR : PR I s) : ∀ (k : Nat) (j : Nat) (b : Int), j + k = 24 → tw_AW l G mP_allWorth 7 0 0 n 0 (tw_fn (some (vi (rAllW s k j b))) (K, I, Q, n)) 4 [(2, vi (j : Int)), (1, vi b), (0, vr (some 40))] [] (K, I, Q, n) := by
  obtain ⟨h0, h1, h2, h3, h4, h5, h6, hp, hrw, ht, hr, hb, htp, hv⟩ := id hR
  intro k
  induction k with
  | zero =>
    intro j b hj
    refine ar_iloadn (k := 4) rfl rfl ?_
    refine ar_bipush (k := 5) rfl (by decide) ?_
    refine ar_icmp_ge (k := 6) rfl (by omega) (by omega) (fun c6 => ?_) (fun c6 => ?_)
    · refine ar_iloadn (k := 41) rfl rfl ?_
      refine ar_iret (k := 42) rfl rfl rfl (Nat.le_refl _) ?_
      exact ⟨rfl, rfl⟩
    · exfalso; omega
  | succ k ih =>
    intro j b hj
    refine ar_iloadn (k := 4) rfl rfl ?_
    refine ar_bipush (k := 5) rfl (by decide) ?_
    refine ar_icmp_ge (k := 6) rfl (by omega) (by omega) (fun c6 => ?_) (fun c6 => ?_)
    · exfalso; omega
    · refine ar_aloadn (k := 7) rfl rfl ?_
      refine ar_iloadn (k := 8) rfl rfl ?_
      refine ar_callV (k := 9) (as := [_]) rfl lvP_158 (hS.k (by decide)) rfl (c_P_workedTools hS hq hN hR hV hB hP (by omega)) rfl (by decide) (by decide) tw_m0 (Nat.le_of_ble_eq_true rfl) (fun r9 h9 p9 => ?_)
      obtain ⟨rfl, rfl⟩ := p9
      refine ar_istoren (k := 10) (l2 := [(3, _), (2, _), (1, _), (0, _)]) rfl (by decide) rfl ?_
      refine ar_iconst (k := 11) rfl ?_
      refine ar_istore (k := 12) (l2 := [(4, _), (3, _), (2, _), (1, _), (0, _)]) rfl (by decide) rfl ?_
      refine ar_sub (l2 := [(4, vi ((0 : Nat) : Int)), (1, vi b), (0, vr (some 40)), (2, vi (j : Int)), (3, vi (rWork s (j : Int)))]) (tw_s (tw_e 0 rfl (by rfl)) (tw_s (tw_g 3 rfl) (tw_s (tw_g 4 rfl) (tw_s (tw_g 2 rfl) (tw_s (tw_g 1 rfl) tw_s0))))) ?_
      refine li_P_allWorth (u := j) (F := rHourW s (j : Int) b) hS hq hN hR hV hB hP hPR (by omega) (fun i => ?_) (prs s).length 0 b (by omega) (rHourW_prs h1).symm
      refine ar_iinc (k := 39) (l2 := [(2, _), (4, _), (1, _), (0, _), (3, _)]) rfl (by decide) rfl rfl ?_
      refine ar_goto (k := 40) rfl ?_
      refine ar_sub (l2 := [(2, vi ((j + 1 : Nat) : Int)), (1, vi (rHourW s (j : Int) b)), (0, vr (some 40))]) (tw_s (tw_e 0 rfl (by omega)) (tw_s (tw_g 2 rfl) (tw_s (tw_g 3 rfl) tw_s0))) ?_
      exact ih (j + 1) _ (by omega)
theorem c_P_allWorth (hS : tSt (K, I, Q, n)) (hq : Q 40 1 = some 1) (hN : WN 1 I s) (hR : RInv s) (hV : RVal s) (hB : PB I s) (hP : WP 1 K I Q n s) (hPR : PR I s) : tw_F l G 7 0 0 mP_allWorth [vr (some 40)] (K, I, Q, n) (some (vi (rAllW s 24 0 0))) (K, I, Q, n) := by
  obtain ⟨h0, h1, h2, h3, h4, h5, h6, hp, hrw, ht, hr, hb, htp, hv⟩ := id hR
  refine tw_intro okP_allWorth (Nat.le_of_ble_eq_true rfl) ?_
  refine ar_iconst (k := 0) rfl ?_
  refine ar_istoren (k := 1) (l2 := [(1, _), (0, _)]) rfl (by decide) rfl ?_
  refine ar_iconst (k := 2) rfl ?_
  refine ar_istoren (k := 3) (l2 := [(2, _), (1, _), (0, _)]) rfl (by decide) rfl ?_
  refine ar_sub (l2 := [(2, vi ((0 : Nat) : Int)), (1, vi 0), (0, vr (some 40))]) (tw_s (tw_e 0 rfl (by rfl)) (tw_s (tw_g 1 rfl) (tw_s (tw_g 2 rfl) tw_s0))) ?_
  exact l_P_allWorth hS hq hN hR hV hB hP hPR 24 0 0 (by omega)
end CX
