theorem rDeeps_congr {s s' : Int → Int} {f : Int} : ∀ (k : Nat), (∀ j : Nat, j < k → s' (f + (j : Int)) = s (f + (j : Int))) → rDeeps s' f k = rDeeps s f k
  | 0, _ => rfl
  | k + 1, h => by
    rw [rDeeps, rDeeps, rDeeps_congr k (fun j hj => h j (by omega)), h k (by omega)]
theorem RVal_congr {s s' : Int → Int} (h2 : s' 2 = s 2) (h : ∀ j, 279 ≤ j → s' j = s j) (hV : RVal s) : RVal s' := by
  intro a a1 a2
  rw [h (279 + a) (by omega), rDeeps_congr _ (fun j _ => h _ (by omega))]
  exact hV a a1 (by omega)
theorem RVal_up {s : Int → Int} {i x : Int} (hi : i < 279) (h2 : i ≠ 2) (hV : RVal s) : RVal (up s i x) := RVal_congr (up_ne _ _ (by omega)) (fun j hj => up_ne _ _ (by omega)) hV
/-- nobody is free -/
theorem RInv_free {s : Int → Int} {p x : Int} (p1 : 0 ≤ p ∧ p < 8) (hx : 0 ≤ x ∧ x ≤ 16777215) (hR : RInv s) : RInv (up s (34 + p) x) := by
  obtain ⟨h0, h1, h2, h3, h4, h5, h6, hp, hrw, ht, hr, hb, htp, hv⟩ := hR
  have e : ∀ j, j ≠ 34 + p → up s (34 + p) x j = s j := fun j hj => up_ne _ _ hj
  refine ⟨by rw [e _ (by omega)]; exact h0, by rw [e _ (by omega)]; exact h1, by rw [e _ (by omega)]; exact h2, by rw [e _ (by omega)]; exact h3, by rw [e _ (by omega)]; exact h4, by rw [e _ (by omega)]; exact h5, by rw [e _ (by omega), e _ (by omega)]; exact h6, ?_, ?_, ?_, ?_, ?_, ?_, ?_⟩
  · intro q q1 q2
    have w := hp q q1 q2
    rw [e (10 + q) (by omega), e (18 + q) (by omega), e (26 + q) (by omega)]
    refine ⟨w.1, w.2.1, w.2.2.1, ?_⟩
    by_cases hq : q = p
    · subst hq; rw [up_at]; exact hx
    · rw [e _ (by omega)]; exact w.2.2.2
  · intro j j1 j2; rw [e _ (by omega)]; exact hrw j j1 j2
  · intro t t1 t2
    rw [e 1 (by omega)] at t2
    have w := ht t t1 t2
    rw [e (74 + t) (by omega), e (84 + t) (by omega), e (94 + t) (by omega), e (104 + t) (by omega), e 0 (by omega), e 1 (by omega)]
    refine ⟨w.1, w.2.1, ?_, w.2.2.2⟩
    rcases w.2.2.1 with g | g
    · exact Or.inl g
    · rw [e (94 + s (94 + t)) (by omega)]; exact Or.inr g
  · intro r r1 r2
    rw [e 3 (by omega)] at r2
    rw [e (114 + r) (by omega), e (126 + r) (by omega), e (138 + r) (by omega), e 1 (by omega)]; exact hr r r1 r2
  · intro r r1 r2
    rw [e 4 (by omega)] at r2
    rw [e (150 + r) (by omega), e (162 + r) (by omega), e 1 (by omega)]; exact hb r r1 r2
  · intro i i1 i2; rw [e _ (by omega)]; exact htp i i1 i2
  · intro a a1 a2; rw [e (274 + a) (by omega), e (279 + a) (by omega)]; exact hv a a1 a2
/-- one who holds a tool is another -/
theorem RInv_held {s : Int → Int} {a x : Int} (a1 : 0 ≤ a ∧ a < 10) (hx : 0 ≤ x ∧ x < s 0) (hR : RInv s) : RInv (up s (84 + a) x) := by
  obtain ⟨h0, h1, h2, h3, h4, h5, h6, hp, hrw, ht, hr, hb, htp, hv⟩ := hR
  have e : ∀ j, j ≠ 84 + a → up s (84 + a) x j = s j := fun j hj => up_ne _ _ hj
  refine ⟨by rw [e _ (by omega)]; exact h0, by rw [e _ (by omega)]; exact h1, by rw [e _ (by omega)]; exact h2, by rw [e _ (by omega)]; exact h3, by rw [e _ (by omega)]; exact h4, by rw [e _ (by omega)]; exact h5, by rw [e _ (by omega), e _ (by omega)]; exact h6, ?_, ?_, ?_, ?_, ?_, ?_, ?_⟩
  · intro q q1 q2
    have w := hp q q1 q2
    rw [e (10 + q) (by omega), e (18 + q) (by omega), e (26 + q) (by omega), e (34 + q) (by omega)]
    exact w
  · intro j j1 j2; rw [e _ (by omega)]; exact hrw j j1 j2
  · intro t t1 t2
    rw [e 1 (by omega)] at t2
    have w := ht t t1 t2
    rw [e (74 + t) (by omega), e (94 + t) (by omega), e (104 + t) (by omega), e 0 (by omega), e 1 (by omega)]
    refine ⟨w.1, ?_, ?_, w.2.2.2⟩
    · by_cases hq : t = a
      · subst hq; rw [up_at]; exact hx
      · rw [e _ (by omega)]; exact w.2.1
    · rcases w.2.2.1 with g | g
      · exact Or.inl g
      · rw [e (94 + s (94 + t)) (by omega)]; exact Or.inr g
  · intro r r1 r2
    rw [e 3 (by omega)] at r2
    rw [e (114 + r) (by omega), e (126 + r) (by omega), e (138 + r) (by omega), e 1 (by omega)]; exact hr r r1 r2
  · intro r r1 r2
    rw [e 4 (by omega)] at r2
    rw [e (150 + r) (by omega), e (162 + r) (by omega), e 1 (by omega)]; exact hb r r1 r2
  · intro i i1 i2; rw [e _ (by omega)]; exact htp i i1 i2
  · intro a a1 a2; rw [e (274 + a) (by omega), e (279 + a) (by omega)]; exact hv a a1 a2
def rSwap (s : Int → Int) (a b : Int) : Int → Int := up (up s (84 + a) (s (84 + b))) (84 + b) (s (84 + a))
theorem rSwap_swap {s : Int → Int} {a b : Int} (hab : a ≠ b) : rSwap (rSwap s a b) a b = s := by
  funext j
  unfold rSwap up
  by_cases h1 : j = 84 + b
  · simp [h1]; intro g; omega
  · by_cases h2 : j = 84 + a
    · simp [h2]
      intro g; omega
    · simp [h1, h2]
theorem RInv_swap {s : Int → Int} {a b : Int} (a1 : 0 ≤ a ∧ a < s 1) (b1 : 0 ≤ b ∧ b < s 1) (hR : RInv s) : RInv (rSwap s a b) := by
  have h1 := hR.2.1
  have ht := hR.2.2.2.2.2.2.2.2.2.1
  have wa := ht a a1.1 a1.2
  have wb := ht b b1.1 b1.2
  have g := RInv_held (a := a) (x := s (84 + b)) (by omega) (by omega) hR
  exact RInv_held (a := b) (x := s (84 + a)) (by omega) (by rw [up_ne _ _ (by omega)]; omega) g
theorem RVal_swap {s : Int → Int} {a b : Int} (a1 : 0 ≤ a ∧ a < 10) (b1 : 0 ≤ b ∧ b < 10) (hV : RVal s) : RVal (rSwap s a b) := RVal_up (by omega) (by omega) (RVal_up (by omega) (by omega) hV)
/-- a world of other numbers, gone through, and the numbers put back -/
theorem rq_back {I J L : Nat → Int → Int} {s s' : Int → Int} (h : rq I J) (hs : J 70 = s) (g : rq (setA J 70 s') L) : rq I (setA L 70 s) := by
  refine ⟨fun b a1 a2 a3 => ?_, fun k a1 a2 a3 => ?_⟩
  · by_cases hb : b = 70
    · subst hb; rw [setA_at, ← hs]; exact h.1 70 a1 a2 a3
    · rw [setA_ne _ _ hb, g.1 b a1 a2 a3, setA_ne _ _ hb]; exact h.1 b a1 a2 a3
  · rw [setA_ne _ _ (by decide), g.2 k a1 a2 a3, setA_ne _ _ (by decide)]; exact h.2 k a1 a2 a3
def rAway (s : Int → Int) (p : Int) : Int := rBestDay s - rBestDay (up s (34 + p) 0)
def rWorstN (s : Int → Int) : Nat → Nat → Int → Int → Int
  | 0, _, b, _ => b
  | k + 1, j, b, m => if b = -5 ∨ m < rAway s j then rWorstN s k (j + 1) j (rAway s j) else rWorstN s k (j + 1) b m
/-- one tool changed with each behind it: the best, the two -/
def rChB (s : Int → Int) (a : Nat) : Nat → Nat → Int × Int × Int → Int × Int × Int
  | 0, _, q => q
  | k + 1, b, q => rChB s a k (b + 1) (if s (84 + (a : Int)) ≠ s (84 + (b : Int)) ∧ q.1 < rBestDay (rSwap s a b) then (rBestDay (rSwap s a b), (a : Int), (b : Int)) else q)
def rChA (s : Int → Int) : Nat → Nat → Int × Int × Int → Int × Int × Int
  | 0, _, q => q
  | k + 1, a, q => rChA s k (a + 1) (rChB s a k (a + 1) q)
def rChange (s : Int → Int) : Int × Int × Int := rChA s (s 1).toNat 0 (rBestDay s, -5, -5)
section RI
variable {l : Launch} {G : tG} {K : Nat → Nat × Nat} {I : Nat → Int → Int} {Q : Nat → Int → Option Nat} {n : Nat} {s : Int → Int}
theorem li_R_allWorth {u : Nat} (hS : tSt (K, I, Q, n)) (hR : RInv s) (hV : RVal s) (u1 : (u : Int) ≤ 23) {P : Option tV → tH → Prop} {F : Int} (cont : ∀ (j : Int) (J : Nat → Int → Int), J 70 = s → rq I J → tw_AW l G mR_allWorth 7 0 0 n 0 P 60 [(4, vi j), (3, vi (rGoing s u)), (2, vi (u : Int)), (1, vi F), (0, vr (some 69))] [] (K, J, Q, n)) : ∀ (k j : Nat) (a : Int) (J : Nat → Int → Int), j + k = (s 1).toNat → J 70 = s → rq I J → smV (fun t => if bAnd (bShr (rGoing s u) t) 1 = 1 then rWorth s t u else 0) k j a = F → tw_AW l G mR_allWorth 7 0 0 n 0 P 19 [(4, vi (j : Int)), (3, vi (rGoing s u)), (2, vi (u : Int)), (1, vi a), (0, vr (some 69))] [] (K, J, Q, n) := by
  obtain ⟨h0, h1, h2, h3, h4, h5, h6, hp, hrw, ht, hr, hb, htp, hv⟩ := id hR
  intro k
  induction k with
  | zero =>
    intro j a J hj hs hk hF
    refine ar_iload (k := 13) rfl rfl ?_
    refine ar_aloadn (k := 14) rfl rfl ?_
    refine br_getR (k := 15) rfl (hS.k (by decide)) flR_9_12 (by decide) rfl (hS.r rfl) ?_
    refine ar_iconst (k := 16) rfl ?_
    refine br_iads (k := 17) rfl (hS.k (by decide)) (by omega) (by omega) (by decide) hs ?_
    refine ar_icmp_ge (k := 18) rfl (by omega) (by omega) (fun c18 => ?_) (fun c18 => ?_)
    · rw [smV] at hF
      subst hF
      exact cont _ J hs hk
    · exfalso; omega
  | succ k ih =>
    intro j a J hj hs hk hF
    refine ar_iload (k := 13) rfl rfl ?_
    refine ar_aloadn (k := 14) rfl rfl ?_
    refine br_getR (k := 15) rfl (hS.k (by decide)) flR_9_12 (by decide) rfl (hS.r rfl) ?_
    refine ar_iconst (k := 16) rfl ?_
    refine br_iads (k := 17) rfl (hS.k (by decide)) (by omega) (by omega) (by decide) hs ?_
    refine ar_icmp_ge (k := 18) rfl (by omega) (by omega) (fun c18 => ?_) (fun c18 => ?_)
    · exfalso; omega
    · have hw := ht j (by omega) (by omega)
      have b1 := bAnd1 (bShr (rGoing s u) (j : Int))
      refine ar_iloadn (k := 19) rfl rfl ?_
      refine ar_iloadn (k := 20) rfl rfl ?_
      refine ar_iload (k := 21) rfl rfl ?_
      refine ar_ishr (k := 22) rfl ?_
      refine ar_iconst (k := 23) rfl ?_
      refine ar_iand (k := 24) rfl ?_
      refine ar_iconst (k := 25) rfl ?_
      refine ar_icmp_ne (k := 26) rfl (by omega) (by omega) (fun c26 => ?_) (fun c26 => ?_)
      · refine ar_iconst (k := 32) rfl ?_
        refine tw_top (y := (fun t => if bAnd (bShr (rGoing s u) t) 1 = 1 then rWorth s t u else 0) j) (by show _ = (if _ then _ else _); (repeat' split) <;> first | rfl | (exfalso; omega)) ?_
        refine ar_iadd (k := 33) rfl ?_
        refine ar_istoren (k := 34) (l2 := [(1, _), (4, _), (3, _), (2, _), (0, _)]) rfl (by decide) rfl ?_
        refine ar_iinc (k := 35) (l2 := [(4, _), (1, _), (3, _), (2, _), (0, _)]) rfl (by decide) rfl rfl ?_
        refine ar_goto (k := 36) rfl ?_
        refine ar_sub (l2 := [(4, vi ((j + 1 : Nat) : Int)), (3, vi (rGoing s u)), (2, vi (u : Int)), (1, vi (a + (fun t => if bAnd (bShr (rGoing s u) t) 1 = 1 then rWorth s t u else 0) j)), (0, vr (some 69))]) (tw_s (tw_e 0 rfl (by omega)) (tw_s (tw_g 2 rfl) (tw_s (tw_g 3 rfl) (tw_s (tw_e 1 rfl (by rfl)) (tw_s (tw_g 4 rfl) tw_s0))))) ?_
        exact ih (j + 1) _ J (by omega) hs hk hF
      · have hg := rGoing_tw hR (u := u) (t := j) (by omega) (by omega)
        refine ar_aloadn (k := 27) rfl rfl ?_
        refine ar_iload (k := 28) rfl rfl ?_
        refine ar_iloadn (k := 29) rfl rfl ?_
        refine br_callVR (k := 30) (as := [_, _]) rfl lvR_133 (hS.k (by decide)) rfl (c_R_worthOf hS hs hR hV (by omega) (by omega) (by omega)) rfl (by decide) (by decide) tw_m0 (Nat.le_of_ble_eq_true rfl) (fun I30 q30 => ?_)
        have hs30 : I30 70 = s := q30.s.trans hs
        have hk30 := rq.trans hk q30.q
        refine ar_goto (k := 31) rfl ?_
        refine tw_top (y := (fun t => if bAnd (bShr (rGoing s u) t) 1 = 1 then rWorth s t u else 0) j) (by show _ = (if _ then _ else _); (repeat' split) <;> first | rfl | (exfalso; omega)) ?_
        refine ar_iadd (k := 33) rfl ?_
        refine ar_istoren (k := 34) (l2 := [(1, _), (4, _), (3, _), (2, _), (0, _)]) rfl (by decide) rfl ?_
        refine ar_iinc (k := 35) (l2 := [(4, _), (1, _), (3, _), (2, _), (0, _)]) rfl (by decide) rfl rfl ?_
        refine ar_goto (k := 36) rfl ?_
        refine ar_sub (l2 := [(4, vi ((j + 1 : Nat) : Int)), (3, vi (rGoing s u)), (2, vi (u : Int)), (1, vi (a + (fun t => if bAnd (bShr (rGoing s u) t) 1 = 1 then rWorth s t u else 0) j)), (0, vr (some 69))]) (tw_s (tw_e 0 rfl (by omega)) (tw_s (tw_g 2 rfl) (tw_s (tw_g 3 rfl) (tw_s (tw_e 1 rfl (by rfl)) (tw_s (tw_g 4 rfl) tw_s0))))) ?_
        exact ih (j + 1) _ I30 (by omega) hs30 hk30 hF
theorem l_R_allWorth (hS : tSt (K, I, Q, n)) (hR : RInv s) (hV : RVal s) : ∀ (k : Nat) (j : Nat) (a : Int) (J : Nat → Int → Int), j + k = 24 → J 70 = s → rq I J → tw_AW l G mR_allWorth 7 0 0 n 0 (fun r h' => r = some (vi (rAllW s k j a)) ∧ ∃ L, h' = (K, L, Q, n) ∧ rq I L) 4 [(2, vi (j : Int)), (1, vi a), (0, vr (some 69))] [] (K, J, Q, n) := by
  obtain ⟨h0, h1, h2, h3, h4, h5, h6, hp, hrw, ht, hr, hb, htp, hv⟩ := id hR
  intro k
  induction k with
  | zero =>
    intro j a J hj hs hk
    refine ar_iloadn (k := 4) rfl rfl ?_
    refine ar_bipush (k := 5) rfl (by decide) ?_
    refine ar_icmp_ge (k := 6) rfl (by omega) (by omega) (fun c6 => ?_) (fun c6 => ?_)
    · refine ar_iloadn (k := 39) rfl rfl ?_
      refine ar_iret (k := 40) rfl rfl rfl (Nat.le_refl _) ?_
      exact ⟨rfl, J, rfl, hk⟩
    · exfalso; omega
  | succ k ih =>
    intro j a J hj hs hk
    refine ar_iloadn (k := 4) rfl rfl ?_
    refine ar_bipush (k := 5) rfl (by decide) ?_
    refine ar_icmp_ge (k := 6) rfl (by omega) (by omega) (fun c6 => ?_) (fun c6 => ?_)
    · exfalso; omega
    · refine ar_aloadn (k := 7) rfl rfl ?_
      refine ar_iloadn (k := 8) rfl rfl ?_
      refine br_callVR (k := 9) (as := [_]) rfl lvR_182 (hS.k (by decide)) rfl (c_R_going hS hs hR hV (by omega)) rfl (by decide) (by decide) tw_m0 (Nat.le_of_ble_eq_true rfl) (fun I9 q9 => ?_)
      have hs9 : I9 70 = s := q9.s.trans hs
      have hk9 := rq.trans hk q9.q
      refine ar_istoren (k := 10) (l2 := [(3, _), (2, _), (1, _), (0, _)]) rfl (by decide) rfl ?_
      refine ar_iconst (k := 11) rfl ?_
      refine ar_istore (k := 12) (l2 := [(4, _), (3, _), (2, _), (1, _), (0, _)]) rfl (by decide) rfl ?_
      refine ar_sub (l2 := [(4, vi ((0 : Nat) : Int)), (3, vi (rGoing s (j : Nat))), (2, vi (j : Int)), (1, vi a), (0, vr (some 69))]) (tw_s (tw_e 0 rfl (by rfl)) (tw_s (tw_g 1 rfl) (tw_s (tw_g 2 rfl) (tw_s (tw_g 3 rfl) (tw_s (tw_g 4 rfl) tw_s0))))) ?_
      refine li_R_allWorth (I := I) (u := j) hS hR hV (by omega) (F := rHourW s j a) ?_ (s 1).toNat 0 a I9 (by omega) hs9 hk9 rfl
      intro j2 J2 hs2 hk2
      refine ar_iinc (k := 37) (l2 := [(2, _), (4, _), (3, _), (1, _), (0, _)]) rfl (by decide) rfl rfl ?_
      refine ar_goto (k := 38) rfl ?_
      refine ar_sub (l2 := [(2, vi ((j + 1 : Nat) : Int)), (1, vi (rHourW s j a)), (0, vr (some 69))]) (tw_s (tw_e 0 rfl (by omega)) (tw_s (tw_g 3 rfl) (tw_s (tw_g 4 rfl) tw_s0))) ?_
      exact ih (j + 1) _ J2 (by omega) hs2 hk2
theorem c_R_allWorth (hS : tSt (K, I, Q, n)) (hs : I 70 = s) (hR : RInv s) (hV : RVal s) : tw_K l G 7 mR_allWorth [vr (some 69)] K I Q n (some (vi (rAllW s 24 0 0))) := by
  obtain ⟨h0, h1, h2, h3, h4, h5, h6, hp, hrw, ht, hr, hb, htp, hv⟩ := id hR
  refine tw_intro okR_allWorth (Nat.le_of_ble_eq_true rfl) ?_
  refine ar_iconst (k := 0) rfl ?_
  refine ar_istoren (k := 1) (l2 := [(1, _), (0, _)]) rfl (by decide) rfl ?_
  refine ar_iconst (k := 2) rfl ?_
  refine ar_istoren (k := 3) (l2 := [(2, _), (1, _), (0, _)]) rfl (by decide) rfl ?_
  refine ar_sub (l2 := [(2, vi ((0 : Nat) : Int)), (1, vi 0), (0, vr (some 69))]) (tw_s (tw_e 0 rfl (by rfl)) (tw_s (tw_g 1 rfl) (tw_s (tw_g 2 rfl) tw_s0))) ?_
  exact l_R_allWorth (I := I) hS hR hV 24 0 0 I (by omega) hs rq.rf
theorem c_R_day {w : Int} (hS : tSt (K, I, Q, n)) (hs : I 70 = s) (hR : RInv s) (hV : RVal s) (tw : tr w) : tw_K l G 17 mR_day [vr (some 69), vi w] K I Q n (some (vi (if w = 0 then rAllW s 24 0 0 else if w = 1 then rAllWait s else if w = 2 then rBestDay s else if w = 3 then rBell s else -10001))) := by
  obtain ⟨h0, h1, h2, h3, h4, h5, h6, hp, hrw, ht, hr, hb, htp, hv⟩ := id hR
  have hk : rq I I := rq.rf
  refine tw_intro okR_day (Nat.le_of_ble_eq_true rfl) ?_
  refine ar_iloadn (k := 0) rfl rfl ?_
  rcases (show w = 0 ∨ w = 1 ∨ w = 2 ∨ w = 3 ∨ (w < 0 ∨ 3 < w) by omega) with q1 | q1 | q1 | q1 | q1
  · refine ar_tswIn (k := 1) (t := 32) rfl (by omega) (by omega) (by omega) (by rw [q1]; rfl) (by decide) ?_
    refine ar_aloadn (k := 2) rfl rfl ?_
    refine br_callVK (k := 3) (as := []) rfl lvR_194 (hS.k (by decide)) rfl (c_R_allWorth hS hs hR hV) rfl (by decide) (by decide) tw_m0 (Nat.le_of_ble_eq_true rfl) (fun I3 q3 => ?_)
    have hs3 : I3 70 = s := q3.s.trans hs
    have hk3 := rq.trans hk q3
    refine ar_iret (k := 4) rfl rfl rfl (Nat.le_refl _) ?_
    exact ⟨congrArg (fun z => some (vi z)) (by omega), I3, rfl, hk3⟩
  · refine ar_tswIn (k := 1) (t := 37) rfl (by omega) (by omega) (by omega) (by rw [q1]; rfl) (by decide) ?_
    refine ar_aloadn (k := 5) rfl rfl ?_
    refine br_callVK (k := 6) (as := []) rfl lvR_197 (hS.k (by decide)) rfl (c_R_allWaiting hS hs hR hV) rfl (by decide) (by decide) tw_m0 (Nat.le_of_ble_eq_true rfl) (fun I6 q6 => ?_)
    have hs6 : I6 70 = s := q6.s.trans hs
    have hk6 := rq.trans hk q6
    refine ar_iret (k := 7) rfl rfl rfl (Nat.le_refl _) ?_
    exact ⟨congrArg (fun z => some (vi z)) (by omega), I6, rfl, hk6⟩
  · refine ar_tswIn (k := 1) (t := 42) rfl (by omega) (by omega) (by omega) (by rw [q1]; rfl) (by decide) ?_
    refine ar_aloadn (k := 8) rfl rfl ?_
    refine br_callVK (k := 9) (as := []) rfl lvR_200 (hS.k (by decide)) rfl (c_R_bestDay hS hs hR hV) rfl (by decide) (by decide) tw_m0 (Nat.le_of_ble_eq_true rfl) (fun I9 q9 => ?_)
    have hs9 : I9 70 = s := q9.s.trans hs
    have hk9 := rq.trans hk q9
    refine ar_iret (k := 10) rfl rfl rfl (Nat.le_refl _) ?_
    exact ⟨congrArg (fun z => some (vi z)) (by omega), I9, rfl, hk9⟩
  · refine ar_tswIn (k := 1) (t := 47) rfl (by omega) (by omega) (by omega) (by rw [q1]; rfl) (by decide) ?_
    refine ar_aloadn (k := 11) rfl rfl ?_
    refine br_callV (k := 12) (as := []) rfl lvR_147 (hS.k (by decide)) rfl (c_R_bell hS hs hR) rfl (by decide) (by decide) tw_m0 (Nat.le_of_ble_eq_true rfl) ?_
    refine ar_iret (k := 13) rfl rfl rfl (Nat.le_refl _) ?_
    exact ⟨congrArg (fun z => some (vi z)) (by omega), I, rfl, hk⟩
  · refine ar_tswOut (k := 1) (t := 52) rfl (by omega) (by omega) (by decide) ?_
    refine ar_sipush (k := 14) rfl (by decide) ?_
    refine ar_iret (k := 15) rfl rfl rfl (Nat.le_refl _) ?_
    exact ⟨congrArg (fun z => some (vi z)) (by omega), I, rfl, hk⟩
theorem c_R_changes {a b : Int} (hS : tSt (K, I, Q, n)) (hs : I 70 = s) (a1 : 0 ≤ a ∧ a < 10) (b1 : 0 ≤ b ∧ b < 10) (hab : a ≠ b) : tw_F l G 1 0 0 mR_changes [vr (some 69), vi a, vi b] (K, I, Q, n) none (K, setA I 70 (rSwap s a b), Q, n) := by
  subst hs
  refine tw_intro okR_changes (Nat.le_of_ble_eq_true rfl) ?_
  refine ar_aloadn (k := 0) rfl rfl ?_
  refine br_getR (k := 1) rfl (hS.k (by decide)) flR_9_12 (by decide) rfl (hS.r rfl) ?_
  refine ar_bipush (k := 2) rfl (by decide) ?_
  refine ar_iloadn (k := 3) rfl rfl ?_
  refine ar_iadd (k := 4) rfl ?_
  refine br_iald (k := 5) rfl (hS.k (by decide)) (by omega) (by omega) (by decide) ?_
  refine ar_istoren (k := 6) (l2 := [(3, _), (0, _), (1, _), (2, _)]) rfl (by decide) rfl ?_
  refine ar_aloadn (k := 7) rfl rfl ?_
  refine br_getR (k := 8) rfl (hS.k (by decide)) flR_9_12 (by decide) rfl (hS.r rfl) ?_
  refine ar_bipush (k := 9) rfl (by decide) ?_
  refine ar_iloadn (k := 10) rfl rfl ?_
  refine ar_iadd (k := 11) rfl ?_
  refine ar_aloadn (k := 12) rfl rfl ?_
  refine br_getR (k := 13) rfl (hS.k (by decide)) flR_9_12 (by decide) rfl (hS.r rfl) ?_
  refine ar_bipush (k := 14) rfl (by decide) ?_
  refine ar_iloadn (k := 15) rfl rfl ?_
  refine ar_iadd (k := 16) rfl ?_
  refine br_iald (k := 17) rfl (hS.k (by decide)) (by omega) (by omega) (by decide) ?_
  refine br_iast (k := 18) rfl (hS.k (by decide)) (by omega) (by omega) (by decide) ?_
  refine ar_aloadn (k := 19) rfl rfl ?_
  refine br_getR (k := 20) rfl (hS.k (by decide)) flR_9_12 (by decide) rfl (hS.r rfl) ?_
  refine ar_bipush (k := 21) rfl (by decide) ?_
  refine ar_iloadn (k := 22) rfl rfl ?_
  refine ar_iadd (k := 23) rfl ?_
  refine ar_iloadn (k := 24) rfl rfl ?_
  refine br_iast (k := 25) rfl (hS.k (by decide)) (by omega) (by omega) (by decide) ?_
  refine ar_ret (k := 26) rfl rfl rfl (Nat.le_refl _) ?_
  exact ⟨rfl, by simp only [uI_set, setA_setA, setA_at, rSwap]⟩
theorem c_R_awayOf {p : Int} (hS : tSt (K, I, Q, n)) (hs : I 70 = s) (hR : RInv s) (hV : RVal s) (p1 : 0 ≤ p ∧ p < 8) : tw_K l G 17 mR_awayOf [vr (some 69), vi p] K I Q n (some (vi (rAway s p))) := by
  obtain ⟨h0, h1, h2, h3, h4, h5, h6, hp, hrw, ht, hr, hb, htp, hv⟩ := id hR
  have hk : rq I I := rq.rf
  refine tw_intro okR_awayOf (Nat.le_of_ble_eq_true rfl) ?_
  refine ar_aloadn (k := 0) rfl rfl ?_
  refine br_callVK (k := 1) (as := []) rfl lvR_200 (hS.k (by decide)) rfl (c_R_bestDay hS hs hR hV) rfl (by decide) (by decide) tw_m0 (Nat.le_of_ble_eq_true rfl) (fun I1 q1 => ?_)
  have hs1 : I1 70 = s := q1.s.trans hs
  have hk1 := rq.trans hk q1
  refine ar_istoren (k := 2) (l2 := [(2, _), (0, _), (1, _)]) rfl (by decide) rfl ?_
  refine ar_aloadn (k := 3) rfl rfl ?_
  refine br_getR (k := 4) rfl (hS.k (by decide)) flR_9_12 (by decide) rfl (hS.r rfl) ?_
  refine ar_bipush (k := 5) rfl (by decide) ?_
  refine ar_iloadn (k := 6) rfl rfl ?_
  refine ar_iadd (k := 7) rfl ?_
  refine br_iads (k := 8) rfl (hS.k (by decide)) (by omega) (by omega) (by decide) hs1 ?_
  refine ar_istoren (k := 9) (l2 := [(3, _), (2, _), (0, _), (1, _)]) rfl (by decide) rfl ?_
  refine ar_aloadn (k := 10) rfl rfl ?_
  refine br_getR (k := 11) rfl (hS.k (by decide)) flR_9_12 (by decide) rfl (hS.r rfl) ?_
  refine ar_bipush (k := 12) rfl (by decide) ?_
  refine ar_iloadn (k := 13) rfl rfl ?_
  refine ar_iadd (k := 14) rfl ?_
  refine ar_iconst (k := 15) rfl ?_
  refine br_iast (k := 16) rfl (hS.k (by decide)) (by omega) (by omega) (by decide) ?_
  rw [uI_set, hs1]
  refine ar_aloadn (k := 17) rfl rfl ?_
  refine br_callVK (k := 18) (as := []) rfl lvR_200 (hS.k (by decide)) rfl (c_R_bestDay (s := up s (34 + p) 0) hS (setA_at _ _ _) (RInv_free p1 (by decide) hR) (RVal_up (by omega) (by omega) hV)) rfl (by decide) (by decide) tw_m0 (Nat.le_of_ble_eq_true rfl) (fun I18 q18 => ?_)
  refine ar_istore (k := 19) (l2 := [(4, _), (3, _), (2, _), (0, _), (1, _)]) rfl (by decide) rfl ?_
  refine ar_aloadn (k := 20) rfl rfl ?_
  refine br_getR (k := 21) rfl (hS.k (by decide)) flR_9_12 (by decide) rfl (hS.r rfl) ?_
  refine ar_bipush (k := 22) rfl (by decide) ?_
  refine ar_iloadn (k := 23) rfl rfl ?_
  refine ar_iadd (k := 24) rfl ?_
  refine ar_iloadn (k := 25) rfl rfl ?_
  refine br_iast (k := 26) rfl (hS.k (by decide)) (by omega) (by omega) (by decide) ?_
  rw [uI_set, q18.s, setA_at, up_up, up_id]
  refine ar_iloadn (k := 27) rfl rfl ?_
  refine ar_iload (k := 28) rfl rfl ?_
  refine ar_isub (k := 29) rfl ?_
  refine ar_iret (k := 30) rfl rfl rfl (Nat.le_refl _) ?_
  exact ⟨rfl, _, rfl, rq_back hk1 hs1 q18⟩
theorem c_R_away {p : Int} (hS : tSt (K, I, Q, n)) (hs : I 70 = s) (hR : RInv s) (hV : RVal s) (tp : tr p) : tw_K l G 18 mR_away [vr (some 69), vi p] K I Q n (some (vi (if 0 ≤ p ∧ p ≤ s 0 - 1 then rAway s p else -10001))) := by
  obtain ⟨h0, h1, h2, h3, h4, h5, h6, hp, hrw, ht, hr, hb, htp, hv⟩ := id hR
  have hk : rq I I := rq.rf
  refine tw_intro okR_away (Nat.le_of_ble_eq_true rfl) ?_
  refine ar_aloadn (k := 0) rfl rfl ?_
  refine ar_iloadn (k := 1) rfl rfl ?_
  refine br_callV (k := 2) (as := [_]) rfl lvR_115 (hS.k (by decide)) rfl (c_S_isPerson hS hs (by omega) h0) rfl (by decide) (by decide) tw_m0 (Nat.le_of_ble_eq_true rfl) ?_
  refine ar_if_eq (k := 3) rfl (by omega) (fun c3 => ?_) (fun c3 => ?_)
  · refine ar_sipush (k := 8) rfl (by decide) ?_
    refine ar_iret (k := 9) rfl rfl rfl (Nat.le_refl _) ?_
    exact ⟨congrArg (fun z => some (vi z)) (by omega), I, rfl, hk⟩
  · refine ar_aloadn (k := 4) rfl rfl ?_
    refine ar_iloadn (k := 5) rfl rfl ?_
    refine br_callVK (k := 6) (as := [_]) rfl lvR_207 (hS.k (by decide)) rfl (c_R_awayOf hS hs hR hV (by omega)) rfl (by decide) (by decide) tw_m0 (Nat.le_of_ble_eq_true rfl) (fun I6 q6 => ?_)
    have hs6 : I6 70 = s := q6.s.trans hs
    have hk6 := rq.trans hk q6
    refine ar_goto (k := 7) rfl ?_
    refine ar_iret (k := 9) rfl rfl rfl (Nat.le_refl _) ?_
    exact ⟨congrArg (fun z => some (vi z)) (by omega), I6, rfl, hk6⟩
theorem rAway_bd {s : Int → Int} {p : Int} (hR : RInv s) (hV : RVal s) (p1 : 0 ≤ p ∧ p < 8) : -24000000 ≤ rAway s p ∧ rAway s p ≤ 24000000 := by
  have a1 := rBestDay_bd hR hV
  have a2 := rBestDay_bd (RInv_free p1 (by decide : (0 : Int) ≤ 0 ∧ (0 : Int) ≤ 16777215) hR) (RVal_up (i := 34 + p) (x := 0) (by omega) (by omega) hV)
  unfold rAway
  omega
theorem l_R_worst (hS : tSt (K, I, Q, n)) (hR : RInv s) (hV : RVal s) : ∀ (k : Nat) (j : Nat) (b m : Int) (J : Nat → Int → Int), j + k = (s 0).toNat → J 70 = s → rq I J → (b = -5 ∨ (0 ≤ b ∧ b < 10)) → (-24000000 ≤ m ∧ m ≤ 24000000) → tw_AW l G mR_worst 18 0 0 n 0 (fun r h' => r = some (vi (rWorstN s k j b m)) ∧ ∃ L, h' = (K, L, Q, n) ∧ rq I L) 7 [(3, vi (j : Int)), (2, vi m), (1, vi b), (0, vr (some 69))] [] (K, J, Q, n) := by
  obtain ⟨h0, h1, h2, h3, h4, h5, h6, hp, hrw, ht, hr, hb, htp, hv⟩ := id hR
  intro k
  induction k with
  | zero =>
    intro j b m J hj hs hk hb9 hmm
    refine ar_iloadn (k := 6) rfl rfl ?_
    refine ar_aloadn (k := 7) rfl rfl ?_
    refine br_getR (k := 8) rfl (hS.k (by decide)) flR_9_12 (by decide) rfl (hS.r rfl) ?_
    refine ar_iconst (k := 9) rfl ?_
    refine br_iads (k := 10) rfl (hS.k (by decide)) (by omega) (by omega) (by decide) hs ?_
    refine ar_icmp_ge (k := 11) rfl (by omega) (by omega) (fun c11 => ?_) (fun c11 => ?_)
    · refine ar_iloadn (k := 40) rfl rfl ?_
      refine ar_iret (k := 41) rfl rfl rfl (Nat.le_refl _) ?_
      exact ⟨rfl, J, rfl, hk⟩
    · exfalso; omega
  | succ k ih =>
    intro j b m J hj hs hk hb9 hmm
    refine ar_iloadn (k := 6) rfl rfl ?_
    refine ar_aloadn (k := 7) rfl rfl ?_
    refine br_getR (k := 8) rfl (hS.k (by decide)) flR_9_12 (by decide) rfl (hS.r rfl) ?_
    refine ar_iconst (k := 9) rfl ?_
    refine br_iads (k := 10) rfl (hS.k (by decide)) (by omega) (by omega) (by decide) hs ?_
    refine ar_icmp_ge (k := 11) rfl (by omega) (by omega) (fun c11 => ?_) (fun c11 => ?_)
    · exfalso; omega
    · have hbd := rAway_bd (p := (j : Int)) hR hV (by omega)
      refine ar_aloadn (k := 12) rfl rfl ?_
      refine ar_iloadn (k := 13) rfl rfl ?_
      refine br_callVK (k := 14) (as := [_]) rfl lvR_207 (hS.k (by decide)) rfl (c_R_awayOf hS hs hR hV (by omega)) rfl (by decide) (by decide) tw_m0 (Nat.le_of_ble_eq_true rfl) (fun I14 q14 => ?_)
      have hs14 : I14 70 = s := q14.s.trans hs
      have hk14 := rq.trans hk q14
      refine ar_istore (k := 15) (l2 := [(4, _), (3, _), (2, _), (1, _), (0, _)]) rfl (by decide) rfl ?_
      refine ar_iloadn (k := 16) rfl rfl ?_
      refine ar_bipush (k := 17) rfl (by decide) ?_
      refine ar_icmp_eq (k := 18) rfl (by omega) (by omega) (fun c18 => ?_) (fun c18 => ?_)
      · refine ar_iconst (k := 22) rfl ?_
        refine ar_goto (k := 23) rfl ?_
        refine ar_istore (k := 25) (l2 := [(5, _), (4, _), (3, _), (2, _), (1, _), (0, _)]) rfl (by decide) rfl ?_
        refine ar_iload (k := 26) rfl rfl ?_
        refine ar_if_eq (k := 27) rfl (by omega) (fun c27 => ?_) (fun c27 => ?_)
        · refine ar_iloadn (k := 30) rfl rfl ?_
          refine ar_istoren (k := 31) (l2 := [(1, _), (5, _), (4, _), (3, _), (2, _), (0, _)]) rfl (by decide) rfl ?_
          refine ar_iload (k := 32) rfl rfl ?_
          refine ar_if_eq (k := 33) rfl (by omega) (fun c33 => ?_) (fun c33 => ?_)
          · refine ar_iloadn (k := 36) rfl rfl ?_
            refine ar_istoren (k := 37) (l2 := [(2, _), (1, _), (5, _), (4, _), (3, _), (0, _)]) rfl (by decide) rfl ?_
            first
              | (exfalso; omega)
              | (refine ar_iinc (k := 38) (l2 := [(3, _), (2, _), (1, _), (5, _), (4, _), (0, _)]) rfl (by decide) rfl rfl ?_; refine ar_goto (k := 39) rfl ?_; refine ar_sub (l2 := [(3, vi ((j + 1 : Nat) : Int)), (2, vi (rAway s j)), (1, vi ((j : Int))), (0, vr (some 69))]) (tw_s (tw_e 0 rfl (by omega)) (tw_s (tw_g 1 rfl) (tw_s (tw_g 2 rfl) (tw_s (tw_g 5 rfl) tw_s0)))) ?_; rw [show rWorstN s (k + 1) j b m = rWorstN s k (j + 1) j (rAway s j) by rw [rWorstN, if_pos (by omega)]]; exact ih (j + 1) _ _ I14 (by omega) hs14 hk14 (by omega) (by omega))
              | (refine ar_iinc (k := 38) (l2 := [(3, _), (2, _), (1, _), (5, _), (4, _), (0, _)]) rfl (by decide) rfl rfl ?_; refine ar_goto (k := 39) rfl ?_; refine ar_sub (l2 := [(3, vi ((j + 1 : Nat) : Int)), (2, vi (m)), (1, vi (b)), (0, vr (some 69))]) (tw_s (tw_e 0 rfl (by omega)) (tw_s (tw_g 1 rfl) (tw_s (tw_g 2 rfl) (tw_s (tw_g 5 rfl) tw_s0)))) ?_; rw [show rWorstN s (k + 1) j b m = rWorstN s k (j + 1) b m by rw [rWorstN, if_neg (by omega)]]; exact ih (j + 1) _ _ I14 (by omega) hs14 hk14 (by omega) (by omega))
          · refine ar_iload (k := 34) rfl rfl ?_
            refine ar_goto (k := 35) rfl ?_
            refine ar_istoren (k := 37) (l2 := [(2, _), (1, _), (5, _), (4, _), (3, _), (0, _)]) rfl (by decide) rfl ?_
            first
              | (exfalso; omega)
              | (refine ar_iinc (k := 38) (l2 := [(3, _), (2, _), (1, _), (5, _), (4, _), (0, _)]) rfl (by decide) rfl rfl ?_; refine ar_goto (k := 39) rfl ?_; refine ar_sub (l2 := [(3, vi ((j + 1 : Nat) : Int)), (2, vi (rAway s j)), (1, vi ((j : Int))), (0, vr (some 69))]) (tw_s (tw_e 0 rfl (by omega)) (tw_s (tw_g 1 rfl) (tw_s (tw_g 2 rfl) (tw_s (tw_g 5 rfl) tw_s0)))) ?_; rw [show rWorstN s (k + 1) j b m = rWorstN s k (j + 1) j (rAway s j) by rw [rWorstN, if_pos (by omega)]]; exact ih (j + 1) _ _ I14 (by omega) hs14 hk14 (by omega) (by omega))
              | (refine ar_iinc (k := 38) (l2 := [(3, _), (2, _), (1, _), (5, _), (4, _), (0, _)]) rfl (by decide) rfl rfl ?_; refine ar_goto (k := 39) rfl ?_; refine ar_sub (l2 := [(3, vi ((j + 1 : Nat) : Int)), (2, vi (m)), (1, vi (b)), (0, vr (some 69))]) (tw_s (tw_e 0 rfl (by omega)) (tw_s (tw_g 1 rfl) (tw_s (tw_g 2 rfl) (tw_s (tw_g 5 rfl) tw_s0)))) ?_; rw [show rWorstN s (k + 1) j b m = rWorstN s k (j + 1) b m by rw [rWorstN, if_neg (by omega)]]; exact ih (j + 1) _ _ I14 (by omega) hs14 hk14 (by omega) (by omega))
        · refine ar_iloadn (k := 28) rfl rfl ?_
          refine ar_goto (k := 29) rfl ?_
          refine ar_istoren (k := 31) (l2 := [(1, _), (5, _), (4, _), (3, _), (2, _), (0, _)]) rfl (by decide) rfl ?_
          refine ar_iload (k := 32) rfl rfl ?_
          refine ar_if_eq (k := 33) rfl (by omega) (fun c33 => ?_) (fun c33 => ?_)
          · refine ar_iloadn (k := 36) rfl rfl ?_
            refine ar_istoren (k := 37) (l2 := [(2, _), (1, _), (5, _), (4, _), (3, _), (0, _)]) rfl (by decide) rfl ?_
            first
              | (exfalso; omega)
              | (refine ar_iinc (k := 38) (l2 := [(3, _), (2, _), (1, _), (5, _), (4, _), (0, _)]) rfl (by decide) rfl rfl ?_; refine ar_goto (k := 39) rfl ?_; refine ar_sub (l2 := [(3, vi ((j + 1 : Nat) : Int)), (2, vi (rAway s j)), (1, vi ((j : Int))), (0, vr (some 69))]) (tw_s (tw_e 0 rfl (by omega)) (tw_s (tw_g 1 rfl) (tw_s (tw_g 2 rfl) (tw_s (tw_g 5 rfl) tw_s0)))) ?_; rw [show rWorstN s (k + 1) j b m = rWorstN s k (j + 1) j (rAway s j) by rw [rWorstN, if_pos (by omega)]]; exact ih (j + 1) _ _ I14 (by omega) hs14 hk14 (by omega) (by omega))
              | (refine ar_iinc (k := 38) (l2 := [(3, _), (2, _), (1, _), (5, _), (4, _), (0, _)]) rfl (by decide) rfl rfl ?_; refine ar_goto (k := 39) rfl ?_; refine ar_sub (l2 := [(3, vi ((j + 1 : Nat) : Int)), (2, vi (m)), (1, vi (b)), (0, vr (some 69))]) (tw_s (tw_e 0 rfl (by omega)) (tw_s (tw_g 1 rfl) (tw_s (tw_g 2 rfl) (tw_s (tw_g 5 rfl) tw_s0)))) ?_; rw [show rWorstN s (k + 1) j b m = rWorstN s k (j + 1) b m by rw [rWorstN, if_neg (by omega)]]; exact ih (j + 1) _ _ I14 (by omega) hs14 hk14 (by omega) (by omega))
          · refine ar_iload (k := 34) rfl rfl ?_
            refine ar_goto (k := 35) rfl ?_
            refine ar_istoren (k := 37) (l2 := [(2, _), (1, _), (5, _), (4, _), (3, _), (0, _)]) rfl (by decide) rfl ?_
            first
              | (exfalso; omega)
              | (refine ar_iinc (k := 38) (l2 := [(3, _), (2, _), (1, _), (5, _), (4, _), (0, _)]) rfl (by decide) rfl rfl ?_; refine ar_goto (k := 39) rfl ?_; refine ar_sub (l2 := [(3, vi ((j + 1 : Nat) : Int)), (2, vi (rAway s j)), (1, vi ((j : Int))), (0, vr (some 69))]) (tw_s (tw_e 0 rfl (by omega)) (tw_s (tw_g 1 rfl) (tw_s (tw_g 2 rfl) (tw_s (tw_g 5 rfl) tw_s0)))) ?_; rw [show rWorstN s (k + 1) j b m = rWorstN s k (j + 1) j (rAway s j) by rw [rWorstN, if_pos (by omega)]]; exact ih (j + 1) _ _ I14 (by omega) hs14 hk14 (by omega) (by omega))
              | (refine ar_iinc (k := 38) (l2 := [(3, _), (2, _), (1, _), (5, _), (4, _), (0, _)]) rfl (by decide) rfl rfl ?_; refine ar_goto (k := 39) rfl ?_; refine ar_sub (l2 := [(3, vi ((j + 1 : Nat) : Int)), (2, vi (m)), (1, vi (b)), (0, vr (some 69))]) (tw_s (tw_e 0 rfl (by omega)) (tw_s (tw_g 1 rfl) (tw_s (tw_g 2 rfl) (tw_s (tw_g 5 rfl) tw_s0)))) ?_; rw [show rWorstN s (k + 1) j b m = rWorstN s k (j + 1) b m by rw [rWorstN, if_neg (by omega)]]; exact ih (j + 1) _ _ I14 (by omega) hs14 hk14 (by omega) (by omega))
      · refine ar_iload (k := 19) rfl rfl ?_
        refine ar_iloadn (k := 20) rfl rfl ?_
        refine ar_icmp_le (k := 21) rfl (by omega) (by omega) (fun c21 => ?_) (fun c21 => ?_)
        · refine ar_iconst (k := 24) rfl ?_
          refine ar_istore (k := 25) (l2 := [(5, _), (4, _), (3, _), (2, _), (1, _), (0, _)]) rfl (by decide) rfl ?_
          refine ar_iload (k := 26) rfl rfl ?_
          refine ar_if_eq (k := 27) rfl (by omega) (fun c27 => ?_) (fun c27 => ?_)
          · refine ar_iloadn (k := 30) rfl rfl ?_
            refine ar_istoren (k := 31) (l2 := [(1, _), (5, _), (4, _), (3, _), (2, _), (0, _)]) rfl (by decide) rfl ?_
            refine ar_iload (k := 32) rfl rfl ?_
            refine ar_if_eq (k := 33) rfl (by omega) (fun c33 => ?_) (fun c33 => ?_)
            · refine ar_iloadn (k := 36) rfl rfl ?_
              refine ar_istoren (k := 37) (l2 := [(2, _), (1, _), (5, _), (4, _), (3, _), (0, _)]) rfl (by decide) rfl ?_
              first
                | (exfalso; omega)
                | (refine ar_iinc (k := 38) (l2 := [(3, _), (2, _), (1, _), (5, _), (4, _), (0, _)]) rfl (by decide) rfl rfl ?_; refine ar_goto (k := 39) rfl ?_; refine ar_sub (l2 := [(3, vi ((j + 1 : Nat) : Int)), (2, vi (rAway s j)), (1, vi ((j : Int))), (0, vr (some 69))]) (tw_s (tw_e 0 rfl (by omega)) (tw_s (tw_g 1 rfl) (tw_s (tw_g 2 rfl) (tw_s (tw_g 5 rfl) tw_s0)))) ?_; rw [show rWorstN s (k + 1) j b m = rWorstN s k (j + 1) j (rAway s j) by rw [rWorstN, if_pos (by omega)]]; exact ih (j + 1) _ _ I14 (by omega) hs14 hk14 (by omega) (by omega))
                | (refine ar_iinc (k := 38) (l2 := [(3, _), (2, _), (1, _), (5, _), (4, _), (0, _)]) rfl (by decide) rfl rfl ?_; refine ar_goto (k := 39) rfl ?_; refine ar_sub (l2 := [(3, vi ((j + 1 : Nat) : Int)), (2, vi (m)), (1, vi (b)), (0, vr (some 69))]) (tw_s (tw_e 0 rfl (by omega)) (tw_s (tw_g 1 rfl) (tw_s (tw_g 2 rfl) (tw_s (tw_g 5 rfl) tw_s0)))) ?_; rw [show rWorstN s (k + 1) j b m = rWorstN s k (j + 1) b m by rw [rWorstN, if_neg (by omega)]]; exact ih (j + 1) _ _ I14 (by omega) hs14 hk14 (by omega) (by omega))
            · refine ar_iload (k := 34) rfl rfl ?_
              refine ar_goto (k := 35) rfl ?_
              refine ar_istoren (k := 37) (l2 := [(2, _), (1, _), (5, _), (4, _), (3, _), (0, _)]) rfl (by decide) rfl ?_
              first
                | (exfalso; omega)
                | (refine ar_iinc (k := 38) (l2 := [(3, _), (2, _), (1, _), (5, _), (4, _), (0, _)]) rfl (by decide) rfl rfl ?_; refine ar_goto (k := 39) rfl ?_; refine ar_sub (l2 := [(3, vi ((j + 1 : Nat) : Int)), (2, vi (rAway s j)), (1, vi ((j : Int))), (0, vr (some 69))]) (tw_s (tw_e 0 rfl (by omega)) (tw_s (tw_g 1 rfl) (tw_s (tw_g 2 rfl) (tw_s (tw_g 5 rfl) tw_s0)))) ?_; rw [show rWorstN s (k + 1) j b m = rWorstN s k (j + 1) j (rAway s j) by rw [rWorstN, if_pos (by omega)]]; exact ih (j + 1) _ _ I14 (by omega) hs14 hk14 (by omega) (by omega))
                | (refine ar_iinc (k := 38) (l2 := [(3, _), (2, _), (1, _), (5, _), (4, _), (0, _)]) rfl (by decide) rfl rfl ?_; refine ar_goto (k := 39) rfl ?_; refine ar_sub (l2 := [(3, vi ((j + 1 : Nat) : Int)), (2, vi (m)), (1, vi (b)), (0, vr (some 69))]) (tw_s (tw_e 0 rfl (by omega)) (tw_s (tw_g 1 rfl) (tw_s (tw_g 2 rfl) (tw_s (tw_g 5 rfl) tw_s0)))) ?_; rw [show rWorstN s (k + 1) j b m = rWorstN s k (j + 1) b m by rw [rWorstN, if_neg (by omega)]]; exact ih (j + 1) _ _ I14 (by omega) hs14 hk14 (by omega) (by omega))
          · refine ar_iloadn (k := 28) rfl rfl ?_
            refine ar_goto (k := 29) rfl ?_
            refine ar_istoren (k := 31) (l2 := [(1, _), (5, _), (4, _), (3, _), (2, _), (0, _)]) rfl (by decide) rfl ?_
            refine ar_iload (k := 32) rfl rfl ?_
            refine ar_if_eq (k := 33) rfl (by omega) (fun c33 => ?_) (fun c33 => ?_)
            · refine ar_iloadn (k := 36) rfl rfl ?_
              refine ar_istoren (k := 37) (l2 := [(2, _), (1, _), (5, _), (4, _), (3, _), (0, _)]) rfl (by decide) rfl ?_
              first
                | (exfalso; omega)
                | (refine ar_iinc (k := 38) (l2 := [(3, _), (2, _), (1, _), (5, _), (4, _), (0, _)]) rfl (by decide) rfl rfl ?_; refine ar_goto (k := 39) rfl ?_; refine ar_sub (l2 := [(3, vi ((j + 1 : Nat) : Int)), (2, vi (rAway s j)), (1, vi ((j : Int))), (0, vr (some 69))]) (tw_s (tw_e 0 rfl (by omega)) (tw_s (tw_g 1 rfl) (tw_s (tw_g 2 rfl) (tw_s (tw_g 5 rfl) tw_s0)))) ?_; rw [show rWorstN s (k + 1) j b m = rWorstN s k (j + 1) j (rAway s j) by rw [rWorstN, if_pos (by omega)]]; exact ih (j + 1) _ _ I14 (by omega) hs14 hk14 (by omega) (by omega))
                | (refine ar_iinc (k := 38) (l2 := [(3, _), (2, _), (1, _), (5, _), (4, _), (0, _)]) rfl (by decide) rfl rfl ?_; refine ar_goto (k := 39) rfl ?_; refine ar_sub (l2 := [(3, vi ((j + 1 : Nat) : Int)), (2, vi (m)), (1, vi (b)), (0, vr (some 69))]) (tw_s (tw_e 0 rfl (by omega)) (tw_s (tw_g 1 rfl) (tw_s (tw_g 2 rfl) (tw_s (tw_g 5 rfl) tw_s0)))) ?_; rw [show rWorstN s (k + 1) j b m = rWorstN s k (j + 1) b m by rw [rWorstN, if_neg (by omega)]]; exact ih (j + 1) _ _ I14 (by omega) hs14 hk14 (by omega) (by omega))
            · refine ar_iload (k := 34) rfl rfl ?_
              refine ar_goto (k := 35) rfl ?_
              refine ar_istoren (k := 37) (l2 := [(2, _), (1, _), (5, _), (4, _), (3, _), (0, _)]) rfl (by decide) rfl ?_
              first
                | (exfalso; omega)
                | (refine ar_iinc (k := 38) (l2 := [(3, _), (2, _), (1, _), (5, _), (4, _), (0, _)]) rfl (by decide) rfl rfl ?_; refine ar_goto (k := 39) rfl ?_; refine ar_sub (l2 := [(3, vi ((j + 1 : Nat) : Int)), (2, vi (rAway s j)), (1, vi ((j : Int))), (0, vr (some 69))]) (tw_s (tw_e 0 rfl (by omega)) (tw_s (tw_g 1 rfl) (tw_s (tw_g 2 rfl) (tw_s (tw_g 5 rfl) tw_s0)))) ?_; rw [show rWorstN s (k + 1) j b m = rWorstN s k (j + 1) j (rAway s j) by rw [rWorstN, if_pos (by omega)]]; exact ih (j + 1) _ _ I14 (by omega) hs14 hk14 (by omega) (by omega))
                | (refine ar_iinc (k := 38) (l2 := [(3, _), (2, _), (1, _), (5, _), (4, _), (0, _)]) rfl (by decide) rfl rfl ?_; refine ar_goto (k := 39) rfl ?_; refine ar_sub (l2 := [(3, vi ((j + 1 : Nat) : Int)), (2, vi (m)), (1, vi (b)), (0, vr (some 69))]) (tw_s (tw_e 0 rfl (by omega)) (tw_s (tw_g 1 rfl) (tw_s (tw_g 2 rfl) (tw_s (tw_g 5 rfl) tw_s0)))) ?_; rw [show rWorstN s (k + 1) j b m = rWorstN s k (j + 1) b m by rw [rWorstN, if_neg (by omega)]]; exact ih (j + 1) _ _ I14 (by omega) hs14 hk14 (by omega) (by omega))
        · refine ar_iconst (k := 22) rfl ?_
          refine ar_goto (k := 23) rfl ?_
          refine ar_istore (k := 25) (l2 := [(5, _), (4, _), (3, _), (2, _), (1, _), (0, _)]) rfl (by decide) rfl ?_
          refine ar_iload (k := 26) rfl rfl ?_
          refine ar_if_eq (k := 27) rfl (by omega) (fun c27 => ?_) (fun c27 => ?_)
          · refine ar_iloadn (k := 30) rfl rfl ?_
            refine ar_istoren (k := 31) (l2 := [(1, _), (5, _), (4, _), (3, _), (2, _), (0, _)]) rfl (by decide) rfl ?_
            refine ar_iload (k := 32) rfl rfl ?_
            refine ar_if_eq (k := 33) rfl (by omega) (fun c33 => ?_) (fun c33 => ?_)
            · refine ar_iloadn (k := 36) rfl rfl ?_
              refine ar_istoren (k := 37) (l2 := [(2, _), (1, _), (5, _), (4, _), (3, _), (0, _)]) rfl (by decide) rfl ?_
              first
                | (exfalso; omega)
                | (refine ar_iinc (k := 38) (l2 := [(3, _), (2, _), (1, _), (5, _), (4, _), (0, _)]) rfl (by decide) rfl rfl ?_; refine ar_goto (k := 39) rfl ?_; refine ar_sub (l2 := [(3, vi ((j + 1 : Nat) : Int)), (2, vi (rAway s j)), (1, vi ((j : Int))), (0, vr (some 69))]) (tw_s (tw_e 0 rfl (by omega)) (tw_s (tw_g 1 rfl) (tw_s (tw_g 2 rfl) (tw_s (tw_g 5 rfl) tw_s0)))) ?_; rw [show rWorstN s (k + 1) j b m = rWorstN s k (j + 1) j (rAway s j) by rw [rWorstN, if_pos (by omega)]]; exact ih (j + 1) _ _ I14 (by omega) hs14 hk14 (by omega) (by omega))
                | (refine ar_iinc (k := 38) (l2 := [(3, _), (2, _), (1, _), (5, _), (4, _), (0, _)]) rfl (by decide) rfl rfl ?_; refine ar_goto (k := 39) rfl ?_; refine ar_sub (l2 := [(3, vi ((j + 1 : Nat) : Int)), (2, vi (m)), (1, vi (b)), (0, vr (some 69))]) (tw_s (tw_e 0 rfl (by omega)) (tw_s (tw_g 1 rfl) (tw_s (tw_g 2 rfl) (tw_s (tw_g 5 rfl) tw_s0)))) ?_; rw [show rWorstN s (k + 1) j b m = rWorstN s k (j + 1) b m by rw [rWorstN, if_neg (by omega)]]; exact ih (j + 1) _ _ I14 (by omega) hs14 hk14 (by omega) (by omega))
            · refine ar_iload (k := 34) rfl rfl ?_
              refine ar_goto (k := 35) rfl ?_
              refine ar_istoren (k := 37) (l2 := [(2, _), (1, _), (5, _), (4, _), (3, _), (0, _)]) rfl (by decide) rfl ?_
              first
                | (exfalso; omega)
                | (refine ar_iinc (k := 38) (l2 := [(3, _), (2, _), (1, _), (5, _), (4, _), (0, _)]) rfl (by decide) rfl rfl ?_; refine ar_goto (k := 39) rfl ?_; refine ar_sub (l2 := [(3, vi ((j + 1 : Nat) : Int)), (2, vi (rAway s j)), (1, vi ((j : Int))), (0, vr (some 69))]) (tw_s (tw_e 0 rfl (by omega)) (tw_s (tw_g 1 rfl) (tw_s (tw_g 2 rfl) (tw_s (tw_g 5 rfl) tw_s0)))) ?_; rw [show rWorstN s (k + 1) j b m = rWorstN s k (j + 1) j (rAway s j) by rw [rWorstN, if_pos (by omega)]]; exact ih (j + 1) _ _ I14 (by omega) hs14 hk14 (by omega) (by omega))
                | (refine ar_iinc (k := 38) (l2 := [(3, _), (2, _), (1, _), (5, _), (4, _), (0, _)]) rfl (by decide) rfl rfl ?_; refine ar_goto (k := 39) rfl ?_; refine ar_sub (l2 := [(3, vi ((j + 1 : Nat) : Int)), (2, vi (m)), (1, vi (b)), (0, vr (some 69))]) (tw_s (tw_e 0 rfl (by omega)) (tw_s (tw_g 1 rfl) (tw_s (tw_g 2 rfl) (tw_s (tw_g 5 rfl) tw_s0)))) ?_; rw [show rWorstN s (k + 1) j b m = rWorstN s k (j + 1) b m by rw [rWorstN, if_neg (by omega)]]; exact ih (j + 1) _ _ I14 (by omega) hs14 hk14 (by omega) (by omega))
          · refine ar_iloadn (k := 28) rfl rfl ?_
            refine ar_goto (k := 29) rfl ?_
            refine ar_istoren (k := 31) (l2 := [(1, _), (5, _), (4, _), (3, _), (2, _), (0, _)]) rfl (by decide) rfl ?_
            refine ar_iload (k := 32) rfl rfl ?_
            refine ar_if_eq (k := 33) rfl (by omega) (fun c33 => ?_) (fun c33 => ?_)
            · refine ar_iloadn (k := 36) rfl rfl ?_
              refine ar_istoren (k := 37) (l2 := [(2, _), (1, _), (5, _), (4, _), (3, _), (0, _)]) rfl (by decide) rfl ?_
              first
                | (exfalso; omega)
                | (refine ar_iinc (k := 38) (l2 := [(3, _), (2, _), (1, _), (5, _), (4, _), (0, _)]) rfl (by decide) rfl rfl ?_; refine ar_goto (k := 39) rfl ?_; refine ar_sub (l2 := [(3, vi ((j + 1 : Nat) : Int)), (2, vi (rAway s j)), (1, vi ((j : Int))), (0, vr (some 69))]) (tw_s (tw_e 0 rfl (by omega)) (tw_s (tw_g 1 rfl) (tw_s (tw_g 2 rfl) (tw_s (tw_g 5 rfl) tw_s0)))) ?_; rw [show rWorstN s (k + 1) j b m = rWorstN s k (j + 1) j (rAway s j) by rw [rWorstN, if_pos (by omega)]]; exact ih (j + 1) _ _ I14 (by omega) hs14 hk14 (by omega) (by omega))
                | (refine ar_iinc (k := 38) (l2 := [(3, _), (2, _), (1, _), (5, _), (4, _), (0, _)]) rfl (by decide) rfl rfl ?_; refine ar_goto (k := 39) rfl ?_; refine ar_sub (l2 := [(3, vi ((j + 1 : Nat) : Int)), (2, vi (m)), (1, vi (b)), (0, vr (some 69))]) (tw_s (tw_e 0 rfl (by omega)) (tw_s (tw_g 1 rfl) (tw_s (tw_g 2 rfl) (tw_s (tw_g 5 rfl) tw_s0)))) ?_; rw [show rWorstN s (k + 1) j b m = rWorstN s k (j + 1) b m by rw [rWorstN, if_neg (by omega)]]; exact ih (j + 1) _ _ I14 (by omega) hs14 hk14 (by omega) (by omega))
            · refine ar_iload (k := 34) rfl rfl ?_
              refine ar_goto (k := 35) rfl ?_
              refine ar_istoren (k := 37) (l2 := [(2, _), (1, _), (5, _), (4, _), (3, _), (0, _)]) rfl (by decide) rfl ?_
              first
                | (exfalso; omega)
                | (refine ar_iinc (k := 38) (l2 := [(3, _), (2, _), (1, _), (5, _), (4, _), (0, _)]) rfl (by decide) rfl rfl ?_; refine ar_goto (k := 39) rfl ?_; refine ar_sub (l2 := [(3, vi ((j + 1 : Nat) : Int)), (2, vi (rAway s j)), (1, vi ((j : Int))), (0, vr (some 69))]) (tw_s (tw_e 0 rfl (by omega)) (tw_s (tw_g 1 rfl) (tw_s (tw_g 2 rfl) (tw_s (tw_g 5 rfl) tw_s0)))) ?_; rw [show rWorstN s (k + 1) j b m = rWorstN s k (j + 1) j (rAway s j) by rw [rWorstN, if_pos (by omega)]]; exact ih (j + 1) _ _ I14 (by omega) hs14 hk14 (by omega) (by omega))
                | (refine ar_iinc (k := 38) (l2 := [(3, _), (2, _), (1, _), (5, _), (4, _), (0, _)]) rfl (by decide) rfl rfl ?_; refine ar_goto (k := 39) rfl ?_; refine ar_sub (l2 := [(3, vi ((j + 1 : Nat) : Int)), (2, vi (m)), (1, vi (b)), (0, vr (some 69))]) (tw_s (tw_e 0 rfl (by omega)) (tw_s (tw_g 1 rfl) (tw_s (tw_g 2 rfl) (tw_s (tw_g 5 rfl) tw_s0)))) ?_; rw [show rWorstN s (k + 1) j b m = rWorstN s k (j + 1) b m by rw [rWorstN, if_neg (by omega)]]; exact ih (j + 1) _ _ I14 (by omega) hs14 hk14 (by omega) (by omega))
theorem c_R_worst (hS : tSt (K, I, Q, n)) (hs : I 70 = s) (hR : RInv s) (hV : RVal s) : tw_K l G 18 mR_worst [vr (some 69)] K I Q n (some (vi (rWorstN s (s 0).toNat 0 (-5) 0))) := by
  obtain ⟨h0, h1, h2, h3, h4, h5, h6, hp, hrw, ht, hr, hb, htp, hv⟩ := id hR
  refine tw_intro okR_worst (Nat.le_of_ble_eq_true rfl) ?_
  refine ar_bipush (k := 0) rfl (by decide) ?_
  refine ar_istoren (k := 1) (l2 := [(1, _), (0, _)]) rfl (by decide) rfl ?_
  refine ar_iconst (k := 2) rfl ?_
  refine ar_istoren (k := 3) (l2 := [(2, _), (1, _), (0, _)]) rfl (by decide) rfl ?_
  refine ar_iconst (k := 4) rfl ?_
  refine ar_istoren (k := 5) (l2 := [(3, _), (2, _), (1, _), (0, _)]) rfl (by decide) rfl ?_
  refine ar_sub (l2 := [(3, vi ((0 : Nat) : Int)), (2, vi 0), (1, vi (-5)), (0, vr (some 69))]) (tw_s (tw_e 0 rfl (by rfl)) (tw_s (tw_g 1 rfl) (tw_s (tw_g 2 rfl) (tw_s (tw_g 3 rfl) tw_s0)))) ?_
  exact l_R_worst (I := I) hS hR hV _ 0 (-5) 0 I (by omega) hs rq.rf (Or.inl rfl) (by decide)
end RI
