theorem smV_sh {g : Nat → Int} {c : Int} : ∀ (k j : Nat) (a : Int), smV g k j (a + c) = smV g k j a + c
  | 0, _, _ => rfl
  | k + 1, j, a => by rw [smV, smV, show a + c + g j = a + g j + c by omega]; exact smV_sh k (j + 1) _
theorem smV_up {g g' : Nat → Int} {i : Nat} (h : ∀ t, t ≠ i → g' t = g t) : ∀ (k j : Nat) (a : Int), (j ≤ i → i < j + k → smV g' k j a = smV g k j a + (g' i - g i)) ∧ (i < j → smV g' k j a = smV g k j a)
  | 0, j, a => ⟨fun h1 h2 => by omega, fun _ => rfl⟩
  | k + 1, j, a => by
    have ih := smV_up h k (j + 1)
    refine ⟨fun h1 h2 => ?_, fun h1 => ?_⟩
    · rw [smV, smV]
      by_cases e : j = i
      · subst e
        rw [(ih _).2 (by omega), show a + g' j = a + g j + (g' j - g j) by omega, smV_sh]
      · rw [(ih _).1 (by omega) (by omega), h j e]
    · rw [smV, smV, (ih _).2 (by omega), h j (by omega)]
theorem smV_c {c : Int} : ∀ (k j : Nat) (a : Int), smV (fun _ => c) k j a = a + c * (k : Int)
  | 0, _, a => by rw [smV]; omega
  | k + 1, j, a => by
    rw [smV, smV_c k (j + 1)]
    have : c * ((k + 1 : Nat) : Int) = c * (k : Int) + c := by rw [Int.natCast_add, Int.mul_add]; omega
    omega
/-- how many tools are single -/
def cS (s : Int → Int) : Int := smV (fun t => if s (94 + (t : Int)) = -1 then 1 else 0) (s 1).toNat 0 0
section JS2
variable {s : Int → Int}
theorem cS_one {i x : Int} (h1 : 0 ≤ s 1) (i1 : 0 ≤ i ∧ i < s 1) (hi : s (94 + i) = -1) (hx : x ≠ -1) : cS (up s (94 + i) x) = cS s - 1 := by
  obtain ⟨m, rfl⟩ : ∃ m : Nat, i = (m : Int) := ⟨i.toNat, by omega⟩
  unfold cS
  rw [up_ne _ _ (show (1 : Int) ≠ 94 + (m : Int) by omega)]
  have := (smV_up (g := fun t : Nat => if s (94 + (t : Int)) = -1 then (1 : Int) else 0) (g' := fun t : Nat => if up s (94 + (m : Int)) x (94 + (t : Int)) = -1 then (1 : Int) else 0) (i := m) (fun t ht => by show (if up s (94 + (m : Int)) x (94 + (t : Int)) = -1 then (1 : Int) else 0) = _; rw [up_ne _ _ (by omega)]) (s 1).toNat 0 0).1 (by omega) (by omega)
  rw [this]
  show _ + ((if up s (94 + (m : Int)) x (94 + (m : Int)) = -1 then (1 : Int) else 0) - (if s (94 + (m : Int)) = -1 then 1 else 0)) = _
  rw [up_at, if_neg hx, if_pos hi]
  omega
theorem cS_pair {a b : Int} (h1 : 0 ≤ s 1) (a1 : 0 ≤ a ∧ a < s 1) (b1 : 0 ≤ b ∧ b < s 1) (hab : a ≠ b) (ha : s (94 + a) = -1) (hb : s (94 + b) = -1) : cS (rPair s a b) = cS s - 2 := by
  have e1 : up s (94 + a) b 1 = s 1 := up_ne _ _ (by omega)
  unfold rPair
  rw [cS_one (by rw [e1]; exact h1) (by rw [e1]; exact b1) (by rw [up_ne _ _ (by omega)]; exact hb) (by omega), cS_one h1 a1 ha (by omega)]
  omega
theorem cS_0 (h : ∀ t : Nat, (t : Int) < s 1 → s (94 + (t : Int)) ≠ -1) : cS s = 0 := by
  unfold cS
  rw [smV_cg (g' := fun _ => 0) (m := (s 1).toNat) (fun i hi => by show (if s (94 + (i : Int)) = -1 then (1 : Int) else 0) = 0; rw [if_neg (h i (by omega))]) _ _ _ (by omega), smV_c]
  omega
theorem cS_clr (h1 : 0 ≤ s 1) : cS (rClr s) = s 1 := by
  unfold cS
  have e1 : rClr s 1 = s 1 := by rw [rClr_at h1, if_neg (by omega)]
  rw [e1, smV_cg (g' := fun _ => 1) (m := (s 1).toNat) (fun i hi => by show (if rClr s (94 + (i : Int)) = -1 then (1 : Int) else 0) = 1; rw [rClr_at h1]; rw [if_pos (by rw [if_pos (by omega)])]) _ _ _ (by omega), smV_c]
  omega
/-- a single one, and no other -/
theorem cS_two {a : Int} (h1 : 0 ≤ s 1) (a1 : 0 ≤ a ∧ a < s 1) (ha : s (94 + a) = -1) (h : ∀ t : Nat, (t : Int) < s 1 → (t : Int) ≠ a → s (94 + (t : Int)) ≠ -1) : cS s = 1 := by
  have e := cS_one (x := 0) h1 a1 ha (by decide)
  have z : cS (up s (94 + a) 0) = 0 := cS_0 (fun t ht => by
    rw [up_ne _ _ (by omega)] at ht
    by_cases g : (t : Int) = a
    · rw [g, up_at]; decide
    · rw [up_ne _ _ (by omega)]; exact h t ht g)
  omega
theorem rJl_one {q : tJS} (hq : q.1 = 0 ∨ q.1 = 1) : (rJl s q).1 = 1 := by
  unfold rJl
  split
  · rfl
  · omega
theorem rJb_st {rec : (Int → Int) → tJS → tJS} {a : Int} (hr : ∀ (x : Int → Int) (q : tJS), q.1 = 1 → (rec x q).1 = 1) : ∀ (k b : Nat) (q : tJS), q.1 = 1 → (rJb rec s a k b q).1 = 1
  | 0, _, _, h => h
  | k + 1, b, q, h => by
    rw [rJb]
    refine rJb_st hr k (b + 1) _ ?_
    split
    · exact hr _ _ h
    · exact h
theorem rJ_st : ∀ (e : Nat) (s : Int → Int) (q : tJS), q.1 = 1 → (rJ e s q).1 = 1
  | 0, _, _, h => h
  | e + 1, s, q, h => by
    rw [rJ]
    split
    · exact rJl_one (Or.inr h)
    · exact rJb_st (fun x q hq => rJ_st e x q hq) _ _ q h
theorem rJb_one {rec : (Int → Int) → tJS → tJS} {a : Int} {c : Nat} (hc : s (94 + (c : Int)) = -1) (hs : ∀ (x : Int → Int) (q : tJS), q.1 = 1 → (rec x q).1 = 1) (hr : ∀ q : tJS, (q.1 = 0 ∨ q.1 = 1) → (rec (rPair s a c) q).1 = 1) (h01 : ∀ (b : Nat) (q : tJS), (q.1 = 0 ∨ q.1 = 1) → s (94 + (b : Int)) = -1 → ((rec (rPair s a b) q).1 = 0 ∨ (rec (rPair s a b) q).1 = 1)) : ∀ (k b : Nat) (q : tJS), b ≤ c → c < b + k → (q.1 = 0 ∨ q.1 = 1) → (rJb rec s a k b q).1 = 1
  | 0, b, q, h1, h2, _ => by omega
  | k + 1, b, q, h1, h2, hq => by
    rw [rJb]
    by_cases g : b = c
    · subst g
      rw [if_pos hc]
      exact rJb_st hs k (b + 1) _ (hr q hq)
    · refine rJb_one hc hs hr h01 k (b + 1) _ (by omega) (by omega) ?_
      split
      · rename_i y; exact h01 b q hq y
      · exact hq
theorem rJ_01 : ∀ (e : Nat) (s : Int → Int) (q : tJS), (q.1 = 0 ∨ q.1 = 1) → ((rJ e s q).1 = 0 ∨ (rJ e s q).1 = 1)
  | 0, _, _, h => h
  | e + 1, s, q, h => by
    rw [rJ]
    split
    · exact Or.inr (rJl_one h)
    · have : ∀ (k b : Nat) (q : tJS), (q.1 = 0 ∨ q.1 = 1) → ((rJb (rJ e) s (rFst s) k b q).1 = 0 ∨ (rJb (rJ e) s (rFst s) k b q).1 = 1) := by
        intro k
        induction k with
        | zero => intro b q h; exact h
        | succ k ih =>
          intro b q h
          rw [rJb]
          refine ih (b + 1) _ ?_
          split
          · exact rJ_01 e _ _ h
          · exact h
      exact this _ _ q h
theorem rJ_one : ∀ (e : Nat) (s : Int → Int) (q : tJS), 0 ≤ s 1 → s 1 - rFst s < (e : Int) → cS s % 2 = 0 → (q.1 = 0 ∨ q.1 = 1) → (rJ e s q).1 = 1
  | 0, s, q, h1, h2, _, _ => by have := (rFst_le (s := s) h1).2.1; omega
  | e + 1, s, q, h1, h2, h3, hq => by
    obtain ⟨f1, f2, f3, f4⟩ := rFst_le (s := s) h1
    rw [rJ]
    by_cases g : rFst s = s 1
    · rw [if_pos g]; exact rJl_one hq
    · rw [if_neg g]
      have fs := f3 (by omega)
      by_cases ex : ∃ c : Nat, rFst s < (c : Int) ∧ (c : Int) < s 1 ∧ s (94 + (c : Int)) = -1
      · obtain ⟨c, c1, c2, c3⟩ := ex
        refine rJb_one c3 (fun x q hq => rJ_st e x q hq) (fun q hq => ?_) (fun b q hq _ => rJ_01 e _ _ hq) _ _ q (by omega) (by omega) hq
        have p1 : rPair s (rFst s) (c : Int) 1 = s 1 := rPair_1 f1 (by omega)
        have p2 := rFst_pair (b := (c : Int)) h1 (by omega) ⟨c1, c2⟩
        exact rJ_one e _ q (by rw [p1]; exact h1) (by rw [p1]; omega) (by rw [cS_pair h1 ⟨f1, by omega⟩ ⟨by omega, c2⟩ (by omega) fs c3]; omega) hq
      · exfalso
        have := cS_two h1 ⟨f1, by omega⟩ fs (fun t ht hne z => by
          rcases (show (t : Int) < rFst s ∨ rFst s < (t : Int) by omega) with y | y
          · exact f4 t y z
          · exact ex ⟨t, y, ht, z⟩)
        omega
theorem rPart_pair {a b : Int} (hab : a ≠ b) (b0 : 0 ≤ b) (ha : s (94 + a) = -1) (hb : s (94 + b) = -1) : rPart (rPair s a b) a = s := by
  have e1 : rPair s a b (94 + a) = b := by unfold rPair; rw [up_ne _ _ (by omega), up_at]
  unfold rPart
  rw [e1, if_pos (by omega)]
  funext j
  unfold rPair up
  by_cases h1 : j = 94 + a
  · subst h1; simp [ha]
  · by_cases h2 : j = 94 + b
    · subst h2; simp [h1, hb]
    · simp [h1, h2]
theorem rCpN_at {t : Int} : ∀ (k j : Nat) (g : Int → Int), (j : Int) ≤ t → t < (j + k : Nat) → rCpN s k j g t = s (94 + t)
  | 0, j, g, h1, h2 => by omega
  | k + 1, j, g, h1, h2 => by
    rw [rCpN]
    by_cases e : t = (j : Int)
    · subst e
      have lo : ∀ (k j' : Nat) (g : Int → Int), j < j' → rCpN s k j' g (j : Int) = g (j : Int) := by
        intro k
        induction k with
        | zero => intro j' g _; rfl
        | succ k ih => intro j' g h; rw [rCpN, ih (j' + 1) _ (by omega), up_ne _ _ (by omega)]
      rw [lo k (j + 1) _ (by omega), up_at]
    · exact rCpN_at k (j + 1) _ (by omega) (by omega)
end JS2
/-- the class's best row of twins against the reference's -/
def JR (J : Nat → Int → Int) (N : Int) (q : tJS) : Prop := (q.1 = 0 ∧ J 40 19 = -1) ∨ (q.1 = 1 ∧ J 40 19 = q.2.1 ∧ (0 ≤ q.2.1 ∧ q.2.1 ≤ 12000000) ∧ ∀ t : Int, 0 ≤ t → t < N → J 60 t = q.2.2 t)
theorem JR.k {I J : Nat → Int → Int} {N : Int} {q : tJS} (h : JR I N q) (e1 : J 40 19 = I 40 19) (e2 : J 60 = I 60) : JR J N q := by unfold JR at *; rw [e1, e2]; exact h
theorem rBestDay_0 {s : Int → Int} (hR : RInv s) : 0 ≤ rBestDay s := by
  have := smV_le (g := fun _ => 0) (g' := fun u : Nat => (rMost s (u : Int)).1) (m := 24) (fun u _ => rMost_0 hR) 24 0 0 0 (by omega) (by omega)
  rw [smV_c] at this
  unfold rBestDay
  omega
section CJ3
variable {l : Launch} {G : tG} {K : Nat → Nat × Nat} {I J : Nat → Int → Int} {Q R : Nat → Int → Option Nat} {n : Nat} {s s2 : Int → Int}
theorem GU.fw {a : Nat} (h : GU K I Q n s) (ha : 27 ≤ a ∧ a < 40) (e : ∀ x, x ≠ a → J x = I x) (hN : WN 27 J s2) (e1 : ∀ j, j = 0 ∨ (10 ≤ j ∧ j < 34) → s2 j = s j) (e2 : ∀ j, j = 2 ∨ 274 ≤ j → s2 j = s j) (b : s 0 ≤ 8) : GU K J Q n s2 := by
  obtain ⟨a1, a2, a3, a4, a5, a6⟩ := h
  refine ⟨a1, hN, fun p p1 p2 => ?_, fun y y1 y2 => ?_, by rw [e _ (by omega)]; exact a5, by rw [e _ (by omega)]; exact a6⟩
  · obtain ⟨c, b1, b2⟩ := (a3.se e1 b) p p1 p2
    refine ⟨c, b1, b2.1, b2.2.1, b2.2.2.1, ?_⟩
    rw [e _ (by have := b2.1; omega)]; exact b2.2.2.2
  · obtain ⟨v, C, b1, b2, b3, b4, b5⟩ := (a4.se e2) y y1 y2
    have hv := b2.1
    exact ⟨v, C, b1, b2, by rw [e _ (by omega)]; exact b3, b4.g ⟨e _ (by omega), e _ (by omega), e _ (by omega), e _ (by omega)⟩, b5⟩
theorem cg.fw {a : Nat} {L : Nat → Int → Int} (h : cg K I J) (ha : 27 ≤ a ∧ a < 40) (e : ∀ x, x ≠ a → L x = J x) : cg K I L := h.trans ⟨fun b b1 _ _ => e b (by omega), by rw [e _ (by omega)], by rw [e _ (by omega)]⟩
theorem l_W_leastSingle (hS : tSt (K, I, Q, n)) (hN : WN 27 I s) (hR : RInv s) : ∀ (k : Nat) (j : Nat), j + k = (s 1).toNat → tw_AW l G mW_leastSingle 1 0 0 n 0 (tw_fn (some (vi (fstD (-5) (fun t => decide (s (94 + (t : Int)) = -1)) k j))) (K, I, Q, n)) 2 [(1, vi (j : Int)), (0, vr (some 27))] [] (K, I, Q, n) := by
  obtain ⟨h0, h1, h2, h3, h4, h5, h6, hp, hrw, ht, hr, hb, htp, hv⟩ := id hR
  intro k
  induction k with
  | zero =>
    intro j hj
    refine ar_iloadn (k := 2) rfl rfl ?_
    refine ar_aloadn (k := 3) rfl rfl ?_
    refine br_getIz (k := 4) (z := 12) rfl (hS.k (by decide)) flW_56_10 (by decide) rfl rfl ?_
    refine tw_top (WN.tc hN) ?_
    refine ar_icmp_ge (k := 5) rfl (by omega) (by omega) (fun c5 => ?_) (fun c5 => ?_)
    · refine ar_bipush (k := 15) rfl (by decide) ?_
      refine ar_iret (k := 16) rfl rfl rfl (Nat.le_refl _) ?_
      exact ⟨rfl, rfl⟩
    · exfalso; omega
  | succ k ih =>
    intro j hj
    refine ar_iloadn (k := 2) rfl rfl ?_
    refine ar_aloadn (k := 3) rfl rfl ?_
    refine br_getIz (k := 4) (z := 12) rfl (hS.k (by decide)) flW_56_10 (by decide) rfl rfl ?_
    refine tw_top (WN.tc hN) ?_
    refine ar_icmp_ge (k := 5) rfl (by omega) (by omega) (fun c5 => ?_) (fun c5 => ?_)
    · exfalso; omega
    · have w1 := ht (j : Int) (by omega) (by omega)
      refine ar_aloadn (k := 6) rfl rfl ?_
      refine br_getR (k := 7) rfl (hS.k (by decide)) flW_50_10 (by decide) rfl (hS.r rfl) ?_
      refine ar_iloadn (k := 8) rfl rfl ?_
      refine br_iald (k := 9) rfl (hS.k (by decide)) (by omega) (by omega) (by decide) ?_
      refine tw_top (WN.tw hN (by omega) (by omega)) ?_
      refine ar_if_ge (k := 10) rfl (by omega) (fun c10 => ?_) (fun c10 => ?_)
      · refine ar_iinc (k := 13) (l2 := [(1, _), (0, _)]) rfl (by decide) rfl rfl ?_
        refine ar_goto (k := 14) rfl ?_
        refine ar_sub (l2 := [(1, vi ((j + 1 : Nat) : Int)), (0, vr (some 27))]) (tw_s (tw_e 0 rfl (by omega)) (tw_s (tw_g 1 rfl) tw_s0)) ?_
        rw [fstD, if_neg (by simp only [decide_eq_true_eq]; omega)]
        exact ih (j + 1) (by omega)
      · refine ar_iloadn (k := 11) rfl rfl ?_
        refine ar_iret (k := 12) rfl rfl rfl (Nat.le_refl _) ?_
        rw [fstD, if_pos (by simp only [decide_eq_true_eq]; omega)]
        exact ⟨rfl, rfl⟩
theorem c_W_leastSingle (hS : tSt (K, I, Q, n)) (hN : WN 27 I s) (hR : RInv s) : tw_F l G 1 0 0 mW_leastSingle [vr (some 27)] (K, I, Q, n) (some (vi (if rFst s = s 1 then -5 else rFst s))) (K, I, Q, n) := by
  obtain ⟨h0, h1, h2, h3, h4, h5, h6, hp, hrw, ht, hr, hb, htp, hv⟩ := id hR
  refine tw_intro okW_leastSingle (Nat.le_of_ble_eq_true rfl) ?_
  refine ar_iconst (k := 0) rfl ?_
  refine ar_istoren (k := 1) (l2 := [(1, _), (0, _)]) rfl (by decide) rfl ?_
  refine ar_sub (l2 := [(1, vi ((0 : Nat) : Int)), (0, vr (some 27))]) (tw_s (tw_e 0 rfl (by rfl)) (tw_s (tw_g 1 rfl) tw_s0)) ?_
  have e9 : (if rFst s = s 1 then -5 else rFst s) = fstD (-5) (fun t => decide (s (94 + (t : Int)) = -1)) (s 1).toNat 0 := by
    have b := fstD_bd' (d := -1) (p := fun t => decide (s (94 + (t : Int)) = -1)) (N := s 1) (s 1).toNat 0 (by omega) (Or.inl rfl)
    unfold rFst
    rw [fstD_d (d := s 1), fstD_d (d := -5)]
    by_cases g : fstD (-1) (fun t => decide (s (94 + (t : Int)) = -1)) (s 1).toNat 0 = -1
    · rw [if_pos g, if_pos g, if_pos rfl]
    · rw [if_neg g, if_neg g, if_neg (by omega)]
  rw [e9]
  exact l_W_leastSingle hS hN hR (s 1).toNat 0 (by omega)
theorem c_P_keepJoin {m : Int} {q : tJS} (hS : tSt (K, I, Q, n)) (hN : WN 27 I s) (hR : RInv s) (hJ : JR I (s 1) q) (hm : m = rBestDay s) (hb : 0 ≤ m ∧ m ≤ 12000000) (h6 : s 1 ≤ 6) (hall : ∀ t : Int, 0 ≤ t → t < s 1 → s (94 + t) ≠ -1) : tw_M l G 1 0 0 mP_keepJoin [vr (some 40), vi m] (K, I, Q, n) (fun r h' => r = none ∧ ∃ L, h' = (K, L, Q, n) ∧ (∀ x, x ≠ 40 → x ≠ 60 → L x = I x) ∧ (∀ k : Int, k < 15 → L 40 k = I 40 k) ∧ JR L (s 1) (rJl s q)) := by
  obtain ⟨h0, h1, h2, h3, h4, h5, h6x, hp, hrw, ht, hr, hb, htp, hv⟩ := id hR
  obtain ⟨c, hc⟩ : ∃ c, I 40 19 = c := ⟨_, rfl⟩
  have hcb : -1 ≤ c ∧ c ≤ 12000000 := by rcases hJ with z | z <;> omega
  have hiff : c < m ↔ (q.1 = 0 ∨ q.2.1 < rBestDay s) := by rcases hJ with z | z <;> omega
  refine tw_intro okP_keepJoin (Nat.le_of_ble_eq_true rfl) ?_
  refine ar_iloadn (k := 0) rfl rfl ?_
  refine ar_aloadn (k := 1) rfl rfl ?_
  refine br_getIz (k := 2) (z := 19) rfl (hS.k (by decide)) flP_78_6 (by decide) rfl rfl ?_
  refine tw_top hc ?_
  refine ar_icmp_le (k := 3) rfl (by omega) (by omega) (fun c3 => ?_) (fun c3 => ?_)
  · refine ar_ret (k := 16) rfl rfl rfl (Nat.le_refl _) ?_
    first
      | (refine ⟨rfl, I15, rfl, fun x x1 x2 => by rw [e15 x x2, e6, uI_off _ _ _ x1], fun k hk => by rw [e15 40 (by decide), e6, uI_at, if_neg (by omega)], ?_⟩
         unfold rJl
         rw [if_pos (hiff.mp (by omega))]
         refine Or.inr ⟨rfl, by rw [e15 40 (by decide), e6, uI_at, if_pos rfl, hm], by simp only []; omega, fun t t1 t2 => ?_⟩
         rw [f15, if_pos ⟨t1, by omega⟩, e6, uI_off _ _ _ (by decide), show I 35 t = _ from WN.tw hN t1 t2, if_neg (hall t t1 t2)]
         exact (rCpN_at _ _ _ (by omega) (by omega)).symm)
      | (refine ⟨rfl, I, rfl, fun x x1 x2 => rfl, fun k hk => rfl, ?_⟩
         unfold rJl
         rw [if_neg (fun z => by have := hiff.mpr z; omega)]
         exact hJ)
  · refine ar_aloadn (k := 4) rfl rfl ?_
    refine ar_iloadn (k := 5) rfl rfl ?_
    refine br_putIJ (k := 6) rfl (hS.k (by decide)) flP_78_6 (by decide) rfl (fun _ _ _ q => by cases q; exact ⟨rfl, rfl⟩) (fun I6 e6 => ?_)
    change _ = uI _ 40 19 _ at e6
    skip
    refine ar_aloadn (k := 7) rfl rfl ?_
    refine br_getR (k := 8) rfl (hS.k (by decide)) flP_12_6 (by decide) rfl (hS.r rfl) ?_
    refine br_getR (k := 9) rfl (hS.k (by decide)) flP_98_10 (by decide) rfl (hS.r rfl) ?_
    refine ar_iconst (k := 10) rfl ?_
    refine ar_aloadn (k := 11) rfl rfl ?_
    refine br_getR (k := 12) rfl (hS.k (by decide)) flP_75_6 (by decide) rfl (hS.r rfl) ?_
    refine ar_iconst (k := 13) rfl ?_
    refine ar_bipush (k := 14) rfl (by decide) ?_
    refine ar_copyiJ (k := 15) (n := 6) rfl lcP_140 (hS.k (by decide)) (hS.k (by decide)) rfl (by decide) (by decide) (Nat.le_of_ble_eq_true rfl) (fun I15 e15 f15 => ?_)
    refine ar_ret (k := 16) rfl rfl rfl (Nat.le_refl _) ?_
    first
      | (refine ⟨rfl, I15, rfl, fun x x1 x2 => by rw [e15 x x2, e6, uI_off _ _ _ x1], fun k hk => by rw [e15 40 (by decide), e6, uI_at, if_neg (by omega)], ?_⟩
         unfold rJl
         rw [if_pos (hiff.mp (by omega))]
         refine Or.inr ⟨rfl, by rw [e15 40 (by decide), e6, uI_at, if_pos rfl, hm], by simp only []; omega, fun t t1 t2 => ?_⟩
         rw [f15, if_pos ⟨t1, by omega⟩, e6, uI_off _ _ _ (by decide), show I 35 t = _ from WN.tw hN t1 t2, if_neg (hall t t1 t2)]
         exact (rCpN_at _ _ _ (by omega) (by omega)).symm)
      | (refine ⟨rfl, I, rfl, fun x x1 x2 => rfl, fun k hk => rfl, ?_⟩
         unfold rJl
         rw [if_neg (fun z => by have := hiff.mpr z; omega)]
         exact hJ)
end CJ3
