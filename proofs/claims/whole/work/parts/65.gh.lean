section CH
variable {l : Launch} {G : tG} {K : Nat → Nat × Nat} {I : Nat → Int → Int} {Q : Nat → Int → Option Nat} {n : Nat} {s : Int → Int}
theorem c_P_keepChange {a b m c : Int} (hS : tSt (K, I, Q, n)) (hc : I 40 17 = c) (tm : tr m) (tc : tr c) : tw_M l G 1 0 0 mP_keepChange [vr (some 40), vi a, vi b, vi m] (K, I, Q, n) (fun r h' => r = none ∧ ∃ J, h' = (K, J, Q, n) ∧ (∀ x, x ≠ 40 → J x = I x) ∧ (∀ k : Int, k < 15 → J 40 k = I 40 k) ∧ J 40 15 = (if c < m then a else I 40 15) ∧ J 40 16 = (if c < m then b else I 40 16) ∧ J 40 17 = (if c < m then m else c)) := by
  refine tw_intro okP_keepChange (Nat.le_of_ble_eq_true rfl) ?_
  refine ar_iloadn (k := 0) rfl rfl ?_
  refine ar_aloadn (k := 1) rfl rfl ?_
  refine br_getIz (k := 2) (z := 17) rfl (hS.k (by decide)) flP_72_6 (by decide) rfl rfl ?_
  refine tw_top hc ?_
  refine ar_icmp_le (k := 3) rfl (by omega) (by omega) (fun c3 => ?_) (fun c3 => ?_)
  · refine ar_ret (k := 13) rfl rfl rfl (Nat.le_refl _) ?_
    first
      | (refine ⟨rfl, I12, rfl, fun x hx => by rw [e12, uI_off _ _ _ hx, e9, uI_off _ _ _ hx, e6, uI_off _ _ _ hx], fun k hk => by rw [e12, uI_at, if_neg (by omega), e9, uI_at, if_neg (by omega), e6, uI_at, if_neg (by omega)], ?_, ?_, ?_⟩
         · rw [if_pos (by omega), e12, uI_at, if_neg (by decide), e9, uI_at, if_neg (by decide), e6, uI_at, if_pos rfl]
         · rw [if_pos (by omega), e12, uI_at, if_neg (by decide), e9, uI_at, if_pos rfl]
         · rw [if_pos (by omega), e12, uI_at, if_pos rfl])
      | exact ⟨rfl, I, rfl, fun x hx => rfl, fun k hk => rfl, by rw [if_neg (by omega)], by rw [if_neg (by omega)], by rw [if_neg (by omega)]; exact hc⟩
  · refine ar_aloadn (k := 4) rfl rfl ?_
    refine ar_iloadn (k := 5) rfl rfl ?_
    refine br_putIJ (k := 6) rfl (hS.k (by decide)) flP_66_6 (by decide) rfl (fun _ _ _ q => by cases q; exact ⟨rfl, rfl⟩) (fun I6 e6 => ?_)
    change _ = uI _ 40 15 _ at e6
    skip
    refine ar_aloadn (k := 7) rfl rfl ?_
    refine ar_iloadn (k := 8) rfl rfl ?_
    refine br_putIJ (k := 9) rfl (hS.k (by decide)) flP_69_6 (by decide) rfl (fun _ _ _ q => by cases q; exact ⟨rfl, rfl⟩) (fun I9 e9 => ?_)
    change _ = uI _ 40 16 _ at e9
    skip
    refine ar_aloadn (k := 10) rfl rfl ?_
    refine ar_iloadn (k := 11) rfl rfl ?_
    refine br_putIJ (k := 12) rfl (hS.k (by decide)) flP_72_6 (by decide) rfl (fun _ _ _ q => by cases q; exact ⟨rfl, rfl⟩) (fun I12 e12 => ?_)
    change _ = uI _ 40 17 _ at e12
    skip
    refine ar_ret (k := 13) rfl rfl rfl (Nat.le_refl _) ?_
    first
      | (refine ⟨rfl, I12, rfl, fun x hx => by rw [e12, uI_off _ _ _ hx, e9, uI_off _ _ _ hx, e6, uI_off _ _ _ hx], fun k hk => by rw [e12, uI_at, if_neg (by omega), e9, uI_at, if_neg (by omega), e6, uI_at, if_neg (by omega)], ?_, ?_, ?_⟩
         · rw [if_pos (by omega), e12, uI_at, if_neg (by decide), e9, uI_at, if_neg (by decide), e6, uI_at, if_pos rfl]
         · rw [if_pos (by omega), e12, uI_at, if_neg (by decide), e9, uI_at, if_pos rfl]
         · rw [if_pos (by omega), e12, uI_at, if_pos rfl])
      | exact ⟨rfl, I, rfl, fun x hx => rfl, fun k hk => rfl, by rw [if_neg (by omega)], by rw [if_neg (by omega)], by rw [if_neg (by omega)]; exact hc⟩
theorem c_W_changeH {a b : Int} (hS : tSt (K, I, Q, n)) (a1 : 0 ≤ a ∧ a < 10) (b1 : 0 ≤ b ∧ b < 10) (hab : a ≠ b) : tw_F l G 1 0 0 mW_changeHolders [vr (some 27), vi a, vi b] (K, I, Q, n) none (K, uI (uI I 34 a (I 34 b)) 34 b (I 34 a), Q, n) := by
  refine tw_intro okW_changeHolders (Nat.le_of_ble_eq_true rfl) ?_
  refine ar_aloadn (k := 0) rfl rfl ?_
  refine br_getR (k := 1) rfl (hS.k (by decide)) flW_47_10 (by decide) rfl (hS.r rfl) ?_
  refine ar_iloadn (k := 2) rfl rfl ?_
  refine br_iald (k := 3) rfl (hS.k (by decide)) (by omega) (by omega) (by decide) ?_
  refine ar_istoren (k := 4) (l2 := [(3, _), (0, _), (1, _), (2, _)]) rfl (by decide) rfl ?_
  refine ar_aloadn (k := 5) rfl rfl ?_
  refine br_getR (k := 6) rfl (hS.k (by decide)) flW_47_10 (by decide) rfl (hS.r rfl) ?_
  refine ar_iloadn (k := 7) rfl rfl ?_
  refine ar_aloadn (k := 8) rfl rfl ?_
  refine br_getR (k := 9) rfl (hS.k (by decide)) flW_47_10 (by decide) rfl (hS.r rfl) ?_
  refine ar_iloadn (k := 10) rfl rfl ?_
  refine br_iald (k := 11) rfl (hS.k (by decide)) (by omega) (by omega) (by decide) ?_
  refine br_iast (k := 12) rfl (hS.k (by decide)) (by omega) (by omega) (by decide) ?_
  refine ar_aloadn (k := 13) rfl rfl ?_
  refine br_getR (k := 14) rfl (hS.k (by decide)) flW_47_10 (by decide) rfl (hS.r rfl) ?_
  refine ar_iloadn (k := 15) rfl rfl ?_
  refine ar_iloadn (k := 16) rfl rfl ?_
  refine br_iast (k := 17) rfl (hS.k (by decide)) (by omega) (by omega) (by decide) ?_
  refine ar_ret (k := 18) rfl rfl rfl (Nat.le_refl _) ?_
  exact ⟨rfl, rfl⟩
theorem WN.sw {a b : Int} (h : WN 27 I s) (a1 : 0 ≤ a ∧ a < s 1) (b1 : 0 ≤ b ∧ b < s 1) (hab : a ≠ b) : WN 27 (uI (uI I 34 a (I 34 b)) 34 b (I 34 a)) (rSwap s a b) := by
  have hb := h.bd
  have ea : I 34 a = s (84 + a) := h.ho a1.1 a1.2
  have eb : I 34 b = s (84 + b) := h.ho b1.1 b1.2
  rw [ea, eb]
  exact (h.u_ho (t0 := a) (x := s (84 + b)) (by omega)).u_ho (t0 := b) (x := s (84 + a)) (by omega)
theorem GU.sw {a b : Int} (h : GU K I Q n s) (a1 : 0 ≤ a ∧ a < s 1) (b1 : 0 ≤ b ∧ b < s 1) (hab : a ≠ b) : GU K (uI (uI I 34 a (I 34 b)) 34 b (I 34 a)) Q n (rSwap s a b) := by
  have hb := h.2.1.bd
  have e : ∀ j, j ≠ 84 + a → j ≠ 84 + b → rSwap s a b j = s j := fun j j1 j2 => by unfold rSwap; rw [up_ne _ _ j2, up_ne _ _ j1]
  have hN := h.2.1.sw a1 b1 hab
  obtain ⟨a1', -, a3, a4, a5, a6⟩ := h
  have eo : ∀ c, c ≠ 34 → uI (uI I 34 a (I 34 b)) 34 b (I 34 a) c = I c := fun c hc => by rw [uI_off _ _ _ hc, uI_off _ _ _ hc]
  refine ⟨a1', hN, fun p p1 p2 => ?_, fun y y1 y2 => ?_, by rw [eo _ (by decide)]; exact a5, by rw [eo _ (by decide)]; exact a6⟩
  · obtain ⟨c, b1', b2⟩ := (a3.se (s2 := rSwap s a b) (fun j hj => e j (by omega) (by omega)) hb.1.2) p p1 p2
    refine ⟨c, b1', b2.1, b2.2.1, b2.2.2.1, ?_⟩
    rw [eo _ (by have := b2.1; omega)]; exact b2.2.2.2
  · obtain ⟨v, C, b1', b2, b3, b4, b5⟩ := (a4.se (s2 := rSwap s a b) (fun j hj => e j (by omega) (by omega))) y y1 y2
    have hv := b2.1
    exact ⟨v, C, b1', b2, by rw [eo _ (by omega)]; exact b3, b4.g ⟨eo _ (by omega), eo _ (by omega), eo _ (by omega), eo _ (by omega)⟩, b5⟩
end CH
