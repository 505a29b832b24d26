section CZ3
variable {l : Launch} {G : tG} {K K' : Nat → Nat × Nat} {I J : Nat → Int → Int} {Q Q' : Nat → Int → Option Nat} {n m : Nat} {s : Int → Int} {v : Nat}
theorem srf_77 {a k b : Nat} (h : srf a k = some b) : a < 78 := by
  by_cases g : a < 78
  · exact g
  · exfalso
    have e0 : srfL.getD a [] = [] := by rw [List.getD_eq_getElem?_getD, List.getElem?_eq_none (Nat.le_trans (by decide : srfL.length ≤ 78) (by omega))]; rfl
    unfold srf at h
    rw [e0] at h
    cases h
theorem tSt.ex (hS : tSt (K, I, Q, n)) (fk : ∀ a, a < 78 → K' a = K a) (fq : ∀ a, a < 78 → Q' a = Q a) (hm : 78 ≤ m) : tSt (K', J, Q', m) := by
  refine ⟨fun a ha => (fk a ha).trans (hS.1 a ha), hm, fun a k b h => ?_⟩
  show Q' a (k : Int) = some b
  rw [fq a (srf_77 h)]
  exact hS.2.2 a k b h
theorem tSt.sp (hS : tSt (K, I, Q, n)) (x : Option Nat) : tSt (K, I, uQ Q 0 ((5 : Nat) : Int) x, n) := by
  refine ⟨hS.1, hS.2.1, fun a k b h => ?_⟩
  have h1 := hS.2.2 a k b h
  show (if a = 0 then upQ (Q 0) ((5 : Nat) : Int) x else Q a) (k : Int) = some b
  by_cases g : a = 0
  · subst g
    rw [if_pos rfl]
    by_cases g6 : k = 5
    · subst g6; cases h
    · show (if (k : Int) = ((5 : Nat) : Int) then x else Q 0 (k : Int)) = some b
      rw [if_neg (by omega)]; exact h1
  · rw [if_neg g]; exact h1
theorem c_T_valley1 (hS : tSt (K, I, Q, n)) (hN : WN 1 I s) (hR : RInv s) (h5 : s 2 < 5) (hsp : Q 0 ((5 : Nat) : Int) = some v) (hv : VS K Q n v) (hb : ¬ ((rRead s).1.2.1 = true ∨ (rRead s).1.1 ≠ s 5)) : tw_M l G 34 7 250 mT_valley [vr (some 0)] (K, I, Q, n) (fun r h' => r = some (vi (rValA s)) ∧ ∃ K' J R, h' = (K', J, R, n + 7) ∧ tSt (K', J, R, n + 7) ∧ VS K' R (n + 7) n ∧ R 0 ((5 : Nat) : Int) = some n ∧ (∀ a, a < n → K' a = K a) ∧ (∀ b, b < n → b ≠ 1 → b ≠ v → b ≠ v + 1 → b ≠ v + 2 → b ≠ v + 3 → b ≠ vX v → J b = I b) ∧ (∀ b, b < n → b ≠ 0 → b ≠ 3 → R b = Q b) ∧ (∀ x, R 3 x = if x = s 2 then some v else Q 3 x) ∧ WN 1 J (rValS s) ∧ J v 0 = bl (rRead s).2 ∧ ∃ C, (rRead s).1.2.2 = cFl C ∧ VD J v C) := by
  have hB := rB_of hR h5
  have hv1 := hv.1
  have hvx := vX_gt v
  have hxn : vX v < n := hv.2.2.2.2.2.2.2.2.2
  have h77 : 78 ≤ n := hS.2.1
  rw [show rValA s = s 2 by unfold rValA; rw [if_neg (by omega), if_neg hb], show rValS s = up (up (rPut s) 2 (s 2 + 1)) 6 (s 2) by unfold rValS; rw [if_neg (by omega), if_neg hb]]
  refine tw_intro okT_valley (Nat.le_of_ble_eq_true rfl) ?_
  refine ar_aloadn (k := 0) rfl rfl ?_
  refine br_getR (k := 1) rfl (hS.k (by decide)) flT_14_11 (by decide) rfl (hS.r rfl) ?_
  refine br_getIz (k := 2) (z := 3) rfl (hS.k (by decide)) flT_54_10 (by decide) rfl rfl ?_
  refine tw_top (WN.vc hN) ?_
  refine ar_iconst (k := 3) rfl ?_
  refine ar_icmp_lt (k := 4) rfl (by omega) (by omega) (fun c4 => ?_) (fun c4 => ?_)
  · refine ar_aloadn (k := 7) rfl rfl ?_
    refine br_getR (k := 8) rfl (hS.k (by decide)) flT_42_11 (by decide) rfl hsp ?_
    refine ar_aloadn (k := 9) rfl rfl ?_
    refine br_getR (k := 10) rfl (hS.k (by decide)) flT_14_11 (by decide) rfl (hS.r rfl) ?_
    refine br_getR (k := 11) rfl (hS.k (by decide)) flT_50_10 (by decide) rfl (hS.r rfl) ?_
    refine ar_aloadn (k := 12) rfl rfl ?_
    refine br_getR (k := 13) rfl (hS.k (by decide)) flT_14_11 (by decide) rfl (hS.r rfl) ?_
    refine br_getIz (k := 14) (z := 1) rfl (hS.k (by decide)) flT_46_10 (by decide) rfl rfl ?_
    refine tw_top (WN.sg hN) ?_
    refine ar_callV (k := 15) (as := [_, _]) rfl lvT_57 hv.k0 rfl (c_V_read (a := s 2) hS hv hB (fun i i1 i2 => WN.tp hN i1 i2)) rfl (by decide) (by decide) ⟨by (try dsimp only); omega, by decide⟩ (Nat.le_of_ble_eq_true rfl) (fun r15 h15 p15 => ?_)
    obtain ⟨rfl, L15, rfl, g15, w15⟩ := p15
    change ∀ _, _ at g15
    obtain ⟨w0, C, w1, w2⟩ := w15 hb
    have hN15 : WN 1 L15 s := hN.fm (fun b b1 b2 => g15 b (by omega) (by omega) (by omega) (by omega) (by omega))
    refine tw_top (y := -1) (by show (if (rRead s).1.2.1 = true ∨ (rRead s).1.1 ≠ s 5 then (rRead s).1.1 else -1) = _; rw [if_neg hb]) ?_
    refine ar_istoren (k := 16) (l2 := [(1, _), (0, _)]) rfl (by decide) rfl ?_
    refine ar_aloadn (k := 17) rfl rfl ?_
    refine br_getR (k := 18) rfl (hS.k (by decide)) flT_14_11 (by decide) rfl (hS.r rfl) ?_
    refine ar_iconst (k := 19) rfl ?_
    refine br_putIJ (k := 20) rfl (hS.k (by decide)) flT_46_10 (by decide) rfl (fun _ _ _ q => by cases q; exact ⟨rfl, rfl⟩) (fun I20 e20 => ?_)
    change _ = uI _ 1 1 _ at e20
    skip
    refine ar_iloadn (k := 21) rfl rfl ?_
    refine ar_iconst (k := 22) rfl ?_
    refine ar_icmp_eq (k := 23) rfl (by omega) (by omega) (fun c23 => ?_) (fun c23 => ?_)
    · refine ar_aloadn (k := 28) rfl rfl ?_
      refine br_getR (k := 29) rfl (hS.k (by decide)) flT_14_11 (by decide) rfl (hS.r rfl) ?_
      refine br_getR (k := 30) rfl (hS.k (by decide)) flT_61_10 (by decide) rfl (hS.r rfl) ?_
      refine ar_aloadn (k := 31) rfl rfl ?_
      refine br_getR (k := 32) rfl (hS.k (by decide)) flT_14_11 (by decide) rfl (hS.r rfl) ?_
      refine br_getIz (k := 33) (z := 3) rfl (hS.k (by decide)) flT_54_10 (by decide) rfl rfl ?_
      refine tw_top (y := s 2) (by rw [e20, uI_at, if_neg (by decide)]; exact hN15.vc) ?_
      refine ar_aloadn (k := 34) rfl rfl ?_
      refine br_getR (k := 35) rfl (hS.k (by decide)) flT_42_11 (by decide) rfl hsp ?_
      refine br_aast17 (k := 36) rfl (hS.k (by decide)) (by omega) (by omega) (by decide) (fun b hb => by cases hb; exact ⟨9, 12, _, _, hv.k0, rfl, by decide⟩) ?_
      have hS := hS.qc (Q' := uQ Q 3 (s 2) (some v)) (b := 3) (Or.inl rfl) (fun c hc => if_neg hc)
      refine ar_aloadn (k := 37) rfl rfl ?_
      refine br_getR (k := 38) rfl (hS.k (by decide)) flT_14_11 (by decide) rfl (hS.r rfl) ?_
      refine ar_dup (k := 39) rfl rfl ?_
      refine br_getIz (k := 40) (z := 3) rfl (hS.k (by decide)) flT_54_10 (by decide) rfl rfl ?_
      refine tw_top (y := s 2) (by rw [e20, uI_at, if_neg (by decide)]; exact hN15.vc) ?_
      refine ar_iconst (k := 41) rfl ?_
      refine ar_iadd (k := 42) rfl ?_
      refine br_putIJ (k := 43) rfl (hS.k (by decide)) flT_54_10 (by decide) rfl (fun _ _ _ q => by cases q; exact ⟨rfl, rfl⟩) (fun I43 e43 => ?_)
      change _ = uI _ 1 3 _ at e43
      skip
      refine ar_aloadn (k := 44) rfl rfl ?_
      refine br_new (k := 45) (ci := 9) (N := 12) rfl klT_39 rfl (fun j hj => by rcases (show j = 0 ∨ j = 1 ∨ j = 2 ∨ j = 3 ∨ j = 4 ∨ j = 5 ∨ j = 6 ∨ j = 7 ∨ j = 8 ∨ j = 9 ∨ j = 10 ∨ j = 11 by omega) with rfl | rfl | rfl | rfl | rfl | rfl | rfl | rfl | rfl | rfl | rfl | rfl <;> exact ⟨_, rfl, rfl⟩) ⟨by (try dsimp only); omega, by decide⟩ ?_
      have hS45 := hS.nw (q := (9, 12))
      have hS := hS45
      refine ar_dup (k := 46) rfl rfl ?_
      refine ar_callI (k := 47) (as := []) rfl liT_41 (c_V_init (v := n) (if_pos rfl)) rfl (by decide) (by decide) ⟨by (try dsimp only); omega, by decide⟩ (Nat.le_of_ble_eq_true rfl) (fun r47 h47 p47 => ?_)
      obtain ⟨rfl, K47, J47, R47, rfl, hvs, fk, fi, fq⟩ := p47
      have hS47 : tSt (K47, J47, R47, n + 7) := hS45.ex (fun a ha => fk a (by omega)) (fun a ha => fq a (by omega)) (by omega)
      have hS := hS47
      refine br_putR (k := 48) rfl (hS.k (by decide)) flT_42_11 (by decide) rfl (fun _ _ _ q => by cases q; exact ⟨rfl, _, rfl, rfl⟩) ?_
      have hS := hS47.sp (some n)
      refine ar_aloadn (k := 49) rfl rfl ?_
      refine br_getR (k := 50) rfl (hS.k (by decide)) flT_14_11 (by decide) rfl (hS.r rfl) ?_
      refine br_getIz (k := 51) (z := 3) rfl (hS.k (by decide)) flT_54_10 (by decide) rfl rfl ?_
      refine tw_top (y := s 2 + 1) (by rw [fi 1 (by omega)]; show (if 1 = n then _ else I43 1) 3 = _; rw [if_neg (by omega), e43, uI_at, if_pos rfl]) ?_
      refine ar_iconst (k := 52) rfl ?_
      refine ar_isub (k := 53) rfl ?_
      refine ar_iret (k := 54) rfl rfl rfl (Nat.le_refl _) ?_
      have ei : ∀ b, b < n → J47 b = I43 b := fun b hb => by rw [fi b hb]; show (if b = n then _ else I43 b) = _; rw [if_neg (by omega)]
      have eo : ∀ b, b ≠ 1 → I43 b = L15 b := fun b hb => by rw [e43, uI_off _ _ _ hb, e20, uI_off _ _ _ hb]
      refine ⟨congrArg (fun z => some (vi z)) (by omega), K47, J47, _, rfl, hS, ?_, ?_, fun a ha => ?_, fun b b1 b2 b3 b4 b5 b6 b7 => ?_, fun b b1 b2 b3 => ?_, fun x => ?_, ?_, ?_, C, w1, ?_⟩
      · obtain ⟨q2, ⟨q3, q4, q5, q6, q7, q8⟩, q9⟩ := hvs
        have en : ∀ j, uQ R47 0 ((5 : Nat) : Int) (some n) n j = R47 n j := fun j => by show (if n = 0 then _ else R47 n) j = _; rw [if_neg (by omega)]
        exact VI.vs ⟨q2, ⟨(en _).trans q3, (en _).trans q4, (en _).trans q5, (en _).trans q6, (en _).trans q7, (en _).trans q8⟩, q9⟩ h77 (by omega)
      · simp [uQ, upQ]
      · rw [fk a (by omega)]; show (if a = n then _ else K a) = _; rw [if_neg (by omega)]
      · rw [ei b b1, eo b b2]; exact g15 b b3 b4 b5 b6 b7
      · show (if b = 0 then _ else R47 b) = _
        rw [if_neg b2, fq b b1]
        show (if b = n then _ else (if b = 3 then _ else Q b)) = _
        rw [if_neg (by omega), if_neg b3]
      · show (if 3 = 0 then _ else R47 3) x = _
        rw [if_neg (by decide), fq 3 (by omega)]
        show (if 3 = n then _ else (if 3 = 3 then upQ (Q 3) (s 2) (some v) else Q 3)) x = _
        rw [if_neg (by omega), if_pos rfl]
        rfl
      · have n20 : WN 1 I20 (up s 5 0) := by rw [e20]; exact hN15.u_sg
        have n43 : WN 1 I43 (up (up s 5 0) 2 (s 2 + 1)) := by rw [e43]; exact n20.u_vc
        have n47 : WN 1 J47 (up (up s 5 0) 2 (s 2 + 1)) := n43.fm (fun b b1 b2 => ei b (by omega))
        refine n47.sEq (fun j j1 j2 j3 => ?_)
        rw [up_ne _ _ j3]
        by_cases g : j = 2
        · subst g; rw [up_at, up_at]
        · rw [up_ne _ _ g, up_ne _ _ g]; exact rPut_lo hB.1.1 j2
      · rw [ei v (by omega), eo v (by omega)]; exact w0
      · exact w2.g ⟨by rw [ei v (by omega), eo v (by omega)], by rw [ei _ (by omega), eo _ (by omega)], by rw [ei _ (by omega), eo _ (by omega)], by rw [ei _ (by omega), eo _ (by omega)]⟩
    · exfalso; omega
  · exfalso; omega
end CZ3
