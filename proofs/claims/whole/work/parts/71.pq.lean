section CP3
variable {l : Launch} {G : tG} {K : Nat → Nat × Nat} {I : Nat → Int → Int} {Q : Nat → Int → Option Nat} {n : Nat} {s : Int → Int}
theorem c_W_addPerson {a : Nat} {k0 : Int} (hS : tSt (K, I, Q, n)) (hN : WN 1 I s) (h8 : s 0 < 8) (haK : K a = (kC k0, 4)) (han : a < n) : tw_M l G 1 0 0 mW_addPerson [vr (some 1), vr (some a)] (K, I, Q, n) (fun r h' => r = none ∧ ∃ J, h' = (K, J, uQ Q 4 (s 0) (some a), n) ∧ wo I J ∧ WN 1 J (up (rFill (s 0) 4 0 (up s (34 + s 0) 0)) 0 (s 0 + 1))) := by
  have hbd := hN.bd
  have hx : ∀ b, some a = some b → ∃ cb Nb C T, tK (K, I, Q, n) b (cb, Nb) ∧ tCl[cb]? = some (C, T, Nb) ∧ (C = "TwinTools$Hand" ∨ (C, "TwinTools$Hand") ∈ castL) := by
    intro b hb
    cases hb
    have hc := hcl_k k0
    have hk : tK (K, I, Q, n) a (kC k0, 4) := ⟨haK, han⟩
    generalize kC k0 = c at hc hk
    rcases hc with rfl | rfl | rfl | rfl | rfl | rfl | rfl
    all_goals exact ⟨_, _, _, _, hk, rfl, by decide⟩
  refine tw_intro okW_addPerson (Nat.le_of_ble_eq_true rfl) ?_
  refine ar_aloadn (k := 0) rfl rfl ?_
  refine br_getR (k := 1) rfl (hS.k (by decide)) flW_30_10 (by decide) rfl (hS.r rfl) ?_
  refine ar_aloadn (k := 2) rfl rfl ?_
  refine br_getIz (k := 3) (z := 5) rfl (hS.k (by decide)) flW_34_10 (by decide) rfl rfl ?_
  refine tw_top (y := s 0) (by exact hN.pc) ?_
  refine ar_aloadn (k := 4) rfl rfl ?_
  refine br_aast16 (k := 5) rfl (hS.k (by decide)) (by omega) (by omega) (by decide) hx ?_
  refine ar_aloadn (k := 6) rfl rfl ?_
  refine br_getR (k := 7) rfl (hS.k (by decide)) flW_37_10 (by decide) rfl (hS.r rfl) ?_
  refine ar_aloadn (k := 8) rfl rfl ?_
  refine br_getIz (k := 9) (z := 5) rfl (hS.k (by decide)) flW_34_10 (by decide) rfl rfl ?_
  refine tw_top (y := s 0) (by exact hN.pc) ?_
  refine ar_iconst (k := 10) rfl ?_
  refine br_iastJ (k := 11) rfl (hS.k (by decide)) (by omega) (by omega) (by decide) (fun I11 e11 => ?_)
  skip
  refine ar_iconst (k := 12) rfl ?_
  refine ar_istoren (k := 13) (l2 := [(2, _), (0, _), (1, _)]) rfl (by decide) rfl ?_
  refine ar_iloadn (k := 14) rfl rfl ?_
  refine ar_iconst (k := 15) rfl ?_
  refine ar_icmp_ge (k := 16) rfl (by omega) (by omega) (fun c16 => ?_) (fun c16 => ?_)
  · exfalso; omega
  · refine ar_aloadn (k := 17) rfl rfl ?_
    refine br_getR (k := 18) rfl (hS.k (by decide)) flW_41_10 (by decide) rfl (hS.r rfl) ?_
    refine ar_aloadn (k := 19) rfl rfl ?_
    refine br_getIz (k := 20) (z := 5) rfl (hS.k (by decide)) flW_34_10 (by decide) rfl rfl ?_
    refine tw_top (y := s 0) (by first | (rw [e11, uI_off _ _ _ (by decide)]; exact hN.pc) | (rw [z0, uI_off _ _ _ (by decide), e11, uI_off _ _ _ (by decide)]; exact hN.pc) | (rw [z1, uI_off _ _ _ (by decide), z0, uI_off _ _ _ (by decide), e11, uI_off _ _ _ (by decide)]; exact hN.pc) | (rw [z2, uI_off _ _ _ (by decide), z1, uI_off _ _ _ (by decide), z0, uI_off _ _ _ (by decide), e11, uI_off _ _ _ (by decide)]; exact hN.pc)) ?_
    refine ar_iconst (k := 21) rfl ?_
    refine ar_imul (k := 22) rfl ?_
    refine ar_iloadn (k := 23) rfl rfl ?_
    refine ar_iadd (k := 24) rfl ?_
    refine ar_bipush (k := 25) rfl (by decide) ?_
    refine br_iastJ (k := 26) rfl (hS.k (by decide)) (by omega) (by omega) (by decide) (fun I26 e26 => ?_)
    obtain ⟨J0, hJ0⟩ : ∃ x, x = I26 := ⟨_, rfl⟩
    subst hJ0
    have z0 : J0 = uI I11 6 (s 0 * 4 + 0) (-5) := by rw [e26] <;> (congr 1 <;> omega)
    clear e26
    refine ar_iinc (k := 27) (l2 := [(2, _), (0, _), (1, _)]) rfl (by decide) rfl rfl ?_
    refine ar_goto (k := 28) rfl ?_
    refine ar_iloadn (k := 14) rfl rfl ?_
    refine ar_iconst (k := 15) rfl ?_
    refine ar_icmp_ge (k := 16) rfl (by omega) (by omega) (fun c16 => ?_) (fun c16 => ?_)
    · exfalso; omega
    · refine ar_aloadn (k := 17) rfl rfl ?_
      refine br_getR (k := 18) rfl (hS.k (by decide)) flW_41_10 (by decide) rfl (hS.r rfl) ?_
      refine ar_aloadn (k := 19) rfl rfl ?_
      refine br_getIz (k := 20) (z := 5) rfl (hS.k (by decide)) flW_34_10 (by decide) rfl rfl ?_
      refine tw_top (y := s 0) (by first | (rw [e11, uI_off _ _ _ (by decide)]; exact hN.pc) | (rw [z0, uI_off _ _ _ (by decide), e11, uI_off _ _ _ (by decide)]; exact hN.pc) | (rw [z1, uI_off _ _ _ (by decide), z0, uI_off _ _ _ (by decide), e11, uI_off _ _ _ (by decide)]; exact hN.pc) | (rw [z2, uI_off _ _ _ (by decide), z1, uI_off _ _ _ (by decide), z0, uI_off _ _ _ (by decide), e11, uI_off _ _ _ (by decide)]; exact hN.pc)) ?_
      refine ar_iconst (k := 21) rfl ?_
      refine ar_imul (k := 22) rfl ?_
      refine ar_iloadn (k := 23) rfl rfl ?_
      refine ar_iadd (k := 24) rfl ?_
      refine ar_bipush (k := 25) rfl (by decide) ?_
      refine br_iastJ (k := 26) rfl (hS.k (by decide)) (by omega) (by omega) (by decide) (fun I26 e26 => ?_)
      obtain ⟨J1, hJ1⟩ : ∃ x, x = I26 := ⟨_, rfl⟩
      subst hJ1
      have z1 : J1 = uI J0 6 (s 0 * 4 + 1) (-5) := by rw [e26] <;> (congr 1 <;> omega)
      clear e26
      refine ar_iinc (k := 27) (l2 := [(2, _), (0, _), (1, _)]) rfl (by decide) rfl rfl ?_
      refine ar_goto (k := 28) rfl ?_
      refine ar_iloadn (k := 14) rfl rfl ?_
      refine ar_iconst (k := 15) rfl ?_
      refine ar_icmp_ge (k := 16) rfl (by omega) (by omega) (fun c16 => ?_) (fun c16 => ?_)
      · exfalso; omega
      · refine ar_aloadn (k := 17) rfl rfl ?_
        refine br_getR (k := 18) rfl (hS.k (by decide)) flW_41_10 (by decide) rfl (hS.r rfl) ?_
        refine ar_aloadn (k := 19) rfl rfl ?_
        refine br_getIz (k := 20) (z := 5) rfl (hS.k (by decide)) flW_34_10 (by decide) rfl rfl ?_
        refine tw_top (y := s 0) (by first | (rw [e11, uI_off _ _ _ (by decide)]; exact hN.pc) | (rw [z0, uI_off _ _ _ (by decide), e11, uI_off _ _ _ (by decide)]; exact hN.pc) | (rw [z1, uI_off _ _ _ (by decide), z0, uI_off _ _ _ (by decide), e11, uI_off _ _ _ (by decide)]; exact hN.pc) | (rw [z2, uI_off _ _ _ (by decide), z1, uI_off _ _ _ (by decide), z0, uI_off _ _ _ (by decide), e11, uI_off _ _ _ (by decide)]; exact hN.pc)) ?_
        refine ar_iconst (k := 21) rfl ?_
        refine ar_imul (k := 22) rfl ?_
        refine ar_iloadn (k := 23) rfl rfl ?_
        refine ar_iadd (k := 24) rfl ?_
        refine ar_bipush (k := 25) rfl (by decide) ?_
        refine br_iastJ (k := 26) rfl (hS.k (by decide)) (by omega) (by omega) (by decide) (fun I26 e26 => ?_)
        obtain ⟨J2, hJ2⟩ : ∃ x, x = I26 := ⟨_, rfl⟩
        subst hJ2
        have z2 : J2 = uI J1 6 (s 0 * 4 + 2) (-5) := by rw [e26] <;> (congr 1 <;> omega)
        clear e26
        refine ar_iinc (k := 27) (l2 := [(2, _), (0, _), (1, _)]) rfl (by decide) rfl rfl ?_
        refine ar_goto (k := 28) rfl ?_
        refine ar_iloadn (k := 14) rfl rfl ?_
        refine ar_iconst (k := 15) rfl ?_
        refine ar_icmp_ge (k := 16) rfl (by omega) (by omega) (fun c16 => ?_) (fun c16 => ?_)
        · exfalso; omega
        · refine ar_aloadn (k := 17) rfl rfl ?_
          refine br_getR (k := 18) rfl (hS.k (by decide)) flW_41_10 (by decide) rfl (hS.r rfl) ?_
          refine ar_aloadn (k := 19) rfl rfl ?_
          refine br_getIz (k := 20) (z := 5) rfl (hS.k (by decide)) flW_34_10 (by decide) rfl rfl ?_
          refine tw_top (y := s 0) (by first | (rw [e11, uI_off _ _ _ (by decide)]; exact hN.pc) | (rw [z0, uI_off _ _ _ (by decide), e11, uI_off _ _ _ (by decide)]; exact hN.pc) | (rw [z1, uI_off _ _ _ (by decide), z0, uI_off _ _ _ (by decide), e11, uI_off _ _ _ (by decide)]; exact hN.pc) | (rw [z2, uI_off _ _ _ (by decide), z1, uI_off _ _ _ (by decide), z0, uI_off _ _ _ (by decide), e11, uI_off _ _ _ (by decide)]; exact hN.pc)) ?_
          refine ar_iconst (k := 21) rfl ?_
          refine ar_imul (k := 22) rfl ?_
          refine ar_iloadn (k := 23) rfl rfl ?_
          refine ar_iadd (k := 24) rfl ?_
          refine ar_bipush (k := 25) rfl (by decide) ?_
          refine br_iastJ (k := 26) rfl (hS.k (by decide)) (by omega) (by omega) (by decide) (fun I26 e26 => ?_)
          obtain ⟨J3, hJ3⟩ : ∃ x, x = I26 := ⟨_, rfl⟩
          subst hJ3
          have z3 : J3 = uI J2 6 (s 0 * 4 + 3) (-5) := by rw [e26] <;> (congr 1 <;> omega)
          clear e26
          refine ar_iinc (k := 27) (l2 := [(2, _), (0, _), (1, _)]) rfl (by decide) rfl rfl ?_
          refine ar_goto (k := 28) rfl ?_
          refine ar_iloadn (k := 14) rfl rfl ?_
          refine ar_iconst (k := 15) rfl ?_
          refine ar_icmp_ge (k := 16) rfl (by omega) (by omega) (fun c16 => ?_) (fun c16 => ?_)
          · refine ar_aloadn (k := 29) rfl rfl ?_
            refine ar_dup (k := 30) rfl rfl ?_
            refine br_getIz (k := 31) (z := 5) rfl (hS.k (by decide)) flW_34_10 (by decide) rfl rfl ?_
            refine tw_top (y := s 0) (by rw [z3, uI_off _ _ _ (by decide), z2, uI_off _ _ _ (by decide), z1, uI_off _ _ _ (by decide), z0, uI_off _ _ _ (by decide), e11, uI_off _ _ _ (by decide)]; exact hN.pc) ?_
            refine ar_iconst (k := 32) rfl ?_
            refine ar_iadd (k := 33) rfl ?_
            refine br_putIJ (k := 34) rfl (hS.k (by decide)) flW_34_10 (by decide) rfl (fun _ _ _ q => by cases q; exact ⟨rfl, rfl⟩) (fun I34 e34 => ?_)
            change _ = uI _ 1 5 _ at e34
            skip
            refine ar_ret (k := 35) rfl rfl rfl (Nat.le_refl _) ?_
            have n1 : WN 1 I11 (up s (34 + s 0) 0) := by rw [e11]; exact hN.u_fr (by omega)
            have q0 : ∀ j : Int, 42 ≤ j → ∀ g : Int → Int, ∀ x, up g j x 0 = g 0 := fun j hj g x => up_ne _ _ (by omega)
            refine ⟨rfl, I34, rfl, ?_, ?_⟩
            · intro b hb
              rw [e34, uI_off _ _ _ (by omega), z3, uI_off _ _ _ (by omega), z2, uI_off _ _ _ (by omega), z1, uI_off _ _ _ (by omega), z0, uI_off _ _ _ (by omega), e11, uI_off _ _ _ (by omega)]
            · have a0 : WN 1 J0 (up (up s (34 + s 0) 0) (42 + 4 * s 0 + ((0 : Nat) : Int)) (-1)) := by
                have y := WN.u_rw (x := -1) (j0 := s 0 * 4 + 0) n1 (by omega)
                rw [if_pos rfl, ← z0] at y
                rw [show 42 + 4 * s 0 + ((0 : Nat) : Int) = 42 + (s 0 * 4 + 0) by omega]
                exact y
              have a1 : WN 1 J1 (up (up (up s (34 + s 0) 0) (42 + 4 * s 0 + ((0 : Nat) : Int)) (-1)) (42 + 4 * s 0 + ((1 : Nat) : Int)) (-1)) := by
                have y := WN.u_rw (x := -1) (j0 := s 0 * 4 + 1) a0 (by omega)
                rw [if_pos rfl, ← z1] at y
                rw [show 42 + 4 * s 0 + ((1 : Nat) : Int) = 42 + (s 0 * 4 + 1) by omega]
                exact y
              have a2 : WN 1 J2 (up (up (up (up s (34 + s 0) 0) (42 + 4 * s 0 + ((0 : Nat) : Int)) (-1)) (42 + 4 * s 0 + ((1 : Nat) : Int)) (-1)) (42 + 4 * s 0 + ((2 : Nat) : Int)) (-1)) := by
                have y := WN.u_rw (x := -1) (j0 := s 0 * 4 + 2) a1 (by omega)
                rw [if_pos rfl, ← z2] at y
                rw [show 42 + 4 * s 0 + ((2 : Nat) : Int) = 42 + (s 0 * 4 + 2) by omega]
                exact y
              have a3 : WN 1 J3 (rFill (s 0) 4 0 (up s (34 + s 0) 0)) := by
                have y := WN.u_rw (x := -1) (j0 := s 0 * 4 + 3) a2 (by omega)
                rw [if_pos rfl, ← z3] at y
                show WN 1 J3 (up (up (up (up (up s (34 + s 0) 0) (42 + 4 * s 0 + ((0 : Nat) : Int)) (-1)) (42 + 4 * s 0 + ((1 : Nat) : Int)) (-1)) (42 + 4 * s 0 + ((2 : Nat) : Int)) (-1)) (42 + 4 * s 0 + ((3 : Nat) : Int)) (-1))
                rw [show 42 + 4 * s 0 + ((3 : Nat) : Int) = 42 + (s 0 * 4 + 3) by omega]
                exact y
              have e0 : rFill (s 0) 4 0 (up s (34 + s 0) 0) 0 = s 0 := by
                show up (up (up (up (up s (34 + s 0) 0) _ (-1)) _ (-1)) _ (-1)) _ (-1) 0 = s 0
                rw [up_ne _ _ (by omega), up_ne _ _ (by omega), up_ne _ _ (by omega), up_ne _ _ (by omega), up_ne _ _ (by omega)]
              have er : ∀ j, 4 * s 0 ≤ j → j < 4 * s 0 + 4 → rFill (s 0) 4 0 (up s (34 + s 0) 0) (42 + j) = -1 := by
                intro j j1 j2
                show up (up (up (up (up s (34 + s 0) 0) _ (-1)) _ (-1)) _ (-1)) _ (-1) (42 + j) = -1
                unfold up
                (repeat' split) <;> first | rfl | (exfalso; omega)
              have ef : rFill (s 0) 4 0 (up s (34 + s 0) 0) (34 + s 0) = 0 := by
                show up (up (up (up (up s (34 + s 0) 0) _ (-1)) _ (-1)) _ (-1)) _ (-1) (34 + s 0) = 0
                rw [up_ne _ _ (by omega), up_ne _ _ (by omega), up_ne _ _ (by omega), up_ne _ _ (by omega), up_at]
              have y := a3.u_pc (by rw [e0]; omega) (by
                  rw [e0, ef, z3, uI_off _ _ _ (by decide), z2, uI_off _ _ _ (by decide), z1, uI_off _ _ _ (by decide), z0, uI_off _ _ _ (by decide), e11, uI_at, if_pos rfl]) (fun j j1 j2 => by
                  rw [e0] at j1 j2
                  rw [er j j1 j2, if_pos rfl, z3, uI_at]
                  by_cases g3 : j = s 0 * 4 + 3
                  · rw [if_pos g3]
                  · rw [if_neg g3, z2, uI_at]
                    by_cases g2 : j = s 0 * 4 + 2
                    · rw [if_pos g2]
                    · rw [if_neg g2, z1, uI_at]
                      by_cases g1 : j = s 0 * 4 + 1
                      · rw [if_pos g1]
                      · rw [if_neg g1, z0, uI_at, if_pos (by omega)])
              rw [e0] at y
              rw [e34]
              exact y
          · exfalso; omega
theorem c_T_person {k v u : Int} (hS : tSt (K, I, Q, n)) (hN : WN 1 I s) (hR : RInv s) (t_k : tr k) (t_v : tr v) (t_u : tr u) : (¬ (0 ≤ k ∧ k ≤ 6 ∧ 0 ≤ v ∧ v ≤ 9 ∧ 0 ≤ u ∧ u ≤ 3 ∧ s 0 < 8) → tw_F l G 2 0 0 mT_person [vr (some 0), vi k, vi v, vi u] (K, I, Q, n) (some (vi (rs_person s k v u).1)) (K, I, Q, n)) := by
  intro hno
  obtain ⟨h0, h1, h2, h3, h4, h5, h6, hp, hrw, ht, hr, hb, htp, hv⟩ := id hR
  refine tw_intro okT_person (Nat.le_of_ble_eq_true rfl) ?_
  refine ar_iloadn (k := 0) rfl rfl ?_
  refine ar_if_lt (k := 1) rfl (by omega) (fun c1 => ?_) (fun c1 => ?_)
  · refine ar_iconst (k := 5) rfl ?_
    refine ar_iret (k := 6) rfl rfl rfl (Nat.le_refl _) ?_
    have e : rs_person s k v u = (-1, s) := by unfold rs_person; (repeat' split) <;> first | rfl | (exfalso; omega)
    rw [e]
    exact ⟨rfl, rfl⟩
  · refine ar_iloadn (k := 2) rfl rfl ?_
    refine ar_bipush (k := 3) rfl (by decide) ?_
    refine ar_icmp_le (k := 4) rfl (by omega) (by omega) (fun c4 => ?_) (fun c4 => ?_)
    · refine ar_iloadn (k := 7) rfl rfl ?_
      refine ar_if_lt (k := 8) rfl (by omega) (fun c8 => ?_) (fun c8 => ?_)
      · refine ar_bipush (k := 17) rfl (by decide) ?_
        refine ar_iret (k := 18) rfl rfl rfl (Nat.le_refl _) ?_
        have e : rs_person s k v u = (-2, s) := by unfold rs_person; (repeat' split) <;> first | rfl | (exfalso; omega)
        rw [e]
        exact ⟨rfl, rfl⟩
      · refine ar_iloadn (k := 9) rfl rfl ?_
        refine ar_bipush (k := 10) rfl (by decide) ?_
        refine ar_icmp_gt (k := 11) rfl (by omega) (by omega) (fun c11 => ?_) (fun c11 => ?_)
        · refine ar_bipush (k := 17) rfl (by decide) ?_
          refine ar_iret (k := 18) rfl rfl rfl (Nat.le_refl _) ?_
          have e : rs_person s k v u = (-2, s) := by unfold rs_person; (repeat' split) <;> first | rfl | (exfalso; omega)
          rw [e]
          exact ⟨rfl, rfl⟩
        · refine ar_iloadn (k := 12) rfl rfl ?_
          refine ar_if_lt (k := 13) rfl (by omega) (fun c13 => ?_) (fun c13 => ?_)
          · refine ar_bipush (k := 17) rfl (by decide) ?_
            refine ar_iret (k := 18) rfl rfl rfl (Nat.le_refl _) ?_
            have e : rs_person s k v u = (-2, s) := by unfold rs_person; (repeat' split) <;> first | rfl | (exfalso; omega)
            rw [e]
            exact ⟨rfl, rfl⟩
          · refine ar_iloadn (k := 14) rfl rfl ?_
            refine ar_iconst (k := 15) rfl ?_
            refine ar_icmp_lt (k := 16) rfl (by omega) (by omega) (fun c16 => ?_) (fun c16 => ?_)
            · refine ar_aloadn (k := 19) rfl rfl ?_
              refine br_getR (k := 20) rfl (hS.k (by decide)) flT_14_11 (by decide) rfl (hS.r rfl) ?_
              refine br_getIz (k := 21) (z := 5) rfl (hS.k (by decide)) flT_65_10 (by decide) rfl rfl ?_
              refine tw_top (WN.pc hN) ?_
              refine ar_bipush (k := 22) rfl (by decide) ?_
              refine ar_icmp_lt (k := 23) rfl (by omega) (by omega) (fun c23 => ?_) (fun c23 => ?_)
              · exfalso; omega
              · refine ar_bipush (k := 24) rfl (by decide) ?_
                refine ar_iret (k := 25) rfl rfl rfl (Nat.le_refl _) ?_
                have e : rs_person s k v u = (-4, s) := by unfold rs_person; (repeat' split) <;> first | rfl | (exfalso; omega)
                rw [e]
                exact ⟨rfl, rfl⟩
            · refine ar_bipush (k := 17) rfl (by decide) ?_
              refine ar_iret (k := 18) rfl rfl rfl (Nat.le_refl _) ?_
              have e : rs_person s k v u = (-2, s) := by unfold rs_person; (repeat' split) <;> first | rfl | (exfalso; omega)
              rw [e]
              exact ⟨rfl, rfl⟩
    · refine ar_iconst (k := 5) rfl ?_
      refine ar_iret (k := 6) rfl rfl rfl (Nat.le_refl _) ?_
      have e : rs_person s k v u = (-1, s) := by unfold rs_person; (repeat' split) <;> first | rfl | (exfalso; omega)
      rw [e]
      exact ⟨rfl, rfl⟩
theorem c_T_person1 {k v u : Int} (hS : tSt (K, I, Q, n)) (hN : WN 1 I s) (hR : RInv s) (hk : 0 ≤ k ∧ k ≤ 6 ∧ 0 ≤ v ∧ v ≤ 9 ∧ 0 ≤ u ∧ u ≤ 3 ∧ s 0 < 8) : tw_M l G 6 1 4 mT_person [vr (some 0), vi k, vi v, vi u] (K, I, Q, n) (fun r h' => r = some (vi (rs_person s k v u).1) ∧ ∃ J, h' = (zK K n (kC k, 4), J, uQ (zQ Q n) 4 (s 0) (some n), n + 1) ∧ WN 1 J (rs_person s k v u).2 ∧ wo (uI (uI (uI (uI (zI I n) n 0 k) n 1 (s 0)) n 2 v) n 3 u) J) := by
  obtain ⟨h0, h1, h2, h3, h4, h5, h6, hp, hrw, ht, hr, hb, htp, hv⟩ := id hR
  have h77 : 78 ≤ n := hS.2.1
  have eP : rs_person s k v u = (s 0, up (rFill (s 0) 4 0 (up (up (up (up s (10 + s 0) k) (18 + s 0) v) (26 + s 0) u) (34 + s 0) 0)) 0 (s 0 + 1)) := by unfold rs_person; rw [if_neg (by omega), if_neg (by omega), if_neg (by omega)]
  rw [eP]
  refine tw_intro okT_person (Nat.le_of_ble_eq_true rfl) ?_
  refine ar_iloadn (k := 0) rfl rfl ?_
  refine ar_if_lt (k := 1) rfl (by omega) (fun c1 => ?_) (fun c1 => ?_)
  · exfalso; omega
  · refine ar_iloadn (k := 2) rfl rfl ?_
    refine ar_bipush (k := 3) rfl (by decide) ?_
    refine ar_icmp_le (k := 4) rfl (by omega) (by omega) (fun c4 => ?_) (fun c4 => ?_)
    · refine ar_iloadn (k := 7) rfl rfl ?_
      refine ar_if_lt (k := 8) rfl (by omega) (fun c8 => ?_) (fun c8 => ?_)
      · exfalso; omega
      · refine ar_iloadn (k := 9) rfl rfl ?_
        refine ar_bipush (k := 10) rfl (by decide) ?_
        refine ar_icmp_gt (k := 11) rfl (by omega) (by omega) (fun c11 => ?_) (fun c11 => ?_)
        · exfalso; omega
        · refine ar_iloadn (k := 12) rfl rfl ?_
          refine ar_if_lt (k := 13) rfl (by omega) (fun c13 => ?_) (fun c13 => ?_)
          · exfalso; omega
          · refine ar_iloadn (k := 14) rfl rfl ?_
            refine ar_iconst (k := 15) rfl ?_
            refine ar_icmp_lt (k := 16) rfl (by omega) (by omega) (fun c16 => ?_) (fun c16 => ?_)
            · refine ar_aloadn (k := 19) rfl rfl ?_
              refine br_getR (k := 20) rfl (hS.k (by decide)) flT_14_11 (by decide) rfl (hS.r rfl) ?_
              refine br_getIz (k := 21) (z := 5) rfl (hS.k (by decide)) flT_65_10 (by decide) rfl rfl ?_
              refine tw_top (WN.pc hN) ?_
              refine ar_bipush (k := 22) rfl (by decide) ?_
              refine ar_icmp_lt (k := 23) rfl (by omega) (by omega) (fun c23 => ?_) (fun c23 => ?_)
              · refine ar_aloadn (k := 26) rfl rfl ?_
                refine br_getR (k := 27) rfl (hS.k (by decide)) flT_14_11 (by decide) rfl (hS.r rfl) ?_
                refine ar_iloadn (k := 28) rfl rfl ?_
                refine ar_aloadn (k := 29) rfl rfl ?_
                refine br_getR (k := 30) rfl (hS.k (by decide)) flT_14_11 (by decide) rfl (hS.r rfl) ?_
                refine br_getIz (k := 31) (z := 5) rfl (hS.k (by decide)) flT_65_10 (by decide) rfl rfl ?_
                refine tw_top (WN.pc hN) ?_
                refine ar_iloadn (k := 32) rfl rfl ?_
                refine ar_iloadn (k := 33) rfl rfl ?_
                refine ar_callS (k := 34) (as := [_, _, _, _]) rfl lsT_68 (c_T_newcomer (by omega)) rfl (by decide) (by decide) ⟨by show n - n + 1 ≤ 1; omega, by decide⟩ (Nat.le_of_ble_eq_true rfl) (fun r34 h34 p34 => ?_)
                obtain ⟨rfl, rfl⟩ := p34
                have hS := (hS.nw (q := (kC k, 4))).i (I2 := uI (uI (uI (uI (zI I n) n 0 k) n 1 (s 0)) n 2 v) n 3 u)
                have hN3 : WN 1 (uI (uI (uI (uI (zI I n) n 0 k) n 1 (s 0)) n 2 v) n 3 u) (up (up (up s (10 + s 0) k) (18 + s 0) v) (26 + s 0) u) := by
                  have y : WN 1 (uI (uI (uI (uI (zI I n) n 0 k) n 1 (s 0)) n 2 v) n 3 u) s := hN.fm (fun b b1 b2 => by rw [uI_off _ _ _ (by omega), uI_off _ _ _ (by omega), uI_off _ _ _ (by omega), uI_off _ _ _ (by omega)]; show (if b = n then _ else I b) = I b; rw [if_neg (by omega)])
                  exact ((y.s_hd (by omega)).s_hd (by omega)).s_hd (by omega)
                have q3 : up (up (up s (10 + s 0) k) (18 + s 0) v) (26 + s 0) u 0 = s 0 := by rw [up_ne _ _ (by omega), up_ne _ _ (by omega), up_ne _ _ (by omega)]
                refine ar_callV (k := 35) (as := [_]) rfl lvT_72 (hS.k (by decide)) rfl (c_W_addPerson (k0 := k) hS hN3 (by rw [q3]; omega) (if_pos rfl) (Nat.lt_succ_self n)) rfl (by decide) (by decide) ⟨by show n + 1 - n + 0 ≤ 1; omega, by decide⟩ (Nat.le_of_ble_eq_true rfl) (fun r35 h35 p35 => ?_)
                obtain ⟨rfl, I35, rfl, hw35, hN35⟩ := p35
                rw [q3] at hN35 ⊢
                refine ar_aloadn (k := 36) rfl rfl ?_
                refine br_getR (k := 37) rfl (hS.k (by decide)) flT_14_11 (by decide) rfl (hS.r rfl) ?_
                refine br_getIz (k := 38) (z := 5) rfl (hS.k (by decide)) flT_65_10 (by decide) rfl rfl ?_
                refine tw_top (y := s 0 + 1) (by rw [hN35.pc, up_at]) ?_
                refine ar_iconst (k := 39) rfl ?_
                refine ar_isub (k := 40) rfl ?_
                refine ar_iret (k := 41) rfl rfl rfl (Nat.le_refl _) ?_
                exact ⟨congrArg (fun z => some (vi z)) (by simp only []; omega), I35, rfl, hN35, hw35⟩
              · exfalso; omega
            · exfalso; omega
    · exfalso; omega
end CP3
