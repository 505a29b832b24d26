section CK2
variable {l : Launch} {G : tG} {K : Nat → Nat × Nat} {I J : Nat → Int → Int} {Q R : Nat → Int → Option Nat} {n : Nat} {s : Int → Int}
theorem WN.clr (h : WN 27 I s) (e : ∀ x, x ≠ 35 → J x = I x) (f : ∀ i : Int, 0 ≤ i → i < 10 → J 35 i = -5) : WN 27 J (rClr s) := by
  have hb := h.bd
  have r : ∀ j, j < 94 ∨ 104 ≤ j → rClr s j = s j := fun j hj => by rw [rClr_at hb.2.1.1, if_neg (by omega)]
  have rt : ∀ t, 0 ≤ t → t < s 1 → rClr s (94 + t) = -1 := fun t t1 t2 => by rw [rClr_at hb.2.1.1, if_pos (by omega)]
  have e0 := r 0 (by omega)
  have e1 := r 1 (by omega)
  have e3 := r 3 (by omega)
  have e4 := r 4 (by omega)
  refine ⟨⟨?_, ?_, ?_, ?_, ?_, ?_, by omega⟩, fun i i1 i2 => ?_, fun p p1 p2 => ?_, fun j j1 j2 => ?_, fun t t1 t2 => ⟨?_, ?_, ?_, ?_⟩, fun r r1 r2 => ⟨?_, ?_, ?_⟩, fun r r1 r2 => ⟨?_, ?_⟩⟩
  · rw [e _ (by decide), r _ (by omega)]; exact h.sg
  · rw [e _ (by decide), r _ (by omega)]; exact h.vc
  · rw [e _ (by decide), r _ (by omega)]; exact h.pc
  · rw [e _ (by decide), r _ (by omega)]; exact h.tc
  · rw [e _ (by decide), r _ (by omega)]; exact h.rc
  · rw [e _ (by decide), r _ (by omega)]; exact h.bc
  · rw [e _ (by decide), show rClr s (174 + i) = s (174 + i) from by rw [rClr_at hb.2.1.1, if_neg (by omega)]]; exact h.tp i1 (by omega)
  · rw [e _ (by decide), show rClr s (34 + p) = s (34 + p) from by rw [rClr_at hb.2.1.1, if_neg (by omega)]]; exact h.fr p1 (by omega)
  · rw [e _ (by decide), show rClr s (42 + j) = s (42 + j) from by rw [rClr_at hb.2.1.1, if_neg (by omega)]]; exact h.rw j1 (by omega)
  · rw [e _ (by decide), show rClr s (74 + t) = s (74 + t) from by rw [rClr_at hb.2.1.1, if_neg (by omega)]]; exact h.so t1 (by omega)
  · rw [e _ (by decide), show rClr s (84 + t) = s (84 + t) from by rw [rClr_at hb.2.1.1, if_neg (by omega)]]; exact h.ho t1 (by omega)
  · rw [rt t t1 (by omega), if_pos rfl]; exact f t t1 (by omega)
  · rw [e _ (by decide), show rClr s (104 + t) = s (104 + t) from by rw [rClr_at hb.2.1.1, if_neg (by omega)]]; exact h.br t1 (by omega)
  · rw [e _ (by decide), show rClr s (114 + r) = s (114 + r) from by rw [rClr_at hb.2.1.1, if_neg (by omega)]]; exact h.t1 r1 (by omega)
  · rw [e _ (by decide), show rClr s (126 + r) = s (126 + r) from by rw [rClr_at hb.2.1.1, if_neg (by omega)]]; exact h.t2 r1 (by omega)
  · rw [e _ (by decide), show rClr s (138 + r) = s (138 + r) from by rw [rClr_at hb.2.1.1, if_neg (by omega)]]; exact h.we r1 (by omega)
  · rw [e _ (by decide), show rClr s (150 + r) = s (150 + r) from by rw [rClr_at hb.2.1.1, if_neg (by omega)]]; exact h.bh r1 (by omega)
  · rw [e _ (by decide), show rClr s (162 + r) = s (162 + r) from by rw [rClr_at hb.2.1.1, if_neg (by omega)]]; exact h.bo r1 (by omega)
theorem c_P_seekJoin {a b : Int} {g : Int → Int} (hU : NU K I Q n s) (hR : RInv s) (hV : RVal s) (h6 : s 1 ≤ 6) (hev : s 1 % 2 = 0) : tw_M l G 15 0 0 mP_seekJoin [vr (some 40), vr (some 1)] (K, I, Q, n) (fun r h' => r = none ∧ ∃ J S, h' = (K, J, S, n) ∧ qg Q S ∧ tSt (K, J, S, n) ∧ cg K I J ∧ J 40 19 = (rJ 8 (rClr s) (0, b, g)).2.1 ∧ ∀ t : Int, 0 ≤ t → t < s 1 → J 60 t = (rJ 8 (rClr s) (0, b, g)).2.2 t) := by
  obtain ⟨h0, h1, h2, h3, h4, h5, h6x, hp, hrw, ht, hr, hb, htp, hv⟩ := id hR
  have hS := hU.1
  have hR2 := RInv_clr hR
  have hV2 := RVal_clr h1 hV
  have c1 : rClr s 1 = s 1 := by rw [rClr_at h1.1, if_neg (by omega)]
  have hc := cS_clr h1.1
  have hf := (rFst_le (s := rClr s) (by rw [c1]; exact h1.1)).1
  have hone := rJ_one 8 (rClr s) (0, b, g) (by rw [c1]; exact h1.1) (by rw [c1]; omega) (by rw [hc]; exact hev) (Or.inl rfl)
  refine tw_intro okP_seekJoin (Nat.le_of_ble_eq_true rfl) ?_
  refine ar_aloadn (k := 0) rfl rfl ?_
  refine br_getR (k := 1) rfl (hS.k (by decide)) flP_12_6 (by decide) rfl (hS.r rfl) ?_
  refine ar_aloadn (k := 2) rfl rfl ?_
  refine ar_callV (k := 3) (as := [_]) rfl lvP_190 (hS.k (by decide)) rfl (c_W_guess hU hR) rfl (by decide) (by decide) tw_m0 (Nat.le_of_ble_eq_true rfl) (fun r3 h3 p3 => ?_)
  obtain ⟨rfl, J3, R3, rfl, hG3, hc3, hg3, f3⟩ := p3
  have hS := hG3.1
  refine ar_aloadn (k := 4) rfl rfl ?_
  refine br_getR (k := 5) rfl (hS.k (by decide)) flP_12_6 (by decide) rfl (hS.r rfl) ?_
  refine br_getR (k := 6) rfl (hS.k (by decide)) flP_98_10 (by decide) rfl (hS.r rfl) ?_
  refine ar_bipush (k := 7) rfl (by decide) ?_
  refine ar_callS (k := 8) (as := [_, _]) rfl lsP_86 (c_fillJ (by decide) (hS.k (a := 35) (by decide))) rfl (by decide) (by decide) tw_m0 (Nat.le_of_ble_eq_true rfl) (fun r8 h8 p8 => ?_)
  obtain ⟨rfl, I8, rfl, fo8, fa8⟩ := p8
  refine ar_aloadn (k := 9) rfl rfl ?_
  refine ar_iconst (k := 10) rfl ?_
  refine br_putIJ (k := 11) rfl (hS.k (by decide)) flP_78_6 (by decide) rfl (fun _ _ _ q => by cases q; exact ⟨rfl, rfl⟩) (fun I11 e11 => ?_)
  change _ = uI _ 40 19 _ at e11
  skip
  have hN8 : WN 27 I8 (rClr s) := hG3.2.1.clr fo8 (fun i i1 i2 => fa8 i i1 i2)
  have hG8 : GU K I8 R3 n (rClr s) := hG3.fw (a := 35) (by decide) fo8 hN8 (fun j hj => by rw [rClr_at h1.1, if_neg (by omega)]) (fun j hj => by rw [rClr_at h1.1, if_neg (by omega)]) h0.2
  have eo11 : ∀ x, x ≠ 40 → I11 x = I8 x := fun x hx => by rw [e11, uI_off _ _ _ hx]
  have hG11 := hG8.f40 eo11
  have hJ11 : JR I11 (rClr s 1) (0, b, g) := Or.inl ⟨rfl, by rw [e11, uI_at, if_pos rfl]⟩
  refine ar_aloadn (k := 12) rfl rfl ?_
  refine ar_iconst (k := 13) rfl ?_
  refine ar_callV (k := 14) (as := [vi ((0 : Nat) : Int)]) rfl lvP_201 (hS.k (by decide)) rfl (c_P_joinRest 8 (rClr s) I11 R3 0 (0, b, g) hG11 hR2 hV2 (by rw [c1]; exact h6) (by rw [c1]; omega) (by rw [c1, hc]; omega) (by rw [hc]; exact hev) hJ11) rfl (by decide) (by decide) tw_m0 (Nat.le_of_ble_eq_true rfl) (fun r14 h14 p14 => ?_)
  obtain ⟨rfl, I14, S14, rfl, hq14, hG14, hc14, hJ14⟩ := p14
  refine ar_ret (k := 15) rfl rfl rfl (Nat.le_refl _) ?_
  refine ⟨rfl, I14, S14, rfl, hg3.t hq14.g, hG14.1, ((hc3.fw (a := 35) (by decide) fo8).f40 eo11).trans hc14, ?_⟩
  rcases hJ14 with z | z
  · exfalso; have := z.1; omega
  · exact ⟨z.2.1, fun t t1 t2 => z.2.2.2 t t1 (by rw [c1]; exact t2)⟩
theorem c_T_join {w : Int} {q : tJS} (hS : tSt (K, I, Q, n)) (hN : WN 1 I s) (hP : WP 1 K I Q n s) (hW : WV 1 K I Q n s) (hH : QH K Q n 1) (hR : RInv s) (hV : RVal s) (h57 : I 57 0 = 0) (h59 : I 59 0 = 0) (tw : tr w) : tw_M l G 16 0 0 mT_join [vr (some 0), vi w] (K, I, Q, n) (fun r h' => r = some (vi (rJoinA s q w)) ∧ ∃ J Q', h' = (K, J, Q', n) ∧ cg K I J ∧ qg Q Q' ∧ tSt (K, J, Q', n)) := by
  obtain ⟨h0, h1, h2, h3, h4, h5, h6x, hp, hrw, ht, hr, hb, htp, hv⟩ := id hR
  have hU : NU K I Q n s := ⟨hS, hN, hP, hW, hH, h57, h59⟩
  refine tw_intro okT_join (Nat.le_of_ble_eq_true rfl) ?_
  refine ar_iloadn (k := 0) rfl rfl ?_
  refine ar_iconst (k := 1) rfl ?_
  refine ar_icmp_eq (k := 2) rfl (by omega) (by omega) (fun c2 => ?_) (fun c2 => ?_)
  · refine ar_aloadn (k := 10) rfl rfl ?_
    refine br_getR (k := 11) rfl (hS.k (by decide)) flT_14_11 (by decide) rfl (hS.r rfl) ?_
    refine br_getIz (k := 12) (z := 12) rfl (hS.k (by decide)) flT_100_10 (by decide) rfl rfl ?_
    refine tw_top (WN.tc hN) ?_
    refine ar_bipush (k := 13) rfl (by decide) ?_
    refine ar_icmp_gt (k := 14) rfl (by omega) (by omega) (fun c14 => ?_) (fun c14 => ?_)
    · refine ar_bipush (k := 21) rfl (by decide) ?_
      refine ar_iret (k := 22) rfl rfl rfl (Nat.le_refl _) ?_
      first
        | (exfalso; omega)
        | exact ⟨congrArg (fun z => some (vi z)) (by unfold rJoinA; rw [if_neg (by omega), if_pos (by omega)]), I, Q, rfl, cg.rf, qg.rf, hS⟩
    · refine ar_aloadn (k := 15) rfl rfl ?_
      refine br_getR (k := 16) rfl (hS.k (by decide)) flT_14_11 (by decide) rfl (hS.r rfl) ?_
      refine br_getIz (k := 17) (z := 12) rfl (hS.k (by decide)) flT_100_10 (by decide) rfl rfl ?_
      refine tw_top (WN.tc hN) ?_
      refine ar_iconst (k := 18) rfl ?_
      refine ar_irem (k := 19) rfl (by omega) (by omega) (by omega) ?_
      refine tw_top (y := s 1 % 2) (by exact Int.tmod_eq_emod_of_nonneg (by omega)) ?_
      refine ar_if_eq (k := 20) rfl (by omega) (fun c20 => ?_) (fun c20 => ?_)
      · refine ar_aloadn (k := 23) rfl rfl ?_
        refine br_getR (k := 24) rfl (hS.k (by decide)) flT_28_11 (by decide) rfl (hS.r rfl) ?_
        refine ar_aloadn (k := 25) rfl rfl ?_
        refine br_getR (k := 26) rfl (hS.k (by decide)) flT_14_11 (by decide) rfl (hS.r rfl) ?_
        refine ar_callV (k := 27) (as := [_]) rfl lvT_212 (hS.k (by decide)) rfl (c_P_seekJoin (a := 0) (b := q.2.1) (g := q.2.2) hU hR hV (by omega) (by omega)) rfl (by decide) (by decide) tw_m0 (Nat.le_of_ble_eq_true rfl) (fun r27 h27 p27 => ?_)
        obtain ⟨rfl, I27, S27, rfl, hq27, hS, hc27, hj27⟩ := p27
        refine ar_iloadn (k := 28) rfl rfl ?_
        refine ar_iconst (k := 29) rfl ?_
        refine ar_icmp_eq (k := 30) rfl (by omega) (by omega) (fun c30 => ?_) (fun c30 => ?_)
        · refine ar_aloadn (k := 34) rfl rfl ?_
          refine br_getR (k := 35) rfl (hS.k (by decide)) flT_28_11 (by decide) rfl (hS.r rfl) ?_
          refine br_getIz (k := 36) (z := 19) rfl (hS.k (by decide)) flT_215_6 (by decide) rfl rfl ?_
          refine tw_top hj27.1 ?_
          refine ar_goto (k := 37) rfl ?_
          refine ar_iret (k := 43) rfl rfl rfl (Nat.le_refl _) ?_
          first
            | (exfalso; omega)
            | exact ⟨congrArg (fun z => some (vi z)) (by unfold rJoinA; rw [if_neg (by omega), if_neg (by omega), if_pos (by omega)]), _, _, rfl, hc27, hq27, hS⟩
            | exact ⟨congrArg (fun z => some (vi z)) (by unfold rJoinA; rw [if_neg (by omega), if_neg (by omega), if_neg (by omega)]), _, _, rfl, hc27, hq27, hS⟩
        · refine ar_iloadn (k := 31) rfl rfl ?_
          refine ar_bipush (k := 32) rfl (by decide) ?_
          refine ar_icmp_lt (k := 33) rfl (by omega) (by omega) (fun c33 => ?_) (fun c33 => ?_)
          · refine ar_aloadn (k := 38) rfl rfl ?_
            refine br_getR (k := 39) rfl (hS.k (by decide)) flT_28_11 (by decide) rfl (hS.r rfl) ?_
            refine br_getR (k := 40) rfl (hS.k (by decide)) flT_218_6 (by decide) rfl (hS.r rfl) ?_
            refine ar_iloadn (k := 41) rfl rfl ?_
            refine br_iald (k := 42) rfl (hS.k (by decide)) (by omega) (by omega) (by decide) ?_
            refine tw_top (hj27.2 _ (by omega) (by omega)) ?_
            refine ar_iret (k := 43) rfl rfl rfl (Nat.le_refl _) ?_
            first
              | (exfalso; omega)
              | exact ⟨congrArg (fun z => some (vi z)) (by unfold rJoinA; rw [if_neg (by omega), if_neg (by omega), if_pos (by omega)]), _, _, rfl, hc27, hq27, hS⟩
              | exact ⟨congrArg (fun z => some (vi z)) (by unfold rJoinA; rw [if_neg (by omega), if_neg (by omega), if_neg (by omega)]), _, _, rfl, hc27, hq27, hS⟩
          · refine ar_aloadn (k := 34) rfl rfl ?_
            refine br_getR (k := 35) rfl (hS.k (by decide)) flT_28_11 (by decide) rfl (hS.r rfl) ?_
            refine br_getIz (k := 36) (z := 19) rfl (hS.k (by decide)) flT_215_6 (by decide) rfl rfl ?_
            refine tw_top hj27.1 ?_
            refine ar_goto (k := 37) rfl ?_
            refine ar_iret (k := 43) rfl rfl rfl (Nat.le_refl _) ?_
            first
              | (exfalso; omega)
              | exact ⟨congrArg (fun z => some (vi z)) (by unfold rJoinA; rw [if_neg (by omega), if_neg (by omega), if_pos (by omega)]), _, _, rfl, hc27, hq27, hS⟩
              | exact ⟨congrArg (fun z => some (vi z)) (by unfold rJoinA; rw [if_neg (by omega), if_neg (by omega), if_neg (by omega)]), _, _, rfl, hc27, hq27, hS⟩
      · refine ar_bipush (k := 21) rfl (by decide) ?_
        refine ar_iret (k := 22) rfl rfl rfl (Nat.le_refl _) ?_
        first
          | (exfalso; omega)
          | exact ⟨congrArg (fun z => some (vi z)) (by unfold rJoinA; rw [if_neg (by omega), if_pos (by omega)]), I, Q, rfl, cg.rf, qg.rf, hS⟩
  · refine ar_aloadn (k := 3) rfl rfl ?_
    refine br_getR (k := 4) rfl (hS.k (by decide)) flT_14_11 (by decide) rfl (hS.r rfl) ?_
    refine ar_iloadn (k := 5) rfl rfl ?_
    refine ar_callV (k := 6) (as := [_]) rfl lvT_107 (hS.k (by decide)) rfl (c_W_hasTool hS hN hR (by omega)) rfl (by decide) (by decide) tw_m0 (Nat.le_of_ble_eq_true rfl) (fun r6 h6 p6 => ?_)
    obtain ⟨rfl, rfl⟩ := p6
    refine ar_if_ne (k := 7) rfl (by omega) (fun c7 => ?_) (fun c7 => ?_)
    · refine ar_aloadn (k := 10) rfl rfl ?_
      refine br_getR (k := 11) rfl (hS.k (by decide)) flT_14_11 (by decide) rfl (hS.r rfl) ?_
      refine br_getIz (k := 12) (z := 12) rfl (hS.k (by decide)) flT_100_10 (by decide) rfl rfl ?_
      refine tw_top (WN.tc hN) ?_
      refine ar_bipush (k := 13) rfl (by decide) ?_
      refine ar_icmp_gt (k := 14) rfl (by omega) (by omega) (fun c14 => ?_) (fun c14 => ?_)
      · refine ar_bipush (k := 21) rfl (by decide) ?_
        refine ar_iret (k := 22) rfl rfl rfl (Nat.le_refl _) ?_
        first
          | (exfalso; omega)
          | exact ⟨congrArg (fun z => some (vi z)) (by unfold rJoinA; rw [if_neg (by omega), if_pos (by omega)]), I, Q, rfl, cg.rf, qg.rf, hS⟩
      · refine ar_aloadn (k := 15) rfl rfl ?_
        refine br_getR (k := 16) rfl (hS.k (by decide)) flT_14_11 (by decide) rfl (hS.r rfl) ?_
        refine br_getIz (k := 17) (z := 12) rfl (hS.k (by decide)) flT_100_10 (by decide) rfl rfl ?_
        refine tw_top (WN.tc hN) ?_
        refine ar_iconst (k := 18) rfl ?_
        refine ar_irem (k := 19) rfl (by omega) (by omega) (by omega) ?_
        refine tw_top (y := s 1 % 2) (by exact Int.tmod_eq_emod_of_nonneg (by omega)) ?_
        refine ar_if_eq (k := 20) rfl (by omega) (fun c20 => ?_) (fun c20 => ?_)
        · refine ar_aloadn (k := 23) rfl rfl ?_
          refine br_getR (k := 24) rfl (hS.k (by decide)) flT_28_11 (by decide) rfl (hS.r rfl) ?_
          refine ar_aloadn (k := 25) rfl rfl ?_
          refine br_getR (k := 26) rfl (hS.k (by decide)) flT_14_11 (by decide) rfl (hS.r rfl) ?_
          refine ar_callV (k := 27) (as := [_]) rfl lvT_212 (hS.k (by decide)) rfl (c_P_seekJoin (a := 0) (b := q.2.1) (g := q.2.2) hU hR hV (by omega) (by omega)) rfl (by decide) (by decide) tw_m0 (Nat.le_of_ble_eq_true rfl) (fun r27 h27 p27 => ?_)
          obtain ⟨rfl, I27, S27, rfl, hq27, hS, hc27, hj27⟩ := p27
          refine ar_iloadn (k := 28) rfl rfl ?_
          refine ar_iconst (k := 29) rfl ?_
          refine ar_icmp_eq (k := 30) rfl (by omega) (by omega) (fun c30 => ?_) (fun c30 => ?_)
          · refine ar_aloadn (k := 34) rfl rfl ?_
            refine br_getR (k := 35) rfl (hS.k (by decide)) flT_28_11 (by decide) rfl (hS.r rfl) ?_
            refine br_getIz (k := 36) (z := 19) rfl (hS.k (by decide)) flT_215_6 (by decide) rfl rfl ?_
            refine tw_top hj27.1 ?_
            refine ar_goto (k := 37) rfl ?_
            refine ar_iret (k := 43) rfl rfl rfl (Nat.le_refl _) ?_
            first
              | (exfalso; omega)
              | exact ⟨congrArg (fun z => some (vi z)) (by unfold rJoinA; rw [if_neg (by omega), if_neg (by omega), if_pos (by omega)]), _, _, rfl, hc27, hq27, hS⟩
              | exact ⟨congrArg (fun z => some (vi z)) (by unfold rJoinA; rw [if_neg (by omega), if_neg (by omega), if_neg (by omega)]), _, _, rfl, hc27, hq27, hS⟩
          · refine ar_iloadn (k := 31) rfl rfl ?_
            refine ar_bipush (k := 32) rfl (by decide) ?_
            refine ar_icmp_lt (k := 33) rfl (by omega) (by omega) (fun c33 => ?_) (fun c33 => ?_)
            · refine ar_aloadn (k := 38) rfl rfl ?_
              refine br_getR (k := 39) rfl (hS.k (by decide)) flT_28_11 (by decide) rfl (hS.r rfl) ?_
              refine br_getR (k := 40) rfl (hS.k (by decide)) flT_218_6 (by decide) rfl (hS.r rfl) ?_
              refine ar_iloadn (k := 41) rfl rfl ?_
              refine br_iald (k := 42) rfl (hS.k (by decide)) (by omega) (by omega) (by decide) ?_
              refine tw_top (hj27.2 _ (by omega) (by omega)) ?_
              refine ar_iret (k := 43) rfl rfl rfl (Nat.le_refl _) ?_
              first
                | (exfalso; omega)
                | exact ⟨congrArg (fun z => some (vi z)) (by unfold rJoinA; rw [if_neg (by omega), if_neg (by omega), if_pos (by omega)]), _, _, rfl, hc27, hq27, hS⟩
                | exact ⟨congrArg (fun z => some (vi z)) (by unfold rJoinA; rw [if_neg (by omega), if_neg (by omega), if_neg (by omega)]), _, _, rfl, hc27, hq27, hS⟩
            · refine ar_aloadn (k := 34) rfl rfl ?_
              refine br_getR (k := 35) rfl (hS.k (by decide)) flT_28_11 (by decide) rfl (hS.r rfl) ?_
              refine br_getIz (k := 36) (z := 19) rfl (hS.k (by decide)) flT_215_6 (by decide) rfl rfl ?_
              refine tw_top hj27.1 ?_
              refine ar_goto (k := 37) rfl ?_
              refine ar_iret (k := 43) rfl rfl rfl (Nat.le_refl _) ?_
              first
                | (exfalso; omega)
                | exact ⟨congrArg (fun z => some (vi z)) (by unfold rJoinA; rw [if_neg (by omega), if_neg (by omega), if_pos (by omega)]), _, _, rfl, hc27, hq27, hS⟩
                | exact ⟨congrArg (fun z => some (vi z)) (by unfold rJoinA; rw [if_neg (by omega), if_neg (by omega), if_neg (by omega)]), _, _, rfl, hc27, hq27, hS⟩
        · refine ar_bipush (k := 21) rfl (by decide) ?_
          refine ar_iret (k := 22) rfl rfl rfl (Nat.le_refl _) ?_
          first
            | (exfalso; omega)
            | exact ⟨congrArg (fun z => some (vi z)) (by unfold rJoinA; rw [if_neg (by omega), if_pos (by omega)]), I, Q, rfl, cg.rf, qg.rf, hS⟩
    · refine ar_sipush (k := 8) rfl (by decide) ?_
      refine ar_iret (k := 9) rfl rfl rfl (Nat.le_refl _) ?_
      first
        | (exfalso; omega)
        | exact ⟨congrArg (fun z => some (vi z)) (by unfold rJoinA; rw [if_pos (by omega)]), I, Q, rfl, cg.rf, qg.rf, hS⟩
end CK2
