theorem cS_nn (s : Int → Int) : 0 ≤ cS s := by
  unfold cS
  have := smV_le (g := fun _ => 0) (g' := fun t : Nat => if s (94 + (t : Int)) = -1 then (1 : Int) else 0) (m := (s 1).toNat) (fun i _ => by show (0 : Int) ≤ if s (94 + (i : Int)) = -1 then 1 else 0; split <;> omega) (s 1).toNat 0 0 0 (by omega) (by omega)
  rw [smV_c] at this
  omega
section CJ4
variable {l : Launch} {G : tG} {K : Nat → Nat × Nat} {I J : Nat → Int → Int} {Q R : Nat → Int → Option Nat} {n : Nat} {s : Int → Int}
theorem GU.pr {a b : Int} (h : GU K I R n s) (a1 : 0 ≤ a ∧ a < s 1) (b1 : 0 ≤ b ∧ b < s 1) : GU K (uI (uI I 35 a b) 35 b a) R n (rPair s a b) := by
  have hb := h.2.1.bd
  have hN : WN 27 (uI (uI I 35 a b) 35 b a) (rPair s a b) := by
    have z := WN.u_tw (x := a) (t0 := b) (WN.u_tw (x := b) (t0 := a) h.2.1 (by omega)) (by omega)
    rw [if_neg (by omega), if_neg (by omega)] at z
    exact z
  exact h.fw (a := 35) (by decide) (fun x hx => by rw [uI_off _ _ _ hx, uI_off _ _ _ hx]) hN (fun j hj => by unfold rPair; rw [up_ne _ _ (by omega), up_ne _ _ (by omega)]) (fun j hj => by unfold rPair; rw [up_ne _ _ (by omega), up_ne _ _ (by omega)]) hb.1.2
def JC (K : Nat → Nat × Nat) (I : Nat → Int → Int) (R : Nat → Int → Option Nat) (n : Nat) (s : Int → Int) (q : tJS) : Option tV → tH → Prop := fun r h' => r = none ∧ ∃ J S, h' = (K, J, S, n) ∧ q27 R S ∧ GU K J S n s ∧ cg K I J ∧ JR J (s 1) q
abbrev JT (l : Launch) (G : tG) (K : Nat → Nat × Nat) (n e : Nat) : Prop := ∀ (s : Int → Int) (I : Nat → Int → Int) (R : Nat → Int → Option Nat) (j : Nat) (q : tJS), GU K I R n s → RInv s → RVal s → s 1 ≤ 6 → s 1 - rFst s < (e : Int) → cS s = s 1 - 2 * (j : Int) → cS s % 2 = 0 → JR I (s 1) q → tw_M l G (6 + e) 0 0 mP_joinRest [vr (some 40), vi (j : Int)] (K, I, R, n) (JC K I R n s (rJ e s q))
theorem l_P_joinRest {e j : Nat} (rec : JT l G K n e) (hR : RInv s) (hV : RVal s) (h6 : s 1 ≤ 6) (hfu : s 1 - rFst s < ((e + 1 : Nat) : Int)) (hcs : cS s = s 1 - 2 * (j : Int)) (hev : cS s % 2 = 0) (g : rFst s < s 1) : ∀ (k : Nat) (b : Nat) (q : tJS) (J : Nat → Int → Int) (S : Nat → Int → Option Nat), b + k = (s 1).toNat → (rFst s < (b : Int)) → (GU K J S n s ∧ q27 R S ∧ cg K I J ∧ JR J (s 1) q) → tw_AW l G mP_joinRest (7 + e) 0 0 n 0 (JC K I R n s (rJb (rJ e) s (rFst s) k b q)) 38 [(3, vi (b : Int)), (0, vr (some 40)), (1, vi (j : Int)), (2, vi (rFst s))] [] (K, J, S, n) := by
  obtain ⟨h0, h1, h2, h3, h4, h5, h6x, hp, hrw, ht, hr, hb, htp, hv⟩ := id hR
  obtain ⟨f1, f2, f3, f4⟩ := rFst_le (s := s) h1.1
  have fs := f3 g
  intro k
  induction k with
  | zero =>
    intro b q J S hb2 hba hI
    have hS := hI.1.1
    refine ar_iloadn (k := 22) rfl rfl ?_
    refine ar_aloadn (k := 23) rfl rfl ?_
    refine br_getR (k := 24) rfl (hS.k (by decide)) flP_12_6 (by decide) rfl (hS.r rfl) ?_
    refine br_getIz (k := 25) (z := 12) rfl (hS.k (by decide)) flP_92_10 (by decide) rfl rfl ?_
    refine tw_top (WN.tc hI.1.2.1) ?_
    refine ar_icmp_ge (k := 26) rfl (by omega) (by omega) (fun c26 => ?_) (fun c26 => ?_)
    · refine ar_ret (k := 49) rfl rfl rfl (Nat.le_refl _) ?_
      exact ⟨rfl, J, S, rfl, hI.2.1, hI.1, hI.2.2.1, hI.2.2.2⟩
    · exfalso; omega
  | succ k ih =>
    intro b q J S hb2 hba hI
    have hS := hI.1.1
    refine ar_iloadn (k := 22) rfl rfl ?_
    refine ar_aloadn (k := 23) rfl rfl ?_
    refine br_getR (k := 24) rfl (hS.k (by decide)) flP_12_6 (by decide) rfl (hS.r rfl) ?_
    refine br_getIz (k := 25) (z := 12) rfl (hS.k (by decide)) flP_92_10 (by decide) rfl rfl ?_
    refine tw_top (WN.tc hI.1.2.1) ?_
    refine ar_icmp_ge (k := 26) rfl (by omega) (by omega) (fun c26 => ?_) (fun c26 => ?_)
    · exfalso; omega
    · have wb := ht (b : Int) (by omega) (by omega)
      refine ar_aloadn (k := 27) rfl rfl ?_
      refine br_getR (k := 28) rfl (hS.k (by decide)) flP_12_6 (by decide) rfl (hS.r rfl) ?_
      refine br_getR (k := 29) rfl (hS.k (by decide)) flP_98_10 (by decide) rfl (hS.r rfl) ?_
      refine ar_iloadn (k := 30) rfl rfl ?_
      refine br_iald (k := 31) rfl (hS.k (by decide)) (by omega) (by omega) (by decide) ?_
      refine tw_top (WN.tw hI.1.2.1 (by omega) (by omega)) ?_
      refine ar_if_ge (k := 32) rfl (by omega) (fun c32 => ?_) (fun c32 => ?_)
      · refine ar_iinc (k := 47) (l2 := [(3, _), (0, _), (1, _), (2, _)]) rfl (by decide) rfl rfl ?_
        refine ar_goto (k := 48) rfl ?_
        refine ar_sub (l2 := [(3, vi ((b + 1 : Nat) : Int)), (0, vr (some 40)), (1, vi (j : Int)), (2, vi (rFst s))]) (tw_s (tw_e 0 rfl (by omega)) (tw_s (tw_g 1 rfl) (tw_s (tw_g 2 rfl) (tw_s (tw_g 3 rfl) tw_s0)))) ?_
        refine tw_pst ?_ (ih (b + 1) q J S (by omega) (by omega) hI)
        intro r h' z
        rw [rJb, if_neg (by omega)]
        exact z
      · have hbs : s (94 + (b : Int)) = -1 := by omega
        refine ar_aloadn (k := 33) rfl rfl ?_
        refine br_getR (k := 34) rfl (hS.k (by decide)) flP_12_6 (by decide) rfl (hS.r rfl) ?_
        refine ar_iloadn (k := 35) rfl rfl ?_
        refine ar_iloadn (k := 36) rfl rfl ?_
        refine ar_callV (k := 37) (as := [_, _]) rfl lvP_211 (hS.k (by decide)) rfl (c_W_pairUp27 hS (by omega) (by omega)) rfl (by omega) (by decide) tw_m0 (Nat.le_of_ble_eq_true rfl) (fun r37 h37 p37 => ?_)
        obtain ⟨rfl, rfl⟩ := p37
        have hG37 := hI.1.pr (a := rFst s) (b := (b : Int)) (by omega) (by omega)
        have p1s : rPair s (rFst s) (b : Int) 1 = s 1 := rPair_1 (by omega) (by omega)
        have p2s := rFst_pair (b := (b : Int)) h1.1 (by omega) (by omega)
        have hR2 := RInv_pair (a := rFst s) (b := (b : Int)) (by omega) (by omega) (by omega) fs hbs hR
        have hV2 := RVal_pair (a := rFst s) (b := (b : Int)) (by omega) (by omega) hV
        have hc2 := cS_pair (a := rFst s) (b := (b : Int)) h1.1 (by omega) (by omega) (by omega) fs hbs
        have hpp : rPart (rPair s (rFst s) (b : Int)) (rFst s) = s := rPart_pair (by omega) (by omega) fs hbs
        refine ar_aloadn (k := 38) rfl rfl ?_
        refine ar_iloadn (k := 39) rfl rfl ?_
        refine ar_iconst (k := 40) rfl ?_
        refine ar_iadd (k := 41) rfl ?_
        refine ar_callV (k := 42) (as := [vi ((j + 1 : Nat) : Int)]) rfl lvP_201 (hS.k (by decide)) rfl (by have z := rec (rPair s (rFst s) (b : Int)) _ S (j + 1) q hG37 hR2 hV2 (by rw [p1s]; exact h6) (by rw [p1s]; omega) (by rw [p1s, hc2]; omega) (by rw [hc2]; omega) (by rw [p1s]; exact hI.2.2.2.k (by rw [uI_off _ _ _ (by decide), uI_off _ _ _ (by decide)]) (by rw [uI_off _ _ _ (by decide), uI_off _ _ _ (by decide)])); exact z) rfl (by omega) (by decide) tw_m0 (Nat.le_of_ble_eq_true rfl) (fun r42 h42 p42 => ?_)
        obtain ⟨rfl, I42, S42, rfl, hq42, hG42, hc42, hJ42⟩ := p42
        have hS := hG42.1
        refine ar_aloadn (k := 43) rfl rfl ?_
        refine br_getR (k := 44) rfl (hS.k (by decide)) flP_12_6 (by decide) rfl (hS.r rfl) ?_
        refine ar_iloadn (k := 45) rfl rfl ?_
        refine ar_callV (k := 46) (as := [_]) rfl lvP_214 (hS.k (by decide)) rfl (c_W_part27 hS hG42.2.1 (by rw [p1s]; omega) (by rw [p1s]; omega) (by rw [p1s]; have := hR2.2.2.2.2.2.2.2.2.2.1 (rFst s) (by omega) (by rw [p1s]; omega); rw [p1s] at this; omega)) rfl (by omega) (by decide) tw_m0 (Nat.le_of_ble_eq_true rfl) (fun r46 h46 p46 => ?_)
        obtain ⟨rfl, I46, rfl, hN46, f46⟩ := p46
        refine ar_iinc (k := 47) (l2 := [(3, _), (0, _), (1, _), (2, _)]) rfl (by decide) rfl rfl ?_
        refine ar_goto (k := 48) rfl ?_
        refine ar_sub (l2 := [(3, vi ((b + 1 : Nat) : Int)), (0, vr (some 40)), (1, vi (j : Int)), (2, vi (rFst s))]) (tw_s (tw_e 0 rfl (by omega)) (tw_s (tw_g 1 rfl) (tw_s (tw_g 2 rfl) (tw_s (tw_g 3 rfl) tw_s0)))) ?_
        have hG46 : GU K I46 S42 n s := hG42.fw (a := 35) (by decide) f46 (by rw [← hpp]; exact hN46) (fun j hj => by unfold rPair; rw [up_ne _ _ (by omega), up_ne _ _ (by omega)]) (fun j hj => by unfold rPair; rw [up_ne _ _ (by omega), up_ne _ _ (by omega)]) (by rw [show rPair s (rFst s) (b : Int) 0 = s 0 by unfold rPair; rw [up_ne _ _ (by omega), up_ne _ _ (by omega)]]; exact h0.2)
        have hJ46 : JR I46 (s 1) (rJ e (rPair s (rFst s) (b : Int)) q) := by rw [← p1s]; exact hJ42.k (by rw [f46 40 (by decide)]) (f46 60 (by decide))
        refine tw_pst ?_ (ih (b + 1) (rJ e (rPair s (rFst s) (b : Int)) q) I46 S42 (by omega) (by omega) ⟨hG46, hI.2.1.t hq42, (((hI.2.2.1.fw (a := 35) (by decide) (fun x hx => by rw [uI_off _ _ _ hx, uI_off _ _ _ hx])).trans hc42).fw (by decide) f46), hJ46⟩)
        intro r h' z
        rw [rJb, if_pos hbs]
        exact z
theorem c_P_joinRest : ∀ e : Nat, JT l G K n e
  | 0, s, I, R, j, q, hG, hR, hV, h6, hfu, hcs, hev, hJ => by have := (rFst_le (s := s) hR.2.1.1).2.1; omega
  | e + 1, s, I, R, j, q, hG, hR, hV, h6, hfu, hcs, hev, hJ => by
    obtain ⟨h0, h1, h2, h3, h4, h5, h6x, hp, hrw, ht, hr, hb, htp, hv⟩ := id hR
    obtain ⟨f1, f2, f3, f4⟩ := rFst_le (s := s) h1.1
    have hS := hG.1
    have hbd := rBestDay_bd hR hV
    have hb0 := rBestDay_0 hR
    refine tw_intro okP_joinRest (Nat.le_of_ble_eq_true rfl) ?_
    refine ar_aloadn (k := 0) rfl rfl ?_
    refine br_getR (k := 1) rfl (hS.k (by decide)) flP_12_6 (by decide) rfl (hS.r rfl) ?_
    refine ar_callV (k := 2) (as := []) rfl lvP_205 (hS.k (by decide)) rfl (c_W_leastSingle hS hG.2.1 hR) rfl (by omega) (by decide) tw_m0 (Nat.le_of_ble_eq_true rfl) (fun r2 h2 p2 => ?_)
    obtain ⟨rfl, rfl⟩ := p2
    by_cases g : rFst s = s 1
    · skip
      refine ar_istoren (k := 3) (l2 := [(2, _), (0, _), (1, _)]) rfl (by decide) rfl ?_
      have hfb : (if rFst s = s 1 then (-5 : Int) else rFst s) = -5 ∨ 0 ≤ (if rFst s = s 1 then (-5 : Int) else rFst s) := by split <;> omega
      have hfb2 : (if rFst s = s 1 then (-5 : Int) else rFst s) ≤ 10 := by split <;> omega
      have hcs2 : rFst s < s 1 → 2 ≤ cS s := fun z => by
        have q0 : cS s ≠ 0 := fun y => by
          have e9 := cS_one (x := 0) h1.1 ⟨f1, z⟩ (f3 z) (by decide)
          have e8 : 0 ≤ cS (up s (94 + rFst s) 0) := cS_nn _
          omega
        have := cS_nn s
        omega
      refine ar_skip ?_
      refine ar_iloadn (k := 4) rfl rfl ?_
      refine ar_if_lt (k := 5) rfl (by omega) (fun c5 => ?_) (fun c5 => ?_)
      · refine ar_aloadn (k := 9) rfl rfl ?_
        refine ar_aloadn (k := 10) rfl rfl ?_
        refine br_getR (k := 11) rfl (hS.k (by decide)) flP_12_6 (by decide) rfl (hS.r rfl) ?_
        refine ar_callV (k := 12) (as := [_]) rfl lvP_182 (hS.k (by decide)) rfl (c_P_look27 hG.1 hG.2.1 hG.2.2.1 hG.2.2.2.1 hR hV hG.2.2.2.2.1) rfl (by omega) (by decide) tw_m0 (Nat.le_of_ble_eq_true rfl) (fun r12 h12 p12 => ?_)
        obtain ⟨rfl, I12, rfl, hk12, hB12, hT12⟩ := p12
        have hG12 := (hG.q (some 27)).k hk12
        have hS := hG12.1
        refine ar_aloadn (k := 13) rfl rfl ?_
        refine ar_aloadn (k := 14) rfl rfl ?_
        refine ar_callV (k := 15) (as := []) rfl lvP_186 (hS.k (by decide)) rfl (c_P_bestDay hS hR hV hT12 hB12.2.2.2.2.2 hG12.2.2.2.2.2) rfl (by omega) (by decide) tw_m0 (Nat.le_of_ble_eq_true rfl) (fun r15 h15 p15 => ?_)
        obtain ⟨rfl, I15, rfl, hb15⟩ := p15
        have hG15 := hG12.k hb15.q
        have hJ15 : JR I15 (s 1) q := hJ.k (by rw [hb15.1 40 (by decide), hk12.2.2.2.1 19 (by decide)]) (by rw [hb15.1 60 (by decide), hk12.2.2.2.2])
        refine ar_callV (k := 16) (as := [_]) rfl lvP_208 (hS.k (by decide)) rfl (c_P_keepJoin hS hG15.2.1 hR hJ15 rfl (by omega) h6 (fun t t1 t2 => by have z := f4 t.toNat (by omega); rwa [show ((t.toNat : Nat) : Int) = t by omega] at z)) rfl (by omega) (by decide) tw_m0 (Nat.le_of_ble_eq_true rfl) (fun r16 h16 p16 => ?_)
        obtain ⟨rfl, I16, rfl, e16, g16, hJ16⟩ := p16
        refine ar_ret (k := 17) rfl rfl rfl (Nat.le_refl _) ?_
        refine ⟨rfl, I16, _, rfl, Or.inr rfl, ?_, ?_, ?_⟩
        · obtain ⟨a1, a2, a3, a4, a5, a6⟩ := hG15
          refine ⟨a1, a2.fm (fun b b1 b2 => e16 b (by omega) (by omega)), fun p p1 p2 => ?_, fun y y1 y2 => ?_, by rw [e16 _ (by decide) (by decide)]; exact a5, by rw [e16 _ (by decide) (by decide)]; exact a6⟩
          · obtain ⟨c, b1, b2⟩ := a3 p p1 p2
            refine ⟨c, b1, b2.1, b2.2.1, b2.2.2.1, ?_⟩
            rw [e16 _ (by have := b2.1; omega) (by have := b2.1; omega)]; exact b2.2.2.2
          · obtain ⟨v, C, b1, b2, b3, b4, b5⟩ := a4 y y1 y2
            have hv9 := b2.1
            exact ⟨v, C, b1, b2, by rw [e16 _ (by omega) (by omega)]; exact b3, b4.g ⟨e16 _ (by omega) (by omega), e16 _ (by omega) (by omega), e16 _ (by omega) (by omega), e16 _ (by omega) (by omega)⟩, b5⟩
        · exact (hk12.g.trans hb15.q.g).trans ⟨fun b b1 _ _ => e16 b (by omega) (by omega), by rw [e16 _ (by decide) (by decide)], by rw [e16 _ (by decide) (by decide)]⟩
        · rw [rJ, if_pos g]; exact hJ16
      · exfalso; rw [if_pos g] at c5; omega
    · skip
      refine ar_istoren (k := 3) (l2 := [(2, _), (0, _), (1, _)]) rfl (by decide) rfl ?_
      have hfb : (if rFst s = s 1 then (-5 : Int) else rFst s) = -5 ∨ 0 ≤ (if rFst s = s 1 then (-5 : Int) else rFst s) := by split <;> omega
      have hfb2 : (if rFst s = s 1 then (-5 : Int) else rFst s) ≤ 10 := by split <;> omega
      have hcs2 : rFst s < s 1 → 2 ≤ cS s := fun z => by
        have q0 : cS s ≠ 0 := fun y => by
          have e9 := cS_one (x := 0) h1.1 ⟨f1, z⟩ (f3 z) (by decide)
          have e8 : 0 ≤ cS (up s (94 + rFst s) 0) := cS_nn _
          omega
        have := cS_nn s
        omega
      refine ar_skip ?_
      refine ar_iloadn (k := 4) rfl rfl ?_
      refine ar_if_lt (k := 5) rfl (by omega) (fun c5 => ?_) (fun c5 => ?_)
      · exfalso; first | (rw [if_neg g] at c5; omega) | (have := hcs2 (by omega); omega)
      · refine ar_iloadn (k := 6) rfl rfl ?_
        refine ar_iconst (k := 7) rfl ?_
        refine ar_icmp_lt (k := 8) rfl (by omega) (by omega) (fun c8 => ?_) (fun c8 => ?_)
        · refine ar_iloadn (k := 18) rfl rfl ?_
          refine ar_iconst (k := 19) rfl ?_
          refine ar_iadd (k := 20) rfl ?_
          refine ar_istoren (k := 21) (l2 := [(3, _), (2, _), (0, _), (1, _)]) rfl (by decide) rfl ?_
          refine ar_sub (l2 := [(3, vi (((rFst s).toNat + 1 : Nat) : Int)), (0, vr (some 40)), (1, vi (j : Int)), (2, vi (rFst s))]) (tw_s (tw_e 0 rfl (by rw [if_neg g]; omega)) (tw_s (tw_g 2 rfl) (tw_s (tw_g 3 rfl) (tw_s (tw_e 1 rfl (by rw [if_neg g])) tw_s0)))) ?_
          have fs := f3 (by omega)
          have hl := l_P_joinRest (l := l) (G := G) (K := K) (I := I) (R := R) (n := n) (e := e) (j := j) (c_P_joinRest e) hR hV h6 hfu hcs hev (by omega) ((s 1).toNat - ((rFst s).toNat + 1)) ((rFst s).toNat + 1) q I R (by omega) (by omega) ⟨hG, q27.rf, cg.rf, hJ⟩
          refine tw_pst ?_ (by rw [show 6 + (e + 1) = 7 + e by omega]; exact hl)
          intro r h' z
          rw [rJ, if_neg g]
          exact z
        · exfalso; first | (rw [if_neg g] at c5; omega) | (have := hcs2 (by omega); omega)
end CJ4
