section CI2
variable {K : Nat → Nat × Nat} {I J L : Nat → Int → Int} {Q Q2 : Nat → Int → Option Nat} {n : Nat} {s : Int → Int}
theorem GU.f40 (h : GU K I Q n s) (e : ∀ x, x ≠ 40 → J x = I x) : GU K J Q n s := by
  obtain ⟨a1, a2, a3, a4, a5, a6⟩ := h
  refine ⟨a1, a2.fm (fun b b1 b2 => e b (by omega)), fun p p1 p2 => ?_, fun y y1 y2 => ?_, by rw [e _ (by decide)]; exact a5, by rw [e _ (by decide)]; exact a6⟩
  · obtain ⟨c, b1, b2⟩ := a3 p p1 p2
    refine ⟨c, b1, b2.1, b2.2.1, b2.2.2.1, ?_⟩
    rw [e _ (by have := b2.1; omega)]; exact b2.2.2.2
  · obtain ⟨v, C, b1, b2, b3, b4, b5⟩ := a4 y y1 y2
    have hv := b2.1
    exact ⟨v, C, b1, b2, by rw [e _ (by omega)]; exact b3, b4.g ⟨e _ (by omega), e _ (by omega), e _ (by omega), e _ (by omega)⟩, b5⟩
theorem cg.sw {a b x y : Int} (h : cg K I J) : cg K I (uI (uI J 34 a x) 34 b y) := (h.w (by decide)).w (by decide)
def SX (K : Nat → Nat × Nat) (I J : Nat → Int → Int) (Q : Nat → Int → Option Nat) (n : Nat) (s : Int → Int) (B : Int) (q : Int × Int × Int) : Prop := GU K J Q n s ∧ cg K I J ∧ J 40 15 = q.2.1 ∧ J 40 16 = q.2.2 ∧ J 40 17 = q.1 - B ∧ (-12000000 ≤ q.1 ∧ q.1 ≤ 12000000)
end CI2
section CJ2
variable {l : Launch} {G : tG} {K : Nat → Nat × Nat} {I : Nat → Int → Int} {Q : Nat → Int → Option Nat} {n : Nat} {s : Int → Int}
theorem li_P_seekChange {a : Nat} {B : Int} {F : Int × Int × Int} {P : Option tV → tH → Prop} (hR : RInv s) (hV : RVal s) (hB : B = rBestDay s) (a1 : (a : Int) < s 1) (cont : ∀ (x : Int) (J : Nat → Int → Int) (S : Nat → Int → Option Nat), SX K I J S n s B F → q27 Q S → tw_AW l G mP_seekChange 6 0 0 n 0 P 134 [(4, vi x), (0, vr (some 40)), (1, vr (some 1)), (2, vi B), (3, vi (a : Int))] [] (K, J, S, n)) : ∀ (k : Nat) (b : Nat) (q : Int × Int × Int) (J : Nat → Int → Int) (S : Nat → Int → Option Nat), b + k = (s 1).toNat → a < b → rChB s a k b q = F → SX K I J S n s B q → q27 Q S → tw_AW l G mP_seekChange 6 0 0 n 0 (P) 53 [(4, vi (b : Int)), (0, vr (some 40)), (1, vr (some 1)), (2, vi B), (3, vi (a : Int))] [] (K, J, S, n) := by
  obtain ⟨h0, h1, h2, h3, h4, h5, h6, hp, hrw, ht, hr, hb, htp, hv⟩ := id hR
  intro k
  induction k with
  | zero =>
    intro b q J S hb2 hab hF hI hq9
    have hS := hI.1.1
    refine ar_iload (k := 30) rfl rfl ?_
    refine ar_aloadn (k := 31) rfl rfl ?_
    refine br_getR (k := 32) rfl (hS.k (by decide)) flP_12_6 (by decide) rfl (hS.r rfl) ?_
    refine br_getIz (k := 33) (z := 12) rfl (hS.k (by decide)) flP_92_10 (by decide) rfl rfl ?_
    refine tw_top (WN.tc hI.1.2.1) ?_
    refine ar_icmp_ge (k := 34) rfl (by omega) (by omega) (fun c34 => ?_) (fun c34 => ?_)
    · rw [rChB] at hF
      subst hF
      exact cont _ J S hI hq9
    · exfalso; omega
  | succ k ih =>
    intro b q J S hb2 hab hF hI hq9
    have hS := hI.1.1
    refine ar_iload (k := 30) rfl rfl ?_
    refine ar_aloadn (k := 31) rfl rfl ?_
    refine br_getR (k := 32) rfl (hS.k (by decide)) flP_12_6 (by decide) rfl (hS.r rfl) ?_
    refine br_getIz (k := 33) (z := 12) rfl (hS.k (by decide)) flP_92_10 (by decide) rfl rfl ?_
    refine tw_top (WN.tc hI.1.2.1) ?_
    refine ar_icmp_ge (k := 34) rfl (by omega) (by omega) (fun c34 => ?_) (fun c34 => ?_)
    · exfalso; omega
    · have wa := ht (a : Int) (by omega) (by omega)
      have wb := ht (b : Int) (by omega) (by omega)
      have hbd := rBestDay_bd hR hV
      have hqb := hI.2.2.2.2.2
      refine ar_aloadn (k := 35) rfl rfl ?_
      refine br_getR (k := 36) rfl (hS.k (by decide)) flP_12_6 (by decide) rfl (hS.r rfl) ?_
      refine br_getR (k := 37) rfl (hS.k (by decide)) flP_95_10 (by decide) rfl (hS.r rfl) ?_
      refine ar_iloadn (k := 38) rfl rfl ?_
      refine br_iald (k := 39) rfl (hS.k (by decide)) (by omega) (by omega) (by decide) ?_
      refine tw_top (WN.ho hI.1.2.1 (by omega) (by omega)) ?_
      refine ar_aloadn (k := 40) rfl rfl ?_
      refine br_getR (k := 41) rfl (hS.k (by decide)) flP_12_6 (by decide) rfl (hS.r rfl) ?_
      refine br_getR (k := 42) rfl (hS.k (by decide)) flP_95_10 (by decide) rfl (hS.r rfl) ?_
      refine ar_iload (k := 43) rfl rfl ?_
      refine br_iald (k := 44) rfl (hS.k (by decide)) (by omega) (by omega) (by decide) ?_
      refine tw_top (WN.ho hI.1.2.1 (by omega) (by omega)) ?_
      refine ar_icmp_eq (k := 45) rfl (by omega) (by omega) (fun c45 => ?_) (fun c45 => ?_)
      · refine ar_iinc (k := 68) (l2 := [(4, _), (0, _), (1, _), (2, _), (3, _)]) rfl (by decide) rfl rfl ?_
        refine ar_goto (k := 69) rfl ?_
        refine ar_sub (l2 := [(4, vi ((b + 1 : Nat) : Int)), (0, vr (some 40)), (1, vr (some 1)), (2, vi B), (3, vi (a : Int))]) (tw_s (tw_e 0 rfl (by omega)) (tw_s (tw_g 1 rfl) (tw_s (tw_g 2 rfl) (tw_s (tw_g 3 rfl) (tw_s (tw_g 4 rfl) tw_s0))))) ?_
        rw [rChB, if_neg (fun z => z.1 (by omega))] at hF
        exact ih (b + 1) q J S (by omega) (by omega) hF hI hq9
      · skip
        refine ar_aloadn (k := 46) rfl rfl ?_
        refine br_getR (k := 47) rfl (hS.k (by decide)) flP_12_6 (by decide) rfl (hS.r rfl) ?_
        refine ar_iloadn (k := 48) rfl rfl ?_
        refine ar_iload (k := 49) rfl rfl ?_
        refine ar_callV (k := 50) (as := [_, _]) rfl lvP_193 (hS.k (by decide)) rfl (c_W_changeH hS (by omega) (by omega) (by omega)) rfl (by decide) (by decide) tw_m0 (Nat.le_of_ble_eq_true rfl) (fun r50 h50 p50 => ?_)
        obtain ⟨rfl, rfl⟩ := p50
        have hG50 := hI.1.sw (a := (a : Int)) (b := (b : Int)) (by omega) (by omega) (by omega)
        have hR2 := RInv_swap (a := (a : Int)) (b := (b : Int)) (by omega) (by omega) hR
        have hV2 := RVal_swap (a := (a : Int)) (b := (b : Int)) (by omega) (by omega) hV
        have hbd2 := rBestDay_bd hR2 hV2
        have h1s : (rSwap s (a : Int) (b : Int)) 1 ≤ 10 := hR2.2.1.2
        refine ar_aloadn (k := 51) rfl rfl ?_
        refine ar_aloadn (k := 52) rfl rfl ?_
        refine br_getR (k := 53) rfl (hS.k (by decide)) flP_12_6 (by decide) rfl (hS.r rfl) ?_
        refine ar_callV (k := 54) (as := [_]) rfl lvP_182 (hS.k (by decide)) rfl (c_P_look27 hG50.1 hG50.2.1 hG50.2.2.1 hG50.2.2.2.1 hR2 hV2 hG50.2.2.2.2.1) rfl (by decide) (by decide) tw_m0 (Nat.le_of_ble_eq_true rfl) (fun r54 h54 p54 => ?_)
        obtain ⟨rfl, I54, rfl, hk54, hB54, hT54⟩ := p54
        have hG54 := (hG50.q (some 27)).k hk54
        have hS := hG54.1
        refine ar_aloadn (k := 55) rfl rfl ?_
        refine br_getR (k := 56) rfl (hS.k (by decide)) flP_12_6 (by decide) rfl (hS.r rfl) ?_
        refine ar_iloadn (k := 57) rfl rfl ?_
        refine ar_iload (k := 58) rfl rfl ?_
        refine ar_callV (k := 59) (as := [_, _]) rfl lvP_193 (hS.k (by decide)) rfl (c_W_changeH hS (by omega) (by omega) (by omega)) rfl (by decide) (by decide) tw_m0 (Nat.le_of_ble_eq_true rfl) (fun r59 h59 p59 => ?_)
        obtain ⟨rfl, rfl⟩ := p59
        have e1s : (rSwap s (a : Int) (b : Int)) 1 = s 1 := by unfold rSwap; rw [up_ne _ _ (by omega), up_ne _ _ (by omega)]
        have hG59 := hG54.sw (a := (a : Int)) (b := (b : Int)) (by rw [e1s]; omega) (by rw [e1s]; omega) (by omega)
        rw [rSwap_swap (by omega)] at hG59
        refine ar_aloadn (k := 60) rfl rfl ?_
        refine ar_iloadn (k := 61) rfl rfl ?_
        refine ar_iload (k := 62) rfl rfl ?_
        refine ar_aloadn (k := 63) rfl rfl ?_
        refine ar_callV (k := 64) (as := []) rfl lvP_186 (hS.k (by decide)) rfl (c_P_bestDay hS hR2 hV2 (hT54.fm (fun x hx => by rw [uI_off _ _ _ (by omega), uI_off _ _ _ (by omega)])) (PW.fm hB54.2.2.2.2.2 h1s (fun x x1 x2 => by rw [uI_off _ _ _ (by omega), uI_off _ _ _ (by omega)])) hG59.2.2.2.2.2) rfl (by decide) (by decide) tw_m0 (Nat.le_of_ble_eq_true rfl) (fun r64 h64 p64 => ?_)
        obtain ⟨rfl, I64, rfl, hb64⟩ := p64
        have hG64 := hG59.k hb64.q
        have e40 : ∀ k : Int, 15 ≤ k → I64 40 k = J 40 k := fun k hk => by rw [hb64.1 40 (by decide), uI_off _ _ _ (by decide), uI_off _ _ _ (by decide), hk54.2.2.2.1 k hk, uI_off _ _ _ (by decide), uI_off _ _ _ (by decide)]
        refine ar_iloadn (k := 65) rfl rfl ?_
        refine ar_isub (k := 66) rfl ?_
        refine ar_callV (k := 67) (as := [_, _, _]) rfl lvP_197 (hS.k (by decide)) rfl (c_P_keepChange (c := q.1 - B) hS ((e40 17 (by decide)).trans hI.2.2.2.2.1) (by omega) (by omega)) rfl (by decide) (by decide) tw_m0 (Nat.le_of_ble_eq_true rfl) (fun r67 h67 p67 => ?_)
        obtain ⟨rfl, I67, rfl, f67⟩ := p67
        refine ar_iinc (k := 68) (l2 := [(4, _), (0, _), (1, _), (2, _), (3, _)]) rfl (by decide) rfl rfl ?_
        refine ar_goto (k := 69) rfl ?_
        refine ar_sub (l2 := [(4, vi ((b + 1 : Nat) : Int)), (0, vr (some 40)), (1, vr (some 1)), (2, vi B), (3, vi (a : Int))]) (tw_s (tw_e 0 rfl (by omega)) (tw_s (tw_g 1 rfl) (tw_s (tw_g 2 rfl) (tw_s (tw_g 3 rfl) (tw_s (tw_g 4 rfl) tw_s0))))) ?_
        have hq2 : SX K I I67 (uQ S 40 1 (some 27)) n s B (if s (84 + (a : Int)) ≠ s (84 + (b : Int)) ∧ q.1 < rBestDay (rSwap s (a : Int) (b : Int)) then (rBestDay (rSwap s (a : Int) (b : Int)), (a : Int), (b : Int)) else q) := by
          refine ⟨hG64.f40 f67.1, cg.f40 (((hI.2.1.sw.trans hk54.g).sw).trans hb64.q.g) f67.1, ?_, ?_, ?_, ?_⟩
          · rw [f67.2.2.1, e40 15 (by decide), hI.2.2.1]
            by_cases g : q.1 < rBestDay (rSwap s (a : Int) (b : Int))
            · rw [if_pos (by omega), if_pos ⟨by omega, g⟩]
            · rw [if_neg (by omega), if_neg (fun z => g z.2)]
          · rw [f67.2.2.2.1, e40 16 (by decide), hI.2.2.2.1]
            by_cases g : q.1 < rBestDay (rSwap s (a : Int) (b : Int))
            · rw [if_pos (by omega), if_pos ⟨by omega, g⟩]
            · rw [if_neg (by omega), if_neg (fun z => g z.2)]
          · rw [f67.2.2.2.2]
            by_cases g : q.1 < rBestDay (rSwap s (a : Int) (b : Int))
            · rw [if_pos (by omega), if_pos ⟨by omega, g⟩]
            · rw [if_neg (by omega), if_neg (fun z => g z.2)]
          · split
            · exact hbd2
            · exact hI.2.2.2.2.2
        rw [rChB] at hF
        exact ih (b + 1) _ I67 _ (by omega) (by omega) hF hq2 (hq9.t (Or.inr rfl))
theorem l_P_seekChange {B : Int} (hR : RInv s) (hV : RVal s) (hB : B = rBestDay s) : ∀ (k : Nat) (a : Nat) (q : Int × Int × Int) (J : Nat → Int → Int) (S : Nat → Int → Option Nat), a + k = (s 1).toNat → SX K I J S n s B q → q27 Q S → tw_AW l G mP_seekChange 6 0 0 n 0 ((fun r h' => r = none ∧ ∃ L S', h' = (K, L, S', n) ∧ q27 Q S' ∧ SX K I L S' n s B (rChA s k a q))) 37 [(3, vi (a : Int)), (0, vr (some 40)), (1, vr (some 1)), (2, vi B)] [] (K, J, S, n) := by
  obtain ⟨h0, h1, h2, h3, h4, h5, h6, hp, hrw, ht, hr, hb, htp, hv⟩ := id hR
  intro k
  induction k with
  | zero =>
    intro a q J S ha hI hq9
    have hS := hI.1.1
    refine ar_iloadn (k := 21) rfl rfl ?_
    refine ar_aloadn (k := 22) rfl rfl ?_
    refine br_getR (k := 23) rfl (hS.k (by decide)) flP_12_6 (by decide) rfl (hS.r rfl) ?_
    refine br_getIz (k := 24) (z := 12) rfl (hS.k (by decide)) flP_92_10 (by decide) rfl rfl ?_
    refine tw_top (WN.tc hI.1.2.1) ?_
    refine ar_icmp_ge (k := 25) rfl (by omega) (by omega) (fun c25 => ?_) (fun c25 => ?_)
    · refine ar_ret (k := 72) rfl rfl rfl (Nat.le_refl _) ?_
      exact ⟨rfl, J, S, rfl, hq9, hI⟩
    · exfalso; omega
  | succ k ih =>
    intro a q J S ha hI hq9
    have hS := hI.1.1
    refine ar_iloadn (k := 21) rfl rfl ?_
    refine ar_aloadn (k := 22) rfl rfl ?_
    refine br_getR (k := 23) rfl (hS.k (by decide)) flP_12_6 (by decide) rfl (hS.r rfl) ?_
    refine br_getIz (k := 24) (z := 12) rfl (hS.k (by decide)) flP_92_10 (by decide) rfl rfl ?_
    refine tw_top (WN.tc hI.1.2.1) ?_
    refine ar_icmp_ge (k := 25) rfl (by omega) (by omega) (fun c25 => ?_) (fun c25 => ?_)
    · exfalso; omega
    · refine ar_iloadn (k := 26) rfl rfl ?_
      refine ar_iconst (k := 27) rfl ?_
      refine ar_iadd (k := 28) rfl ?_
      refine ar_istore (k := 29) (l2 := [(4, _), (3, _), (0, _), (1, _), (2, _)]) rfl (by decide) rfl ?_
      refine ar_sub (l2 := [(4, vi ((a + 1 : Nat) : Int)), (0, vr (some 40)), (1, vr (some 1)), (2, vi B), (3, vi (a : Int))]) (tw_s (tw_e 0 rfl (by omega)) (tw_s (tw_g 2 rfl) (tw_s (tw_g 3 rfl) (tw_s (tw_g 4 rfl) (tw_s (tw_g 1 rfl) tw_s0))))) ?_
      refine li_P_seekChange (a := a) hR hV hB (by omega) (fun x N S9 hN hqN => ?_) k (a + 1) q J S (by omega) (by omega) rfl hI hq9
      refine ar_iinc (k := 70) (l2 := [(3, _), (4, _), (0, _), (1, _), (2, _)]) rfl (by decide) rfl rfl ?_
      refine ar_goto (k := 71) rfl ?_
      refine ar_sub (l2 := [(3, vi ((a + 1 : Nat) : Int)), (0, vr (some 40)), (1, vr (some 1)), (2, vi B)]) (tw_s (tw_e 0 rfl (by omega)) (tw_s (tw_g 2 rfl) (tw_s (tw_g 3 rfl) (tw_s (tw_g 4 rfl) tw_s0)))) ?_
      rw [rChA]
      exact ih (a + 1) _ N S9 (by omega) hN hqN
theorem c_P_seekChange (hU : NU K I Q n s) (hR : RInv s) (hV : RVal s) : tw_M l G 6 0 0 mP_seekChange [vr (some 40), vr (some 1)] (K, I, Q, n) (fun r h' => r = none ∧ ∃ L S, h' = (K, L, S, n) ∧ qg Q S ∧ SX K I L S n s (rBestDay s) (rChange s)) := by
  obtain ⟨h0, h1, h2, h3, h4, h5, h6, hp, hrw, ht, hr, hb, htp, hv⟩ := id hR
  have hS := hU.1
  have hbd := rBestDay_bd hR hV
  refine tw_intro okP_seekChange (Nat.le_of_ble_eq_true rfl) ?_
  refine ar_aloadn (k := 0) rfl rfl ?_
  refine ar_aloadn (k := 1) rfl rfl ?_
  refine ar_callV (k := 2) (as := [_]) rfl lvP_182 (hS.k (by decide)) rfl (c_P_look1 hU.1 hU.2.1 hU.2.2.1 hU.2.2.2.1 hR hV hU.2.2.2.2.2.1) rfl (by decide) (by decide) tw_m0 (Nat.le_of_ble_eq_true rfl) (fun r2 h2 p2 => ?_)
  obtain ⟨rfl, I2, rfl, hk2, hB2, hT2⟩ := p2
  have hS := hS.q40 (some 1)
  have hU2 := hU.g hk2.g (qg.q40 (some 1)) hS
  refine ar_aloadn (k := 3) rfl rfl ?_
  refine ar_callV (k := 4) (as := []) rfl lvP_186 (hS.k (by decide)) rfl (c_P_bestDay hS hR hV hT2 hB2.2.2.2.2.2 hU2.2.2.2.2.2.2) rfl (by decide) (by decide) tw_m0 (Nat.le_of_ble_eq_true rfl) (fun r4 h4 p4 => ?_)
  obtain ⟨rfl, I4, rfl, hb4⟩ := p4
  have hU4 := hU2.g hb4.q.g qg.rf hS
  refine ar_istoren (k := 5) (l2 := [(2, _), (0, _), (1, _)]) rfl (by decide) rfl ?_
  refine ar_aloadn (k := 6) rfl rfl ?_
  refine ar_bipush (k := 7) rfl (by decide) ?_
  refine br_putIJ (k := 8) rfl (hS.k (by decide)) flP_66_6 (by decide) rfl (fun _ _ _ q => by cases q; exact ⟨rfl, rfl⟩) (fun I8 e8 => ?_)
  change _ = uI _ 40 15 _ at e8
  skip
  refine ar_aloadn (k := 9) rfl rfl ?_
  refine ar_bipush (k := 10) rfl (by decide) ?_
  refine br_putIJ (k := 11) rfl (hS.k (by decide)) flP_69_6 (by decide) rfl (fun _ _ _ q => by cases q; exact ⟨rfl, rfl⟩) (fun I11 e11 => ?_)
  change _ = uI _ 40 16 _ at e11
  skip
  refine ar_aloadn (k := 12) rfl rfl ?_
  refine ar_iconst (k := 13) rfl ?_
  refine br_putIJ (k := 14) rfl (hS.k (by decide)) flP_72_6 (by decide) rfl (fun _ _ _ q => by cases q; exact ⟨rfl, rfl⟩) (fun I14 e14 => ?_)
  change _ = uI _ 40 17 _ at e14
  skip
  have eo : ∀ x, x ≠ 40 → I14 x = I4 x := fun x hx => by rw [e14, uI_off _ _ _ hx, e11, uI_off _ _ _ hx, e8, uI_off _ _ _ hx]
  have hU14 := hU4.g (cg.rf.f40 eo) qg.rf hS
  refine ar_aloadn (k := 15) rfl rfl ?_
  refine br_getR (k := 16) rfl (hS.k (by decide)) flP_12_6 (by decide) rfl (hS.r rfl) ?_
  refine ar_aloadn (k := 17) rfl rfl ?_
  refine ar_callV (k := 18) (as := [_]) rfl lvP_190 (hS.k (by decide)) rfl (c_W_guess hU14 hR) rfl (by decide) (by decide) tw_m0 (Nat.le_of_ble_eq_true rfl) (fun r18 h18 p18 => ?_)
  obtain ⟨rfl, J18, R18, rfl, hG18, hc18, hg18, f18⟩ := p18
  have hS := hG18.1
  refine ar_iconst (k := 19) rfl ?_
  refine ar_istoren (k := 20) (l2 := [(3, _), (2, _), (0, _), (1, _)]) rfl (by decide) rfl ?_
  refine ar_sub (l2 := [(3, vi ((0 : Nat) : Int)), (0, vr (some 40)), (1, vr (some 1)), (2, vi (rBestDay s))]) (tw_s (tw_e 0 rfl (by rfl)) (tw_s (tw_g 2 rfl) (tw_s (tw_g 3 rfl) (tw_s (tw_g 1 rfl) tw_s0)))) ?_
  have hs9 : SX K I J18 R18 n s (rBestDay s) (rBestDay s, -5, -5) := ⟨hG18, ((hk2.g.trans hb4.q.g).f40 eo).trans hc18, by rw [f18, e14, uI_at, if_neg (by decide), e11, uI_at, if_neg (by decide), e8, uI_at, if_pos rfl], by rw [f18, e14, uI_at, if_neg (by decide), e11, uI_at, if_pos rfl], by rw [f18, e14, uI_at, if_pos rfl]; omega, hbd⟩
  refine tw_pst ?_ (l_P_seekChange (I := I) (Q := R18) hR hV rfl (s 1).toNat 0 _ J18 R18 (by omega) hs9 q27.rf)
  intro r h' ⟨z1, L, S, z2, z3, z4⟩
  exact ⟨z1, L, S, z2, ((qg.q40 (some 1)).t hg18).t z3.g, z4⟩
theorem c_T_change {w : Int} (hS : tSt (K, I, Q, n)) (hN : WN 1 I s) (hP : WP 1 K I Q n s) (hW : WV 1 K I Q n s) (hH : QH K Q n 1) (hR : RInv s) (hV : RVal s) (h57 : I 57 0 = 0) (h59 : I 59 0 = 0) (tw : tr w) : tw_M l G 7 0 0 mT_change [vr (some 0), vi w] (K, I, Q, n) (fun r h' => r = some (vi (if ¬ (0 ≤ w ∧ w ≤ 2) then -1 else if w = 0 then (rChange s).2.1 else if w = 1 then (rChange s).2.2 else (rChange s).1 - rBestDay s)) ∧ ∃ J Q', h' = (K, J, Q', n) ∧ cg K I J ∧ qg Q Q' ∧ tSt (K, J, Q', n)) := by
  obtain ⟨h0, h1, h2, h3, h4, h5, h6, hp, hrw, ht, hr, hb, htp, hv⟩ := id hR
  have hU : NU K I Q n s := ⟨hS, hN, hP, hW, hH, h57, h59⟩
  refine tw_intro okT_change (Nat.le_of_ble_eq_true rfl) ?_
  refine ar_iloadn (k := 0) rfl rfl ?_
  refine ar_if_lt (k := 1) rfl (by omega) (fun c1 => ?_) (fun c1 => ?_)
  · refine ar_iconst (k := 5) rfl ?_
    refine ar_iret (k := 6) rfl rfl rfl (Nat.le_refl _) ?_
    first
      | (exfalso; omega)
      | exact ⟨congrArg (fun z => some (vi z)) (by rw [if_pos (by omega)]), I, Q, rfl, cg.rf, qg.rf, hS⟩
  · refine ar_iloadn (k := 2) rfl rfl ?_
    refine ar_iconst (k := 3) rfl ?_
    refine ar_icmp_le (k := 4) rfl (by omega) (by omega) (fun c4 => ?_) (fun c4 => ?_)
    · refine ar_aloadn (k := 7) rfl rfl ?_
      refine br_getR (k := 8) rfl (hS.k (by decide)) flT_28_11 (by decide) rfl (hS.r rfl) ?_
      refine ar_aloadn (k := 9) rfl rfl ?_
      refine br_getR (k := 10) rfl (hS.k (by decide)) flT_14_11 (by decide) rfl (hS.r rfl) ?_
      refine ar_callV (k := 11) (as := [_]) rfl lvT_196 (hS.k (by decide)) rfl (c_P_seekChange hU hR hV) rfl (by decide) (by decide) tw_m0 (Nat.le_of_ble_eq_true rfl) (fun r11 h11 p11 => ?_)
      obtain ⟨rfl, I11, S11, rfl, hq11, hX11⟩ := p11
      have hS := hX11.1.1
      refine ar_iloadn (k := 12) rfl rfl ?_
      rcases (show w = 0 ∨ w = 1 ∨ (w ≠ 0 ∧ w ≠ 1) by omega) with q13 | q13 | q13
      · refine ar_lsw (k := 13) (t := 48) (off := 25) rfl (by omega) rfl (by rw [q13]; rfl) (by decide) ?_
        refine ar_aloadn (k := 14) rfl rfl ?_
        refine br_getR (k := 15) rfl (hS.k (by decide)) flT_28_11 (by decide) rfl (hS.r rfl) ?_
        refine br_getIz (k := 16) (z := 15) rfl (hS.k (by decide)) flT_199_6 (by decide) rfl rfl ?_
        refine tw_top hX11.2.2.1 ?_
        refine ar_iret (k := 17) rfl rfl rfl (Nat.le_refl _) ?_
        first
          | (exfalso; omega)
          | exact ⟨congrArg (fun z => some (vi z)) (by rw [if_neg (by omega), if_pos (by omega)]), _, _, rfl, hX11.2.1, hq11, hX11.1.1⟩
      · refine ar_lsw (k := 13) (t := 56) (off := 33) rfl (by omega) rfl (by rw [q13]; rfl) (by decide) ?_
        refine ar_aloadn (k := 18) rfl rfl ?_
        refine br_getR (k := 19) rfl (hS.k (by decide)) flT_28_11 (by decide) rfl (hS.r rfl) ?_
        refine br_getIz (k := 20) (z := 16) rfl (hS.k (by decide)) flT_202_6 (by decide) rfl rfl ?_
        refine tw_top hX11.2.2.2.1 ?_
        refine ar_iret (k := 21) rfl rfl rfl (Nat.le_refl _) ?_
        first
          | (exfalso; omega)
          | exact ⟨congrArg (fun z => some (vi z)) (by rw [if_neg (by omega), if_neg (by omega), if_pos (by omega)]), _, _, rfl, hX11.2.1, hq11, hX11.1.1⟩
      · refine ar_lsw (k := 13) (t := 64) (off := 41) rfl (by omega) rfl (by show Op.lookupswitch.offset [(0, 25), (1, 33)] _ _ = _; rw [Op.lookupswitch.offset_cons, if_neg (by omega), Op.lookupswitch.offset_cons, if_neg (by omega)]; rfl) (by decide) ?_
        refine ar_aloadn (k := 22) rfl rfl ?_
        refine br_getR (k := 23) rfl (hS.k (by decide)) flT_28_11 (by decide) rfl (hS.r rfl) ?_
        refine br_getIz (k := 24) (z := 17) rfl (hS.k (by decide)) flT_205_6 (by decide) rfl rfl ?_
        refine tw_top hX11.2.2.2.2.1 ?_
        refine ar_iret (k := 25) rfl rfl rfl (Nat.le_refl _) ?_
        first
          | (exfalso; omega)
          | exact ⟨congrArg (fun z => some (vi z)) (by rw [if_neg (by omega), if_neg (by omega), if_neg (by omega)]), _, _, rfl, hX11.2.1, hq11, hX11.1.1⟩
    · refine ar_iconst (k := 5) rfl ?_
      refine ar_iret (k := 6) rfl rfl rfl (Nat.le_refl _) ?_
      first
        | (exfalso; omega)
        | exact ⟨congrArg (fun z => some (vi z)) (by rw [if_pos (by omega)]), I, Q, rfl, cg.rf, qg.rf, hS⟩
theorem c_T_away {p : Int} (hS : tSt (K, I, Q, n)) (hN : WN 1 I s) (hP : WP 1 K I Q n s) (hW : WV 1 K I Q n s) (hH : QH K Q n 1) (hR : RInv s) (hV : RVal s) (h57 : I 57 0 = 0) (h59 : I 59 0 = 0) (tp : tr p) : tw_M l G 7 0 0 mT_away [vr (some 0), vi p] (K, I, Q, n) (fun r h' => r = some (vi (if 0 ≤ p ∧ p ≤ s 0 - 1 then rAway s p else -10001)) ∧ ∃ J Q', h' = (K, J, Q', n) ∧ cg K I J ∧ qg Q Q' ∧ tSt (K, J, Q', n)) := by
  obtain ⟨h0, h1, h2, h3, h4, h5, h6, hp, hrw, ht, hr, hb, htp, hv⟩ := id hR
  have hU : NU K I Q n s := ⟨hS, hN, hP, hW, hH, h57, h59⟩
  refine tw_intro okT_away (Nat.le_of_ble_eq_true rfl) ?_
  refine ar_aloadn (k := 0) rfl rfl ?_
  refine br_getR (k := 1) rfl (hS.k (by decide)) flT_14_11 (by decide) rfl (hS.r rfl) ?_
  refine ar_iloadn (k := 2) rfl rfl ?_
  refine ar_callV (k := 3) (as := [_]) rfl lvT_76 (hS.k (by decide)) rfl (c_W_hasPerson hS hN hR (by omega)) rfl (by decide) (by decide) tw_m0 (Nat.le_of_ble_eq_true rfl) (fun r3 h3 p3 => ?_)
  obtain ⟨rfl, rfl⟩ := p3
  refine ar_if_ne (k := 4) rfl (by omega) (fun c4 => ?_) (fun c4 => ?_)
  · refine ar_aloadn (k := 7) rfl rfl ?_
    refine br_getR (k := 8) rfl (hS.k (by decide)) flT_28_11 (by decide) rfl (hS.r rfl) ?_
    refine ar_aloadn (k := 9) rfl rfl ?_
    refine br_getR (k := 10) rfl (hS.k (by decide)) flT_14_11 (by decide) rfl (hS.r rfl) ?_
    refine ar_iloadn (k := 11) rfl rfl ?_
    refine ar_callV (k := 12) (as := [_, _]) rfl lvT_208 (hS.k (by decide)) rfl (c_P_lost hU hR hV (by omega)) rfl (by decide) (by decide) tw_m0 (Nat.le_of_ble_eq_true rfl) (fun r12 h12 p12 => ?_)
    obtain ⟨rfl, I12, S12, rfl, hL12⟩ := p12
    refine ar_iret (k := 13) rfl rfl rfl (Nat.le_refl _) ?_
    first
      | (exfalso; omega)
      | exact ⟨congrArg (fun z => some (vi z)) (by rw [if_pos (by omega)]), _, _, rfl, hL12⟩
  · refine ar_sipush (k := 5) rfl (by decide) ?_
    refine ar_iret (k := 6) rfl rfl rfl (Nat.le_refl _) ?_
    first
      | (exfalso; omega)
      | exact ⟨congrArg (fun z => some (vi z)) (by rw [if_neg (by omega)]), I, Q, rfl, cg.rf, qg.rf, hS⟩
theorem l_T_worst (hR : RInv s) (hV : RVal s) : ∀ (k : Nat) (j : Nat) (b m : Int) (J : Nat → Int → Int) (R : Nat → Int → Option Nat), j + k = (s 0).toNat → (b = -5 ∨ 0 ≤ b) → (0 ≤ m ∧ m ≤ 24000000) → (NU K J R n s ∧ cg K I J ∧ qg Q R) → tw_AW l G mT_worst 7 0 0 n 0 ((fun r h' => r = some (vi (rWorstN s k j b m)) ∧ ∃ L R2, h' = (K, L, R2, n) ∧ cg K I L ∧ qg Q R2 ∧ tSt (K, L, R2, n))) 7 [(3, vi (j : Int)), (1, vi b), (2, vi (if b = -5 then -1 else m)), (0, vr (some 0))] [] (K, J, R, n) := by
  obtain ⟨h0, h1, h2, h3, h4, h5, h6, hp, hrw, ht, hr, hb, htp, hv⟩ := id hR
  intro k
  induction k with
  | zero =>
    intro j b m J R hj hb9 hm9 hJ
    have hS := hJ.1.1
    refine ar_iloadn (k := 6) rfl rfl ?_
    refine ar_aloadn (k := 7) rfl rfl ?_
    refine br_getR (k := 8) rfl (hS.k (by decide)) flT_14_11 (by decide) rfl (hS.r rfl) ?_
    refine br_getIz (k := 9) (z := 5) rfl (hS.k (by decide)) flT_65_10 (by decide) rfl rfl ?_
    refine tw_top (WN.pc hJ.1.2.1) ?_
    refine ar_icmp_ge (k := 10) rfl (by omega) (by omega) (fun c10 => ?_) (fun c10 => ?_)
    · refine ar_iloadn (k := 27) rfl rfl ?_
      refine ar_iret (k := 28) rfl rfl rfl (Nat.le_refl _) ?_
      exact ⟨rfl, J, R, rfl, hJ.2.1, hJ.2.2, hJ.1.1⟩
    · exfalso; omega
  | succ k ih =>
    intro j b m J R hj hb9 hm9 hJ
    have hS := hJ.1.1
    refine ar_iloadn (k := 6) rfl rfl ?_
    refine ar_aloadn (k := 7) rfl rfl ?_
    refine br_getR (k := 8) rfl (hS.k (by decide)) flT_14_11 (by decide) rfl (hS.r rfl) ?_
    refine br_getIz (k := 9) (z := 5) rfl (hS.k (by decide)) flT_65_10 (by decide) rfl rfl ?_
    refine tw_top (WN.pc hJ.1.2.1) ?_
    refine ar_icmp_ge (k := 10) rfl (by omega) (by omega) (fun c10 => ?_) (fun c10 => ?_)
    · exfalso; omega
    · have hb1 := rBestDay_bd hR hV
      have ha0 := rAway_0 (p := (j : Int)) hR (by omega)
      have hb2 := rBestDay_bd (RInv_free (p := (j : Int)) (x := 0) (by omega) (by omega) hR) (RVal_up (i := 34 + (j : Int)) (x := 0) (by omega) (by omega) hV)
      have ha1 : rAway s (j : Int) ≤ 24000000 := by unfold rAway; omega
      refine ar_aloadn (k := 11) rfl rfl ?_
      refine br_getR (k := 12) rfl (hS.k (by decide)) flT_28_11 (by decide) rfl (hS.r rfl) ?_
      refine ar_aloadn (k := 13) rfl rfl ?_
      refine br_getR (k := 14) rfl (hS.k (by decide)) flT_14_11 (by decide) rfl (hS.r rfl) ?_
      refine ar_iloadn (k := 15) rfl rfl ?_
      refine ar_callV (k := 16) (as := [_, _]) rfl lvT_208 (hS.k (by decide)) rfl (c_P_lost hJ.1 hR hV (by omega)) rfl (by decide) (by decide) tw_m0 (Nat.le_of_ble_eq_true rfl) (fun r16 h16 p16 => ?_)
      obtain ⟨rfl, I16, S16, rfl, hL16⟩ := p16
      have hS := hL16.2.2
      refine ar_istore (k := 17) (l2 := [(4, _), (3, _), (1, _), (2, _), (0, _)]) rfl (by decide) rfl ?_
      refine ar_iload (k := 18) rfl rfl ?_
      refine ar_iloadn (k := 19) rfl rfl ?_
      refine ar_icmp_le (k := 20) rfl (by omega) (by omega) (fun c20 => ?_) (fun c20 => ?_)
      · refine ar_iinc (k := 25) (l2 := [(3, _), (4, _), (1, _), (2, _), (0, _)]) rfl (by decide) rfl rfl ?_
        refine ar_goto (k := 26) rfl ?_
        refine ar_sub (l2 := [(3, vi ((j + 1 : Nat) : Int)), (1, vi b), (2, vi (if b = -5 then -1 else m)), (0, vr (some 0))]) (tw_s (tw_e 0 rfl (by omega)) (tw_s (tw_g 2 rfl) (tw_s (tw_g 3 rfl) (tw_s (tw_g 4 rfl) tw_s0)))) ?_
        rw [rWorstN, if_neg (by omega)]
        exact ih (j + 1) _ _ I16 S16 (by omega) hb9 hm9 ⟨hJ.1.g hL16.1 hL16.2.1 hL16.2.2, hJ.2.1.trans hL16.1, hJ.2.2.t hL16.2.1⟩
      · skip
        refine ar_iload (k := 21) rfl rfl ?_
        refine ar_istoren (k := 22) (l2 := [(2, _), (4, _), (3, _), (1, _), (0, _)]) rfl (by decide) rfl ?_
        refine ar_iloadn (k := 23) rfl rfl ?_
        refine ar_istoren (k := 24) (l2 := [(1, _), (2, _), (4, _), (3, _), (0, _)]) rfl (by decide) rfl ?_
        refine ar_iinc (k := 25) (l2 := [(3, _), (1, _), (2, _), (4, _), (0, _)]) rfl (by decide) rfl rfl ?_
        refine ar_goto (k := 26) rfl ?_
        refine ar_sub (l2 := [(3, vi ((j + 1 : Nat) : Int)), (1, vi (j : Int)), (2, vi (if (j : Int) = -5 then -1 else rAway s (j : Int))), (0, vr (some 0))]) (tw_s (tw_e 0 rfl (by omega)) (tw_s (tw_g 1 rfl) (tw_s (tw_e 2 rfl (by rw [if_neg (by omega)])) (tw_s (tw_g 4 rfl) tw_s0)))) ?_
        rw [rWorstN, if_pos (by omega)]
        exact ih (j + 1) _ _ I16 S16 (by omega) (by omega) (by omega) ⟨hJ.1.g hL16.1 hL16.2.1 hL16.2.2, hJ.2.1.trans hL16.1, hJ.2.2.t hL16.2.1⟩
theorem c_T_worst (hS : tSt (K, I, Q, n)) (hN : WN 1 I s) (hP : WP 1 K I Q n s) (hW : WV 1 K I Q n s) (hH : QH K Q n 1) (hR : RInv s) (hV : RVal s) (h57 : I 57 0 = 0) (h59 : I 59 0 = 0) : tw_M l G 7 0 0 mT_worst [vr (some 0)] (K, I, Q, n) (fun r h' => r = some (vi (rWorstN s (s 0).toNat 0 (-5) 0)) ∧ ∃ J Q', h' = (K, J, Q', n) ∧ cg K I J ∧ qg Q Q' ∧ tSt (K, J, Q', n)) := by
  obtain ⟨h0, h1, h2, h3, h4, h5, h6, hp, hrw, ht, hr, hb, htp, hv⟩ := id hR
  have hU : NU K I Q n s := ⟨hS, hN, hP, hW, hH, h57, h59⟩
  refine tw_intro okT_worst (Nat.le_of_ble_eq_true rfl) ?_
  refine ar_bipush (k := 0) rfl (by decide) ?_
  refine ar_istoren (k := 1) (l2 := [(1, _), (0, _)]) rfl (by decide) rfl ?_
  refine ar_iconst (k := 2) rfl ?_
  refine ar_istoren (k := 3) (l2 := [(2, _), (1, _), (0, _)]) rfl (by decide) rfl ?_
  refine ar_iconst (k := 4) rfl ?_
  refine ar_istoren (k := 5) (l2 := [(3, _), (2, _), (1, _), (0, _)]) rfl (by decide) rfl ?_
  refine ar_sub (l2 := [(3, vi ((0 : Nat) : Int)), (1, vi (-5)), (2, vi (if (-5 : Int) = -5 then -1 else 0)), (0, vr (some 0))]) (tw_s (tw_e 0 rfl (by rfl)) (tw_s (tw_g 2 rfl) (tw_s (tw_e 1 rfl (by rfl)) (tw_s (tw_g 3 rfl) tw_s0)))) ?_
  exact l_T_worst (I := I) (Q := Q) hR hV (s 0).toNat 0 (-5) 0 I Q (by omega) (Or.inl rfl) (by omega) ⟨hU, cg.rf, qg.rf⟩
end CJ2
