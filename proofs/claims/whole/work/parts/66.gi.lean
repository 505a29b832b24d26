section CI2
variable {K : Nat → Nat × Nat} {I J L : Nat → Int → Int} {Q Q2 : Nat → Int → Option Nat} {n : Nat} {s : Int → Int}
theorem GU.f40 (h : GU K I Q n s) (e : ∀ x, x ≠ 40 → J x = I x) : GU K J Q n s := by
  obtain ⟨a1, a2, a3, a4, a5, a6⟩ := h
  refine ⟨a1, a2.fm (fun b b1 b2 => e b (by omega)), fun p p1 p2 => ?_, fun y y1 y2 => ?_, by rw [e _ (by decide)]; exact a5, by rw [e _ (by decide)]; exact a6⟩
  · obtain ⟨c, b1, b2⟩ := a3 p p1 p2
    refine ⟨c, b1, b2.1, b2.2.1, b2.2.2.1, ?_⟩
    rw [e _ (by have := b2.1; omega)]; exact b2.2.2.2
  · obtain ⟨v, C, b1, b2, b3, b4, b5⟩ := a4 y y1 y2
    have hv := b2.1
    exact ⟨v, C, b1, b2, by rw [e _ (by omega)]; exact b3, b4.g ⟨e _ (by omega), e _ (by omega), e _ (by omega), e _ (by omega)⟩, b5⟩
theorem cg.f40 (h : cg K I J) (e : ∀ x, x ≠ 40 → L x = J x) : cg K I L := h.trans ⟨fun b b1 _ _ => e b (by omega), by rw [e _ (by decide)], by rw [e _ (by decide)]⟩
theorem cg.sw {a b x y : Int} (h : cg K I J) : cg K I (uI (uI J 34 a x) 34 b y) := (h.w (by decide)).w (by decide)
def SX (K : Nat → Nat × Nat) (I J : Nat → Int → Int) (Q : Nat → Int → Option Nat) (n : Nat) (s : Int → Int) (B : Int) (q : Int × Int × Int) : Prop := GU K J Q n s ∧ cg K I J ∧ J 40 14 = q.2.1 ∧ J 40 15 = q.2.2 ∧ J 40 16 = q.1 - B ∧ (-12000000 ≤ q.1 ∧ q.1 ≤ 12000000)
end CI2
section CJ2
variable {l : Launch} {G : tG} {K : Nat → Nat × Nat} {I : Nat → Int → Int} {Q : Nat → Int → Option Nat} {n : Nat} {s : Int → Int}
theorem li_P_seekChange {a : Nat} {B : Int} {F : Int × Int × Int} {P : Option tV → tH → Prop} (hqq : uQ Q 40 0 (some 27) = Q) (hS : tSt (K, I, Q, n)) (hR : RInv s) (hV : RVal s) (hB : B = rBestDay s) (a1 : (a : Int) < s 1) (cont : ∀ (x : Int) (J : Nat → Int → Int), SX K I J Q n s B F → tw_AW l G mP_seekChange 6 0 0 n 0 P 105 [(4, vi x), (0, vr (some 40)), (1, vr (some 27)), (2, vi B), (3, vi (a : Int))] [] (K, J, Q, n)) : ∀ (k : Nat) (b : Nat) (q : Int × Int × Int) (J : Nat → Int → Int), b + k = (s 1).toNat → a < b → rChB s a k b q = F → SX K I J Q n s B q → tw_AW l G mP_seekChange 6 0 0 n 0 (P) 42 [(4, vi (b : Int)), (0, vr (some 40)), (1, vr (some 27)), (2, vi B), (3, vi (a : Int))] [] (K, J, Q, n) := by
  obtain ⟨h0, h1, h2, h3, h4, h5, h6, hp, hrw, ht, hr, hb, htp, hv⟩ := id hR
  intro k
  induction k with
  | zero =>
    intro b q J hb2 hab hF hI
    refine ar_iload (k := 25) rfl rfl ?_
    refine ar_aloadn (k := 26) rfl rfl ?_
    refine br_getIz (k := 27) (z := 12) rfl (hS.k (by decide)) flP_88_10 (by decide) rfl rfl ?_
    refine tw_top (WN.tc hI.1.2.1) ?_
    refine ar_icmp_ge (k := 28) rfl (by omega) (by omega) (fun c28 => ?_) (fun c28 => ?_)
    · rw [rChB] at hF
      subst hF
      exact cont _ J hI
    · exfalso; omega
  | succ k ih =>
    intro b q J hb2 hab hF hI
    refine ar_iload (k := 25) rfl rfl ?_
    refine ar_aloadn (k := 26) rfl rfl ?_
    refine br_getIz (k := 27) (z := 12) rfl (hS.k (by decide)) flP_88_10 (by decide) rfl rfl ?_
    refine tw_top (WN.tc hI.1.2.1) ?_
    refine ar_icmp_ge (k := 28) rfl (by omega) (by omega) (fun c28 => ?_) (fun c28 => ?_)
    · exfalso; omega
    · have wa := ht (a : Int) (by omega) (by omega)
      have wb := ht (b : Int) (by omega) (by omega)
      have hbd := rBestDay_bd hR hV
      have hqb := hI.2.2.2.2.2
      refine ar_aloadn (k := 29) rfl rfl ?_
      refine br_getR (k := 30) rfl (hS.k (by decide)) flP_91_10 (by decide) rfl (hS.r rfl) ?_
      refine ar_iloadn (k := 31) rfl rfl ?_
      refine br_iald (k := 32) rfl (hS.k (by decide)) (by omega) (by omega) (by decide) ?_
      refine tw_top (WN.ho hI.1.2.1 (by omega) (by omega)) ?_
      refine ar_aloadn (k := 33) rfl rfl ?_
      refine br_getR (k := 34) rfl (hS.k (by decide)) flP_91_10 (by decide) rfl (hS.r rfl) ?_
      refine ar_iload (k := 35) rfl rfl ?_
      refine br_iald (k := 36) rfl (hS.k (by decide)) (by omega) (by omega) (by decide) ?_
      refine tw_top (WN.ho hI.1.2.1 (by omega) (by omega)) ?_
      refine ar_icmp_eq (k := 37) rfl (by omega) (by omega) (fun c37 => ?_) (fun c37 => ?_)
      · refine ar_iinc (k := 57) (l2 := [(4, _), (0, _), (1, _), (2, _), (3, _)]) rfl (by decide) rfl rfl ?_
        refine ar_goto (k := 58) rfl ?_
        refine ar_sub (l2 := [(4, vi ((b + 1 : Nat) : Int)), (0, vr (some 40)), (1, vr (some 27)), (2, vi B), (3, vi (a : Int))]) (tw_s (tw_e 0 rfl (by omega)) (tw_s (tw_g 1 rfl) (tw_s (tw_g 2 rfl) (tw_s (tw_g 3 rfl) (tw_s (tw_g 4 rfl) tw_s0))))) ?_
        rw [rChB, if_neg (fun z => z.1 (by omega))] at hF
        exact ih (b + 1) q J (by omega) (by omega) hF hI
      · skip
        refine ar_aloadn (k := 38) rfl rfl ?_
        refine ar_iloadn (k := 39) rfl rfl ?_
        refine ar_iload (k := 40) rfl rfl ?_
        refine ar_callV (k := 41) (as := [_, _]) rfl lvP_186 (hS.k (by decide)) rfl (c_W_changeH hS (by omega) (by omega) (by omega)) rfl (by decide) (by decide) tw_m0 (Nat.le_of_ble_eq_true rfl) (fun r41 h41 p41 => ?_)
        obtain ⟨rfl, rfl⟩ := p41
        have hG41 := hI.1.sw (a := (a : Int)) (b := (b : Int)) (by omega) (by omega) (by omega)
        have hR2 := RInv_swap (a := (a : Int)) (b := (b : Int)) (by omega) (by omega) hR
        have hV2 := RVal_swap (a := (a : Int)) (b := (b : Int)) (by omega) (by omega) hV
        have hbd2 := rBestDay_bd hR2 hV2
        have h1s : (rSwap s (a : Int) (b : Int)) 1 ≤ 10 := hR2.2.1.2
        refine ar_aloadn (k := 42) rfl rfl ?_
        refine ar_aloadn (k := 43) rfl rfl ?_
        refine ar_callV (k := 44) (as := [_]) rfl lvP_178 (hS.k (by decide)) rfl (c_P_look27 hG41.1 hG41.2.1 hG41.2.2.1 hG41.2.2.2.1 hR2 hV2 hG41.2.2.2.2.1) rfl (by decide) (by decide) tw_m0 (Nat.le_of_ble_eq_true rfl) (fun r44 h44 p44 => ?_)
        obtain ⟨rfl, I44, rfl, hk44, hB44, hT44⟩ := p44
        rw [hqq]
        have hG44 := hG41.k hk44
        refine ar_aloadn (k := 45) rfl rfl ?_
        refine ar_iloadn (k := 46) rfl rfl ?_
        refine ar_iload (k := 47) rfl rfl ?_
        refine ar_callV (k := 48) (as := [_, _]) rfl lvP_186 (hS.k (by decide)) rfl (c_W_changeH hS (by omega) (by omega) (by omega)) rfl (by decide) (by decide) tw_m0 (Nat.le_of_ble_eq_true rfl) (fun r48 h48 p48 => ?_)
        obtain ⟨rfl, rfl⟩ := p48
        have e1s : (rSwap s (a : Int) (b : Int)) 1 = s 1 := by unfold rSwap; rw [up_ne _ _ (by omega), up_ne _ _ (by omega)]
        have hG48 := hG44.sw (a := (a : Int)) (b := (b : Int)) (by rw [e1s]; omega) (by rw [e1s]; omega) (by omega)
        rw [rSwap_swap (by omega)] at hG48
        refine ar_aloadn (k := 49) rfl rfl ?_
        refine ar_iloadn (k := 50) rfl rfl ?_
        refine ar_iload (k := 51) rfl rfl ?_
        refine ar_aloadn (k := 52) rfl rfl ?_
        refine ar_callV (k := 53) (as := []) rfl lvP_182 (hS.k (by decide)) rfl (c_P_bestDay hS hR2 hV2 (hT44.fm (fun x hx => by rw [uI_off _ _ _ (by omega), uI_off _ _ _ (by omega)])) (PW.fm hB44.2.2.2.2.2 h1s (fun x x1 x2 => by rw [uI_off _ _ _ (by omega), uI_off _ _ _ (by omega)])) hG48.2.2.2.2.2) rfl (by decide) (by decide) tw_m0 (Nat.le_of_ble_eq_true rfl) (fun r53 h53 p53 => ?_)
        obtain ⟨rfl, I53, rfl, hb53⟩ := p53
        have hG53 := hG48.k hb53.q
        have e40 : ∀ k : Int, 14 ≤ k → I53 40 k = J 40 k := fun k hk => by rw [hb53.1 40 (by decide), uI_off _ _ _ (by decide), uI_off _ _ _ (by decide), hk44.2.2.2.1 k hk, uI_off _ _ _ (by decide), uI_off _ _ _ (by decide)]
        refine ar_iloadn (k := 54) rfl rfl ?_
        refine ar_isub (k := 55) rfl ?_
        refine ar_callV (k := 56) (as := [_, _, _]) rfl lvP_190 (hS.k (by decide)) rfl (c_P_keepChange (c := q.1 - B) hS ((e40 16 (by decide)).trans hI.2.2.2.2.1) (by omega) (by omega)) rfl (by decide) (by decide) tw_m0 (Nat.le_of_ble_eq_true rfl) (fun r56 h56 p56 => ?_)
        obtain ⟨rfl, I56, rfl, f56⟩ := p56
        refine ar_iinc (k := 57) (l2 := [(4, _), (0, _), (1, _), (2, _), (3, _)]) rfl (by decide) rfl rfl ?_
        refine ar_goto (k := 58) rfl ?_
        refine ar_sub (l2 := [(4, vi ((b + 1 : Nat) : Int)), (0, vr (some 40)), (1, vr (some 27)), (2, vi B), (3, vi (a : Int))]) (tw_s (tw_e 0 rfl (by omega)) (tw_s (tw_g 1 rfl) (tw_s (tw_g 2 rfl) (tw_s (tw_g 3 rfl) (tw_s (tw_g 4 rfl) tw_s0))))) ?_
        have hq2 : SX K I I56 Q n s B (if s (84 + (a : Int)) ≠ s (84 + (b : Int)) ∧ q.1 < rBestDay (rSwap s (a : Int) (b : Int)) then (rBestDay (rSwap s (a : Int) (b : Int)), (a : Int), (b : Int)) else q) := by
          refine ⟨hG53.f40 f56.1, cg.f40 (((hI.2.1.sw.trans hk44.g).sw).trans hb53.q.g) f56.1, ?_, ?_, ?_, ?_⟩
          · rw [f56.2.2.1, e40 14 (by decide), hI.2.2.1]
            by_cases g : q.1 < rBestDay (rSwap s (a : Int) (b : Int))
            · rw [if_pos (by omega), if_pos ⟨by omega, g⟩]
            · rw [if_neg (by omega), if_neg (fun z => g z.2)]
          · rw [f56.2.2.2.1, e40 15 (by decide), hI.2.2.2.1]
            by_cases g : q.1 < rBestDay (rSwap s (a : Int) (b : Int))
            · rw [if_pos (by omega), if_pos ⟨by omega, g⟩]
            · rw [if_neg (by omega), if_neg (fun z => g z.2)]
          · rw [f56.2.2.2.2]
            by_cases g : q.1 < rBestDay (rSwap s (a : Int) (b : Int))
            · rw [if_pos (by omega), if_pos ⟨by omega, g⟩]
            · rw [if_neg (by omega), if_neg (fun z => g z.2)]
          · split
            · exact hbd2
            · exact hI.2.2.2.2.2
        rw [rChB] at hF
        exact ih (b + 1) _ I56 (by omega) (by omega) hF hq2
theorem l_P_seekChange {B : Int} (hqq : uQ Q 40 0 (some 27) = Q) (hS : tSt (K, I, Q, n)) (hR : RInv s) (hV : RVal s) (hB : B = rBestDay s) : ∀ (k : Nat) (a : Nat) (q : Int × Int × Int) (J : Nat → Int → Int), a + k = (s 1).toNat → SX K I J Q n s B q → tw_AW l G mP_seekChange 6 0 0 n 0 ((fun r h' => r = none ∧ ∃ L, h' = (K, L, Q, n) ∧ SX K I L Q n s B (rChA s k a q))) 29 [(3, vi (a : Int)), (0, vr (some 40)), (1, vr (some 27)), (2, vi B)] [] (K, J, Q, n) := by
  obtain ⟨h0, h1, h2, h3, h4, h5, h6, hp, hrw, ht, hr, hb, htp, hv⟩ := id hR
  intro k
  induction k with
  | zero =>
    intro a q J ha hI
    refine ar_iloadn (k := 17) rfl rfl ?_
    refine ar_aloadn (k := 18) rfl rfl ?_
    refine br_getIz (k := 19) (z := 12) rfl (hS.k (by decide)) flP_88_10 (by decide) rfl rfl ?_
    refine tw_top (WN.tc hI.1.2.1) ?_
    refine ar_icmp_ge (k := 20) rfl (by omega) (by omega) (fun c20 => ?_) (fun c20 => ?_)
    · refine ar_ret (k := 61) rfl rfl rfl (Nat.le_refl _) ?_
      exact ⟨rfl, J, rfl, hI⟩
    · exfalso; omega
  | succ k ih =>
    intro a q J ha hI
    refine ar_iloadn (k := 17) rfl rfl ?_
    refine ar_aloadn (k := 18) rfl rfl ?_
    refine br_getIz (k := 19) (z := 12) rfl (hS.k (by decide)) flP_88_10 (by decide) rfl rfl ?_
    refine tw_top (WN.tc hI.1.2.1) ?_
    refine ar_icmp_ge (k := 20) rfl (by omega) (by omega) (fun c20 => ?_) (fun c20 => ?_)
    · exfalso; omega
    · refine ar_iloadn (k := 21) rfl rfl ?_
      refine ar_iconst (k := 22) rfl ?_
      refine ar_iadd (k := 23) rfl ?_
      refine ar_istore (k := 24) (l2 := [(4, _), (3, _), (0, _), (1, _), (2, _)]) rfl (by decide) rfl ?_
      refine ar_sub (l2 := [(4, vi ((a + 1 : Nat) : Int)), (0, vr (some 40)), (1, vr (some 27)), (2, vi B), (3, vi (a : Int))]) (tw_s (tw_e 0 rfl (by omega)) (tw_s (tw_g 2 rfl) (tw_s (tw_g 3 rfl) (tw_s (tw_g 4 rfl) (tw_s (tw_g 1 rfl) tw_s0))))) ?_
      refine li_P_seekChange (a := a) hqq hS hR hV hB (by omega) (fun x N hN => ?_) k (a + 1) q J (by omega) (by omega) rfl hI
      refine ar_iinc (k := 59) (l2 := [(3, _), (4, _), (0, _), (1, _), (2, _)]) rfl (by decide) rfl rfl ?_
      refine ar_goto (k := 60) rfl ?_
      refine ar_sub (l2 := [(3, vi ((a + 1 : Nat) : Int)), (0, vr (some 40)), (1, vr (some 27)), (2, vi B)]) (tw_s (tw_e 0 rfl (by omega)) (tw_s (tw_g 2 rfl) (tw_s (tw_g 3 rfl) (tw_s (tw_g 4 rfl) tw_s0)))) ?_
      rw [rChA]
      exact ih (a + 1) _ N (by omega) hN
theorem c_P_seekChange (hG : GU K I Q n s) (hR : RInv s) (hV : RVal s) : tw_M l G 6 0 0 mP_seekChange [vr (some 40), vr (some 27)] (K, I, Q, n) (fun r h' => r = none ∧ ∃ L, h' = (K, L, uQ Q 40 0 (some 27), n) ∧ SX K I L (uQ Q 40 0 (some 27)) n s (rBestDay s) (rChange s)) := by
  obtain ⟨h0, h1, h2, h3, h4, h5, h6, hp, hrw, ht, hr, hb, htp, hv⟩ := id hR
  have hS := hG.1
  have hbd := rBestDay_bd hR hV
  refine tw_intro okP_seekChange (Nat.le_of_ble_eq_true rfl) ?_
  refine ar_aloadn (k := 0) rfl rfl ?_
  refine ar_aloadn (k := 1) rfl rfl ?_
  refine ar_callV (k := 2) (as := [_]) rfl lvP_178 (hS.k (by decide)) rfl (c_P_look27 hG.1 hG.2.1 hG.2.2.1 hG.2.2.2.1 hR hV hG.2.2.2.2.1) rfl (by decide) (by decide) tw_m0 (Nat.le_of_ble_eq_true rfl) (fun r2 h2 p2 => ?_)
  obtain ⟨rfl, I2, rfl, hk2, hB2, hT2⟩ := p2
  have hG2 := (hG.q (some 27)).k hk2
  have hS := hG2.1
  refine ar_aloadn (k := 3) rfl rfl ?_
  refine ar_callV (k := 4) (as := []) rfl lvP_182 (hS.k (by decide)) rfl (c_P_bestDay hS hR hV hT2 hB2.2.2.2.2.2 hG2.2.2.2.2.2) rfl (by decide) (by decide) tw_m0 (Nat.le_of_ble_eq_true rfl) (fun r4 h4 p4 => ?_)
  obtain ⟨rfl, I4, rfl, hb4⟩ := p4
  have hG4 := hG2.k hb4.q
  refine ar_istoren (k := 5) (l2 := [(2, _), (0, _), (1, _)]) rfl (by decide) rfl ?_
  refine ar_aloadn (k := 6) rfl rfl ?_
  refine ar_bipush (k := 7) rfl (by decide) ?_
  refine br_putIJ (k := 8) rfl (hS.k (by decide)) flP_56_6 (by decide) rfl (fun _ _ _ q => by cases q; exact ⟨rfl, rfl⟩) (fun I8 e8 => ?_)
  change _ = uI _ 40 14 _ at e8
  skip
  refine ar_aloadn (k := 9) rfl rfl ?_
  refine ar_bipush (k := 10) rfl (by decide) ?_
  refine br_putIJ (k := 11) rfl (hS.k (by decide)) flP_59_6 (by decide) rfl (fun _ _ _ q => by cases q; exact ⟨rfl, rfl⟩) (fun I11 e11 => ?_)
  change _ = uI _ 40 15 _ at e11
  skip
  refine ar_aloadn (k := 12) rfl rfl ?_
  refine ar_iconst (k := 13) rfl ?_
  refine br_putIJ (k := 14) rfl (hS.k (by decide)) flP_62_6 (by decide) rfl (fun _ _ _ q => by cases q; exact ⟨rfl, rfl⟩) (fun I14 e14 => ?_)
  change _ = uI _ 40 16 _ at e14
  skip
  refine ar_iconst (k := 15) rfl ?_
  refine ar_istoren (k := 16) (l2 := [(3, _), (2, _), (0, _), (1, _)]) rfl (by decide) rfl ?_
  refine ar_sub (l2 := [(3, vi ((0 : Nat) : Int)), (0, vr (some 40)), (1, vr (some 27)), (2, vi (rBestDay s))]) (tw_s (tw_e 0 rfl (by rfl)) (tw_s (tw_g 2 rfl) (tw_s (tw_g 3 rfl) (tw_s (tw_g 1 rfl) tw_s0)))) ?_
  have eo : ∀ x, x ≠ 40 → I14 x = I4 x := fun x hx => by rw [e14, uI_off _ _ _ hx, e11, uI_off _ _ _ hx, e8, uI_off _ _ _ hx]
  have hs9 : SX K I I14 (uQ Q 40 0 (some 27)) n s (rBestDay s) (rBestDay s, -5, -5) := ⟨hG4.f40 eo, (hk2.g.trans hb4.q.g).f40 eo, by rw [e14, uI_at, if_neg (by decide), e11, uI_at, if_neg (by decide), e8, uI_at, if_pos rfl], by rw [e14, uI_at, if_neg (by decide), e11, uI_at, if_pos rfl], by rw [e14, uI_at, if_pos rfl]; omega, hbd⟩
  exact l_P_seekChange (I := I) uQ_same hS hR hV rfl (s 1).toNat 0 _ I14 (by omega) hs9
theorem qg.t {Q1 Q2 Q3 : Nat → Int → Option Nat} (h : qg Q1 Q2) (g : qg Q2 Q3) : qg Q1 Q3 := fun a ha => (g a ha).trans (h a ha)
theorem c_T_change {w : Int} (hS : tSt (K, I, Q, n)) (hN : WN 1 I s) (hP : WP 1 K I Q n s) (hW : WV 1 K I Q n s) (hH : QH K Q n 1) (hR : RInv s) (hV : RVal s) (h57 : I 57 0 = 0) (h59 : I 59 0 = 0) (tw : tr w) : tw_M l G 7 0 0 mT_change [vr (some 0), vi w] (K, I, Q, n) (fun r h' => r = some (vi (if ¬ (0 ≤ w ∧ w ≤ 2) then -1 else if w = 0 then (rChange s).2.1 else if w = 1 then (rChange s).2.2 else (rChange s).1 - rBestDay s)) ∧ ∃ J Q', h' = (K, J, Q', n) ∧ cg K I J ∧ qg Q Q' ∧ tSt (K, J, Q', n)) := by
  obtain ⟨h0, h1, h2, h3, h4, h5, h6, hp, hrw, ht, hr, hb, htp, hv⟩ := id hR
  refine tw_intro okT_change (Nat.le_of_ble_eq_true rfl) ?_
  refine ar_iloadn (k := 0) rfl rfl ?_
  refine ar_if_lt (k := 1) rfl (by omega) (fun c1 => ?_) (fun c1 => ?_)
  · refine ar_iconst (k := 5) rfl ?_
    refine ar_iret (k := 6) rfl rfl rfl (Nat.le_refl _) ?_
    first
      | (exfalso; omega)
      | exact ⟨congrArg (fun z => some (vi z)) (by rw [if_pos (by omega)]), I, Q, rfl, cg.rf, qg.rf, hS⟩
  · refine ar_iloadn (k := 2) rfl rfl ?_
    refine ar_iconst (k := 3) rfl ?_
    refine ar_icmp_le (k := 4) rfl (by omega) (by omega) (fun c4 => ?_) (fun c4 => ?_)
    · refine ar_aloadn (k := 7) rfl rfl ?_
      refine br_getR (k := 8) rfl (hS.k (by decide)) flT_21_11 (by decide) rfl (hS.r rfl) ?_
      refine ar_aloadn (k := 9) rfl rfl ?_
      refine br_getR (k := 10) rfl (hS.k (by decide)) flT_14_11 (by decide) rfl (hS.r rfl) ?_
      refine ar_callV (k := 11) (as := [_]) rfl lvT_201 (hS.k (by decide)) rfl (c_W_copyFrom_27_1 hS hH (fun j j1 j2 => by rw [show I 2 j = _ from WN.tp hN j1 j2]; have := htp j j1 j2; omega)) rfl (by decide) (by decide) tw_m0 (Nat.le_of_ble_eq_true rfl) (fun r11 h11 p11 => ?_)
      obtain ⟨rfl, J11, R11, rfl, fc11, fo11, fq11, f811, f511⟩ := p11
      obtain ⟨hG11, hc11, hg11⟩ := GU.cp hS hN hP hW h57 h59 fc11 fo11 fq11 f811 f511 h2.2
      have hS := hG11.1
      refine ar_aloadn (k := 12) rfl rfl ?_
      refine br_getR (k := 13) rfl (hS.k (by decide)) flT_33_11 (by decide) rfl (hS.r rfl) ?_
      refine ar_aloadn (k := 14) rfl rfl ?_
      refine br_getR (k := 15) rfl (hS.k (by decide)) flT_21_11 (by decide) rfl (hS.r rfl) ?_
      refine ar_callV (k := 16) (as := [_]) rfl lvT_204 (hS.k (by decide)) rfl (c_P_seekChange hG11 hR hV) rfl (by decide) (by decide) tw_m0 (Nat.le_of_ble_eq_true rfl) (fun r16 h16 p16 => ?_)
      obtain ⟨rfl, I16, rfl, hX16⟩ := p16
      have hS := hX16.1.1
      refine ar_iloadn (k := 17) rfl rfl ?_
      rcases (show w = 0 ∨ w = 1 ∨ (w ≠ 0 ∧ w ≠ 1) by omega) with q18 | q18 | q18
      · refine ar_lsw (k := 18) (t := 60) (off := 26) rfl (by omega) rfl (by rw [q18]; rfl) (by decide) ?_
        refine ar_aloadn (k := 19) rfl rfl ?_
        refine br_getR (k := 20) rfl (hS.k (by decide)) flT_33_11 (by decide) rfl (hS.r rfl) ?_
        refine br_getIz (k := 21) (z := 14) rfl (hS.k (by decide)) flT_207_6 (by decide) rfl rfl ?_
        refine tw_top hX16.2.2.1 ?_
        refine ar_iret (k := 22) rfl rfl rfl (Nat.le_refl _) ?_
        first
          | (exfalso; omega)
          | exact ⟨congrArg (fun z => some (vi z)) (by rw [if_neg (by omega), if_pos (by omega)]), _, _, rfl, hc11.trans hX16.2.1, hg11.t (qg.q40 _), hX16.1.1⟩
      · refine ar_lsw (k := 18) (t := 68) (off := 34) rfl (by omega) rfl (by rw [q18]; rfl) (by decide) ?_
        refine ar_aloadn (k := 23) rfl rfl ?_
        refine br_getR (k := 24) rfl (hS.k (by decide)) flT_33_11 (by decide) rfl (hS.r rfl) ?_
        refine br_getIz (k := 25) (z := 15) rfl (hS.k (by decide)) flT_210_6 (by decide) rfl rfl ?_
        refine tw_top hX16.2.2.2.1 ?_
        refine ar_iret (k := 26) rfl rfl rfl (Nat.le_refl _) ?_
        first
          | (exfalso; omega)
          | exact ⟨congrArg (fun z => some (vi z)) (by rw [if_neg (by omega), if_neg (by omega), if_pos (by omega)]), _, _, rfl, hc11.trans hX16.2.1, hg11.t (qg.q40 _), hX16.1.1⟩
      · refine ar_lsw (k := 18) (t := 76) (off := 42) rfl (by omega) rfl (by show Op.lookupswitch.offset [(0, 26), (1, 34)] _ _ = _; rw [Op.lookupswitch.offset_cons, if_neg (by omega), Op.lookupswitch.offset_cons, if_neg (by omega)]; rfl) (by decide) ?_
        refine ar_aloadn (k := 27) rfl rfl ?_
        refine br_getR (k := 28) rfl (hS.k (by decide)) flT_33_11 (by decide) rfl (hS.r rfl) ?_
        refine br_getIz (k := 29) (z := 16) rfl (hS.k (by decide)) flT_213_6 (by decide) rfl rfl ?_
        refine tw_top hX16.2.2.2.2.1 ?_
        refine ar_iret (k := 30) rfl rfl rfl (Nat.le_refl _) ?_
        first
          | (exfalso; omega)
          | exact ⟨congrArg (fun z => some (vi z)) (by rw [if_neg (by omega), if_neg (by omega), if_neg (by omega)]), _, _, rfl, hc11.trans hX16.2.1, hg11.t (qg.q40 _), hX16.1.1⟩
    · refine ar_iconst (k := 5) rfl ?_
      refine ar_iret (k := 6) rfl rfl rfl (Nat.le_refl _) ?_
      first
        | (exfalso; omega)
        | exact ⟨congrArg (fun z => some (vi z)) (by rw [if_pos (by omega)]), I, Q, rfl, cg.rf, qg.rf, hS⟩
theorem c_T_away {p : Int} (hS : tSt (K, I, Q, n)) (hN : WN 1 I s) (hP : WP 1 K I Q n s) (hW : WV 1 K I Q n s) (hH : QH K Q n 1) (hR : RInv s) (hV : RVal s) (h57 : I 57 0 = 0) (h59 : I 59 0 = 0) (tp : tr p) : tw_M l G 7 0 0 mT_away [vr (some 0), vi p] (K, I, Q, n) (fun r h' => r = some (vi (if 0 ≤ p ∧ p ≤ s 0 - 1 then rAway s p else -10001)) ∧ ∃ J Q', h' = (K, J, Q', n) ∧ cg K I J ∧ qg Q Q' ∧ tSt (K, J, Q', n)) := by
  obtain ⟨h0, h1, h2, h3, h4, h5, h6, hp, hrw, ht, hr, hb, htp, hv⟩ := id hR
  refine tw_intro okT_away (Nat.le_of_ble_eq_true rfl) ?_
  refine ar_aloadn (k := 0) rfl rfl ?_
  refine br_getR (k := 1) rfl (hS.k (by decide)) flT_14_11 (by decide) rfl (hS.r rfl) ?_
  refine ar_iloadn (k := 2) rfl rfl ?_
  refine ar_callV (k := 3) (as := [_]) rfl lvT_83 (hS.k (by decide)) rfl (c_W_hasPerson hS hN hR (by omega)) rfl (by decide) (by decide) tw_m0 (Nat.le_of_ble_eq_true rfl) (fun r3 h3 p3 => ?_)
  obtain ⟨rfl, rfl⟩ := p3
  refine ar_if_ne (k := 4) rfl (by omega) (fun c4 => ?_) (fun c4 => ?_)
  · refine ar_aloadn (k := 7) rfl rfl ?_
    refine br_getR (k := 8) rfl (hS.k (by decide)) flT_21_11 (by decide) rfl (hS.r rfl) ?_
    refine ar_aloadn (k := 9) rfl rfl ?_
    refine br_getR (k := 10) rfl (hS.k (by decide)) flT_14_11 (by decide) rfl (hS.r rfl) ?_
    refine ar_callV (k := 11) (as := [_]) rfl lvT_201 (hS.k (by decide)) rfl (c_W_copyFrom_27_1 hS hH (fun j j1 j2 => by rw [show I 2 j = _ from WN.tp hN j1 j2]; have := htp j j1 j2; omega)) rfl (by decide) (by decide) tw_m0 (Nat.le_of_ble_eq_true rfl) (fun r11 h11 p11 => ?_)
    obtain ⟨rfl, J11, R11, rfl, fc11, fo11, fq11, f811, f511⟩ := p11
    obtain ⟨hG11, hc11, hg11⟩ := GU.cp hS hN hP hW h57 h59 fc11 fo11 fq11 f811 f511 h2.2
    have hS := hG11.1
    refine ar_aloadn (k := 12) rfl rfl ?_
    refine br_getR (k := 13) rfl (hS.k (by decide)) flT_33_11 (by decide) rfl (hS.r rfl) ?_
    refine ar_aloadn (k := 14) rfl rfl ?_
    refine br_getR (k := 15) rfl (hS.k (by decide)) flT_21_11 (by decide) rfl (hS.r rfl) ?_
    refine ar_iloadn (k := 16) rfl rfl ?_
    refine ar_callV (k := 17) (as := [_, _]) rfl lvT_216 (hS.k (by decide)) rfl (c_P_lost hG11 hR hV (by omega)) rfl (by decide) (by decide) tw_m0 (Nat.le_of_ble_eq_true rfl) (fun r17 h17 p17 => ?_)
    obtain ⟨rfl, I17, rfl, hL17⟩ := p17
    have hL17 := And.intro hL17.1 (And.intro hL17.2.1 trivial)
    refine ar_iret (k := 18) rfl rfl rfl (Nat.le_refl _) ?_
    first
      | (exfalso; omega)
      | exact ⟨congrArg (fun z => some (vi z)) (by rw [if_pos (by omega)]), _, _, rfl, hc11.trans hL17.2.1, hg11.t (qg.q40 _), hL17.1.1⟩
  · refine ar_sipush (k := 5) rfl (by decide) ?_
    refine ar_iret (k := 6) rfl rfl rfl (Nat.le_refl _) ?_
    first
      | (exfalso; omega)
      | exact ⟨congrArg (fun z => some (vi z)) (by rw [if_neg (by omega)]), I, Q, rfl, cg.rf, qg.rf, hS⟩
theorem l_T_worst (hNw : I 1 5 = s 0) (hS0 : tSt (K, I, Q, n)) (hR : RInv s) (hV : RVal s) : ∀ (k : Nat) (j : Nat) (b m : Int) (J : Nat → Int → Int) (R : Nat → Int → Option Nat), j + k = (s 0).toNat → (b = -5 ∨ 0 ≤ b) → (0 ≤ m ∧ m ≤ 24000000) → (GU K J R n s ∧ cg K I J ∧ (R = Q ∨ R = uQ Q 40 0 (some 27))) → tw_AW l G mT_worst 7 0 0 n 0 ((fun r h' => r = some (vi (rWorstN s k j b m)) ∧ ∃ L R2, h' = (K, L, R2, n) ∧ cg K I L ∧ (R2 = Q ∨ R2 = uQ Q 40 0 (some 27)) ∧ tSt (K, L, R2, n))) 18 [(3, vi (j : Int)), (1, vi b), (2, vi (if b = -5 then -1 else m)), (0, vr (some 0))] [] (K, J, R, n) := by
  obtain ⟨h0, h1, h2, h3, h4, h5, h6, hp, hrw, ht, hr, hb, htp, hv⟩ := id hR
  intro k
  induction k with
  | zero =>
    intro j b m J R hj hb9 hm9 hJ
    have hS := hJ.1.1
    refine ar_iloadn (k := 11) rfl rfl ?_
    refine ar_aloadn (k := 12) rfl rfl ?_
    refine br_getR (k := 13) rfl (hS.k (by decide)) flT_14_11 (by decide) rfl (hS.r rfl) ?_
    refine br_getIz (k := 14) (z := 5) rfl (hS.k (by decide)) flT_72_10 (by decide) rfl rfl ?_
    refine tw_top ((congrFun (hJ.2.1.at hS0 (by omega)) _).trans hNw) ?_
    refine ar_icmp_ge (k := 15) rfl (by omega) (by omega) (fun c15 => ?_) (fun c15 => ?_)
    · refine ar_iloadn (k := 32) rfl rfl ?_
      refine ar_iret (k := 33) rfl rfl rfl (Nat.le_refl _) ?_
      exact ⟨rfl, J, R, rfl, hJ.2.1, hJ.2.2, hJ.1.1⟩
    · exfalso; omega
  | succ k ih =>
    intro j b m J R hj hb9 hm9 hJ
    have hS := hJ.1.1
    refine ar_iloadn (k := 11) rfl rfl ?_
    refine ar_aloadn (k := 12) rfl rfl ?_
    refine br_getR (k := 13) rfl (hS.k (by decide)) flT_14_11 (by decide) rfl (hS.r rfl) ?_
    refine br_getIz (k := 14) (z := 5) rfl (hS.k (by decide)) flT_72_10 (by decide) rfl rfl ?_
    refine tw_top ((congrFun (hJ.2.1.at hS0 (by omega)) _).trans hNw) ?_
    refine ar_icmp_ge (k := 15) rfl (by omega) (by omega) (fun c15 => ?_) (fun c15 => ?_)
    · exfalso; omega
    · have hb1 := rBestDay_bd hR hV
      have ha0 := rAway_0 (p := (j : Int)) hR (by omega)
      have hb2 := rBestDay_bd (RInv_free (p := (j : Int)) (x := 0) (by omega) (by omega) hR) (RVal_up (i := 34 + (j : Int)) (x := 0) (by omega) (by omega) hV)
      have ha1 : rAway s (j : Int) ≤ 24000000 := by unfold rAway; omega
      refine ar_aloadn (k := 16) rfl rfl ?_
      refine br_getR (k := 17) rfl (hS.k (by decide)) flT_33_11 (by decide) rfl (hS.r rfl) ?_
      refine ar_aloadn (k := 18) rfl rfl ?_
      refine br_getR (k := 19) rfl (hS.k (by decide)) flT_21_11 (by decide) rfl (hS.r rfl) ?_
      refine ar_iloadn (k := 20) rfl rfl ?_
      refine ar_callV (k := 21) (as := [_, _]) rfl lvT_216 (hS.k (by decide)) rfl (c_P_lost hJ.1 hR hV (by omega)) rfl (by decide) (by decide) tw_m0 (Nat.le_of_ble_eq_true rfl) (fun r21 h21 p21 => ?_)
      obtain ⟨rfl, I21, rfl, hL21⟩ := p21
      have hS := hL21.1.1
      refine ar_istore (k := 22) (l2 := [(4, _), (3, _), (1, _), (2, _), (0, _)]) rfl (by decide) rfl ?_
      refine ar_iload (k := 23) rfl rfl ?_
      refine ar_iloadn (k := 24) rfl rfl ?_
      refine ar_icmp_le (k := 25) rfl (by omega) (by omega) (fun c25 => ?_) (fun c25 => ?_)
      · refine ar_iinc (k := 30) (l2 := [(3, _), (4, _), (1, _), (2, _), (0, _)]) rfl (by decide) rfl rfl ?_
        refine ar_goto (k := 31) rfl ?_
        refine ar_sub (l2 := [(3, vi ((j + 1 : Nat) : Int)), (1, vi b), (2, vi (if b = -5 then -1 else m)), (0, vr (some 0))]) (tw_s (tw_e 0 rfl (by omega)) (tw_s (tw_g 2 rfl) (tw_s (tw_g 3 rfl) (tw_s (tw_g 4 rfl) tw_s0)))) ?_
        rw [rWorstN, if_neg (by omega)]
        exact ih (j + 1) _ _ I21 _ (by omega) hb9 hm9 ⟨hL21.1, hJ.2.1.trans hL21.2.1, Or.inr (by rcases hJ.2.2 with z | z; rw [z]; rw [z, uQ_same])⟩
      · skip
        refine ar_iload (k := 26) rfl rfl ?_
        refine ar_istoren (k := 27) (l2 := [(2, _), (4, _), (3, _), (1, _), (0, _)]) rfl (by decide) rfl ?_
        refine ar_iloadn (k := 28) rfl rfl ?_
        refine ar_istoren (k := 29) (l2 := [(1, _), (2, _), (4, _), (3, _), (0, _)]) rfl (by decide) rfl ?_
        refine ar_iinc (k := 30) (l2 := [(3, _), (1, _), (2, _), (4, _), (0, _)]) rfl (by decide) rfl rfl ?_
        refine ar_goto (k := 31) rfl ?_
        refine ar_sub (l2 := [(3, vi ((j + 1 : Nat) : Int)), (1, vi (j : Int)), (2, vi (if (j : Int) = -5 then -1 else rAway s (j : Int))), (0, vr (some 0))]) (tw_s (tw_e 0 rfl (by omega)) (tw_s (tw_g 1 rfl) (tw_s (tw_e 2 rfl (by rw [if_neg (by omega)])) (tw_s (tw_g 4 rfl) tw_s0)))) ?_
        rw [rWorstN, if_pos (by omega)]
        exact ih (j + 1) _ _ I21 _ (by omega) (by omega) (by omega) ⟨hL21.1, hJ.2.1.trans hL21.2.1, Or.inr (by rcases hJ.2.2 with z | z; rw [z]; rw [z, uQ_same])⟩
theorem c_T_worst (hS : tSt (K, I, Q, n)) (hN : WN 1 I s) (hP : WP 1 K I Q n s) (hW : WV 1 K I Q n s) (hH : QH K Q n 1) (hR : RInv s) (hV : RVal s) (h57 : I 57 0 = 0) (h59 : I 59 0 = 0) : tw_M l G 7 0 0 mT_worst [vr (some 0)] (K, I, Q, n) (fun r h' => r = some (vi (rWorstN s (s 0).toNat 0 (-5) 0)) ∧ ∃ J Q', h' = (K, J, Q', n) ∧ cg K I J ∧ qg Q Q' ∧ tSt (K, J, Q', n)) := by
  obtain ⟨h0, h1, h2, h3, h4, h5, h6, hp, hrw, ht, hr, hb, htp, hv⟩ := id hR
  refine tw_intro okT_worst (Nat.le_of_ble_eq_true rfl) ?_
  refine ar_aloadn (k := 0) rfl rfl ?_
  refine br_getR (k := 1) rfl (hS.k (by decide)) flT_21_11 (by decide) rfl (hS.r rfl) ?_
  refine ar_aloadn (k := 2) rfl rfl ?_
  refine br_getR (k := 3) rfl (hS.k (by decide)) flT_14_11 (by decide) rfl (hS.r rfl) ?_
  refine ar_callV (k := 4) (as := [_]) rfl lvT_201 (hS.k (by decide)) rfl (c_W_copyFrom_27_1 hS hH (fun j j1 j2 => by rw [show I 2 j = _ from WN.tp hN j1 j2]; have := htp j j1 j2; omega)) rfl (by decide) (by decide) tw_m0 (Nat.le_of_ble_eq_true rfl) (fun r4 h4 p4 => ?_)
  obtain ⟨rfl, J4, R4, rfl, fc4, fo4, fq4, f84, f54⟩ := p4
  obtain ⟨hG4, hc4, hg4⟩ := GU.cp hS hN hP hW h57 h59 fc4 fo4 fq4 f84 f54 h2.2
  have hS := hG4.1
  refine ar_bipush (k := 5) rfl (by decide) ?_
  refine ar_istoren (k := 6) (l2 := [(1, _), (0, _)]) rfl (by decide) rfl ?_
  refine ar_iconst (k := 7) rfl ?_
  refine ar_istoren (k := 8) (l2 := [(2, _), (1, _), (0, _)]) rfl (by decide) rfl ?_
  refine ar_iconst (k := 9) rfl ?_
  refine ar_istoren (k := 10) (l2 := [(3, _), (2, _), (1, _), (0, _)]) rfl (by decide) rfl ?_
  refine ar_sub (l2 := [(3, vi ((0 : Nat) : Int)), (1, vi (-5)), (2, vi (if (-5 : Int) = -5 then -1 else 0)), (0, vr (some 0))]) (tw_s (tw_e 0 rfl (by rfl)) (tw_s (tw_g 2 rfl) (tw_s (tw_e 1 rfl (by rfl)) (tw_s (tw_g 3 rfl) tw_s0)))) ?_
  refine tw_pst ?_ (l_T_worst (I := J4) (Q := R4) ((congrFun (fo4 1 (by omega)) _).trans hN.pc) hS hR hV (s 0).toNat 0 (-5) 0 J4 R4 (by omega) (Or.inl rfl) (by omega) ⟨hG4, cg.rf, Or.inl rfl⟩)
  intro r h' ⟨q1, L, R2, q2, q3, q4, q5⟩
  exact ⟨q1, L, R2, q2, hc4.trans q3, by rcases q4 with z | z; (rw [z]; exact hg4); (rw [z]; exact hg4.t (qg.q40 _)), q5⟩
end CJ2
