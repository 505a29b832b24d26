def vF (I L : Nat → Int → Int) (v : Nat) : Prop := (∀ b, b ≠ v → b ≠ v + 1 → b ≠ v + 2 → b ≠ v + 3 → L b = I b) ∧ L v 9 = I v 9
/-- a bell as the class keeps it -/
def bl (b : Int) : Int := if b < 1 then 1 else b
theorem vH.fr {I J : Nat → Int → Int} {v : Nat} {p : Int} {o : List Int} (h : vH I J v p o) : vF I J v := ⟨fun b b1 b2 b3 b4 => h.2.2.2.1 b b1 b4, h.2.2.2.2 9 (by decide) (by decide) (by decide)⟩
theorem VD.vh {I J : Nat → Int → Int} {v : Nat} {p : Int} {C : tCL} (hD : VD I v C) (hk : vH I J v p (cSs C)) : VD J v C := by
  obtain ⟨d1, d2, d3, d4, d5, d6, d7⟩ := hD
  obtain ⟨h1, h2, h3, h4, h5⟩ := hk
  refine ⟨by rw [h5 3 (by decide) (by decide) (by decide)]; exact d1, d2, h2, d4, fun c hc => ?_, h3, d7⟩
  rw [h4 (v + 1) (by omega) (by omega), h4 (v + 2) (by omega) (by omega)]
  exact d5 c hc
theorem VD.vs {I : Nat → Int → Int} {v : Nat} {p : Int} {C : tCL} (hD : VD I v C) (hp : I v 10 = p) : vH I I v p (cSs C) := ⟨hp, hD.2.2.1, hD.2.2.2.2.2.1, fun _ _ _ => rfl, fun _ _ _ _ => rfl⟩
theorem VD.bl {J L : Nat → Int → Int} {v : Nat} {x : Int} {C : tCL} (hD : VD J v C) (e : L = uI J v 0 x) : VD L v C := by
  subst e
  obtain ⟨d1, d2, d3, d4, d5, d6, d7⟩ := hD
  refine ⟨by rw [uI_at, if_neg (by decide)]; exact d1, d2, by rw [uI_at, if_neg (by decide)]; exact d3, d4, fun c hc => ?_, fun i hi => ?_, d7⟩
  · rw [uI_off _ _ _ (by omega), uI_off _ _ _ (by omega)]; exact d5 c hc
  · rw [uI_off _ _ _ (by omega)]; exact d6 i hi
theorem VD.push {I J L1 L2 L : Nat → Int → Int} {v : Nat} {p m : Int} {C : tCL} {z : List Int} (hD : VD I v C) (hC : C.length < 10) (hk : vH I J v p (cSs C ++ z.map cSt)) (hl : (cSs C ++ z.map cSt).length ≤ 100) (e1 : L1 = uI J (v + 1) (C.length : Int) (cAm m)) (e2 : L2 = uI L1 (v + 2) (C.length : Int) ((cSs C ++ z.map cSt).length : Int)) (e3 : L = uI L2 v 3 ((C.length : Int) + 1)) (hz : ∀ x ∈ z, -3 ≤ x) (hm : m ≤ -10) : VD L v (C ++ [(z, m)]) := by
  obtain ⟨d1, d2, d3, d4, d5, d6, d7⟩ := hD
  obtain ⟨h1, h2, h3, h4, h5⟩ := hk
  have ecs : cSs (C ++ [(z, m)]) = cSs C ++ z.map cSt := by rw [cSs_app, cSs_one]
  subst e3; subst e2; subst e1
  refine ⟨by rw [uI_at, if_pos rfl, List.length_append]; rfl, by rw [List.length_append, List.length_singleton]; omega, ?_, by rw [ecs]; exact hl, fun c hc => ?_, fun i hi => ?_, fun c hc => ?_⟩
  · rw [ecs, uI_at, if_neg (by decide), uI_off _ _ _ (by omega), uI_off _ _ _ (by omega)]; exact h2
  · rw [List.length_append, List.length_singleton] at hc
    rw [uI_off _ _ _ (show v + 1 ≠ v by omega), uI_off _ _ _ (show v + 1 ≠ v + 2 by omega), uI_at, uI_off _ _ _ (show v + 2 ≠ v by omega), uI_at]
    by_cases g : c = C.length
    · subst g
      rw [if_pos rfl, if_pos rfl, List.take_of_length_le (by rw [List.length_append, List.length_singleton]; omega), ecs]
      refine ⟨?_, rfl⟩
      rw [List.getD_eq_getElem?_getD, List.getElem?_append_right (by omega)]
      simp
    · rw [if_neg (by omega), if_neg (by omega), uI_off _ _ _ (by omega), h4 (v + 1) (by omega) (by omega), h4 (v + 2) (by omega) (by omega), List.take_append_of_le_length (by omega), List.getD_eq_getElem?_getD, List.getElem?_append_left (by omega), ← List.getD_eq_getElem?_getD]
      exact d5 c (by omega)
  · rw [ecs] at hi ⊢
    rw [uI_off _ _ _ (by omega), uI_off _ _ _ (by omega), uI_off _ _ _ (by omega)]
    exact h3 i hi
  · rcases List.mem_append.mp hc with q | q
    · exact d7 c q
    · rw [List.mem_singleton] at q
      subst q
      exact ⟨hz, hm⟩
theorem cSs_cFl : ∀ C : tCL, (cSs C).length ≤ (cFl C).length
  | [] => Nat.le_refl _
  | c :: C => by
    have := cSs_cFl C
    show (c.1.map cSt ++ cSs C).length ≤ ((c.1 ++ [c.2]) ++ cFl C).length
    rw [List.length_append, List.length_append, List.length_append, List.length_map, List.length_singleton]
    omega
section CR3
variable {l : Launch} {G : tG} {K : Nat → Nat × Nat} {I J : Nat → Int → Int} {Q : Nat → Int → Option Nat} {n : Nat} {s : Int → Int} {v : Nat} {a e p : Int} {r : List Int} {C : tCL}
/-- an amount, from its number on -/
def pAmt (t : Int → Int) (e x : Int) (q : tP) : tP := pEmit (x - (pFig t e q).1) (pSo t e (pFac t e 6) (pMust t e 32 (pFig t e q).2))
theorem c_V_readAmount {sg x : Int} (hx : (sg = 1 ∧ x = -10) ∨ (sg = -1 ∧ x = -200)) (hS : tSt (K, I, Q, n)) (hv : VS K Q n v) (hT : vT I s v e) (hB : pB s a e) (hD : VD I v C) (hC : C.length < 10) (hk : vH I J v p (cSs C)) (z : pZ e (p, false, r)) (ol : ((cSs C).length : Int) ≤ p) : tw_M l G 31 0 0 mV_readAmount [vr (some v), vi sg] (K, J, Q, n) (fun y h' => y = some (vi (if (pAmt (tpe s) e x (p, false, r)).2.1 = true then 0 else 1)) ∧ ∃ L, h' = (K, L, Q, n) ∧ vF I L v ∧ L v 10 = (pAmt (tpe s) e x (p, false, r)).1 ∧ ((pAmt (tpe s) e x (p, false, r)).2.1 = false → L v 0 = I v 0 ∧ ∃ c, (pAmt (tpe s) e x (p, false, r)).2.2 = r ++ cFl [c] ∧ VD L v (C ++ [c]))) := by
  obtain ⟨z1, z2, z3⟩ := id z
  simp only at z1 z2 z3
  have hw := pHere_w hB z1
  have he := hB.2.1
  have hv1 := hv.1
  obtain ⟨⟨fx, fp, fw, fr⟩, hF⟩ : ∃ F, F = pFig (tpe s) e (p, false, r) := ⟨_, rfl⟩
  have hb := pFig_bd (q := (p, false, r)) hB ⟨z1, z2⟩
  rw [← hF] at hb
  obtain ⟨b1, b2, b3, b4, b5⟩ := hb
  simp only at b1 b2 b3 b4 b5
  subst b3
  unfold pAmt
  rw [← hF]
  dsimp only
  obtain ⟨⟨xp, xw, xr⟩, hX⟩ : ∃ X, X = pSo (tpe s) e (pFac (tpe s) e 6) (fp + 1, false, fr) := ⟨_, rfl⟩
  refine tw_intro okV_readAmount (Nat.le_of_ble_eq_true rfl) ?_
  refine ar_aloadn (k := 0) rfl rfl ?_
  refine ar_callV (k := 1) (as := []) rfl lvV_91 hv.k0 rfl (c_V_readNumber (r := fr) hS hv hT hB hk (by omega)) rfl (by decide) (by decide) tw_m0 (Nat.le_of_ble_eq_true rfl) (fun r1 h1 p1 => ?_)
  rw [← hF] at p1
  obtain ⟨rfl, L1, rfl, hk1, hn1⟩ := p1
  simp only at hk1 hn1
  cases fw
  · refine tw_top (y := 1) rfl ?_
    have b6 := b5 rfl
    refine ar_if_ne (k := 2) rfl (by omega) (fun c2 => ?_) (fun c2 => ?_)
    · refine ar_iloadn (k := 5) rfl rfl ?_
      refine ar_aloadn (k := 6) rfl rfl ?_
      refine br_getIz (k := 7) (z := 11) rfl hv.k0 flV_47_9 (by decide) rfl rfl ?_
      refine tw_top (y := fx) (by exact hn1 rfl) ?_
      refine ar_imul (k := 8) rfl ?_
      refine tw_top (y := cAm (x - fx)) (by unfold cAm; rcases hx with ⟨h1, h2⟩ | ⟨h1, h2⟩ <;> rw [h1, h2] <;> split <;> omega) ?_
      refine ar_istoren (k := 9) (l2 := [(2, _), (0, _), (1, _)]) rfl (by decide) rfl ?_
      refine ar_aloadn (k := 10) rfl rfl ?_
      refine ar_bipush (k := 11) rfl (by decide) ?_
      refine ar_callV (k := 12) (as := [_]) rfl lvV_66 hv.k0 rfl (c_V_take (p := fp) hS hv hT hB hk1 (by omega) (by omega)) rfl (by decide) (by decide) tw_m0 (Nat.le_of_ble_eq_true rfl) (fun r12 h12 p12 => ?_)
      obtain ⟨rfl, L12, rfl, hk12⟩ := p12
      by_cases g : pHere (tpe s) e fp = 32
      · refine tw_top (y := 1) (by rw [if_pos g]) ?_
        rw [if_pos g] at hk12
        have hwf := pHere_w (p := fp) hB (by omega)
        refine ar_if_eq (k := 13) rfl (by omega) (fun c13 => ?_) (fun c13 => ?_)
        · exfalso; omega
        · refine ar_aloadn (k := 14) rfl rfl ?_
          refine ar_iconst (k := 15) rfl ?_
          refine ar_iconst (k := 16) rfl ?_
          refine ar_callV (k := 17) (as := [_, _]) rfl lvV_97 hv.k0 rfl (c_V_all hS hv hT hB (fp + 1) (cSs C) fr _ hk12 (by exact ⟨by show 0 ≤ fp + 1; omega, by show fp + 1 ≤ e; omega, by show (fr.length : Int) ≤ fp + 1; omega⟩) (by omega)) rfl (by decide) (by decide) tw_m0 (Nat.le_of_ble_eq_true rfl) (fun r17 h17 p17 => ?_)
          rw [← hX] at p17
          obtain ⟨rfl, L17, o1, rfl, hk17, hz17⟩ := p17
          have ok := pSo_ok hB (fun q z => pFac_ok hB 6 q z) (q := (fp + 1, false, fr)) (by exact ⟨by show 0 ≤ fp + 1; omega, by show fp + 1 ≤ e; omega, by show (fr.length : Int) ≤ fp + 1; omega⟩)
          rw [← hX] at ok
          have ok1 := ok.1
          have ok2 := ok.2.1
          have ok3 := ok.2.2
          simp only at ok1 ok2 ok3 hk17 hz17
          have cc17 : L17 v 3 = (C.length : Int) := (hk17.2.2.2.2 3 (by decide) (by decide) (by decide)).trans hD.1
          cases xw
          · refine tw_top (y := 1) rfl ?_
            obtain ⟨zz, y1, y2, y3⟩ := hz17 rfl
            have hl1 : (o1.length : Int) ≤ 100 := by
              rw [y1, List.length_append] at ok3
              rw [y2, List.length_append, List.length_map]
              omega
            refine ar_if_eq (k := 18) rfl (by omega) (fun c18 => ?_) (fun c18 => ?_)
            · exfalso; omega
            · refine ar_aloadn (k := 19) rfl rfl ?_
              refine br_getIz (k := 20) (z := 3) rfl hv.k0 flV_22_9 (by decide) rfl rfl ?_
              refine tw_top (y := (C.length : Int)) (by exact cc17) ?_
              refine ar_bipush (k := 21) rfl (by decide) ?_
              refine ar_icmp_lt (k := 22) rfl (by omega) (by omega) (fun c22 => ?_) (fun c22 => ?_)
              · refine ar_aloadn (k := 25) rfl rfl ?_
                refine br_getR (k := 26) rfl hv.k0 flV_15_9 (by decide) rfl hv.q1 ?_
                refine ar_aloadn (k := 27) rfl rfl ?_
                refine br_getIz (k := 28) (z := 3) rfl hv.k0 flV_22_9 (by decide) rfl rfl ?_
                refine tw_top (y := (C.length : Int)) (by exact cc17) ?_
                refine ar_iloadn (k := 29) rfl rfl ?_
                refine br_iastJ (k := 30) rfl hv.k1 (by omega) (by omega) (by decide) (fun I30 e30 => ?_)
                skip
                refine ar_aloadn (k := 31) rfl rfl ?_
                refine br_getR (k := 32) rfl hv.k0 flV_19_9 (by decide) rfl hv.q2 ?_
                refine ar_aloadn (k := 33) rfl rfl ?_
                refine br_getIz (k := 34) (z := 3) rfl hv.k0 flV_22_9 (by decide) rfl rfl ?_
                refine tw_top (y := (C.length : Int)) (by rw [e30, uI_off _ _ _ (by omega)]; exact cc17) ?_
                refine ar_aloadn (k := 35) rfl rfl ?_
                refine br_getIz (k := 36) (z := 5) rfl hv.k0 flV_28_9 (by decide) rfl rfl ?_
                refine tw_top (y := (o1.length : Int)) (by rw [e30, uI_off _ _ _ (by omega)]; exact hk17.2.1) ?_
                refine br_iastJ (k := 37) rfl hv.k2 (by omega) (by omega) (by decide) (fun I37 e37 => ?_)
                skip
                refine ar_aloadn (k := 38) rfl rfl ?_
                refine ar_dup (k := 39) rfl rfl ?_
                refine br_getIz (k := 40) (z := 3) rfl hv.k0 flV_22_9 (by decide) rfl rfl ?_
                refine tw_top (y := (C.length : Int)) (by rw [e37, uI_off _ _ _ (by omega), e30, uI_off _ _ _ (by omega)]; exact cc17) ?_
                refine ar_iconst (k := 41) rfl ?_
                refine ar_iadd (k := 42) rfl ?_
                refine br_putIJ (k := 43) rfl hv.k0 flV_22_9 (by decide) rfl (fun _ _ _ q => by cases q; exact ⟨rfl, rfl⟩) (fun I43 e43 => ?_)
                change _ = uI _ _ 3 _ at e43
                skip
                refine ar_iconst (k := 44) rfl ?_
                refine ar_zret (k := 45) rfl rfl (by omega) rfl (Nat.le_refl _) ?_
                rw [pMust_f, if_pos g, ← hX, pEmit_f]
                subst y1; subst y2
                have fr := hk17.fr
                refine ⟨rfl, I43, rfl, ⟨fun b c1 c2 c3 c4 => by rw [e43, uI_off _ _ _ c1, e37, uI_off _ _ _ c3, e30, uI_off _ _ _ c2]; exact fr.1 b c1 c2 c3 c4, by rw [e43, uI_at, if_neg (by decide), e37, uI_off _ _ _ (by omega), e30, uI_off _ _ _ (by omega)]; exact fr.2⟩, by rw [e43, uI_at, if_neg (by decide), e37, uI_off _ _ _ (by omega), e30, uI_off _ _ _ (by omega)]; exact hk17.1, fun _ => ⟨?_, (zz, x - fx), by rw [cFl_one, List.append_assoc], ?_⟩⟩
                · rw [e43, uI_at, if_neg (by decide), e37, uI_off _ _ _ (by omega), e30, uI_off _ _ _ (by omega)]; exact hk17.2.2.2.2 0 (by decide) (by decide) (by decide)
                · exact VD.push hD hC hk17 (by omega) e30 e37 e43 y3 (by omega)
              · exfalso; omega
          · refine tw_top (y := 0) rfl ?_
            refine ar_if_eq (k := 18) rfl (by omega) (fun c18 => ?_) (fun c18 => ?_)
            · refine ar_iconst (k := 23) rfl ?_
              refine ar_zret (k := 24) rfl rfl (by omega) rfl (Nat.le_refl _) ?_
              rw [pMust_f, if_pos g, ← hX, pEmit_t]
              exact ⟨rfl, L17, rfl, hk17.fr, hk17.1, fun q => by cases q⟩
            · exfalso; omega
      · refine tw_top (y := 0) (by rw [if_neg g]) ?_
        refine ar_if_eq (k := 13) rfl (by omega) (fun c13 => ?_) (fun c13 => ?_)
        · refine ar_iconst (k := 23) rfl ?_
          refine ar_zret (k := 24) rfl rfl (by omega) rfl (Nat.le_refl _) ?_
          rw [pMust_f, if_neg g, pSo_w rfl, pEmit_t]
          rw [if_neg g] at hk12
          exact ⟨rfl, L12, rfl, hk12.fr, hk12.1, fun q => by cases q⟩
        · exfalso; omega
    · exfalso; omega
  · refine tw_top (y := 0) rfl ?_
    refine ar_if_ne (k := 2) rfl (by omega) (fun c2 => ?_) (fun c2 => ?_)
    · exfalso; omega
    · refine ar_iconst (k := 3) rfl ?_
      refine ar_zret (k := 4) rfl rfl (by omega) rfl (Nat.le_refl _) ?_
      rw [pMust_t, pSo_w rfl, pEmit_t]
      exact ⟨rfl, L1, rfl, hk1.fr, hk1.1, fun q => by cases q⟩
theorem c_V_readBell (hS : tSt (K, I, Q, n)) (hv : VS K Q n v) (hT : vT I s v e) (hB : pB s a e) (hD : VD I v C) (hk : vH I J v p (cSs C)) (z : pZ e (p, false, r)) : tw_M l G 7 0 0 mV_readBell [vr (some v)] (K, J, Q, n) (fun y h' => y = some (vi (if (pFig (tpe s) e (p, false, r)).2.2.1 = true then 0 else 1)) ∧ ∃ L, h' = (K, L, Q, n) ∧ vF I L v ∧ L v 10 = (pFig (tpe s) e (p, false, r)).2.1 ∧ ((pFig (tpe s) e (p, false, r)).2.2.1 = false → L v 0 = bl (pFig (tpe s) e (p, false, r)).1 ∧ VD L v C)) := by
  obtain ⟨z1, z2, z3⟩ := id z
  simp only at z1 z2 z3
  have hw := pHere_w hB z1
  have he := hB.2.1
  have hv1 := hv.1
  obtain ⟨⟨fx, fp, fw, fr⟩, hF⟩ : ∃ F, F = pFig (tpe s) e (p, false, r) := ⟨_, rfl⟩
  have hb := pFig_bd (q := (p, false, r)) hB ⟨z1, z2⟩
  rw [← hF] at hb ⊢
  obtain ⟨b1, b2, b3, b4, b5⟩ := hb
  simp only at b1 b2 b3 b4 b5
  refine tw_intro okV_readBell (Nat.le_of_ble_eq_true rfl) ?_
  refine ar_aloadn (k := 0) rfl rfl ?_
  refine ar_callV (k := 1) (as := []) rfl lvV_91 hv.k0 rfl (c_V_readNumber (r := r) hS hv hT hB hk (by omega)) rfl (by decide) (by decide) tw_m0 (Nat.le_of_ble_eq_true rfl) (fun r1 h1 p1 => ?_)
  rw [← hF] at p1
  obtain ⟨rfl, L1, rfl, hk1, hn1⟩ := p1
  simp only at hk1 hn1
  cases fw
  · refine tw_top (y := 1) rfl ?_
    refine ar_if_ne (k := 2) rfl (by omega) (fun c2 => ?_) (fun c2 => ?_)
    · refine ar_aloadn (k := 5) rfl rfl ?_
      refine ar_aloadn (k := 6) rfl rfl ?_
      refine br_getIz (k := 7) (z := 11) rfl hv.k0 flV_47_9 (by decide) rfl rfl ?_
      refine tw_top (y := fx) (by exact hn1 rfl) ?_
      refine ar_iconst (k := 8) rfl ?_
      refine ar_callS (k := 9) (as := [_, _]) rfl lsV_94 (c_J9_max (by omega) (by omega)) rfl (by decide) (by decide) tw_m0 (Nat.le_of_ble_eq_true rfl) (fun r9 h9 p9 => ?_)
      obtain ⟨rfl, rfl⟩ := p9
      refine tw_top (y := bl fx) (by unfold bl; split <;> omega) ?_
      refine br_putIJ (k := 10) rfl hv.k0 flV_11_9 (by decide) rfl (fun _ _ _ q => by cases q; exact ⟨rfl, rfl⟩) (fun I10 e10 => ?_)
      change _ = uI _ _ 0 _ at e10
      skip
      refine ar_iconst (k := 11) rfl ?_
      refine ar_zret (k := 12) rfl rfl (by omega) rfl (Nat.le_refl _) ?_
      have fr := hk1.fr
      exact ⟨rfl, I10, rfl, ⟨fun b c1 c2 c3 c4 => by rw [e10, uI_off _ _ _ c1]; exact fr.1 b c1 c2 c3 c4, by rw [e10, uI_at, if_neg (by decide)]; exact fr.2⟩, by rw [e10, uI_at, if_neg (by decide)]; exact hk1.1, fun _ => ⟨by rw [e10, uI_at, if_pos rfl], (hD.vh hk1).bl e10⟩⟩
    · exfalso; omega
  · refine tw_top (y := 0) rfl ?_
    refine ar_if_ne (k := 2) rfl (by omega) (fun c2 => ?_) (fun c2 => ?_)
    · exfalso; omega
    · refine ar_iconst (k := 3) rfl ?_
      refine ar_zret (k := 4) rfl rfl (by omega) rfl (Nat.le_refl _) ?_
      exact ⟨rfl, L1, rfl, hk1.fr, hk1.1, fun q => by cases q⟩
end CR3
