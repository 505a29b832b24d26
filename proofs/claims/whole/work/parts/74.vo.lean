theorem pMust_t {t : Int → Int} {e c p : Int} {r : List Int} : pMust t e c (p, true, r) = (p, true, r) := by
  unfold pMust
  rw [if_pos (Or.inl rfl)]
theorem pFac_n {t : Int → Int} {e p : Int} {k : Nat} {r : List Int} (h : pHere t e p = 33) (hk : k ≠ 0) : pFac t e (k + 1) (p, false, r) = pEmit (-1) (pFac t e k (p + 1, false, r)) := by
  rw [pFac_s, if_neg (show ¬ false = true by decide), if_pos h, if_neg hk]
theorem pFac_o {t : Int → Int} {e p : Int} {k : Nat} {r : List Int} (h : pHere t e p = 40) (hk : k ≠ 0) : pFac t e (k + 1) (p, false, r) = pMust t e 41 (pSo t e (pFac t e k) (p + 1, false, r)) := by
  rw [pFac_s, if_neg (show ¬ false = true by decide), if_neg (by show ¬ pHere t e p = 33; omega), if_pos h, if_neg hk]
theorem pFac_ts {t : Int → Int} {e p : Int} {k : Nat} {r : List Int} (h : pHere t e p ≠ 33) (h2 : pHere t e p ≠ 40) : pFac t e (k + 1) (p, false, r) = pTst t e (p, false, r) := by
  rw [pFac_s, if_neg (show ¬ false = true by decide), if_neg h, if_neg h2]
theorem pFac_1 {t : Int → Int} {e p : Int} {r : List Int} (h : pHere t e p = 33 ∨ pHere t e p = 40) : pFac t e (0 + 1) (p, false, r) = (p, true, r) := by
  rw [pFac_s, if_neg (show ¬ false = true by decide)]
  rcases h with h | h
  · rw [if_pos h, if_pos rfl]; rfl
  · rw [if_neg (by show ¬ pHere t e p = 33; omega), if_pos h, if_pos rfl, pSo_w rfl]; exact pMust_t
section CR2
variable {l : Launch} {G : tG} {K : Nat → Nat × Nat} {I J : Nat → Int → Int} {Q : Nat → Int → Option Nat} {n : Nat} {s : Int → Int} {v : Nat} {a e p : Int} {o r : List Int}
theorem c_V_opened0 {d : Nat} (hS : tSt (K, I, Q, n)) (hv : VS K Q n v) (hT : vT I s v e) (hB : pB s a e) (hk : vH I J v p o) (z : pZ e (p, false, r)) (ol : (o.length : Int) ≤ p) (hh : pHere (tpe s) e p = 33 ∨ pHere (tpe s) e p = 40) : tw_M l G d 0 0 mV_readOpened [vr (some v), vi 6] (K, J, Q, n) (vP K I Q n v o r (pFac (tpe s) e (0 + 1) (p, false, r))) := by
  rw [pFac_1 hh]
  refine tw_intro okV_readOpened (Nat.le_of_ble_eq_true rfl) ?_
  refine ar_iloadn (k := 0) rfl rfl ?_
  refine ar_iconst (k := 1) rfl ?_
  refine ar_icmp_le (k := 2) rfl (by omega) (by omega) (fun c2 => ?_) (fun c2 => ?_)
  · exfalso; omega
  · refine ar_iconst (k := 3) rfl ?_
    refine ar_zret (k := 4) rfl rfl (by omega) rfl (Nat.le_refl _) ?_
    exact ⟨rfl, J, o, rfl, hk, fun q => by cases q⟩
theorem c_V_so {k : Nat} (hS : tSt (K, I, Q, n)) (hv : VS K Q n v) (hT : vT I s v e) (hB : pB s a e) (k6 : k ≤ 6) (hA : hPa l G K I Q n v e (4 * k + 4) 2 (6 - (k : Int)) (pFac (tpe s) e k)) : hPa l G K I Q n v e (4 * k + 6) 0 (6 - (k : Int)) (pSo (tpe s) e (pFac (tpe s) e k)) :=
  c_V_part0 (d := 4 * k + 5) (sub := pEv (tpe s) e (pFac (tpe s) e k)) hS hv hT hB (c_V_part1 (d := 4 * k + 4) (sub := pFac (tpe s) e k) hS hv hT hB hA (fun q z => pFac_ok hB k q z) (by omega) (by omega)) (fun q z => pEv_ok hB (fun q z => pFac_ok hB k q z) z) (by omega) (by omega)
theorem c_V_openedk {k : Nat} (k0 : k ≠ 0) (k5 : k < 6) (hA : hPa l G K I Q n v e (4 * k + 4) 2 (6 - (k : Int)) (pFac (tpe s) e k)) (hS : tSt (K, I, Q, n)) (hv : VS K Q n v) (hT : vT I s v e) (hB : pB s a e) (hk : vH I J v p o) (z : pZ e (p, false, r)) (ol : (o.length : Int) ≤ p) (hh : pHere (tpe s) e p = 33 ∨ pHere (tpe s) e p = 40) : tw_M l G (4 * k + 7) 0 0 mV_readOpened [vr (some v), vi (6 - (k : Int))] (K, J, Q, n) (vP K I Q n v o r (pFac (tpe s) e (k + 1) (p, false, r))) := by
  obtain ⟨z1, z2, z3⟩ := id z
  simp only at z1 z2 z3
  have hw := pHere_w hB z1
  have he := hB.2.1
  have hv1 := hv.1
  have hC := c_V_so hS hv hT hB (by omega) hA
  refine tw_intro okV_readOpened (Nat.le_of_ble_eq_true rfl) ?_
  refine ar_iloadn (k := 0) rfl rfl ?_
  refine ar_iconst (k := 1) rfl ?_
  refine ar_icmp_le (k := 2) rfl (by omega) (by omega) (fun c2 => ?_) (fun c2 => ?_)
  · refine ar_aloadn (k := 5) rfl rfl ?_
    refine ar_bipush (k := 6) rfl (by decide) ?_
    refine ar_callV (k := 7) (as := [_]) rfl lvV_66 hv.k0 rfl (c_V_take (p := p) hS hv hT hB hk (by omega) (by omega)) rfl (by omega) (by decide) tw_m0 (Nat.le_of_ble_eq_true rfl) (fun r7 h7 p7 => ?_)
    obtain ⟨rfl, L7, rfl, hk7⟩ := p7
    by_cases g : pHere (tpe s) e p = 40
    · refine tw_top (y := 1) (by rw [if_pos g]) ?_
      obtain ⟨⟨xp, xw, xr⟩, hX⟩ : ∃ X, X = pSo (tpe s) e (pFac (tpe s) e k) (p + 1, false, r) := ⟨_, rfl⟩
      refine ar_if_eq (k := 8) rfl (by omega) (fun c8 => ?_) (fun c8 => ?_)
      · exfalso; omega
      · rw [if_pos g] at hk7
        refine ar_aloadn (k := 9) rfl rfl ?_
        refine ar_iconst (k := 10) rfl ?_
        refine ar_iloadn (k := 11) rfl rfl ?_
        refine ar_callV (k := 12) (as := [_, _]) rfl lvV_97 hv.k0 rfl (hC (p + 1) o r _ hk7 (by exact ⟨by show 0 ≤ p + 1; omega, by show p + 1 ≤ e; omega, by show (r.length : Int) ≤ p + 1; omega⟩) (by omega)) rfl (by omega) (by decide) tw_m0 (Nat.le_of_ble_eq_true rfl) (fun r12 h12 p12 => ?_)
        rw [← hX] at p12
        obtain ⟨rfl, L12, o1, rfl, hk12, hz12⟩ := p12
        have ok := pSo_ok hB (fun q z => pFac_ok hB k q z) (q := (p + 1, false, r)) (by exact ⟨by show 0 ≤ p + 1; omega, by show p + 1 ≤ e; omega, by show (r.length : Int) ≤ p + 1; omega⟩)
        rw [← hX] at ok
        have ok1 := ok.1
        have ok2 := ok.2.1
        have ok3 := ok.2.2
        simp only at ok1 ok2 ok3 hk12 hz12
        cases xw
        · refine tw_top (y := 1) rfl ?_
          refine ar_if_eq (k := 13) rfl (by omega) (fun c13 => ?_) (fun c13 => ?_)
          · exfalso; omega
          · refine ar_aloadn (k := 14) rfl rfl ?_
            refine ar_bipush (k := 15) rfl (by decide) ?_
            refine ar_callV (k := 16) (as := [_]) rfl lvV_66 hv.k0 rfl (c_V_take (p := xp) hS hv hT hB hk12 (by omega) (by omega)) rfl (by omega) (by decide) tw_m0 (Nat.le_of_ble_eq_true rfl) (fun r16 h16 p16 => ?_)
            obtain ⟨rfl, L16, rfl, hk16⟩ := p16
            by_cases g41 : pHere (tpe s) e xp = 41
            · refine tw_top (y := 1) (by rw [if_pos g41]) ?_
              refine ar_if_eq (k := 17) rfl (by omega) (fun c17 => ?_) (fun c17 => ?_)
              · exfalso; omega
              · refine ar_iconst (k := 18) rfl ?_
                refine ar_goto (k := 19) rfl ?_
                refine ar_zret (k := 21) rfl rfl (by omega) rfl (Nat.le_refl _) ?_
                rw [pFac_o g (by omega), ← hX, pMust_f, if_pos g41]
                rw [if_pos g41] at hk16
                exact ⟨rfl, L16, o1, rfl, hk16, hz12⟩
            · refine tw_top (y := 0) (by rw [if_neg g41]) ?_
              refine ar_if_eq (k := 17) rfl (by omega) (fun c17 => ?_) (fun c17 => ?_)
              · refine ar_iconst (k := 20) rfl ?_
                refine ar_zret (k := 21) rfl rfl (by omega) rfl (Nat.le_refl _) ?_
                rw [pFac_o g (by omega), ← hX, pMust_f, if_neg g41]
                rw [if_neg g41] at hk16
                exact ⟨rfl, L16, o1, rfl, hk16, fun q => by cases q⟩
              · exfalso; omega
        · refine tw_top (y := 0) rfl ?_
          refine ar_if_eq (k := 13) rfl (by omega) (fun c13 => ?_) (fun c13 => ?_)
          · refine ar_iconst (k := 20) rfl ?_
            refine ar_zret (k := 21) rfl rfl (by omega) rfl (Nat.le_refl _) ?_
            rw [pFac_o g (by omega), ← hX, pMust_t]
            exact ⟨rfl, L12, o1, rfl, hk12, fun q => by cases q⟩
          · exfalso; omega
    · refine tw_top (y := 0) (by rw [if_neg g]) ?_
      obtain ⟨⟨xp, xw, xr⟩, hX⟩ : ∃ X, X = pFac (tpe s) e k (p + 1, false, r) := ⟨_, rfl⟩
      refine ar_if_eq (k := 8) rfl (by omega) (fun c8 => ?_) (fun c8 => ?_)
      · rw [if_neg g] at hk7
        refine ar_aloadn (k := 22) rfl rfl ?_
        refine ar_bipush (k := 23) rfl (by decide) ?_
        refine ar_callV (k := 24) (as := [_]) rfl lvV_66 hv.k0 rfl (c_V_take (p := p) hS hv hT hB hk7 (by omega) (by omega)) rfl (by omega) (by decide) tw_m0 (Nat.le_of_ble_eq_true rfl) (fun r24 h24 p24 => ?_)
        obtain ⟨rfl, L24, rfl, hk24⟩ := p24
        refine tw_top (y := 1) (by rw [if_pos (by omega)]) ?_
        rw [if_pos (by omega)] at hk24
        refine ar_if_eq (k := 25) rfl (by omega) (fun c25 => ?_) (fun c25 => ?_)
        · exfalso; omega
        · refine ar_aloadn (k := 26) rfl rfl ?_
          refine ar_iconst (k := 27) rfl ?_
          refine ar_iloadn (k := 28) rfl rfl ?_
          refine ar_callV (k := 29) (as := [_, _]) rfl lvV_97 hv.k0 rfl (hA (p + 1) o r _ hk24 (by exact ⟨by show 0 ≤ p + 1; omega, by show p + 1 ≤ e; omega, by show (r.length : Int) ≤ p + 1; omega⟩) (by omega)) rfl (by omega) (by decide) tw_m0 (Nat.le_of_ble_eq_true rfl) (fun r29 h29 p29 => ?_)
          rw [← hX] at p29
          obtain ⟨rfl, L29, o1, rfl, hk29, hz29⟩ := p29
          have ok := pFac_ok hB k (p + 1, false, r) (by exact ⟨by show 0 ≤ p + 1; omega, by show p + 1 ≤ e; omega, by show (r.length : Int) ≤ p + 1; omega⟩)
          rw [← hX] at ok
          have ok1 := ok.1
          have ok2 := ok.2.1
          have ok3 := ok.2.2
          simp only at ok1 ok2 ok3 hk29 hz29
          cases xw
          · refine tw_top (y := 1) rfl ?_
            refine ar_if_ne (k := 30) rfl (by omega) (fun c30 => ?_) (fun c30 => ?_)
            · have hl1 : (o1.length : Int) + 1 ≤ xp := by
                obtain ⟨y, y1, y2, y3⟩ := hz29 rfl
                rw [y1, List.length_append] at ok3
                rw [y2, List.length_append, List.length_map]
                omega
              refine ar_aloadn (k := 33) rfl rfl ?_
              refine ar_bipush (k := 34) rfl (by decide) ?_
              refine ar_callV (k := 35) (as := [_]) rfl lvV_107 hv.k0 rfl (c_V_addStep hv hk29 (by omega)) rfl (by omega) (by decide) tw_m0 (Nat.le_of_ble_eq_true rfl) (fun r35 h35 p35 => ?_)
              obtain ⟨rfl, L35, rfl, hk35⟩ := p35
              refine ar_iconst (k := 36) rfl ?_
              refine ar_zret (k := 37) rfl rfl (by omega) rfl (Nat.le_refl _) ?_
              rw [pFac_n (by omega) (by omega), ← hX, pEmit_f]
              exact ⟨rfl, L35, _, rfl, hk35, fun _ => vZ.em (hz29 rfl) rfl (by decide)⟩
            · exfalso; omega
          · refine tw_top (y := 0) rfl ?_
            refine ar_if_ne (k := 30) rfl (by omega) (fun c30 => ?_) (fun c30 => ?_)
            · exfalso; omega
            · refine ar_iconst (k := 31) rfl ?_
              refine ar_zret (k := 32) rfl rfl (by omega) rfl (Nat.le_refl _) ?_
              rw [pFac_n (by omega) (by omega), ← hX, pEmit_t]
              exact ⟨rfl, L29, o1, rfl, hk29, fun q => by cases q⟩
      · exfalso; omega
  · exfalso; omega
theorem c_V_fac2 {k : Nat} (k5 : k < 6) (hS : tSt (K, I, Q, n)) (hv : VS K Q n v) (hT : vT I s v e) (hB : pB s a e) (hO : ∀ (p : Int) (o r : List Int) (J : Nat → Int → Int), vH I J v p o → pZ e (p, false, r) → (o.length : Int) ≤ p → (pHere (tpe s) e p = 33 ∨ pHere (tpe s) e p = 40) → tw_M l G (4 * k + 7) 0 0 mV_readOpened [vr (some v), vi (6 - (k : Int))] (K, J, Q, n) (vP K I Q n v o r (pFac (tpe s) e (k + 1) (p, false, r)))) : hPa l G K I Q n v e (4 * k + 8) 2 (5 - (k : Int)) (pFac (tpe s) e (k + 1)) := by
  intro p o r J hk z ol
  obtain ⟨z1, z2, z3⟩ := id z
  simp only at z1 z2 z3
  have hw := pHere_w hB z1
  have he := hB.2.1
  have hv1 := hv.1
  obtain ⟨⟨xp, xw, xr⟩, hX⟩ : ∃ X, X = pFac (tpe s) e (k + 1) (p, false, r) := ⟨_, rfl⟩
  refine tw_intro okV_readPart (Nat.le_of_ble_eq_true rfl) ?_
  obtain ⟨N, hN⟩ : ∃ N, N = if p < e then tpe s p else 0 := ⟨_, rfl⟩
  have hN2 : (p < e ∧ N = pHere (tpe s) e p ∧ 0 ≤ N ∧ N ≤ 127) ∨ (¬ p < e ∧ N = 0) := by
    by_cases g : p < e
    · rw [if_pos g] at hN; omega
    · rw [if_neg g] at hN; omega
  refine ar_iloadn (k := 0) rfl rfl ?_
  refine ar_iconst (k := 1) rfl ?_
  refine ar_icmp_lt (k := 2) rfl (by omega) (by omega) (fun c2 => ?_) (fun c2 => ?_)
  · exfalso; omega
  · refine ar_aloadn (k := 3) rfl rfl ?_
    refine ar_callV (k := 4) (as := []) rfl lvV_70 hv.k0 rfl (c_V_next hS hv hT hB hk (by omega)) rfl (by omega) (by decide) tw_m0 (Nat.le_of_ble_eq_true rfl) (fun r4 h4 p4 => ?_)
    obtain ⟨rfl, rfl⟩ := p4
    refine tw_top (y := N) hN.symm ?_
    refine ar_bipush (k := 5) rfl (by decide) ?_
    refine ar_icmp_eq (k := 6) rfl (by omega) (by omega) (fun c6 => ?_) (fun c6 => ?_)
    · refine ar_aloadn (k := 11) rfl rfl ?_
      refine ar_iloadn (k := 12) rfl rfl ?_
      refine ar_iconst (k := 13) rfl ?_
      refine ar_iadd (k := 14) rfl ?_
      refine tw_top (y := 6 - (k : Int)) (by omega) ?_
      refine ar_callV (k := 15) (as := [_]) rfl lvV_101 hv.k0 rfl (hO p o r J hk z ol (by omega)) rfl (by omega) (by decide) tw_m0 (Nat.le_of_ble_eq_true rfl) (fun r15 h15 p15 => ?_)
      rw [← hX] at p15 ⊢
      obtain ⟨rfl, L15, o1, rfl, hk15, hz15⟩ := p15
      simp only at hk15 hz15
      refine ar_goto (k := 16) rfl ?_
      cases xw
      · refine tw_top (y := 1) rfl ?_
        refine ar_zret (k := 19) rfl rfl (by omega) rfl (Nat.le_refl _) ?_
        exact ⟨rfl, L15, o1, rfl, hk15, hz15⟩
      · refine tw_top (y := 0) rfl ?_
        refine ar_zret (k := 19) rfl rfl (by omega) rfl (Nat.le_refl _) ?_
        exact ⟨rfl, L15, o1, rfl, hk15, hz15⟩
    · refine ar_aloadn (k := 7) rfl rfl ?_
      refine ar_callV (k := 8) (as := []) rfl lvV_70 hv.k0 rfl (c_V_next hS hv hT hB hk (by omega)) rfl (by omega) (by decide) tw_m0 (Nat.le_of_ble_eq_true rfl) (fun r8 h8 p8 => ?_)
      obtain ⟨rfl, rfl⟩ := p8
      refine tw_top (y := N) hN.symm ?_
      refine ar_bipush (k := 9) rfl (by decide) ?_
      refine ar_icmp_ne (k := 10) rfl (by omega) (by omega) (fun c10 => ?_) (fun c10 => ?_)
      · refine ar_aloadn (k := 17) rfl rfl ?_
        refine ar_callV (k := 18) (as := []) rfl lvV_104 hv.k0 rfl (c_V_readTest (r := r) hS hv hT hB hk z ol) rfl (by omega) (by decide) tw_m0 (Nat.le_of_ble_eq_true rfl) (fun r18 h18 p18 => ?_)
        rw [← pFac_ts (k := k) (by omega) (by omega), ← hX] at p18
        rw [← hX]
        obtain ⟨rfl, L18, o1, rfl, hk18, hz18⟩ := p18
        simp only at hk18 hz18
        cases xw
        · refine tw_top (y := 1) rfl ?_
          refine ar_zret (k := 19) rfl rfl (by omega) rfl (Nat.le_refl _) ?_
          exact ⟨rfl, L18, o1, rfl, hk18, hz18⟩
        · refine tw_top (y := 0) rfl ?_
          refine ar_zret (k := 19) rfl rfl (by omega) rfl (Nat.le_refl _) ?_
          exact ⟨rfl, L18, o1, rfl, hk18, hz18⟩
      · refine ar_aloadn (k := 11) rfl rfl ?_
        refine ar_iloadn (k := 12) rfl rfl ?_
        refine ar_iconst (k := 13) rfl ?_
        refine ar_iadd (k := 14) rfl ?_
        refine tw_top (y := 6 - (k : Int)) (by omega) ?_
        refine ar_callV (k := 15) (as := [_]) rfl lvV_101 hv.k0 rfl (hO p o r J hk z ol (by omega)) rfl (by omega) (by decide) tw_m0 (Nat.le_of_ble_eq_true rfl) (fun r15 h15 p15 => ?_)
        rw [← hX] at p15 ⊢
        obtain ⟨rfl, L15, o1, rfl, hk15, hz15⟩ := p15
        simp only at hk15 hz15
        refine ar_goto (k := 16) rfl ?_
        cases xw
        · refine tw_top (y := 1) rfl ?_
          refine ar_zret (k := 19) rfl rfl (by omega) rfl (Nat.le_refl _) ?_
          exact ⟨rfl, L15, o1, rfl, hk15, hz15⟩
        · refine tw_top (y := 0) rfl ?_
          refine ar_zret (k := 19) rfl rfl (by omega) rfl (Nat.le_refl _) ?_
          exact ⟨rfl, L15, o1, rfl, hk15, hz15⟩
theorem c_V_fac (hS : tSt (K, I, Q, n)) (hv : VS K Q n v) (hT : vT I s v e) (hB : pB s a e) : ∀ k : Nat, k < 6 → hPa l G K I Q n v e (4 * k + 8) 2 (5 - (k : Int)) (pFac (tpe s) e (k + 1))
  | 0, h => c_V_fac2 h hS hv hT hB (fun p o r J hk z ol hh => c_V_opened0 hS hv hT hB hk z ol hh)
  | k + 1, h => by
    have ih := c_V_fac hS hv hT hB k (by omega)
    rw [show 5 - (k : Int) = 6 - ((k + 1 : Nat) : Int) by omega, show 4 * k + 8 = 4 * (k + 1) + 4 by omega] at ih
    exact c_V_fac2 h hS hv hT hB (fun p o r J hk z ol hh => c_V_openedk (by omega) h ih hS hv hT hB hk z ol hh)
theorem c_V_all (hS : tSt (K, I, Q, n)) (hv : VS K Q n v) (hT : vT I s v e) (hB : pB s a e) : hPa l G K I Q n v e 30 0 0 (pSo (tpe s) e (pFac (tpe s) e 6)) := c_V_so (k := 6) hS hv hT hB (by decide) (c_V_fac hS hv hT hB 5 (by decide))
end CR2
