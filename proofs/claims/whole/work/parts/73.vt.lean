/-- the same, seen from further back -/
theorem cSt_t {w h x : Int} (h1 : 0 ≤ w ∧ w < 5) (h2 : 0 ≤ h ∧ h < 3) (h3 : 0 ≤ x ∧ x ≤ 99) : cSt (w + 8 * h + 32 * x) = (w * 3 + h) * 100 + x := by
  unfold cSt
  rw [if_pos (by omega), show (w + 8 * h + 32 * x) % 8 = w by omega, show (w + 8 * h + 32 * x) / 8 % 4 = h by omega, show (w + 8 * h + 32 * x) / 32 = x by omega]
/-- the two lists beside each other -/
def vZ (o r o1 r1 : List Int) : Prop := ∃ z, r1 = r ++ z ∧ o1 = o ++ z.map cSt ∧ ∀ x ∈ z, -3 ≤ x
theorem vZ.rf {o r : List Int} : vZ o r o r := ⟨[], by simp, by simp, by simp⟩
theorem vZ.tr {o r o1 r1 o2 r2 : List Int} (h : vZ o r o1 r1) (g : vZ o1 r1 o2 r2) : vZ o r o2 r2 := by
  obtain ⟨z, a1, a2, a3⟩ := h
  obtain ⟨y, b1, b2, b3⟩ := g
  refine ⟨z ++ y, by rw [b1, a1, List.append_assoc], by rw [b2, a2, List.map_append, List.append_assoc], fun x hx => ?_⟩
  rcases List.mem_append.mp hx with q | q
  · exact a3 x q
  · exact b3 x q
theorem vZ.em {o r o1 r1 : List Int} {x y : Int} (h : vZ o r o1 r1) (hx : cSt x = y) (h3 : -3 ≤ x) : vZ o r (o1 ++ [y]) (r1 ++ [x]) := h.tr ⟨[x], rfl, by rw [← hx]; rfl, fun w hw => by rw [List.mem_singleton] at hw; omega⟩
theorem vZ.ln {o r o1 r1 : List Int} {p e : Int} {w w1 : Bool} {p1 : Int} (h : vZ o r o1 r1) (g : pOK e (p, w, r) (p1, w1, r1)) (hl : (o.length : Int) ≤ p) : (o1.length : Int) ≤ p1 := by
  obtain ⟨z, a1, a2, a3⟩ := h
  obtain ⟨g1, g2, g3⟩ := g
  simp only at g1 g2 g3
  rw [a1, List.length_append] at g3
  rw [a2, List.length_append, List.length_map]
  omega
section CR1
variable {l : Launch} {G : tG} {K : Nat → Nat × Nat} {I J : Nat → Int → Int} {Q : Nat → Int → Option Nat} {n : Nat} {s : Int → Int} {v : Nat} {a e p : Int} {o r : List Int}
theorem c_V_readTest (hS : tSt (K, I, Q, n)) (hv : VS K Q n v) (hT : vT I s v e) (hB : pB s a e) (hk : vH I J v p o) (z : pZ e (p, false, r)) (ol : (o.length : Int) ≤ p) : tw_M l G 7 0 0 mV_readTest [vr (some v)] (K, J, Q, n) (vP K I Q n v o r (pTst (tpe s) e (p, false, r))) := by
  obtain ⟨z1, z2, z3⟩ := id z
  simp only at z1 z2 z3
  have hw := pHere_w hB z1
  have he := hB.2.1
  have hv1 := hv.1
  have a2 := pAm_bd (j := 2) (by decide) hB z1
  have a3 := pAm_bd (j := 3) (p := p + 1) (by decide) hB (by omega)
  rw [show sN 2 = 5 from rfl] at a2
  rw [show sN 3 = 3 from rfl] at a3
  obtain ⟨⟨fx, fp, fw, fr⟩, hF⟩ : ∃ F, F = pFig (tpe s) e (p + 2, false, r) := ⟨_, rfl⟩
  refine tw_intro okV_readTest (Nat.le_of_ble_eq_true rfl) ?_
  refine ar_aloadn (k := 0) rfl rfl ?_
  refine ar_ldcS (k := 1) (tx := "hstkx") (j := 2) rfl (by decide) (by decide) ?_
  refine ar_callV (k := 2) (as := [_]) rfl lvV_113 hv.k0 rfl (c_V_takeOneOf (j := 2) (p := p) (by decide) hS hv hT hB hk (by omega)) rfl (by decide) (by decide) tw_m0 (Nat.le_of_ble_eq_true rfl) (fun r2 h2 p2 => ?_)
  obtain ⟨rfl, L2, rfl, hk2, hn2⟩ := p2
  refine ar_istoren (k := 3) (l2 := [(1, _), (0, _)]) rfl (by decide) rfl ?_
  refine ar_iloadn (k := 4) rfl rfl ?_
  refine ar_if_ge (k := 5) rfl (by omega) (fun c5 => ?_) (fun c5 => ?_)
  · rw [if_neg (by omega)] at hk2
    refine ar_aloadn (k := 8) rfl rfl ?_
    refine ar_ldcS (k := 9) (tx := "<=>") (j := 3) rfl (by decide) (by decide) ?_
    refine ar_callV (k := 10) (as := [_]) rfl lvV_113 hv.k0 rfl (c_V_takeOneOf (j := 3) (p := p + 1) (by decide) hS hv hT hB hk2 (by omega)) rfl (by decide) (by decide) tw_m0 (Nat.le_of_ble_eq_true rfl) (fun r10 h10 p10 => ?_)
    obtain ⟨rfl, L10, rfl, hk10, hn10⟩ := p10
    refine ar_istoren (k := 11) (l2 := [(2, _), (1, _), (0, _)]) rfl (by decide) rfl ?_
    refine ar_iloadn (k := 12) rfl rfl ?_
    refine ar_if_lt (k := 13) rfl (by omega) (fun c13 => ?_) (fun c13 => ?_)
    · refine ar_iconst (k := 17) rfl ?_
      refine ar_zret (k := 18) rfl rfl (by omega) rfl (Nat.le_refl _) ?_
      rw [show pTst (tpe s) e (p, false, r) = (p + 1, true, r) by rw [pTst, if_neg (by dsimp only; omega), if_pos (by dsimp only; omega)]]
      rw [if_pos (by omega)] at hk10
      exact ⟨rfl, L10, o, rfl, hk10, fun q => by cases q⟩
    · rw [if_neg (by omega)] at hk10
      rw [show p + 1 + 1 = p + 2 by omega] at hk10
      refine ar_aloadn (k := 14) rfl rfl ?_
      refine ar_callV (k := 15) (as := []) rfl lvV_91 hv.k0 rfl (c_V_readNumber (p := p + 2) (r := r) hS hv hT hB hk10 (by omega)) rfl (by decide) (by decide) tw_m0 (Nat.le_of_ble_eq_true rfl) (fun r15 h15 p15 => ?_)
      rw [← hF] at p15
      obtain ⟨rfl, L15, rfl, hk15, hn15⟩ := p15
      have hb := pFig_bd (q := (p + 2, false, r)) hB ⟨by show 0 ≤ p + 2; omega, by show p + 2 ≤ e; omega⟩
      rw [← hF] at hb
      obtain ⟨b1, b2, b3, b4, b5⟩ := hb
      simp only at b1 b2 b3 b4 b5 hk15 hn15
      cases fw
      · refine tw_top (y := 1) rfl ?_
        refine ar_if_ne (k := 16) rfl (by omega) (fun c16 => ?_) (fun c16 => ?_)
        · have b6 := b5 rfl
          refine ar_aloadn (k := 19) rfl rfl ?_
          refine ar_iloadn (k := 20) rfl rfl ?_
          refine ar_iconst (k := 21) rfl ?_
          refine ar_imul (k := 22) rfl ?_
          refine ar_iloadn (k := 23) rfl rfl ?_
          refine ar_iadd (k := 24) rfl ?_
          refine ar_bipush (k := 25) rfl (by decide) ?_
          refine ar_imul (k := 26) rfl ?_
          refine ar_aloadn (k := 27) rfl rfl ?_
          refine br_getIz (k := 28) (z := 11) rfl hv.k0 flV_47_9 (by decide) rfl rfl ?_
          refine tw_top (y := fx) (by exact hn15 rfl) ?_
          refine ar_iadd (k := 29) rfl ?_
          refine ar_callV (k := 30) (as := [_]) rfl lvV_107 hv.k0 rfl (c_V_addStep hv hk15 (by omega)) rfl (by decide) (by decide) tw_m0 (Nat.le_of_ble_eq_true rfl) (fun r30 h30 p30 => ?_)
          obtain ⟨rfl, L30, rfl, hk30⟩ := p30
          refine ar_iconst (k := 31) rfl ?_
          refine ar_zret (k := 32) rfl rfl (by omega) rfl (Nat.le_refl _) ?_
          rw [show pTst (tpe s) e (p, false, r) = (fp, false, fr ++ [pAm (tpe s) e 2 p + 8 * pAm (tpe s) e 3 (p + 1) + 32 * fx]) by rw [pTst, if_neg (by dsimp only; omega), if_neg (by dsimp only; omega)]; dsimp only; rw [← hF]; rfl]
          refine ⟨rfl, L30, _, rfl, hk30, fun _ => ?_⟩
          rw [b3]
          exact vZ.em vZ.rf (cSt_t (by omega) (by omega) (by omega)) (by omega)
        · exfalso; omega
      · refine tw_top (y := 0) rfl ?_
        refine ar_if_ne (k := 16) rfl (by omega) (fun c16 => ?_) (fun c16 => ?_)
        · exfalso; omega
        · refine ar_iconst (k := 17) rfl ?_
          refine ar_zret (k := 18) rfl rfl (by omega) rfl (Nat.le_refl _) ?_
          rw [show pTst (tpe s) e (p, false, r) = (fp, true, fr) by rw [pTst, if_neg (by dsimp only; omega), if_neg (by dsimp only; omega)]; dsimp only; rw [← hF]; rfl]
          exact ⟨rfl, L15, o, rfl, hk15, fun q => by cases q⟩
  · refine ar_iconst (k := 6) rfl ?_
    refine ar_zret (k := 7) rfl rfl (by omega) rfl (Nat.le_refl _) ?_
    rw [show pTst (tpe s) e (p, false, r) = (p, true, r) by rw [pTst, if_pos (by dsimp only; omega)]]
    rw [if_pos (by omega)] at hk2
    exact ⟨rfl, L2, o, rfl, hk2, fun q => by cases q⟩
/-- what reading a part does -/
def hPa (l : Launch) (G : tG) (K : Nat → Nat × Nat) (I : Nat → Int → Int) (Q : Nat → Int → Option Nat) (n v : Nat) (e : Int) (d : Nat) (lv i : Int) (fn : tP → tP) : Prop := ∀ (p : Int) (o r : List Int) (J : Nat → Int → Int), vH I J v p o → pZ e (p, false, r) → (o.length : Int) ≤ p → tw_M l G d 0 0 mV_readPart [vr (some v), vi lv, vi i] (K, J, Q, n) (vP K I Q n v o r (fn (p, false, r)))
theorem l_V_part1 {d : Nat} {i : Int} {sub : tP → tP} {U : tP} {o0 r0 : List Int} (hS : tSt (K, I, Q, n)) (hv : VS K Q n v) (hT : vT I s v e) (hB : pB s a e) (hf : hPa l G K I Q n v e d 2 i sub) (hok : ∀ q, pZ e q → pOK e q (sub q)) (hi : 0 ≤ i ∧ i ≤ 6) (hd1 : 1 ≤ d) : ∀ (f cnt : Nat) (p : Int) (o r : List Int) (J : Nat → Int → Int), f + cnt = 101 → (cnt : Int) ≤ p → vH I J v p o → pZ e (p, false, r) → (o.length : Int) ≤ p → vZ o0 r0 o r → pLoop (tpe s) e 38 (-2) sub f (p, false, r) = U → tw_AW l G mV_readPart (d + 1) 0 0 n 0 (vP K I Q n v o0 r0 U) 66 [(4, vi (cnt : Int)), (3, vi 38), (0, vr (some v)), (1, vi 1), (2, vi i)] [] (K, J, Q, n) := by
  intro f
  induction f with
  | zero =>
    intro cnt p o r J hc hcp hk z
    obtain ⟨z1, z2, z3⟩ := id z
    simp only at z1 z2 z3
    have he := hB.2.1
    exfalso; omega
  | succ f ih =>
    intro cnt p o r J hc hcp hk z ol hz hU
    obtain ⟨z1, z2, z3⟩ := id z
    simp only at z1 z2 z3
    have hw := pHere_w hB z1
    have he := hB.2.1
    have hv1 := hv.1
    obtain ⟨⟨xp, xw, xr⟩, hX⟩ : ∃ X, X = sub (p + 1, false, r) := ⟨_, rfl⟩
    refine ar_iload (k := 37) rfl rfl ?_
    refine ar_bipush (k := 38) rfl (by decide) ?_
    refine ar_icmp_ge (k := 39) rfl (by omega) (by omega) (fun c39 => ?_) (fun c39 => ?_)
    · refine ar_iconst (k := 62) rfl ?_
      refine ar_zret (k := 63) rfl rfl (by omega) rfl (Nat.le_refl _) ?_
      rw [pLoop, if_neg (fun q => by have := q.2; simp only at this; omega)] at hU
      subst hU
      exact ⟨rfl, J, o, rfl, hk, fun _ => hz⟩
    · refine ar_aloadn (k := 40) rfl rfl ?_
      refine ar_iloadn (k := 41) rfl rfl ?_
      refine ar_callV (k := 42) (as := [_]) rfl lvV_66 hv.k0 rfl (c_V_take hS hv hT hB hk (by omega) (by omega)) rfl (by omega) (by decide) tw_m0 (Nat.le_of_ble_eq_true rfl) (fun r42 h42 p42 => ?_)
      obtain ⟨rfl, L42, rfl, hk42⟩ := p42
      by_cases g : pHere (tpe s) e p = 38
      · refine tw_top (y := 1) (by rw [if_pos g]) ?_
        refine ar_if_eq (k := 43) rfl (by omega) (fun c43 => ?_) (fun c43 => ?_)
        · exfalso; omega
        · rw [if_pos g] at hk42
          refine ar_aloadn (k := 44) rfl rfl ?_
          refine ar_iloadn (k := 45) rfl rfl ?_
          refine ar_iconst (k := 46) rfl ?_
          refine ar_iadd (k := 47) rfl ?_
          refine tw_top (y := 2) (by rfl) ?_
          refine ar_iloadn (k := 48) rfl rfl ?_
          refine ar_callV (k := 49) (as := [_, _]) rfl lvV_97 hv.k0 rfl (hf (p + 1) o r _ hk42 (by exact ⟨by show 0 ≤ p + 1; omega, by show p + 1 ≤ e; omega, by show (r.length : Int) ≤ p + 1; omega⟩) (by omega)) rfl (by omega) (by decide) tw_m0 (Nat.le_of_ble_eq_true rfl) (fun r49 h49 p49 => ?_)
          rw [← hX] at p49
          obtain ⟨rfl, L49, o1, rfl, hk49, hz49⟩ := p49
          have ok := hok (p + 1, false, r) ⟨by show 0 ≤ p + 1; omega, by show p + 1 ≤ e; omega, by show (r.length : Int) ≤ p + 1; omega⟩
          rw [← hX] at ok
          have ok1 := ok.1
          have ok2 := ok.2.1
          have ok3 := ok.2.2
          simp only at ok1 ok2 ok3 hk49 hz49
          cases xw
          · refine tw_top (y := 1) rfl ?_
            refine ar_if_ne (k := 50) rfl (by omega) (fun c50 => ?_) (fun c50 => ?_)
            · have hl1 : (o1.length : Int) + 1 ≤ xp := by
                obtain ⟨y, y1, y2, y3⟩ := hz49 rfl
                rw [y1, List.length_append] at ok3
                rw [y2, List.length_append, List.length_map]
                omega
              refine ar_aloadn (k := 53) rfl rfl ?_
              refine ar_iloadn (k := 54) rfl rfl ?_
              refine ar_if_ne (k := 55) rfl (by omega) (fun c55 => ?_) (fun c55 => ?_)
              · refine ar_iconst (k := 58) rfl ?_
                refine ar_callV (k := 59) (as := [_]) rfl lvV_107 hv.k0 rfl (c_V_addStep hv hk49 (by omega)) rfl (by omega) (by decide) tw_m0 (Nat.le_of_ble_eq_true rfl) (fun r59 h59 p59 => ?_)
                obtain ⟨rfl, L59, rfl, hk59⟩ := p59
                refine ar_iinc (k := 60) (l2 := [(4, _), (3, _), (0, _), (1, _), (2, _)]) rfl (by decide) rfl rfl ?_
                refine ar_goto (k := 61) rfl ?_
                refine ar_sub (l2 := [(4, vi ((cnt + 1 : Nat) : Int)), (3, vi 38), (0, vr (some v)), (1, vi 1), (2, vi i)]) (tw_s (tw_e 0 rfl (by omega)) (tw_s (tw_g 1 rfl) (tw_s (tw_g 2 rfl) (tw_s (tw_g 3 rfl) (tw_s (tw_g 4 rfl) tw_s0))))) ?_
                have hl2 : ((o1 ++ [(-1 : Int)]).length : Int) ≤ xp := by
                  rw [List.length_append, List.length_singleton]
                  obtain ⟨y, y1, y2, y3⟩ := hz49 rfl
                  rw [y1, List.length_append] at ok3
                  rw [y2, List.length_append, List.length_map]
                  omega
                refine ih (cnt + 1) xp _ (xr ++ [-2]) L59 (by omega) (by omega) hk59 ⟨by show 0 ≤ xp; omega, ok2, ?_⟩ hl2 (vZ.em (hz.tr (hz49 rfl)) rfl (by decide)) ?_
                · show ((xr ++ [(-2 : Int)]).length : Int) ≤ xp
                  rw [List.length_append, List.length_singleton]
                  omega
                · rw [pLoop, if_pos ⟨rfl, g⟩] at hU
                  simp only at hU
                  rw [← hX, pEmit_f] at hU
                  exact hU
              · exfalso; omega
            · exfalso; omega
          · refine tw_top (y := 0) rfl ?_
            refine ar_if_ne (k := 50) rfl (by omega) (fun c50 => ?_) (fun c50 => ?_)
            · exfalso; omega
            · refine ar_iconst (k := 51) rfl ?_
              refine ar_zret (k := 52) rfl rfl (by omega) rfl (Nat.le_refl _) ?_
              rw [pLoop, if_pos ⟨rfl, g⟩] at hU
              simp only at hU
              rw [← hX, pEmit_t, pLoop_w rfl] at hU
              subst hU
              exact ⟨rfl, L49, o1, rfl, hk49, fun q => by cases q⟩
      · refine tw_top (y := 0) (by rw [if_neg g]) ?_
        refine ar_if_eq (k := 43) rfl (by omega) (fun c43 => ?_) (fun c43 => ?_)
        · refine ar_iconst (k := 62) rfl ?_
          refine ar_zret (k := 63) rfl rfl (by omega) rfl (Nat.le_refl _) ?_
          rw [pLoop, if_neg (fun q => g q.2)] at hU
          subst hU
          rw [if_neg g] at hk42
          exact ⟨rfl, L42, o, rfl, hk42, fun _ => hz⟩
        · exfalso; omega
theorem c_V_part1 {d : Nat} {i : Int} {sub : tP → tP} (hS : tSt (K, I, Q, n)) (hv : VS K Q n v) (hT : vT I s v e) (hB : pB s a e) (hf : hPa l G K I Q n v e d 2 i sub) (hok : ∀ q, pZ e q → pOK e q (sub q)) (hi : 0 ≤ i ∧ i ≤ 6) (hd1 : 1 ≤ d) : hPa l G K I Q n v e (d + 1) 1 i (fun q => pLoop (tpe s) e 38 (-2) sub 101 (sub q)) := by
  intro p o r J hk z ol
  obtain ⟨z1, z2, z3⟩ := id z
  simp only at z1 z2 z3
  have hw := pHere_w hB z1
  have he := hB.2.1
  have hv1 := hv.1
  obtain ⟨⟨xp, xw, xr⟩, hX⟩ : ∃ X, X = sub (p, false, r) := ⟨_, rfl⟩
  show tw_M l G (d + 1) 0 0 mV_readPart _ _ (vP K I Q n v o r (pLoop (tpe s) e 38 (-2) sub 101 (sub (p, false, r))))
  refine tw_intro okV_readPart (Nat.le_of_ble_eq_true rfl) ?_
  refine ar_iloadn (k := 0) rfl rfl ?_
  refine ar_iconst (k := 1) rfl ?_
  refine ar_icmp_lt (k := 2) rfl (by omega) (by omega) (fun c2 => ?_) (fun c2 => ?_)
  · refine ar_iloadn (k := 20) rfl rfl ?_
    refine ar_if_ne (k := 21) rfl (by omega) (fun c21 => ?_) (fun c21 => ?_)
    · refine ar_bipush (k := 24) rfl (by decide) ?_
      refine ar_istoren (k := 25) (l2 := [(3, _), (0, _), (1, _), (2, _)]) rfl (by decide) rfl ?_
      refine ar_aloadn (k := 26) rfl rfl ?_
      refine ar_iloadn (k := 27) rfl rfl ?_
      refine ar_iconst (k := 28) rfl ?_
      refine ar_iadd (k := 29) rfl ?_
      refine tw_top (y := 2) (by rfl) ?_
      refine ar_iloadn (k := 30) rfl rfl ?_
      refine ar_callV (k := 31) (as := [_, _]) rfl lvV_97 hv.k0 rfl (hf p o r _ hk z ol) rfl (by omega) (by decide) tw_m0 (Nat.le_of_ble_eq_true rfl) (fun r31 h31 p31 => ?_)
      rw [← hX] at p31
      obtain ⟨rfl, L31, o1, rfl, hk31, hz31⟩ := p31
      have ok := hok (p, false, r) z
      rw [← hX] at ok ⊢
      have ok1 := ok.1
      have ok2 := ok.2.1
      have ok3 := ok.2.2
      simp only at ok1 ok2 ok3 hk31 hz31
      cases xw
      · refine tw_top (y := 1) rfl ?_
        refine ar_if_ne (k := 32) rfl (by omega) (fun c32 => ?_) (fun c32 => ?_)
        · refine ar_iconst (k := 35) rfl ?_
          refine ar_istore (k := 36) (l2 := [(4, _), (3, _), (0, _), (1, _), (2, _)]) rfl (by decide) rfl ?_
          refine ar_sub (l2 := [(4, vi ((0 : Nat) : Int)), (3, vi 38), (0, vr (some v)), (1, vi 1), (2, vi i)]) (tw_s (tw_e 0 rfl (by rfl)) (tw_s (tw_g 1 rfl) (tw_s (tw_g 2 rfl) (tw_s (tw_g 3 rfl) (tw_s (tw_g 4 rfl) tw_s0))))) ?_
          exact l_V_part1 hS hv hT hB hf hok hi hd1 101 0 xp o1 xr L31 rfl (by omega) hk31 ⟨by show 0 ≤ xp; omega, ok2, by show (xr.length : Int) ≤ xp; omega⟩ ((show vZ o r o1 xr from hz31 rfl).ln ok ol) (hz31 rfl) rfl
        · exfalso; omega
      · refine tw_top (y := 0) rfl ?_
        refine ar_if_ne (k := 32) rfl (by omega) (fun c32 => ?_) (fun c32 => ?_)
        · exfalso; omega
        · refine ar_iconst (k := 33) rfl ?_
          refine ar_zret (k := 34) rfl rfl (by omega) rfl (Nat.le_refl _) ?_
          rw [pLoop_w rfl]
          exact ⟨rfl, L31, o1, rfl, hk31, fun q => by cases q⟩
    · exfalso; omega
  · exfalso; omega
theorem l_V_part0 {d : Nat} {i : Int} {sub : tP → tP} {U : tP} {o0 r0 : List Int} (hS : tSt (K, I, Q, n)) (hv : VS K Q n v) (hT : vT I s v e) (hB : pB s a e) (hf : hPa l G K I Q n v e d 1 i sub) (hok : ∀ q, pZ e q → pOK e q (sub q)) (hi : 0 ≤ i ∧ i ≤ 6) (hd1 : 1 ≤ d) : ∀ (f cnt : Nat) (p : Int) (o r : List Int) (J : Nat → Int → Int), f + cnt = 101 → (cnt : Int) ≤ p → vH I J v p o → pZ e (p, false, r) → (o.length : Int) ≤ p → vZ o0 r0 o r → pLoop (tpe s) e 124 (-3) sub f (p, false, r) = U → tw_AW l G mV_readPart (d + 1) 0 0 n 0 (vP K I Q n v o0 r0 U) 66 [(4, vi (cnt : Int)), (3, vi 124), (0, vr (some v)), (1, vi 0), (2, vi i)] [] (K, J, Q, n) := by
  intro f
  induction f with
  | zero =>
    intro cnt p o r J hc hcp hk z
    obtain ⟨z1, z2, z3⟩ := id z
    simp only at z1 z2 z3
    have he := hB.2.1
    exfalso; omega
  | succ f ih =>
    intro cnt p o r J hc hcp hk z ol hz hU
    obtain ⟨z1, z2, z3⟩ := id z
    simp only at z1 z2 z3
    have hw := pHere_w hB z1
    have he := hB.2.1
    have hv1 := hv.1
    obtain ⟨⟨xp, xw, xr⟩, hX⟩ : ∃ X, X = sub (p + 1, false, r) := ⟨_, rfl⟩
    refine ar_iload (k := 37) rfl rfl ?_
    refine ar_bipush (k := 38) rfl (by decide) ?_
    refine ar_icmp_ge (k := 39) rfl (by omega) (by omega) (fun c39 => ?_) (fun c39 => ?_)
    · refine ar_iconst (k := 62) rfl ?_
      refine ar_zret (k := 63) rfl rfl (by omega) rfl (Nat.le_refl _) ?_
      rw [pLoop, if_neg (fun q => by have := q.2; simp only at this; omega)] at hU
      subst hU
      exact ⟨rfl, J, o, rfl, hk, fun _ => hz⟩
    · refine ar_aloadn (k := 40) rfl rfl ?_
      refine ar_iloadn (k := 41) rfl rfl ?_
      refine ar_callV (k := 42) (as := [_]) rfl lvV_66 hv.k0 rfl (c_V_take hS hv hT hB hk (by omega) (by omega)) rfl (by omega) (by decide) tw_m0 (Nat.le_of_ble_eq_true rfl) (fun r42 h42 p42 => ?_)
      obtain ⟨rfl, L42, rfl, hk42⟩ := p42
      by_cases g : pHere (tpe s) e p = 124
      · refine tw_top (y := 1) (by rw [if_pos g]) ?_
        refine ar_if_eq (k := 43) rfl (by omega) (fun c43 => ?_) (fun c43 => ?_)
        · exfalso; omega
        · rw [if_pos g] at hk42
          refine ar_aloadn (k := 44) rfl rfl ?_
          refine ar_iloadn (k := 45) rfl rfl ?_
          refine ar_iconst (k := 46) rfl ?_
          refine ar_iadd (k := 47) rfl ?_
          refine tw_top (y := 1) (by rfl) ?_
          refine ar_iloadn (k := 48) rfl rfl ?_
          refine ar_callV (k := 49) (as := [_, _]) rfl lvV_97 hv.k0 rfl (hf (p + 1) o r _ hk42 (by exact ⟨by show 0 ≤ p + 1; omega, by show p + 1 ≤ e; omega, by show (r.length : Int) ≤ p + 1; omega⟩) (by omega)) rfl (by omega) (by decide) tw_m0 (Nat.le_of_ble_eq_true rfl) (fun r49 h49 p49 => ?_)
          rw [← hX] at p49
          obtain ⟨rfl, L49, o1, rfl, hk49, hz49⟩ := p49
          have ok := hok (p + 1, false, r) ⟨by show 0 ≤ p + 1; omega, by show p + 1 ≤ e; omega, by show (r.length : Int) ≤ p + 1; omega⟩
          rw [← hX] at ok
          have ok1 := ok.1
          have ok2 := ok.2.1
          have ok3 := ok.2.2
          simp only at ok1 ok2 ok3 hk49 hz49
          cases xw
          · refine tw_top (y := 1) rfl ?_
            refine ar_if_ne (k := 50) rfl (by omega) (fun c50 => ?_) (fun c50 => ?_)
            · have hl1 : (o1.length : Int) + 1 ≤ xp := by
                obtain ⟨y, y1, y2, y3⟩ := hz49 rfl
                rw [y1, List.length_append] at ok3
                rw [y2, List.length_append, List.length_map]
                omega
              refine ar_aloadn (k := 53) rfl rfl ?_
              refine ar_iloadn (k := 54) rfl rfl ?_
              refine ar_if_ne (k := 55) rfl (by omega) (fun c55 => ?_) (fun c55 => ?_)
              · exfalso; omega
              · refine ar_bipush (k := 56) rfl (by decide) ?_
                refine ar_goto (k := 57) rfl ?_
                refine ar_callV (k := 59) (as := [_]) rfl lvV_107 hv.k0 rfl (c_V_addStep hv hk49 (by omega)) rfl (by omega) (by decide) tw_m0 (Nat.le_of_ble_eq_true rfl) (fun r59 h59 p59 => ?_)
                obtain ⟨rfl, L59, rfl, hk59⟩ := p59
                refine ar_iinc (k := 60) (l2 := [(4, _), (3, _), (0, _), (1, _), (2, _)]) rfl (by decide) rfl rfl ?_
                refine ar_goto (k := 61) rfl ?_
                refine ar_sub (l2 := [(4, vi ((cnt + 1 : Nat) : Int)), (3, vi 124), (0, vr (some v)), (1, vi 0), (2, vi i)]) (tw_s (tw_e 0 rfl (by omega)) (tw_s (tw_g 1 rfl) (tw_s (tw_g 2 rfl) (tw_s (tw_g 3 rfl) (tw_s (tw_g 4 rfl) tw_s0))))) ?_
                have hl2 : ((o1 ++ [(-2 : Int)]).length : Int) ≤ xp := by
                  rw [List.length_append, List.length_singleton]
                  obtain ⟨y, y1, y2, y3⟩ := hz49 rfl
                  rw [y1, List.length_append] at ok3
                  rw [y2, List.length_append, List.length_map]
                  omega
                refine ih (cnt + 1) xp _ (xr ++ [-3]) L59 (by omega) (by omega) hk59 ⟨by show 0 ≤ xp; omega, ok2, ?_⟩ hl2 (vZ.em (hz.tr (hz49 rfl)) rfl (by decide)) ?_
                · show ((xr ++ [(-3 : Int)]).length : Int) ≤ xp
                  rw [List.length_append, List.length_singleton]
                  omega
                · rw [pLoop, if_pos ⟨rfl, g⟩] at hU
                  simp only at hU
                  rw [← hX, pEmit_f] at hU
                  exact hU
            · exfalso; omega
          · refine tw_top (y := 0) rfl ?_
            refine ar_if_ne (k := 50) rfl (by omega) (fun c50 => ?_) (fun c50 => ?_)
            · exfalso; omega
            · refine ar_iconst (k := 51) rfl ?_
              refine ar_zret (k := 52) rfl rfl (by omega) rfl (Nat.le_refl _) ?_
              rw [pLoop, if_pos ⟨rfl, g⟩] at hU
              simp only at hU
              rw [← hX, pEmit_t, pLoop_w rfl] at hU
              subst hU
              exact ⟨rfl, L49, o1, rfl, hk49, fun q => by cases q⟩
      · refine tw_top (y := 0) (by rw [if_neg g]) ?_
        refine ar_if_eq (k := 43) rfl (by omega) (fun c43 => ?_) (fun c43 => ?_)
        · refine ar_iconst (k := 62) rfl ?_
          refine ar_zret (k := 63) rfl rfl (by omega) rfl (Nat.le_refl _) ?_
          rw [pLoop, if_neg (fun q => g q.2)] at hU
          subst hU
          rw [if_neg g] at hk42
          exact ⟨rfl, L42, o, rfl, hk42, fun _ => hz⟩
        · exfalso; omega
theorem c_V_part0 {d : Nat} {i : Int} {sub : tP → tP} (hS : tSt (K, I, Q, n)) (hv : VS K Q n v) (hT : vT I s v e) (hB : pB s a e) (hf : hPa l G K I Q n v e d 1 i sub) (hok : ∀ q, pZ e q → pOK e q (sub q)) (hi : 0 ≤ i ∧ i ≤ 6) (hd1 : 1 ≤ d) : hPa l G K I Q n v e (d + 1) 0 i (fun q => pLoop (tpe s) e 124 (-3) sub 101 (sub q)) := by
  intro p o r J hk z ol
  obtain ⟨z1, z2, z3⟩ := id z
  simp only at z1 z2 z3
  have hw := pHere_w hB z1
  have he := hB.2.1
  have hv1 := hv.1
  obtain ⟨⟨xp, xw, xr⟩, hX⟩ : ∃ X, X = sub (p, false, r) := ⟨_, rfl⟩
  show tw_M l G (d + 1) 0 0 mV_readPart _ _ (vP K I Q n v o r (pLoop (tpe s) e 124 (-3) sub 101 (sub (p, false, r))))
  refine tw_intro okV_readPart (Nat.le_of_ble_eq_true rfl) ?_
  refine ar_iloadn (k := 0) rfl rfl ?_
  refine ar_iconst (k := 1) rfl ?_
  refine ar_icmp_lt (k := 2) rfl (by omega) (by omega) (fun c2 => ?_) (fun c2 => ?_)
  · refine ar_iloadn (k := 20) rfl rfl ?_
    refine ar_if_ne (k := 21) rfl (by omega) (fun c21 => ?_) (fun c21 => ?_)
    · exfalso; omega
    · refine ar_bipush (k := 22) rfl (by decide) ?_
      refine ar_goto (k := 23) rfl ?_
      refine ar_istoren (k := 25) (l2 := [(3, _), (0, _), (1, _), (2, _)]) rfl (by decide) rfl ?_
      refine ar_aloadn (k := 26) rfl rfl ?_
      refine ar_iloadn (k := 27) rfl rfl ?_
      refine ar_iconst (k := 28) rfl ?_
      refine ar_iadd (k := 29) rfl ?_
      refine tw_top (y := 1) (by rfl) ?_
      refine ar_iloadn (k := 30) rfl rfl ?_
      refine ar_callV (k := 31) (as := [_, _]) rfl lvV_97 hv.k0 rfl (hf p o r _ hk z ol) rfl (by omega) (by decide) tw_m0 (Nat.le_of_ble_eq_true rfl) (fun r31 h31 p31 => ?_)
      rw [← hX] at p31
      obtain ⟨rfl, L31, o1, rfl, hk31, hz31⟩ := p31
      have ok := hok (p, false, r) z
      rw [← hX] at ok ⊢
      have ok1 := ok.1
      have ok2 := ok.2.1
      have ok3 := ok.2.2
      simp only at ok1 ok2 ok3 hk31 hz31
      cases xw
      · refine tw_top (y := 1) rfl ?_
        refine ar_if_ne (k := 32) rfl (by omega) (fun c32 => ?_) (fun c32 => ?_)
        · refine ar_iconst (k := 35) rfl ?_
          refine ar_istore (k := 36) (l2 := [(4, _), (3, _), (0, _), (1, _), (2, _)]) rfl (by decide) rfl ?_
          refine ar_sub (l2 := [(4, vi ((0 : Nat) : Int)), (3, vi 124), (0, vr (some v)), (1, vi 0), (2, vi i)]) (tw_s (tw_e 0 rfl (by rfl)) (tw_s (tw_g 1 rfl) (tw_s (tw_g 2 rfl) (tw_s (tw_g 3 rfl) (tw_s (tw_g 4 rfl) tw_s0))))) ?_
          exact l_V_part0 hS hv hT hB hf hok hi hd1 101 0 xp o1 xr L31 rfl (by omega) hk31 ⟨by show 0 ≤ xp; omega, ok2, by show (xr.length : Int) ≤ xp; omega⟩ ((show vZ o r o1 xr from hz31 rfl).ln ok ol) (hz31 rfl) rfl
        · exfalso; omega
      · refine tw_top (y := 0) rfl ?_
        refine ar_if_ne (k := 32) rfl (by omega) (fun c32 => ?_) (fun c32 => ?_)
        · exfalso; omega
        · refine ar_iconst (k := 33) rfl ?_
          refine ar_zret (k := 34) rfl rfl (by omega) rfl (Nat.le_refl _) ?_
          rw [pLoop_w rfl]
          exact ⟨rfl, L31, o1, rfl, hk31, fun q => by cases q⟩
  · exfalso; omega
end CR1
