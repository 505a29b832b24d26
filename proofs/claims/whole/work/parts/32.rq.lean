/-- room left -/
abbrev pZ (e : Int) (q : tP) : Prop := 0 ≤ q.1 ∧ q.1 ≤ e ∧ (q.2.2.length : Int) ≤ q.1
def pOK (e : Int) (q q' : tP) : Prop := q.1 ≤ q'.1 ∧ q'.1 ≤ e ∧ (q'.2.2.length : Int) + q.1 ≤ (q.2.2.length : Int) + q'.1
theorem pOK.rf {e : Int} {q : tP} (h : q.1 ≤ e) : pOK e q q := ⟨Int.le_refl _, h, Int.le_refl _⟩
theorem pOK.tr {e : Int} {q r u : tP} (h : pOK e q r) (g : pOK e r u) : pOK e q u := by
  obtain ⟨h1, h2, h3⟩ := h
  obtain ⟨g1, g2, g3⟩ := g
  exact ⟨by omega, g2, by omega⟩
theorem pOK.z {e : Int} {q r : tP} (h : pOK e q r) (g : pZ e q) : pZ e r := by
  obtain ⟨h1, h2, h3⟩ := h
  obtain ⟨g1, g2, g3⟩ := g
  exact ⟨by omega, h2, by omega⟩
theorem pZ.l {s : Int → Int} {a e : Int} {q : tP} (hB : pB s a e) (h : pZ e q) : q.2.2.length < 140 := by
  have := hB.2.1
  omega
theorem pMust_ok {t : Int → Int} {c e : Int} {q : tP} (hc : c ≠ -1) (h : pZ e q) : pOK e q (pMust t e c q) := by
  have h1 := pMust_bd (t := t) hc ⟨h.1, h.2.1⟩
  exact ⟨h1.1, h1.2.1, by rw [h1.2.2]; omega⟩
theorem pSpl_ok {t : Int → Int} {e : Int} {j : Nat} (hj : j < 6) {q : tP} (h : pZ e q) : pOK e q (pSpl t e j (sN j) 0 q) := by
  have h1 := pSpl_bd (t := t) (e := e) hj (sN j) 0 q (by omega) ⟨h.1, h.2.1⟩
  exact ⟨h1.1, h1.2.1, by rw [h1.2.2]; omega⟩
theorem pEmit_f {x p : Int} {o : List Int} : pEmit x (p, false, o) = (p, false, o ++ [x]) := rfl
theorem pEmit_t {x p : Int} {o : List Int} : pEmit x (p, true, o) = (p, true, o) := rfl
/-- one is said, for at least one sign that was read -/
theorem pEmit_ok {e x : Int} {q r : tP} (h : pOK e q r) (h2 : r.2.1 = false → (r.2.2.length : Int) + q.1 + 1 ≤ (q.2.2.length : Int) + r.1) : pOK e q (pEmit x r) := by
  obtain ⟨p, w, o⟩ := r
  cases w
  · rw [pEmit_f]
    obtain ⟨h3, h4, h5⟩ := h
    have h6 := h2 rfl
    refine ⟨h3, h4, ?_⟩
    simp only [List.length_append, List.length_singleton] at *
    omega
  · rw [pEmit_t]; exact h
theorem fstD_or (d : Int) (p : Nat → Bool) : ∀ k j : Nat, fstD d p k j = d ∨ ∃ i, j ≤ i ∧ i < j + k ∧ p i = true ∧ fstD d p k j = (i : Int)
  | 0, _ => Or.inl rfl
  | k + 1, j => by
    rw [fstD]
    by_cases h : p j = true
    · rw [if_pos h]; exact Or.inr ⟨j, Nat.le_refl _, by omega, h, rfl⟩
    · rw [if_neg h]
      rcases fstD_or d p k (j + 1) with g | ⟨i, g1, g2, g3, g4⟩
      · exact Or.inl g
      · exact Or.inr ⟨i, by omega, by omega, g3, g4⟩
theorem pAm_bd {s : Int → Int} {a e p : Int} {j : Nat} (hj : j < 6) (hB : pB s a e) (hp : 0 ≤ p) : (-1 ≤ pAm (tpe s) e j p ∧ pAm (tpe s) e j p < sN j) ∧ (pAm (tpe s) e j p ≠ -1 → p < e) := by
  have hb := pHere_bd hB hp
  unfold pAm
  rcases fstD_or (-1) (fun i => decide (pHere (tpe s) e p = sB j (i : Int))) (sN j) 0 with g | ⟨i, g1, g2, g3, g4⟩
  · rw [g]; omega
  · rw [g4]
    have hs := sB_all j hj i (by omega)
    simp only [decide_eq_true_eq] at g3
    refine ⟨by omega, fun _ => ?_⟩
    omega
theorem pTst_ok {s : Int → Int} {a e : Int} {q : tP} (hB : pB s a e) (hw : q.2.1 = false) (h : pZ e q) : pOK e q (pTst (tpe s) e q) := by
  have h2 := pAm_bd (j := 2) (by decide) hB h.1
  have h3 := pAm_bd (j := 3) (p := q.1 + 1) (by decide) hB (by omega)
  rw [pTst]
  split
  · exact ⟨Int.le_refl _, h.2.1, Int.le_refl _⟩
  · split
    · exact ⟨by show q.1 ≤ q.1 + 1; omega, by show q.1 + 1 ≤ e; omega, by show (q.2.2.length : Int) + q.1 ≤ q.2.2.length + (q.1 + 1); omega⟩
    · have h4 := pFig_bd (q := (q.1 + 2, false, q.2.2)) hB ⟨by show 0 ≤ q.1 + 2; omega, by show q.1 + 2 ≤ e; omega⟩
      obtain ⟨g1, g2, g3, g4, g5⟩ := h4
      simp only at g1 g3 g5
      refine pEmit_ok ⟨by omega, g2, by rw [g3]; omega⟩ (fun z => ?_)
      have := g5 z
      rw [g3]; omega
theorem pLoop_ok {s : Int → Int} {a e c x : Int} {sub : tP → tP} (hB : pB s a e) (hc : c ≠ -1) (hsub : ∀ q, pZ e q → pOK e q (sub q)) : ∀ (f : Nat) (q : tP), pZ e q → pOK e q (pLoop (tpe s) e c x sub f q)
  | 0, q, h => pOK.rf h.2.1
  | f + 1, q, h => by
    rw [pLoop]
    by_cases g : q.2.1 = false ∧ pHere (tpe s) e q.1 = c
    · rw [if_pos g]
      have h1 := pHere_bd hB h.1
      have z1 : pZ e (q.1 + 1, false, q.2.2) := ⟨by show 0 ≤ q.1 + 1; omega, by show q.1 + 1 ≤ e; omega, by show (q.2.2.length : Int) ≤ q.1 + 1; omega⟩
      have h2 := hsub _ z1
      have h3 : pOK e q (pEmit x (sub (q.1 + 1, false, q.2.2))) := by
        obtain ⟨a1, a2, a3⟩ := h2
        simp only at a1 a3
        exact pEmit_ok ⟨by omega, a2, by omega⟩ (fun _ => by omega)
      exact h3.tr (pLoop_ok hB hc hsub f _ (h3.z h))
    · rw [if_neg g]; exact pOK.rf h.2.1
theorem pEv_ok {s : Int → Int} {a e : Int} {fac : tP → tP} (hB : pB s a e) (hf : ∀ q, pZ e q → pOK e q (fac q)) {q : tP} (h : pZ e q) : pOK e q (pEv (tpe s) e fac q) := (hf q h).tr (pLoop_ok hB (by decide) hf _ _ ((hf q h).z h))
theorem pSo_ok {s : Int → Int} {a e : Int} {fac : tP → tP} (hB : pB s a e) (hf : ∀ q, pZ e q → pOK e q (fac q)) {q : tP} (h : pZ e q) : pOK e q (pSo (tpe s) e fac q) := (pEv_ok hB hf h).tr (pLoop_ok hB (by decide) (fun _ z => pEv_ok hB hf z) _ _ ((pEv_ok hB hf h).z h))
theorem pFac_s {t : Int → Int} {e : Int} {k : Nat} {q : tP} : pFac t e (k + 1) q = if q.2.1 = true then q else if pHere t e q.1 = 33 then pEmit (-1) (pFac t e k (if k = 0 then (q.1, true, q.2.2) else (q.1 + 1, false, q.2.2))) else if pHere t e q.1 = 40 then pMust t e 41 (pSo t e (pFac t e k) (if k = 0 then (q.1, true, q.2.2) else (q.1 + 1, false, q.2.2))) else pTst t e q := by rw [pFac]
theorem pFac_ok {s : Int → Int} {a e : Int} (hB : pB s a e) : ∀ (k : Nat) (q : tP), pZ e q → pOK e q (pFac (tpe s) e k q)
  | 0, q, h => pOK.rf h.2.1
  | k + 1, q, h => by
    have hb := pHere_bd hB h.1
    rw [pFac_s]
    split
    · exact pOK.rf h.2.1
    · rename_i hw
      split
      · by_cases hk : k = 0
        · subst hk
          rw [if_pos rfl]
          exact pEmit_ok ⟨Int.le_refl _, h.2.1, Int.le_refl _⟩ (fun z => by cases z)
        · rw [if_neg hk]
          have h1 := pFac_ok hB k (q.1 + 1, false, q.2.2) ⟨by show 0 ≤ q.1 + 1; omega, by show q.1 + 1 ≤ e; omega, by show (q.2.2.length : Int) ≤ q.1 + 1; omega⟩
          obtain ⟨a1, a2, a3⟩ := h1
          simp only at a1 a3
          exact pEmit_ok ⟨by omega, a2, by omega⟩ (fun _ => by omega)
      · split
        · have h2 : pOK e q (if k = 0 then (q.1, true, q.2.2) else (q.1 + 1, false, q.2.2)) := by
            split
            · exact ⟨Int.le_refl _, h.2.1, Int.le_refl _⟩
            · exact ⟨by show q.1 ≤ q.1 + 1; omega, by show q.1 + 1 ≤ e; omega, by show (q.2.2.length : Int) + q.1 ≤ q.2.2.length + (q.1 + 1); omega⟩
          have h3 := h2.tr (pSo_ok hB (pFac_ok hB k) (h2.z h))
          exact h3.tr (pMust_ok (by decide) (h3.z h))
        · exact pTst_ok hB (by simpa using hw) h
section RQ
variable {l : Launch} {G : tG} {K : Nat → Nat × Nat} {I J : Nat → Int → Int} {Q : Nat → Int → Option Nat} {n : Nat} {s : Int → Int} {a e op p : Int} {q : tP} {o : List Int}
theorem l_R_every {k : Nat} (hS : tSt (K, J, Q, n)) (hB : pB s a e) (hf : ∀ (q : tP) (J : Nat → Int → Int), pH I J s a e (6 - (k : Int)) q → pZ e q → (k = 0 → q.2.1 = true) → tw_M l G (6 + 3 * k) 0 0 mR_factor [vr (some 69)] (K, J, Q, n) (fun r h' => r = none ∧ ∃ L, h' = (K, L, Q, n) ∧ pH I L s a e (6 - (k : Int)) (pFac (tpe s) e k q))) : ∀ (f : Nat) (q : tP) (J : Nat → Int → Int), e - q.1 < (f : Int) → pH I J s a e (6 - (k : Int)) q → pZ e q → (k = 0 → q.2.1 = true) → tw_AW l G mR_every (7 + 3 * k) 0 0 n 0 (fun r h' => r = none ∧ ∃ L, h' = (K, L, Q, n) ∧ pH I L s a e (6 - (k : Int)) (pLoop (tpe s) e 38 (-2) (pFac (tpe s) e k) f q)) 4 [(0, vr (some 69))] [] (K, J, Q, n) := by
  intro f
  induction f with
  | zero =>
    intro q J hf hk z
    exfalso; omega
  | succ f ih =>
    intro q J hl hk z z0
    obtain ⟨p, w, o⟩ := q
    obtain ⟨z1, z2, z3⟩ := id z
    simp only at z1 z2 z3 hl
    have hh0 := pHere_bd hB z1
    cases w
    ·
      refine ar_aloadn (k := 2) rfl rfl ?_
      refine br_getI (k := 3) rfl (hS.k (by decide)) flR_48_12 (by decide) rfl ?_
      refine tw_top (y := 0) (by exact hk.2.2.2.2.1) ?_
      refine ar_if_ne (k := 4) rfl (by omega) (fun c4 => ?_) (fun c4 => ?_)
      · refine ar_ret (k := 21) rfl rfl rfl (Nat.le_refl _) ?_
        first
          | (exfalso; omega)
          | (rw [show pLoop (tpe s) e 38 (-2) (pFac (tpe s) e k) (f + 1) (p, false, o) = (p, false, o) by rw [pLoop, if_neg (by simp <;> omega)]]; exact ⟨rfl, J, rfl, hk⟩)
      · refine ar_aloadn (k := 5) rfl rfl ?_
        refine br_callV (k := 6) (as := []) rfl lvR_52 (hS.k (by decide)) rfl (c_R_here (p := p) hS hB hk (by (constructor <;> (dsimp only; omega))) rfl) rfl (by omega) (by decide) tw_m0 (Nat.le_of_ble_eq_true rfl) ?_
        refine ar_bipush (k := 7) rfl (by decide) ?_
        refine ar_icmp_ne (k := 8) rfl (by omega) (by omega) (fun c8 => ?_) (fun c8 => ?_)
        · refine ar_ret (k := 21) rfl rfl rfl (Nat.le_refl _) ?_
          first
            | (exfalso; omega)
            | (rw [show pLoop (tpe s) e 38 (-2) (pFac (tpe s) e k) (f + 1) (p, false, o) = (p, false, o) by rw [pLoop, if_neg (by simp <;> omega)]]; exact ⟨rfl, J, rfl, hk⟩)
        · refine ar_aloadn (k := 9) rfl rfl ?_
          refine ar_dup (k := 10) rfl rfl ?_
          refine br_getI (k := 11) rfl (hS.k (by decide)) flR_42_12 (by decide) rfl ?_
          refine tw_top (y := p) (by exact hk.2.2.1) ?_
          refine ar_iconst (k := 12) rfl ?_
          refine ar_iadd (k := 13) rfl ?_
          refine br_putIJ (k := 14) rfl (hS.k (by decide)) flR_42_12 (by decide) rfl (fun _ _ _ q => by cases q; exact ⟨rfl, rfl⟩) (fun I14 e14 => ?_)
          change _ = uI _ 69 5 _ at e14
          have hk14 := pH.p5 hk e14 (y := p + 1) (by omega)
          refine ar_aloadn (k := 15) rfl rfl ?_
          have zz : pZ e (p + 1, false, o) := ⟨by show 0 ≤ p + 1; omega, by show p + 1 ≤ e; omega, by show (o.length : Int) ≤ p + 1; omega⟩
          have ok1 := (fun q z => pFac_ok hB k q z) (p + 1, false, o) zz
          refine ar_callV (k := 16) (as := []) rfl lvR_75 (hS.k (by decide)) rfl (hf (p + 1, false, o) _ hk14 zz (fun z => by have := z0 z; cases this)) rfl (by omega) (by decide) tw_m0 (Nat.le_of_ble_eq_true rfl) (fun r h' hp => ?_)
          obtain ⟨rfl, I16, rfl, hk16⟩ := hp
          refine ar_aloadn (k := 17) rfl rfl ?_
          refine ar_bipush (k := 18) rfl (by decide) ?_
          refine ar_callV (k := 19) (as := [_]) rfl lvR_78 (hS.k (by decide)) rfl (c_R_emits (x := -2) (q := pFac (tpe s) e k (p + 1, false, o)) hS hB hk16 ⟨(ok1.z zz).1, ok1.2.1⟩ ((ok1.z zz).l hB)) rfl (by omega) (by decide) tw_m0 (Nat.le_of_ble_eq_true rfl) (fun r h' hp => ?_)
          obtain ⟨rfl, I19, rfl, hk19⟩ := hp
          refine ar_goto (k := 20) rfl ?_
          rw [show pLoop (tpe s) e 38 (-2) (pFac (tpe s) e k) (f + 1) (p, false, o) = pLoop (tpe s) e 38 (-2) (pFac (tpe s) e k) f (pEmit (-2) (pFac (tpe s) e k (p + 1, false, o))) by rw [pLoop, if_pos ⟨rfl, by show pHere (tpe s) e p = _; omega⟩]]
          have ok2 : pOK e (p, false, o) (pEmit (-2) (pFac (tpe s) e k (p + 1, false, o))) := by
            obtain ⟨a1, a2, a3⟩ := ok1
            simp only at a1 a3
            exact pEmit_ok ⟨by simp only; omega, a2, by simp only; omega⟩ (fun _ => by simp only; omega)
          have ok3 := ok1.1
          simp only at ok3
          exact ih _ _ (by rw [show (pEmit (-2) (pFac (tpe s) e k (p + 1, false, o))).1 = (pFac (tpe s) e k (p + 1, false, o)).1 by unfold pEmit; split <;> rfl]; omega) hk19 (ok2.z z) (fun z => by have := z0 z; cases this)
    ·
      refine ar_aloadn (k := 2) rfl rfl ?_
      refine br_getI (k := 3) rfl (hS.k (by decide)) flR_48_12 (by decide) rfl ?_
      refine tw_top (y := 1) (by exact hk.2.2.2.2.1) ?_
      refine ar_if_ne (k := 4) rfl (by omega) (fun c4 => ?_) (fun c4 => ?_)
      · refine ar_ret (k := 21) rfl rfl rfl (Nat.le_refl _) ?_
        first
          | (exfalso; omega)
          | (rw [show pLoop (tpe s) e 38 (-2) (pFac (tpe s) e k) (f + 1) (p, true, o) = (p, true, o) by rw [pLoop, if_neg (by simp <;> omega)]]; exact ⟨rfl, J, rfl, hk⟩)
      · exfalso; omega
theorem c_R_every_of {k : Nat} (hS : tSt (K, J, Q, n)) (hB : pB s a e) (hf : ∀ (q : tP) (J : Nat → Int → Int), pH I J s a e (6 - (k : Int)) q → pZ e q → (k = 0 → q.2.1 = true) → tw_M l G (6 + 3 * k) 0 0 mR_factor [vr (some 69)] (K, J, Q, n) (fun r h' => r = none ∧ ∃ L, h' = (K, L, Q, n) ∧ pH I L s a e (6 - (k : Int)) (pFac (tpe s) e k q))) : ∀ (q : tP) (J : Nat → Int → Int), pH I J s a e (6 - (k : Int)) q → pZ e q → (k = 0 → q.2.1 = true) → tw_M l G (7 + 3 * k) 0 0 mR_every [vr (some 69)] (K, J, Q, n) (fun r h' => r = none ∧ ∃ L, h' = (K, L, Q, n) ∧ pH I L s a e (6 - (k : Int)) (pEv (tpe s) e (pFac (tpe s) e k) q)) := by
  intro q J hk z z0
  have ok1 := (fun q z => pFac_ok hB k q z) q z
  refine tw_intro okR_every (Nat.le_of_ble_eq_true rfl) ?_
  refine ar_aloadn (k := 0) rfl rfl ?_
  refine ar_callV (k := 1) (as := []) rfl lvR_75 (hS.k (by decide)) rfl (hf q _ hk z z0) rfl (by omega) (by decide) tw_m0 (Nat.le_of_ble_eq_true rfl) (fun r h' hp => ?_)
  obtain ⟨rfl, I1, rfl, hk1⟩ := hp
  exact l_R_every hS hB hf 101 _ _ (by have := hB.2.1; have := ok1.1; have := z.1; omega) hk1 (ok1.z z) (fun y => by subst y; exact z0 rfl)
theorem pLoop_w {t : Int → Int} {e c x : Int} {sub : tP → tP} {q : tP} (h : q.2.1 = true) : ∀ f, pLoop t e c x sub f q = q
  | 0 => rfl
  | f + 1 => by rw [pLoop, if_neg (by rw [h]; simp)]
theorem pEv_w {t : Int → Int} {e : Int} {q : tP} (h : q.2.1 = true) : (pEv t e (pFac t e 0) q).2.1 = true := by
  unfold pEv
  rw [pLoop_w (by exact h)]; exact h
theorem l_R_some {k : Nat} (hS : tSt (K, J, Q, n)) (hB : pB s a e) (hf : ∀ (q : tP) (J : Nat → Int → Int), pH I J s a e (6 - (k : Int)) q → pZ e q → (k = 0 → q.2.1 = true) → tw_M l G (7 + 3 * k) 0 0 mR_every [vr (some 69)] (K, J, Q, n) (fun r h' => r = none ∧ ∃ L, h' = (K, L, Q, n) ∧ pH I L s a e (6 - (k : Int)) (pEv (tpe s) e (pFac (tpe s) e k) q))) : ∀ (f : Nat) (q : tP) (J : Nat → Int → Int), e - q.1 < (f : Int) → pH I J s a e (6 - (k : Int)) q → pZ e q → (k = 0 → q.2.1 = true) → tw_AW l G mR_some (8 + 3 * k) 0 0 n 0 (fun r h' => r = none ∧ ∃ L, h' = (K, L, Q, n) ∧ pH I L s a e (6 - (k : Int)) (pLoop (tpe s) e 124 (-3) (pEv (tpe s) e (pFac (tpe s) e k)) f q)) 4 [(0, vr (some 69))] [] (K, J, Q, n) := by
  intro f
  induction f with
  | zero =>
    intro q J hf hk z
    exfalso; omega
  | succ f ih =>
    intro q J hl hk z z0
    obtain ⟨p, w, o⟩ := q
    obtain ⟨z1, z2, z3⟩ := id z
    simp only at z1 z2 z3 hl
    have hh0 := pHere_bd hB z1
    cases w
    ·
      refine ar_aloadn (k := 2) rfl rfl ?_
      refine br_getI (k := 3) rfl (hS.k (by decide)) flR_48_12 (by decide) rfl ?_
      refine tw_top (y := 0) (by exact hk.2.2.2.2.1) ?_
      refine ar_if_ne (k := 4) rfl (by omega) (fun c4 => ?_) (fun c4 => ?_)
      · refine ar_ret (k := 21) rfl rfl rfl (Nat.le_refl _) ?_
        first
          | (exfalso; omega)
          | (rw [show pLoop (tpe s) e 124 (-3) (pEv (tpe s) e (pFac (tpe s) e k)) (f + 1) (p, false, o) = (p, false, o) by rw [pLoop, if_neg (by simp <;> omega)]]; exact ⟨rfl, J, rfl, hk⟩)
      · refine ar_aloadn (k := 5) rfl rfl ?_
        refine br_callV (k := 6) (as := []) rfl lvR_52 (hS.k (by decide)) rfl (c_R_here (p := p) hS hB hk (by (constructor <;> (dsimp only; omega))) rfl) rfl (by omega) (by decide) tw_m0 (Nat.le_of_ble_eq_true rfl) ?_
        refine ar_bipush (k := 7) rfl (by decide) ?_
        refine ar_icmp_ne (k := 8) rfl (by omega) (by omega) (fun c8 => ?_) (fun c8 => ?_)
        · refine ar_ret (k := 21) rfl rfl rfl (Nat.le_refl _) ?_
          first
            | (exfalso; omega)
            | (rw [show pLoop (tpe s) e 124 (-3) (pEv (tpe s) e (pFac (tpe s) e k)) (f + 1) (p, false, o) = (p, false, o) by rw [pLoop, if_neg (by simp <;> omega)]]; exact ⟨rfl, J, rfl, hk⟩)
        · refine ar_aloadn (k := 9) rfl rfl ?_
          refine ar_dup (k := 10) rfl rfl ?_
          refine br_getI (k := 11) rfl (hS.k (by decide)) flR_42_12 (by decide) rfl ?_
          refine tw_top (y := p) (by exact hk.2.2.1) ?_
          refine ar_iconst (k := 12) rfl ?_
          refine ar_iadd (k := 13) rfl ?_
          refine br_putIJ (k := 14) rfl (hS.k (by decide)) flR_42_12 (by decide) rfl (fun _ _ _ q => by cases q; exact ⟨rfl, rfl⟩) (fun I14 e14 => ?_)
          change _ = uI _ 69 5 _ at e14
          have hk14 := pH.p5 hk e14 (y := p + 1) (by omega)
          refine ar_aloadn (k := 15) rfl rfl ?_
          have zz : pZ e (p + 1, false, o) := ⟨by show 0 ≤ p + 1; omega, by show p + 1 ≤ e; omega, by show (o.length : Int) ≤ p + 1; omega⟩
          have ok1 := (fun q z => pEv_ok hB (fun q z => pFac_ok hB k q z) z) (p + 1, false, o) zz
          refine ar_callV (k := 16) (as := []) rfl lvR_95 (hS.k (by decide)) rfl (hf (p + 1, false, o) _ hk14 zz (fun z => by have := z0 z; cases this)) rfl (by omega) (by decide) tw_m0 (Nat.le_of_ble_eq_true rfl) (fun r h' hp => ?_)
          obtain ⟨rfl, I16, rfl, hk16⟩ := hp
          refine ar_aloadn (k := 17) rfl rfl ?_
          refine ar_bipush (k := 18) rfl (by decide) ?_
          refine ar_callV (k := 19) (as := [_]) rfl lvR_78 (hS.k (by decide)) rfl (c_R_emits (x := -3) (q := pEv (tpe s) e (pFac (tpe s) e k) (p + 1, false, o)) hS hB hk16 ⟨(ok1.z zz).1, ok1.2.1⟩ ((ok1.z zz).l hB)) rfl (by omega) (by decide) tw_m0 (Nat.le_of_ble_eq_true rfl) (fun r h' hp => ?_)
          obtain ⟨rfl, I19, rfl, hk19⟩ := hp
          refine ar_goto (k := 20) rfl ?_
          rw [show pLoop (tpe s) e 124 (-3) (pEv (tpe s) e (pFac (tpe s) e k)) (f + 1) (p, false, o) = pLoop (tpe s) e 124 (-3) (pEv (tpe s) e (pFac (tpe s) e k)) f (pEmit (-3) (pEv (tpe s) e (pFac (tpe s) e k) (p + 1, false, o))) by rw [pLoop, if_pos ⟨rfl, by show pHere (tpe s) e p = _; omega⟩]]
          have ok2 : pOK e (p, false, o) (pEmit (-3) (pEv (tpe s) e (pFac (tpe s) e k) (p + 1, false, o))) := by
            obtain ⟨a1, a2, a3⟩ := ok1
            simp only at a1 a3
            exact pEmit_ok ⟨by simp only; omega, a2, by simp only; omega⟩ (fun _ => by simp only; omega)
          have ok3 := ok1.1
          simp only at ok3
          exact ih _ _ (by rw [show (pEmit (-3) (pEv (tpe s) e (pFac (tpe s) e k) (p + 1, false, o))).1 = (pEv (tpe s) e (pFac (tpe s) e k) (p + 1, false, o)).1 by unfold pEmit; split <;> rfl]; omega) hk19 (ok2.z z) (fun z => by have := z0 z; cases this)
    ·
      refine ar_aloadn (k := 2) rfl rfl ?_
      refine br_getI (k := 3) rfl (hS.k (by decide)) flR_48_12 (by decide) rfl ?_
      refine tw_top (y := 1) (by exact hk.2.2.2.2.1) ?_
      refine ar_if_ne (k := 4) rfl (by omega) (fun c4 => ?_) (fun c4 => ?_)
      · refine ar_ret (k := 21) rfl rfl rfl (Nat.le_refl _) ?_
        first
          | (exfalso; omega)
          | (rw [show pLoop (tpe s) e 124 (-3) (pEv (tpe s) e (pFac (tpe s) e k)) (f + 1) (p, true, o) = (p, true, o) by rw [pLoop, if_neg (by simp <;> omega)]]; exact ⟨rfl, J, rfl, hk⟩)
      · exfalso; omega
theorem c_R_some_of {k : Nat} (hS : tSt (K, J, Q, n)) (hB : pB s a e) (hf : ∀ (q : tP) (J : Nat → Int → Int), pH I J s a e (6 - (k : Int)) q → pZ e q → (k = 0 → q.2.1 = true) → tw_M l G (7 + 3 * k) 0 0 mR_every [vr (some 69)] (K, J, Q, n) (fun r h' => r = none ∧ ∃ L, h' = (K, L, Q, n) ∧ pH I L s a e (6 - (k : Int)) (pEv (tpe s) e (pFac (tpe s) e k) q))) : ∀ (q : tP) (J : Nat → Int → Int), pH I J s a e (6 - (k : Int)) q → pZ e q → (k = 0 → q.2.1 = true) → tw_M l G (8 + 3 * k) 0 0 mR_some [vr (some 69)] (K, J, Q, n) (fun r h' => r = none ∧ ∃ L, h' = (K, L, Q, n) ∧ pH I L s a e (6 - (k : Int)) (pSo (tpe s) e (pFac (tpe s) e k) q)) := by
  intro q J hk z z0
  have ok1 := (fun q z => pEv_ok hB (fun q z => pFac_ok hB k q z) z) q z
  refine tw_intro okR_some (Nat.le_of_ble_eq_true rfl) ?_
  refine ar_aloadn (k := 0) rfl rfl ?_
  refine ar_callV (k := 1) (as := []) rfl lvR_95 (hS.k (by decide)) rfl (hf q _ hk z z0) rfl (by omega) (by decide) tw_m0 (Nat.le_of_ble_eq_true rfl) (fun r h' hp => ?_)
  obtain ⟨rfl, I1, rfl, hk1⟩ := hp
  exact l_R_some hS hB hf 101 _ _ (by have := hB.2.1; have := ok1.1; have := z.1; omega) hk1 (ok1.z z) (fun y => by subst y; exact pEv_w (z0 rfl))
theorem pFE {t : Int → Int} {e x p : Int} {o : List Int} : pEmit x (pFig t e (p, true, o)).2 = (p, true, o) := by
  rw [pFig, if_pos (Or.inl rfl)]; rfl
theorem c_R_factor_t {k : Nat} {d : Nat} (hS : tSt (K, J, Q, n)) (hk : pH I J s a e op (p, true, o)) : tw_M l G d 0 0 mR_factor [vr (some 69)] (K, J, Q, n) (fun r h' => r = none ∧ ∃ L, h' = (K, L, Q, n) ∧ pH I L s a e op (pFac (tpe s) e k (p, true, o))) := by
  rw [show pFac (tpe s) e k (p, true, o) = (p, true, o) by cases k with | zero => rfl | succ k => rw [pFac_s, if_pos rfl]]
  refine tw_intro okR_factor (Nat.le_of_ble_eq_true rfl) ?_
  refine ar_aloadn (k := 0) rfl rfl ?_
  refine br_getI (k := 1) rfl (hS.k (by decide)) flR_48_12 (by decide) rfl ?_
  refine tw_top (y := 1) (by exact hk.2.2.2.2.1) ?_
  refine ar_if_eq (k := 2) rfl (by omega) (fun c2 => ?_) (fun c2 => ?_)
  · exfalso; omega
  · refine ar_ret (k := 3) rfl rfl rfl (Nat.le_refl _) ?_
    exact ⟨rfl, J, rfl, hk⟩
theorem c_R_factor_f {k : Nat} (k5 : k < 6) (hS : tSt (K, J, Q, n)) (hB : pB s a e) (hf : ∀ (q : tP) (J : Nat → Int → Int), pH I J s a e (6 - (k : Int)) q → pZ e q → (k = 0 → q.2.1 = true) → tw_M l G (6 + 3 * k) 0 0 mR_factor [vr (some 69)] (K, J, Q, n) (fun r h' => r = none ∧ ∃ L, h' = (K, L, Q, n) ∧ pH I L s a e (6 - (k : Int)) (pFac (tpe s) e k q))) (hk : pH I J s a e (5 - (k : Int)) (p, false, o)) (z : pZ e (p, false, o)) : tw_M l G (9 + 3 * k) 0 0 mR_factor [vr (some 69)] (K, J, Q, n) (fun r h' => r = none ∧ ∃ L, h' = (K, L, Q, n) ∧ pH I L s a e (5 - (k : Int)) (pFac (tpe s) e (k + 1) (p, false, o))) := by
  have hso := c_R_some_of hS hB (c_R_every_of hS hB hf)
  obtain ⟨z1, z2, z3⟩ := id z
  simp only at z1 z2 z3
  have hh0 := pHere_bd hB z1
  have ha2 := pAm_bd (j := 2) (by decide) hB z1
  have ha3 := pAm_bd (j := 3) (p := p + 1) (by decide) hB (by omega)
  rw [show sN 2 = 5 from rfl] at ha2
  rw [show sN 3 = 3 from rfl] at ha3
  refine tw_intro okR_factor (Nat.le_of_ble_eq_true rfl) ?_
  refine ar_aloadn (k := 0) rfl rfl ?_
  refine br_getI (k := 1) rfl (hS.k (by decide)) flR_48_12 (by decide) rfl ?_
  refine tw_top (y := 0) (by exact hk.2.2.2.2.1) ?_
  refine ar_if_eq (k := 2) rfl (by omega) (fun c2 => ?_) (fun c2 => ?_)
  · refine ar_aloadn (k := 4) rfl rfl ?_
    refine br_callV (k := 5) (as := []) rfl lvR_52 (hS.k (by decide)) rfl (c_R_here (p := p) hS hB hk (by (constructor <;> (dsimp only; omega))) rfl) rfl (by omega) (by decide) tw_m0 (Nat.le_of_ble_eq_true rfl) ?_
    refine ar_istoren (k := 6) (l2 := [(1, _), (0, _)]) rfl (by decide) rfl ?_
    refine ar_iloadn (k := 7) rfl rfl ?_
    refine ar_bipush (k := 8) rfl (by decide) ?_
    refine ar_icmp_eq (k := 9) rfl (by omega) (by omega) (fun c9 => ?_) (fun c9 => ?_)
    · refine ar_aloadn (k := 13) rfl rfl ?_
      refine ar_aloadn (k := 14) rfl rfl ?_
      refine br_getI (k := 15) rfl (hS.k (by decide)) flR_72_12 (by decide) rfl ?_
      refine tw_top (y := (5 - (k : Int))) (by exact hk.2.2.2.2.2.1) ?_
      refine ar_iconst (k := 16) rfl ?_
      refine ar_icmp_ne (k := 17) rfl (by omega) (by omega) (fun c17 => ?_) (fun c17 => ?_)
      · refine ar_iconst (k := 20) rfl ?_
        refine br_putZJ (k := 21) rfl (hS.k (by decide)) flR_48_12 (by decide) rfl (by omega) (fun _ _ _ q => by cases q; exact ⟨rfl, rfl⟩) (fun I21 e21 => ?_)
        change _ = uI _ 69 7 _ at e21
        have hk21 := pH.w7 hk e21 (y := false) (by rfl)
        refine ar_aloadn (k := 22) rfl rfl ?_
        refine ar_dup (k := 23) rfl rfl ?_
        refine br_getI (k := 24) rfl (hS.k (by decide)) flR_72_12 (by decide) rfl ?_
        refine tw_top (y := (5 - (k : Int))) (by exact hk21.2.2.2.2.2.1) ?_
        refine ar_iconst (k := 25) rfl ?_
        refine ar_iadd (k := 26) rfl ?_
        refine br_putIJ (k := 27) rfl (hS.k (by decide)) flR_72_12 (by decide) rfl (fun _ _ _ q => by cases q; exact ⟨rfl, rfl⟩) (fun I27 e27 => ?_)
        change _ = uI _ 69 8 _ at e27
        have hk27 := pH.o8 hk21 e27 (y := 6 - (k : Int)) (by omega)
        refine ar_aloadn (k := 28) rfl rfl ?_
        refine ar_dup (k := 29) rfl rfl ?_
        refine br_getI (k := 30) rfl (hS.k (by decide)) flR_42_12 (by decide) rfl ?_
        refine tw_top (y := p) (by exact hk27.2.2.1) ?_
        refine ar_aloadn (k := 31) rfl rfl ?_
        refine br_getI (k := 32) rfl (hS.k (by decide)) flR_48_12 (by decide) rfl ?_
        refine tw_top (y := 0) (by exact hk27.2.2.2.2.1) ?_
        refine ar_if_eq (k := 33) rfl (by omega) (fun c33 => ?_) (fun c33 => ?_)
        · refine ar_iconst (k := 36) rfl ?_
          refine ar_iadd (k := 37) rfl ?_
          refine br_putIJ (k := 38) rfl (hS.k (by decide)) flR_42_12 (by decide) rfl (fun _ _ _ q => by cases q; exact ⟨rfl, rfl⟩) (fun I38 e38 => ?_)
          change _ = uI _ 69 5 _ at e38
          have hk38 := pH.p5 hk27 e38 (y := p + 1) (by omega)
          refine ar_iloadn (k := 39) rfl rfl ?_
          refine ar_bipush (k := 40) rfl (by decide) ?_
          refine ar_icmp_ne (k := 41) rfl (by omega) (by omega) (fun c41 => ?_) (fun c41 => ?_)
          · refine ar_aloadn (k := 48) rfl rfl ?_
            have zz : pZ e ((p + 1), false, o) := ⟨by show 0 ≤ (p + 1); omega, by show (p + 1) ≤ e; omega, by show (o.length : Int) ≤ (p + 1); omega⟩
            have ok1 := pSo_ok hB (pFac_ok hB k) zz
            refine ar_callV (k := 49) (as := []) rfl lvR_81 (hS.k (by decide)) rfl (hso ((p + 1), false, o) _ hk38 zz (fun y => by first | rfl | (exfalso; omega))) rfl (by omega) (by decide) tw_m0 (Nat.le_of_ble_eq_true rfl) (fun r h' hp => ?_)
            obtain ⟨rfl, I49, rfl, hk49⟩ := hp
            refine ar_aloadn (k := 50) rfl rfl ?_
            refine ar_bipush (k := 51) rfl (by decide) ?_
            refine ar_callV (k := 52) (as := [_]) rfl lvR_65 (hS.k (by decide)) rfl (c_R_must (c := 41) hS hB hk49 ⟨(ok1.z zz).1, ok1.2.1⟩ (by decide)) rfl (by omega) (by decide) tw_m0 (Nat.le_of_ble_eq_true rfl) (fun r h' hp => ?_)
            obtain ⟨rfl, I52, rfl, hk52⟩ := hp
            refine ar_aloadn (k := 53) rfl rfl ?_
            refine ar_dup (k := 54) rfl rfl ?_
            refine br_getI (k := 55) rfl (hS.k (by decide)) flR_72_12 (by decide) rfl ?_
            refine tw_top (y := (6 - (k : Int))) (by exact hk52.2.2.2.2.2.1) ?_
            refine ar_iconst (k := 56) rfl ?_
            refine ar_isub (k := 57) rfl ?_
            refine br_putIJ (k := 58) rfl (hS.k (by decide)) flR_72_12 (by decide) rfl (fun _ _ _ q => by cases q; exact ⟨rfl, rfl⟩) (fun I58 e58 => ?_)
            change _ = uI _ 69 8 _ at e58
            have hk58 := pH.o8 hk52 e58 (y := 5 - (k : Int)) (by omega)
            refine ar_ret (k := 59) rfl rfl rfl (Nat.le_refl _) ?_
            first
              | (exfalso; omega)
              | (refine ⟨rfl, I58, rfl, ?_⟩; rw [pFac_s, if_neg (by simp), if_pos (by simp only; omega), if_pos (by omega)]; exact hk58)
              | (refine ⟨rfl, I58, rfl, ?_⟩; rw [pFac_s, if_neg (by simp), if_pos (by simp only; omega), if_neg (by omega)]; exact hk58)
              | (refine ⟨rfl, I58, rfl, ?_⟩; rw [pFac_s, if_neg (by simp), if_neg (by simp only; omega), if_pos (by simp only; omega), if_pos (by omega)]; exact hk58)
              | (refine ⟨rfl, I58, rfl, ?_⟩; rw [pFac_s, if_neg (by simp), if_neg (by simp only; omega), if_pos (by simp only; omega), if_neg (by omega)]; exact hk58)
              | (refine ⟨rfl, I58, rfl, ?_⟩; rw [pFE] at hk58; rw [pFac_s, if_neg (by simp), if_neg (by simp only; omega), if_neg (by simp only; omega), pTst, if_pos (by simp only; omega)]; exact hk58)
              | (refine ⟨rfl, I58, rfl, ?_⟩; rw [pFE] at hk58; rw [pFac_s, if_neg (by simp), if_neg (by simp only; omega), if_neg (by simp only; omega), pTst, if_neg (by simp only; omega), if_pos (by simp only; omega)]; exact hk58)
              | (refine ⟨rfl, I58, rfl, ?_⟩; rw [pFac_s, if_neg (by simp), if_neg (by simp only; omega), if_neg (by simp only; omega), pTst, if_neg (by simp only; omega), if_neg (by simp only; omega)]; exact hk58)
          · refine ar_aloadn (k := 42) rfl rfl ?_
            have zz : pZ e ((p + 1), false, o) := ⟨by show 0 ≤ (p + 1); omega, by show (p + 1) ≤ e; omega, by show (o.length : Int) ≤ (p + 1); omega⟩
            have ok1 := pFac_ok hB k ((p + 1), false, o) zz
            refine ar_callV (k := 43) (as := []) rfl lvR_75 (hS.k (by decide)) rfl (hf ((p + 1), false, o) _ hk38 zz (fun y => by first | rfl | (exfalso; omega))) rfl (by omega) (by decide) tw_m0 (Nat.le_of_ble_eq_true rfl) (fun r h' hp => ?_)
            obtain ⟨rfl, I43, rfl, hk43⟩ := hp
            refine ar_aloadn (k := 44) rfl rfl ?_
            refine ar_iconst (k := 45) rfl ?_
            refine ar_callV (k := 46) (as := [_]) rfl lvR_78 (hS.k (by decide)) rfl (c_R_emits (x := -1) hS hB hk43 ⟨(ok1.z zz).1, ok1.2.1⟩ ((ok1.z zz).l hB)) rfl (by omega) (by decide) tw_m0 (Nat.le_of_ble_eq_true rfl) (fun r h' hp => ?_)
            obtain ⟨rfl, I46, rfl, hk46⟩ := hp
            refine ar_goto (k := 47) rfl ?_
            refine ar_aloadn (k := 53) rfl rfl ?_
            refine ar_dup (k := 54) rfl rfl ?_
            refine br_getI (k := 55) rfl (hS.k (by decide)) flR_72_12 (by decide) rfl ?_
            refine tw_top (y := (6 - (k : Int))) (by exact hk46.2.2.2.2.2.1) ?_
            refine ar_iconst (k := 56) rfl ?_
            refine ar_isub (k := 57) rfl ?_
            refine br_putIJ (k := 58) rfl (hS.k (by decide)) flR_72_12 (by decide) rfl (fun _ _ _ q => by cases q; exact ⟨rfl, rfl⟩) (fun I58 e58 => ?_)
            change _ = uI _ 69 8 _ at e58
            have hk58 := pH.o8 hk46 e58 (y := 5 - (k : Int)) (by omega)
            refine ar_ret (k := 59) rfl rfl rfl (Nat.le_refl _) ?_
            first
              | (exfalso; omega)
              | (refine ⟨rfl, I58, rfl, ?_⟩; rw [pFac_s, if_neg (by simp), if_pos (by simp only; omega), if_pos (by omega)]; exact hk58)
              | (refine ⟨rfl, I58, rfl, ?_⟩; rw [pFac_s, if_neg (by simp), if_pos (by simp only; omega), if_neg (by omega)]; exact hk58)
              | (refine ⟨rfl, I58, rfl, ?_⟩; rw [pFac_s, if_neg (by simp), if_neg (by simp only; omega), if_pos (by simp only; omega), if_pos (by omega)]; exact hk58)
              | (refine ⟨rfl, I58, rfl, ?_⟩; rw [pFac_s, if_neg (by simp), if_neg (by simp only; omega), if_pos (by simp only; omega), if_neg (by omega)]; exact hk58)
              | (refine ⟨rfl, I58, rfl, ?_⟩; rw [pFE] at hk58; rw [pFac_s, if_neg (by simp), if_neg (by simp only; omega), if_neg (by simp only; omega), pTst, if_pos (by simp only; omega)]; exact hk58)
              | (refine ⟨rfl, I58, rfl, ?_⟩; rw [pFE] at hk58; rw [pFac_s, if_neg (by simp), if_neg (by simp only; omega), if_neg (by simp only; omega), pTst, if_neg (by simp only; omega), if_pos (by simp only; omega)]; exact hk58)
              | (refine ⟨rfl, I58, rfl, ?_⟩; rw [pFac_s, if_neg (by simp), if_neg (by simp only; omega), if_neg (by simp only; omega), pTst, if_neg (by simp only; omega), if_neg (by simp only; omega)]; exact hk58)
        · refine ar_iconst (k := 34) rfl ?_
          refine ar_goto (k := 35) rfl ?_
          refine ar_iadd (k := 37) rfl ?_
          refine br_putIJ (k := 38) rfl (hS.k (by decide)) flR_42_12 (by decide) rfl (fun _ _ _ q => by cases q; exact ⟨rfl, rfl⟩) (fun I38 e38 => ?_)
          change _ = uI _ 69 5 _ at e38
          have hk38 := pH.p5 hk27 e38 (y := p) (by omega)
          refine ar_iloadn (k := 39) rfl rfl ?_
          refine ar_bipush (k := 40) rfl (by decide) ?_
          refine ar_icmp_ne (k := 41) rfl (by omega) (by omega) (fun c41 => ?_) (fun c41 => ?_)
          · refine ar_aloadn (k := 48) rfl rfl ?_
            have zz : pZ e ((p), false, o) := ⟨by show 0 ≤ (p); omega, by show (p) ≤ e; omega, by show (o.length : Int) ≤ (p); omega⟩
            have ok1 := pSo_ok hB (pFac_ok hB k) zz
            refine ar_callV (k := 49) (as := []) rfl lvR_81 (hS.k (by decide)) rfl (hso ((p), false, o) _ hk38 zz (fun y => by first | rfl | (exfalso; omega))) rfl (by omega) (by decide) tw_m0 (Nat.le_of_ble_eq_true rfl) (fun r h' hp => ?_)
            obtain ⟨rfl, I49, rfl, hk49⟩ := hp
            refine ar_aloadn (k := 50) rfl rfl ?_
            refine ar_bipush (k := 51) rfl (by decide) ?_
            refine ar_callV (k := 52) (as := [_]) rfl lvR_65 (hS.k (by decide)) rfl (c_R_must (c := 41) hS hB hk49 ⟨(ok1.z zz).1, ok1.2.1⟩ (by decide)) rfl (by omega) (by decide) tw_m0 (Nat.le_of_ble_eq_true rfl) (fun r h' hp => ?_)
            obtain ⟨rfl, I52, rfl, hk52⟩ := hp
            refine ar_aloadn (k := 53) rfl rfl ?_
            refine ar_dup (k := 54) rfl rfl ?_
            refine br_getI (k := 55) rfl (hS.k (by decide)) flR_72_12 (by decide) rfl ?_
            refine tw_top (y := (6 - (k : Int))) (by exact hk52.2.2.2.2.2.1) ?_
            refine ar_iconst (k := 56) rfl ?_
            refine ar_isub (k := 57) rfl ?_
            refine br_putIJ (k := 58) rfl (hS.k (by decide)) flR_72_12 (by decide) rfl (fun _ _ _ q => by cases q; exact ⟨rfl, rfl⟩) (fun I58 e58 => ?_)
            change _ = uI _ 69 8 _ at e58
            have hk58 := pH.o8 hk52 e58 (y := 5 - (k : Int)) (by omega)
            refine ar_ret (k := 59) rfl rfl rfl (Nat.le_refl _) ?_
            first
              | (exfalso; omega)
              | (refine ⟨rfl, I58, rfl, ?_⟩; rw [pFac_s, if_neg (by simp), if_pos (by simp only; omega), if_pos (by omega)]; exact hk58)
              | (refine ⟨rfl, I58, rfl, ?_⟩; rw [pFac_s, if_neg (by simp), if_pos (by simp only; omega), if_neg (by omega)]; exact hk58)
              | (refine ⟨rfl, I58, rfl, ?_⟩; rw [pFac_s, if_neg (by simp), if_neg (by simp only; omega), if_pos (by simp only; omega), if_pos (by omega)]; exact hk58)
              | (refine ⟨rfl, I58, rfl, ?_⟩; rw [pFac_s, if_neg (by simp), if_neg (by simp only; omega), if_pos (by simp only; omega), if_neg (by omega)]; exact hk58)
              | (refine ⟨rfl, I58, rfl, ?_⟩; rw [pFE] at hk58; rw [pFac_s, if_neg (by simp), if_neg (by simp only; omega), if_neg (by simp only; omega), pTst, if_pos (by simp only; omega)]; exact hk58)
              | (refine ⟨rfl, I58, rfl, ?_⟩; rw [pFE] at hk58; rw [pFac_s, if_neg (by simp), if_neg (by simp only; omega), if_neg (by simp only; omega), pTst, if_neg (by simp only; omega), if_pos (by simp only; omega)]; exact hk58)
              | (refine ⟨rfl, I58, rfl, ?_⟩; rw [pFac_s, if_neg (by simp), if_neg (by simp only; omega), if_neg (by simp only; omega), pTst, if_neg (by simp only; omega), if_neg (by simp only; omega)]; exact hk58)
          · refine ar_aloadn (k := 42) rfl rfl ?_
            have zz : pZ e ((p), false, o) := ⟨by show 0 ≤ (p); omega, by show (p) ≤ e; omega, by show (o.length : Int) ≤ (p); omega⟩
            have ok1 := pFac_ok hB k ((p), false, o) zz
            refine ar_callV (k := 43) (as := []) rfl lvR_75 (hS.k (by decide)) rfl (hf ((p), false, o) _ hk38 zz (fun y => by first | rfl | (exfalso; omega))) rfl (by omega) (by decide) tw_m0 (Nat.le_of_ble_eq_true rfl) (fun r h' hp => ?_)
            obtain ⟨rfl, I43, rfl, hk43⟩ := hp
            refine ar_aloadn (k := 44) rfl rfl ?_
            refine ar_iconst (k := 45) rfl ?_
            refine ar_callV (k := 46) (as := [_]) rfl lvR_78 (hS.k (by decide)) rfl (c_R_emits (x := -1) hS hB hk43 ⟨(ok1.z zz).1, ok1.2.1⟩ ((ok1.z zz).l hB)) rfl (by omega) (by decide) tw_m0 (Nat.le_of_ble_eq_true rfl) (fun r h' hp => ?_)
            obtain ⟨rfl, I46, rfl, hk46⟩ := hp
            refine ar_goto (k := 47) rfl ?_
            refine ar_aloadn (k := 53) rfl rfl ?_
            refine ar_dup (k := 54) rfl rfl ?_
            refine br_getI (k := 55) rfl (hS.k (by decide)) flR_72_12 (by decide) rfl ?_
            refine tw_top (y := (6 - (k : Int))) (by exact hk46.2.2.2.2.2.1) ?_
            refine ar_iconst (k := 56) rfl ?_
            refine ar_isub (k := 57) rfl ?_
            refine br_putIJ (k := 58) rfl (hS.k (by decide)) flR_72_12 (by decide) rfl (fun _ _ _ q => by cases q; exact ⟨rfl, rfl⟩) (fun I58 e58 => ?_)
            change _ = uI _ 69 8 _ at e58
            have hk58 := pH.o8 hk46 e58 (y := 5 - (k : Int)) (by omega)
            refine ar_ret (k := 59) rfl rfl rfl (Nat.le_refl _) ?_
            first
              | (exfalso; omega)
              | (refine ⟨rfl, I58, rfl, ?_⟩; rw [pFac_s, if_neg (by simp), if_pos (by simp only; omega), if_pos (by omega)]; exact hk58)
              | (refine ⟨rfl, I58, rfl, ?_⟩; rw [pFac_s, if_neg (by simp), if_pos (by simp only; omega), if_neg (by omega)]; exact hk58)
              | (refine ⟨rfl, I58, rfl, ?_⟩; rw [pFac_s, if_neg (by simp), if_neg (by simp only; omega), if_pos (by simp only; omega), if_pos (by omega)]; exact hk58)
              | (refine ⟨rfl, I58, rfl, ?_⟩; rw [pFac_s, if_neg (by simp), if_neg (by simp only; omega), if_pos (by simp only; omega), if_neg (by omega)]; exact hk58)
              | (refine ⟨rfl, I58, rfl, ?_⟩; rw [pFE] at hk58; rw [pFac_s, if_neg (by simp), if_neg (by simp only; omega), if_neg (by simp only; omega), pTst, if_pos (by simp only; omega)]; exact hk58)
              | (refine ⟨rfl, I58, rfl, ?_⟩; rw [pFE] at hk58; rw [pFac_s, if_neg (by simp), if_neg (by simp only; omega), if_neg (by simp only; omega), pTst, if_neg (by simp only; omega), if_pos (by simp only; omega)]; exact hk58)
              | (refine ⟨rfl, I58, rfl, ?_⟩; rw [pFac_s, if_neg (by simp), if_neg (by simp only; omega), if_neg (by simp only; omega), pTst, if_neg (by simp only; omega), if_neg (by simp only; omega)]; exact hk58)
      · refine ar_iconst (k := 18) rfl ?_
        refine ar_goto (k := 19) rfl ?_
        refine br_putZJ (k := 21) rfl (hS.k (by decide)) flR_48_12 (by decide) rfl (by omega) (fun _ _ _ q => by cases q; exact ⟨rfl, rfl⟩) (fun I21 e21 => ?_)
        change _ = uI _ 69 7 _ at e21
        have hk21 := pH.w7 hk e21 (y := true) (by rfl)
        refine ar_aloadn (k := 22) rfl rfl ?_
        refine ar_dup (k := 23) rfl rfl ?_
        refine br_getI (k := 24) rfl (hS.k (by decide)) flR_72_12 (by decide) rfl ?_
        refine tw_top (y := (5 - (k : Int))) (by exact hk21.2.2.2.2.2.1) ?_
        refine ar_iconst (k := 25) rfl ?_
        refine ar_iadd (k := 26) rfl ?_
        refine br_putIJ (k := 27) rfl (hS.k (by decide)) flR_72_12 (by decide) rfl (fun _ _ _ q => by cases q; exact ⟨rfl, rfl⟩) (fun I27 e27 => ?_)
        change _ = uI _ 69 8 _ at e27
        have hk27 := pH.o8 hk21 e27 (y := 6 - (k : Int)) (by omega)
        refine ar_aloadn (k := 28) rfl rfl ?_
        refine ar_dup (k := 29) rfl rfl ?_
        refine br_getI (k := 30) rfl (hS.k (by decide)) flR_42_12 (by decide) rfl ?_
        refine tw_top (y := p) (by exact hk27.2.2.1) ?_
        refine ar_aloadn (k := 31) rfl rfl ?_
        refine br_getI (k := 32) rfl (hS.k (by decide)) flR_48_12 (by decide) rfl ?_
        refine tw_top (y := 1) (by exact hk27.2.2.2.2.1) ?_
        refine ar_if_eq (k := 33) rfl (by omega) (fun c33 => ?_) (fun c33 => ?_)
        · refine ar_iconst (k := 36) rfl ?_
          refine ar_iadd (k := 37) rfl ?_
          refine br_putIJ (k := 38) rfl (hS.k (by decide)) flR_42_12 (by decide) rfl (fun _ _ _ q => by cases q; exact ⟨rfl, rfl⟩) (fun I38 e38 => ?_)
          change _ = uI _ 69 5 _ at e38
          have hk38 := pH.p5 hk27 e38 (y := p + 1) (by omega)
          refine ar_iloadn (k := 39) rfl rfl ?_
          refine ar_bipush (k := 40) rfl (by decide) ?_
          refine ar_icmp_ne (k := 41) rfl (by omega) (by omega) (fun c41 => ?_) (fun c41 => ?_)
          · refine ar_aloadn (k := 48) rfl rfl ?_
            have zz : pZ e ((p + 1), true, o) := ⟨by show 0 ≤ (p + 1); omega, by show (p + 1) ≤ e; omega, by show (o.length : Int) ≤ (p + 1); omega⟩
            have ok1 := pSo_ok hB (pFac_ok hB k) zz
            refine ar_callV (k := 49) (as := []) rfl lvR_81 (hS.k (by decide)) rfl (hso ((p + 1), true, o) _ hk38 zz (fun y => by first | rfl | (exfalso; omega))) rfl (by omega) (by decide) tw_m0 (Nat.le_of_ble_eq_true rfl) (fun r h' hp => ?_)
            obtain ⟨rfl, I49, rfl, hk49⟩ := hp
            refine ar_aloadn (k := 50) rfl rfl ?_
            refine ar_bipush (k := 51) rfl (by decide) ?_
            refine ar_callV (k := 52) (as := [_]) rfl lvR_65 (hS.k (by decide)) rfl (c_R_must (c := 41) hS hB hk49 ⟨(ok1.z zz).1, ok1.2.1⟩ (by decide)) rfl (by omega) (by decide) tw_m0 (Nat.le_of_ble_eq_true rfl) (fun r h' hp => ?_)
            obtain ⟨rfl, I52, rfl, hk52⟩ := hp
            refine ar_aloadn (k := 53) rfl rfl ?_
            refine ar_dup (k := 54) rfl rfl ?_
            refine br_getI (k := 55) rfl (hS.k (by decide)) flR_72_12 (by decide) rfl ?_
            refine tw_top (y := (6 - (k : Int))) (by exact hk52.2.2.2.2.2.1) ?_
            refine ar_iconst (k := 56) rfl ?_
            refine ar_isub (k := 57) rfl ?_
            refine br_putIJ (k := 58) rfl (hS.k (by decide)) flR_72_12 (by decide) rfl (fun _ _ _ q => by cases q; exact ⟨rfl, rfl⟩) (fun I58 e58 => ?_)
            change _ = uI _ 69 8 _ at e58
            have hk58 := pH.o8 hk52 e58 (y := 5 - (k : Int)) (by omega)
            refine ar_ret (k := 59) rfl rfl rfl (Nat.le_refl _) ?_
            first
              | (exfalso; omega)
              | (refine ⟨rfl, I58, rfl, ?_⟩; rw [pFac_s, if_neg (by simp), if_pos (by simp only; omega), if_pos (by omega)]; exact hk58)
              | (refine ⟨rfl, I58, rfl, ?_⟩; rw [pFac_s, if_neg (by simp), if_pos (by simp only; omega), if_neg (by omega)]; exact hk58)
              | (refine ⟨rfl, I58, rfl, ?_⟩; rw [pFac_s, if_neg (by simp), if_neg (by simp only; omega), if_pos (by simp only; omega), if_pos (by omega)]; exact hk58)
              | (refine ⟨rfl, I58, rfl, ?_⟩; rw [pFac_s, if_neg (by simp), if_neg (by simp only; omega), if_pos (by simp only; omega), if_neg (by omega)]; exact hk58)
              | (refine ⟨rfl, I58, rfl, ?_⟩; rw [pFE] at hk58; rw [pFac_s, if_neg (by simp), if_neg (by simp only; omega), if_neg (by simp only; omega), pTst, if_pos (by simp only; omega)]; exact hk58)
              | (refine ⟨rfl, I58, rfl, ?_⟩; rw [pFE] at hk58; rw [pFac_s, if_neg (by simp), if_neg (by simp only; omega), if_neg (by simp only; omega), pTst, if_neg (by simp only; omega), if_pos (by simp only; omega)]; exact hk58)
              | (refine ⟨rfl, I58, rfl, ?_⟩; rw [pFac_s, if_neg (by simp), if_neg (by simp only; omega), if_neg (by simp only; omega), pTst, if_neg (by simp only; omega), if_neg (by simp only; omega)]; exact hk58)
          · refine ar_aloadn (k := 42) rfl rfl ?_
            have zz : pZ e ((p + 1), true, o) := ⟨by show 0 ≤ (p + 1); omega, by show (p + 1) ≤ e; omega, by show (o.length : Int) ≤ (p + 1); omega⟩
            have ok1 := pFac_ok hB k ((p + 1), true, o) zz
            refine ar_callV (k := 43) (as := []) rfl lvR_75 (hS.k (by decide)) rfl (hf ((p + 1), true, o) _ hk38 zz (fun y => by first | rfl | (exfalso; omega))) rfl (by omega) (by decide) tw_m0 (Nat.le_of_ble_eq_true rfl) (fun r h' hp => ?_)
            obtain ⟨rfl, I43, rfl, hk43⟩ := hp
            refine ar_aloadn (k := 44) rfl rfl ?_
            refine ar_iconst (k := 45) rfl ?_
            refine ar_callV (k := 46) (as := [_]) rfl lvR_78 (hS.k (by decide)) rfl (c_R_emits (x := -1) hS hB hk43 ⟨(ok1.z zz).1, ok1.2.1⟩ ((ok1.z zz).l hB)) rfl (by omega) (by decide) tw_m0 (Nat.le_of_ble_eq_true rfl) (fun r h' hp => ?_)
            obtain ⟨rfl, I46, rfl, hk46⟩ := hp
            refine ar_goto (k := 47) rfl ?_
            refine ar_aloadn (k := 53) rfl rfl ?_
            refine ar_dup (k := 54) rfl rfl ?_
            refine br_getI (k := 55) rfl (hS.k (by decide)) flR_72_12 (by decide) rfl ?_
            refine tw_top (y := (6 - (k : Int))) (by exact hk46.2.2.2.2.2.1) ?_
            refine ar_iconst (k := 56) rfl ?_
            refine ar_isub (k := 57) rfl ?_
            refine br_putIJ (k := 58) rfl (hS.k (by decide)) flR_72_12 (by decide) rfl (fun _ _ _ q => by cases q; exact ⟨rfl, rfl⟩) (fun I58 e58 => ?_)
            change _ = uI _ 69 8 _ at e58
            have hk58 := pH.o8 hk46 e58 (y := 5 - (k : Int)) (by omega)
            refine ar_ret (k := 59) rfl rfl rfl (Nat.le_refl _) ?_
            first
              | (exfalso; omega)
              | (refine ⟨rfl, I58, rfl, ?_⟩; rw [pFac_s, if_neg (by simp), if_pos (by simp only; omega), if_pos (by omega)]; exact hk58)
              | (refine ⟨rfl, I58, rfl, ?_⟩; rw [pFac_s, if_neg (by simp), if_pos (by simp only; omega), if_neg (by omega)]; exact hk58)
              | (refine ⟨rfl, I58, rfl, ?_⟩; rw [pFac_s, if_neg (by simp), if_neg (by simp only; omega), if_pos (by simp only; omega), if_pos (by omega)]; exact hk58)
              | (refine ⟨rfl, I58, rfl, ?_⟩; rw [pFac_s, if_neg (by simp), if_neg (by simp only; omega), if_pos (by simp only; omega), if_neg (by omega)]; exact hk58)
              | (refine ⟨rfl, I58, rfl, ?_⟩; rw [pFE] at hk58; rw [pFac_s, if_neg (by simp), if_neg (by simp only; omega), if_neg (by simp only; omega), pTst, if_pos (by simp only; omega)]; exact hk58)
              | (refine ⟨rfl, I58, rfl, ?_⟩; rw [pFE] at hk58; rw [pFac_s, if_neg (by simp), if_neg (by simp only; omega), if_neg (by simp only; omega), pTst, if_neg (by simp only; omega), if_pos (by simp only; omega)]; exact hk58)
              | (refine ⟨rfl, I58, rfl, ?_⟩; rw [pFac_s, if_neg (by simp), if_neg (by simp only; omega), if_neg (by simp only; omega), pTst, if_neg (by simp only; omega), if_neg (by simp only; omega)]; exact hk58)
        · refine ar_iconst (k := 34) rfl ?_
          refine ar_goto (k := 35) rfl ?_
          refine ar_iadd (k := 37) rfl ?_
          refine br_putIJ (k := 38) rfl (hS.k (by decide)) flR_42_12 (by decide) rfl (fun _ _ _ q => by cases q; exact ⟨rfl, rfl⟩) (fun I38 e38 => ?_)
          change _ = uI _ 69 5 _ at e38
          have hk38 := pH.p5 hk27 e38 (y := p) (by omega)
          refine ar_iloadn (k := 39) rfl rfl ?_
          refine ar_bipush (k := 40) rfl (by decide) ?_
          refine ar_icmp_ne (k := 41) rfl (by omega) (by omega) (fun c41 => ?_) (fun c41 => ?_)
          · refine ar_aloadn (k := 48) rfl rfl ?_
            have zz : pZ e ((p), true, o) := ⟨by show 0 ≤ (p); omega, by show (p) ≤ e; omega, by show (o.length : Int) ≤ (p); omega⟩
            have ok1 := pSo_ok hB (pFac_ok hB k) zz
            refine ar_callV (k := 49) (as := []) rfl lvR_81 (hS.k (by decide)) rfl (hso ((p), true, o) _ hk38 zz (fun y => by first | rfl | (exfalso; omega))) rfl (by omega) (by decide) tw_m0 (Nat.le_of_ble_eq_true rfl) (fun r h' hp => ?_)
            obtain ⟨rfl, I49, rfl, hk49⟩ := hp
            refine ar_aloadn (k := 50) rfl rfl ?_
            refine ar_bipush (k := 51) rfl (by decide) ?_
            refine ar_callV (k := 52) (as := [_]) rfl lvR_65 (hS.k (by decide)) rfl (c_R_must (c := 41) hS hB hk49 ⟨(ok1.z zz).1, ok1.2.1⟩ (by decide)) rfl (by omega) (by decide) tw_m0 (Nat.le_of_ble_eq_true rfl) (fun r h' hp => ?_)
            obtain ⟨rfl, I52, rfl, hk52⟩ := hp
            refine ar_aloadn (k := 53) rfl rfl ?_
            refine ar_dup (k := 54) rfl rfl ?_
            refine br_getI (k := 55) rfl (hS.k (by decide)) flR_72_12 (by decide) rfl ?_
            refine tw_top (y := (6 - (k : Int))) (by exact hk52.2.2.2.2.2.1) ?_
            refine ar_iconst (k := 56) rfl ?_
            refine ar_isub (k := 57) rfl ?_
            refine br_putIJ (k := 58) rfl (hS.k (by decide)) flR_72_12 (by decide) rfl (fun _ _ _ q => by cases q; exact ⟨rfl, rfl⟩) (fun I58 e58 => ?_)
            change _ = uI _ 69 8 _ at e58
            have hk58 := pH.o8 hk52 e58 (y := 5 - (k : Int)) (by omega)
            refine ar_ret (k := 59) rfl rfl rfl (Nat.le_refl _) ?_
            first
              | (exfalso; omega)
              | (refine ⟨rfl, I58, rfl, ?_⟩; rw [pFac_s, if_neg (by simp), if_pos (by simp only; omega), if_pos (by omega)]; exact hk58)
              | (refine ⟨rfl, I58, rfl, ?_⟩; rw [pFac_s, if_neg (by simp), if_pos (by simp only; omega), if_neg (by omega)]; exact hk58)
              | (refine ⟨rfl, I58, rfl, ?_⟩; rw [pFac_s, if_neg (by simp), if_neg (by simp only; omega), if_pos (by simp only; omega), if_pos (by omega)]; exact hk58)
              | (refine ⟨rfl, I58, rfl, ?_⟩; rw [pFac_s, if_neg (by simp), if_neg (by simp only; omega), if_pos (by simp only; omega), if_neg (by omega)]; exact hk58)
              | (refine ⟨rfl, I58, rfl, ?_⟩; rw [pFE] at hk58; rw [pFac_s, if_neg (by simp), if_neg (by simp only; omega), if_neg (by simp only; omega), pTst, if_pos (by simp only; omega)]; exact hk58)
              | (refine ⟨rfl, I58, rfl, ?_⟩; rw [pFE] at hk58; rw [pFac_s, if_neg (by simp), if_neg (by simp only; omega), if_neg (by simp only; omega), pTst, if_neg (by simp only; omega), if_pos (by simp only; omega)]; exact hk58)
              | (refine ⟨rfl, I58, rfl, ?_⟩; rw [pFac_s, if_neg (by simp), if_neg (by simp only; omega), if_neg (by simp only; omega), pTst, if_neg (by simp only; omega), if_neg (by simp only; omega)]; exact hk58)
          · refine ar_aloadn (k := 42) rfl rfl ?_
            have zz : pZ e ((p), true, o) := ⟨by show 0 ≤ (p); omega, by show (p) ≤ e; omega, by show (o.length : Int) ≤ (p); omega⟩
            have ok1 := pFac_ok hB k ((p), true, o) zz
            refine ar_callV (k := 43) (as := []) rfl lvR_75 (hS.k (by decide)) rfl (hf ((p), true, o) _ hk38 zz (fun y => by first | rfl | (exfalso; omega))) rfl (by omega) (by decide) tw_m0 (Nat.le_of_ble_eq_true rfl) (fun r h' hp => ?_)
            obtain ⟨rfl, I43, rfl, hk43⟩ := hp
            refine ar_aloadn (k := 44) rfl rfl ?_
            refine ar_iconst (k := 45) rfl ?_
            refine ar_callV (k := 46) (as := [_]) rfl lvR_78 (hS.k (by decide)) rfl (c_R_emits (x := -1) hS hB hk43 ⟨(ok1.z zz).1, ok1.2.1⟩ ((ok1.z zz).l hB)) rfl (by omega) (by decide) tw_m0 (Nat.le_of_ble_eq_true rfl) (fun r h' hp => ?_)
            obtain ⟨rfl, I46, rfl, hk46⟩ := hp
            refine ar_goto (k := 47) rfl ?_
            refine ar_aloadn (k := 53) rfl rfl ?_
            refine ar_dup (k := 54) rfl rfl ?_
            refine br_getI (k := 55) rfl (hS.k (by decide)) flR_72_12 (by decide) rfl ?_
            refine tw_top (y := (6 - (k : Int))) (by exact hk46.2.2.2.2.2.1) ?_
            refine ar_iconst (k := 56) rfl ?_
            refine ar_isub (k := 57) rfl ?_
            refine br_putIJ (k := 58) rfl (hS.k (by decide)) flR_72_12 (by decide) rfl (fun _ _ _ q => by cases q; exact ⟨rfl, rfl⟩) (fun I58 e58 => ?_)
            change _ = uI _ 69 8 _ at e58
            have hk58 := pH.o8 hk46 e58 (y := 5 - (k : Int)) (by omega)
            refine ar_ret (k := 59) rfl rfl rfl (Nat.le_refl _) ?_
            first
              | (exfalso; omega)
              | (refine ⟨rfl, I58, rfl, ?_⟩; rw [pFac_s, if_neg (by simp), if_pos (by simp only; omega), if_pos (by omega)]; exact hk58)
              | (refine ⟨rfl, I58, rfl, ?_⟩; rw [pFac_s, if_neg (by simp), if_pos (by simp only; omega), if_neg (by omega)]; exact hk58)
              | (refine ⟨rfl, I58, rfl, ?_⟩; rw [pFac_s, if_neg (by simp), if_neg (by simp only; omega), if_pos (by simp only; omega), if_pos (by omega)]; exact hk58)
              | (refine ⟨rfl, I58, rfl, ?_⟩; rw [pFac_s, if_neg (by simp), if_neg (by simp only; omega), if_pos (by simp only; omega), if_neg (by omega)]; exact hk58)
              | (refine ⟨rfl, I58, rfl, ?_⟩; rw [pFE] at hk58; rw [pFac_s, if_neg (by simp), if_neg (by simp only; omega), if_neg (by simp only; omega), pTst, if_pos (by simp only; omega)]; exact hk58)
              | (refine ⟨rfl, I58, rfl, ?_⟩; rw [pFE] at hk58; rw [pFac_s, if_neg (by simp), if_neg (by simp only; omega), if_neg (by simp only; omega), pTst, if_neg (by simp only; omega), if_pos (by simp only; omega)]; exact hk58)
              | (refine ⟨rfl, I58, rfl, ?_⟩; rw [pFac_s, if_neg (by simp), if_neg (by simp only; omega), if_neg (by simp only; omega), pTst, if_neg (by simp only; omega), if_neg (by simp only; omega)]; exact hk58)
    · refine ar_iloadn (k := 10) rfl rfl ?_
      refine ar_bipush (k := 11) rfl (by decide) ?_
      refine ar_icmp_ne (k := 12) rfl (by omega) (by omega) (fun c12 => ?_) (fun c12 => ?_)
      · refine ar_aloadn (k := 60) rfl rfl ?_
        refine ar_ldcS (k := 61) (tx := "hstkx") (j := 2) rfl (by decide) (by decide) ?_
        refine ar_callV (k := 62) (as := [_]) rfl lvR_86 (hS.k (by decide)) rfl (c_R_among (j := 2) (by decide) hS hB hk ⟨z1, z2⟩) rfl (by omega) (by decide) tw_m0 (Nat.le_of_ble_eq_true rfl) (fun r h' hp => ?_)
        obtain ⟨rfl, I62, rfl, hk62⟩ := hp
        refine tw_top (y := pAm (tpe s) e 2 p) rfl ?_
        refine ar_istoren (k := 63) (l2 := [(2, _), (1, _), (0, _)]) rfl (by decide) rfl ?_
        refine ar_aloadn (k := 64) rfl rfl ?_
        refine ar_iloadn (k := 65) rfl rfl ?_
        refine ar_iconst (k := 66) rfl ?_
        refine ar_icmp_ne (k := 67) rfl (by omega) (by omega) (fun c67 => ?_) (fun c67 => ?_)
        · have hk70 := pH.cp hk62 (p2 := p + 1) (if_neg (by omega))
          refine ar_iconst (k := 70) rfl ?_
          refine br_putZJ (k := 71) rfl (hS.k (by decide)) flR_48_12 (by decide) rfl (by omega) (fun _ _ _ q => by cases q; exact ⟨rfl, rfl⟩) (fun I71 e71 => ?_)
          change _ = uI _ 69 7 _ at e71
          have hk71 := pH.w7 hk70 e71 (y := false) (by rfl)
          refine ar_aloadn (k := 72) rfl rfl ?_
          refine br_getI (k := 73) rfl (hS.k (by decide)) flR_48_12 (by decide) rfl ?_
          refine tw_top (y := 0) (by exact hk71.2.2.2.2.1) ?_
          refine ar_if_eq (k := 74) rfl (by omega) (fun c74 => ?_) (fun c74 => ?_)
          · refine ar_aloadn (k := 77) rfl rfl ?_
            refine ar_ldcS (k := 78) (tx := "<=>") (j := 3) rfl (by decide) (by decide) ?_
            refine ar_callV (k := 79) (as := [_]) rfl lvR_86 (hS.k (by decide)) rfl (c_R_among (j := 3) (by decide) hS hB hk71 ⟨by simp only; omega, by simp only; omega⟩) rfl (by omega) (by decide) tw_m0 (Nat.le_of_ble_eq_true rfl) (fun r h' hp => ?_)
            obtain ⟨rfl, I79, rfl, hk79⟩ := hp
            refine tw_top (y := pAm (tpe s) e 3 (p + 1)) rfl ?_
            refine ar_istoren (k := 80) (l2 := [(3, _), (2, _), (1, _), (0, _)]) rfl (by decide) rfl ?_
            refine ar_aloadn (k := 81) rfl rfl ?_
            refine ar_aloadn (k := 82) rfl rfl ?_
            refine br_getI (k := 83) rfl (hS.k (by decide)) flR_48_12 (by decide) rfl ?_
            refine tw_top (y := 0) (by exact hk79.2.2.2.2.1) ?_
            refine ar_if_ne (k := 84) rfl (by omega) (fun c84 => ?_) (fun c84 => ?_)
            · exfalso; omega
            · refine ar_iloadn (k := 85) rfl rfl ?_
              refine ar_iconst (k := 86) rfl ?_
              refine ar_icmp_ne (k := 87) rfl (by omega) (by omega) (fun c87 => ?_) (fun c87 => ?_)
              · have hk90 := pH.cp hk79 (p2 := p + 2) (by rw [if_neg (by show ¬ pAm (tpe s) e 3 (p + 1) = -1; omega)]; show p + 1 + 1 = p + 2; omega)
                refine ar_iconst (k := 90) rfl ?_
                refine br_putZJ (k := 91) rfl (hS.k (by decide)) flR_48_12 (by decide) rfl (by omega) (fun _ _ _ q => by cases q; exact ⟨rfl, rfl⟩) (fun I91 e91 => ?_)
                change _ = uI _ 69 7 _ at e91
                have hk91 := pH.w7 hk90 e91 (y := false) (by rfl)
                refine ar_aloadn (k := 92) rfl rfl ?_
                have zf : 0 ≤ (p + 2) ∧ (p + 2) ≤ e := by omega
                refine ar_callV (k := 93) (as := []) rfl lvR_92 (hS.k (by decide)) rfl (c_R_figures hS hB hk91 (by exact zf)) rfl (by omega) (by decide) tw_m0 (Nat.le_of_ble_eq_true rfl) (fun r h' hp => ?_)
                obtain ⟨rfl, I93, rfl, hk93⟩ := hp
                obtain ⟨gf1, gf2, gf3, gf4, gf5⟩ := pFig_bd (q := ((p + 2), false, o)) hB (by exact zf)
                have zg : 0 ≤ (pFig (tpe s) e ((p + 2), false, o)).2.1 ∧ (pFig (tpe s) e ((p + 2), false, o)).2.1 ≤ e := ⟨by simp only at gf1; omega, gf2⟩
                refine ar_istore (k := 94) (l2 := [(4, _), (3, _), (2, _), (1, _), (0, _)]) rfl (by decide) rfl ?_
                refine ar_aloadn (k := 95) rfl rfl ?_
                refine ar_iloadn (k := 96) rfl rfl ?_
                refine ar_bipush (k := 97) rfl (by decide) ?_
                refine ar_iloadn (k := 98) rfl rfl ?_
                refine ar_imul (k := 99) rfl ?_
                refine ar_iadd (k := 100) rfl ?_
                refine ar_bipush (k := 101) rfl (by decide) ?_
                refine ar_iload (k := 102) rfl rfl ?_
                refine ar_imul (k := 103) rfl ?_
                refine ar_iadd (k := 104) rfl ?_
                refine ar_callV (k := 105) (as := [_]) rfl lvR_78 (hS.k (by decide)) rfl (c_R_emits hS hB hk93 zg (by rw [gf3]; show o.length < 140; have := hB.2.1; omega)) rfl (by omega) (by decide) tw_m0 (Nat.le_of_ble_eq_true rfl) (fun r h' hp => ?_)
                obtain ⟨rfl, I105, rfl, hk105⟩ := hp
                refine ar_ret (k := 106) rfl rfl rfl (Nat.le_refl _) ?_
                first
                  | (exfalso; omega)
                  | (refine ⟨rfl, I105, rfl, ?_⟩; rw [pFac_s, if_neg (by simp), if_pos (by simp only; omega), if_pos (by omega)]; exact hk105)
                  | (refine ⟨rfl, I105, rfl, ?_⟩; rw [pFac_s, if_neg (by simp), if_pos (by simp only; omega), if_neg (by omega)]; exact hk105)
                  | (refine ⟨rfl, I105, rfl, ?_⟩; rw [pFac_s, if_neg (by simp), if_neg (by simp only; omega), if_pos (by simp only; omega), if_pos (by omega)]; exact hk105)
                  | (refine ⟨rfl, I105, rfl, ?_⟩; rw [pFac_s, if_neg (by simp), if_neg (by simp only; omega), if_pos (by simp only; omega), if_neg (by omega)]; exact hk105)
                  | (refine ⟨rfl, I105, rfl, ?_⟩; rw [pFE] at hk105; rw [pFac_s, if_neg (by simp), if_neg (by simp only; omega), if_neg (by simp only; omega), pTst, if_pos (by simp only; omega)]; exact hk105)
                  | (refine ⟨rfl, I105, rfl, ?_⟩; rw [pFE] at hk105; rw [pFac_s, if_neg (by simp), if_neg (by simp only; omega), if_neg (by simp only; omega), pTst, if_neg (by simp only; omega), if_pos (by simp only; omega)]; exact hk105)
                  | (refine ⟨rfl, I105, rfl, ?_⟩; rw [pFac_s, if_neg (by simp), if_neg (by simp only; omega), if_neg (by simp only; omega), pTst, if_neg (by simp only; omega), if_neg (by simp only; omega)]; exact hk105)
              · have hk88 := pH.cp hk79 (p2 := p + 1) (if_pos (by show pAm (tpe s) e 3 (p + 1) = -1; omega))
                refine ar_iconst (k := 88) rfl ?_
                refine ar_goto (k := 89) rfl ?_
                refine br_putZJ (k := 91) rfl (hS.k (by decide)) flR_48_12 (by decide) rfl (by omega) (fun _ _ _ q => by cases q; exact ⟨rfl, rfl⟩) (fun I91 e91 => ?_)
                change _ = uI _ 69 7 _ at e91
                have hk91 := pH.w7 hk88 e91 (y := true) (by rfl)
                refine ar_aloadn (k := 92) rfl rfl ?_
                have zf : 0 ≤ (p + 1) ∧ (p + 1) ≤ e := by omega
                refine ar_callV (k := 93) (as := []) rfl lvR_92 (hS.k (by decide)) rfl (c_R_figures hS hB hk91 (by exact zf)) rfl (by omega) (by decide) tw_m0 (Nat.le_of_ble_eq_true rfl) (fun r h' hp => ?_)
                obtain ⟨rfl, I93, rfl, hk93⟩ := hp
                obtain ⟨gf1, gf2, gf3, gf4, gf5⟩ := pFig_bd (q := ((p + 1), true, o)) hB (by exact zf)
                have zg : 0 ≤ (pFig (tpe s) e ((p + 1), true, o)).2.1 ∧ (pFig (tpe s) e ((p + 1), true, o)).2.1 ≤ e := ⟨by simp only at gf1; omega, gf2⟩
                refine ar_istore (k := 94) (l2 := [(4, _), (3, _), (2, _), (1, _), (0, _)]) rfl (by decide) rfl ?_
                refine ar_aloadn (k := 95) rfl rfl ?_
                refine ar_iloadn (k := 96) rfl rfl ?_
                refine ar_bipush (k := 97) rfl (by decide) ?_
                refine ar_iloadn (k := 98) rfl rfl ?_
                refine ar_imul (k := 99) rfl ?_
                refine ar_iadd (k := 100) rfl ?_
                refine ar_bipush (k := 101) rfl (by decide) ?_
                refine ar_iload (k := 102) rfl rfl ?_
                refine ar_imul (k := 103) rfl ?_
                refine ar_iadd (k := 104) rfl ?_
                refine ar_callV (k := 105) (as := [_]) rfl lvR_78 (hS.k (by decide)) rfl (c_R_emits hS hB hk93 zg (by rw [gf3]; show o.length < 140; have := hB.2.1; omega)) rfl (by omega) (by decide) tw_m0 (Nat.le_of_ble_eq_true rfl) (fun r h' hp => ?_)
                obtain ⟨rfl, I105, rfl, hk105⟩ := hp
                refine ar_ret (k := 106) rfl rfl rfl (Nat.le_refl _) ?_
                first
                  | (exfalso; omega)
                  | (refine ⟨rfl, I105, rfl, ?_⟩; rw [pFac_s, if_neg (by simp), if_pos (by simp only; omega), if_pos (by omega)]; exact hk105)
                  | (refine ⟨rfl, I105, rfl, ?_⟩; rw [pFac_s, if_neg (by simp), if_pos (by simp only; omega), if_neg (by omega)]; exact hk105)
                  | (refine ⟨rfl, I105, rfl, ?_⟩; rw [pFac_s, if_neg (by simp), if_neg (by simp only; omega), if_pos (by simp only; omega), if_pos (by omega)]; exact hk105)
                  | (refine ⟨rfl, I105, rfl, ?_⟩; rw [pFac_s, if_neg (by simp), if_neg (by simp only; omega), if_pos (by simp only; omega), if_neg (by omega)]; exact hk105)
                  | (refine ⟨rfl, I105, rfl, ?_⟩; rw [pFE] at hk105; rw [pFac_s, if_neg (by simp), if_neg (by simp only; omega), if_neg (by simp only; omega), pTst, if_pos (by simp only; omega)]; exact hk105)
                  | (refine ⟨rfl, I105, rfl, ?_⟩; rw [pFE] at hk105; rw [pFac_s, if_neg (by simp), if_neg (by simp only; omega), if_neg (by simp only; omega), pTst, if_neg (by simp only; omega), if_pos (by simp only; omega)]; exact hk105)
                  | (refine ⟨rfl, I105, rfl, ?_⟩; rw [pFac_s, if_neg (by simp), if_neg (by simp only; omega), if_neg (by simp only; omega), pTst, if_neg (by simp only; omega), if_neg (by simp only; omega)]; exact hk105)
          · exfalso; omega
        · have hk68 := pH.cp hk62 (p2 := p) (if_pos (by show pAm (tpe s) e 2 p = -1; omega))
          refine ar_iconst (k := 68) rfl ?_
          refine ar_goto (k := 69) rfl ?_
          refine br_putZJ (k := 71) rfl (hS.k (by decide)) flR_48_12 (by decide) rfl (by omega) (fun _ _ _ q => by cases q; exact ⟨rfl, rfl⟩) (fun I71 e71 => ?_)
          change _ = uI _ 69 7 _ at e71
          have hk71 := pH.w7 hk68 e71 (y := true) (by rfl)
          refine ar_aloadn (k := 72) rfl rfl ?_
          refine br_getI (k := 73) rfl (hS.k (by decide)) flR_48_12 (by decide) rfl ?_
          refine tw_top (y := 1) (by exact hk71.2.2.2.2.1) ?_
          refine ar_if_eq (k := 74) rfl (by omega) (fun c74 => ?_) (fun c74 => ?_)
          · exfalso; omega
          · refine ar_iconst (k := 75) rfl ?_
            refine ar_goto (k := 76) rfl ?_
            refine ar_istoren (k := 80) (l2 := [(3, _), (2, _), (1, _), (0, _)]) rfl (by decide) rfl ?_
            refine ar_aloadn (k := 81) rfl rfl ?_
            refine ar_aloadn (k := 82) rfl rfl ?_
            refine br_getI (k := 83) rfl (hS.k (by decide)) flR_48_12 (by decide) rfl ?_
            refine tw_top (y := 1) (by exact hk71.2.2.2.2.1) ?_
            refine ar_if_ne (k := 84) rfl (by omega) (fun c84 => ?_) (fun c84 => ?_)
            · refine ar_iconst (k := 88) rfl ?_
              refine ar_goto (k := 89) rfl ?_
              refine br_putZJ (k := 91) rfl (hS.k (by decide)) flR_48_12 (by decide) rfl (by omega) (fun _ _ _ q => by cases q; exact ⟨rfl, rfl⟩) (fun I91 e91 => ?_)
              change _ = uI _ 69 7 _ at e91
              have hk91 := pH.w7 hk71 e91 (y := true) (by rfl)
              refine ar_aloadn (k := 92) rfl rfl ?_
              have zf : 0 ≤ p ∧ p ≤ e := by omega
              refine ar_callV (k := 93) (as := []) rfl lvR_92 (hS.k (by decide)) rfl (c_R_figures hS hB hk91 (by exact zf)) rfl (by omega) (by decide) tw_m0 (Nat.le_of_ble_eq_true rfl) (fun r h' hp => ?_)
              obtain ⟨rfl, I93, rfl, hk93⟩ := hp
              obtain ⟨gf1, gf2, gf3, gf4, gf5⟩ := pFig_bd (q := (p, true, o)) hB (by exact zf)
              have zg : 0 ≤ (pFig (tpe s) e (p, true, o)).2.1 ∧ (pFig (tpe s) e (p, true, o)).2.1 ≤ e := ⟨by simp only at gf1; omega, gf2⟩
              refine ar_istore (k := 94) (l2 := [(4, _), (3, _), (2, _), (1, _), (0, _)]) rfl (by decide) rfl ?_
              refine ar_aloadn (k := 95) rfl rfl ?_
              refine ar_iloadn (k := 96) rfl rfl ?_
              refine ar_bipush (k := 97) rfl (by decide) ?_
              refine ar_iloadn (k := 98) rfl rfl ?_
              refine ar_imul (k := 99) rfl ?_
              refine ar_iadd (k := 100) rfl ?_
              refine ar_bipush (k := 101) rfl (by decide) ?_
              refine ar_iload (k := 102) rfl rfl ?_
              refine ar_imul (k := 103) rfl ?_
              refine ar_iadd (k := 104) rfl ?_
              refine ar_callV (k := 105) (as := [_]) rfl lvR_78 (hS.k (by decide)) rfl (c_R_emits hS hB hk93 zg (by rw [gf3]; show o.length < 140; have := hB.2.1; omega)) rfl (by omega) (by decide) tw_m0 (Nat.le_of_ble_eq_true rfl) (fun r h' hp => ?_)
              obtain ⟨rfl, I105, rfl, hk105⟩ := hp
              refine ar_ret (k := 106) rfl rfl rfl (Nat.le_refl _) ?_
              first
                | (exfalso; omega)
                | (refine ⟨rfl, I105, rfl, ?_⟩; rw [pFac_s, if_neg (by simp), if_pos (by simp only; omega), if_pos (by omega)]; exact hk105)
                | (refine ⟨rfl, I105, rfl, ?_⟩; rw [pFac_s, if_neg (by simp), if_pos (by simp only; omega), if_neg (by omega)]; exact hk105)
                | (refine ⟨rfl, I105, rfl, ?_⟩; rw [pFac_s, if_neg (by simp), if_neg (by simp only; omega), if_pos (by simp only; omega), if_pos (by omega)]; exact hk105)
                | (refine ⟨rfl, I105, rfl, ?_⟩; rw [pFac_s, if_neg (by simp), if_neg (by simp only; omega), if_pos (by simp only; omega), if_neg (by omega)]; exact hk105)
                | (refine ⟨rfl, I105, rfl, ?_⟩; rw [pFE] at hk105; rw [pFac_s, if_neg (by simp), if_neg (by simp only; omega), if_neg (by simp only; omega), pTst, if_pos (by simp only; omega)]; exact hk105)
                | (refine ⟨rfl, I105, rfl, ?_⟩; rw [pFE] at hk105; rw [pFac_s, if_neg (by simp), if_neg (by simp only; omega), if_neg (by simp only; omega), pTst, if_neg (by simp only; omega), if_pos (by simp only; omega)]; exact hk105)
                | (refine ⟨rfl, I105, rfl, ?_⟩; rw [pFac_s, if_neg (by simp), if_neg (by simp only; omega), if_neg (by simp only; omega), pTst, if_neg (by simp only; omega), if_neg (by simp only; omega)]; exact hk105)
            · exfalso; omega
      · refine ar_aloadn (k := 13) rfl rfl ?_
        refine ar_aloadn (k := 14) rfl rfl ?_
        refine br_getI (k := 15) rfl (hS.k (by decide)) flR_72_12 (by decide) rfl ?_
        refine tw_top (y := (5 - (k : Int))) (by exact hk.2.2.2.2.2.1) ?_
        refine ar_iconst (k := 16) rfl ?_
        refine ar_icmp_ne (k := 17) rfl (by omega) (by omega) (fun c17 => ?_) (fun c17 => ?_)
        · refine ar_iconst (k := 20) rfl ?_
          refine br_putZJ (k := 21) rfl (hS.k (by decide)) flR_48_12 (by decide) rfl (by omega) (fun _ _ _ q => by cases q; exact ⟨rfl, rfl⟩) (fun I21 e21 => ?_)
          change _ = uI _ 69 7 _ at e21
          have hk21 := pH.w7 hk e21 (y := false) (by rfl)
          refine ar_aloadn (k := 22) rfl rfl ?_
          refine ar_dup (k := 23) rfl rfl ?_
          refine br_getI (k := 24) rfl (hS.k (by decide)) flR_72_12 (by decide) rfl ?_
          refine tw_top (y := (5 - (k : Int))) (by exact hk21.2.2.2.2.2.1) ?_
          refine ar_iconst (k := 25) rfl ?_
          refine ar_iadd (k := 26) rfl ?_
          refine br_putIJ (k := 27) rfl (hS.k (by decide)) flR_72_12 (by decide) rfl (fun _ _ _ q => by cases q; exact ⟨rfl, rfl⟩) (fun I27 e27 => ?_)
          change _ = uI _ 69 8 _ at e27
          have hk27 := pH.o8 hk21 e27 (y := 6 - (k : Int)) (by omega)
          refine ar_aloadn (k := 28) rfl rfl ?_
          refine ar_dup (k := 29) rfl rfl ?_
          refine br_getI (k := 30) rfl (hS.k (by decide)) flR_42_12 (by decide) rfl ?_
          refine tw_top (y := p) (by exact hk27.2.2.1) ?_
          refine ar_aloadn (k := 31) rfl rfl ?_
          refine br_getI (k := 32) rfl (hS.k (by decide)) flR_48_12 (by decide) rfl ?_
          refine tw_top (y := 0) (by exact hk27.2.2.2.2.1) ?_
          refine ar_if_eq (k := 33) rfl (by omega) (fun c33 => ?_) (fun c33 => ?_)
          · refine ar_iconst (k := 36) rfl ?_
            refine ar_iadd (k := 37) rfl ?_
            refine br_putIJ (k := 38) rfl (hS.k (by decide)) flR_42_12 (by decide) rfl (fun _ _ _ q => by cases q; exact ⟨rfl, rfl⟩) (fun I38 e38 => ?_)
            change _ = uI _ 69 5 _ at e38
            have hk38 := pH.p5 hk27 e38 (y := p + 1) (by omega)
            refine ar_iloadn (k := 39) rfl rfl ?_
            refine ar_bipush (k := 40) rfl (by decide) ?_
            refine ar_icmp_ne (k := 41) rfl (by omega) (by omega) (fun c41 => ?_) (fun c41 => ?_)
            · refine ar_aloadn (k := 48) rfl rfl ?_
              have zz : pZ e ((p + 1), false, o) := ⟨by show 0 ≤ (p + 1); omega, by show (p + 1) ≤ e; omega, by show (o.length : Int) ≤ (p + 1); omega⟩
              have ok1 := pSo_ok hB (pFac_ok hB k) zz
              refine ar_callV (k := 49) (as := []) rfl lvR_81 (hS.k (by decide)) rfl (hso ((p + 1), false, o) _ hk38 zz (fun y => by first | rfl | (exfalso; omega))) rfl (by omega) (by decide) tw_m0 (Nat.le_of_ble_eq_true rfl) (fun r h' hp => ?_)
              obtain ⟨rfl, I49, rfl, hk49⟩ := hp
              refine ar_aloadn (k := 50) rfl rfl ?_
              refine ar_bipush (k := 51) rfl (by decide) ?_
              refine ar_callV (k := 52) (as := [_]) rfl lvR_65 (hS.k (by decide)) rfl (c_R_must (c := 41) hS hB hk49 ⟨(ok1.z zz).1, ok1.2.1⟩ (by decide)) rfl (by omega) (by decide) tw_m0 (Nat.le_of_ble_eq_true rfl) (fun r h' hp => ?_)
              obtain ⟨rfl, I52, rfl, hk52⟩ := hp
              refine ar_aloadn (k := 53) rfl rfl ?_
              refine ar_dup (k := 54) rfl rfl ?_
              refine br_getI (k := 55) rfl (hS.k (by decide)) flR_72_12 (by decide) rfl ?_
              refine tw_top (y := (6 - (k : Int))) (by exact hk52.2.2.2.2.2.1) ?_
              refine ar_iconst (k := 56) rfl ?_
              refine ar_isub (k := 57) rfl ?_
              refine br_putIJ (k := 58) rfl (hS.k (by decide)) flR_72_12 (by decide) rfl (fun _ _ _ q => by cases q; exact ⟨rfl, rfl⟩) (fun I58 e58 => ?_)
              change _ = uI _ 69 8 _ at e58
              have hk58 := pH.o8 hk52 e58 (y := 5 - (k : Int)) (by omega)
              refine ar_ret (k := 59) rfl rfl rfl (Nat.le_refl _) ?_
              first
                | (exfalso; omega)
                | (refine ⟨rfl, I58, rfl, ?_⟩; rw [pFac_s, if_neg (by simp), if_pos (by simp only; omega), if_pos (by omega)]; exact hk58)
                | (refine ⟨rfl, I58, rfl, ?_⟩; rw [pFac_s, if_neg (by simp), if_pos (by simp only; omega), if_neg (by omega)]; exact hk58)
                | (refine ⟨rfl, I58, rfl, ?_⟩; rw [pFac_s, if_neg (by simp), if_neg (by simp only; omega), if_pos (by simp only; omega), if_pos (by omega)]; exact hk58)
                | (refine ⟨rfl, I58, rfl, ?_⟩; rw [pFac_s, if_neg (by simp), if_neg (by simp only; omega), if_pos (by simp only; omega), if_neg (by omega)]; exact hk58)
                | (refine ⟨rfl, I58, rfl, ?_⟩; rw [pFE] at hk58; rw [pFac_s, if_neg (by simp), if_neg (by simp only; omega), if_neg (by simp only; omega), pTst, if_pos (by simp only; omega)]; exact hk58)
                | (refine ⟨rfl, I58, rfl, ?_⟩; rw [pFE] at hk58; rw [pFac_s, if_neg (by simp), if_neg (by simp only; omega), if_neg (by simp only; omega), pTst, if_neg (by simp only; omega), if_pos (by simp only; omega)]; exact hk58)
                | (refine ⟨rfl, I58, rfl, ?_⟩; rw [pFac_s, if_neg (by simp), if_neg (by simp only; omega), if_neg (by simp only; omega), pTst, if_neg (by simp only; omega), if_neg (by simp only; omega)]; exact hk58)
            · refine ar_aloadn (k := 42) rfl rfl ?_
              have zz : pZ e ((p + 1), false, o) := ⟨by show 0 ≤ (p + 1); omega, by show (p + 1) ≤ e; omega, by show (o.length : Int) ≤ (p + 1); omega⟩
              have ok1 := pFac_ok hB k ((p + 1), false, o) zz
              refine ar_callV (k := 43) (as := []) rfl lvR_75 (hS.k (by decide)) rfl (hf ((p + 1), false, o) _ hk38 zz (fun y => by first | rfl | (exfalso; omega))) rfl (by omega) (by decide) tw_m0 (Nat.le_of_ble_eq_true rfl) (fun r h' hp => ?_)
              obtain ⟨rfl, I43, rfl, hk43⟩ := hp
              refine ar_aloadn (k := 44) rfl rfl ?_
              refine ar_iconst (k := 45) rfl ?_
              refine ar_callV (k := 46) (as := [_]) rfl lvR_78 (hS.k (by decide)) rfl (c_R_emits (x := -1) hS hB hk43 ⟨(ok1.z zz).1, ok1.2.1⟩ ((ok1.z zz).l hB)) rfl (by omega) (by decide) tw_m0 (Nat.le_of_ble_eq_true rfl) (fun r h' hp => ?_)
              obtain ⟨rfl, I46, rfl, hk46⟩ := hp
              refine ar_goto (k := 47) rfl ?_
              refine ar_aloadn (k := 53) rfl rfl ?_
              refine ar_dup (k := 54) rfl rfl ?_
              refine br_getI (k := 55) rfl (hS.k (by decide)) flR_72_12 (by decide) rfl ?_
              refine tw_top (y := (6 - (k : Int))) (by exact hk46.2.2.2.2.2.1) ?_
              refine ar_iconst (k := 56) rfl ?_
              refine ar_isub (k := 57) rfl ?_
              refine br_putIJ (k := 58) rfl (hS.k (by decide)) flR_72_12 (by decide) rfl (fun _ _ _ q => by cases q; exact ⟨rfl, rfl⟩) (fun I58 e58 => ?_)
              change _ = uI _ 69 8 _ at e58
              have hk58 := pH.o8 hk46 e58 (y := 5 - (k : Int)) (by omega)
              refine ar_ret (k := 59) rfl rfl rfl (Nat.le_refl _) ?_
              first
                | (exfalso; omega)
                | (refine ⟨rfl, I58, rfl, ?_⟩; rw [pFac_s, if_neg (by simp), if_pos (by simp only; omega), if_pos (by omega)]; exact hk58)
                | (refine ⟨rfl, I58, rfl, ?_⟩; rw [pFac_s, if_neg (by simp), if_pos (by simp only; omega), if_neg (by omega)]; exact hk58)
                | (refine ⟨rfl, I58, rfl, ?_⟩; rw [pFac_s, if_neg (by simp), if_neg (by simp only; omega), if_pos (by simp only; omega), if_pos (by omega)]; exact hk58)
                | (refine ⟨rfl, I58, rfl, ?_⟩; rw [pFac_s, if_neg (by simp), if_neg (by simp only; omega), if_pos (by simp only; omega), if_neg (by omega)]; exact hk58)
                | (refine ⟨rfl, I58, rfl, ?_⟩; rw [pFE] at hk58; rw [pFac_s, if_neg (by simp), if_neg (by simp only; omega), if_neg (by simp only; omega), pTst, if_pos (by simp only; omega)]; exact hk58)
                | (refine ⟨rfl, I58, rfl, ?_⟩; rw [pFE] at hk58; rw [pFac_s, if_neg (by simp), if_neg (by simp only; omega), if_neg (by simp only; omega), pTst, if_neg (by simp only; omega), if_pos (by simp only; omega)]; exact hk58)
                | (refine ⟨rfl, I58, rfl, ?_⟩; rw [pFac_s, if_neg (by simp), if_neg (by simp only; omega), if_neg (by simp only; omega), pTst, if_neg (by simp only; omega), if_neg (by simp only; omega)]; exact hk58)
          · refine ar_iconst (k := 34) rfl ?_
            refine ar_goto (k := 35) rfl ?_
            refine ar_iadd (k := 37) rfl ?_
            refine br_putIJ (k := 38) rfl (hS.k (by decide)) flR_42_12 (by decide) rfl (fun _ _ _ q => by cases q; exact ⟨rfl, rfl⟩) (fun I38 e38 => ?_)
            change _ = uI _ 69 5 _ at e38
            have hk38 := pH.p5 hk27 e38 (y := p) (by omega)
            refine ar_iloadn (k := 39) rfl rfl ?_
            refine ar_bipush (k := 40) rfl (by decide) ?_
            refine ar_icmp_ne (k := 41) rfl (by omega) (by omega) (fun c41 => ?_) (fun c41 => ?_)
            · refine ar_aloadn (k := 48) rfl rfl ?_
              have zz : pZ e ((p), false, o) := ⟨by show 0 ≤ (p); omega, by show (p) ≤ e; omega, by show (o.length : Int) ≤ (p); omega⟩
              have ok1 := pSo_ok hB (pFac_ok hB k) zz
              refine ar_callV (k := 49) (as := []) rfl lvR_81 (hS.k (by decide)) rfl (hso ((p), false, o) _ hk38 zz (fun y => by first | rfl | (exfalso; omega))) rfl (by omega) (by decide) tw_m0 (Nat.le_of_ble_eq_true rfl) (fun r h' hp => ?_)
              obtain ⟨rfl, I49, rfl, hk49⟩ := hp
              refine ar_aloadn (k := 50) rfl rfl ?_
              refine ar_bipush (k := 51) rfl (by decide) ?_
              refine ar_callV (k := 52) (as := [_]) rfl lvR_65 (hS.k (by decide)) rfl (c_R_must (c := 41) hS hB hk49 ⟨(ok1.z zz).1, ok1.2.1⟩ (by decide)) rfl (by omega) (by decide) tw_m0 (Nat.le_of_ble_eq_true rfl) (fun r h' hp => ?_)
              obtain ⟨rfl, I52, rfl, hk52⟩ := hp
              refine ar_aloadn (k := 53) rfl rfl ?_
              refine ar_dup (k := 54) rfl rfl ?_
              refine br_getI (k := 55) rfl (hS.k (by decide)) flR_72_12 (by decide) rfl ?_
              refine tw_top (y := (6 - (k : Int))) (by exact hk52.2.2.2.2.2.1) ?_
              refine ar_iconst (k := 56) rfl ?_
              refine ar_isub (k := 57) rfl ?_
              refine br_putIJ (k := 58) rfl (hS.k (by decide)) flR_72_12 (by decide) rfl (fun _ _ _ q => by cases q; exact ⟨rfl, rfl⟩) (fun I58 e58 => ?_)
              change _ = uI _ 69 8 _ at e58
              have hk58 := pH.o8 hk52 e58 (y := 5 - (k : Int)) (by omega)
              refine ar_ret (k := 59) rfl rfl rfl (Nat.le_refl _) ?_
              first
                | (exfalso; omega)
                | (refine ⟨rfl, I58, rfl, ?_⟩; rw [pFac_s, if_neg (by simp), if_pos (by simp only; omega), if_pos (by omega)]; exact hk58)
                | (refine ⟨rfl, I58, rfl, ?_⟩; rw [pFac_s, if_neg (by simp), if_pos (by simp only; omega), if_neg (by omega)]; exact hk58)
                | (refine ⟨rfl, I58, rfl, ?_⟩; rw [pFac_s, if_neg (by simp), if_neg (by simp only; omega), if_pos (by simp only; omega), if_pos (by omega)]; exact hk58)
                | (refine ⟨rfl, I58, rfl, ?_⟩; rw [pFac_s, if_neg (by simp), if_neg (by simp only; omega), if_pos (by simp only; omega), if_neg (by omega)]; exact hk58)
                | (refine ⟨rfl, I58, rfl, ?_⟩; rw [pFE] at hk58; rw [pFac_s, if_neg (by simp), if_neg (by simp only; omega), if_neg (by simp only; omega), pTst, if_pos (by simp only; omega)]; exact hk58)
                | (refine ⟨rfl, I58, rfl, ?_⟩; rw [pFE] at hk58; rw [pFac_s, if_neg (by simp), if_neg (by simp only; omega), if_neg (by simp only; omega), pTst, if_neg (by simp only; omega), if_pos (by simp only; omega)]; exact hk58)
                | (refine ⟨rfl, I58, rfl, ?_⟩; rw [pFac_s, if_neg (by simp), if_neg (by simp only; omega), if_neg (by simp only; omega), pTst, if_neg (by simp only; omega), if_neg (by simp only; omega)]; exact hk58)
            · refine ar_aloadn (k := 42) rfl rfl ?_
              have zz : pZ e ((p), false, o) := ⟨by show 0 ≤ (p); omega, by show (p) ≤ e; omega, by show (o.length : Int) ≤ (p); omega⟩
              have ok1 := pFac_ok hB k ((p), false, o) zz
              refine ar_callV (k := 43) (as := []) rfl lvR_75 (hS.k (by decide)) rfl (hf ((p), false, o) _ hk38 zz (fun y => by first | rfl | (exfalso; omega))) rfl (by omega) (by decide) tw_m0 (Nat.le_of_ble_eq_true rfl) (fun r h' hp => ?_)
              obtain ⟨rfl, I43, rfl, hk43⟩ := hp
              refine ar_aloadn (k := 44) rfl rfl ?_
              refine ar_iconst (k := 45) rfl ?_
              refine ar_callV (k := 46) (as := [_]) rfl lvR_78 (hS.k (by decide)) rfl (c_R_emits (x := -1) hS hB hk43 ⟨(ok1.z zz).1, ok1.2.1⟩ ((ok1.z zz).l hB)) rfl (by omega) (by decide) tw_m0 (Nat.le_of_ble_eq_true rfl) (fun r h' hp => ?_)
              obtain ⟨rfl, I46, rfl, hk46⟩ := hp
              refine ar_goto (k := 47) rfl ?_
              refine ar_aloadn (k := 53) rfl rfl ?_
              refine ar_dup (k := 54) rfl rfl ?_
              refine br_getI (k := 55) rfl (hS.k (by decide)) flR_72_12 (by decide) rfl ?_
              refine tw_top (y := (6 - (k : Int))) (by exact hk46.2.2.2.2.2.1) ?_
              refine ar_iconst (k := 56) rfl ?_
              refine ar_isub (k := 57) rfl ?_
              refine br_putIJ (k := 58) rfl (hS.k (by decide)) flR_72_12 (by decide) rfl (fun _ _ _ q => by cases q; exact ⟨rfl, rfl⟩) (fun I58 e58 => ?_)
              change _ = uI _ 69 8 _ at e58
              have hk58 := pH.o8 hk46 e58 (y := 5 - (k : Int)) (by omega)
              refine ar_ret (k := 59) rfl rfl rfl (Nat.le_refl _) ?_
              first
                | (exfalso; omega)
                | (refine ⟨rfl, I58, rfl, ?_⟩; rw [pFac_s, if_neg (by simp), if_pos (by simp only; omega), if_pos (by omega)]; exact hk58)
                | (refine ⟨rfl, I58, rfl, ?_⟩; rw [pFac_s, if_neg (by simp), if_pos (by simp only; omega), if_neg (by omega)]; exact hk58)
                | (refine ⟨rfl, I58, rfl, ?_⟩; rw [pFac_s, if_neg (by simp), if_neg (by simp only; omega), if_pos (by simp only; omega), if_pos (by omega)]; exact hk58)
                | (refine ⟨rfl, I58, rfl, ?_⟩; rw [pFac_s, if_neg (by simp), if_neg (by simp only; omega), if_pos (by simp only; omega), if_neg (by omega)]; exact hk58)
                | (refine ⟨rfl, I58, rfl, ?_⟩; rw [pFE] at hk58; rw [pFac_s, if_neg (by simp), if_neg (by simp only; omega), if_neg (by simp only; omega), pTst, if_pos (by simp only; omega)]; exact hk58)
                | (refine ⟨rfl, I58, rfl, ?_⟩; rw [pFE] at hk58; rw [pFac_s, if_neg (by simp), if_neg (by simp only; omega), if_neg (by simp only; omega), pTst, if_neg (by simp only; omega), if_pos (by simp only; omega)]; exact hk58)
                | (refine ⟨rfl, I58, rfl, ?_⟩; rw [pFac_s, if_neg (by simp), if_neg (by simp only; omega), if_neg (by simp only; omega), pTst, if_neg (by simp only; omega), if_neg (by simp only; omega)]; exact hk58)
        · refine ar_iconst (k := 18) rfl ?_
          refine ar_goto (k := 19) rfl ?_
          refine br_putZJ (k := 21) rfl (hS.k (by decide)) flR_48_12 (by decide) rfl (by omega) (fun _ _ _ q => by cases q; exact ⟨rfl, rfl⟩) (fun I21 e21 => ?_)
          change _ = uI _ 69 7 _ at e21
          have hk21 := pH.w7 hk e21 (y := true) (by rfl)
          refine ar_aloadn (k := 22) rfl rfl ?_
          refine ar_dup (k := 23) rfl rfl ?_
          refine br_getI (k := 24) rfl (hS.k (by decide)) flR_72_12 (by decide) rfl ?_
          refine tw_top (y := (5 - (k : Int))) (by exact hk21.2.2.2.2.2.1) ?_
          refine ar_iconst (k := 25) rfl ?_
          refine ar_iadd (k := 26) rfl ?_
          refine br_putIJ (k := 27) rfl (hS.k (by decide)) flR_72_12 (by decide) rfl (fun _ _ _ q => by cases q; exact ⟨rfl, rfl⟩) (fun I27 e27 => ?_)
          change _ = uI _ 69 8 _ at e27
          have hk27 := pH.o8 hk21 e27 (y := 6 - (k : Int)) (by omega)
          refine ar_aloadn (k := 28) rfl rfl ?_
          refine ar_dup (k := 29) rfl rfl ?_
          refine br_getI (k := 30) rfl (hS.k (by decide)) flR_42_12 (by decide) rfl ?_
          refine tw_top (y := p) (by exact hk27.2.2.1) ?_
          refine ar_aloadn (k := 31) rfl rfl ?_
          refine br_getI (k := 32) rfl (hS.k (by decide)) flR_48_12 (by decide) rfl ?_
          refine tw_top (y := 1) (by exact hk27.2.2.2.2.1) ?_
          refine ar_if_eq (k := 33) rfl (by omega) (fun c33 => ?_) (fun c33 => ?_)
          · refine ar_iconst (k := 36) rfl ?_
            refine ar_iadd (k := 37) rfl ?_
            refine br_putIJ (k := 38) rfl (hS.k (by decide)) flR_42_12 (by decide) rfl (fun _ _ _ q => by cases q; exact ⟨rfl, rfl⟩) (fun I38 e38 => ?_)
            change _ = uI _ 69 5 _ at e38
            have hk38 := pH.p5 hk27 e38 (y := p + 1) (by omega)
            refine ar_iloadn (k := 39) rfl rfl ?_
            refine ar_bipush (k := 40) rfl (by decide) ?_
            refine ar_icmp_ne (k := 41) rfl (by omega) (by omega) (fun c41 => ?_) (fun c41 => ?_)
            · refine ar_aloadn (k := 48) rfl rfl ?_
              have zz : pZ e ((p + 1), true, o) := ⟨by show 0 ≤ (p + 1); omega, by show (p + 1) ≤ e; omega, by show (o.length : Int) ≤ (p + 1); omega⟩
              have ok1 := pSo_ok hB (pFac_ok hB k) zz
              refine ar_callV (k := 49) (as := []) rfl lvR_81 (hS.k (by decide)) rfl (hso ((p + 1), true, o) _ hk38 zz (fun y => by first | rfl | (exfalso; omega))) rfl (by omega) (by decide) tw_m0 (Nat.le_of_ble_eq_true rfl) (fun r h' hp => ?_)
              obtain ⟨rfl, I49, rfl, hk49⟩ := hp
              refine ar_aloadn (k := 50) rfl rfl ?_
              refine ar_bipush (k := 51) rfl (by decide) ?_
              refine ar_callV (k := 52) (as := [_]) rfl lvR_65 (hS.k (by decide)) rfl (c_R_must (c := 41) hS hB hk49 ⟨(ok1.z zz).1, ok1.2.1⟩ (by decide)) rfl (by omega) (by decide) tw_m0 (Nat.le_of_ble_eq_true rfl) (fun r h' hp => ?_)
              obtain ⟨rfl, I52, rfl, hk52⟩ := hp
              refine ar_aloadn (k := 53) rfl rfl ?_
              refine ar_dup (k := 54) rfl rfl ?_
              refine br_getI (k := 55) rfl (hS.k (by decide)) flR_72_12 (by decide) rfl ?_
              refine tw_top (y := (6 - (k : Int))) (by exact hk52.2.2.2.2.2.1) ?_
              refine ar_iconst (k := 56) rfl ?_
              refine ar_isub (k := 57) rfl ?_
              refine br_putIJ (k := 58) rfl (hS.k (by decide)) flR_72_12 (by decide) rfl (fun _ _ _ q => by cases q; exact ⟨rfl, rfl⟩) (fun I58 e58 => ?_)
              change _ = uI _ 69 8 _ at e58
              have hk58 := pH.o8 hk52 e58 (y := 5 - (k : Int)) (by omega)
              refine ar_ret (k := 59) rfl rfl rfl (Nat.le_refl _) ?_
              first
                | (exfalso; omega)
                | (refine ⟨rfl, I58, rfl, ?_⟩; rw [pFac_s, if_neg (by simp), if_pos (by simp only; omega), if_pos (by omega)]; exact hk58)
                | (refine ⟨rfl, I58, rfl, ?_⟩; rw [pFac_s, if_neg (by simp), if_pos (by simp only; omega), if_neg (by omega)]; exact hk58)
                | (refine ⟨rfl, I58, rfl, ?_⟩; rw [pFac_s, if_neg (by simp), if_neg (by simp only; omega), if_pos (by simp only; omega), if_pos (by omega)]; exact hk58)
                | (refine ⟨rfl, I58, rfl, ?_⟩; rw [pFac_s, if_neg (by simp), if_neg (by simp only; omega), if_pos (by simp only; omega), if_neg (by omega)]; exact hk58)
                | (refine ⟨rfl, I58, rfl, ?_⟩; rw [pFE] at hk58; rw [pFac_s, if_neg (by simp), if_neg (by simp only; omega), if_neg (by simp only; omega), pTst, if_pos (by simp only; omega)]; exact hk58)
                | (refine ⟨rfl, I58, rfl, ?_⟩; rw [pFE] at hk58; rw [pFac_s, if_neg (by simp), if_neg (by simp only; omega), if_neg (by simp only; omega), pTst, if_neg (by simp only; omega), if_pos (by simp only; omega)]; exact hk58)
                | (refine ⟨rfl, I58, rfl, ?_⟩; rw [pFac_s, if_neg (by simp), if_neg (by simp only; omega), if_neg (by simp only; omega), pTst, if_neg (by simp only; omega), if_neg (by simp only; omega)]; exact hk58)
            · refine ar_aloadn (k := 42) rfl rfl ?_
              have zz : pZ e ((p + 1), true, o) := ⟨by show 0 ≤ (p + 1); omega, by show (p + 1) ≤ e; omega, by show (o.length : Int) ≤ (p + 1); omega⟩
              have ok1 := pFac_ok hB k ((p + 1), true, o) zz
              refine ar_callV (k := 43) (as := []) rfl lvR_75 (hS.k (by decide)) rfl (hf ((p + 1), true, o) _ hk38 zz (fun y => by first | rfl | (exfalso; omega))) rfl (by omega) (by decide) tw_m0 (Nat.le_of_ble_eq_true rfl) (fun r h' hp => ?_)
              obtain ⟨rfl, I43, rfl, hk43⟩ := hp
              refine ar_aloadn (k := 44) rfl rfl ?_
              refine ar_iconst (k := 45) rfl ?_
              refine ar_callV (k := 46) (as := [_]) rfl lvR_78 (hS.k (by decide)) rfl (c_R_emits (x := -1) hS hB hk43 ⟨(ok1.z zz).1, ok1.2.1⟩ ((ok1.z zz).l hB)) rfl (by omega) (by decide) tw_m0 (Nat.le_of_ble_eq_true rfl) (fun r h' hp => ?_)
              obtain ⟨rfl, I46, rfl, hk46⟩ := hp
              refine ar_goto (k := 47) rfl ?_
              refine ar_aloadn (k := 53) rfl rfl ?_
              refine ar_dup (k := 54) rfl rfl ?_
              refine br_getI (k := 55) rfl (hS.k (by decide)) flR_72_12 (by decide) rfl ?_
              refine tw_top (y := (6 - (k : Int))) (by exact hk46.2.2.2.2.2.1) ?_
              refine ar_iconst (k := 56) rfl ?_
              refine ar_isub (k := 57) rfl ?_
              refine br_putIJ (k := 58) rfl (hS.k (by decide)) flR_72_12 (by decide) rfl (fun _ _ _ q => by cases q; exact ⟨rfl, rfl⟩) (fun I58 e58 => ?_)
              change _ = uI _ 69 8 _ at e58
              have hk58 := pH.o8 hk46 e58 (y := 5 - (k : Int)) (by omega)
              refine ar_ret (k := 59) rfl rfl rfl (Nat.le_refl _) ?_
              first
                | (exfalso; omega)
                | (refine ⟨rfl, I58, rfl, ?_⟩; rw [pFac_s, if_neg (by simp), if_pos (by simp only; omega), if_pos (by omega)]; exact hk58)
                | (refine ⟨rfl, I58, rfl, ?_⟩; rw [pFac_s, if_neg (by simp), if_pos (by simp only; omega), if_neg (by omega)]; exact hk58)
                | (refine ⟨rfl, I58, rfl, ?_⟩; rw [pFac_s, if_neg (by simp), if_neg (by simp only; omega), if_pos (by simp only; omega), if_pos (by omega)]; exact hk58)
                | (refine ⟨rfl, I58, rfl, ?_⟩; rw [pFac_s, if_neg (by simp), if_neg (by simp only; omega), if_pos (by simp only; omega), if_neg (by omega)]; exact hk58)
                | (refine ⟨rfl, I58, rfl, ?_⟩; rw [pFE] at hk58; rw [pFac_s, if_neg (by simp), if_neg (by simp only; omega), if_neg (by simp only; omega), pTst, if_pos (by simp only; omega)]; exact hk58)
                | (refine ⟨rfl, I58, rfl, ?_⟩; rw [pFE] at hk58; rw [pFac_s, if_neg (by simp), if_neg (by simp only; omega), if_neg (by simp only; omega), pTst, if_neg (by simp only; omega), if_pos (by simp only; omega)]; exact hk58)
                | (refine ⟨rfl, I58, rfl, ?_⟩; rw [pFac_s, if_neg (by simp), if_neg (by simp only; omega), if_neg (by simp only; omega), pTst, if_neg (by simp only; omega), if_neg (by simp only; omega)]; exact hk58)
          · refine ar_iconst (k := 34) rfl ?_
            refine ar_goto (k := 35) rfl ?_
            refine ar_iadd (k := 37) rfl ?_
            refine br_putIJ (k := 38) rfl (hS.k (by decide)) flR_42_12 (by decide) rfl (fun _ _ _ q => by cases q; exact ⟨rfl, rfl⟩) (fun I38 e38 => ?_)
            change _ = uI _ 69 5 _ at e38
            have hk38 := pH.p5 hk27 e38 (y := p) (by omega)
            refine ar_iloadn (k := 39) rfl rfl ?_
            refine ar_bipush (k := 40) rfl (by decide) ?_
            refine ar_icmp_ne (k := 41) rfl (by omega) (by omega) (fun c41 => ?_) (fun c41 => ?_)
            · refine ar_aloadn (k := 48) rfl rfl ?_
              have zz : pZ e ((p), true, o) := ⟨by show 0 ≤ (p); omega, by show (p) ≤ e; omega, by show (o.length : Int) ≤ (p); omega⟩
              have ok1 := pSo_ok hB (pFac_ok hB k) zz
              refine ar_callV (k := 49) (as := []) rfl lvR_81 (hS.k (by decide)) rfl (hso ((p), true, o) _ hk38 zz (fun y => by first | rfl | (exfalso; omega))) rfl (by omega) (by decide) tw_m0 (Nat.le_of_ble_eq_true rfl) (fun r h' hp => ?_)
              obtain ⟨rfl, I49, rfl, hk49⟩ := hp
              refine ar_aloadn (k := 50) rfl rfl ?_
              refine ar_bipush (k := 51) rfl (by decide) ?_
              refine ar_callV (k := 52) (as := [_]) rfl lvR_65 (hS.k (by decide)) rfl (c_R_must (c := 41) hS hB hk49 ⟨(ok1.z zz).1, ok1.2.1⟩ (by decide)) rfl (by omega) (by decide) tw_m0 (Nat.le_of_ble_eq_true rfl) (fun r h' hp => ?_)
              obtain ⟨rfl, I52, rfl, hk52⟩ := hp
              refine ar_aloadn (k := 53) rfl rfl ?_
              refine ar_dup (k := 54) rfl rfl ?_
              refine br_getI (k := 55) rfl (hS.k (by decide)) flR_72_12 (by decide) rfl ?_
              refine tw_top (y := (6 - (k : Int))) (by exact hk52.2.2.2.2.2.1) ?_
              refine ar_iconst (k := 56) rfl ?_
              refine ar_isub (k := 57) rfl ?_
              refine br_putIJ (k := 58) rfl (hS.k (by decide)) flR_72_12 (by decide) rfl (fun _ _ _ q => by cases q; exact ⟨rfl, rfl⟩) (fun I58 e58 => ?_)
              change _ = uI _ 69 8 _ at e58
              have hk58 := pH.o8 hk52 e58 (y := 5 - (k : Int)) (by omega)
              refine ar_ret (k := 59) rfl rfl rfl (Nat.le_refl _) ?_
              first
                | (exfalso; omega)
                | (refine ⟨rfl, I58, rfl, ?_⟩; rw [pFac_s, if_neg (by simp), if_pos (by simp only; omega), if_pos (by omega)]; exact hk58)
                | (refine ⟨rfl, I58, rfl, ?_⟩; rw [pFac_s, if_neg (by simp), if_pos (by simp only; omega), if_neg (by omega)]; exact hk58)
                | (refine ⟨rfl, I58, rfl, ?_⟩; rw [pFac_s, if_neg (by simp), if_neg (by simp only; omega), if_pos (by simp only; omega), if_pos (by omega)]; exact hk58)
                | (refine ⟨rfl, I58, rfl, ?_⟩; rw [pFac_s, if_neg (by simp), if_neg (by simp only; omega), if_pos (by simp only; omega), if_neg (by omega)]; exact hk58)
                | (refine ⟨rfl, I58, rfl, ?_⟩; rw [pFE] at hk58; rw [pFac_s, if_neg (by simp), if_neg (by simp only; omega), if_neg (by simp only; omega), pTst, if_pos (by simp only; omega)]; exact hk58)
                | (refine ⟨rfl, I58, rfl, ?_⟩; rw [pFE] at hk58; rw [pFac_s, if_neg (by simp), if_neg (by simp only; omega), if_neg (by simp only; omega), pTst, if_neg (by simp only; omega), if_pos (by simp only; omega)]; exact hk58)
                | (refine ⟨rfl, I58, rfl, ?_⟩; rw [pFac_s, if_neg (by simp), if_neg (by simp only; omega), if_neg (by simp only; omega), pTst, if_neg (by simp only; omega), if_neg (by simp only; omega)]; exact hk58)
            · refine ar_aloadn (k := 42) rfl rfl ?_
              have zz : pZ e ((p), true, o) := ⟨by show 0 ≤ (p); omega, by show (p) ≤ e; omega, by show (o.length : Int) ≤ (p); omega⟩
              have ok1 := pFac_ok hB k ((p), true, o) zz
              refine ar_callV (k := 43) (as := []) rfl lvR_75 (hS.k (by decide)) rfl (hf ((p), true, o) _ hk38 zz (fun y => by first | rfl | (exfalso; omega))) rfl (by omega) (by decide) tw_m0 (Nat.le_of_ble_eq_true rfl) (fun r h' hp => ?_)
              obtain ⟨rfl, I43, rfl, hk43⟩ := hp
              refine ar_aloadn (k := 44) rfl rfl ?_
              refine ar_iconst (k := 45) rfl ?_
              refine ar_callV (k := 46) (as := [_]) rfl lvR_78 (hS.k (by decide)) rfl (c_R_emits (x := -1) hS hB hk43 ⟨(ok1.z zz).1, ok1.2.1⟩ ((ok1.z zz).l hB)) rfl (by omega) (by decide) tw_m0 (Nat.le_of_ble_eq_true rfl) (fun r h' hp => ?_)
              obtain ⟨rfl, I46, rfl, hk46⟩ := hp
              refine ar_goto (k := 47) rfl ?_
              refine ar_aloadn (k := 53) rfl rfl ?_
              refine ar_dup (k := 54) rfl rfl ?_
              refine br_getI (k := 55) rfl (hS.k (by decide)) flR_72_12 (by decide) rfl ?_
              refine tw_top (y := (6 - (k : Int))) (by exact hk46.2.2.2.2.2.1) ?_
              refine ar_iconst (k := 56) rfl ?_
              refine ar_isub (k := 57) rfl ?_
              refine br_putIJ (k := 58) rfl (hS.k (by decide)) flR_72_12 (by decide) rfl (fun _ _ _ q => by cases q; exact ⟨rfl, rfl⟩) (fun I58 e58 => ?_)
              change _ = uI _ 69 8 _ at e58
              have hk58 := pH.o8 hk46 e58 (y := 5 - (k : Int)) (by omega)
              refine ar_ret (k := 59) rfl rfl rfl (Nat.le_refl _) ?_
              first
                | (exfalso; omega)
                | (refine ⟨rfl, I58, rfl, ?_⟩; rw [pFac_s, if_neg (by simp), if_pos (by simp only; omega), if_pos (by omega)]; exact hk58)
                | (refine ⟨rfl, I58, rfl, ?_⟩; rw [pFac_s, if_neg (by simp), if_pos (by simp only; omega), if_neg (by omega)]; exact hk58)
                | (refine ⟨rfl, I58, rfl, ?_⟩; rw [pFac_s, if_neg (by simp), if_neg (by simp only; omega), if_pos (by simp only; omega), if_pos (by omega)]; exact hk58)
                | (refine ⟨rfl, I58, rfl, ?_⟩; rw [pFac_s, if_neg (by simp), if_neg (by simp only; omega), if_pos (by simp only; omega), if_neg (by omega)]; exact hk58)
                | (refine ⟨rfl, I58, rfl, ?_⟩; rw [pFE] at hk58; rw [pFac_s, if_neg (by simp), if_neg (by simp only; omega), if_neg (by simp only; omega), pTst, if_pos (by simp only; omega)]; exact hk58)
                | (refine ⟨rfl, I58, rfl, ?_⟩; rw [pFE] at hk58; rw [pFac_s, if_neg (by simp), if_neg (by simp only; omega), if_neg (by simp only; omega), pTst, if_neg (by simp only; omega), if_pos (by simp only; omega)]; exact hk58)
                | (refine ⟨rfl, I58, rfl, ?_⟩; rw [pFac_s, if_neg (by simp), if_neg (by simp only; omega), if_neg (by simp only; omega), pTst, if_neg (by simp only; omega), if_neg (by simp only; omega)]; exact hk58)
  · refine ar_ret (k := 3) rfl rfl rfl (Nat.le_refl _) ?_
    first
      | (exfalso; omega)
      | (refine ⟨rfl, J, rfl, ?_⟩; rw [pFac_s, if_neg (by simp), if_pos (by simp only; omega), if_pos (by omega)]; exact hk)
      | (refine ⟨rfl, J, rfl, ?_⟩; rw [pFac_s, if_neg (by simp), if_pos (by simp only; omega), if_neg (by omega)]; exact hk)
      | (refine ⟨rfl, J, rfl, ?_⟩; rw [pFac_s, if_neg (by simp), if_neg (by simp only; omega), if_pos (by simp only; omega), if_pos (by omega)]; exact hk)
      | (refine ⟨rfl, J, rfl, ?_⟩; rw [pFac_s, if_neg (by simp), if_neg (by simp only; omega), if_pos (by simp only; omega), if_neg (by omega)]; exact hk)
      | (refine ⟨rfl, J, rfl, ?_⟩; rw [pFE] at hk; rw [pFac_s, if_neg (by simp), if_neg (by simp only; omega), if_neg (by simp only; omega), pTst, if_pos (by simp only; omega)]; exact hk)
      | (refine ⟨rfl, J, rfl, ?_⟩; rw [pFE] at hk; rw [pFac_s, if_neg (by simp), if_neg (by simp only; omega), if_neg (by simp only; omega), pTst, if_neg (by simp only; omega), if_pos (by simp only; omega)]; exact hk)
      | (refine ⟨rfl, J, rfl, ?_⟩; rw [pFac_s, if_neg (by simp), if_neg (by simp only; omega), if_neg (by simp only; omega), pTst, if_neg (by simp only; omega), if_neg (by simp only; omega)]; exact hk)
theorem c_R_factor (hS : tSt (K, J, Q, n)) (hB : pB s a e) : ∀ k : Nat, k < 7 → ∀ (q : tP) (J : Nat → Int → Int), pH I J s a e (6 - (k : Int)) q → pZ e q → (k = 0 → q.2.1 = true) → tw_M l G (6 + 3 * k) 0 0 mR_factor [vr (some 69)] (K, J, Q, n) (fun r h' => r = none ∧ ∃ L, h' = (K, L, Q, n) ∧ pH I L s a e (6 - (k : Int)) (pFac (tpe s) e k q))
  | 0 => by
    intro _ q J hk z z0
    obtain ⟨p, w, o⟩ := q
    have := z0 rfl
    simp only at this
    subst this
    exact c_R_factor_t (k := 0) hS hk
  | k + 1 => by
    intro k6 q J hk z z0
    obtain ⟨p, w, o⟩ := q
    cases w
    · have hk2 : pH I J s a e (5 - (k : Int)) (p, false, o) := by
        rw [show 5 - (k : Int) = 6 - ((k + 1 : Nat) : Int) by omega]; exact hk
      have := c_R_factor_f (J := J) (by omega) hS hB (c_R_factor hS hB k (by omega)) hk2 z
      rw [show 6 - ((k + 1 : Nat) : Int) = 5 - (k : Int) by omega, show 6 + 3 * (k + 1) = 9 + 3 * k by omega]
      exact this
    · exact c_R_factor_t (k := k + 1) hS hk
theorem c_R_some (hS : tSt (K, J, Q, n)) (hB : pB s a e) (hk : pH I J s a e 0 q) (z : pZ e q) : tw_M l G 26 0 0 mR_some [vr (some 69)] (K, J, Q, n) (fun r h' => r = none ∧ ∃ L, h' = (K, L, Q, n) ∧ pH I L s a e 0 (pSo (tpe s) e (pFac (tpe s) e 6) q)) := c_R_some_of (k := 6) hS hB (c_R_every_of hS hB (c_R_factor hS hB 6 (by decide))) q J hk z (fun y => by cases y)
end RQ
