abbrev tP : Type := Int × Bool × List Int
/-- the tape -/
def tpe (s : Int → Int) : Int → Int := fun i => if 0 ≤ i ∧ i < 100 then s (174 + i) else 0
def pHere (t : Int → Int) (e p : Int) : Int := if p < e then t p else -1
def pMust (t : Int → Int) (e c : Int) (q : tP) : tP := if q.2.1 = true ∨ pHere t e q.1 ≠ c then (q.1, true, q.2.2) else (q.1 + 1, false, q.2.2)
def pSpl (t : Int → Int) (e : Int) (j : Nat) : Nat → Nat → tP → tP
  | 0, _, q => q
  | k + 1, i, q => pSpl t e j k (i + 1) (pMust t e (sB j (i : Int)) q)
abbrev pDigP (t : Int → Int) (e p : Int) : Prop := 48 ≤ pHere t e p ∧ pHere t e p ≤ 57
def pFig (t : Int → Int) (e : Int) (q : tP) : Int × tP := if q.2.1 = true ∨ ¬ pDigP t e q.1 then (0, q.1, true, q.2.2) else if 0 < pHere t e q.1 - 48 ∧ pDigP t e (q.1 + 1) then (10 * (pHere t e q.1 - 48) + pHere t e (q.1 + 1) - 48, q.1 + 2, false, q.2.2) else (pHere t e q.1 - 48, q.1 + 1, false, q.2.2)
def pAm (t : Int → Int) (e : Int) (j : Nat) (p : Int) : Int := fstD (-1) (fun i => decide (pHere t e p = sB j (i : Int))) (sN j) 0
def pEmit (x : Int) (q : tP) : tP := if q.2.1 = true then q else (q.1, q.2.1, q.2.2 ++ [x])
def pTst (t : Int → Int) (e : Int) (q : tP) : tP := if pAm t e 2 q.1 = -1 then (q.1, true, q.2.2) else if pAm t e 3 (q.1 + 1) = -1 then (q.1 + 1, true, q.2.2) else pEmit (pAm t e 2 q.1 + 8 * pAm t e 3 (q.1 + 1) + 32 * (pFig t e (q.1 + 2, false, q.2.2)).1) (pFig t e (q.1 + 2, false, q.2.2)).2
def pLoop (t : Int → Int) (e c x : Int) (sub : tP → tP) : Nat → tP → tP
  | 0, q => q
  | k + 1, q => if q.2.1 = false ∧ pHere t e q.1 = c then pLoop t e c x sub k (pEmit x (sub (q.1 + 1, false, q.2.2))) else q
def pEv (t : Int → Int) (e : Int) (fac : tP → tP) (q : tP) : tP := pLoop t e 38 (-2) fac 101 (fac q)
def pSo (t : Int → Int) (e : Int) (fac : tP → tP) (q : tP) : tP := pLoop t e 124 (-3) (pEv t e fac) 101 (pEv t e fac q)
/-- k: how many may still be opened, and one -/
def pFac (t : Int → Int) (e : Int) : Nat → tP → tP
  | 0, q => q
  | k + 1, q => if q.2.1 = true then q else if pHere t e q.1 = 33 then pEmit (-1) (pFac t e k (if k = 0 then (q.1, true, q.2.2) else (q.1 + 1, false, q.2.2))) else if pHere t e q.1 = 40 then pMust t e 41 (pSo t e (pFac t e k) (if k = 0 then (q.1, true, q.2.2) else (q.1 + 1, false, q.2.2))) else pTst t e q
/-- the steps in their place -/
def pW (s : Int → Int) (a : Int) (o : List Int) : Int → Int := fun i => if i = 279 + a then (o.length : Int) else if 284 + 140 * a ≤ i ∧ i < 284 + 140 * a + (o.length : Int) then o.getD (i - (284 + 140 * a)).toNat 0 else s i
theorem pW_push {s : Int → Int} {a x : Int} {o : List Int} (a1 : 0 ≤ a ∧ a < 5) : up (up (pW s a o) (284 + 140 * a + (o.length : Int)) x) (279 + a) ((o.length : Int) + 1) = pW s a (o ++ [x]) := by
  funext i
  unfold pW
  simp only [List.length_append, List.length_cons, List.length_nil]
  by_cases h1 : i = 279 + a
  · rw [h1, up_at, if_pos rfl]; omega
  · rw [up_ne _ _ h1]
    by_cases h2 : i = 284 + 140 * a + (o.length : Int)
    · rw [h2, up_at, if_neg (by omega), if_pos (by omega), show (284 + 140 * a + (o.length : Int) - (284 + 140 * a)).toNat = o.length by omega]
      simp
    · rw [up_ne _ _ h2, if_neg h1, if_neg h1]
      by_cases h3 : 284 + 140 * a ≤ i ∧ i < 284 + 140 * a + (o.length : Int)
      · rw [if_pos h3, if_pos (by omega)]
        simp [List.getElem?_append_left (show (i - (284 + 140 * a)).toNat < o.length by omega)]
      · rw [if_neg h3, if_neg (by omega)]
/-- the reference while it reads -/
def pH (I J : Nat → Int → Int) (s : Int → Int) (a e op : Int) (q : tP) : Prop := J 70 = pW s a q.2.2 ∧ J 69 4 = a ∧ J 69 5 = q.1 ∧ J 69 6 = e ∧ J 69 7 = (if q.2.1 = true then 1 else 0) ∧ J 69 8 = op ∧ (∀ b, b ≠ 69 → b ≠ 70 → J b = I b) ∧ ∀ k, k ≠ 4 → k ≠ 5 → k ≠ 6 → k ≠ 7 → k ≠ 8 → J 69 k = I 69 k
theorem pH.p5 {I J L : Nat → Int → Int} {s : Int → Int} {a e op x y : Int} {q : tP} (h : pH I J s a e op q) (hL : L = uI J 69 5 x) (hx : x = y) : pH I L s a e op (y, q.2.1, q.2.2) := by
  subst hL; subst hx
  obtain ⟨g1, g2, g3, g4, g5, g6, g7, g8⟩ := h
  refine ⟨by rw [uI_off _ _ _ (by decide)]; exact g1, ?_, ?_, ?_, ?_, ?_, fun b b1 b2 => by rw [uI_off _ _ _ b1]; exact g7 b b1 b2, fun k k1 k2 k3 k4 k5 => by rw [uI_at, if_neg k2]; exact g8 k k1 k2 k3 k4 k5⟩ <;> rw [uI_at] <;> simp [*]
theorem pH.w7 {I J L : Nat → Int → Int} {s : Int → Int} {a e op x : Int} {y : Bool} {q : tP} (h : pH I J s a e op q) (hL : L = uI J 69 7 x) (hx : x = if y = true then 1 else 0) : pH I L s a e op (q.1, y, q.2.2) := by
  subst hL; subst hx
  obtain ⟨g1, g2, g3, g4, g5, g6, g7, g8⟩ := h
  refine ⟨by rw [uI_off _ _ _ (by decide)]; exact g1, ?_, ?_, ?_, ?_, ?_, fun b b1 b2 => by rw [uI_off _ _ _ b1]; exact g7 b b1 b2, fun k k1 k2 k3 k4 k5 => by rw [uI_at, if_neg k4]; exact g8 k k1 k2 k3 k4 k5⟩ <;> rw [uI_at] <;> simp [*]
theorem pH.o8 {I J L : Nat → Int → Int} {s : Int → Int} {a e op x y : Int} {q : tP} (h : pH I J s a e op q) (hL : L = uI J 69 8 x) (hx : x = y) : pH I L s a e y q := by
  subst hL; subst hx
  obtain ⟨g1, g2, g3, g4, g5, g6, g7, g8⟩ := h
  refine ⟨by rw [uI_off _ _ _ (by decide)]; exact g1, ?_, ?_, ?_, ?_, ?_, fun b b1 b2 => by rw [uI_off _ _ _ b1]; exact g7 b b1 b2, fun k k1 k2 k3 k4 k5 => by rw [uI_at, if_neg k5]; exact g8 k k1 k2 k3 k4 k5⟩ <;> rw [uI_at] <;> simp [*]
/-- the tape's bounds -/
abbrev pB (s : Int → Int) (a e : Int) : Prop := (0 ≤ a ∧ a < 5) ∧ (0 ≤ e ∧ e ≤ 100) ∧ ∀ i, 0 ≤ i → i < 100 → 0 ≤ s (174 + i) ∧ s (174 + i) ≤ 127
theorem pHere_bd {s : Int → Int} {a e p : Int} (hB : pB s a e) (hp : 0 ≤ p) : -1 ≤ pHere (tpe s) e p ∧ pHere (tpe s) e p ≤ 127 ∧ (pHere (tpe s) e p ≠ -1 → p < e) := by
  unfold pHere
  split
  · have := hB.2.2 p hp (by omega)
    unfold tpe
    rw [if_pos (by omega)]
    omega
  · omega
theorem pW_tp {s : Int → Int} {a e p : Int} {o : List Int} (hB : pB s a e) (hp : 0 ≤ p ∧ p < 100) : pW s a o (174 + p) = tpe s p := by
  unfold pW tpe
  rw [if_neg (by omega), if_neg (by omega), if_pos hp]
section RP
variable {l : Launch} {G : tG} {K : Nat → Nat × Nat} {I J : Nat → Int → Int} {Q : Nat → Int → Option Nat} {n : Nat} {s : Int → Int} {a e op : Int} {q : tP}
theorem c_R_here {p : Int} (hS : tSt (K, J, Q, n)) (hB : pB s a e) (hk : pH I J s a e op q) (p1 : 0 ≤ q.1 ∧ q.1 ≤ e) (hp : q.1 = p) : tw_F l G 1 0 0 mR_here [vr (some 69)] (K, J, Q, n) (some (vi (pHere (tpe s) e p))) (K, J, Q, n) := by
  subst hp
  refine tw_intro okR_here (Nat.le_of_ble_eq_true rfl) ?_
  refine ar_aloadn (k := 0) rfl rfl ?_
  refine br_getI (k := 1) rfl (hS.k (by decide)) flR_42_12 (by decide) rfl ?_
  refine tw_top (y := q.1) (by exact hk.2.2.1) ?_
  refine ar_aloadn (k := 2) rfl rfl ?_
  refine br_getI (k := 3) rfl (hS.k (by decide)) flR_45_12 (by decide) rfl ?_
  refine tw_top (y := e) (by exact hk.2.2.2.1) ?_
  refine ar_icmp_ge (k := 4) rfl (by omega) (by omega) (fun c4 => ?_) (fun c4 => ?_)
  · refine ar_iconst (k := 13) rfl ?_
    refine ar_iret (k := 14) rfl rfl rfl (Nat.le_refl _) ?_
    refine ⟨congrArg (fun z => some (vi z)) ?_, rfl⟩
    unfold pHere
    (repeat' split) <;> first | rfl | (exfalso; omega)
  · refine ar_aloadn (k := 5) rfl rfl ?_
    refine br_getR (k := 6) rfl (hS.k (by decide)) flR_9_12 (by decide) rfl (hS.r rfl) ?_
    refine ar_sipush (k := 7) rfl (by decide) ?_
    refine ar_aloadn (k := 8) rfl rfl ?_
    refine br_getI (k := 9) rfl (hS.k (by decide)) flR_42_12 (by decide) rfl ?_
    refine tw_top (y := q.1) (by exact hk.2.2.1) ?_
    refine ar_iadd (k := 10) rfl ?_
    refine br_iald (k := 11) rfl (hS.k (by decide)) (by omega) (by omega) (by decide) ?_
    refine tw_top (y := tpe s q.1) (by rw [hk.1]; exact pW_tp hB (by omega)) ?_
    refine ar_goto (k := 12) rfl ?_
    refine ar_iret (k := 14) rfl rfl rfl (Nat.le_refl _) ?_
    refine ⟨congrArg (fun z => some (vi z)) ?_, rfl⟩
    unfold pHere
    (repeat' split) <;> first | rfl | (exfalso; omega)
variable {p : Int} {o : List Int}
theorem c_R_must_t {c : Int} (hS : tSt (K, J, Q, n)) (hB : pB s a e) (hk : pH I J s a e op (p, true, o)) (p1 : 0 ≤ p ∧ p ≤ e) (tc : tr c) : tw_M l G 2 0 0 mR_must [vr (some 69), vi c] (K, J, Q, n) (fun r h' => r = none ∧ ∃ L, h' = (K, L, Q, n) ∧ pH I L s a e op (pMust (tpe s) e c (p, true, o))) := by
  have hh0 := pHere_bd hB p1.1
  refine tw_intro okR_must (Nat.le_of_ble_eq_true rfl) ?_
  refine ar_aloadn (k := 0) rfl rfl ?_
  refine ar_aloadn (k := 1) rfl rfl ?_
  refine br_getI (k := 2) rfl (hS.k (by decide)) flR_48_12 (by decide) rfl ?_
  refine tw_top (y := 1) (by exact hk.2.2.2.2.1) ?_
  refine ar_if_ne (k := 3) rfl (by omega) (fun c3 => ?_) (fun c3 => ?_)
  · refine ar_iconst (k := 8) rfl ?_
    refine ar_goto (k := 9) rfl ?_
    refine br_putZJ (k := 11) rfl (hS.k (by decide)) flR_48_12 (by decide) rfl (by omega) (fun _ _ _ q => by cases q; exact ⟨rfl, rfl⟩) (fun I11 e11 => ?_)
    change _ = uI _ 69 7 _ at e11
    have hk11 := pH.w7 hk e11 (y := true) (by rfl)
    refine ar_aloadn (k := 12) rfl rfl ?_
    refine ar_dup (k := 13) rfl rfl ?_
    refine br_getI (k := 14) rfl (hS.k (by decide)) flR_42_12 (by decide) rfl ?_
    refine tw_top (y := p) (by exact hk11.2.2.1) ?_
    refine ar_aloadn (k := 15) rfl rfl ?_
    refine br_getI (k := 16) rfl (hS.k (by decide)) flR_48_12 (by decide) rfl ?_
    refine tw_top (y := 1) (by exact hk11.2.2.2.2.1) ?_
    refine ar_if_eq (k := 17) rfl (by omega) (fun c17 => ?_) (fun c17 => ?_)
    · refine ar_iconst (k := 20) rfl ?_
      refine ar_iadd (k := 21) rfl ?_
      refine br_putIJ (k := 22) rfl (hS.k (by decide)) flR_42_12 (by decide) rfl (fun _ _ _ q => by cases q; exact ⟨rfl, rfl⟩) (fun I22 e22 => ?_)
      change _ = uI _ 69 5 _ at e22
      have hk22 := pH.p5 hk11 e22 (y := p + 1) (by omega)
      refine ar_ret (k := 23) rfl rfl rfl (Nat.le_refl _) ?_
      first
        | (exfalso; omega)
        | (refine ⟨rfl, I22, rfl, ?_⟩; rw [show pMust (tpe s) e c (p, true, o) = (p, true, o) by rw [pMust, if_pos (by simp <;> omega)]]; exact hk22)
        | (refine ⟨rfl, I22, rfl, ?_⟩; rw [show pMust (tpe s) e c (p, true, o) = (p + 1, false, o) by rw [pMust, if_neg (by simp <;> omega)]]; exact hk22)
    · refine ar_iconst (k := 18) rfl ?_
      refine ar_goto (k := 19) rfl ?_
      refine ar_iadd (k := 21) rfl ?_
      refine br_putIJ (k := 22) rfl (hS.k (by decide)) flR_42_12 (by decide) rfl (fun _ _ _ q => by cases q; exact ⟨rfl, rfl⟩) (fun I22 e22 => ?_)
      change _ = uI _ 69 5 _ at e22
      have hk22 := pH.p5 hk11 e22 (y := p) (by omega)
      refine ar_ret (k := 23) rfl rfl rfl (Nat.le_refl _) ?_
      first
        | (exfalso; omega)
        | (refine ⟨rfl, I22, rfl, ?_⟩; rw [show pMust (tpe s) e c (p, true, o) = (p, true, o) by rw [pMust, if_pos (by simp <;> omega)]]; exact hk22)
        | (refine ⟨rfl, I22, rfl, ?_⟩; rw [show pMust (tpe s) e c (p, true, o) = (p + 1, false, o) by rw [pMust, if_neg (by simp <;> omega)]]; exact hk22)
  · refine ar_aloadn (k := 4) rfl rfl ?_
    refine br_callV (k := 5) (as := []) rfl lvR_52 (hS.k (by decide)) rfl (c_R_here (p := p) hS hB hk (by (constructor <;> (dsimp only; omega))) rfl) rfl (by decide) (by decide) tw_m0 (Nat.le_of_ble_eq_true rfl) ?_
    refine ar_iloadn (k := 6) rfl rfl ?_
    refine ar_icmp_eq (k := 7) rfl (by omega) (by omega) (fun c7 => ?_) (fun c7 => ?_)
    · refine ar_iconst (k := 10) rfl ?_
      refine br_putZJ (k := 11) rfl (hS.k (by decide)) flR_48_12 (by decide) rfl (by omega) (fun _ _ _ q => by cases q; exact ⟨rfl, rfl⟩) (fun I11 e11 => ?_)
      change _ = uI _ 69 7 _ at e11
      have hk11 := pH.w7 hk e11 (y := false) (by rfl)
      refine ar_aloadn (k := 12) rfl rfl ?_
      refine ar_dup (k := 13) rfl rfl ?_
      refine br_getI (k := 14) rfl (hS.k (by decide)) flR_42_12 (by decide) rfl ?_
      refine tw_top (y := p) (by exact hk11.2.2.1) ?_
      refine ar_aloadn (k := 15) rfl rfl ?_
      refine br_getI (k := 16) rfl (hS.k (by decide)) flR_48_12 (by decide) rfl ?_
      refine tw_top (y := 0) (by exact hk11.2.2.2.2.1) ?_
      refine ar_if_eq (k := 17) rfl (by omega) (fun c17 => ?_) (fun c17 => ?_)
      · refine ar_iconst (k := 20) rfl ?_
        refine ar_iadd (k := 21) rfl ?_
        refine br_putIJ (k := 22) rfl (hS.k (by decide)) flR_42_12 (by decide) rfl (fun _ _ _ q => by cases q; exact ⟨rfl, rfl⟩) (fun I22 e22 => ?_)
        change _ = uI _ 69 5 _ at e22
        have hk22 := pH.p5 hk11 e22 (y := p + 1) (by omega)
        refine ar_ret (k := 23) rfl rfl rfl (Nat.le_refl _) ?_
        first
          | (exfalso; omega)
          | (refine ⟨rfl, I22, rfl, ?_⟩; rw [show pMust (tpe s) e c (p, true, o) = (p, true, o) by rw [pMust, if_pos (by simp <;> omega)]]; exact hk22)
          | (refine ⟨rfl, I22, rfl, ?_⟩; rw [show pMust (tpe s) e c (p, true, o) = (p + 1, false, o) by rw [pMust, if_neg (by simp <;> omega)]]; exact hk22)
      · refine ar_iconst (k := 18) rfl ?_
        refine ar_goto (k := 19) rfl ?_
        refine ar_iadd (k := 21) rfl ?_
        refine br_putIJ (k := 22) rfl (hS.k (by decide)) flR_42_12 (by decide) rfl (fun _ _ _ q => by cases q; exact ⟨rfl, rfl⟩) (fun I22 e22 => ?_)
        change _ = uI _ 69 5 _ at e22
        have hk22 := pH.p5 hk11 e22 (y := p) (by omega)
        refine ar_ret (k := 23) rfl rfl rfl (Nat.le_refl _) ?_
        first
          | (exfalso; omega)
          | (refine ⟨rfl, I22, rfl, ?_⟩; rw [show pMust (tpe s) e c (p, true, o) = (p, true, o) by rw [pMust, if_pos (by simp <;> omega)]]; exact hk22)
          | (refine ⟨rfl, I22, rfl, ?_⟩; rw [show pMust (tpe s) e c (p, true, o) = (p + 1, false, o) by rw [pMust, if_neg (by simp <;> omega)]]; exact hk22)
    · refine ar_iconst (k := 8) rfl ?_
      refine ar_goto (k := 9) rfl ?_
      refine br_putZJ (k := 11) rfl (hS.k (by decide)) flR_48_12 (by decide) rfl (by omega) (fun _ _ _ q => by cases q; exact ⟨rfl, rfl⟩) (fun I11 e11 => ?_)
      change _ = uI _ 69 7 _ at e11
      have hk11 := pH.w7 hk e11 (y := true) (by rfl)
      refine ar_aloadn (k := 12) rfl rfl ?_
      refine ar_dup (k := 13) rfl rfl ?_
      refine br_getI (k := 14) rfl (hS.k (by decide)) flR_42_12 (by decide) rfl ?_
      refine tw_top (y := p) (by exact hk11.2.2.1) ?_
      refine ar_aloadn (k := 15) rfl rfl ?_
      refine br_getI (k := 16) rfl (hS.k (by decide)) flR_48_12 (by decide) rfl ?_
      refine tw_top (y := 1) (by exact hk11.2.2.2.2.1) ?_
      refine ar_if_eq (k := 17) rfl (by omega) (fun c17 => ?_) (fun c17 => ?_)
      · refine ar_iconst (k := 20) rfl ?_
        refine ar_iadd (k := 21) rfl ?_
        refine br_putIJ (k := 22) rfl (hS.k (by decide)) flR_42_12 (by decide) rfl (fun _ _ _ q => by cases q; exact ⟨rfl, rfl⟩) (fun I22 e22 => ?_)
        change _ = uI _ 69 5 _ at e22
        have hk22 := pH.p5 hk11 e22 (y := p + 1) (by omega)
        refine ar_ret (k := 23) rfl rfl rfl (Nat.le_refl _) ?_
        first
          | (exfalso; omega)
          | (refine ⟨rfl, I22, rfl, ?_⟩; rw [show pMust (tpe s) e c (p, true, o) = (p, true, o) by rw [pMust, if_pos (by simp <;> omega)]]; exact hk22)
          | (refine ⟨rfl, I22, rfl, ?_⟩; rw [show pMust (tpe s) e c (p, true, o) = (p + 1, false, o) by rw [pMust, if_neg (by simp <;> omega)]]; exact hk22)
      · refine ar_iconst (k := 18) rfl ?_
        refine ar_goto (k := 19) rfl ?_
        refine ar_iadd (k := 21) rfl ?_
        refine br_putIJ (k := 22) rfl (hS.k (by decide)) flR_42_12 (by decide) rfl (fun _ _ _ q => by cases q; exact ⟨rfl, rfl⟩) (fun I22 e22 => ?_)
        change _ = uI _ 69 5 _ at e22
        have hk22 := pH.p5 hk11 e22 (y := p) (by omega)
        refine ar_ret (k := 23) rfl rfl rfl (Nat.le_refl _) ?_
        first
          | (exfalso; omega)
          | (refine ⟨rfl, I22, rfl, ?_⟩; rw [show pMust (tpe s) e c (p, true, o) = (p, true, o) by rw [pMust, if_pos (by simp <;> omega)]]; exact hk22)
          | (refine ⟨rfl, I22, rfl, ?_⟩; rw [show pMust (tpe s) e c (p, true, o) = (p + 1, false, o) by rw [pMust, if_neg (by simp <;> omega)]]; exact hk22)
theorem c_R_must_f {c : Int} (hS : tSt (K, J, Q, n)) (hB : pB s a e) (hk : pH I J s a e op (p, false, o)) (p1 : 0 ≤ p ∧ p ≤ e) (tc : tr c) : tw_M l G 2 0 0 mR_must [vr (some 69), vi c] (K, J, Q, n) (fun r h' => r = none ∧ ∃ L, h' = (K, L, Q, n) ∧ pH I L s a e op (pMust (tpe s) e c (p, false, o))) := by
  have hh0 := pHere_bd hB p1.1
  refine tw_intro okR_must (Nat.le_of_ble_eq_true rfl) ?_
  refine ar_aloadn (k := 0) rfl rfl ?_
  refine ar_aloadn (k := 1) rfl rfl ?_
  refine br_getI (k := 2) rfl (hS.k (by decide)) flR_48_12 (by decide) rfl ?_
  refine tw_top (y := 0) (by exact hk.2.2.2.2.1) ?_
  refine ar_if_ne (k := 3) rfl (by omega) (fun c3 => ?_) (fun c3 => ?_)
  · refine ar_iconst (k := 8) rfl ?_
    refine ar_goto (k := 9) rfl ?_
    refine br_putZJ (k := 11) rfl (hS.k (by decide)) flR_48_12 (by decide) rfl (by omega) (fun _ _ _ q => by cases q; exact ⟨rfl, rfl⟩) (fun I11 e11 => ?_)
    change _ = uI _ 69 7 _ at e11
    have hk11 := pH.w7 hk e11 (y := true) (by rfl)
    refine ar_aloadn (k := 12) rfl rfl ?_
    refine ar_dup (k := 13) rfl rfl ?_
    refine br_getI (k := 14) rfl (hS.k (by decide)) flR_42_12 (by decide) rfl ?_
    refine tw_top (y := p) (by exact hk11.2.2.1) ?_
    refine ar_aloadn (k := 15) rfl rfl ?_
    refine br_getI (k := 16) rfl (hS.k (by decide)) flR_48_12 (by decide) rfl ?_
    refine tw_top (y := 1) (by exact hk11.2.2.2.2.1) ?_
    refine ar_if_eq (k := 17) rfl (by omega) (fun c17 => ?_) (fun c17 => ?_)
    · refine ar_iconst (k := 20) rfl ?_
      refine ar_iadd (k := 21) rfl ?_
      refine br_putIJ (k := 22) rfl (hS.k (by decide)) flR_42_12 (by decide) rfl (fun _ _ _ q => by cases q; exact ⟨rfl, rfl⟩) (fun I22 e22 => ?_)
      change _ = uI _ 69 5 _ at e22
      have hk22 := pH.p5 hk11 e22 (y := p + 1) (by omega)
      refine ar_ret (k := 23) rfl rfl rfl (Nat.le_refl _) ?_
      first
        | (exfalso; omega)
        | (refine ⟨rfl, I22, rfl, ?_⟩; rw [show pMust (tpe s) e c (p, false, o) = (p, true, o) by rw [pMust, if_pos (by simp <;> omega)]]; exact hk22)
        | (refine ⟨rfl, I22, rfl, ?_⟩; rw [show pMust (tpe s) e c (p, false, o) = (p + 1, false, o) by rw [pMust, if_neg (by simp <;> omega)]]; exact hk22)
    · refine ar_iconst (k := 18) rfl ?_
      refine ar_goto (k := 19) rfl ?_
      refine ar_iadd (k := 21) rfl ?_
      refine br_putIJ (k := 22) rfl (hS.k (by decide)) flR_42_12 (by decide) rfl (fun _ _ _ q => by cases q; exact ⟨rfl, rfl⟩) (fun I22 e22 => ?_)
      change _ = uI _ 69 5 _ at e22
      have hk22 := pH.p5 hk11 e22 (y := p) (by omega)
      refine ar_ret (k := 23) rfl rfl rfl (Nat.le_refl _) ?_
      first
        | (exfalso; omega)
        | (refine ⟨rfl, I22, rfl, ?_⟩; rw [show pMust (tpe s) e c (p, false, o) = (p, true, o) by rw [pMust, if_pos (by simp <;> omega)]]; exact hk22)
        | (refine ⟨rfl, I22, rfl, ?_⟩; rw [show pMust (tpe s) e c (p, false, o) = (p + 1, false, o) by rw [pMust, if_neg (by simp <;> omega)]]; exact hk22)
  · refine ar_aloadn (k := 4) rfl rfl ?_
    refine br_callV (k := 5) (as := []) rfl lvR_52 (hS.k (by decide)) rfl (c_R_here (p := p) hS hB hk (by (constructor <;> (dsimp only; omega))) rfl) rfl (by decide) (by decide) tw_m0 (Nat.le_of_ble_eq_true rfl) ?_
    refine ar_iloadn (k := 6) rfl rfl ?_
    refine ar_icmp_eq (k := 7) rfl (by omega) (by omega) (fun c7 => ?_) (fun c7 => ?_)
    · refine ar_iconst (k := 10) rfl ?_
      refine br_putZJ (k := 11) rfl (hS.k (by decide)) flR_48_12 (by decide) rfl (by omega) (fun _ _ _ q => by cases q; exact ⟨rfl, rfl⟩) (fun I11 e11 => ?_)
      change _ = uI _ 69 7 _ at e11
      have hk11 := pH.w7 hk e11 (y := false) (by rfl)
      refine ar_aloadn (k := 12) rfl rfl ?_
      refine ar_dup (k := 13) rfl rfl ?_
      refine br_getI (k := 14) rfl (hS.k (by decide)) flR_42_12 (by decide) rfl ?_
      refine tw_top (y := p) (by exact hk11.2.2.1) ?_
      refine ar_aloadn (k := 15) rfl rfl ?_
      refine br_getI (k := 16) rfl (hS.k (by decide)) flR_48_12 (by decide) rfl ?_
      refine tw_top (y := 0) (by exact hk11.2.2.2.2.1) ?_
      refine ar_if_eq (k := 17) rfl (by omega) (fun c17 => ?_) (fun c17 => ?_)
      · refine ar_iconst (k := 20) rfl ?_
        refine ar_iadd (k := 21) rfl ?_
        refine br_putIJ (k := 22) rfl (hS.k (by decide)) flR_42_12 (by decide) rfl (fun _ _ _ q => by cases q; exact ⟨rfl, rfl⟩) (fun I22 e22 => ?_)
        change _ = uI _ 69 5 _ at e22
        have hk22 := pH.p5 hk11 e22 (y := p + 1) (by omega)
        refine ar_ret (k := 23) rfl rfl rfl (Nat.le_refl _) ?_
        first
          | (exfalso; omega)
          | (refine ⟨rfl, I22, rfl, ?_⟩; rw [show pMust (tpe s) e c (p, false, o) = (p, true, o) by rw [pMust, if_pos (by simp <;> omega)]]; exact hk22)
          | (refine ⟨rfl, I22, rfl, ?_⟩; rw [show pMust (tpe s) e c (p, false, o) = (p + 1, false, o) by rw [pMust, if_neg (by simp <;> omega)]]; exact hk22)
      · refine ar_iconst (k := 18) rfl ?_
        refine ar_goto (k := 19) rfl ?_
        refine ar_iadd (k := 21) rfl ?_
        refine br_putIJ (k := 22) rfl (hS.k (by decide)) flR_42_12 (by decide) rfl (fun _ _ _ q => by cases q; exact ⟨rfl, rfl⟩) (fun I22 e22 => ?_)
        change _ = uI _ 69 5 _ at e22
        have hk22 := pH.p5 hk11 e22 (y := p) (by omega)
        refine ar_ret (k := 23) rfl rfl rfl (Nat.le_refl _) ?_
        first
          | (exfalso; omega)
          | (refine ⟨rfl, I22, rfl, ?_⟩; rw [show pMust (tpe s) e c (p, false, o) = (p, true, o) by rw [pMust, if_pos (by simp <;> omega)]]; exact hk22)
          | (refine ⟨rfl, I22, rfl, ?_⟩; rw [show pMust (tpe s) e c (p, false, o) = (p + 1, false, o) by rw [pMust, if_neg (by simp <;> omega)]]; exact hk22)
    · refine ar_iconst (k := 8) rfl ?_
      refine ar_goto (k := 9) rfl ?_
      refine br_putZJ (k := 11) rfl (hS.k (by decide)) flR_48_12 (by decide) rfl (by omega) (fun _ _ _ q => by cases q; exact ⟨rfl, rfl⟩) (fun I11 e11 => ?_)
      change _ = uI _ 69 7 _ at e11
      have hk11 := pH.w7 hk e11 (y := true) (by rfl)
      refine ar_aloadn (k := 12) rfl rfl ?_
      refine ar_dup (k := 13) rfl rfl ?_
      refine br_getI (k := 14) rfl (hS.k (by decide)) flR_42_12 (by decide) rfl ?_
      refine tw_top (y := p) (by exact hk11.2.2.1) ?_
      refine ar_aloadn (k := 15) rfl rfl ?_
      refine br_getI (k := 16) rfl (hS.k (by decide)) flR_48_12 (by decide) rfl ?_
      refine tw_top (y := 1) (by exact hk11.2.2.2.2.1) ?_
      refine ar_if_eq (k := 17) rfl (by omega) (fun c17 => ?_) (fun c17 => ?_)
      · refine ar_iconst (k := 20) rfl ?_
        refine ar_iadd (k := 21) rfl ?_
        refine br_putIJ (k := 22) rfl (hS.k (by decide)) flR_42_12 (by decide) rfl (fun _ _ _ q => by cases q; exact ⟨rfl, rfl⟩) (fun I22 e22 => ?_)
        change _ = uI _ 69 5 _ at e22
        have hk22 := pH.p5 hk11 e22 (y := p + 1) (by omega)
        refine ar_ret (k := 23) rfl rfl rfl (Nat.le_refl _) ?_
        first
          | (exfalso; omega)
          | (refine ⟨rfl, I22, rfl, ?_⟩; rw [show pMust (tpe s) e c (p, false, o) = (p, true, o) by rw [pMust, if_pos (by simp <;> omega)]]; exact hk22)
          | (refine ⟨rfl, I22, rfl, ?_⟩; rw [show pMust (tpe s) e c (p, false, o) = (p + 1, false, o) by rw [pMust, if_neg (by simp <;> omega)]]; exact hk22)
      · refine ar_iconst (k := 18) rfl ?_
        refine ar_goto (k := 19) rfl ?_
        refine ar_iadd (k := 21) rfl ?_
        refine br_putIJ (k := 22) rfl (hS.k (by decide)) flR_42_12 (by decide) rfl (fun _ _ _ q => by cases q; exact ⟨rfl, rfl⟩) (fun I22 e22 => ?_)
        change _ = uI _ 69 5 _ at e22
        have hk22 := pH.p5 hk11 e22 (y := p) (by omega)
        refine ar_ret (k := 23) rfl rfl rfl (Nat.le_refl _) ?_
        first
          | (exfalso; omega)
          | (refine ⟨rfl, I22, rfl, ?_⟩; rw [show pMust (tpe s) e c (p, false, o) = (p, true, o) by rw [pMust, if_pos (by simp <;> omega)]]; exact hk22)
          | (refine ⟨rfl, I22, rfl, ?_⟩; rw [show pMust (tpe s) e c (p, false, o) = (p + 1, false, o) by rw [pMust, if_neg (by simp <;> omega)]]; exact hk22)
theorem c_R_must {c : Int} (hS : tSt (K, J, Q, n)) (hB : pB s a e) (hk : pH I J s a e op q) (p1 : 0 ≤ q.1 ∧ q.1 ≤ e) (tc : tr c) : tw_M l G 2 0 0 mR_must [vr (some 69), vi c] (K, J, Q, n) (fun r h' => r = none ∧ ∃ L, h' = (K, L, Q, n) ∧ pH I L s a e op (pMust (tpe s) e c q)) := by
  obtain ⟨p, w, o⟩ := q
  cases w
  · exact c_R_must_f hS hB hk p1 tc
  · exact c_R_must_t hS hB hk p1 tc
theorem pMust_bd {t : Int → Int} {c e : Int} {q : tP} (hc : c ≠ -1) (h : 0 ≤ q.1 ∧ q.1 ≤ e) : q.1 ≤ (pMust t e c q).1 ∧ (pMust t e c q).1 ≤ e ∧ (pMust t e c q).2.2 = q.2.2 := by
  unfold pMust
  by_cases g : q.2.1 = true ∨ pHere t e q.1 ≠ c
  · rw [if_pos g]
    exact ⟨Int.le_refl _, h.2, rfl⟩
  · rw [if_neg g]
    refine ⟨by show q.1 ≤ q.1 + 1; omega, ?_, rfl⟩
    show q.1 + 1 ≤ e
    by_cases g2 : q.1 < e
    · omega
    · exfalso
      apply g
      right
      unfold pHere
      rw [if_neg g2]
      exact fun z => hc z.symm
theorem pH.cp {I J : Nat → Int → Int} {s : Int → Int} {a e op p p2 : Int} {w : Bool} {o : List Int} (h : pH I J s a e op (p, w, o)) (e1 : p = p2) : pH I J s a e op (p2, w, o) := e1 ▸ h
theorem pSpl_bd {t : Int → Int} {e : Int} {j : Nat} (hj : j < 6) : ∀ (k i : Nat) (q : tP), i + k = sN j → (0 ≤ q.1 ∧ q.1 ≤ e) → q.1 ≤ (pSpl t e j k i q).1 ∧ (pSpl t e j k i q).1 ≤ e ∧ (pSpl t e j k i q).2.2 = q.2.2
  | 0, _, q, _, h => ⟨Int.le_refl _, h.2, rfl⟩
  | k + 1, i, q, hi, h => by
    have hb := sB_all j hj i (by omega)
    have h1 := pMust_bd (t := t) (c := sB j (i : Int)) (by omega) h
    rw [pSpl]
    have h2 := pSpl_bd (t := t) (e := e) hj k (i + 1) (pMust t e (sB j (i : Int)) q) (by omega) (by omega)
    exact ⟨by omega, h2.2.1, h2.2.2.trans h1.2.2⟩
theorem l_R_spells {j : Nat} (hj : j < 6) (hS : tSt (K, J, Q, n)) (hB : pB s a e) : ∀ (k i : Nat) (q : tP) (J : Nat → Int → Int), i + k = sN j → pH I J s a e op q → (0 ≤ q.1 ∧ q.1 ≤ e) → tw_AW l G mR_spells 5 0 0 n 0 (fun r h' => r = none ∧ ∃ L, h' = (K, L, Q, n) ∧ pH I L s a e op (pSpl (tpe s) e j k i q)) 2 [(2, vi (i : Int)), (0, vr (some 69)), (1, vr (some (1000000 + j)))] [] (K, J, Q, n) := by
  have hl6 := sN_all j hj
  intro k
  induction k with
  | zero =>
    intro i q J hi hk p1
    refine ar_iloadn (k := 2) rfl rfl ?_
    refine ar_aloadn (k := 3) rfl rfl ?_
    refine br_callVS (k := 4) (as := []) rfl lvR_56 hj (c_J0_length hj) rfl (by decide) (by decide) tw_m0 (Nat.le_of_ble_eq_true rfl) ?_
    refine ar_icmp_ge (k := 5) rfl (by omega) (by omega) (fun _ => ?_) (fun c5 => absurd (show ((sN j : Nat) : Int) ≤ (i : Int) by omega) c5)
    refine ar_ret (k := 13) rfl rfl rfl (Nat.le_refl _) ?_
    exact ⟨rfl, J, rfl, hk⟩
  | succ k ih =>
    intro i q J hi hk p1
    have hb := sB_all j hj i (by omega)
    have h1 := pMust_bd (t := tpe s) (c := sB j (i : Int)) (by omega) p1
    refine ar_iloadn (k := 2) rfl rfl ?_
    refine ar_aloadn (k := 3) rfl rfl ?_
    refine br_callVS (k := 4) (as := []) rfl lvR_56 hj (c_J0_length hj) rfl (by decide) (by decide) tw_m0 (Nat.le_of_ble_eq_true rfl) ?_
    refine ar_icmp_ge (k := 5) rfl (by omega) (by omega) (fun c5 => absurd c5 (by omega)) (fun _ => ?_)
    refine ar_aloadn (k := 6) rfl rfl ?_
    refine ar_aloadn (k := 7) rfl rfl ?_
    refine ar_iloadn (k := 8) rfl rfl ?_
    refine br_callVS (k := 9) (as := [_]) rfl lvR_61 hj (c_J0_charAt hj (by omega) (by omega)) rfl (by decide) (by decide) tw_m0 (Nat.le_of_ble_eq_true rfl) ?_
    refine ar_callV (k := 10) (as := [_]) rfl lvR_65 (hS.k (by decide)) rfl (c_R_must hS hB hk p1 (by omega)) rfl (by decide) (by decide) tw_m0 (Nat.le_of_ble_eq_true rfl) (fun r h' hp => ?_)
    obtain ⟨rfl, J2, rfl, hk2⟩ := hp
    refine ar_iinc (k := 11) (l2 := [(2, _), (0, _), (1, _)]) rfl (by decide) rfl rfl ?_
    refine ar_goto (k := 12) rfl ?_
    refine ar_sub (l2 := [(2, vi ((i + 1 : Nat) : Int)), (0, vr (some 69)), (1, vr (some (1000000 + j)))]) (tw_s (tw_e 0 rfl (by omega)) (tw_s (tw_g 1 rfl) (tw_s (tw_g 2 rfl) tw_s0))) ?_
    rw [pSpl]
    exact ih (i + 1) _ J2 (by omega) hk2 (by omega)
theorem c_R_spells {j : Nat} (hj : j < 6) (hS : tSt (K, J, Q, n)) (hB : pB s a e) (hk : pH I J s a e op q) (p1 : 0 ≤ q.1 ∧ q.1 ≤ e) : tw_M l G 5 0 0 mR_spells [vr (some 69), vr (some (1000000 + j))] (K, J, Q, n) (fun r h' => r = none ∧ ∃ L, h' = (K, L, Q, n) ∧ pH I L s a e op (pSpl (tpe s) e j (sN j) 0 q)) := by
  refine tw_intro okR_spells (Nat.le_of_ble_eq_true rfl) ?_
  refine ar_iconst (k := 0) rfl ?_
  refine ar_istoren (k := 1) (l2 := [(2, _), (0, _), (1, _)]) rfl (by decide) rfl ?_
  exact l_R_spells hj hS hB (sN j) 0 q J (by omega) hk p1
theorem l_R_among {j : Nat} (hj : j < 6) (hS : tSt (K, J, Q, n)) (hB : pB s a e) (hk : pH I J s a e op q) (p1 : 0 ≤ q.1 ∧ q.1 ≤ e) : ∀ (k i : Nat), i + k = sN j → tw_AW l G mR_among 5 0 0 n 0 (fun r h' => r = some (vi (fstD (-1) (fun i => decide (pHere (tpe s) e q.1 = sB j (i : Int))) k i)) ∧ ∃ L, h' = (K, L, Q, n) ∧ pH I L s a e op (if fstD (-1) (fun i => decide (pHere (tpe s) e q.1 = sB j (i : Int))) k i = -1 then q.1 else q.1 + 1, q.2.1, q.2.2)) 2 [(2, vi (i : Int)), (0, vr (some 69)), (1, vr (some (1000000 + j)))] [] (K, J, Q, n) := by
  have hl6 := sN_all j hj
  have hh0 := pHere_bd hB p1.1
  intro k
  induction k with
  | zero =>
    intro i hi
    refine ar_iloadn (k := 2) rfl rfl ?_
    refine ar_aloadn (k := 3) rfl rfl ?_
    refine br_callVS (k := 4) (as := []) rfl lvR_56 hj (c_J0_length hj) rfl (by decide) (by decide) tw_m0 (Nat.le_of_ble_eq_true rfl) ?_
    refine ar_icmp_ge (k := 5) rfl (by omega) (by omega) (fun _ => ?_) (fun c5 => absurd (show ((sN j : Nat) : Int) ≤ (i : Int) by omega) c5)
    refine ar_iconst (k := 22) rfl ?_
    refine ar_iret (k := 23) rfl rfl rfl (Nat.le_refl _) ?_
    exact ⟨rfl, J, rfl, hk⟩
  | succ k ih =>
    intro i hi
    have hb := sB_all j hj i (by omega)
    refine ar_iloadn (k := 2) rfl rfl ?_
    refine ar_aloadn (k := 3) rfl rfl ?_
    refine br_callVS (k := 4) (as := []) rfl lvR_56 hj (c_J0_length hj) rfl (by decide) (by decide) tw_m0 (Nat.le_of_ble_eq_true rfl) ?_
    refine ar_icmp_ge (k := 5) rfl (by omega) (by omega) (fun c5 => absurd c5 (by omega)) (fun _ => ?_)
    refine ar_aloadn (k := 6) rfl rfl ?_
    refine br_callV (k := 7) (as := []) rfl lvR_52 (hS.k (by decide)) rfl (c_R_here (p := q.1) hS hB hk p1 rfl) rfl (by decide) (by decide) tw_m0 (Nat.le_of_ble_eq_true rfl) ?_
    refine ar_aloadn (k := 8) rfl rfl ?_
    refine ar_iloadn (k := 9) rfl rfl ?_
    refine br_callVS (k := 10) (as := [_]) rfl lvR_61 hj (c_J0_charAt hj (by omega) (by omega)) rfl (by decide) (by decide) tw_m0 (Nat.le_of_ble_eq_true rfl) ?_
    refine ar_icmp_ne (k := 11) rfl (by omega) (by omega) (fun c11 => ?_) (fun c11 => ?_)
    · refine ar_iinc (k := 20) (l2 := [(2, _), (0, _), (1, _)]) rfl (by decide) rfl rfl ?_
      refine ar_goto (k := 21) rfl ?_
      refine ar_sub (l2 := [(2, vi ((i + 1 : Nat) : Int)), (0, vr (some 69)), (1, vr (some (1000000 + j)))]) (tw_s (tw_e 0 rfl (by omega)) (tw_s (tw_g 1 rfl) (tw_s (tw_g 2 rfl) tw_s0))) ?_
      rw [show fstD (-1) (fun i => decide (pHere (tpe s) e q.1 = sB j (i : Int))) (k + 1) i = fstD (-1) (fun i => decide (pHere (tpe s) e q.1 = sB j (i : Int))) k (i + 1) by rw [fstD, if_neg (by simpa using c11)]]
      exact ih (i + 1) (by omega)
    · rw [show fstD (-1) (fun i => decide (pHere (tpe s) e q.1 = sB j (i : Int))) (k + 1) i = (i : Int) by rw [fstD, if_pos (by simpa using c11)]]
      rw [if_neg (by omega)]
      refine ar_aloadn (k := 12) rfl rfl ?_
      refine ar_dup (k := 13) rfl rfl ?_
      refine br_getI (k := 14) rfl (hS.k (by decide)) flR_42_12 (by decide) rfl ?_
      refine tw_top (y := q.1) (by exact hk.2.2.1) ?_
      refine ar_iconst (k := 15) rfl ?_
      refine ar_iadd (k := 16) rfl ?_
      refine br_putIJ (k := 17) rfl (hS.k (by decide)) flR_42_12 (by decide) rfl (fun _ _ _ q => by cases q; exact ⟨rfl, rfl⟩) (fun I17 e17 => ?_)
      change _ = uI _ 69 5 _ at e17
      have hk17 := pH.p5 hk e17 (y := q.1 + 1) rfl
      refine ar_iloadn (k := 18) rfl rfl ?_
      refine ar_iret (k := 19) rfl rfl rfl (Nat.le_refl _) ?_
      exact ⟨rfl, I17, rfl, hk17⟩
theorem c_R_among {j : Nat} (hj : j < 6) (hS : tSt (K, J, Q, n)) (hB : pB s a e) (hk : pH I J s a e op q) (p1 : 0 ≤ q.1 ∧ q.1 ≤ e) : tw_M l G 5 0 0 mR_among [vr (some 69), vr (some (1000000 + j))] (K, J, Q, n) (fun r h' => r = some (vi (pAm (tpe s) e j q.1)) ∧ ∃ L, h' = (K, L, Q, n) ∧ pH I L s a e op (if pAm (tpe s) e j q.1 = -1 then q.1 else q.1 + 1, q.2.1, q.2.2)) := by
  refine tw_intro okR_among (Nat.le_of_ble_eq_true rfl) ?_
  refine ar_iconst (k := 0) rfl ?_
  refine ar_istoren (k := 1) (l2 := [(2, _), (0, _), (1, _)]) rfl (by decide) rfl ?_
  exact l_R_among hj hS hB hk p1 (sN j) 0 (by omega)
theorem pH.em {L : Nat → Int → Int} {x : Int} (hB : pB s a e) (h : pH I J s a e op (p, false, o)) (hL : L = uI (uI J 70 (284 + 140 * a + (o.length : Int)) x) 70 (279 + a) ((o.length : Int) + 1)) : pH I L s a e op (p, false, o ++ [x]) := by
  subst hL
  obtain ⟨g1, g2, g3, g4, g5, g6, g7, g8⟩ := h
  refine ⟨?_, g2, g3, g4, g5, g6, fun b b1 b2 => ?_, g8⟩
  · rw [uI_set, uI_set, setA_setA, setA_at, setA_at, g1]
    exact pW_push hB.1
  · rw [uI_off _ _ _ b2, uI_off _ _ _ b2]; exact g7 b b1 b2
theorem c_R_emits_t {x : Int} (hS : tSt (K, J, Q, n)) (hB : pB s a e) (hk : pH I J s a e op (p, true, o)) (p1 : 0 ≤ p ∧ p ≤ e) : tw_M l G 1 0 0 mR_emits [vr (some 69), vi x] (K, J, Q, n) (fun r h' => r = none ∧ ∃ L, h' = (K, L, Q, n) ∧ pH I L s a e op (pEmit x (p, true, o))) := by
  refine tw_intro okR_emits (Nat.le_of_ble_eq_true rfl) ?_
  refine ar_aloadn (k := 0) rfl rfl ?_
  refine br_getI (k := 1) rfl (hS.k (by decide)) flR_48_12 (by decide) rfl ?_
  refine tw_top (y := 1) (by exact hk.2.2.2.2.1) ?_
  refine ar_if_ne (k := 2) rfl (by omega) (fun c2 => ?_) (fun c2 => ?_)
  · refine ar_ret (k := 32) rfl rfl rfl (Nat.le_refl _) ?_
    exact ⟨rfl, J, rfl, hk⟩
  · exfalso; omega
theorem c_R_emits_f {x : Int} (hS : tSt (K, J, Q, n)) (hB : pB s a e) (hk : pH I J s a e op (p, false, o)) (p1 : 0 ≤ p ∧ p ≤ e) (ho : o.length < 140) : tw_M l G 1 0 0 mR_emits [vr (some 69), vi x] (K, J, Q, n) (fun r h' => r = none ∧ ∃ L, h' = (K, L, Q, n) ∧ pH I L s a e op (pEmit x (p, false, o))) := by
  have ha := hB.1
  refine tw_intro okR_emits (Nat.le_of_ble_eq_true rfl) ?_
  refine ar_aloadn (k := 0) rfl rfl ?_
  refine br_getI (k := 1) rfl (hS.k (by decide)) flR_48_12 (by decide) rfl ?_
  refine tw_top (y := 0) (by exact hk.2.2.2.2.1) ?_
  refine ar_if_ne (k := 2) rfl (by omega) (fun c2 => ?_) (fun c2 => ?_)
  · refine ar_ret (k := 32) rfl rfl rfl (Nat.le_refl _) ?_
    first
      | (exfalso; omega)
      | exact ⟨rfl, _, rfl, pH.em hB hk rfl⟩
  · refine ar_aloadn (k := 3) rfl rfl ?_
    refine br_getR (k := 4) rfl (hS.k (by decide)) flR_9_12 (by decide) rfl (hS.r rfl) ?_
    refine ar_sipush (k := 5) rfl (by decide) ?_
    refine ar_sipush (k := 6) rfl (by decide) ?_
    refine ar_aloadn (k := 7) rfl rfl ?_
    refine br_getI (k := 8) rfl (hS.k (by decide)) flR_69_12 (by decide) rfl ?_
    refine tw_top (y := a) (by exact hk.2.1) ?_
    refine ar_imul (k := 9) rfl ?_
    refine ar_iadd (k := 10) rfl ?_
    refine ar_aloadn (k := 11) rfl rfl ?_
    refine br_getR (k := 12) rfl (hS.k (by decide)) flR_9_12 (by decide) rfl (hS.r rfl) ?_
    refine ar_sipush (k := 13) rfl (by decide) ?_
    refine ar_aloadn (k := 14) rfl rfl ?_
    refine br_getI (k := 15) rfl (hS.k (by decide)) flR_69_12 (by decide) rfl ?_
    refine tw_top (y := a) (by exact hk.2.1) ?_
    refine ar_iadd (k := 16) rfl ?_
    refine br_iald (k := 17) rfl (hS.k (by decide)) (by omega) (by omega) (by decide) ?_
    refine tw_top (y := (o.length : Int)) (by rw [hk.1]; unfold pW; rw [if_pos rfl]) ?_
    refine ar_iadd (k := 18) rfl ?_
    refine ar_iloadn (k := 19) rfl rfl ?_
    refine br_iast (k := 20) rfl (hS.k (by decide)) (by omega) (by omega) (by decide) ?_
    refine ar_aloadn (k := 21) rfl rfl ?_
    refine br_getR (k := 22) rfl (hS.k (by decide)) flR_9_12 (by decide) rfl (hS.r rfl) ?_
    refine ar_sipush (k := 23) rfl (by decide) ?_
    refine ar_aloadn (k := 24) rfl rfl ?_
    refine br_getI (k := 25) rfl (hS.k (by decide)) flR_69_12 (by decide) rfl ?_
    refine tw_top (y := a) (by exact hk.2.1) ?_
    refine ar_iadd (k := 26) rfl ?_
    refine ar_dup2 (k := 27) rfl rfl rfl ?_
    refine br_iald (k := 28) rfl (hS.k (by decide)) (by omega) (by omega) (by decide) ?_
    refine tw_top (y := (o.length : Int)) (by rw [uI_at, if_neg (by omega), hk.1]; unfold pW; rw [if_pos rfl]) ?_
    refine ar_iconst (k := 29) rfl ?_
    refine ar_iadd (k := 30) rfl ?_
    refine br_iast (k := 31) rfl (hS.k (by decide)) (by omega) (by omega) (by decide) ?_
    refine ar_ret (k := 32) rfl rfl rfl (Nat.le_refl _) ?_
    first
      | (exfalso; omega)
      | exact ⟨rfl, _, rfl, pH.em hB hk rfl⟩
theorem c_R_emits {x : Int} (hS : tSt (K, J, Q, n)) (hB : pB s a e) (hk : pH I J s a e op q) (p1 : 0 ≤ q.1 ∧ q.1 ≤ e) (ho : q.2.2.length < 140) : tw_M l G 1 0 0 mR_emits [vr (some 69), vi x] (K, J, Q, n) (fun r h' => r = none ∧ ∃ L, h' = (K, L, Q, n) ∧ pH I L s a e op (pEmit x q)) := by
  obtain ⟨p, w, o⟩ := q
  cases w
  · exact c_R_emits_f hS hB hk p1 ho
  · exact c_R_emits_t hS hB hk p1
theorem c_R_figures_t (hS : tSt (K, J, Q, n)) (hB : pB s a e) (hk : pH I J s a e op (p, true, o)) (p1 : 0 ≤ p ∧ p ≤ e) : tw_M l G 2 0 0 mR_figures [vr (some 69)] (K, J, Q, n) (fun r h' => r = some (vi (pFig (tpe s) e (p, true, o)).1) ∧ ∃ L, h' = (K, L, Q, n) ∧ pH I L s a e op ((pFig (tpe s) e (p, true, o)).2)) := by
  have hh0 := pHere_bd hB p1.1
  have hh1 := pHere_bd (p := p + 1) hB (by omega)
  have hh2 := pHere_bd (p := p + 1 + 1) hB (by omega)
  refine tw_intro okR_figures (Nat.le_of_ble_eq_true rfl) ?_
  refine ar_aloadn (k := 0) rfl rfl ?_
  refine ar_aloadn (k := 1) rfl rfl ?_
  refine br_getI (k := 2) rfl (hS.k (by decide)) flR_48_12 (by decide) rfl ?_
  refine tw_top (y := 1) (by exact hk.2.2.2.2.1) ?_
  refine ar_if_ne (k := 3) rfl (by omega) (fun c3 => ?_) (fun c3 => ?_)
  · refine ar_iconst (k := 10) rfl ?_
    refine ar_goto (k := 11) rfl ?_
    refine br_putZJ (k := 13) rfl (hS.k (by decide)) flR_48_12 (by decide) rfl (by omega) (fun _ _ _ q => by cases q; exact ⟨rfl, rfl⟩) (fun I13 e13 => ?_)
    change _ = uI _ 69 7 _ at e13
    have hk13 := pH.w7 hk e13 (y := true) (by rfl)
    refine ar_iconst (k := 14) rfl ?_
    refine ar_istoren (k := 15) (l2 := [(1, _), (0, _)]) rfl (by decide) rfl ?_
    refine ar_iconst (k := 16) rfl ?_
    refine ar_istoren (k := 17) (l2 := [(2, _), (1, _), (0, _)]) rfl (by decide) rfl ?_
    refine ar_iloadn (k := 18) rfl rfl ?_
    refine ar_iconst (k := 19) rfl ?_
    refine ar_icmp_ge (k := 20) rfl (by omega) (by omega) (fun c20 => ?_) (fun c20 => ?_)
    · refine ar_iloadn (k := 51) rfl rfl ?_
      refine ar_iret (k := 52) rfl rfl rfl (Nat.le_refl _) ?_
      first
        | (exfalso; omega)
        | (rw [show pFig (tpe s) e (p, true, o) = (0, p, true, o) by rw [pFig]; rw [if_pos (by simp <;> omega)]]; exact ⟨congrArg (fun z => some (vi z)) (by show (_ : Int) = _; omega), I13, rfl, pH.cp hk13 (by omega)⟩)
    · refine ar_aloadn (k := 21) rfl rfl ?_
      refine br_getI (k := 22) rfl (hS.k (by decide)) flR_48_12 (by decide) rfl ?_
      refine tw_top (y := 1) (by exact hk13.2.2.2.2.1) ?_
      refine ar_if_ne (k := 23) rfl (by omega) (fun c23 => ?_) (fun c23 => ?_)
      · refine ar_iloadn (k := 51) rfl rfl ?_
        refine ar_iret (k := 52) rfl rfl rfl (Nat.le_refl _) ?_
        first
          | (exfalso; omega)
          | (rw [show pFig (tpe s) e (p, true, o) = (0, p, true, o) by rw [pFig]; rw [if_pos (by simp <;> omega)]]; exact ⟨congrArg (fun z => some (vi z)) (by show (_ : Int) = _; omega), I13, rfl, pH.cp hk13 (by omega)⟩)
      · refine ar_aloadn (k := 24) rfl rfl ?_
        refine br_callV (k := 25) (as := []) rfl lvR_52 (hS.k (by decide)) rfl (c_R_here (p := p) hS hB hk13 (by (constructor <;> (dsimp only; omega))) rfl) rfl (by decide) (by decide) tw_m0 (Nat.le_of_ble_eq_true rfl) ?_
        refine ar_bipush (k := 26) rfl (by decide) ?_
        refine ar_bipush (k := 27) rfl (by decide) ?_
        refine br_callS (k := 28) (as := [_, _, _]) rfl lsR_38 (c_R_in (by omega) (by omega) (by omega)) rfl (by decide) (by decide) tw_m0 (Nat.le_of_ble_eq_true rfl) ?_
        refine ar_if_eq (k := 29) rfl (by omega) (fun c29 => ?_) (fun c29 => ?_)
        · refine ar_iloadn (k := 51) rfl rfl ?_
          refine ar_iret (k := 52) rfl rfl rfl (Nat.le_refl _) ?_
          first
            | (exfalso; omega)
            | (rw [show pFig (tpe s) e (p, true, o) = (0, p, true, o) by rw [pFig]; rw [if_pos (by simp <;> omega)]]; exact ⟨congrArg (fun z => some (vi z)) (by show (_ : Int) = _; omega), I13, rfl, pH.cp hk13 (by omega)⟩)
        · refine ar_iloadn (k := 30) rfl rfl ?_
          refine ar_if_eq (k := 31) rfl (by omega) (fun c31 => ?_) (fun c31 => ?_)
          · refine ar_bipush (k := 34) rfl (by decide) ?_
            refine ar_iloadn (k := 35) rfl rfl ?_
            refine ar_imul (k := 36) rfl ?_
            refine ar_aloadn (k := 37) rfl rfl ?_
            refine br_callV (k := 38) (as := []) rfl lvR_52 (hS.k (by decide)) rfl (c_R_here (p := p) hS hB hk13 (by (constructor <;> (dsimp only; omega))) rfl) rfl (by decide) (by decide) tw_m0 (Nat.le_of_ble_eq_true rfl) ?_
            refine ar_iadd (k := 39) rfl ?_
            refine ar_bipush (k := 40) rfl (by decide) ?_
            refine ar_isub (k := 41) rfl ?_
            refine ar_istoren (k := 42) (l2 := [(1, _), (2, _), (0, _)]) rfl (by decide) rfl ?_
            refine ar_aloadn (k := 43) rfl rfl ?_
            refine ar_dup (k := 44) rfl rfl ?_
            refine br_getI (k := 45) rfl (hS.k (by decide)) flR_42_12 (by decide) rfl ?_
            refine tw_top (y := p) (by exact hk13.2.2.1) ?_
            refine ar_iconst (k := 46) rfl ?_
            refine ar_iadd (k := 47) rfl ?_
            refine br_putIJ (k := 48) rfl (hS.k (by decide)) flR_42_12 (by decide) rfl (fun _ _ _ q => by cases q; exact ⟨rfl, rfl⟩) (fun I48 e48 => ?_)
            change _ = uI _ 69 5 _ at e48
            have hk48 := pH.p5 hk13 e48 (y := p + 1) (by rfl)
            refine ar_iinc (k := 49) (l2 := [(2, _), (1, _), (0, _)]) rfl (by decide) rfl rfl ?_
            refine ar_goto (k := 50) rfl ?_
            refine ar_iloadn (k := 18) rfl rfl ?_
            refine ar_iconst (k := 19) rfl ?_
            refine ar_icmp_ge (k := 20) rfl (by omega) (by omega) (fun c20 => ?_) (fun c20 => ?_)
            · refine ar_iloadn (k := 51) rfl rfl ?_
              refine ar_iret (k := 52) rfl rfl rfl (Nat.le_refl _) ?_
              first
                | (exfalso; omega)
                | (rw [show pFig (tpe s) e (p, true, o) = (0, p, true, o) by rw [pFig]; rw [if_pos (by simp <;> omega)]]; exact ⟨congrArg (fun z => some (vi z)) (by show (_ : Int) = _; omega), I48, rfl, pH.cp hk48 (by omega)⟩)
            · refine ar_aloadn (k := 21) rfl rfl ?_
              refine br_getI (k := 22) rfl (hS.k (by decide)) flR_48_12 (by decide) rfl ?_
              refine tw_top (y := 1) (by exact hk48.2.2.2.2.1) ?_
              refine ar_if_ne (k := 23) rfl (by omega) (fun c23 => ?_) (fun c23 => ?_)
              · refine ar_iloadn (k := 51) rfl rfl ?_
                refine ar_iret (k := 52) rfl rfl rfl (Nat.le_refl _) ?_
                first
                  | (exfalso; omega)
                  | (rw [show pFig (tpe s) e (p, true, o) = (0, p, true, o) by rw [pFig]; rw [if_pos (by simp <;> omega)]]; exact ⟨congrArg (fun z => some (vi z)) (by show (_ : Int) = _; omega), I48, rfl, pH.cp hk48 (by omega)⟩)
              · refine ar_aloadn (k := 24) rfl rfl ?_
                refine br_callV (k := 25) (as := []) rfl lvR_52 (hS.k (by decide)) rfl (c_R_here (p := (p + 1)) hS hB hk48 (by (constructor <;> (dsimp only; omega))) rfl) rfl (by decide) (by decide) tw_m0 (Nat.le_of_ble_eq_true rfl) ?_
                refine ar_bipush (k := 26) rfl (by decide) ?_
                refine ar_bipush (k := 27) rfl (by decide) ?_
                refine br_callS (k := 28) (as := [_, _, _]) rfl lsR_38 (c_R_in (by omega) (by omega) (by omega)) rfl (by decide) (by decide) tw_m0 (Nat.le_of_ble_eq_true rfl) ?_
                refine ar_if_eq (k := 29) rfl (by omega) (fun c29 => ?_) (fun c29 => ?_)
                · refine ar_iloadn (k := 51) rfl rfl ?_
                  refine ar_iret (k := 52) rfl rfl rfl (Nat.le_refl _) ?_
                  first
                    | (exfalso; omega)
                    | (rw [show pFig (tpe s) e (p, true, o) = (0, p, true, o) by rw [pFig]; rw [if_pos (by simp <;> omega)]]; exact ⟨congrArg (fun z => some (vi z)) (by show (_ : Int) = _; omega), I48, rfl, pH.cp hk48 (by omega)⟩)
                · refine ar_iloadn (k := 30) rfl rfl ?_
                  refine ar_if_eq (k := 31) rfl (by omega) (fun c31 => ?_) (fun c31 => ?_)
                  · refine ar_bipush (k := 34) rfl (by decide) ?_
                    refine ar_iloadn (k := 35) rfl rfl ?_
                    refine ar_imul (k := 36) rfl ?_
                    refine ar_aloadn (k := 37) rfl rfl ?_
                    refine br_callV (k := 38) (as := []) rfl lvR_52 (hS.k (by decide)) rfl (c_R_here (p := (p + 1)) hS hB hk48 (by (constructor <;> (dsimp only; omega))) rfl) rfl (by decide) (by decide) tw_m0 (Nat.le_of_ble_eq_true rfl) ?_
                    refine ar_iadd (k := 39) rfl ?_
                    refine ar_bipush (k := 40) rfl (by decide) ?_
                    refine ar_isub (k := 41) rfl ?_
                    refine ar_istoren (k := 42) (l2 := [(1, _), (2, _), (0, _)]) rfl (by decide) rfl ?_
                    refine ar_aloadn (k := 43) rfl rfl ?_
                    refine ar_dup (k := 44) rfl rfl ?_
                    refine br_getI (k := 45) rfl (hS.k (by decide)) flR_42_12 (by decide) rfl ?_
                    refine tw_top (y := (p + 1)) (by exact hk48.2.2.1) ?_
                    refine ar_iconst (k := 46) rfl ?_
                    refine ar_iadd (k := 47) rfl ?_
                    refine br_putIJ (k := 48) rfl (hS.k (by decide)) flR_42_12 (by decide) rfl (fun _ _ _ q => by cases q; exact ⟨rfl, rfl⟩) (fun I48 e48 => ?_)
                    change _ = uI _ 69 5 _ at e48
                    have hk48 := pH.p5 hk48 e48 (y := (p + 1) + 1) (by rfl)
                    refine ar_iinc (k := 49) (l2 := [(2, _), (1, _), (0, _)]) rfl (by decide) rfl rfl ?_
                    refine ar_goto (k := 50) rfl ?_
                    refine ar_iloadn (k := 18) rfl rfl ?_
                    refine ar_iconst (k := 19) rfl ?_
                    refine ar_icmp_ge (k := 20) rfl (by omega) (by omega) (fun c20 => ?_) (fun c20 => ?_)
                    · refine ar_iloadn (k := 51) rfl rfl ?_
                      refine ar_iret (k := 52) rfl rfl rfl (Nat.le_refl _) ?_
                      first
                        | (exfalso; omega)
                        | (rw [show pFig (tpe s) e (p, true, o) = (0, p, true, o) by rw [pFig]; rw [if_pos (by simp <;> omega)]]; exact ⟨congrArg (fun z => some (vi z)) (by show (_ : Int) = _; omega), I48, rfl, pH.cp hk48 (by omega)⟩)
                    · refine ar_aloadn (k := 21) rfl rfl ?_
                      refine br_getI (k := 22) rfl (hS.k (by decide)) flR_48_12 (by decide) rfl ?_
                      refine tw_top (y := 1) (by exact hk48.2.2.2.2.1) ?_
                      refine ar_if_ne (k := 23) rfl (by omega) (fun c23 => ?_) (fun c23 => ?_)
                      · refine ar_iloadn (k := 51) rfl rfl ?_
                        refine ar_iret (k := 52) rfl rfl rfl (Nat.le_refl _) ?_
                        first
                          | (exfalso; omega)
                          | (rw [show pFig (tpe s) e (p, true, o) = (0, p, true, o) by rw [pFig]; rw [if_pos (by simp <;> omega)]]; exact ⟨congrArg (fun z => some (vi z)) (by show (_ : Int) = _; omega), I48, rfl, pH.cp hk48 (by omega)⟩)
                      · refine ar_aloadn (k := 24) rfl rfl ?_
                        refine br_callV (k := 25) (as := []) rfl lvR_52 (hS.k (by decide)) rfl (c_R_here (p := ((p + 1) + 1)) hS hB hk48 (by (constructor <;> (dsimp only; omega))) rfl) rfl (by decide) (by decide) tw_m0 (Nat.le_of_ble_eq_true rfl) ?_
                        refine ar_bipush (k := 26) rfl (by decide) ?_
                        refine ar_bipush (k := 27) rfl (by decide) ?_
                        refine br_callS (k := 28) (as := [_, _, _]) rfl lsR_38 (c_R_in (by omega) (by omega) (by omega)) rfl (by decide) (by decide) tw_m0 (Nat.le_of_ble_eq_true rfl) ?_
                        refine ar_if_eq (k := 29) rfl (by omega) (fun c29 => ?_) (fun c29 => ?_)
                        · refine ar_iloadn (k := 51) rfl rfl ?_
                          refine ar_iret (k := 52) rfl rfl rfl (Nat.le_refl _) ?_
                          first
                            | (exfalso; omega)
                            | (rw [show pFig (tpe s) e (p, true, o) = (0, p, true, o) by rw [pFig]; rw [if_pos (by simp <;> omega)]]; exact ⟨congrArg (fun z => some (vi z)) (by show (_ : Int) = _; omega), I48, rfl, pH.cp hk48 (by omega)⟩)
                        · refine ar_iloadn (k := 30) rfl rfl ?_
                          refine ar_if_eq (k := 31) rfl (by omega) (fun c31 => ?_) (fun c31 => ?_)
                          · refine ar_bipush (k := 34) rfl (by decide) ?_
                            refine ar_iloadn (k := 35) rfl rfl ?_
                            refine ar_imul (k := 36) rfl ?_
                            refine ar_aloadn (k := 37) rfl rfl ?_
                            refine br_callV (k := 38) (as := []) rfl lvR_52 (hS.k (by decide)) rfl (c_R_here (p := ((p + 1) + 1)) hS hB hk48 (by (constructor <;> (dsimp only; omega))) rfl) rfl (by decide) (by decide) tw_m0 (Nat.le_of_ble_eq_true rfl) ?_
                            refine ar_iadd (k := 39) rfl ?_
                            refine ar_bipush (k := 40) rfl (by decide) ?_
                            refine ar_isub (k := 41) rfl ?_
                            refine ar_istoren (k := 42) (l2 := [(1, _), (2, _), (0, _)]) rfl (by decide) rfl ?_
                            refine ar_aloadn (k := 43) rfl rfl ?_
                            refine ar_dup (k := 44) rfl rfl ?_
                            refine br_getI (k := 45) rfl (hS.k (by decide)) flR_42_12 (by decide) rfl ?_
                            refine tw_top (y := ((p + 1) + 1)) (by exact hk48.2.2.1) ?_
                            refine ar_iconst (k := 46) rfl ?_
                            refine ar_iadd (k := 47) rfl ?_
                            refine br_putIJ (k := 48) rfl (hS.k (by decide)) flR_42_12 (by decide) rfl (fun _ _ _ q => by cases q; exact ⟨rfl, rfl⟩) (fun I48 e48 => ?_)
                            change _ = uI _ 69 5 _ at e48
                            have hk48 := pH.p5 hk48 e48 (y := ((p + 1) + 1) + 1) (by rfl)
                            refine ar_iinc (k := 49) (l2 := [(2, _), (1, _), (0, _)]) rfl (by decide) rfl rfl ?_
                            refine ar_goto (k := 50) rfl ?_
                            exfalso; omega
                          · refine ar_iloadn (k := 32) rfl rfl ?_
                            refine ar_if_le (k := 33) rfl (by omega) (fun c33 => ?_) (fun c33 => ?_)
                            · refine ar_iloadn (k := 51) rfl rfl ?_
                              refine ar_iret (k := 52) rfl rfl rfl (Nat.le_refl _) ?_
                              first
                                | (exfalso; omega)
                                | (rw [show pFig (tpe s) e (p, true, o) = (0, p, true, o) by rw [pFig]; rw [if_pos (by simp <;> omega)]]; exact ⟨congrArg (fun z => some (vi z)) (by show (_ : Int) = _; omega), I48, rfl, pH.cp hk48 (by omega)⟩)
                            · refine ar_bipush (k := 34) rfl (by decide) ?_
                              refine ar_iloadn (k := 35) rfl rfl ?_
                              refine ar_imul (k := 36) rfl ?_
                              refine ar_aloadn (k := 37) rfl rfl ?_
                              refine br_callV (k := 38) (as := []) rfl lvR_52 (hS.k (by decide)) rfl (c_R_here (p := ((p + 1) + 1)) hS hB hk48 (by (constructor <;> (dsimp only; omega))) rfl) rfl (by decide) (by decide) tw_m0 (Nat.le_of_ble_eq_true rfl) ?_
                              refine ar_iadd (k := 39) rfl ?_
                              refine ar_bipush (k := 40) rfl (by decide) ?_
                              refine ar_isub (k := 41) rfl ?_
                              refine ar_istoren (k := 42) (l2 := [(1, _), (2, _), (0, _)]) rfl (by decide) rfl ?_
                              refine ar_aloadn (k := 43) rfl rfl ?_
                              refine ar_dup (k := 44) rfl rfl ?_
                              refine br_getI (k := 45) rfl (hS.k (by decide)) flR_42_12 (by decide) rfl ?_
                              refine tw_top (y := ((p + 1) + 1)) (by exact hk48.2.2.1) ?_
                              refine ar_iconst (k := 46) rfl ?_
                              refine ar_iadd (k := 47) rfl ?_
                              refine br_putIJ (k := 48) rfl (hS.k (by decide)) flR_42_12 (by decide) rfl (fun _ _ _ q => by cases q; exact ⟨rfl, rfl⟩) (fun I48 e48 => ?_)
                              change _ = uI _ 69 5 _ at e48
                              have hk48 := pH.p5 hk48 e48 (y := ((p + 1) + 1) + 1) (by rfl)
                              refine ar_iinc (k := 49) (l2 := [(2, _), (1, _), (0, _)]) rfl (by decide) rfl rfl ?_
                              refine ar_goto (k := 50) rfl ?_
                              exfalso; omega
                  · refine ar_iloadn (k := 32) rfl rfl ?_
                    refine ar_if_le (k := 33) rfl (by omega) (fun c33 => ?_) (fun c33 => ?_)
                    · refine ar_iloadn (k := 51) rfl rfl ?_
                      refine ar_iret (k := 52) rfl rfl rfl (Nat.le_refl _) ?_
                      first
                        | (exfalso; omega)
                        | (rw [show pFig (tpe s) e (p, true, o) = (0, p, true, o) by rw [pFig]; rw [if_pos (by simp <;> omega)]]; exact ⟨congrArg (fun z => some (vi z)) (by show (_ : Int) = _; omega), I48, rfl, pH.cp hk48 (by omega)⟩)
                    · refine ar_bipush (k := 34) rfl (by decide) ?_
                      refine ar_iloadn (k := 35) rfl rfl ?_
                      refine ar_imul (k := 36) rfl ?_
                      refine ar_aloadn (k := 37) rfl rfl ?_
                      refine br_callV (k := 38) (as := []) rfl lvR_52 (hS.k (by decide)) rfl (c_R_here (p := (p + 1)) hS hB hk48 (by (constructor <;> (dsimp only; omega))) rfl) rfl (by decide) (by decide) tw_m0 (Nat.le_of_ble_eq_true rfl) ?_
                      refine ar_iadd (k := 39) rfl ?_
                      refine ar_bipush (k := 40) rfl (by decide) ?_
                      refine ar_isub (k := 41) rfl ?_
                      refine ar_istoren (k := 42) (l2 := [(1, _), (2, _), (0, _)]) rfl (by decide) rfl ?_
                      refine ar_aloadn (k := 43) rfl rfl ?_
                      refine ar_dup (k := 44) rfl rfl ?_
                      refine br_getI (k := 45) rfl (hS.k (by decide)) flR_42_12 (by decide) rfl ?_
                      refine tw_top (y := (p + 1)) (by exact hk48.2.2.1) ?_
                      refine ar_iconst (k := 46) rfl ?_
                      refine ar_iadd (k := 47) rfl ?_
                      refine br_putIJ (k := 48) rfl (hS.k (by decide)) flR_42_12 (by decide) rfl (fun _ _ _ q => by cases q; exact ⟨rfl, rfl⟩) (fun I48 e48 => ?_)
                      change _ = uI _ 69 5 _ at e48
                      have hk48 := pH.p5 hk48 e48 (y := (p + 1) + 1) (by rfl)
                      refine ar_iinc (k := 49) (l2 := [(2, _), (1, _), (0, _)]) rfl (by decide) rfl rfl ?_
                      refine ar_goto (k := 50) rfl ?_
                      refine ar_iloadn (k := 18) rfl rfl ?_
                      refine ar_iconst (k := 19) rfl ?_
                      refine ar_icmp_ge (k := 20) rfl (by omega) (by omega) (fun c20 => ?_) (fun c20 => ?_)
                      · refine ar_iloadn (k := 51) rfl rfl ?_
                        refine ar_iret (k := 52) rfl rfl rfl (Nat.le_refl _) ?_
                        first
                          | (exfalso; omega)
                          | (rw [show pFig (tpe s) e (p, true, o) = (0, p, true, o) by rw [pFig]; rw [if_pos (by simp <;> omega)]]; exact ⟨congrArg (fun z => some (vi z)) (by show (_ : Int) = _; omega), I48, rfl, pH.cp hk48 (by omega)⟩)
                      · refine ar_aloadn (k := 21) rfl rfl ?_
                        refine br_getI (k := 22) rfl (hS.k (by decide)) flR_48_12 (by decide) rfl ?_
                        refine tw_top (y := 1) (by exact hk48.2.2.2.2.1) ?_
                        refine ar_if_ne (k := 23) rfl (by omega) (fun c23 => ?_) (fun c23 => ?_)
                        · refine ar_iloadn (k := 51) rfl rfl ?_
                          refine ar_iret (k := 52) rfl rfl rfl (Nat.le_refl _) ?_
                          first
                            | (exfalso; omega)
                            | (rw [show pFig (tpe s) e (p, true, o) = (0, p, true, o) by rw [pFig]; rw [if_pos (by simp <;> omega)]]; exact ⟨congrArg (fun z => some (vi z)) (by show (_ : Int) = _; omega), I48, rfl, pH.cp hk48 (by omega)⟩)
                        · refine ar_aloadn (k := 24) rfl rfl ?_
                          refine br_callV (k := 25) (as := []) rfl lvR_52 (hS.k (by decide)) rfl (c_R_here (p := ((p + 1) + 1)) hS hB hk48 (by (constructor <;> (dsimp only; omega))) rfl) rfl (by decide) (by decide) tw_m0 (Nat.le_of_ble_eq_true rfl) ?_
                          refine ar_bipush (k := 26) rfl (by decide) ?_
                          refine ar_bipush (k := 27) rfl (by decide) ?_
                          refine br_callS (k := 28) (as := [_, _, _]) rfl lsR_38 (c_R_in (by omega) (by omega) (by omega)) rfl (by decide) (by decide) tw_m0 (Nat.le_of_ble_eq_true rfl) ?_
                          refine ar_if_eq (k := 29) rfl (by omega) (fun c29 => ?_) (fun c29 => ?_)
                          · refine ar_iloadn (k := 51) rfl rfl ?_
                            refine ar_iret (k := 52) rfl rfl rfl (Nat.le_refl _) ?_
                            first
                              | (exfalso; omega)
                              | (rw [show pFig (tpe s) e (p, true, o) = (0, p, true, o) by rw [pFig]; rw [if_pos (by simp <;> omega)]]; exact ⟨congrArg (fun z => some (vi z)) (by show (_ : Int) = _; omega), I48, rfl, pH.cp hk48 (by omega)⟩)
                          · refine ar_iloadn (k := 30) rfl rfl ?_
                            refine ar_if_eq (k := 31) rfl (by omega) (fun c31 => ?_) (fun c31 => ?_)
                            · refine ar_bipush (k := 34) rfl (by decide) ?_
                              refine ar_iloadn (k := 35) rfl rfl ?_
                              refine ar_imul (k := 36) rfl ?_
                              refine ar_aloadn (k := 37) rfl rfl ?_
                              refine br_callV (k := 38) (as := []) rfl lvR_52 (hS.k (by decide)) rfl (c_R_here (p := ((p + 1) + 1)) hS hB hk48 (by (constructor <;> (dsimp only; omega))) rfl) rfl (by decide) (by decide) tw_m0 (Nat.le_of_ble_eq_true rfl) ?_
                              refine ar_iadd (k := 39) rfl ?_
                              refine ar_bipush (k := 40) rfl (by decide) ?_
                              refine ar_isub (k := 41) rfl ?_
                              refine ar_istoren (k := 42) (l2 := [(1, _), (2, _), (0, _)]) rfl (by decide) rfl ?_
                              refine ar_aloadn (k := 43) rfl rfl ?_
                              refine ar_dup (k := 44) rfl rfl ?_
                              refine br_getI (k := 45) rfl (hS.k (by decide)) flR_42_12 (by decide) rfl ?_
                              refine tw_top (y := ((p + 1) + 1)) (by exact hk48.2.2.1) ?_
                              refine ar_iconst (k := 46) rfl ?_
                              refine ar_iadd (k := 47) rfl ?_
                              refine br_putIJ (k := 48) rfl (hS.k (by decide)) flR_42_12 (by decide) rfl (fun _ _ _ q => by cases q; exact ⟨rfl, rfl⟩) (fun I48 e48 => ?_)
                              change _ = uI _ 69 5 _ at e48
                              have hk48 := pH.p5 hk48 e48 (y := ((p + 1) + 1) + 1) (by rfl)
                              refine ar_iinc (k := 49) (l2 := [(2, _), (1, _), (0, _)]) rfl (by decide) rfl rfl ?_
                              refine ar_goto (k := 50) rfl ?_
                              exfalso; omega
                            · refine ar_iloadn (k := 32) rfl rfl ?_
                              refine ar_if_le (k := 33) rfl (by omega) (fun c33 => ?_) (fun c33 => ?_)
                              · refine ar_iloadn (k := 51) rfl rfl ?_
                                refine ar_iret (k := 52) rfl rfl rfl (Nat.le_refl _) ?_
                                first
                                  | (exfalso; omega)
                                  | (rw [show pFig (tpe s) e (p, true, o) = (0, p, true, o) by rw [pFig]; rw [if_pos (by simp <;> omega)]]; exact ⟨congrArg (fun z => some (vi z)) (by show (_ : Int) = _; omega), I48, rfl, pH.cp hk48 (by omega)⟩)
                              · refine ar_bipush (k := 34) rfl (by decide) ?_
                                refine ar_iloadn (k := 35) rfl rfl ?_
                                refine ar_imul (k := 36) rfl ?_
                                refine ar_aloadn (k := 37) rfl rfl ?_
                                refine br_callV (k := 38) (as := []) rfl lvR_52 (hS.k (by decide)) rfl (c_R_here (p := ((p + 1) + 1)) hS hB hk48 (by (constructor <;> (dsimp only; omega))) rfl) rfl (by decide) (by decide) tw_m0 (Nat.le_of_ble_eq_true rfl) ?_
                                refine ar_iadd (k := 39) rfl ?_
                                refine ar_bipush (k := 40) rfl (by decide) ?_
                                refine ar_isub (k := 41) rfl ?_
                                refine ar_istoren (k := 42) (l2 := [(1, _), (2, _), (0, _)]) rfl (by decide) rfl ?_
                                refine ar_aloadn (k := 43) rfl rfl ?_
                                refine ar_dup (k := 44) rfl rfl ?_
                                refine br_getI (k := 45) rfl (hS.k (by decide)) flR_42_12 (by decide) rfl ?_
                                refine tw_top (y := ((p + 1) + 1)) (by exact hk48.2.2.1) ?_
                                refine ar_iconst (k := 46) rfl ?_
                                refine ar_iadd (k := 47) rfl ?_
                                refine br_putIJ (k := 48) rfl (hS.k (by decide)) flR_42_12 (by decide) rfl (fun _ _ _ q => by cases q; exact ⟨rfl, rfl⟩) (fun I48 e48 => ?_)
                                change _ = uI _ 69 5 _ at e48
                                have hk48 := pH.p5 hk48 e48 (y := ((p + 1) + 1) + 1) (by rfl)
                                refine ar_iinc (k := 49) (l2 := [(2, _), (1, _), (0, _)]) rfl (by decide) rfl rfl ?_
                                refine ar_goto (k := 50) rfl ?_
                                exfalso; omega
          · refine ar_iloadn (k := 32) rfl rfl ?_
            refine ar_if_le (k := 33) rfl (by omega) (fun c33 => ?_) (fun c33 => ?_)
            · refine ar_iloadn (k := 51) rfl rfl ?_
              refine ar_iret (k := 52) rfl rfl rfl (Nat.le_refl _) ?_
              first
                | (exfalso; omega)
                | (rw [show pFig (tpe s) e (p, true, o) = (0, p, true, o) by rw [pFig]; rw [if_pos (by simp <;> omega)]]; exact ⟨congrArg (fun z => some (vi z)) (by show (_ : Int) = _; omega), I13, rfl, pH.cp hk13 (by omega)⟩)
            · refine ar_bipush (k := 34) rfl (by decide) ?_
              refine ar_iloadn (k := 35) rfl rfl ?_
              refine ar_imul (k := 36) rfl ?_
              refine ar_aloadn (k := 37) rfl rfl ?_
              refine br_callV (k := 38) (as := []) rfl lvR_52 (hS.k (by decide)) rfl (c_R_here (p := p) hS hB hk13 (by (constructor <;> (dsimp only; omega))) rfl) rfl (by decide) (by decide) tw_m0 (Nat.le_of_ble_eq_true rfl) ?_
              refine ar_iadd (k := 39) rfl ?_
              refine ar_bipush (k := 40) rfl (by decide) ?_
              refine ar_isub (k := 41) rfl ?_
              refine ar_istoren (k := 42) (l2 := [(1, _), (2, _), (0, _)]) rfl (by decide) rfl ?_
              refine ar_aloadn (k := 43) rfl rfl ?_
              refine ar_dup (k := 44) rfl rfl ?_
              refine br_getI (k := 45) rfl (hS.k (by decide)) flR_42_12 (by decide) rfl ?_
              refine tw_top (y := p) (by exact hk13.2.2.1) ?_
              refine ar_iconst (k := 46) rfl ?_
              refine ar_iadd (k := 47) rfl ?_
              refine br_putIJ (k := 48) rfl (hS.k (by decide)) flR_42_12 (by decide) rfl (fun _ _ _ q => by cases q; exact ⟨rfl, rfl⟩) (fun I48 e48 => ?_)
              change _ = uI _ 69 5 _ at e48
              have hk48 := pH.p5 hk13 e48 (y := p + 1) (by rfl)
              refine ar_iinc (k := 49) (l2 := [(2, _), (1, _), (0, _)]) rfl (by decide) rfl rfl ?_
              refine ar_goto (k := 50) rfl ?_
              refine ar_iloadn (k := 18) rfl rfl ?_
              refine ar_iconst (k := 19) rfl ?_
              refine ar_icmp_ge (k := 20) rfl (by omega) (by omega) (fun c20 => ?_) (fun c20 => ?_)
              · refine ar_iloadn (k := 51) rfl rfl ?_
                refine ar_iret (k := 52) rfl rfl rfl (Nat.le_refl _) ?_
                first
                  | (exfalso; omega)
                  | (rw [show pFig (tpe s) e (p, true, o) = (0, p, true, o) by rw [pFig]; rw [if_pos (by simp <;> omega)]]; exact ⟨congrArg (fun z => some (vi z)) (by show (_ : Int) = _; omega), I48, rfl, pH.cp hk48 (by omega)⟩)
              · refine ar_aloadn (k := 21) rfl rfl ?_
                refine br_getI (k := 22) rfl (hS.k (by decide)) flR_48_12 (by decide) rfl ?_
                refine tw_top (y := 1) (by exact hk48.2.2.2.2.1) ?_
                refine ar_if_ne (k := 23) rfl (by omega) (fun c23 => ?_) (fun c23 => ?_)
                · refine ar_iloadn (k := 51) rfl rfl ?_
                  refine ar_iret (k := 52) rfl rfl rfl (Nat.le_refl _) ?_
                  first
                    | (exfalso; omega)
                    | (rw [show pFig (tpe s) e (p, true, o) = (0, p, true, o) by rw [pFig]; rw [if_pos (by simp <;> omega)]]; exact ⟨congrArg (fun z => some (vi z)) (by show (_ : Int) = _; omega), I48, rfl, pH.cp hk48 (by omega)⟩)
                · refine ar_aloadn (k := 24) rfl rfl ?_
                  refine br_callV (k := 25) (as := []) rfl lvR_52 (hS.k (by decide)) rfl (c_R_here (p := (p + 1)) hS hB hk48 (by (constructor <;> (dsimp only; omega))) rfl) rfl (by decide) (by decide) tw_m0 (Nat.le_of_ble_eq_true rfl) ?_
                  refine ar_bipush (k := 26) rfl (by decide) ?_
                  refine ar_bipush (k := 27) rfl (by decide) ?_
                  refine br_callS (k := 28) (as := [_, _, _]) rfl lsR_38 (c_R_in (by omega) (by omega) (by omega)) rfl (by decide) (by decide) tw_m0 (Nat.le_of_ble_eq_true rfl) ?_
                  refine ar_if_eq (k := 29) rfl (by omega) (fun c29 => ?_) (fun c29 => ?_)
                  · refine ar_iloadn (k := 51) rfl rfl ?_
                    refine ar_iret (k := 52) rfl rfl rfl (Nat.le_refl _) ?_
                    first
                      | (exfalso; omega)
                      | (rw [show pFig (tpe s) e (p, true, o) = (0, p, true, o) by rw [pFig]; rw [if_pos (by simp <;> omega)]]; exact ⟨congrArg (fun z => some (vi z)) (by show (_ : Int) = _; omega), I48, rfl, pH.cp hk48 (by omega)⟩)
                  · refine ar_iloadn (k := 30) rfl rfl ?_
                    refine ar_if_eq (k := 31) rfl (by omega) (fun c31 => ?_) (fun c31 => ?_)
                    · refine ar_bipush (k := 34) rfl (by decide) ?_
                      refine ar_iloadn (k := 35) rfl rfl ?_
                      refine ar_imul (k := 36) rfl ?_
                      refine ar_aloadn (k := 37) rfl rfl ?_
                      refine br_callV (k := 38) (as := []) rfl lvR_52 (hS.k (by decide)) rfl (c_R_here (p := (p + 1)) hS hB hk48 (by (constructor <;> (dsimp only; omega))) rfl) rfl (by decide) (by decide) tw_m0 (Nat.le_of_ble_eq_true rfl) ?_
                      refine ar_iadd (k := 39) rfl ?_
                      refine ar_bipush (k := 40) rfl (by decide) ?_
                      refine ar_isub (k := 41) rfl ?_
                      refine ar_istoren (k := 42) (l2 := [(1, _), (2, _), (0, _)]) rfl (by decide) rfl ?_
                      refine ar_aloadn (k := 43) rfl rfl ?_
                      refine ar_dup (k := 44) rfl rfl ?_
                      refine br_getI (k := 45) rfl (hS.k (by decide)) flR_42_12 (by decide) rfl ?_
                      refine tw_top (y := (p + 1)) (by exact hk48.2.2.1) ?_
                      refine ar_iconst (k := 46) rfl ?_
                      refine ar_iadd (k := 47) rfl ?_
                      refine br_putIJ (k := 48) rfl (hS.k (by decide)) flR_42_12 (by decide) rfl (fun _ _ _ q => by cases q; exact ⟨rfl, rfl⟩) (fun I48 e48 => ?_)
                      change _ = uI _ 69 5 _ at e48
                      have hk48 := pH.p5 hk48 e48 (y := (p + 1) + 1) (by rfl)
                      refine ar_iinc (k := 49) (l2 := [(2, _), (1, _), (0, _)]) rfl (by decide) rfl rfl ?_
                      refine ar_goto (k := 50) rfl ?_
                      refine ar_iloadn (k := 18) rfl rfl ?_
                      refine ar_iconst (k := 19) rfl ?_
                      refine ar_icmp_ge (k := 20) rfl (by omega) (by omega) (fun c20 => ?_) (fun c20 => ?_)
                      · refine ar_iloadn (k := 51) rfl rfl ?_
                        refine ar_iret (k := 52) rfl rfl rfl (Nat.le_refl _) ?_
                        first
                          | (exfalso; omega)
                          | (rw [show pFig (tpe s) e (p, true, o) = (0, p, true, o) by rw [pFig]; rw [if_pos (by simp <;> omega)]]; exact ⟨congrArg (fun z => some (vi z)) (by show (_ : Int) = _; omega), I48, rfl, pH.cp hk48 (by omega)⟩)
                      · refine ar_aloadn (k := 21) rfl rfl ?_
                        refine br_getI (k := 22) rfl (hS.k (by decide)) flR_48_12 (by decide) rfl ?_
                        refine tw_top (y := 1) (by exact hk48.2.2.2.2.1) ?_
                        refine ar_if_ne (k := 23) rfl (by omega) (fun c23 => ?_) (fun c23 => ?_)
                        · refine ar_iloadn (k := 51) rfl rfl ?_
                          refine ar_iret (k := 52) rfl rfl rfl (Nat.le_refl _) ?_
                          first
                            | (exfalso; omega)
                            | (rw [show pFig (tpe s) e (p, true, o) = (0, p, true, o) by rw [pFig]; rw [if_pos (by simp <;> omega)]]; exact ⟨congrArg (fun z => some (vi z)) (by show (_ : Int) = _; omega), I48, rfl, pH.cp hk48 (by omega)⟩)
                        · refine ar_aloadn (k := 24) rfl rfl ?_
                          refine br_callV (k := 25) (as := []) rfl lvR_52 (hS.k (by decide)) rfl (c_R_here (p := ((p + 1) + 1)) hS hB hk48 (by (constructor <;> (dsimp only; omega))) rfl) rfl (by decide) (by decide) tw_m0 (Nat.le_of_ble_eq_true rfl) ?_
                          refine ar_bipush (k := 26) rfl (by decide) ?_
                          refine ar_bipush (k := 27) rfl (by decide) ?_
                          refine br_callS (k := 28) (as := [_, _, _]) rfl lsR_38 (c_R_in (by omega) (by omega) (by omega)) rfl (by decide) (by decide) tw_m0 (Nat.le_of_ble_eq_true rfl) ?_
                          refine ar_if_eq (k := 29) rfl (by omega) (fun c29 => ?_) (fun c29 => ?_)
                          · refine ar_iloadn (k := 51) rfl rfl ?_
                            refine ar_iret (k := 52) rfl rfl rfl (Nat.le_refl _) ?_
                            first
                              | (exfalso; omega)
                              | (rw [show pFig (tpe s) e (p, true, o) = (0, p, true, o) by rw [pFig]; rw [if_pos (by simp <;> omega)]]; exact ⟨congrArg (fun z => some (vi z)) (by show (_ : Int) = _; omega), I48, rfl, pH.cp hk48 (by omega)⟩)
                          · refine ar_iloadn (k := 30) rfl rfl ?_
                            refine ar_if_eq (k := 31) rfl (by omega) (fun c31 => ?_) (fun c31 => ?_)
                            · refine ar_bipush (k := 34) rfl (by decide) ?_
                              refine ar_iloadn (k := 35) rfl rfl ?_
                              refine ar_imul (k := 36) rfl ?_
                              refine ar_aloadn (k := 37) rfl rfl ?_
                              refine br_callV (k := 38) (as := []) rfl lvR_52 (hS.k (by decide)) rfl (c_R_here (p := ((p + 1) + 1)) hS hB hk48 (by (constructor <;> (dsimp only; omega))) rfl) rfl (by decide) (by decide) tw_m0 (Nat.le_of_ble_eq_true rfl) ?_
                              refine ar_iadd (k := 39) rfl ?_
                              refine ar_bipush (k := 40) rfl (by decide) ?_
                              refine ar_isub (k := 41) rfl ?_
                              refine ar_istoren (k := 42) (l2 := [(1, _), (2, _), (0, _)]) rfl (by decide) rfl ?_
                              refine ar_aloadn (k := 43) rfl rfl ?_
                              refine ar_dup (k := 44) rfl rfl ?_
                              refine br_getI (k := 45) rfl (hS.k (by decide)) flR_42_12 (by decide) rfl ?_
                              refine tw_top (y := ((p + 1) + 1)) (by exact hk48.2.2.1) ?_
                              refine ar_iconst (k := 46) rfl ?_
                              refine ar_iadd (k := 47) rfl ?_
                              refine br_putIJ (k := 48) rfl (hS.k (by decide)) flR_42_12 (by decide) rfl (fun _ _ _ q => by cases q; exact ⟨rfl, rfl⟩) (fun I48 e48 => ?_)
                              change _ = uI _ 69 5 _ at e48
                              have hk48 := pH.p5 hk48 e48 (y := ((p + 1) + 1) + 1) (by rfl)
                              refine ar_iinc (k := 49) (l2 := [(2, _), (1, _), (0, _)]) rfl (by decide) rfl rfl ?_
                              refine ar_goto (k := 50) rfl ?_
                              exfalso; omega
                            · refine ar_iloadn (k := 32) rfl rfl ?_
                              refine ar_if_le (k := 33) rfl (by omega) (fun c33 => ?_) (fun c33 => ?_)
                              · refine ar_iloadn (k := 51) rfl rfl ?_
                                refine ar_iret (k := 52) rfl rfl rfl (Nat.le_refl _) ?_
                                first
                                  | (exfalso; omega)
                                  | (rw [show pFig (tpe s) e (p, true, o) = (0, p, true, o) by rw [pFig]; rw [if_pos (by simp <;> omega)]]; exact ⟨congrArg (fun z => some (vi z)) (by show (_ : Int) = _; omega), I48, rfl, pH.cp hk48 (by omega)⟩)
                              · refine ar_bipush (k := 34) rfl (by decide) ?_
                                refine ar_iloadn (k := 35) rfl rfl ?_
                                refine ar_imul (k := 36) rfl ?_
                                refine ar_aloadn (k := 37) rfl rfl ?_
                                refine br_callV (k := 38) (as := []) rfl lvR_52 (hS.k (by decide)) rfl (c_R_here (p := ((p + 1) + 1)) hS hB hk48 (by (constructor <;> (dsimp only; omega))) rfl) rfl (by decide) (by decide) tw_m0 (Nat.le_of_ble_eq_true rfl) ?_
                                refine ar_iadd (k := 39) rfl ?_
                                refine ar_bipush (k := 40) rfl (by decide) ?_
                                refine ar_isub (k := 41) rfl ?_
                                refine ar_istoren (k := 42) (l2 := [(1, _), (2, _), (0, _)]) rfl (by decide) rfl ?_
                                refine ar_aloadn (k := 43) rfl rfl ?_
                                refine ar_dup (k := 44) rfl rfl ?_
                                refine br_getI (k := 45) rfl (hS.k (by decide)) flR_42_12 (by decide) rfl ?_
                                refine tw_top (y := ((p + 1) + 1)) (by exact hk48.2.2.1) ?_
                                refine ar_iconst (k := 46) rfl ?_
                                refine ar_iadd (k := 47) rfl ?_
                                refine br_putIJ (k := 48) rfl (hS.k (by decide)) flR_42_12 (by decide) rfl (fun _ _ _ q => by cases q; exact ⟨rfl, rfl⟩) (fun I48 e48 => ?_)
                                change _ = uI _ 69 5 _ at e48
                                have hk48 := pH.p5 hk48 e48 (y := ((p + 1) + 1) + 1) (by rfl)
                                refine ar_iinc (k := 49) (l2 := [(2, _), (1, _), (0, _)]) rfl (by decide) rfl rfl ?_
                                refine ar_goto (k := 50) rfl ?_
                                exfalso; omega
                    · refine ar_iloadn (k := 32) rfl rfl ?_
                      refine ar_if_le (k := 33) rfl (by omega) (fun c33 => ?_) (fun c33 => ?_)
                      · refine ar_iloadn (k := 51) rfl rfl ?_
                        refine ar_iret (k := 52) rfl rfl rfl (Nat.le_refl _) ?_
                        first
                          | (exfalso; omega)
                          | (rw [show pFig (tpe s) e (p, true, o) = (0, p, true, o) by rw [pFig]; rw [if_pos (by simp <;> omega)]]; exact ⟨congrArg (fun z => some (vi z)) (by show (_ : Int) = _; omega), I48, rfl, pH.cp hk48 (by omega)⟩)
                      · refine ar_bipush (k := 34) rfl (by decide) ?_
                        refine ar_iloadn (k := 35) rfl rfl ?_
                        refine ar_imul (k := 36) rfl ?_
                        refine ar_aloadn (k := 37) rfl rfl ?_
                        refine br_callV (k := 38) (as := []) rfl lvR_52 (hS.k (by decide)) rfl (c_R_here (p := (p + 1)) hS hB hk48 (by (constructor <;> (dsimp only; omega))) rfl) rfl (by decide) (by decide) tw_m0 (Nat.le_of_ble_eq_true rfl) ?_
                        refine ar_iadd (k := 39) rfl ?_
                        refine ar_bipush (k := 40) rfl (by decide) ?_
                        refine ar_isub (k := 41) rfl ?_
                        refine ar_istoren (k := 42) (l2 := [(1, _), (2, _), (0, _)]) rfl (by decide) rfl ?_
                        refine ar_aloadn (k := 43) rfl rfl ?_
                        refine ar_dup (k := 44) rfl rfl ?_
                        refine br_getI (k := 45) rfl (hS.k (by decide)) flR_42_12 (by decide) rfl ?_
                        refine tw_top (y := (p + 1)) (by exact hk48.2.2.1) ?_
                        refine ar_iconst (k := 46) rfl ?_
                        refine ar_iadd (k := 47) rfl ?_
                        refine br_putIJ (k := 48) rfl (hS.k (by decide)) flR_42_12 (by decide) rfl (fun _ _ _ q => by cases q; exact ⟨rfl, rfl⟩) (fun I48 e48 => ?_)
                        change _ = uI _ 69 5 _ at e48
                        have hk48 := pH.p5 hk48 e48 (y := (p + 1) + 1) (by rfl)
                        refine ar_iinc (k := 49) (l2 := [(2, _), (1, _), (0, _)]) rfl (by decide) rfl rfl ?_
                        refine ar_goto (k := 50) rfl ?_
                        refine ar_iloadn (k := 18) rfl rfl ?_
                        refine ar_iconst (k := 19) rfl ?_
                        refine ar_icmp_ge (k := 20) rfl (by omega) (by omega) (fun c20 => ?_) (fun c20 => ?_)
                        · refine ar_iloadn (k := 51) rfl rfl ?_
                          refine ar_iret (k := 52) rfl rfl rfl (Nat.le_refl _) ?_
                          first
                            | (exfalso; omega)
                            | (rw [show pFig (tpe s) e (p, true, o) = (0, p, true, o) by rw [pFig]; rw [if_pos (by simp <;> omega)]]; exact ⟨congrArg (fun z => some (vi z)) (by show (_ : Int) = _; omega), I48, rfl, pH.cp hk48 (by omega)⟩)
                        · refine ar_aloadn (k := 21) rfl rfl ?_
                          refine br_getI (k := 22) rfl (hS.k (by decide)) flR_48_12 (by decide) rfl ?_
                          refine tw_top (y := 1) (by exact hk48.2.2.2.2.1) ?_
                          refine ar_if_ne (k := 23) rfl (by omega) (fun c23 => ?_) (fun c23 => ?_)
                          · refine ar_iloadn (k := 51) rfl rfl ?_
                            refine ar_iret (k := 52) rfl rfl rfl (Nat.le_refl _) ?_
                            first
                              | (exfalso; omega)
                              | (rw [show pFig (tpe s) e (p, true, o) = (0, p, true, o) by rw [pFig]; rw [if_pos (by simp <;> omega)]]; exact ⟨congrArg (fun z => some (vi z)) (by show (_ : Int) = _; omega), I48, rfl, pH.cp hk48 (by omega)⟩)
                          · refine ar_aloadn (k := 24) rfl rfl ?_
                            refine br_callV (k := 25) (as := []) rfl lvR_52 (hS.k (by decide)) rfl (c_R_here (p := ((p + 1) + 1)) hS hB hk48 (by (constructor <;> (dsimp only; omega))) rfl) rfl (by decide) (by decide) tw_m0 (Nat.le_of_ble_eq_true rfl) ?_
                            refine ar_bipush (k := 26) rfl (by decide) ?_
                            refine ar_bipush (k := 27) rfl (by decide) ?_
                            refine br_callS (k := 28) (as := [_, _, _]) rfl lsR_38 (c_R_in (by omega) (by omega) (by omega)) rfl (by decide) (by decide) tw_m0 (Nat.le_of_ble_eq_true rfl) ?_
                            refine ar_if_eq (k := 29) rfl (by omega) (fun c29 => ?_) (fun c29 => ?_)
                            · refine ar_iloadn (k := 51) rfl rfl ?_
                              refine ar_iret (k := 52) rfl rfl rfl (Nat.le_refl _) ?_
                              first
                                | (exfalso; omega)
                                | (rw [show pFig (tpe s) e (p, true, o) = (0, p, true, o) by rw [pFig]; rw [if_pos (by simp <;> omega)]]; exact ⟨congrArg (fun z => some (vi z)) (by show (_ : Int) = _; omega), I48, rfl, pH.cp hk48 (by omega)⟩)
                            · refine ar_iloadn (k := 30) rfl rfl ?_
                              refine ar_if_eq (k := 31) rfl (by omega) (fun c31 => ?_) (fun c31 => ?_)
                              · refine ar_bipush (k := 34) rfl (by decide) ?_
                                refine ar_iloadn (k := 35) rfl rfl ?_
                                refine ar_imul (k := 36) rfl ?_
                                refine ar_aloadn (k := 37) rfl rfl ?_
                                refine br_callV (k := 38) (as := []) rfl lvR_52 (hS.k (by decide)) rfl (c_R_here (p := ((p + 1) + 1)) hS hB hk48 (by (constructor <;> (dsimp only; omega))) rfl) rfl (by decide) (by decide) tw_m0 (Nat.le_of_ble_eq_true rfl) ?_
                                refine ar_iadd (k := 39) rfl ?_
                                refine ar_bipush (k := 40) rfl (by decide) ?_
                                refine ar_isub (k := 41) rfl ?_
                                refine ar_istoren (k := 42) (l2 := [(1, _), (2, _), (0, _)]) rfl (by decide) rfl ?_
                                refine ar_aloadn (k := 43) rfl rfl ?_
                                refine ar_dup (k := 44) rfl rfl ?_
                                refine br_getI (k := 45) rfl (hS.k (by decide)) flR_42_12 (by decide) rfl ?_
                                refine tw_top (y := ((p + 1) + 1)) (by exact hk48.2.2.1) ?_
                                refine ar_iconst (k := 46) rfl ?_
                                refine ar_iadd (k := 47) rfl ?_
                                refine br_putIJ (k := 48) rfl (hS.k (by decide)) flR_42_12 (by decide) rfl (fun _ _ _ q => by cases q; exact ⟨rfl, rfl⟩) (fun I48 e48 => ?_)
                                change _ = uI _ 69 5 _ at e48
                                have hk48 := pH.p5 hk48 e48 (y := ((p + 1) + 1) + 1) (by rfl)
                                refine ar_iinc (k := 49) (l2 := [(2, _), (1, _), (0, _)]) rfl (by decide) rfl rfl ?_
                                refine ar_goto (k := 50) rfl ?_
                                exfalso; omega
                              · refine ar_iloadn (k := 32) rfl rfl ?_
                                refine ar_if_le (k := 33) rfl (by omega) (fun c33 => ?_) (fun c33 => ?_)
                                · refine ar_iloadn (k := 51) rfl rfl ?_
                                  refine ar_iret (k := 52) rfl rfl rfl (Nat.le_refl _) ?_
                                  first
                                    | (exfalso; omega)
                                    | (rw [show pFig (tpe s) e (p, true, o) = (0, p, true, o) by rw [pFig]; rw [if_pos (by simp <;> omega)]]; exact ⟨congrArg (fun z => some (vi z)) (by show (_ : Int) = _; omega), I48, rfl, pH.cp hk48 (by omega)⟩)
                                · refine ar_bipush (k := 34) rfl (by decide) ?_
                                  refine ar_iloadn (k := 35) rfl rfl ?_
                                  refine ar_imul (k := 36) rfl ?_
                                  refine ar_aloadn (k := 37) rfl rfl ?_
                                  refine br_callV (k := 38) (as := []) rfl lvR_52 (hS.k (by decide)) rfl (c_R_here (p := ((p + 1) + 1)) hS hB hk48 (by (constructor <;> (dsimp only; omega))) rfl) rfl (by decide) (by decide) tw_m0 (Nat.le_of_ble_eq_true rfl) ?_
                                  refine ar_iadd (k := 39) rfl ?_
                                  refine ar_bipush (k := 40) rfl (by decide) ?_
                                  refine ar_isub (k := 41) rfl ?_
                                  refine ar_istoren (k := 42) (l2 := [(1, _), (2, _), (0, _)]) rfl (by decide) rfl ?_
                                  refine ar_aloadn (k := 43) rfl rfl ?_
                                  refine ar_dup (k := 44) rfl rfl ?_
                                  refine br_getI (k := 45) rfl (hS.k (by decide)) flR_42_12 (by decide) rfl ?_
                                  refine tw_top (y := ((p + 1) + 1)) (by exact hk48.2.2.1) ?_
                                  refine ar_iconst (k := 46) rfl ?_
                                  refine ar_iadd (k := 47) rfl ?_
                                  refine br_putIJ (k := 48) rfl (hS.k (by decide)) flR_42_12 (by decide) rfl (fun _ _ _ q => by cases q; exact ⟨rfl, rfl⟩) (fun I48 e48 => ?_)
                                  change _ = uI _ 69 5 _ at e48
                                  have hk48 := pH.p5 hk48 e48 (y := ((p + 1) + 1) + 1) (by rfl)
                                  refine ar_iinc (k := 49) (l2 := [(2, _), (1, _), (0, _)]) rfl (by decide) rfl rfl ?_
                                  refine ar_goto (k := 50) rfl ?_
                                  exfalso; omega
  · refine ar_aloadn (k := 4) rfl rfl ?_
    refine br_callV (k := 5) (as := []) rfl lvR_52 (hS.k (by decide)) rfl (c_R_here (p := p) hS hB hk (by (constructor <;> (dsimp only; omega))) rfl) rfl (by decide) (by decide) tw_m0 (Nat.le_of_ble_eq_true rfl) ?_
    refine ar_bipush (k := 6) rfl (by decide) ?_
    refine ar_bipush (k := 7) rfl (by decide) ?_
    refine br_callS (k := 8) (as := [_, _, _]) rfl lsR_38 (c_R_in (by omega) (by omega) (by omega)) rfl (by decide) (by decide) tw_m0 (Nat.le_of_ble_eq_true rfl) ?_
    refine ar_if_ne (k := 9) rfl (by omega) (fun c9 => ?_) (fun c9 => ?_)
    · refine ar_iconst (k := 12) rfl ?_
      refine br_putZJ (k := 13) rfl (hS.k (by decide)) flR_48_12 (by decide) rfl (by omega) (fun _ _ _ q => by cases q; exact ⟨rfl, rfl⟩) (fun I13 e13 => ?_)
      change _ = uI _ 69 7 _ at e13
      have hk13 := pH.w7 hk e13 (y := false) (by rfl)
      refine ar_iconst (k := 14) rfl ?_
      refine ar_istoren (k := 15) (l2 := [(1, _), (0, _)]) rfl (by decide) rfl ?_
      refine ar_iconst (k := 16) rfl ?_
      refine ar_istoren (k := 17) (l2 := [(2, _), (1, _), (0, _)]) rfl (by decide) rfl ?_
      refine ar_iloadn (k := 18) rfl rfl ?_
      refine ar_iconst (k := 19) rfl ?_
      refine ar_icmp_ge (k := 20) rfl (by omega) (by omega) (fun c20 => ?_) (fun c20 => ?_)
      · refine ar_iloadn (k := 51) rfl rfl ?_
        refine ar_iret (k := 52) rfl rfl rfl (Nat.le_refl _) ?_
        first
          | (exfalso; omega)
          | (rw [show pFig (tpe s) e (p, true, o) = (0, p, true, o) by rw [pFig]; rw [if_pos (by simp <;> omega)]]; exact ⟨congrArg (fun z => some (vi z)) (by show (_ : Int) = _; omega), I13, rfl, pH.cp hk13 (by omega)⟩)
      · refine ar_aloadn (k := 21) rfl rfl ?_
        refine br_getI (k := 22) rfl (hS.k (by decide)) flR_48_12 (by decide) rfl ?_
        refine tw_top (y := 0) (by exact hk13.2.2.2.2.1) ?_
        refine ar_if_ne (k := 23) rfl (by omega) (fun c23 => ?_) (fun c23 => ?_)
        · refine ar_iloadn (k := 51) rfl rfl ?_
          refine ar_iret (k := 52) rfl rfl rfl (Nat.le_refl _) ?_
          first
            | (exfalso; omega)
            | (rw [show pFig (tpe s) e (p, true, o) = (0, p, true, o) by rw [pFig]; rw [if_pos (by simp <;> omega)]]; exact ⟨congrArg (fun z => some (vi z)) (by show (_ : Int) = _; omega), I13, rfl, pH.cp hk13 (by omega)⟩)
        · refine ar_aloadn (k := 24) rfl rfl ?_
          refine br_callV (k := 25) (as := []) rfl lvR_52 (hS.k (by decide)) rfl (c_R_here (p := p) hS hB hk13 (by (constructor <;> (dsimp only; omega))) rfl) rfl (by decide) (by decide) tw_m0 (Nat.le_of_ble_eq_true rfl) ?_
          refine ar_bipush (k := 26) rfl (by decide) ?_
          refine ar_bipush (k := 27) rfl (by decide) ?_
          refine br_callS (k := 28) (as := [_, _, _]) rfl lsR_38 (c_R_in (by omega) (by omega) (by omega)) rfl (by decide) (by decide) tw_m0 (Nat.le_of_ble_eq_true rfl) ?_
          refine ar_if_eq (k := 29) rfl (by omega) (fun c29 => ?_) (fun c29 => ?_)
          · refine ar_iloadn (k := 51) rfl rfl ?_
            refine ar_iret (k := 52) rfl rfl rfl (Nat.le_refl _) ?_
            first
              | (exfalso; omega)
              | (rw [show pFig (tpe s) e (p, true, o) = (0, p, true, o) by rw [pFig]; rw [if_pos (by simp <;> omega)]]; exact ⟨congrArg (fun z => some (vi z)) (by show (_ : Int) = _; omega), I13, rfl, pH.cp hk13 (by omega)⟩)
          · refine ar_iloadn (k := 30) rfl rfl ?_
            refine ar_if_eq (k := 31) rfl (by omega) (fun c31 => ?_) (fun c31 => ?_)
            · refine ar_bipush (k := 34) rfl (by decide) ?_
              refine ar_iloadn (k := 35) rfl rfl ?_
              refine ar_imul (k := 36) rfl ?_
              refine ar_aloadn (k := 37) rfl rfl ?_
              refine br_callV (k := 38) (as := []) rfl lvR_52 (hS.k (by decide)) rfl (c_R_here (p := p) hS hB hk13 (by (constructor <;> (dsimp only; omega))) rfl) rfl (by decide) (by decide) tw_m0 (Nat.le_of_ble_eq_true rfl) ?_
              refine ar_iadd (k := 39) rfl ?_
              refine ar_bipush (k := 40) rfl (by decide) ?_
              refine ar_isub (k := 41) rfl ?_
              refine ar_istoren (k := 42) (l2 := [(1, _), (2, _), (0, _)]) rfl (by decide) rfl ?_
              refine ar_aloadn (k := 43) rfl rfl ?_
              refine ar_dup (k := 44) rfl rfl ?_
              refine br_getI (k := 45) rfl (hS.k (by decide)) flR_42_12 (by decide) rfl ?_
              refine tw_top (y := p) (by exact hk13.2.2.1) ?_
              refine ar_iconst (k := 46) rfl ?_
              refine ar_iadd (k := 47) rfl ?_
              refine br_putIJ (k := 48) rfl (hS.k (by decide)) flR_42_12 (by decide) rfl (fun _ _ _ q => by cases q; exact ⟨rfl, rfl⟩) (fun I48 e48 => ?_)
              change _ = uI _ 69 5 _ at e48
              have hk48 := pH.p5 hk13 e48 (y := p + 1) (by rfl)
              refine ar_iinc (k := 49) (l2 := [(2, _), (1, _), (0, _)]) rfl (by decide) rfl rfl ?_
              refine ar_goto (k := 50) rfl ?_
              refine ar_iloadn (k := 18) rfl rfl ?_
              refine ar_iconst (k := 19) rfl ?_
              refine ar_icmp_ge (k := 20) rfl (by omega) (by omega) (fun c20 => ?_) (fun c20 => ?_)
              · refine ar_iloadn (k := 51) rfl rfl ?_
                refine ar_iret (k := 52) rfl rfl rfl (Nat.le_refl _) ?_
                first
                  | (exfalso; omega)
                  | (rw [show pFig (tpe s) e (p, true, o) = (0, p, true, o) by rw [pFig]; rw [if_pos (by simp <;> omega)]]; exact ⟨congrArg (fun z => some (vi z)) (by show (_ : Int) = _; omega), I48, rfl, pH.cp hk48 (by omega)⟩)
              · refine ar_aloadn (k := 21) rfl rfl ?_
                refine br_getI (k := 22) rfl (hS.k (by decide)) flR_48_12 (by decide) rfl ?_
                refine tw_top (y := 0) (by exact hk48.2.2.2.2.1) ?_
                refine ar_if_ne (k := 23) rfl (by omega) (fun c23 => ?_) (fun c23 => ?_)
                · refine ar_iloadn (k := 51) rfl rfl ?_
                  refine ar_iret (k := 52) rfl rfl rfl (Nat.le_refl _) ?_
                  first
                    | (exfalso; omega)
                    | (rw [show pFig (tpe s) e (p, true, o) = (0, p, true, o) by rw [pFig]; rw [if_pos (by simp <;> omega)]]; exact ⟨congrArg (fun z => some (vi z)) (by show (_ : Int) = _; omega), I48, rfl, pH.cp hk48 (by omega)⟩)
                · refine ar_aloadn (k := 24) rfl rfl ?_
                  refine br_callV (k := 25) (as := []) rfl lvR_52 (hS.k (by decide)) rfl (c_R_here (p := (p + 1)) hS hB hk48 (by (constructor <;> (dsimp only; omega))) rfl) rfl (by decide) (by decide) tw_m0 (Nat.le_of_ble_eq_true rfl) ?_
                  refine ar_bipush (k := 26) rfl (by decide) ?_
                  refine ar_bipush (k := 27) rfl (by decide) ?_
                  refine br_callS (k := 28) (as := [_, _, _]) rfl lsR_38 (c_R_in (by omega) (by omega) (by omega)) rfl (by decide) (by decide) tw_m0 (Nat.le_of_ble_eq_true rfl) ?_
                  refine ar_if_eq (k := 29) rfl (by omega) (fun c29 => ?_) (fun c29 => ?_)
                  · refine ar_iloadn (k := 51) rfl rfl ?_
                    refine ar_iret (k := 52) rfl rfl rfl (Nat.le_refl _) ?_
                    first
                      | (exfalso; omega)
                      | (rw [show pFig (tpe s) e (p, true, o) = (0, p, true, o) by rw [pFig]; rw [if_pos (by simp <;> omega)]]; exact ⟨congrArg (fun z => some (vi z)) (by show (_ : Int) = _; omega), I48, rfl, pH.cp hk48 (by omega)⟩)
                  · refine ar_iloadn (k := 30) rfl rfl ?_
                    refine ar_if_eq (k := 31) rfl (by omega) (fun c31 => ?_) (fun c31 => ?_)
                    · refine ar_bipush (k := 34) rfl (by decide) ?_
                      refine ar_iloadn (k := 35) rfl rfl ?_
                      refine ar_imul (k := 36) rfl ?_
                      refine ar_aloadn (k := 37) rfl rfl ?_
                      refine br_callV (k := 38) (as := []) rfl lvR_52 (hS.k (by decide)) rfl (c_R_here (p := (p + 1)) hS hB hk48 (by (constructor <;> (dsimp only; omega))) rfl) rfl (by decide) (by decide) tw_m0 (Nat.le_of_ble_eq_true rfl) ?_
                      refine ar_iadd (k := 39) rfl ?_
                      refine ar_bipush (k := 40) rfl (by decide) ?_
                      refine ar_isub (k := 41) rfl ?_
                      refine ar_istoren (k := 42) (l2 := [(1, _), (2, _), (0, _)]) rfl (by decide) rfl ?_
                      refine ar_aloadn (k := 43) rfl rfl ?_
                      refine ar_dup (k := 44) rfl rfl ?_
                      refine br_getI (k := 45) rfl (hS.k (by decide)) flR_42_12 (by decide) rfl ?_
                      refine tw_top (y := (p + 1)) (by exact hk48.2.2.1) ?_
                      refine ar_iconst (k := 46) rfl ?_
                      refine ar_iadd (k := 47) rfl ?_
                      refine br_putIJ (k := 48) rfl (hS.k (by decide)) flR_42_12 (by decide) rfl (fun _ _ _ q => by cases q; exact ⟨rfl, rfl⟩) (fun I48 e48 => ?_)
                      change _ = uI _ 69 5 _ at e48
                      have hk48 := pH.p5 hk48 e48 (y := (p + 1) + 1) (by rfl)
                      refine ar_iinc (k := 49) (l2 := [(2, _), (1, _), (0, _)]) rfl (by decide) rfl rfl ?_
                      refine ar_goto (k := 50) rfl ?_
                      refine ar_iloadn (k := 18) rfl rfl ?_
                      refine ar_iconst (k := 19) rfl ?_
                      refine ar_icmp_ge (k := 20) rfl (by omega) (by omega) (fun c20 => ?_) (fun c20 => ?_)
                      · refine ar_iloadn (k := 51) rfl rfl ?_
                        refine ar_iret (k := 52) rfl rfl rfl (Nat.le_refl _) ?_
                        first
                          | (exfalso; omega)
                          | (rw [show pFig (tpe s) e (p, true, o) = (0, p, true, o) by rw [pFig]; rw [if_pos (by simp <;> omega)]]; exact ⟨congrArg (fun z => some (vi z)) (by show (_ : Int) = _; omega), I48, rfl, pH.cp hk48 (by omega)⟩)
                      · refine ar_aloadn (k := 21) rfl rfl ?_
                        refine br_getI (k := 22) rfl (hS.k (by decide)) flR_48_12 (by decide) rfl ?_
                        refine tw_top (y := 0) (by exact hk48.2.2.2.2.1) ?_
                        refine ar_if_ne (k := 23) rfl (by omega) (fun c23 => ?_) (fun c23 => ?_)
                        · refine ar_iloadn (k := 51) rfl rfl ?_
                          refine ar_iret (k := 52) rfl rfl rfl (Nat.le_refl _) ?_
                          first
                            | (exfalso; omega)
                            | (rw [show pFig (tpe s) e (p, true, o) = (0, p, true, o) by rw [pFig]; rw [if_pos (by simp <;> omega)]]; exact ⟨congrArg (fun z => some (vi z)) (by show (_ : Int) = _; omega), I48, rfl, pH.cp hk48 (by omega)⟩)
                        · refine ar_aloadn (k := 24) rfl rfl ?_
                          refine br_callV (k := 25) (as := []) rfl lvR_52 (hS.k (by decide)) rfl (c_R_here (p := ((p + 1) + 1)) hS hB hk48 (by (constructor <;> (dsimp only; omega))) rfl) rfl (by decide) (by decide) tw_m0 (Nat.le_of_ble_eq_true rfl) ?_
                          refine ar_bipush (k := 26) rfl (by decide) ?_
                          refine ar_bipush (k := 27) rfl (by decide) ?_
                          refine br_callS (k := 28) (as := [_, _, _]) rfl lsR_38 (c_R_in (by omega) (by omega) (by omega)) rfl (by decide) (by decide) tw_m0 (Nat.le_of_ble_eq_true rfl) ?_
                          refine ar_if_eq (k := 29) rfl (by omega) (fun c29 => ?_) (fun c29 => ?_)
                          · refine ar_iloadn (k := 51) rfl rfl ?_
                            refine ar_iret (k := 52) rfl rfl rfl (Nat.le_refl _) ?_
                            first
                              | (exfalso; omega)
                              | (rw [show pFig (tpe s) e (p, true, o) = (0, p, true, o) by rw [pFig]; rw [if_pos (by simp <;> omega)]]; exact ⟨congrArg (fun z => some (vi z)) (by show (_ : Int) = _; omega), I48, rfl, pH.cp hk48 (by omega)⟩)
                          · refine ar_iloadn (k := 30) rfl rfl ?_
                            refine ar_if_eq (k := 31) rfl (by omega) (fun c31 => ?_) (fun c31 => ?_)
                            · refine ar_bipush (k := 34) rfl (by decide) ?_
                              refine ar_iloadn (k := 35) rfl rfl ?_
                              refine ar_imul (k := 36) rfl ?_
                              refine ar_aloadn (k := 37) rfl rfl ?_
                              refine br_callV (k := 38) (as := []) rfl lvR_52 (hS.k (by decide)) rfl (c_R_here (p := ((p + 1) + 1)) hS hB hk48 (by (constructor <;> (dsimp only; omega))) rfl) rfl (by decide) (by decide) tw_m0 (Nat.le_of_ble_eq_true rfl) ?_
                              refine ar_iadd (k := 39) rfl ?_
                              refine ar_bipush (k := 40) rfl (by decide) ?_
                              refine ar_isub (k := 41) rfl ?_
                              refine ar_istoren (k := 42) (l2 := [(1, _), (2, _), (0, _)]) rfl (by decide) rfl ?_
                              refine ar_aloadn (k := 43) rfl rfl ?_
                              refine ar_dup (k := 44) rfl rfl ?_
                              refine br_getI (k := 45) rfl (hS.k (by decide)) flR_42_12 (by decide) rfl ?_
                              refine tw_top (y := ((p + 1) + 1)) (by exact hk48.2.2.1) ?_
                              refine ar_iconst (k := 46) rfl ?_
                              refine ar_iadd (k := 47) rfl ?_
                              refine br_putIJ (k := 48) rfl (hS.k (by decide)) flR_42_12 (by decide) rfl (fun _ _ _ q => by cases q; exact ⟨rfl, rfl⟩) (fun I48 e48 => ?_)
                              change _ = uI _ 69 5 _ at e48
                              have hk48 := pH.p5 hk48 e48 (y := ((p + 1) + 1) + 1) (by rfl)
                              refine ar_iinc (k := 49) (l2 := [(2, _), (1, _), (0, _)]) rfl (by decide) rfl rfl ?_
                              refine ar_goto (k := 50) rfl ?_
                              exfalso; omega
                            · refine ar_iloadn (k := 32) rfl rfl ?_
                              refine ar_if_le (k := 33) rfl (by omega) (fun c33 => ?_) (fun c33 => ?_)
                              · refine ar_iloadn (k := 51) rfl rfl ?_
                                refine ar_iret (k := 52) rfl rfl rfl (Nat.le_refl _) ?_
                                first
                                  | (exfalso; omega)
                                  | (rw [show pFig (tpe s) e (p, true, o) = (0, p, true, o) by rw [pFig]; rw [if_pos (by simp <;> omega)]]; exact ⟨congrArg (fun z => some (vi z)) (by show (_ : Int) = _; omega), I48, rfl, pH.cp hk48 (by omega)⟩)
                              · refine ar_bipush (k := 34) rfl (by decide) ?_
                                refine ar_iloadn (k := 35) rfl rfl ?_
                                refine ar_imul (k := 36) rfl ?_
                                refine ar_aloadn (k := 37) rfl rfl ?_
                                refine br_callV (k := 38) (as := []) rfl lvR_52 (hS.k (by decide)) rfl (c_R_here (p := ((p + 1) + 1)) hS hB hk48 (by (constructor <;> (dsimp only; omega))) rfl) rfl (by decide) (by decide) tw_m0 (Nat.le_of_ble_eq_true rfl) ?_
                                refine ar_iadd (k := 39) rfl ?_
                                refine ar_bipush (k := 40) rfl (by decide) ?_
                                refine ar_isub (k := 41) rfl ?_
                                refine ar_istoren (k := 42) (l2 := [(1, _), (2, _), (0, _)]) rfl (by decide) rfl ?_
                                refine ar_aloadn (k := 43) rfl rfl ?_
                                refine ar_dup (k := 44) rfl rfl ?_
                                refine br_getI (k := 45) rfl (hS.k (by decide)) flR_42_12 (by decide) rfl ?_
                                refine tw_top (y := ((p + 1) + 1)) (by exact hk48.2.2.1) ?_
                                refine ar_iconst (k := 46) rfl ?_
                                refine ar_iadd (k := 47) rfl ?_
                                refine br_putIJ (k := 48) rfl (hS.k (by decide)) flR_42_12 (by decide) rfl (fun _ _ _ q => by cases q; exact ⟨rfl, rfl⟩) (fun I48 e48 => ?_)
                                change _ = uI _ 69 5 _ at e48
                                have hk48 := pH.p5 hk48 e48 (y := ((p + 1) + 1) + 1) (by rfl)
                                refine ar_iinc (k := 49) (l2 := [(2, _), (1, _), (0, _)]) rfl (by decide) rfl rfl ?_
                                refine ar_goto (k := 50) rfl ?_
                                exfalso; omega
                    · refine ar_iloadn (k := 32) rfl rfl ?_
                      refine ar_if_le (k := 33) rfl (by omega) (fun c33 => ?_) (fun c33 => ?_)
                      · refine ar_iloadn (k := 51) rfl rfl ?_
                        refine ar_iret (k := 52) rfl rfl rfl (Nat.le_refl _) ?_
                        first
                          | (exfalso; omega)
                          | (rw [show pFig (tpe s) e (p, true, o) = (0, p, true, o) by rw [pFig]; rw [if_pos (by simp <;> omega)]]; exact ⟨congrArg (fun z => some (vi z)) (by show (_ : Int) = _; omega), I48, rfl, pH.cp hk48 (by omega)⟩)
                      · refine ar_bipush (k := 34) rfl (by decide) ?_
                        refine ar_iloadn (k := 35) rfl rfl ?_
                        refine ar_imul (k := 36) rfl ?_
                        refine ar_aloadn (k := 37) rfl rfl ?_
                        refine br_callV (k := 38) (as := []) rfl lvR_52 (hS.k (by decide)) rfl (c_R_here (p := (p + 1)) hS hB hk48 (by (constructor <;> (dsimp only; omega))) rfl) rfl (by decide) (by decide) tw_m0 (Nat.le_of_ble_eq_true rfl) ?_
                        refine ar_iadd (k := 39) rfl ?_
                        refine ar_bipush (k := 40) rfl (by decide) ?_
                        refine ar_isub (k := 41) rfl ?_
                        refine ar_istoren (k := 42) (l2 := [(1, _), (2, _), (0, _)]) rfl (by decide) rfl ?_
                        refine ar_aloadn (k := 43) rfl rfl ?_
                        refine ar_dup (k := 44) rfl rfl ?_
                        refine br_getI (k := 45) rfl (hS.k (by decide)) flR_42_12 (by decide) rfl ?_
                        refine tw_top (y := (p + 1)) (by exact hk48.2.2.1) ?_
                        refine ar_iconst (k := 46) rfl ?_
                        refine ar_iadd (k := 47) rfl ?_
                        refine br_putIJ (k := 48) rfl (hS.k (by decide)) flR_42_12 (by decide) rfl (fun _ _ _ q => by cases q; exact ⟨rfl, rfl⟩) (fun I48 e48 => ?_)
                        change _ = uI _ 69 5 _ at e48
                        have hk48 := pH.p5 hk48 e48 (y := (p + 1) + 1) (by rfl)
                        refine ar_iinc (k := 49) (l2 := [(2, _), (1, _), (0, _)]) rfl (by decide) rfl rfl ?_
                        refine ar_goto (k := 50) rfl ?_
                        refine ar_iloadn (k := 18) rfl rfl ?_
                        refine ar_iconst (k := 19) rfl ?_
                        refine ar_icmp_ge (k := 20) rfl (by omega) (by omega) (fun c20 => ?_) (fun c20 => ?_)
                        · refine ar_iloadn (k := 51) rfl rfl ?_
                          refine ar_iret (k := 52) rfl rfl rfl (Nat.le_refl _) ?_
                          first
                            | (exfalso; omega)
                            | (rw [show pFig (tpe s) e (p, true, o) = (0, p, true, o) by rw [pFig]; rw [if_pos (by simp <;> omega)]]; exact ⟨congrArg (fun z => some (vi z)) (by show (_ : Int) = _; omega), I48, rfl, pH.cp hk48 (by omega)⟩)
                        · refine ar_aloadn (k := 21) rfl rfl ?_
                          refine br_getI (k := 22) rfl (hS.k (by decide)) flR_48_12 (by decide) rfl ?_
                          refine tw_top (y := 0) (by exact hk48.2.2.2.2.1) ?_
                          refine ar_if_ne (k := 23) rfl (by omega) (fun c23 => ?_) (fun c23 => ?_)
                          · refine ar_iloadn (k := 51) rfl rfl ?_
                            refine ar_iret (k := 52) rfl rfl rfl (Nat.le_refl _) ?_
                            first
                              | (exfalso; omega)
                              | (rw [show pFig (tpe s) e (p, true, o) = (0, p, true, o) by rw [pFig]; rw [if_pos (by simp <;> omega)]]; exact ⟨congrArg (fun z => some (vi z)) (by show (_ : Int) = _; omega), I48, rfl, pH.cp hk48 (by omega)⟩)
                          · refine ar_aloadn (k := 24) rfl rfl ?_
                            refine br_callV (k := 25) (as := []) rfl lvR_52 (hS.k (by decide)) rfl (c_R_here (p := ((p + 1) + 1)) hS hB hk48 (by (constructor <;> (dsimp only; omega))) rfl) rfl (by decide) (by decide) tw_m0 (Nat.le_of_ble_eq_true rfl) ?_
                            refine ar_bipush (k := 26) rfl (by decide) ?_
                            refine ar_bipush (k := 27) rfl (by decide) ?_
                            refine br_callS (k := 28) (as := [_, _, _]) rfl lsR_38 (c_R_in (by omega) (by omega) (by omega)) rfl (by decide) (by decide) tw_m0 (Nat.le_of_ble_eq_true rfl) ?_
                            refine ar_if_eq (k := 29) rfl (by omega) (fun c29 => ?_) (fun c29 => ?_)
                            · refine ar_iloadn (k := 51) rfl rfl ?_
                              refine ar_iret (k := 52) rfl rfl rfl (Nat.le_refl _) ?_
                              first
                                | (exfalso; omega)
                                | (rw [show pFig (tpe s) e (p, true, o) = (0, p, true, o) by rw [pFig]; rw [if_pos (by simp <;> omega)]]; exact ⟨congrArg (fun z => some (vi z)) (by show (_ : Int) = _; omega), I48, rfl, pH.cp hk48 (by omega)⟩)
                            · refine ar_iloadn (k := 30) rfl rfl ?_
                              refine ar_if_eq (k := 31) rfl (by omega) (fun c31 => ?_) (fun c31 => ?_)
                              · refine ar_bipush (k := 34) rfl (by decide) ?_
                                refine ar_iloadn (k := 35) rfl rfl ?_
                                refine ar_imul (k := 36) rfl ?_
                                refine ar_aloadn (k := 37) rfl rfl ?_
                                refine br_callV (k := 38) (as := []) rfl lvR_52 (hS.k (by decide)) rfl (c_R_here (p := ((p + 1) + 1)) hS hB hk48 (by (constructor <;> (dsimp only; omega))) rfl) rfl (by decide) (by decide) tw_m0 (Nat.le_of_ble_eq_true rfl) ?_
                                refine ar_iadd (k := 39) rfl ?_
                                refine ar_bipush (k := 40) rfl (by decide) ?_
                                refine ar_isub (k := 41) rfl ?_
                                refine ar_istoren (k := 42) (l2 := [(1, _), (2, _), (0, _)]) rfl (by decide) rfl ?_
                                refine ar_aloadn (k := 43) rfl rfl ?_
                                refine ar_dup (k := 44) rfl rfl ?_
                                refine br_getI (k := 45) rfl (hS.k (by decide)) flR_42_12 (by decide) rfl ?_
                                refine tw_top (y := ((p + 1) + 1)) (by exact hk48.2.2.1) ?_
                                refine ar_iconst (k := 46) rfl ?_
                                refine ar_iadd (k := 47) rfl ?_
                                refine br_putIJ (k := 48) rfl (hS.k (by decide)) flR_42_12 (by decide) rfl (fun _ _ _ q => by cases q; exact ⟨rfl, rfl⟩) (fun I48 e48 => ?_)
                                change _ = uI _ 69 5 _ at e48
                                have hk48 := pH.p5 hk48 e48 (y := ((p + 1) + 1) + 1) (by rfl)
                                refine ar_iinc (k := 49) (l2 := [(2, _), (1, _), (0, _)]) rfl (by decide) rfl rfl ?_
                                refine ar_goto (k := 50) rfl ?_
                                exfalso; omega
                              · refine ar_iloadn (k := 32) rfl rfl ?_
                                refine ar_if_le (k := 33) rfl (by omega) (fun c33 => ?_) (fun c33 => ?_)
                                · refine ar_iloadn (k := 51) rfl rfl ?_
                                  refine ar_iret (k := 52) rfl rfl rfl (Nat.le_refl _) ?_
                                  first
                                    | (exfalso; omega)
                                    | (rw [show pFig (tpe s) e (p, true, o) = (0, p, true, o) by rw [pFig]; rw [if_pos (by simp <;> omega)]]; exact ⟨congrArg (fun z => some (vi z)) (by show (_ : Int) = _; omega), I48, rfl, pH.cp hk48 (by omega)⟩)
                                · refine ar_bipush (k := 34) rfl (by decide) ?_
                                  refine ar_iloadn (k := 35) rfl rfl ?_
                                  refine ar_imul (k := 36) rfl ?_
                                  refine ar_aloadn (k := 37) rfl rfl ?_
                                  refine br_callV (k := 38) (as := []) rfl lvR_52 (hS.k (by decide)) rfl (c_R_here (p := ((p + 1) + 1)) hS hB hk48 (by (constructor <;> (dsimp only; omega))) rfl) rfl (by decide) (by decide) tw_m0 (Nat.le_of_ble_eq_true rfl) ?_
                                  refine ar_iadd (k := 39) rfl ?_
                                  refine ar_bipush (k := 40) rfl (by decide) ?_
                                  refine ar_isub (k := 41) rfl ?_
                                  refine ar_istoren (k := 42) (l2 := [(1, _), (2, _), (0, _)]) rfl (by decide) rfl ?_
                                  refine ar_aloadn (k := 43) rfl rfl ?_
                                  refine ar_dup (k := 44) rfl rfl ?_
                                  refine br_getI (k := 45) rfl (hS.k (by decide)) flR_42_12 (by decide) rfl ?_
                                  refine tw_top (y := ((p + 1) + 1)) (by exact hk48.2.2.1) ?_
                                  refine ar_iconst (k := 46) rfl ?_
                                  refine ar_iadd (k := 47) rfl ?_
                                  refine br_putIJ (k := 48) rfl (hS.k (by decide)) flR_42_12 (by decide) rfl (fun _ _ _ q => by cases q; exact ⟨rfl, rfl⟩) (fun I48 e48 => ?_)
                                  change _ = uI _ 69 5 _ at e48
                                  have hk48 := pH.p5 hk48 e48 (y := ((p + 1) + 1) + 1) (by rfl)
                                  refine ar_iinc (k := 49) (l2 := [(2, _), (1, _), (0, _)]) rfl (by decide) rfl rfl ?_
                                  refine ar_goto (k := 50) rfl ?_
                                  exfalso; omega
            · refine ar_iloadn (k := 32) rfl rfl ?_
              refine ar_if_le (k := 33) rfl (by omega) (fun c33 => ?_) (fun c33 => ?_)
              · refine ar_iloadn (k := 51) rfl rfl ?_
                refine ar_iret (k := 52) rfl rfl rfl (Nat.le_refl _) ?_
                first
                  | (exfalso; omega)
                  | (rw [show pFig (tpe s) e (p, true, o) = (0, p, true, o) by rw [pFig]; rw [if_pos (by simp <;> omega)]]; exact ⟨congrArg (fun z => some (vi z)) (by show (_ : Int) = _; omega), I13, rfl, pH.cp hk13 (by omega)⟩)
              · refine ar_bipush (k := 34) rfl (by decide) ?_
                refine ar_iloadn (k := 35) rfl rfl ?_
                refine ar_imul (k := 36) rfl ?_
                refine ar_aloadn (k := 37) rfl rfl ?_
                refine br_callV (k := 38) (as := []) rfl lvR_52 (hS.k (by decide)) rfl (c_R_here (p := p) hS hB hk13 (by (constructor <;> (dsimp only; omega))) rfl) rfl (by decide) (by decide) tw_m0 (Nat.le_of_ble_eq_true rfl) ?_
                refine ar_iadd (k := 39) rfl ?_
                refine ar_bipush (k := 40) rfl (by decide) ?_
                refine ar_isub (k := 41) rfl ?_
                refine ar_istoren (k := 42) (l2 := [(1, _), (2, _), (0, _)]) rfl (by decide) rfl ?_
                refine ar_aloadn (k := 43) rfl rfl ?_
                refine ar_dup (k := 44) rfl rfl ?_
                refine br_getI (k := 45) rfl (hS.k (by decide)) flR_42_12 (by decide) rfl ?_
                refine tw_top (y := p) (by exact hk13.2.2.1) ?_
                refine ar_iconst (k := 46) rfl ?_
                refine ar_iadd (k := 47) rfl ?_
                refine br_putIJ (k := 48) rfl (hS.k (by decide)) flR_42_12 (by decide) rfl (fun _ _ _ q => by cases q; exact ⟨rfl, rfl⟩) (fun I48 e48 => ?_)
                change _ = uI _ 69 5 _ at e48
                have hk48 := pH.p5 hk13 e48 (y := p + 1) (by rfl)
                refine ar_iinc (k := 49) (l2 := [(2, _), (1, _), (0, _)]) rfl (by decide) rfl rfl ?_
                refine ar_goto (k := 50) rfl ?_
                refine ar_iloadn (k := 18) rfl rfl ?_
                refine ar_iconst (k := 19) rfl ?_
                refine ar_icmp_ge (k := 20) rfl (by omega) (by omega) (fun c20 => ?_) (fun c20 => ?_)
                · refine ar_iloadn (k := 51) rfl rfl ?_
                  refine ar_iret (k := 52) rfl rfl rfl (Nat.le_refl _) ?_
                  first
                    | (exfalso; omega)
                    | (rw [show pFig (tpe s) e (p, true, o) = (0, p, true, o) by rw [pFig]; rw [if_pos (by simp <;> omega)]]; exact ⟨congrArg (fun z => some (vi z)) (by show (_ : Int) = _; omega), I48, rfl, pH.cp hk48 (by omega)⟩)
                · refine ar_aloadn (k := 21) rfl rfl ?_
                  refine br_getI (k := 22) rfl (hS.k (by decide)) flR_48_12 (by decide) rfl ?_
                  refine tw_top (y := 0) (by exact hk48.2.2.2.2.1) ?_
                  refine ar_if_ne (k := 23) rfl (by omega) (fun c23 => ?_) (fun c23 => ?_)
                  · refine ar_iloadn (k := 51) rfl rfl ?_
                    refine ar_iret (k := 52) rfl rfl rfl (Nat.le_refl _) ?_
                    first
                      | (exfalso; omega)
                      | (rw [show pFig (tpe s) e (p, true, o) = (0, p, true, o) by rw [pFig]; rw [if_pos (by simp <;> omega)]]; exact ⟨congrArg (fun z => some (vi z)) (by show (_ : Int) = _; omega), I48, rfl, pH.cp hk48 (by omega)⟩)
                  · refine ar_aloadn (k := 24) rfl rfl ?_
                    refine br_callV (k := 25) (as := []) rfl lvR_52 (hS.k (by decide)) rfl (c_R_here (p := (p + 1)) hS hB hk48 (by (constructor <;> (dsimp only; omega))) rfl) rfl (by decide) (by decide) tw_m0 (Nat.le_of_ble_eq_true rfl) ?_
                    refine ar_bipush (k := 26) rfl (by decide) ?_
                    refine ar_bipush (k := 27) rfl (by decide) ?_
                    refine br_callS (k := 28) (as := [_, _, _]) rfl lsR_38 (c_R_in (by omega) (by omega) (by omega)) rfl (by decide) (by decide) tw_m0 (Nat.le_of_ble_eq_true rfl) ?_
                    refine ar_if_eq (k := 29) rfl (by omega) (fun c29 => ?_) (fun c29 => ?_)
                    · refine ar_iloadn (k := 51) rfl rfl ?_
                      refine ar_iret (k := 52) rfl rfl rfl (Nat.le_refl _) ?_
                      first
                        | (exfalso; omega)
                        | (rw [show pFig (tpe s) e (p, true, o) = (0, p, true, o) by rw [pFig]; rw [if_pos (by simp <;> omega)]]; exact ⟨congrArg (fun z => some (vi z)) (by show (_ : Int) = _; omega), I48, rfl, pH.cp hk48 (by omega)⟩)
                    · refine ar_iloadn (k := 30) rfl rfl ?_
                      refine ar_if_eq (k := 31) rfl (by omega) (fun c31 => ?_) (fun c31 => ?_)
                      · refine ar_bipush (k := 34) rfl (by decide) ?_
                        refine ar_iloadn (k := 35) rfl rfl ?_
                        refine ar_imul (k := 36) rfl ?_
                        refine ar_aloadn (k := 37) rfl rfl ?_
                        refine br_callV (k := 38) (as := []) rfl lvR_52 (hS.k (by decide)) rfl (c_R_here (p := (p + 1)) hS hB hk48 (by (constructor <;> (dsimp only; omega))) rfl) rfl (by decide) (by decide) tw_m0 (Nat.le_of_ble_eq_true rfl) ?_
                        refine ar_iadd (k := 39) rfl ?_
                        refine ar_bipush (k := 40) rfl (by decide) ?_
                        refine ar_isub (k := 41) rfl ?_
                        refine ar_istoren (k := 42) (l2 := [(1, _), (2, _), (0, _)]) rfl (by decide) rfl ?_
                        refine ar_aloadn (k := 43) rfl rfl ?_
                        refine ar_dup (k := 44) rfl rfl ?_
                        refine br_getI (k := 45) rfl (hS.k (by decide)) flR_42_12 (by decide) rfl ?_
                        refine tw_top (y := (p + 1)) (by exact hk48.2.2.1) ?_
                        refine ar_iconst (k := 46) rfl ?_
                        refine ar_iadd (k := 47) rfl ?_
                        refine br_putIJ (k := 48) rfl (hS.k (by decide)) flR_42_12 (by decide) rfl (fun _ _ _ q => by cases q; exact ⟨rfl, rfl⟩) (fun I48 e48 => ?_)
                        change _ = uI _ 69 5 _ at e48
                        have hk48 := pH.p5 hk48 e48 (y := (p + 1) + 1) (by rfl)
                        refine ar_iinc (k := 49) (l2 := [(2, _), (1, _), (0, _)]) rfl (by decide) rfl rfl ?_
                        refine ar_goto (k := 50) rfl ?_
                        refine ar_iloadn (k := 18) rfl rfl ?_
                        refine ar_iconst (k := 19) rfl ?_
                        refine ar_icmp_ge (k := 20) rfl (by omega) (by omega) (fun c20 => ?_) (fun c20 => ?_)
                        · refine ar_iloadn (k := 51) rfl rfl ?_
                          refine ar_iret (k := 52) rfl rfl rfl (Nat.le_refl _) ?_
                          first
                            | (exfalso; omega)
                            | (rw [show pFig (tpe s) e (p, true, o) = (0, p, true, o) by rw [pFig]; rw [if_pos (by simp <;> omega)]]; exact ⟨congrArg (fun z => some (vi z)) (by show (_ : Int) = _; omega), I48, rfl, pH.cp hk48 (by omega)⟩)
                        · refine ar_aloadn (k := 21) rfl rfl ?_
                          refine br_getI (k := 22) rfl (hS.k (by decide)) flR_48_12 (by decide) rfl ?_
                          refine tw_top (y := 0) (by exact hk48.2.2.2.2.1) ?_
                          refine ar_if_ne (k := 23) rfl (by omega) (fun c23 => ?_) (fun c23 => ?_)
                          · refine ar_iloadn (k := 51) rfl rfl ?_
                            refine ar_iret (k := 52) rfl rfl rfl (Nat.le_refl _) ?_
                            first
                              | (exfalso; omega)
                              | (rw [show pFig (tpe s) e (p, true, o) = (0, p, true, o) by rw [pFig]; rw [if_pos (by simp <;> omega)]]; exact ⟨congrArg (fun z => some (vi z)) (by show (_ : Int) = _; omega), I48, rfl, pH.cp hk48 (by omega)⟩)
                          · refine ar_aloadn (k := 24) rfl rfl ?_
                            refine br_callV (k := 25) (as := []) rfl lvR_52 (hS.k (by decide)) rfl (c_R_here (p := ((p + 1) + 1)) hS hB hk48 (by (constructor <;> (dsimp only; omega))) rfl) rfl (by decide) (by decide) tw_m0 (Nat.le_of_ble_eq_true rfl) ?_
                            refine ar_bipush (k := 26) rfl (by decide) ?_
                            refine ar_bipush (k := 27) rfl (by decide) ?_
                            refine br_callS (k := 28) (as := [_, _, _]) rfl lsR_38 (c_R_in (by omega) (by omega) (by omega)) rfl (by decide) (by decide) tw_m0 (Nat.le_of_ble_eq_true rfl) ?_
                            refine ar_if_eq (k := 29) rfl (by omega) (fun c29 => ?_) (fun c29 => ?_)
                            · refine ar_iloadn (k := 51) rfl rfl ?_
                              refine ar_iret (k := 52) rfl rfl rfl (Nat.le_refl _) ?_
                              first
                                | (exfalso; omega)
                                | (rw [show pFig (tpe s) e (p, true, o) = (0, p, true, o) by rw [pFig]; rw [if_pos (by simp <;> omega)]]; exact ⟨congrArg (fun z => some (vi z)) (by show (_ : Int) = _; omega), I48, rfl, pH.cp hk48 (by omega)⟩)
                            · refine ar_iloadn (k := 30) rfl rfl ?_
                              refine ar_if_eq (k := 31) rfl (by omega) (fun c31 => ?_) (fun c31 => ?_)
                              · refine ar_bipush (k := 34) rfl (by decide) ?_
                                refine ar_iloadn (k := 35) rfl rfl ?_
                                refine ar_imul (k := 36) rfl ?_
                                refine ar_aloadn (k := 37) rfl rfl ?_
                                refine br_callV (k := 38) (as := []) rfl lvR_52 (hS.k (by decide)) rfl (c_R_here (p := ((p + 1) + 1)) hS hB hk48 (by (constructor <;> (dsimp only; omega))) rfl) rfl (by decide) (by decide) tw_m0 (Nat.le_of_ble_eq_true rfl) ?_
                                refine ar_iadd (k := 39) rfl ?_
                                refine ar_bipush (k := 40) rfl (by decide) ?_
                                refine ar_isub (k := 41) rfl ?_
                                refine ar_istoren (k := 42) (l2 := [(1, _), (2, _), (0, _)]) rfl (by decide) rfl ?_
                                refine ar_aloadn (k := 43) rfl rfl ?_
                                refine ar_dup (k := 44) rfl rfl ?_
                                refine br_getI (k := 45) rfl (hS.k (by decide)) flR_42_12 (by decide) rfl ?_
                                refine tw_top (y := ((p + 1) + 1)) (by exact hk48.2.2.1) ?_
                                refine ar_iconst (k := 46) rfl ?_
                                refine ar_iadd (k := 47) rfl ?_
                                refine br_putIJ (k := 48) rfl (hS.k (by decide)) flR_42_12 (by decide) rfl (fun _ _ _ q => by cases q; exact ⟨rfl, rfl⟩) (fun I48 e48 => ?_)
                                change _ = uI _ 69 5 _ at e48
                                have hk48 := pH.p5 hk48 e48 (y := ((p + 1) + 1) + 1) (by rfl)
                                refine ar_iinc (k := 49) (l2 := [(2, _), (1, _), (0, _)]) rfl (by decide) rfl rfl ?_
                                refine ar_goto (k := 50) rfl ?_
                                exfalso; omega
                              · refine ar_iloadn (k := 32) rfl rfl ?_
                                refine ar_if_le (k := 33) rfl (by omega) (fun c33 => ?_) (fun c33 => ?_)
                                · refine ar_iloadn (k := 51) rfl rfl ?_
                                  refine ar_iret (k := 52) rfl rfl rfl (Nat.le_refl _) ?_
                                  first
                                    | (exfalso; omega)
                                    | (rw [show pFig (tpe s) e (p, true, o) = (0, p, true, o) by rw [pFig]; rw [if_pos (by simp <;> omega)]]; exact ⟨congrArg (fun z => some (vi z)) (by show (_ : Int) = _; omega), I48, rfl, pH.cp hk48 (by omega)⟩)
                                · refine ar_bipush (k := 34) rfl (by decide) ?_
                                  refine ar_iloadn (k := 35) rfl rfl ?_
                                  refine ar_imul (k := 36) rfl ?_
                                  refine ar_aloadn (k := 37) rfl rfl ?_
                                  refine br_callV (k := 38) (as := []) rfl lvR_52 (hS.k (by decide)) rfl (c_R_here (p := ((p + 1) + 1)) hS hB hk48 (by (constructor <;> (dsimp only; omega))) rfl) rfl (by decide) (by decide) tw_m0 (Nat.le_of_ble_eq_true rfl) ?_
                                  refine ar_iadd (k := 39) rfl ?_
                                  refine ar_bipush (k := 40) rfl (by decide) ?_
                                  refine ar_isub (k := 41) rfl ?_
                                  refine ar_istoren (k := 42) (l2 := [(1, _), (2, _), (0, _)]) rfl (by decide) rfl ?_
                                  refine ar_aloadn (k := 43) rfl rfl ?_
                                  refine ar_dup (k := 44) rfl rfl ?_
                                  refine br_getI (k := 45) rfl (hS.k (by decide)) flR_42_12 (by decide) rfl ?_
                                  refine tw_top (y := ((p + 1) + 1)) (by exact hk48.2.2.1) ?_
                                  refine ar_iconst (k := 46) rfl ?_
                                  refine ar_iadd (k := 47) rfl ?_
                                  refine br_putIJ (k := 48) rfl (hS.k (by decide)) flR_42_12 (by decide) rfl (fun _ _ _ q => by cases q; exact ⟨rfl, rfl⟩) (fun I48 e48 => ?_)
                                  change _ = uI _ 69 5 _ at e48
                                  have hk48 := pH.p5 hk48 e48 (y := ((p + 1) + 1) + 1) (by rfl)
                                  refine ar_iinc (k := 49) (l2 := [(2, _), (1, _), (0, _)]) rfl (by decide) rfl rfl ?_
                                  refine ar_goto (k := 50) rfl ?_
                                  exfalso; omega
                      · refine ar_iloadn (k := 32) rfl rfl ?_
                        refine ar_if_le (k := 33) rfl (by omega) (fun c33 => ?_) (fun c33 => ?_)
                        · refine ar_iloadn (k := 51) rfl rfl ?_
                          refine ar_iret (k := 52) rfl rfl rfl (Nat.le_refl _) ?_
                          first
                            | (exfalso; omega)
                            | (rw [show pFig (tpe s) e (p, true, o) = (0, p, true, o) by rw [pFig]; rw [if_pos (by simp <;> omega)]]; exact ⟨congrArg (fun z => some (vi z)) (by show (_ : Int) = _; omega), I48, rfl, pH.cp hk48 (by omega)⟩)
                        · refine ar_bipush (k := 34) rfl (by decide) ?_
                          refine ar_iloadn (k := 35) rfl rfl ?_
                          refine ar_imul (k := 36) rfl ?_
                          refine ar_aloadn (k := 37) rfl rfl ?_
                          refine br_callV (k := 38) (as := []) rfl lvR_52 (hS.k (by decide)) rfl (c_R_here (p := (p + 1)) hS hB hk48 (by (constructor <;> (dsimp only; omega))) rfl) rfl (by decide) (by decide) tw_m0 (Nat.le_of_ble_eq_true rfl) ?_
                          refine ar_iadd (k := 39) rfl ?_
                          refine ar_bipush (k := 40) rfl (by decide) ?_
                          refine ar_isub (k := 41) rfl ?_
                          refine ar_istoren (k := 42) (l2 := [(1, _), (2, _), (0, _)]) rfl (by decide) rfl ?_
                          refine ar_aloadn (k := 43) rfl rfl ?_
                          refine ar_dup (k := 44) rfl rfl ?_
                          refine br_getI (k := 45) rfl (hS.k (by decide)) flR_42_12 (by decide) rfl ?_
                          refine tw_top (y := (p + 1)) (by exact hk48.2.2.1) ?_
                          refine ar_iconst (k := 46) rfl ?_
                          refine ar_iadd (k := 47) rfl ?_
                          refine br_putIJ (k := 48) rfl (hS.k (by decide)) flR_42_12 (by decide) rfl (fun _ _ _ q => by cases q; exact ⟨rfl, rfl⟩) (fun I48 e48 => ?_)
                          change _ = uI _ 69 5 _ at e48
                          have hk48 := pH.p5 hk48 e48 (y := (p + 1) + 1) (by rfl)
                          refine ar_iinc (k := 49) (l2 := [(2, _), (1, _), (0, _)]) rfl (by decide) rfl rfl ?_
                          refine ar_goto (k := 50) rfl ?_
                          refine ar_iloadn (k := 18) rfl rfl ?_
                          refine ar_iconst (k := 19) rfl ?_
                          refine ar_icmp_ge (k := 20) rfl (by omega) (by omega) (fun c20 => ?_) (fun c20 => ?_)
                          · refine ar_iloadn (k := 51) rfl rfl ?_
                            refine ar_iret (k := 52) rfl rfl rfl (Nat.le_refl _) ?_
                            first
                              | (exfalso; omega)
                              | (rw [show pFig (tpe s) e (p, true, o) = (0, p, true, o) by rw [pFig]; rw [if_pos (by simp <;> omega)]]; exact ⟨congrArg (fun z => some (vi z)) (by show (_ : Int) = _; omega), I48, rfl, pH.cp hk48 (by omega)⟩)
                          · refine ar_aloadn (k := 21) rfl rfl ?_
                            refine br_getI (k := 22) rfl (hS.k (by decide)) flR_48_12 (by decide) rfl ?_
                            refine tw_top (y := 0) (by exact hk48.2.2.2.2.1) ?_
                            refine ar_if_ne (k := 23) rfl (by omega) (fun c23 => ?_) (fun c23 => ?_)
                            · refine ar_iloadn (k := 51) rfl rfl ?_
                              refine ar_iret (k := 52) rfl rfl rfl (Nat.le_refl _) ?_
                              first
                                | (exfalso; omega)
                                | (rw [show pFig (tpe s) e (p, true, o) = (0, p, true, o) by rw [pFig]; rw [if_pos (by simp <;> omega)]]; exact ⟨congrArg (fun z => some (vi z)) (by show (_ : Int) = _; omega), I48, rfl, pH.cp hk48 (by omega)⟩)
                            · refine ar_aloadn (k := 24) rfl rfl ?_
                              refine br_callV (k := 25) (as := []) rfl lvR_52 (hS.k (by decide)) rfl (c_R_here (p := ((p + 1) + 1)) hS hB hk48 (by (constructor <;> (dsimp only; omega))) rfl) rfl (by decide) (by decide) tw_m0 (Nat.le_of_ble_eq_true rfl) ?_
                              refine ar_bipush (k := 26) rfl (by decide) ?_
                              refine ar_bipush (k := 27) rfl (by decide) ?_
                              refine br_callS (k := 28) (as := [_, _, _]) rfl lsR_38 (c_R_in (by omega) (by omega) (by omega)) rfl (by decide) (by decide) tw_m0 (Nat.le_of_ble_eq_true rfl) ?_
                              refine ar_if_eq (k := 29) rfl (by omega) (fun c29 => ?_) (fun c29 => ?_)
                              · refine ar_iloadn (k := 51) rfl rfl ?_
                                refine ar_iret (k := 52) rfl rfl rfl (Nat.le_refl _) ?_
                                first
                                  | (exfalso; omega)
                                  | (rw [show pFig (tpe s) e (p, true, o) = (0, p, true, o) by rw [pFig]; rw [if_pos (by simp <;> omega)]]; exact ⟨congrArg (fun z => some (vi z)) (by show (_ : Int) = _; omega), I48, rfl, pH.cp hk48 (by omega)⟩)
                              · refine ar_iloadn (k := 30) rfl rfl ?_
                                refine ar_if_eq (k := 31) rfl (by omega) (fun c31 => ?_) (fun c31 => ?_)
                                · refine ar_bipush (k := 34) rfl (by decide) ?_
                                  refine ar_iloadn (k := 35) rfl rfl ?_
                                  refine ar_imul (k := 36) rfl ?_
                                  refine ar_aloadn (k := 37) rfl rfl ?_
                                  refine br_callV (k := 38) (as := []) rfl lvR_52 (hS.k (by decide)) rfl (c_R_here (p := ((p + 1) + 1)) hS hB hk48 (by (constructor <;> (dsimp only; omega))) rfl) rfl (by decide) (by decide) tw_m0 (Nat.le_of_ble_eq_true rfl) ?_
                                  refine ar_iadd (k := 39) rfl ?_
                                  refine ar_bipush (k := 40) rfl (by decide) ?_
                                  refine ar_isub (k := 41) rfl ?_
                                  refine ar_istoren (k := 42) (l2 := [(1, _), (2, _), (0, _)]) rfl (by decide) rfl ?_
                                  refine ar_aloadn (k := 43) rfl rfl ?_
                                  refine ar_dup (k := 44) rfl rfl ?_
                                  refine br_getI (k := 45) rfl (hS.k (by decide)) flR_42_12 (by decide) rfl ?_
                                  refine tw_top (y := ((p + 1) + 1)) (by exact hk48.2.2.1) ?_
                                  refine ar_iconst (k := 46) rfl ?_
                                  refine ar_iadd (k := 47) rfl ?_
                                  refine br_putIJ (k := 48) rfl (hS.k (by decide)) flR_42_12 (by decide) rfl (fun _ _ _ q => by cases q; exact ⟨rfl, rfl⟩) (fun I48 e48 => ?_)
                                  change _ = uI _ 69 5 _ at e48
                                  have hk48 := pH.p5 hk48 e48 (y := ((p + 1) + 1) + 1) (by rfl)
                                  refine ar_iinc (k := 49) (l2 := [(2, _), (1, _), (0, _)]) rfl (by decide) rfl rfl ?_
                                  refine ar_goto (k := 50) rfl ?_
                                  exfalso; omega
                                · refine ar_iloadn (k := 32) rfl rfl ?_
                                  refine ar_if_le (k := 33) rfl (by omega) (fun c33 => ?_) (fun c33 => ?_)
                                  · refine ar_iloadn (k := 51) rfl rfl ?_
                                    refine ar_iret (k := 52) rfl rfl rfl (Nat.le_refl _) ?_
                                    first
                                      | (exfalso; omega)
                                      | (rw [show pFig (tpe s) e (p, true, o) = (0, p, true, o) by rw [pFig]; rw [if_pos (by simp <;> omega)]]; exact ⟨congrArg (fun z => some (vi z)) (by show (_ : Int) = _; omega), I48, rfl, pH.cp hk48 (by omega)⟩)
                                  · refine ar_bipush (k := 34) rfl (by decide) ?_
                                    refine ar_iloadn (k := 35) rfl rfl ?_
                                    refine ar_imul (k := 36) rfl ?_
                                    refine ar_aloadn (k := 37) rfl rfl ?_
                                    refine br_callV (k := 38) (as := []) rfl lvR_52 (hS.k (by decide)) rfl (c_R_here (p := ((p + 1) + 1)) hS hB hk48 (by (constructor <;> (dsimp only; omega))) rfl) rfl (by decide) (by decide) tw_m0 (Nat.le_of_ble_eq_true rfl) ?_
                                    refine ar_iadd (k := 39) rfl ?_
                                    refine ar_bipush (k := 40) rfl (by decide) ?_
                                    refine ar_isub (k := 41) rfl ?_
                                    refine ar_istoren (k := 42) (l2 := [(1, _), (2, _), (0, _)]) rfl (by decide) rfl ?_
                                    refine ar_aloadn (k := 43) rfl rfl ?_
                                    refine ar_dup (k := 44) rfl rfl ?_
                                    refine br_getI (k := 45) rfl (hS.k (by decide)) flR_42_12 (by decide) rfl ?_
                                    refine tw_top (y := ((p + 1) + 1)) (by exact hk48.2.2.1) ?_
                                    refine ar_iconst (k := 46) rfl ?_
                                    refine ar_iadd (k := 47) rfl ?_
                                    refine br_putIJ (k := 48) rfl (hS.k (by decide)) flR_42_12 (by decide) rfl (fun _ _ _ q => by cases q; exact ⟨rfl, rfl⟩) (fun I48 e48 => ?_)
                                    change _ = uI _ 69 5 _ at e48
                                    have hk48 := pH.p5 hk48 e48 (y := ((p + 1) + 1) + 1) (by rfl)
                                    refine ar_iinc (k := 49) (l2 := [(2, _), (1, _), (0, _)]) rfl (by decide) rfl rfl ?_
                                    refine ar_goto (k := 50) rfl ?_
                                    exfalso; omega
    · refine ar_iconst (k := 10) rfl ?_
      refine ar_goto (k := 11) rfl ?_
      refine br_putZJ (k := 13) rfl (hS.k (by decide)) flR_48_12 (by decide) rfl (by omega) (fun _ _ _ q => by cases q; exact ⟨rfl, rfl⟩) (fun I13 e13 => ?_)
      change _ = uI _ 69 7 _ at e13
      have hk13 := pH.w7 hk e13 (y := true) (by rfl)
      refine ar_iconst (k := 14) rfl ?_
      refine ar_istoren (k := 15) (l2 := [(1, _), (0, _)]) rfl (by decide) rfl ?_
      refine ar_iconst (k := 16) rfl ?_
      refine ar_istoren (k := 17) (l2 := [(2, _), (1, _), (0, _)]) rfl (by decide) rfl ?_
      refine ar_iloadn (k := 18) rfl rfl ?_
      refine ar_iconst (k := 19) rfl ?_
      refine ar_icmp_ge (k := 20) rfl (by omega) (by omega) (fun c20 => ?_) (fun c20 => ?_)
      · refine ar_iloadn (k := 51) rfl rfl ?_
        refine ar_iret (k := 52) rfl rfl rfl (Nat.le_refl _) ?_
        first
          | (exfalso; omega)
          | (rw [show pFig (tpe s) e (p, true, o) = (0, p, true, o) by rw [pFig]; rw [if_pos (by simp <;> omega)]]; exact ⟨congrArg (fun z => some (vi z)) (by show (_ : Int) = _; omega), I13, rfl, pH.cp hk13 (by omega)⟩)
      · refine ar_aloadn (k := 21) rfl rfl ?_
        refine br_getI (k := 22) rfl (hS.k (by decide)) flR_48_12 (by decide) rfl ?_
        refine tw_top (y := 1) (by exact hk13.2.2.2.2.1) ?_
        refine ar_if_ne (k := 23) rfl (by omega) (fun c23 => ?_) (fun c23 => ?_)
        · refine ar_iloadn (k := 51) rfl rfl ?_
          refine ar_iret (k := 52) rfl rfl rfl (Nat.le_refl _) ?_
          first
            | (exfalso; omega)
            | (rw [show pFig (tpe s) e (p, true, o) = (0, p, true, o) by rw [pFig]; rw [if_pos (by simp <;> omega)]]; exact ⟨congrArg (fun z => some (vi z)) (by show (_ : Int) = _; omega), I13, rfl, pH.cp hk13 (by omega)⟩)
        · refine ar_aloadn (k := 24) rfl rfl ?_
          refine br_callV (k := 25) (as := []) rfl lvR_52 (hS.k (by decide)) rfl (c_R_here (p := p) hS hB hk13 (by (constructor <;> (dsimp only; omega))) rfl) rfl (by decide) (by decide) tw_m0 (Nat.le_of_ble_eq_true rfl) ?_
          refine ar_bipush (k := 26) rfl (by decide) ?_
          refine ar_bipush (k := 27) rfl (by decide) ?_
          refine br_callS (k := 28) (as := [_, _, _]) rfl lsR_38 (c_R_in (by omega) (by omega) (by omega)) rfl (by decide) (by decide) tw_m0 (Nat.le_of_ble_eq_true rfl) ?_
          refine ar_if_eq (k := 29) rfl (by omega) (fun c29 => ?_) (fun c29 => ?_)
          · refine ar_iloadn (k := 51) rfl rfl ?_
            refine ar_iret (k := 52) rfl rfl rfl (Nat.le_refl _) ?_
            first
              | (exfalso; omega)
              | (rw [show pFig (tpe s) e (p, true, o) = (0, p, true, o) by rw [pFig]; rw [if_pos (by simp <;> omega)]]; exact ⟨congrArg (fun z => some (vi z)) (by show (_ : Int) = _; omega), I13, rfl, pH.cp hk13 (by omega)⟩)
          · refine ar_iloadn (k := 30) rfl rfl ?_
            refine ar_if_eq (k := 31) rfl (by omega) (fun c31 => ?_) (fun c31 => ?_)
            · refine ar_bipush (k := 34) rfl (by decide) ?_
              refine ar_iloadn (k := 35) rfl rfl ?_
              refine ar_imul (k := 36) rfl ?_
              refine ar_aloadn (k := 37) rfl rfl ?_
              refine br_callV (k := 38) (as := []) rfl lvR_52 (hS.k (by decide)) rfl (c_R_here (p := p) hS hB hk13 (by (constructor <;> (dsimp only; omega))) rfl) rfl (by decide) (by decide) tw_m0 (Nat.le_of_ble_eq_true rfl) ?_
              refine ar_iadd (k := 39) rfl ?_
              refine ar_bipush (k := 40) rfl (by decide) ?_
              refine ar_isub (k := 41) rfl ?_
              refine ar_istoren (k := 42) (l2 := [(1, _), (2, _), (0, _)]) rfl (by decide) rfl ?_
              refine ar_aloadn (k := 43) rfl rfl ?_
              refine ar_dup (k := 44) rfl rfl ?_
              refine br_getI (k := 45) rfl (hS.k (by decide)) flR_42_12 (by decide) rfl ?_
              refine tw_top (y := p) (by exact hk13.2.2.1) ?_
              refine ar_iconst (k := 46) rfl ?_
              refine ar_iadd (k := 47) rfl ?_
              refine br_putIJ (k := 48) rfl (hS.k (by decide)) flR_42_12 (by decide) rfl (fun _ _ _ q => by cases q; exact ⟨rfl, rfl⟩) (fun I48 e48 => ?_)
              change _ = uI _ 69 5 _ at e48
              have hk48 := pH.p5 hk13 e48 (y := p + 1) (by rfl)
              refine ar_iinc (k := 49) (l2 := [(2, _), (1, _), (0, _)]) rfl (by decide) rfl rfl ?_
              refine ar_goto (k := 50) rfl ?_
              refine ar_iloadn (k := 18) rfl rfl ?_
              refine ar_iconst (k := 19) rfl ?_
              refine ar_icmp_ge (k := 20) rfl (by omega) (by omega) (fun c20 => ?_) (fun c20 => ?_)
              · refine ar_iloadn (k := 51) rfl rfl ?_
                refine ar_iret (k := 52) rfl rfl rfl (Nat.le_refl _) ?_
                first
                  | (exfalso; omega)
                  | (rw [show pFig (tpe s) e (p, true, o) = (0, p, true, o) by rw [pFig]; rw [if_pos (by simp <;> omega)]]; exact ⟨congrArg (fun z => some (vi z)) (by show (_ : Int) = _; omega), I48, rfl, pH.cp hk48 (by omega)⟩)
              · refine ar_aloadn (k := 21) rfl rfl ?_
                refine br_getI (k := 22) rfl (hS.k (by decide)) flR_48_12 (by decide) rfl ?_
                refine tw_top (y := 1) (by exact hk48.2.2.2.2.1) ?_
                refine ar_if_ne (k := 23) rfl (by omega) (fun c23 => ?_) (fun c23 => ?_)
                · refine ar_iloadn (k := 51) rfl rfl ?_
                  refine ar_iret (k := 52) rfl rfl rfl (Nat.le_refl _) ?_
                  first
                    | (exfalso; omega)
                    | (rw [show pFig (tpe s) e (p, true, o) = (0, p, true, o) by rw [pFig]; rw [if_pos (by simp <;> omega)]]; exact ⟨congrArg (fun z => some (vi z)) (by show (_ : Int) = _; omega), I48, rfl, pH.cp hk48 (by omega)⟩)
                · refine ar_aloadn (k := 24) rfl rfl ?_
                  refine br_callV (k := 25) (as := []) rfl lvR_52 (hS.k (by decide)) rfl (c_R_here (p := (p + 1)) hS hB hk48 (by (constructor <;> (dsimp only; omega))) rfl) rfl (by decide) (by decide) tw_m0 (Nat.le_of_ble_eq_true rfl) ?_
                  refine ar_bipush (k := 26) rfl (by decide) ?_
                  refine ar_bipush (k := 27) rfl (by decide) ?_
                  refine br_callS (k := 28) (as := [_, _, _]) rfl lsR_38 (c_R_in (by omega) (by omega) (by omega)) rfl (by decide) (by decide) tw_m0 (Nat.le_of_ble_eq_true rfl) ?_
                  refine ar_if_eq (k := 29) rfl (by omega) (fun c29 => ?_) (fun c29 => ?_)
                  · refine ar_iloadn (k := 51) rfl rfl ?_
                    refine ar_iret (k := 52) rfl rfl rfl (Nat.le_refl _) ?_
                    first
                      | (exfalso; omega)
                      | (rw [show pFig (tpe s) e (p, true, o) = (0, p, true, o) by rw [pFig]; rw [if_pos (by simp <;> omega)]]; exact ⟨congrArg (fun z => some (vi z)) (by show (_ : Int) = _; omega), I48, rfl, pH.cp hk48 (by omega)⟩)
                  · refine ar_iloadn (k := 30) rfl rfl ?_
                    refine ar_if_eq (k := 31) rfl (by omega) (fun c31 => ?_) (fun c31 => ?_)
                    · refine ar_bipush (k := 34) rfl (by decide) ?_
                      refine ar_iloadn (k := 35) rfl rfl ?_
                      refine ar_imul (k := 36) rfl ?_
                      refine ar_aloadn (k := 37) rfl rfl ?_
                      refine br_callV (k := 38) (as := []) rfl lvR_52 (hS.k (by decide)) rfl (c_R_here (p := (p + 1)) hS hB hk48 (by (constructor <;> (dsimp only; omega))) rfl) rfl (by decide) (by decide) tw_m0 (Nat.le_of_ble_eq_true rfl) ?_
                      refine ar_iadd (k := 39) rfl ?_
                      refine ar_bipush (k := 40) rfl (by decide) ?_
                      refine ar_isub (k := 41) rfl ?_
                      refine ar_istoren (k := 42) (l2 := [(1, _), (2, _), (0, _)]) rfl (by decide) rfl ?_
                      refine ar_aloadn (k := 43) rfl rfl ?_
                      refine ar_dup (k := 44) rfl rfl ?_
                      refine br_getI (k := 45) rfl (hS.k (by decide)) flR_42_12 (by decide) rfl ?_
                      refine tw_top (y := (p + 1)) (by exact hk48.2.2.1) ?_
                      refine ar_iconst (k := 46) rfl ?_
                      refine ar_iadd (k := 47) rfl ?_
                      refine br_putIJ (k := 48) rfl (hS.k (by decide)) flR_42_12 (by decide) rfl (fun _ _ _ q => by cases q; exact ⟨rfl, rfl⟩) (fun I48 e48 => ?_)
                      change _ = uI _ 69 5 _ at e48
                      have hk48 := pH.p5 hk48 e48 (y := (p + 1) + 1) (by rfl)
                      refine ar_iinc (k := 49) (l2 := [(2, _), (1, _), (0, _)]) rfl (by decide) rfl rfl ?_
                      refine ar_goto (k := 50) rfl ?_
                      refine ar_iloadn (k := 18) rfl rfl ?_
                      refine ar_iconst (k := 19) rfl ?_
                      refine ar_icmp_ge (k := 20) rfl (by omega) (by omega) (fun c20 => ?_) (fun c20 => ?_)
                      · refine ar_iloadn (k := 51) rfl rfl ?_
                        refine ar_iret (k := 52) rfl rfl rfl (Nat.le_refl _) ?_
                        first
                          | (exfalso; omega)
                          | (rw [show pFig (tpe s) e (p, true, o) = (0, p, true, o) by rw [pFig]; rw [if_pos (by simp <;> omega)]]; exact ⟨congrArg (fun z => some (vi z)) (by show (_ : Int) = _; omega), I48, rfl, pH.cp hk48 (by omega)⟩)
                      · refine ar_aloadn (k := 21) rfl rfl ?_
                        refine br_getI (k := 22) rfl (hS.k (by decide)) flR_48_12 (by decide) rfl ?_
                        refine tw_top (y := 1) (by exact hk48.2.2.2.2.1) ?_
                        refine ar_if_ne (k := 23) rfl (by omega) (fun c23 => ?_) (fun c23 => ?_)
                        · refine ar_iloadn (k := 51) rfl rfl ?_
                          refine ar_iret (k := 52) rfl rfl rfl (Nat.le_refl _) ?_
                          first
                            | (exfalso; omega)
                            | (rw [show pFig (tpe s) e (p, true, o) = (0, p, true, o) by rw [pFig]; rw [if_pos (by simp <;> omega)]]; exact ⟨congrArg (fun z => some (vi z)) (by show (_ : Int) = _; omega), I48, rfl, pH.cp hk48 (by omega)⟩)
                        · refine ar_aloadn (k := 24) rfl rfl ?_
                          refine br_callV (k := 25) (as := []) rfl lvR_52 (hS.k (by decide)) rfl (c_R_here (p := ((p + 1) + 1)) hS hB hk48 (by (constructor <;> (dsimp only; omega))) rfl) rfl (by decide) (by decide) tw_m0 (Nat.le_of_ble_eq_true rfl) ?_
                          refine ar_bipush (k := 26) rfl (by decide) ?_
                          refine ar_bipush (k := 27) rfl (by decide) ?_
                          refine br_callS (k := 28) (as := [_, _, _]) rfl lsR_38 (c_R_in (by omega) (by omega) (by omega)) rfl (by decide) (by decide) tw_m0 (Nat.le_of_ble_eq_true rfl) ?_
                          refine ar_if_eq (k := 29) rfl (by omega) (fun c29 => ?_) (fun c29 => ?_)
                          · refine ar_iloadn (k := 51) rfl rfl ?_
                            refine ar_iret (k := 52) rfl rfl rfl (Nat.le_refl _) ?_
                            first
                              | (exfalso; omega)
                              | (rw [show pFig (tpe s) e (p, true, o) = (0, p, true, o) by rw [pFig]; rw [if_pos (by simp <;> omega)]]; exact ⟨congrArg (fun z => some (vi z)) (by show (_ : Int) = _; omega), I48, rfl, pH.cp hk48 (by omega)⟩)
                          · refine ar_iloadn (k := 30) rfl rfl ?_
                            refine ar_if_eq (k := 31) rfl (by omega) (fun c31 => ?_) (fun c31 => ?_)
                            · refine ar_bipush (k := 34) rfl (by decide) ?_
                              refine ar_iloadn (k := 35) rfl rfl ?_
                              refine ar_imul (k := 36) rfl ?_
                              refine ar_aloadn (k := 37) rfl rfl ?_
                              refine br_callV (k := 38) (as := []) rfl lvR_52 (hS.k (by decide)) rfl (c_R_here (p := ((p + 1) + 1)) hS hB hk48 (by (constructor <;> (dsimp only; omega))) rfl) rfl (by decide) (by decide) tw_m0 (Nat.le_of_ble_eq_true rfl) ?_
                              refine ar_iadd (k := 39) rfl ?_
                              refine ar_bipush (k := 40) rfl (by decide) ?_
                              refine ar_isub (k := 41) rfl ?_
                              refine ar_istoren (k := 42) (l2 := [(1, _), (2, _), (0, _)]) rfl (by decide) rfl ?_
                              refine ar_aloadn (k := 43) rfl rfl ?_
                              refine ar_dup (k := 44) rfl rfl ?_
                              refine br_getI (k := 45) rfl (hS.k (by decide)) flR_42_12 (by decide) rfl ?_
                              refine tw_top (y := ((p + 1) + 1)) (by exact hk48.2.2.1) ?_
                              refine ar_iconst (k := 46) rfl ?_
                              refine ar_iadd (k := 47) rfl ?_
                              refine br_putIJ (k := 48) rfl (hS.k (by decide)) flR_42_12 (by decide) rfl (fun _ _ _ q => by cases q; exact ⟨rfl, rfl⟩) (fun I48 e48 => ?_)
                              change _ = uI _ 69 5 _ at e48
                              have hk48 := pH.p5 hk48 e48 (y := ((p + 1) + 1) + 1) (by rfl)
                              refine ar_iinc (k := 49) (l2 := [(2, _), (1, _), (0, _)]) rfl (by decide) rfl rfl ?_
                              refine ar_goto (k := 50) rfl ?_
                              exfalso; omega
                            · refine ar_iloadn (k := 32) rfl rfl ?_
                              refine ar_if_le (k := 33) rfl (by omega) (fun c33 => ?_) (fun c33 => ?_)
                              · refine ar_iloadn (k := 51) rfl rfl ?_
                                refine ar_iret (k := 52) rfl rfl rfl (Nat.le_refl _) ?_
                                first
                                  | (exfalso; omega)
                                  | (rw [show pFig (tpe s) e (p, true, o) = (0, p, true, o) by rw [pFig]; rw [if_pos (by simp <;> omega)]]; exact ⟨congrArg (fun z => some (vi z)) (by show (_ : Int) = _; omega), I48, rfl, pH.cp hk48 (by omega)⟩)
                              · refine ar_bipush (k := 34) rfl (by decide) ?_
                                refine ar_iloadn (k := 35) rfl rfl ?_
                                refine ar_imul (k := 36) rfl ?_
                                refine ar_aloadn (k := 37) rfl rfl ?_
                                refine br_callV (k := 38) (as := []) rfl lvR_52 (hS.k (by decide)) rfl (c_R_here (p := ((p + 1) + 1)) hS hB hk48 (by (constructor <;> (dsimp only; omega))) rfl) rfl (by decide) (by decide) tw_m0 (Nat.le_of_ble_eq_true rfl) ?_
                                refine ar_iadd (k := 39) rfl ?_
                                refine ar_bipush (k := 40) rfl (by decide) ?_
                                refine ar_isub (k := 41) rfl ?_
                                refine ar_istoren (k := 42) (l2 := [(1, _), (2, _), (0, _)]) rfl (by decide) rfl ?_
                                refine ar_aloadn (k := 43) rfl rfl ?_
                                refine ar_dup (k := 44) rfl rfl ?_
                                refine br_getI (k := 45) rfl (hS.k (by decide)) flR_42_12 (by decide) rfl ?_
                                refine tw_top (y := ((p + 1) + 1)) (by exact hk48.2.2.1) ?_
                                refine ar_iconst (k := 46) rfl ?_
                                refine ar_iadd (k := 47) rfl ?_
                                refine br_putIJ (k := 48) rfl (hS.k (by decide)) flR_42_12 (by decide) rfl (fun _ _ _ q => by cases q; exact ⟨rfl, rfl⟩) (fun I48 e48 => ?_)
                                change _ = uI _ 69 5 _ at e48
                                have hk48 := pH.p5 hk48 e48 (y := ((p + 1) + 1) + 1) (by rfl)
                                refine ar_iinc (k := 49) (l2 := [(2, _), (1, _), (0, _)]) rfl (by decide) rfl rfl ?_
                                refine ar_goto (k := 50) rfl ?_
                                exfalso; omega
                    · refine ar_iloadn (k := 32) rfl rfl ?_
                      refine ar_if_le (k := 33) rfl (by omega) (fun c33 => ?_) (fun c33 => ?_)
                      · refine ar_iloadn (k := 51) rfl rfl ?_
                        refine ar_iret (k := 52) rfl rfl rfl (Nat.le_refl _) ?_
                        first
                          | (exfalso; omega)
                          | (rw [show pFig (tpe s) e (p, true, o) = (0, p, true, o) by rw [pFig]; rw [if_pos (by simp <;> omega)]]; exact ⟨congrArg (fun z => some (vi z)) (by show (_ : Int) = _; omega), I48, rfl, pH.cp hk48 (by omega)⟩)
                      · refine ar_bipush (k := 34) rfl (by decide) ?_
                        refine ar_iloadn (k := 35) rfl rfl ?_
                        refine ar_imul (k := 36) rfl ?_
                        refine ar_aloadn (k := 37) rfl rfl ?_
                        refine br_callV (k := 38) (as := []) rfl lvR_52 (hS.k (by decide)) rfl (c_R_here (p := (p + 1)) hS hB hk48 (by (constructor <;> (dsimp only; omega))) rfl) rfl (by decide) (by decide) tw_m0 (Nat.le_of_ble_eq_true rfl) ?_
                        refine ar_iadd (k := 39) rfl ?_
                        refine ar_bipush (k := 40) rfl (by decide) ?_
                        refine ar_isub (k := 41) rfl ?_
                        refine ar_istoren (k := 42) (l2 := [(1, _), (2, _), (0, _)]) rfl (by decide) rfl ?_
                        refine ar_aloadn (k := 43) rfl rfl ?_
                        refine ar_dup (k := 44) rfl rfl ?_
                        refine br_getI (k := 45) rfl (hS.k (by decide)) flR_42_12 (by decide) rfl ?_
                        refine tw_top (y := (p + 1)) (by exact hk48.2.2.1) ?_
                        refine ar_iconst (k := 46) rfl ?_
                        refine ar_iadd (k := 47) rfl ?_
                        refine br_putIJ (k := 48) rfl (hS.k (by decide)) flR_42_12 (by decide) rfl (fun _ _ _ q => by cases q; exact ⟨rfl, rfl⟩) (fun I48 e48 => ?_)
                        change _ = uI _ 69 5 _ at e48
                        have hk48 := pH.p5 hk48 e48 (y := (p + 1) + 1) (by rfl)
                        refine ar_iinc (k := 49) (l2 := [(2, _), (1, _), (0, _)]) rfl (by decide) rfl rfl ?_
                        refine ar_goto (k := 50) rfl ?_
                        refine ar_iloadn (k := 18) rfl rfl ?_
                        refine ar_iconst (k := 19) rfl ?_
                        refine ar_icmp_ge (k := 20) rfl (by omega) (by omega) (fun c20 => ?_) (fun c20 => ?_)
                        · refine ar_iloadn (k := 51) rfl rfl ?_
                          refine ar_iret (k := 52) rfl rfl rfl (Nat.le_refl _) ?_
                          first
                            | (exfalso; omega)
                            | (rw [show pFig (tpe s) e (p, true, o) = (0, p, true, o) by rw [pFig]; rw [if_pos (by simp <;> omega)]]; exact ⟨congrArg (fun z => some (vi z)) (by show (_ : Int) = _; omega), I48, rfl, pH.cp hk48 (by omega)⟩)
                        · refine ar_aloadn (k := 21) rfl rfl ?_
                          refine br_getI (k := 22) rfl (hS.k (by decide)) flR_48_12 (by decide) rfl ?_
                          refine tw_top (y := 1) (by exact hk48.2.2.2.2.1) ?_
                          refine ar_if_ne (k := 23) rfl (by omega) (fun c23 => ?_) (fun c23 => ?_)
                          · refine ar_iloadn (k := 51) rfl rfl ?_
                            refine ar_iret (k := 52) rfl rfl rfl (Nat.le_refl _) ?_
                            first
                              | (exfalso; omega)
                              | (rw [show pFig (tpe s) e (p, true, o) = (0, p, true, o) by rw [pFig]; rw [if_pos (by simp <;> omega)]]; exact ⟨congrArg (fun z => some (vi z)) (by show (_ : Int) = _; omega), I48, rfl, pH.cp hk48 (by omega)⟩)
                          · refine ar_aloadn (k := 24) rfl rfl ?_
                            refine br_callV (k := 25) (as := []) rfl lvR_52 (hS.k (by decide)) rfl (c_R_here (p := ((p + 1) + 1)) hS hB hk48 (by (constructor <;> (dsimp only; omega))) rfl) rfl (by decide) (by decide) tw_m0 (Nat.le_of_ble_eq_true rfl) ?_
                            refine ar_bipush (k := 26) rfl (by decide) ?_
                            refine ar_bipush (k := 27) rfl (by decide) ?_
                            refine br_callS (k := 28) (as := [_, _, _]) rfl lsR_38 (c_R_in (by omega) (by omega) (by omega)) rfl (by decide) (by decide) tw_m0 (Nat.le_of_ble_eq_true rfl) ?_
                            refine ar_if_eq (k := 29) rfl (by omega) (fun c29 => ?_) (fun c29 => ?_)
                            · refine ar_iloadn (k := 51) rfl rfl ?_
                              refine ar_iret (k := 52) rfl rfl rfl (Nat.le_refl _) ?_
                              first
                                | (exfalso; omega)
                                | (rw [show pFig (tpe s) e (p, true, o) = (0, p, true, o) by rw [pFig]; rw [if_pos (by simp <;> omega)]]; exact ⟨congrArg (fun z => some (vi z)) (by show (_ : Int) = _; omega), I48, rfl, pH.cp hk48 (by omega)⟩)
                            · refine ar_iloadn (k := 30) rfl rfl ?_
                              refine ar_if_eq (k := 31) rfl (by omega) (fun c31 => ?_) (fun c31 => ?_)
                              · refine ar_bipush (k := 34) rfl (by decide) ?_
                                refine ar_iloadn (k := 35) rfl rfl ?_
                                refine ar_imul (k := 36) rfl ?_
                                refine ar_aloadn (k := 37) rfl rfl ?_
                                refine br_callV (k := 38) (as := []) rfl lvR_52 (hS.k (by decide)) rfl (c_R_here (p := ((p + 1) + 1)) hS hB hk48 (by (constructor <;> (dsimp only; omega))) rfl) rfl (by decide) (by decide) tw_m0 (Nat.le_of_ble_eq_true rfl) ?_
                                refine ar_iadd (k := 39) rfl ?_
                                refine ar_bipush (k := 40) rfl (by decide) ?_
                                refine ar_isub (k := 41) rfl ?_
                                refine ar_istoren (k := 42) (l2 := [(1, _), (2, _), (0, _)]) rfl (by decide) rfl ?_
                                refine ar_aloadn (k := 43) rfl rfl ?_
                                refine ar_dup (k := 44) rfl rfl ?_
                                refine br_getI (k := 45) rfl (hS.k (by decide)) flR_42_12 (by decide) rfl ?_
                                refine tw_top (y := ((p + 1) + 1)) (by exact hk48.2.2.1) ?_
                                refine ar_iconst (k := 46) rfl ?_
                                refine ar_iadd (k := 47) rfl ?_
                                refine br_putIJ (k := 48) rfl (hS.k (by decide)) flR_42_12 (by decide) rfl (fun _ _ _ q => by cases q; exact ⟨rfl, rfl⟩) (fun I48 e48 => ?_)
                                change _ = uI _ 69 5 _ at e48
                                have hk48 := pH.p5 hk48 e48 (y := ((p + 1) + 1) + 1) (by rfl)
                                refine ar_iinc (k := 49) (l2 := [(2, _), (1, _), (0, _)]) rfl (by decide) rfl rfl ?_
                                refine ar_goto (k := 50) rfl ?_
                                exfalso; omega
                              · refine ar_iloadn (k := 32) rfl rfl ?_
                                refine ar_if_le (k := 33) rfl (by omega) (fun c33 => ?_) (fun c33 => ?_)
                                · refine ar_iloadn (k := 51) rfl rfl ?_
                                  refine ar_iret (k := 52) rfl rfl rfl (Nat.le_refl _) ?_
                                  first
                                    | (exfalso; omega)
                                    | (rw [show pFig (tpe s) e (p, true, o) = (0, p, true, o) by rw [pFig]; rw [if_pos (by simp <;> omega)]]; exact ⟨congrArg (fun z => some (vi z)) (by show (_ : Int) = _; omega), I48, rfl, pH.cp hk48 (by omega)⟩)
                                · refine ar_bipush (k := 34) rfl (by decide) ?_
                                  refine ar_iloadn (k := 35) rfl rfl ?_
                                  refine ar_imul (k := 36) rfl ?_
                                  refine ar_aloadn (k := 37) rfl rfl ?_
                                  refine br_callV (k := 38) (as := []) rfl lvR_52 (hS.k (by decide)) rfl (c_R_here (p := ((p + 1) + 1)) hS hB hk48 (by (constructor <;> (dsimp only; omega))) rfl) rfl (by decide) (by decide) tw_m0 (Nat.le_of_ble_eq_true rfl) ?_
                                  refine ar_iadd (k := 39) rfl ?_
                                  refine ar_bipush (k := 40) rfl (by decide) ?_
                                  refine ar_isub (k := 41) rfl ?_
                                  refine ar_istoren (k := 42) (l2 := [(1, _), (2, _), (0, _)]) rfl (by decide) rfl ?_
                                  refine ar_aloadn (k := 43) rfl rfl ?_
                                  refine ar_dup (k := 44) rfl rfl ?_
                                  refine br_getI (k := 45) rfl (hS.k (by decide)) flR_42_12 (by decide) rfl ?_
                                  refine tw_top (y := ((p + 1) + 1)) (by exact hk48.2.2.1) ?_
                                  refine ar_iconst (k := 46) rfl ?_
                                  refine ar_iadd (k := 47) rfl ?_
                                  refine br_putIJ (k := 48) rfl (hS.k (by decide)) flR_42_12 (by decide) rfl (fun _ _ _ q => by cases q; exact ⟨rfl, rfl⟩) (fun I48 e48 => ?_)
                                  change _ = uI _ 69 5 _ at e48
                                  have hk48 := pH.p5 hk48 e48 (y := ((p + 1) + 1) + 1) (by rfl)
                                  refine ar_iinc (k := 49) (l2 := [(2, _), (1, _), (0, _)]) rfl (by decide) rfl rfl ?_
                                  refine ar_goto (k := 50) rfl ?_
                                  exfalso; omega
            · refine ar_iloadn (k := 32) rfl rfl ?_
              refine ar_if_le (k := 33) rfl (by omega) (fun c33 => ?_) (fun c33 => ?_)
              · refine ar_iloadn (k := 51) rfl rfl ?_
                refine ar_iret (k := 52) rfl rfl rfl (Nat.le_refl _) ?_
                first
                  | (exfalso; omega)
                  | (rw [show pFig (tpe s) e (p, true, o) = (0, p, true, o) by rw [pFig]; rw [if_pos (by simp <;> omega)]]; exact ⟨congrArg (fun z => some (vi z)) (by show (_ : Int) = _; omega), I13, rfl, pH.cp hk13 (by omega)⟩)
              · refine ar_bipush (k := 34) rfl (by decide) ?_
                refine ar_iloadn (k := 35) rfl rfl ?_
                refine ar_imul (k := 36) rfl ?_
                refine ar_aloadn (k := 37) rfl rfl ?_
                refine br_callV (k := 38) (as := []) rfl lvR_52 (hS.k (by decide)) rfl (c_R_here (p := p) hS hB hk13 (by (constructor <;> (dsimp only; omega))) rfl) rfl (by decide) (by decide) tw_m0 (Nat.le_of_ble_eq_true rfl) ?_
                refine ar_iadd (k := 39) rfl ?_
                refine ar_bipush (k := 40) rfl (by decide) ?_
                refine ar_isub (k := 41) rfl ?_
                refine ar_istoren (k := 42) (l2 := [(1, _), (2, _), (0, _)]) rfl (by decide) rfl ?_
                refine ar_aloadn (k := 43) rfl rfl ?_
                refine ar_dup (k := 44) rfl rfl ?_
                refine br_getI (k := 45) rfl (hS.k (by decide)) flR_42_12 (by decide) rfl ?_
                refine tw_top (y := p) (by exact hk13.2.2.1) ?_
                refine ar_iconst (k := 46) rfl ?_
                refine ar_iadd (k := 47) rfl ?_
                refine br_putIJ (k := 48) rfl (hS.k (by decide)) flR_42_12 (by decide) rfl (fun _ _ _ q => by cases q; exact ⟨rfl, rfl⟩) (fun I48 e48 => ?_)
                change _ = uI _ 69 5 _ at e48
                have hk48 := pH.p5 hk13 e48 (y := p + 1) (by rfl)
                refine ar_iinc (k := 49) (l2 := [(2, _), (1, _), (0, _)]) rfl (by decide) rfl rfl ?_
                refine ar_goto (k := 50) rfl ?_
                refine ar_iloadn (k := 18) rfl rfl ?_
                refine ar_iconst (k := 19) rfl ?_
                refine ar_icmp_ge (k := 20) rfl (by omega) (by omega) (fun c20 => ?_) (fun c20 => ?_)
                · refine ar_iloadn (k := 51) rfl rfl ?_
                  refine ar_iret (k := 52) rfl rfl rfl (Nat.le_refl _) ?_
                  first
                    | (exfalso; omega)
                    | (rw [show pFig (tpe s) e (p, true, o) = (0, p, true, o) by rw [pFig]; rw [if_pos (by simp <;> omega)]]; exact ⟨congrArg (fun z => some (vi z)) (by show (_ : Int) = _; omega), I48, rfl, pH.cp hk48 (by omega)⟩)
                · refine ar_aloadn (k := 21) rfl rfl ?_
                  refine br_getI (k := 22) rfl (hS.k (by decide)) flR_48_12 (by decide) rfl ?_
                  refine tw_top (y := 1) (by exact hk48.2.2.2.2.1) ?_
                  refine ar_if_ne (k := 23) rfl (by omega) (fun c23 => ?_) (fun c23 => ?_)
                  · refine ar_iloadn (k := 51) rfl rfl ?_
                    refine ar_iret (k := 52) rfl rfl rfl (Nat.le_refl _) ?_
                    first
                      | (exfalso; omega)
                      | (rw [show pFig (tpe s) e (p, true, o) = (0, p, true, o) by rw [pFig]; rw [if_pos (by simp <;> omega)]]; exact ⟨congrArg (fun z => some (vi z)) (by show (_ : Int) = _; omega), I48, rfl, pH.cp hk48 (by omega)⟩)
                  · refine ar_aloadn (k := 24) rfl rfl ?_
                    refine br_callV (k := 25) (as := []) rfl lvR_52 (hS.k (by decide)) rfl (c_R_here (p := (p + 1)) hS hB hk48 (by (constructor <;> (dsimp only; omega))) rfl) rfl (by decide) (by decide) tw_m0 (Nat.le_of_ble_eq_true rfl) ?_
                    refine ar_bipush (k := 26) rfl (by decide) ?_
                    refine ar_bipush (k := 27) rfl (by decide) ?_
                    refine br_callS (k := 28) (as := [_, _, _]) rfl lsR_38 (c_R_in (by omega) (by omega) (by omega)) rfl (by decide) (by decide) tw_m0 (Nat.le_of_ble_eq_true rfl) ?_
                    refine ar_if_eq (k := 29) rfl (by omega) (fun c29 => ?_) (fun c29 => ?_)
                    · refine ar_iloadn (k := 51) rfl rfl ?_
                      refine ar_iret (k := 52) rfl rfl rfl (Nat.le_refl _) ?_
                      first
                        | (exfalso; omega)
                        | (rw [show pFig (tpe s) e (p, true, o) = (0, p, true, o) by rw [pFig]; rw [if_pos (by simp <;> omega)]]; exact ⟨congrArg (fun z => some (vi z)) (by show (_ : Int) = _; omega), I48, rfl, pH.cp hk48 (by omega)⟩)
                    · refine ar_iloadn (k := 30) rfl rfl ?_
                      refine ar_if_eq (k := 31) rfl (by omega) (fun c31 => ?_) (fun c31 => ?_)
                      · refine ar_bipush (k := 34) rfl (by decide) ?_
                        refine ar_iloadn (k := 35) rfl rfl ?_
                        refine ar_imul (k := 36) rfl ?_
                        refine ar_aloadn (k := 37) rfl rfl ?_
                        refine br_callV (k := 38) (as := []) rfl lvR_52 (hS.k (by decide)) rfl (c_R_here (p := (p + 1)) hS hB hk48 (by (constructor <;> (dsimp only; omega))) rfl) rfl (by decide) (by decide) tw_m0 (Nat.le_of_ble_eq_true rfl) ?_
                        refine ar_iadd (k := 39) rfl ?_
                        refine ar_bipush (k := 40) rfl (by decide) ?_
                        refine ar_isub (k := 41) rfl ?_
                        refine ar_istoren (k := 42) (l2 := [(1, _), (2, _), (0, _)]) rfl (by decide) rfl ?_
                        refine ar_aloadn (k := 43) rfl rfl ?_
                        refine ar_dup (k := 44) rfl rfl ?_
                        refine br_getI (k := 45) rfl (hS.k (by decide)) flR_42_12 (by decide) rfl ?_
                        refine tw_top (y := (p + 1)) (by exact hk48.2.2.1) ?_
                        refine ar_iconst (k := 46) rfl ?_
                        refine ar_iadd (k := 47) rfl ?_
                        refine br_putIJ (k := 48) rfl (hS.k (by decide)) flR_42_12 (by decide) rfl (fun _ _ _ q => by cases q; exact ⟨rfl, rfl⟩) (fun I48 e48 => ?_)
                        change _ = uI _ 69 5 _ at e48
                        have hk48 := pH.p5 hk48 e48 (y := (p + 1) + 1) (by rfl)
                        refine ar_iinc (k := 49) (l2 := [(2, _), (1, _), (0, _)]) rfl (by decide) rfl rfl ?_
                        refine ar_goto (k := 50) rfl ?_
                        refine ar_iloadn (k := 18) rfl rfl ?_
                        refine ar_iconst (k := 19) rfl ?_
                        refine ar_icmp_ge (k := 20) rfl (by omega) (by omega) (fun c20 => ?_) (fun c20 => ?_)
                        · refine ar_iloadn (k := 51) rfl rfl ?_
                          refine ar_iret (k := 52) rfl rfl rfl (Nat.le_refl _) ?_
                          first
                            | (exfalso; omega)
                            | (rw [show pFig (tpe s) e (p, true, o) = (0, p, true, o) by rw [pFig]; rw [if_pos (by simp <;> omega)]]; exact ⟨congrArg (fun z => some (vi z)) (by show (_ : Int) = _; omega), I48, rfl, pH.cp hk48 (by omega)⟩)
                        · refine ar_aloadn (k := 21) rfl rfl ?_
                          refine br_getI (k := 22) rfl (hS.k (by decide)) flR_48_12 (by decide) rfl ?_
                          refine tw_top (y := 1) (by exact hk48.2.2.2.2.1) ?_
                          refine ar_if_ne (k := 23) rfl (by omega) (fun c23 => ?_) (fun c23 => ?_)
                          · refine ar_iloadn (k := 51) rfl rfl ?_
                            refine ar_iret (k := 52) rfl rfl rfl (Nat.le_refl _) ?_
                            first
                              | (exfalso; omega)
                              | (rw [show pFig (tpe s) e (p, true, o) = (0, p, true, o) by rw [pFig]; rw [if_pos (by simp <;> omega)]]; exact ⟨congrArg (fun z => some (vi z)) (by show (_ : Int) = _; omega), I48, rfl, pH.cp hk48 (by omega)⟩)
                          · refine ar_aloadn (k := 24) rfl rfl ?_
                            refine br_callV (k := 25) (as := []) rfl lvR_52 (hS.k (by decide)) rfl (c_R_here (p := ((p + 1) + 1)) hS hB hk48 (by (constructor <;> (dsimp only; omega))) rfl) rfl (by decide) (by decide) tw_m0 (Nat.le_of_ble_eq_true rfl) ?_
                            refine ar_bipush (k := 26) rfl (by decide) ?_
                            refine ar_bipush (k := 27) rfl (by decide) ?_
                            refine br_callS (k := 28) (as := [_, _, _]) rfl lsR_38 (c_R_in (by omega) (by omega) (by omega)) rfl (by decide) (by decide) tw_m0 (Nat.le_of_ble_eq_true rfl) ?_
                            refine ar_if_eq (k := 29) rfl (by omega) (fun c29 => ?_) (fun c29 => ?_)
                            · refine ar_iloadn (k := 51) rfl rfl ?_
                              refine ar_iret (k := 52) rfl rfl rfl (Nat.le_refl _) ?_
                              first
                                | (exfalso; omega)
                                | (rw [show pFig (tpe s) e (p, true, o) = (0, p, true, o) by rw [pFig]; rw [if_pos (by simp <;> omega)]]; exact ⟨congrArg (fun z => some (vi z)) (by show (_ : Int) = _; omega), I48, rfl, pH.cp hk48 (by omega)⟩)
                            · refine ar_iloadn (k := 30) rfl rfl ?_
                              refine ar_if_eq (k := 31) rfl (by omega) (fun c31 => ?_) (fun c31 => ?_)
                              · refine ar_bipush (k := 34) rfl (by decide) ?_
                                refine ar_iloadn (k := 35) rfl rfl ?_
                                refine ar_imul (k := 36) rfl ?_
                                refine ar_aloadn (k := 37) rfl rfl ?_
                                refine br_callV (k := 38) (as := []) rfl lvR_52 (hS.k (by decide)) rfl (c_R_here (p := ((p + 1) + 1)) hS hB hk48 (by (constructor <;> (dsimp only; omega))) rfl) rfl (by decide) (by decide) tw_m0 (Nat.le_of_ble_eq_true rfl) ?_
                                refine ar_iadd (k := 39) rfl ?_
                                refine ar_bipush (k := 40) rfl (by decide) ?_
                                refine ar_isub (k := 41) rfl ?_
                                refine ar_istoren (k := 42) (l2 := [(1, _), (2, _), (0, _)]) rfl (by decide) rfl ?_
                                refine ar_aloadn (k := 43) rfl rfl ?_
                                refine ar_dup (k := 44) rfl rfl ?_
                                refine br_getI (k := 45) rfl (hS.k (by decide)) flR_42_12 (by decide) rfl ?_
                                refine tw_top (y := ((p + 1) + 1)) (by exact hk48.2.2.1) ?_
                                refine ar_iconst (k := 46) rfl ?_
                                refine ar_iadd (k := 47) rfl ?_
                                refine br_putIJ (k := 48) rfl (hS.k (by decide)) flR_42_12 (by decide) rfl (fun _ _ _ q => by cases q; exact ⟨rfl, rfl⟩) (fun I48 e48 => ?_)
                                change _ = uI _ 69 5 _ at e48
                                have hk48 := pH.p5 hk48 e48 (y := ((p + 1) + 1) + 1) (by rfl)
                                refine ar_iinc (k := 49) (l2 := [(2, _), (1, _), (0, _)]) rfl (by decide) rfl rfl ?_
                                refine ar_goto (k := 50) rfl ?_
                                exfalso; omega
                              · refine ar_iloadn (k := 32) rfl rfl ?_
                                refine ar_if_le (k := 33) rfl (by omega) (fun c33 => ?_) (fun c33 => ?_)
                                · refine ar_iloadn (k := 51) rfl rfl ?_
                                  refine ar_iret (k := 52) rfl rfl rfl (Nat.le_refl _) ?_
                                  first
                                    | (exfalso; omega)
                                    | (rw [show pFig (tpe s) e (p, true, o) = (0, p, true, o) by rw [pFig]; rw [if_pos (by simp <;> omega)]]; exact ⟨congrArg (fun z => some (vi z)) (by show (_ : Int) = _; omega), I48, rfl, pH.cp hk48 (by omega)⟩)
                                · refine ar_bipush (k := 34) rfl (by decide) ?_
                                  refine ar_iloadn (k := 35) rfl rfl ?_
                                  refine ar_imul (k := 36) rfl ?_
                                  refine ar_aloadn (k := 37) rfl rfl ?_
                                  refine br_callV (k := 38) (as := []) rfl lvR_52 (hS.k (by decide)) rfl (c_R_here (p := ((p + 1) + 1)) hS hB hk48 (by (constructor <;> (dsimp only; omega))) rfl) rfl (by decide) (by decide) tw_m0 (Nat.le_of_ble_eq_true rfl) ?_
                                  refine ar_iadd (k := 39) rfl ?_
                                  refine ar_bipush (k := 40) rfl (by decide) ?_
                                  refine ar_isub (k := 41) rfl ?_
                                  refine ar_istoren (k := 42) (l2 := [(1, _), (2, _), (0, _)]) rfl (by decide) rfl ?_
                                  refine ar_aloadn (k := 43) rfl rfl ?_
                                  refine ar_dup (k := 44) rfl rfl ?_
                                  refine br_getI (k := 45) rfl (hS.k (by decide)) flR_42_12 (by decide) rfl ?_
                                  refine tw_top (y := ((p + 1) + 1)) (by exact hk48.2.2.1) ?_
                                  refine ar_iconst (k := 46) rfl ?_
                                  refine ar_iadd (k := 47) rfl ?_
                                  refine br_putIJ (k := 48) rfl (hS.k (by decide)) flR_42_12 (by decide) rfl (fun _ _ _ q => by cases q; exact ⟨rfl, rfl⟩) (fun I48 e48 => ?_)
                                  change _ = uI _ 69 5 _ at e48
                                  have hk48 := pH.p5 hk48 e48 (y := ((p + 1) + 1) + 1) (by rfl)
                                  refine ar_iinc (k := 49) (l2 := [(2, _), (1, _), (0, _)]) rfl (by decide) rfl rfl ?_
                                  refine ar_goto (k := 50) rfl ?_
                                  exfalso; omega
                      · refine ar_iloadn (k := 32) rfl rfl ?_
                        refine ar_if_le (k := 33) rfl (by omega) (fun c33 => ?_) (fun c33 => ?_)
                        · refine ar_iloadn (k := 51) rfl rfl ?_
                          refine ar_iret (k := 52) rfl rfl rfl (Nat.le_refl _) ?_
                          first
                            | (exfalso; omega)
                            | (rw [show pFig (tpe s) e (p, true, o) = (0, p, true, o) by rw [pFig]; rw [if_pos (by simp <;> omega)]]; exact ⟨congrArg (fun z => some (vi z)) (by show (_ : Int) = _; omega), I48, rfl, pH.cp hk48 (by omega)⟩)
                        · refine ar_bipush (k := 34) rfl (by decide) ?_
                          refine ar_iloadn (k := 35) rfl rfl ?_
                          refine ar_imul (k := 36) rfl ?_
                          refine ar_aloadn (k := 37) rfl rfl ?_
                          refine br_callV (k := 38) (as := []) rfl lvR_52 (hS.k (by decide)) rfl (c_R_here (p := (p + 1)) hS hB hk48 (by (constructor <;> (dsimp only; omega))) rfl) rfl (by decide) (by decide) tw_m0 (Nat.le_of_ble_eq_true rfl) ?_
                          refine ar_iadd (k := 39) rfl ?_
                          refine ar_bipush (k := 40) rfl (by decide) ?_
                          refine ar_isub (k := 41) rfl ?_
                          refine ar_istoren (k := 42) (l2 := [(1, _), (2, _), (0, _)]) rfl (by decide) rfl ?_
                          refine ar_aloadn (k := 43) rfl rfl ?_
                          refine ar_dup (k := 44) rfl rfl ?_
                          refine br_getI (k := 45) rfl (hS.k (by decide)) flR_42_12 (by decide) rfl ?_
                          refine tw_top (y := (p + 1)) (by exact hk48.2.2.1) ?_
                          refine ar_iconst (k := 46) rfl ?_
                          refine ar_iadd (k := 47) rfl ?_
                          refine br_putIJ (k := 48) rfl (hS.k (by decide)) flR_42_12 (by decide) rfl (fun _ _ _ q => by cases q; exact ⟨rfl, rfl⟩) (fun I48 e48 => ?_)
                          change _ = uI _ 69 5 _ at e48
                          have hk48 := pH.p5 hk48 e48 (y := (p + 1) + 1) (by rfl)
                          refine ar_iinc (k := 49) (l2 := [(2, _), (1, _), (0, _)]) rfl (by decide) rfl rfl ?_
                          refine ar_goto (k := 50) rfl ?_
                          refine ar_iloadn (k := 18) rfl rfl ?_
                          refine ar_iconst (k := 19) rfl ?_
                          refine ar_icmp_ge (k := 20) rfl (by omega) (by omega) (fun c20 => ?_) (fun c20 => ?_)
                          · refine ar_iloadn (k := 51) rfl rfl ?_
                            refine ar_iret (k := 52) rfl rfl rfl (Nat.le_refl _) ?_
                            first
                              | (exfalso; omega)
                              | (rw [show pFig (tpe s) e (p, true, o) = (0, p, true, o) by rw [pFig]; rw [if_pos (by simp <;> omega)]]; exact ⟨congrArg (fun z => some (vi z)) (by show (_ : Int) = _; omega), I48, rfl, pH.cp hk48 (by omega)⟩)
                          · refine ar_aloadn (k := 21) rfl rfl ?_
                            refine br_getI (k := 22) rfl (hS.k (by decide)) flR_48_12 (by decide) rfl ?_
                            refine tw_top (y := 1) (by exact hk48.2.2.2.2.1) ?_
                            refine ar_if_ne (k := 23) rfl (by omega) (fun c23 => ?_) (fun c23 => ?_)
                            · refine ar_iloadn (k := 51) rfl rfl ?_
                              refine ar_iret (k := 52) rfl rfl rfl (Nat.le_refl _) ?_
                              first
                                | (exfalso; omega)
                                | (rw [show pFig (tpe s) e (p, true, o) = (0, p, true, o) by rw [pFig]; rw [if_pos (by simp <;> omega)]]; exact ⟨congrArg (fun z => some (vi z)) (by show (_ : Int) = _; omega), I48, rfl, pH.cp hk48 (by omega)⟩)
                            · refine ar_aloadn (k := 24) rfl rfl ?_
                              refine br_callV (k := 25) (as := []) rfl lvR_52 (hS.k (by decide)) rfl (c_R_here (p := ((p + 1) + 1)) hS hB hk48 (by (constructor <;> (dsimp only; omega))) rfl) rfl (by decide) (by decide) tw_m0 (Nat.le_of_ble_eq_true rfl) ?_
                              refine ar_bipush (k := 26) rfl (by decide) ?_
                              refine ar_bipush (k := 27) rfl (by decide) ?_
                              refine br_callS (k := 28) (as := [_, _, _]) rfl lsR_38 (c_R_in (by omega) (by omega) (by omega)) rfl (by decide) (by decide) tw_m0 (Nat.le_of_ble_eq_true rfl) ?_
                              refine ar_if_eq (k := 29) rfl (by omega) (fun c29 => ?_) (fun c29 => ?_)
                              · refine ar_iloadn (k := 51) rfl rfl ?_
                                refine ar_iret (k := 52) rfl rfl rfl (Nat.le_refl _) ?_
                                first
                                  | (exfalso; omega)
                                  | (rw [show pFig (tpe s) e (p, true, o) = (0, p, true, o) by rw [pFig]; rw [if_pos (by simp <;> omega)]]; exact ⟨congrArg (fun z => some (vi z)) (by show (_ : Int) = _; omega), I48, rfl, pH.cp hk48 (by omega)⟩)
                              · refine ar_iloadn (k := 30) rfl rfl ?_
                                refine ar_if_eq (k := 31) rfl (by omega) (fun c31 => ?_) (fun c31 => ?_)
                                · refine ar_bipush (k := 34) rfl (by decide) ?_
                                  refine ar_iloadn (k := 35) rfl rfl ?_
                                  refine ar_imul (k := 36) rfl ?_
                                  refine ar_aloadn (k := 37) rfl rfl ?_
                                  refine br_callV (k := 38) (as := []) rfl lvR_52 (hS.k (by decide)) rfl (c_R_here (p := ((p + 1) + 1)) hS hB hk48 (by (constructor <;> (dsimp only; omega))) rfl) rfl (by decide) (by decide) tw_m0 (Nat.le_of_ble_eq_true rfl) ?_
                                  refine ar_iadd (k := 39) rfl ?_
                                  refine ar_bipush (k := 40) rfl (by decide) ?_
                                  refine ar_isub (k := 41) rfl ?_
                                  refine ar_istoren (k := 42) (l2 := [(1, _), (2, _), (0, _)]) rfl (by decide) rfl ?_
                                  refine ar_aloadn (k := 43) rfl rfl ?_
                                  refine ar_dup (k := 44) rfl rfl ?_
                                  refine br_getI (k := 45) rfl (hS.k (by decide)) flR_42_12 (by decide) rfl ?_
                                  refine tw_top (y := ((p + 1) + 1)) (by exact hk48.2.2.1) ?_
                                  refine ar_iconst (k := 46) rfl ?_
                                  refine ar_iadd (k := 47) rfl ?_
                                  refine br_putIJ (k := 48) rfl (hS.k (by decide)) flR_42_12 (by decide) rfl (fun _ _ _ q => by cases q; exact ⟨rfl, rfl⟩) (fun I48 e48 => ?_)
                                  change _ = uI _ 69 5 _ at e48
                                  have hk48 := pH.p5 hk48 e48 (y := ((p + 1) + 1) + 1) (by rfl)
                                  refine ar_iinc (k := 49) (l2 := [(2, _), (1, _), (0, _)]) rfl (by decide) rfl rfl ?_
                                  refine ar_goto (k := 50) rfl ?_
                                  exfalso; omega
                                · refine ar_iloadn (k := 32) rfl rfl ?_
                                  refine ar_if_le (k := 33) rfl (by omega) (fun c33 => ?_) (fun c33 => ?_)
                                  · refine ar_iloadn (k := 51) rfl rfl ?_
                                    refine ar_iret (k := 52) rfl rfl rfl (Nat.le_refl _) ?_
                                    first
                                      | (exfalso; omega)
                                      | (rw [show pFig (tpe s) e (p, true, o) = (0, p, true, o) by rw [pFig]; rw [if_pos (by simp <;> omega)]]; exact ⟨congrArg (fun z => some (vi z)) (by show (_ : Int) = _; omega), I48, rfl, pH.cp hk48 (by omega)⟩)
                                  · refine ar_bipush (k := 34) rfl (by decide) ?_
                                    refine ar_iloadn (k := 35) rfl rfl ?_
                                    refine ar_imul (k := 36) rfl ?_
                                    refine ar_aloadn (k := 37) rfl rfl ?_
                                    refine br_callV (k := 38) (as := []) rfl lvR_52 (hS.k (by decide)) rfl (c_R_here (p := ((p + 1) + 1)) hS hB hk48 (by (constructor <;> (dsimp only; omega))) rfl) rfl (by decide) (by decide) tw_m0 (Nat.le_of_ble_eq_true rfl) ?_
                                    refine ar_iadd (k := 39) rfl ?_
                                    refine ar_bipush (k := 40) rfl (by decide) ?_
                                    refine ar_isub (k := 41) rfl ?_
                                    refine ar_istoren (k := 42) (l2 := [(1, _), (2, _), (0, _)]) rfl (by decide) rfl ?_
                                    refine ar_aloadn (k := 43) rfl rfl ?_
                                    refine ar_dup (k := 44) rfl rfl ?_
                                    refine br_getI (k := 45) rfl (hS.k (by decide)) flR_42_12 (by decide) rfl ?_
                                    refine tw_top (y := ((p + 1) + 1)) (by exact hk48.2.2.1) ?_
                                    refine ar_iconst (k := 46) rfl ?_
                                    refine ar_iadd (k := 47) rfl ?_
                                    refine br_putIJ (k := 48) rfl (hS.k (by decide)) flR_42_12 (by decide) rfl (fun _ _ _ q => by cases q; exact ⟨rfl, rfl⟩) (fun I48 e48 => ?_)
                                    change _ = uI _ 69 5 _ at e48
                                    have hk48 := pH.p5 hk48 e48 (y := ((p + 1) + 1) + 1) (by rfl)
                                    refine ar_iinc (k := 49) (l2 := [(2, _), (1, _), (0, _)]) rfl (by decide) rfl rfl ?_
                                    refine ar_goto (k := 50) rfl ?_
                                    exfalso; omega
theorem c_R_figures_f (hS : tSt (K, J, Q, n)) (hB : pB s a e) (hk : pH I J s a e op (p, false, o)) (p1 : 0 ≤ p ∧ p ≤ e) : tw_M l G 2 0 0 mR_figures [vr (some 69)] (K, J, Q, n) (fun r h' => r = some (vi (pFig (tpe s) e (p, false, o)).1) ∧ ∃ L, h' = (K, L, Q, n) ∧ pH I L s a e op ((pFig (tpe s) e (p, false, o)).2)) := by
  have hh0 := pHere_bd hB p1.1
  have hh1 := pHere_bd (p := p + 1) hB (by omega)
  have hh2 := pHere_bd (p := p + 1 + 1) hB (by omega)
  refine tw_intro okR_figures (Nat.le_of_ble_eq_true rfl) ?_
  refine ar_aloadn (k := 0) rfl rfl ?_
  refine ar_aloadn (k := 1) rfl rfl ?_
  refine br_getI (k := 2) rfl (hS.k (by decide)) flR_48_12 (by decide) rfl ?_
  refine tw_top (y := 0) (by exact hk.2.2.2.2.1) ?_
  refine ar_if_ne (k := 3) rfl (by omega) (fun c3 => ?_) (fun c3 => ?_)
  · refine ar_iconst (k := 10) rfl ?_
    refine ar_goto (k := 11) rfl ?_
    refine br_putZJ (k := 13) rfl (hS.k (by decide)) flR_48_12 (by decide) rfl (by omega) (fun _ _ _ q => by cases q; exact ⟨rfl, rfl⟩) (fun I13 e13 => ?_)
    change _ = uI _ 69 7 _ at e13
    have hk13 := pH.w7 hk e13 (y := true) (by rfl)
    refine ar_iconst (k := 14) rfl ?_
    refine ar_istoren (k := 15) (l2 := [(1, _), (0, _)]) rfl (by decide) rfl ?_
    refine ar_iconst (k := 16) rfl ?_
    refine ar_istoren (k := 17) (l2 := [(2, _), (1, _), (0, _)]) rfl (by decide) rfl ?_
    refine ar_iloadn (k := 18) rfl rfl ?_
    refine ar_iconst (k := 19) rfl ?_
    refine ar_icmp_ge (k := 20) rfl (by omega) (by omega) (fun c20 => ?_) (fun c20 => ?_)
    · refine ar_iloadn (k := 51) rfl rfl ?_
      refine ar_iret (k := 52) rfl rfl rfl (Nat.le_refl _) ?_
      first
        | (exfalso; omega)
        | (rw [show pFig (tpe s) e (p, false, o) = (0, p, true, o) by rw [pFig]; rw [if_pos (by simp <;> omega)]]; exact ⟨congrArg (fun z => some (vi z)) (by show (_ : Int) = _; omega), I13, rfl, pH.cp hk13 (by omega)⟩)
        | (rw [show pFig (tpe s) e (p, false, o) = (pHere (tpe s) e p - 48, p + 1, false, o) by rw [pFig]; rw [if_neg (by simp <;> omega), if_neg (by simp only []; omega)]]; exact ⟨congrArg (fun z => some (vi z)) (by show (_ : Int) = _; omega), I13, rfl, pH.cp hk13 (by omega)⟩)
        | (rw [show pFig (tpe s) e (p, false, o) = (10 * (pHere (tpe s) e p - 48) + pHere (tpe s) e (p + 1) - 48, p + 2, false, o) by rw [pFig]; rw [if_neg (by simp <;> omega), if_pos (by simp only []; omega)]]; exact ⟨congrArg (fun z => some (vi z)) (by show (_ : Int) = _; omega), I13, rfl, pH.cp hk13 (by omega)⟩)
    · refine ar_aloadn (k := 21) rfl rfl ?_
      refine br_getI (k := 22) rfl (hS.k (by decide)) flR_48_12 (by decide) rfl ?_
      refine tw_top (y := 1) (by exact hk13.2.2.2.2.1) ?_
      refine ar_if_ne (k := 23) rfl (by omega) (fun c23 => ?_) (fun c23 => ?_)
      · refine ar_iloadn (k := 51) rfl rfl ?_
        refine ar_iret (k := 52) rfl rfl rfl (Nat.le_refl _) ?_
        first
          | (exfalso; omega)
          | (rw [show pFig (tpe s) e (p, false, o) = (0, p, true, o) by rw [pFig]; rw [if_pos (by simp <;> omega)]]; exact ⟨congrArg (fun z => some (vi z)) (by show (_ : Int) = _; omega), I13, rfl, pH.cp hk13 (by omega)⟩)
          | (rw [show pFig (tpe s) e (p, false, o) = (pHere (tpe s) e p - 48, p + 1, false, o) by rw [pFig]; rw [if_neg (by simp <;> omega), if_neg (by simp only []; omega)]]; exact ⟨congrArg (fun z => some (vi z)) (by show (_ : Int) = _; omega), I13, rfl, pH.cp hk13 (by omega)⟩)
          | (rw [show pFig (tpe s) e (p, false, o) = (10 * (pHere (tpe s) e p - 48) + pHere (tpe s) e (p + 1) - 48, p + 2, false, o) by rw [pFig]; rw [if_neg (by simp <;> omega), if_pos (by simp only []; omega)]]; exact ⟨congrArg (fun z => some (vi z)) (by show (_ : Int) = _; omega), I13, rfl, pH.cp hk13 (by omega)⟩)
      · refine ar_aloadn (k := 24) rfl rfl ?_
        refine br_callV (k := 25) (as := []) rfl lvR_52 (hS.k (by decide)) rfl (c_R_here (p := p) hS hB hk13 (by (constructor <;> (dsimp only; omega))) rfl) rfl (by decide) (by decide) tw_m0 (Nat.le_of_ble_eq_true rfl) ?_
        refine ar_bipush (k := 26) rfl (by decide) ?_
        refine ar_bipush (k := 27) rfl (by decide) ?_
        refine br_callS (k := 28) (as := [_, _, _]) rfl lsR_38 (c_R_in (by omega) (by omega) (by omega)) rfl (by decide) (by decide) tw_m0 (Nat.le_of_ble_eq_true rfl) ?_
        refine ar_if_eq (k := 29) rfl (by omega) (fun c29 => ?_) (fun c29 => ?_)
        · refine ar_iloadn (k := 51) rfl rfl ?_
          refine ar_iret (k := 52) rfl rfl rfl (Nat.le_refl _) ?_
          first
            | (exfalso; omega)
            | (rw [show pFig (tpe s) e (p, false, o) = (0, p, true, o) by rw [pFig]; rw [if_pos (by simp <;> omega)]]; exact ⟨congrArg (fun z => some (vi z)) (by show (_ : Int) = _; omega), I13, rfl, pH.cp hk13 (by omega)⟩)
            | (rw [show pFig (tpe s) e (p, false, o) = (pHere (tpe s) e p - 48, p + 1, false, o) by rw [pFig]; rw [if_neg (by simp <;> omega), if_neg (by simp only []; omega)]]; exact ⟨congrArg (fun z => some (vi z)) (by show (_ : Int) = _; omega), I13, rfl, pH.cp hk13 (by omega)⟩)
            | (rw [show pFig (tpe s) e (p, false, o) = (10 * (pHere (tpe s) e p - 48) + pHere (tpe s) e (p + 1) - 48, p + 2, false, o) by rw [pFig]; rw [if_neg (by simp <;> omega), if_pos (by simp only []; omega)]]; exact ⟨congrArg (fun z => some (vi z)) (by show (_ : Int) = _; omega), I13, rfl, pH.cp hk13 (by omega)⟩)
        · refine ar_iloadn (k := 30) rfl rfl ?_
          refine ar_if_eq (k := 31) rfl (by omega) (fun c31 => ?_) (fun c31 => ?_)
          · refine ar_bipush (k := 34) rfl (by decide) ?_
            refine ar_iloadn (k := 35) rfl rfl ?_
            refine ar_imul (k := 36) rfl ?_
            refine ar_aloadn (k := 37) rfl rfl ?_
            refine br_callV (k := 38) (as := []) rfl lvR_52 (hS.k (by decide)) rfl (c_R_here (p := p) hS hB hk13 (by (constructor <;> (dsimp only; omega))) rfl) rfl (by decide) (by decide) tw_m0 (Nat.le_of_ble_eq_true rfl) ?_
            refine ar_iadd (k := 39) rfl ?_
            refine ar_bipush (k := 40) rfl (by decide) ?_
            refine ar_isub (k := 41) rfl ?_
            refine ar_istoren (k := 42) (l2 := [(1, _), (2, _), (0, _)]) rfl (by decide) rfl ?_
            refine ar_aloadn (k := 43) rfl rfl ?_
            refine ar_dup (k := 44) rfl rfl ?_
            refine br_getI (k := 45) rfl (hS.k (by decide)) flR_42_12 (by decide) rfl ?_
            refine tw_top (y := p) (by exact hk13.2.2.1) ?_
            refine ar_iconst (k := 46) rfl ?_
            refine ar_iadd (k := 47) rfl ?_
            refine br_putIJ (k := 48) rfl (hS.k (by decide)) flR_42_12 (by decide) rfl (fun _ _ _ q => by cases q; exact ⟨rfl, rfl⟩) (fun I48 e48 => ?_)
            change _ = uI _ 69 5 _ at e48
            have hk48 := pH.p5 hk13 e48 (y := p + 1) (by rfl)
            refine ar_iinc (k := 49) (l2 := [(2, _), (1, _), (0, _)]) rfl (by decide) rfl rfl ?_
            refine ar_goto (k := 50) rfl ?_
            refine ar_iloadn (k := 18) rfl rfl ?_
            refine ar_iconst (k := 19) rfl ?_
            refine ar_icmp_ge (k := 20) rfl (by omega) (by omega) (fun c20 => ?_) (fun c20 => ?_)
            · refine ar_iloadn (k := 51) rfl rfl ?_
              refine ar_iret (k := 52) rfl rfl rfl (Nat.le_refl _) ?_
              first
                | (exfalso; omega)
                | (rw [show pFig (tpe s) e (p, false, o) = (0, p, true, o) by rw [pFig]; rw [if_pos (by simp <;> omega)]]; exact ⟨congrArg (fun z => some (vi z)) (by show (_ : Int) = _; omega), I48, rfl, pH.cp hk48 (by omega)⟩)
                | (rw [show pFig (tpe s) e (p, false, o) = (pHere (tpe s) e p - 48, p + 1, false, o) by rw [pFig]; rw [if_neg (by simp <;> omega), if_neg (by simp only []; omega)]]; exact ⟨congrArg (fun z => some (vi z)) (by show (_ : Int) = _; omega), I48, rfl, pH.cp hk48 (by omega)⟩)
                | (rw [show pFig (tpe s) e (p, false, o) = (10 * (pHere (tpe s) e p - 48) + pHere (tpe s) e (p + 1) - 48, p + 2, false, o) by rw [pFig]; rw [if_neg (by simp <;> omega), if_pos (by simp only []; omega)]]; exact ⟨congrArg (fun z => some (vi z)) (by show (_ : Int) = _; omega), I48, rfl, pH.cp hk48 (by omega)⟩)
            · refine ar_aloadn (k := 21) rfl rfl ?_
              refine br_getI (k := 22) rfl (hS.k (by decide)) flR_48_12 (by decide) rfl ?_
              refine tw_top (y := 1) (by exact hk48.2.2.2.2.1) ?_
              refine ar_if_ne (k := 23) rfl (by omega) (fun c23 => ?_) (fun c23 => ?_)
              · refine ar_iloadn (k := 51) rfl rfl ?_
                refine ar_iret (k := 52) rfl rfl rfl (Nat.le_refl _) ?_
                first
                  | (exfalso; omega)
                  | (rw [show pFig (tpe s) e (p, false, o) = (0, p, true, o) by rw [pFig]; rw [if_pos (by simp <;> omega)]]; exact ⟨congrArg (fun z => some (vi z)) (by show (_ : Int) = _; omega), I48, rfl, pH.cp hk48 (by omega)⟩)
                  | (rw [show pFig (tpe s) e (p, false, o) = (pHere (tpe s) e p - 48, p + 1, false, o) by rw [pFig]; rw [if_neg (by simp <;> omega), if_neg (by simp only []; omega)]]; exact ⟨congrArg (fun z => some (vi z)) (by show (_ : Int) = _; omega), I48, rfl, pH.cp hk48 (by omega)⟩)
                  | (rw [show pFig (tpe s) e (p, false, o) = (10 * (pHere (tpe s) e p - 48) + pHere (tpe s) e (p + 1) - 48, p + 2, false, o) by rw [pFig]; rw [if_neg (by simp <;> omega), if_pos (by simp only []; omega)]]; exact ⟨congrArg (fun z => some (vi z)) (by show (_ : Int) = _; omega), I48, rfl, pH.cp hk48 (by omega)⟩)
              · refine ar_aloadn (k := 24) rfl rfl ?_
                refine br_callV (k := 25) (as := []) rfl lvR_52 (hS.k (by decide)) rfl (c_R_here (p := (p + 1)) hS hB hk48 (by (constructor <;> (dsimp only; omega))) rfl) rfl (by decide) (by decide) tw_m0 (Nat.le_of_ble_eq_true rfl) ?_
                refine ar_bipush (k := 26) rfl (by decide) ?_
                refine ar_bipush (k := 27) rfl (by decide) ?_
                refine br_callS (k := 28) (as := [_, _, _]) rfl lsR_38 (c_R_in (by omega) (by omega) (by omega)) rfl (by decide) (by decide) tw_m0 (Nat.le_of_ble_eq_true rfl) ?_
                refine ar_if_eq (k := 29) rfl (by omega) (fun c29 => ?_) (fun c29 => ?_)
                · refine ar_iloadn (k := 51) rfl rfl ?_
                  refine ar_iret (k := 52) rfl rfl rfl (Nat.le_refl _) ?_
                  first
                    | (exfalso; omega)
                    | (rw [show pFig (tpe s) e (p, false, o) = (0, p, true, o) by rw [pFig]; rw [if_pos (by simp <;> omega)]]; exact ⟨congrArg (fun z => some (vi z)) (by show (_ : Int) = _; omega), I48, rfl, pH.cp hk48 (by omega)⟩)
                    | (rw [show pFig (tpe s) e (p, false, o) = (pHere (tpe s) e p - 48, p + 1, false, o) by rw [pFig]; rw [if_neg (by simp <;> omega), if_neg (by simp only []; omega)]]; exact ⟨congrArg (fun z => some (vi z)) (by show (_ : Int) = _; omega), I48, rfl, pH.cp hk48 (by omega)⟩)
                    | (rw [show pFig (tpe s) e (p, false, o) = (10 * (pHere (tpe s) e p - 48) + pHere (tpe s) e (p + 1) - 48, p + 2, false, o) by rw [pFig]; rw [if_neg (by simp <;> omega), if_pos (by simp only []; omega)]]; exact ⟨congrArg (fun z => some (vi z)) (by show (_ : Int) = _; omega), I48, rfl, pH.cp hk48 (by omega)⟩)
                · refine ar_iloadn (k := 30) rfl rfl ?_
                  refine ar_if_eq (k := 31) rfl (by omega) (fun c31 => ?_) (fun c31 => ?_)
                  · refine ar_bipush (k := 34) rfl (by decide) ?_
                    refine ar_iloadn (k := 35) rfl rfl ?_
                    refine ar_imul (k := 36) rfl ?_
                    refine ar_aloadn (k := 37) rfl rfl ?_
                    refine br_callV (k := 38) (as := []) rfl lvR_52 (hS.k (by decide)) rfl (c_R_here (p := (p + 1)) hS hB hk48 (by (constructor <;> (dsimp only; omega))) rfl) rfl (by decide) (by decide) tw_m0 (Nat.le_of_ble_eq_true rfl) ?_
                    refine ar_iadd (k := 39) rfl ?_
                    refine ar_bipush (k := 40) rfl (by decide) ?_
                    refine ar_isub (k := 41) rfl ?_
                    refine ar_istoren (k := 42) (l2 := [(1, _), (2, _), (0, _)]) rfl (by decide) rfl ?_
                    refine ar_aloadn (k := 43) rfl rfl ?_
                    refine ar_dup (k := 44) rfl rfl ?_
                    refine br_getI (k := 45) rfl (hS.k (by decide)) flR_42_12 (by decide) rfl ?_
                    refine tw_top (y := (p + 1)) (by exact hk48.2.2.1) ?_
                    refine ar_iconst (k := 46) rfl ?_
                    refine ar_iadd (k := 47) rfl ?_
                    refine br_putIJ (k := 48) rfl (hS.k (by decide)) flR_42_12 (by decide) rfl (fun _ _ _ q => by cases q; exact ⟨rfl, rfl⟩) (fun I48 e48 => ?_)
                    change _ = uI _ 69 5 _ at e48
                    have hk48 := pH.p5 hk48 e48 (y := (p + 1) + 1) (by rfl)
                    refine ar_iinc (k := 49) (l2 := [(2, _), (1, _), (0, _)]) rfl (by decide) rfl rfl ?_
                    refine ar_goto (k := 50) rfl ?_
                    refine ar_iloadn (k := 18) rfl rfl ?_
                    refine ar_iconst (k := 19) rfl ?_
                    refine ar_icmp_ge (k := 20) rfl (by omega) (by omega) (fun c20 => ?_) (fun c20 => ?_)
                    · refine ar_iloadn (k := 51) rfl rfl ?_
                      refine ar_iret (k := 52) rfl rfl rfl (Nat.le_refl _) ?_
                      first
                        | (exfalso; omega)
                        | (rw [show pFig (tpe s) e (p, false, o) = (0, p, true, o) by rw [pFig]; rw [if_pos (by simp <;> omega)]]; exact ⟨congrArg (fun z => some (vi z)) (by show (_ : Int) = _; omega), I48, rfl, pH.cp hk48 (by omega)⟩)
                        | (rw [show pFig (tpe s) e (p, false, o) = (pHere (tpe s) e p - 48, p + 1, false, o) by rw [pFig]; rw [if_neg (by simp <;> omega), if_neg (by simp only []; omega)]]; exact ⟨congrArg (fun z => some (vi z)) (by show (_ : Int) = _; omega), I48, rfl, pH.cp hk48 (by omega)⟩)
                        | (rw [show pFig (tpe s) e (p, false, o) = (10 * (pHere (tpe s) e p - 48) + pHere (tpe s) e (p + 1) - 48, p + 2, false, o) by rw [pFig]; rw [if_neg (by simp <;> omega), if_pos (by simp only []; omega)]]; exact ⟨congrArg (fun z => some (vi z)) (by show (_ : Int) = _; omega), I48, rfl, pH.cp hk48 (by omega)⟩)
                    · refine ar_aloadn (k := 21) rfl rfl ?_
                      refine br_getI (k := 22) rfl (hS.k (by decide)) flR_48_12 (by decide) rfl ?_
                      refine tw_top (y := 1) (by exact hk48.2.2.2.2.1) ?_
                      refine ar_if_ne (k := 23) rfl (by omega) (fun c23 => ?_) (fun c23 => ?_)
                      · refine ar_iloadn (k := 51) rfl rfl ?_
                        refine ar_iret (k := 52) rfl rfl rfl (Nat.le_refl _) ?_
                        first
                          | (exfalso; omega)
                          | (rw [show pFig (tpe s) e (p, false, o) = (0, p, true, o) by rw [pFig]; rw [if_pos (by simp <;> omega)]]; exact ⟨congrArg (fun z => some (vi z)) (by show (_ : Int) = _; omega), I48, rfl, pH.cp hk48 (by omega)⟩)
                          | (rw [show pFig (tpe s) e (p, false, o) = (pHere (tpe s) e p - 48, p + 1, false, o) by rw [pFig]; rw [if_neg (by simp <;> omega), if_neg (by simp only []; omega)]]; exact ⟨congrArg (fun z => some (vi z)) (by show (_ : Int) = _; omega), I48, rfl, pH.cp hk48 (by omega)⟩)
                          | (rw [show pFig (tpe s) e (p, false, o) = (10 * (pHere (tpe s) e p - 48) + pHere (tpe s) e (p + 1) - 48, p + 2, false, o) by rw [pFig]; rw [if_neg (by simp <;> omega), if_pos (by simp only []; omega)]]; exact ⟨congrArg (fun z => some (vi z)) (by show (_ : Int) = _; omega), I48, rfl, pH.cp hk48 (by omega)⟩)
                      · refine ar_aloadn (k := 24) rfl rfl ?_
                        refine br_callV (k := 25) (as := []) rfl lvR_52 (hS.k (by decide)) rfl (c_R_here (p := ((p + 1) + 1)) hS hB hk48 (by (constructor <;> (dsimp only; omega))) rfl) rfl (by decide) (by decide) tw_m0 (Nat.le_of_ble_eq_true rfl) ?_
                        refine ar_bipush (k := 26) rfl (by decide) ?_
                        refine ar_bipush (k := 27) rfl (by decide) ?_
                        refine br_callS (k := 28) (as := [_, _, _]) rfl lsR_38 (c_R_in (by omega) (by omega) (by omega)) rfl (by decide) (by decide) tw_m0 (Nat.le_of_ble_eq_true rfl) ?_
                        refine ar_if_eq (k := 29) rfl (by omega) (fun c29 => ?_) (fun c29 => ?_)
                        · refine ar_iloadn (k := 51) rfl rfl ?_
                          refine ar_iret (k := 52) rfl rfl rfl (Nat.le_refl _) ?_
                          first
                            | (exfalso; omega)
                            | (rw [show pFig (tpe s) e (p, false, o) = (0, p, true, o) by rw [pFig]; rw [if_pos (by simp <;> omega)]]; exact ⟨congrArg (fun z => some (vi z)) (by show (_ : Int) = _; omega), I48, rfl, pH.cp hk48 (by omega)⟩)
                            | (rw [show pFig (tpe s) e (p, false, o) = (pHere (tpe s) e p - 48, p + 1, false, o) by rw [pFig]; rw [if_neg (by simp <;> omega), if_neg (by simp only []; omega)]]; exact ⟨congrArg (fun z => some (vi z)) (by show (_ : Int) = _; omega), I48, rfl, pH.cp hk48 (by omega)⟩)
                            | (rw [show pFig (tpe s) e (p, false, o) = (10 * (pHere (tpe s) e p - 48) + pHere (tpe s) e (p + 1) - 48, p + 2, false, o) by rw [pFig]; rw [if_neg (by simp <;> omega), if_pos (by simp only []; omega)]]; exact ⟨congrArg (fun z => some (vi z)) (by show (_ : Int) = _; omega), I48, rfl, pH.cp hk48 (by omega)⟩)
                        · refine ar_iloadn (k := 30) rfl rfl ?_
                          refine ar_if_eq (k := 31) rfl (by omega) (fun c31 => ?_) (fun c31 => ?_)
                          · refine ar_bipush (k := 34) rfl (by decide) ?_
                            refine ar_iloadn (k := 35) rfl rfl ?_
                            refine ar_imul (k := 36) rfl ?_
                            refine ar_aloadn (k := 37) rfl rfl ?_
                            refine br_callV (k := 38) (as := []) rfl lvR_52 (hS.k (by decide)) rfl (c_R_here (p := ((p + 1) + 1)) hS hB hk48 (by (constructor <;> (dsimp only; omega))) rfl) rfl (by decide) (by decide) tw_m0 (Nat.le_of_ble_eq_true rfl) ?_
                            refine ar_iadd (k := 39) rfl ?_
                            refine ar_bipush (k := 40) rfl (by decide) ?_
                            refine ar_isub (k := 41) rfl ?_
                            refine ar_istoren (k := 42) (l2 := [(1, _), (2, _), (0, _)]) rfl (by decide) rfl ?_
                            refine ar_aloadn (k := 43) rfl rfl ?_
                            refine ar_dup (k := 44) rfl rfl ?_
                            refine br_getI (k := 45) rfl (hS.k (by decide)) flR_42_12 (by decide) rfl ?_
                            refine tw_top (y := ((p + 1) + 1)) (by exact hk48.2.2.1) ?_
                            refine ar_iconst (k := 46) rfl ?_
                            refine ar_iadd (k := 47) rfl ?_
                            refine br_putIJ (k := 48) rfl (hS.k (by decide)) flR_42_12 (by decide) rfl (fun _ _ _ q => by cases q; exact ⟨rfl, rfl⟩) (fun I48 e48 => ?_)
                            change _ = uI _ 69 5 _ at e48
                            have hk48 := pH.p5 hk48 e48 (y := ((p + 1) + 1) + 1) (by rfl)
                            refine ar_iinc (k := 49) (l2 := [(2, _), (1, _), (0, _)]) rfl (by decide) rfl rfl ?_
                            refine ar_goto (k := 50) rfl ?_
                            exfalso; omega
                          · refine ar_iloadn (k := 32) rfl rfl ?_
                            refine ar_if_le (k := 33) rfl (by omega) (fun c33 => ?_) (fun c33 => ?_)
                            · refine ar_iloadn (k := 51) rfl rfl ?_
                              refine ar_iret (k := 52) rfl rfl rfl (Nat.le_refl _) ?_
                              first
                                | (exfalso; omega)
                                | (rw [show pFig (tpe s) e (p, false, o) = (0, p, true, o) by rw [pFig]; rw [if_pos (by simp <;> omega)]]; exact ⟨congrArg (fun z => some (vi z)) (by show (_ : Int) = _; omega), I48, rfl, pH.cp hk48 (by omega)⟩)
                                | (rw [show pFig (tpe s) e (p, false, o) = (pHere (tpe s) e p - 48, p + 1, false, o) by rw [pFig]; rw [if_neg (by simp <;> omega), if_neg (by simp only []; omega)]]; exact ⟨congrArg (fun z => some (vi z)) (by show (_ : Int) = _; omega), I48, rfl, pH.cp hk48 (by omega)⟩)
                                | (rw [show pFig (tpe s) e (p, false, o) = (10 * (pHere (tpe s) e p - 48) + pHere (tpe s) e (p + 1) - 48, p + 2, false, o) by rw [pFig]; rw [if_neg (by simp <;> omega), if_pos (by simp only []; omega)]]; exact ⟨congrArg (fun z => some (vi z)) (by show (_ : Int) = _; omega), I48, rfl, pH.cp hk48 (by omega)⟩)
                            · refine ar_bipush (k := 34) rfl (by decide) ?_
                              refine ar_iloadn (k := 35) rfl rfl ?_
                              refine ar_imul (k := 36) rfl ?_
                              refine ar_aloadn (k := 37) rfl rfl ?_
                              refine br_callV (k := 38) (as := []) rfl lvR_52 (hS.k (by decide)) rfl (c_R_here (p := ((p + 1) + 1)) hS hB hk48 (by (constructor <;> (dsimp only; omega))) rfl) rfl (by decide) (by decide) tw_m0 (Nat.le_of_ble_eq_true rfl) ?_
                              refine ar_iadd (k := 39) rfl ?_
                              refine ar_bipush (k := 40) rfl (by decide) ?_
                              refine ar_isub (k := 41) rfl ?_
                              refine ar_istoren (k := 42) (l2 := [(1, _), (2, _), (0, _)]) rfl (by decide) rfl ?_
                              refine ar_aloadn (k := 43) rfl rfl ?_
                              refine ar_dup (k := 44) rfl rfl ?_
                              refine br_getI (k := 45) rfl (hS.k (by decide)) flR_42_12 (by decide) rfl ?_
                              refine tw_top (y := ((p + 1) + 1)) (by exact hk48.2.2.1) ?_
                              refine ar_iconst (k := 46) rfl ?_
                              refine ar_iadd (k := 47) rfl ?_
                              refine br_putIJ (k := 48) rfl (hS.k (by decide)) flR_42_12 (by decide) rfl (fun _ _ _ q => by cases q; exact ⟨rfl, rfl⟩) (fun I48 e48 => ?_)
                              change _ = uI _ 69 5 _ at e48
                              have hk48 := pH.p5 hk48 e48 (y := ((p + 1) + 1) + 1) (by rfl)
                              refine ar_iinc (k := 49) (l2 := [(2, _), (1, _), (0, _)]) rfl (by decide) rfl rfl ?_
                              refine ar_goto (k := 50) rfl ?_
                              exfalso; omega
                  · refine ar_iloadn (k := 32) rfl rfl ?_
                    refine ar_if_le (k := 33) rfl (by omega) (fun c33 => ?_) (fun c33 => ?_)
                    · refine ar_iloadn (k := 51) rfl rfl ?_
                      refine ar_iret (k := 52) rfl rfl rfl (Nat.le_refl _) ?_
                      first
                        | (exfalso; omega)
                        | (rw [show pFig (tpe s) e (p, false, o) = (0, p, true, o) by rw [pFig]; rw [if_pos (by simp <;> omega)]]; exact ⟨congrArg (fun z => some (vi z)) (by show (_ : Int) = _; omega), I48, rfl, pH.cp hk48 (by omega)⟩)
                        | (rw [show pFig (tpe s) e (p, false, o) = (pHere (tpe s) e p - 48, p + 1, false, o) by rw [pFig]; rw [if_neg (by simp <;> omega), if_neg (by simp only []; omega)]]; exact ⟨congrArg (fun z => some (vi z)) (by show (_ : Int) = _; omega), I48, rfl, pH.cp hk48 (by omega)⟩)
                        | (rw [show pFig (tpe s) e (p, false, o) = (10 * (pHere (tpe s) e p - 48) + pHere (tpe s) e (p + 1) - 48, p + 2, false, o) by rw [pFig]; rw [if_neg (by simp <;> omega), if_pos (by simp only []; omega)]]; exact ⟨congrArg (fun z => some (vi z)) (by show (_ : Int) = _; omega), I48, rfl, pH.cp hk48 (by omega)⟩)
                    · refine ar_bipush (k := 34) rfl (by decide) ?_
                      refine ar_iloadn (k := 35) rfl rfl ?_
                      refine ar_imul (k := 36) rfl ?_
                      refine ar_aloadn (k := 37) rfl rfl ?_
                      refine br_callV (k := 38) (as := []) rfl lvR_52 (hS.k (by decide)) rfl (c_R_here (p := (p + 1)) hS hB hk48 (by (constructor <;> (dsimp only; omega))) rfl) rfl (by decide) (by decide) tw_m0 (Nat.le_of_ble_eq_true rfl) ?_
                      refine ar_iadd (k := 39) rfl ?_
                      refine ar_bipush (k := 40) rfl (by decide) ?_
                      refine ar_isub (k := 41) rfl ?_
                      refine ar_istoren (k := 42) (l2 := [(1, _), (2, _), (0, _)]) rfl (by decide) rfl ?_
                      refine ar_aloadn (k := 43) rfl rfl ?_
                      refine ar_dup (k := 44) rfl rfl ?_
                      refine br_getI (k := 45) rfl (hS.k (by decide)) flR_42_12 (by decide) rfl ?_
                      refine tw_top (y := (p + 1)) (by exact hk48.2.2.1) ?_
                      refine ar_iconst (k := 46) rfl ?_
                      refine ar_iadd (k := 47) rfl ?_
                      refine br_putIJ (k := 48) rfl (hS.k (by decide)) flR_42_12 (by decide) rfl (fun _ _ _ q => by cases q; exact ⟨rfl, rfl⟩) (fun I48 e48 => ?_)
                      change _ = uI _ 69 5 _ at e48
                      have hk48 := pH.p5 hk48 e48 (y := (p + 1) + 1) (by rfl)
                      refine ar_iinc (k := 49) (l2 := [(2, _), (1, _), (0, _)]) rfl (by decide) rfl rfl ?_
                      refine ar_goto (k := 50) rfl ?_
                      refine ar_iloadn (k := 18) rfl rfl ?_
                      refine ar_iconst (k := 19) rfl ?_
                      refine ar_icmp_ge (k := 20) rfl (by omega) (by omega) (fun c20 => ?_) (fun c20 => ?_)
                      · refine ar_iloadn (k := 51) rfl rfl ?_
                        refine ar_iret (k := 52) rfl rfl rfl (Nat.le_refl _) ?_
                        first
                          | (exfalso; omega)
                          | (rw [show pFig (tpe s) e (p, false, o) = (0, p, true, o) by rw [pFig]; rw [if_pos (by simp <;> omega)]]; exact ⟨congrArg (fun z => some (vi z)) (by show (_ : Int) = _; omega), I48, rfl, pH.cp hk48 (by omega)⟩)
                          | (rw [show pFig (tpe s) e (p, false, o) = (pHere (tpe s) e p - 48, p + 1, false, o) by rw [pFig]; rw [if_neg (by simp <;> omega), if_neg (by simp only []; omega)]]; exact ⟨congrArg (fun z => some (vi z)) (by show (_ : Int) = _; omega), I48, rfl, pH.cp hk48 (by omega)⟩)
                          | (rw [show pFig (tpe s) e (p, false, o) = (10 * (pHere (tpe s) e p - 48) + pHere (tpe s) e (p + 1) - 48, p + 2, false, o) by rw [pFig]; rw [if_neg (by simp <;> omega), if_pos (by simp only []; omega)]]; exact ⟨congrArg (fun z => some (vi z)) (by show (_ : Int) = _; omega), I48, rfl, pH.cp hk48 (by omega)⟩)
                      · refine ar_aloadn (k := 21) rfl rfl ?_
                        refine br_getI (k := 22) rfl (hS.k (by decide)) flR_48_12 (by decide) rfl ?_
                        refine tw_top (y := 1) (by exact hk48.2.2.2.2.1) ?_
                        refine ar_if_ne (k := 23) rfl (by omega) (fun c23 => ?_) (fun c23 => ?_)
                        · refine ar_iloadn (k := 51) rfl rfl ?_
                          refine ar_iret (k := 52) rfl rfl rfl (Nat.le_refl _) ?_
                          first
                            | (exfalso; omega)
                            | (rw [show pFig (tpe s) e (p, false, o) = (0, p, true, o) by rw [pFig]; rw [if_pos (by simp <;> omega)]]; exact ⟨congrArg (fun z => some (vi z)) (by show (_ : Int) = _; omega), I48, rfl, pH.cp hk48 (by omega)⟩)
                            | (rw [show pFig (tpe s) e (p, false, o) = (pHere (tpe s) e p - 48, p + 1, false, o) by rw [pFig]; rw [if_neg (by simp <;> omega), if_neg (by simp only []; omega)]]; exact ⟨congrArg (fun z => some (vi z)) (by show (_ : Int) = _; omega), I48, rfl, pH.cp hk48 (by omega)⟩)
                            | (rw [show pFig (tpe s) e (p, false, o) = (10 * (pHere (tpe s) e p - 48) + pHere (tpe s) e (p + 1) - 48, p + 2, false, o) by rw [pFig]; rw [if_neg (by simp <;> omega), if_pos (by simp only []; omega)]]; exact ⟨congrArg (fun z => some (vi z)) (by show (_ : Int) = _; omega), I48, rfl, pH.cp hk48 (by omega)⟩)
                        · refine ar_aloadn (k := 24) rfl rfl ?_
                          refine br_callV (k := 25) (as := []) rfl lvR_52 (hS.k (by decide)) rfl (c_R_here (p := ((p + 1) + 1)) hS hB hk48 (by (constructor <;> (dsimp only; omega))) rfl) rfl (by decide) (by decide) tw_m0 (Nat.le_of_ble_eq_true rfl) ?_
                          refine ar_bipush (k := 26) rfl (by decide) ?_
                          refine ar_bipush (k := 27) rfl (by decide) ?_
                          refine br_callS (k := 28) (as := [_, _, _]) rfl lsR_38 (c_R_in (by omega) (by omega) (by omega)) rfl (by decide) (by decide) tw_m0 (Nat.le_of_ble_eq_true rfl) ?_
                          refine ar_if_eq (k := 29) rfl (by omega) (fun c29 => ?_) (fun c29 => ?_)
                          · refine ar_iloadn (k := 51) rfl rfl ?_
                            refine ar_iret (k := 52) rfl rfl rfl (Nat.le_refl _) ?_
                            first
                              | (exfalso; omega)
                              | (rw [show pFig (tpe s) e (p, false, o) = (0, p, true, o) by rw [pFig]; rw [if_pos (by simp <;> omega)]]; exact ⟨congrArg (fun z => some (vi z)) (by show (_ : Int) = _; omega), I48, rfl, pH.cp hk48 (by omega)⟩)
                              | (rw [show pFig (tpe s) e (p, false, o) = (pHere (tpe s) e p - 48, p + 1, false, o) by rw [pFig]; rw [if_neg (by simp <;> omega), if_neg (by simp only []; omega)]]; exact ⟨congrArg (fun z => some (vi z)) (by show (_ : Int) = _; omega), I48, rfl, pH.cp hk48 (by omega)⟩)
                              | (rw [show pFig (tpe s) e (p, false, o) = (10 * (pHere (tpe s) e p - 48) + pHere (tpe s) e (p + 1) - 48, p + 2, false, o) by rw [pFig]; rw [if_neg (by simp <;> omega), if_pos (by simp only []; omega)]]; exact ⟨congrArg (fun z => some (vi z)) (by show (_ : Int) = _; omega), I48, rfl, pH.cp hk48 (by omega)⟩)
                          · refine ar_iloadn (k := 30) rfl rfl ?_
                            refine ar_if_eq (k := 31) rfl (by omega) (fun c31 => ?_) (fun c31 => ?_)
                            · refine ar_bipush (k := 34) rfl (by decide) ?_
                              refine ar_iloadn (k := 35) rfl rfl ?_
                              refine ar_imul (k := 36) rfl ?_
                              refine ar_aloadn (k := 37) rfl rfl ?_
                              refine br_callV (k := 38) (as := []) rfl lvR_52 (hS.k (by decide)) rfl (c_R_here (p := ((p + 1) + 1)) hS hB hk48 (by (constructor <;> (dsimp only; omega))) rfl) rfl (by decide) (by decide) tw_m0 (Nat.le_of_ble_eq_true rfl) ?_
                              refine ar_iadd (k := 39) rfl ?_
                              refine ar_bipush (k := 40) rfl (by decide) ?_
                              refine ar_isub (k := 41) rfl ?_
                              refine ar_istoren (k := 42) (l2 := [(1, _), (2, _), (0, _)]) rfl (by decide) rfl ?_
                              refine ar_aloadn (k := 43) rfl rfl ?_
                              refine ar_dup (k := 44) rfl rfl ?_
                              refine br_getI (k := 45) rfl (hS.k (by decide)) flR_42_12 (by decide) rfl ?_
                              refine tw_top (y := ((p + 1) + 1)) (by exact hk48.2.2.1) ?_
                              refine ar_iconst (k := 46) rfl ?_
                              refine ar_iadd (k := 47) rfl ?_
                              refine br_putIJ (k := 48) rfl (hS.k (by decide)) flR_42_12 (by decide) rfl (fun _ _ _ q => by cases q; exact ⟨rfl, rfl⟩) (fun I48 e48 => ?_)
                              change _ = uI _ 69 5 _ at e48
                              have hk48 := pH.p5 hk48 e48 (y := ((p + 1) + 1) + 1) (by rfl)
                              refine ar_iinc (k := 49) (l2 := [(2, _), (1, _), (0, _)]) rfl (by decide) rfl rfl ?_
                              refine ar_goto (k := 50) rfl ?_
                              exfalso; omega
                            · refine ar_iloadn (k := 32) rfl rfl ?_
                              refine ar_if_le (k := 33) rfl (by omega) (fun c33 => ?_) (fun c33 => ?_)
                              · refine ar_iloadn (k := 51) rfl rfl ?_
                                refine ar_iret (k := 52) rfl rfl rfl (Nat.le_refl _) ?_
                                first
                                  | (exfalso; omega)
                                  | (rw [show pFig (tpe s) e (p, false, o) = (0, p, true, o) by rw [pFig]; rw [if_pos (by simp <;> omega)]]; exact ⟨congrArg (fun z => some (vi z)) (by show (_ : Int) = _; omega), I48, rfl, pH.cp hk48 (by omega)⟩)
                                  | (rw [show pFig (tpe s) e (p, false, o) = (pHere (tpe s) e p - 48, p + 1, false, o) by rw [pFig]; rw [if_neg (by simp <;> omega), if_neg (by simp only []; omega)]]; exact ⟨congrArg (fun z => some (vi z)) (by show (_ : Int) = _; omega), I48, rfl, pH.cp hk48 (by omega)⟩)
                                  | (rw [show pFig (tpe s) e (p, false, o) = (10 * (pHere (tpe s) e p - 48) + pHere (tpe s) e (p + 1) - 48, p + 2, false, o) by rw [pFig]; rw [if_neg (by simp <;> omega), if_pos (by simp only []; omega)]]; exact ⟨congrArg (fun z => some (vi z)) (by show (_ : Int) = _; omega), I48, rfl, pH.cp hk48 (by omega)⟩)
                              · refine ar_bipush (k := 34) rfl (by decide) ?_
                                refine ar_iloadn (k := 35) rfl rfl ?_
                                refine ar_imul (k := 36) rfl ?_
                                refine ar_aloadn (k := 37) rfl rfl ?_
                                refine br_callV (k := 38) (as := []) rfl lvR_52 (hS.k (by decide)) rfl (c_R_here (p := ((p + 1) + 1)) hS hB hk48 (by (constructor <;> (dsimp only; omega))) rfl) rfl (by decide) (by decide) tw_m0 (Nat.le_of_ble_eq_true rfl) ?_
                                refine ar_iadd (k := 39) rfl ?_
                                refine ar_bipush (k := 40) rfl (by decide) ?_
                                refine ar_isub (k := 41) rfl ?_
                                refine ar_istoren (k := 42) (l2 := [(1, _), (2, _), (0, _)]) rfl (by decide) rfl ?_
                                refine ar_aloadn (k := 43) rfl rfl ?_
                                refine ar_dup (k := 44) rfl rfl ?_
                                refine br_getI (k := 45) rfl (hS.k (by decide)) flR_42_12 (by decide) rfl ?_
                                refine tw_top (y := ((p + 1) + 1)) (by exact hk48.2.2.1) ?_
                                refine ar_iconst (k := 46) rfl ?_
                                refine ar_iadd (k := 47) rfl ?_
                                refine br_putIJ (k := 48) rfl (hS.k (by decide)) flR_42_12 (by decide) rfl (fun _ _ _ q => by cases q; exact ⟨rfl, rfl⟩) (fun I48 e48 => ?_)
                                change _ = uI _ 69 5 _ at e48
                                have hk48 := pH.p5 hk48 e48 (y := ((p + 1) + 1) + 1) (by rfl)
                                refine ar_iinc (k := 49) (l2 := [(2, _), (1, _), (0, _)]) rfl (by decide) rfl rfl ?_
                                refine ar_goto (k := 50) rfl ?_
                                exfalso; omega
          · refine ar_iloadn (k := 32) rfl rfl ?_
            refine ar_if_le (k := 33) rfl (by omega) (fun c33 => ?_) (fun c33 => ?_)
            · refine ar_iloadn (k := 51) rfl rfl ?_
              refine ar_iret (k := 52) rfl rfl rfl (Nat.le_refl _) ?_
              first
                | (exfalso; omega)
                | (rw [show pFig (tpe s) e (p, false, o) = (0, p, true, o) by rw [pFig]; rw [if_pos (by simp <;> omega)]]; exact ⟨congrArg (fun z => some (vi z)) (by show (_ : Int) = _; omega), I13, rfl, pH.cp hk13 (by omega)⟩)
                | (rw [show pFig (tpe s) e (p, false, o) = (pHere (tpe s) e p - 48, p + 1, false, o) by rw [pFig]; rw [if_neg (by simp <;> omega), if_neg (by simp only []; omega)]]; exact ⟨congrArg (fun z => some (vi z)) (by show (_ : Int) = _; omega), I13, rfl, pH.cp hk13 (by omega)⟩)
                | (rw [show pFig (tpe s) e (p, false, o) = (10 * (pHere (tpe s) e p - 48) + pHere (tpe s) e (p + 1) - 48, p + 2, false, o) by rw [pFig]; rw [if_neg (by simp <;> omega), if_pos (by simp only []; omega)]]; exact ⟨congrArg (fun z => some (vi z)) (by show (_ : Int) = _; omega), I13, rfl, pH.cp hk13 (by omega)⟩)
            · refine ar_bipush (k := 34) rfl (by decide) ?_
              refine ar_iloadn (k := 35) rfl rfl ?_
              refine ar_imul (k := 36) rfl ?_
              refine ar_aloadn (k := 37) rfl rfl ?_
              refine br_callV (k := 38) (as := []) rfl lvR_52 (hS.k (by decide)) rfl (c_R_here (p := p) hS hB hk13 (by (constructor <;> (dsimp only; omega))) rfl) rfl (by decide) (by decide) tw_m0 (Nat.le_of_ble_eq_true rfl) ?_
              refine ar_iadd (k := 39) rfl ?_
              refine ar_bipush (k := 40) rfl (by decide) ?_
              refine ar_isub (k := 41) rfl ?_
              refine ar_istoren (k := 42) (l2 := [(1, _), (2, _), (0, _)]) rfl (by decide) rfl ?_
              refine ar_aloadn (k := 43) rfl rfl ?_
              refine ar_dup (k := 44) rfl rfl ?_
              refine br_getI (k := 45) rfl (hS.k (by decide)) flR_42_12 (by decide) rfl ?_
              refine tw_top (y := p) (by exact hk13.2.2.1) ?_
              refine ar_iconst (k := 46) rfl ?_
              refine ar_iadd (k := 47) rfl ?_
              refine br_putIJ (k := 48) rfl (hS.k (by decide)) flR_42_12 (by decide) rfl (fun _ _ _ q => by cases q; exact ⟨rfl, rfl⟩) (fun I48 e48 => ?_)
              change _ = uI _ 69 5 _ at e48
              have hk48 := pH.p5 hk13 e48 (y := p + 1) (by rfl)
              refine ar_iinc (k := 49) (l2 := [(2, _), (1, _), (0, _)]) rfl (by decide) rfl rfl ?_
              refine ar_goto (k := 50) rfl ?_
              refine ar_iloadn (k := 18) rfl rfl ?_
              refine ar_iconst (k := 19) rfl ?_
              refine ar_icmp_ge (k := 20) rfl (by omega) (by omega) (fun c20 => ?_) (fun c20 => ?_)
              · refine ar_iloadn (k := 51) rfl rfl ?_
                refine ar_iret (k := 52) rfl rfl rfl (Nat.le_refl _) ?_
                first
                  | (exfalso; omega)
                  | (rw [show pFig (tpe s) e (p, false, o) = (0, p, true, o) by rw [pFig]; rw [if_pos (by simp <;> omega)]]; exact ⟨congrArg (fun z => some (vi z)) (by show (_ : Int) = _; omega), I48, rfl, pH.cp hk48 (by omega)⟩)
                  | (rw [show pFig (tpe s) e (p, false, o) = (pHere (tpe s) e p - 48, p + 1, false, o) by rw [pFig]; rw [if_neg (by simp <;> omega), if_neg (by simp only []; omega)]]; exact ⟨congrArg (fun z => some (vi z)) (by show (_ : Int) = _; omega), I48, rfl, pH.cp hk48 (by omega)⟩)
                  | (rw [show pFig (tpe s) e (p, false, o) = (10 * (pHere (tpe s) e p - 48) + pHere (tpe s) e (p + 1) - 48, p + 2, false, o) by rw [pFig]; rw [if_neg (by simp <;> omega), if_pos (by simp only []; omega)]]; exact ⟨congrArg (fun z => some (vi z)) (by show (_ : Int) = _; omega), I48, rfl, pH.cp hk48 (by omega)⟩)
              · refine ar_aloadn (k := 21) rfl rfl ?_
                refine br_getI (k := 22) rfl (hS.k (by decide)) flR_48_12 (by decide) rfl ?_
                refine tw_top (y := 1) (by exact hk48.2.2.2.2.1) ?_
                refine ar_if_ne (k := 23) rfl (by omega) (fun c23 => ?_) (fun c23 => ?_)
                · refine ar_iloadn (k := 51) rfl rfl ?_
                  refine ar_iret (k := 52) rfl rfl rfl (Nat.le_refl _) ?_
                  first
                    | (exfalso; omega)
                    | (rw [show pFig (tpe s) e (p, false, o) = (0, p, true, o) by rw [pFig]; rw [if_pos (by simp <;> omega)]]; exact ⟨congrArg (fun z => some (vi z)) (by show (_ : Int) = _; omega), I48, rfl, pH.cp hk48 (by omega)⟩)
                    | (rw [show pFig (tpe s) e (p, false, o) = (pHere (tpe s) e p - 48, p + 1, false, o) by rw [pFig]; rw [if_neg (by simp <;> omega), if_neg (by simp only []; omega)]]; exact ⟨congrArg (fun z => some (vi z)) (by show (_ : Int) = _; omega), I48, rfl, pH.cp hk48 (by omega)⟩)
                    | (rw [show pFig (tpe s) e (p, false, o) = (10 * (pHere (tpe s) e p - 48) + pHere (tpe s) e (p + 1) - 48, p + 2, false, o) by rw [pFig]; rw [if_neg (by simp <;> omega), if_pos (by simp only []; omega)]]; exact ⟨congrArg (fun z => some (vi z)) (by show (_ : Int) = _; omega), I48, rfl, pH.cp hk48 (by omega)⟩)
                · refine ar_aloadn (k := 24) rfl rfl ?_
                  refine br_callV (k := 25) (as := []) rfl lvR_52 (hS.k (by decide)) rfl (c_R_here (p := (p + 1)) hS hB hk48 (by (constructor <;> (dsimp only; omega))) rfl) rfl (by decide) (by decide) tw_m0 (Nat.le_of_ble_eq_true rfl) ?_
                  refine ar_bipush (k := 26) rfl (by decide) ?_
                  refine ar_bipush (k := 27) rfl (by decide) ?_
                  refine br_callS (k := 28) (as := [_, _, _]) rfl lsR_38 (c_R_in (by omega) (by omega) (by omega)) rfl (by decide) (by decide) tw_m0 (Nat.le_of_ble_eq_true rfl) ?_
                  refine ar_if_eq (k := 29) rfl (by omega) (fun c29 => ?_) (fun c29 => ?_)
                  · refine ar_iloadn (k := 51) rfl rfl ?_
                    refine ar_iret (k := 52) rfl rfl rfl (Nat.le_refl _) ?_
                    first
                      | (exfalso; omega)
                      | (rw [show pFig (tpe s) e (p, false, o) = (0, p, true, o) by rw [pFig]; rw [if_pos (by simp <;> omega)]]; exact ⟨congrArg (fun z => some (vi z)) (by show (_ : Int) = _; omega), I48, rfl, pH.cp hk48 (by omega)⟩)
                      | (rw [show pFig (tpe s) e (p, false, o) = (pHere (tpe s) e p - 48, p + 1, false, o) by rw [pFig]; rw [if_neg (by simp <;> omega), if_neg (by simp only []; omega)]]; exact ⟨congrArg (fun z => some (vi z)) (by show (_ : Int) = _; omega), I48, rfl, pH.cp hk48 (by omega)⟩)
                      | (rw [show pFig (tpe s) e (p, false, o) = (10 * (pHere (tpe s) e p - 48) + pHere (tpe s) e (p + 1) - 48, p + 2, false, o) by rw [pFig]; rw [if_neg (by simp <;> omega), if_pos (by simp only []; omega)]]; exact ⟨congrArg (fun z => some (vi z)) (by show (_ : Int) = _; omega), I48, rfl, pH.cp hk48 (by omega)⟩)
                  · refine ar_iloadn (k := 30) rfl rfl ?_
                    refine ar_if_eq (k := 31) rfl (by omega) (fun c31 => ?_) (fun c31 => ?_)
                    · refine ar_bipush (k := 34) rfl (by decide) ?_
                      refine ar_iloadn (k := 35) rfl rfl ?_
                      refine ar_imul (k := 36) rfl ?_
                      refine ar_aloadn (k := 37) rfl rfl ?_
                      refine br_callV (k := 38) (as := []) rfl lvR_52 (hS.k (by decide)) rfl (c_R_here (p := (p + 1)) hS hB hk48 (by (constructor <;> (dsimp only; omega))) rfl) rfl (by decide) (by decide) tw_m0 (Nat.le_of_ble_eq_true rfl) ?_
                      refine ar_iadd (k := 39) rfl ?_
                      refine ar_bipush (k := 40) rfl (by decide) ?_
                      refine ar_isub (k := 41) rfl ?_
                      refine ar_istoren (k := 42) (l2 := [(1, _), (2, _), (0, _)]) rfl (by decide) rfl ?_
                      refine ar_aloadn (k := 43) rfl rfl ?_
                      refine ar_dup (k := 44) rfl rfl ?_
                      refine br_getI (k := 45) rfl (hS.k (by decide)) flR_42_12 (by decide) rfl ?_
                      refine tw_top (y := (p + 1)) (by exact hk48.2.2.1) ?_
                      refine ar_iconst (k := 46) rfl ?_
                      refine ar_iadd (k := 47) rfl ?_
                      refine br_putIJ (k := 48) rfl (hS.k (by decide)) flR_42_12 (by decide) rfl (fun _ _ _ q => by cases q; exact ⟨rfl, rfl⟩) (fun I48 e48 => ?_)
                      change _ = uI _ 69 5 _ at e48
                      have hk48 := pH.p5 hk48 e48 (y := (p + 1) + 1) (by rfl)
                      refine ar_iinc (k := 49) (l2 := [(2, _), (1, _), (0, _)]) rfl (by decide) rfl rfl ?_
                      refine ar_goto (k := 50) rfl ?_
                      refine ar_iloadn (k := 18) rfl rfl ?_
                      refine ar_iconst (k := 19) rfl ?_
                      refine ar_icmp_ge (k := 20) rfl (by omega) (by omega) (fun c20 => ?_) (fun c20 => ?_)
                      · refine ar_iloadn (k := 51) rfl rfl ?_
                        refine ar_iret (k := 52) rfl rfl rfl (Nat.le_refl _) ?_
                        first
                          | (exfalso; omega)
                          | (rw [show pFig (tpe s) e (p, false, o) = (0, p, true, o) by rw [pFig]; rw [if_pos (by simp <;> omega)]]; exact ⟨congrArg (fun z => some (vi z)) (by show (_ : Int) = _; omega), I48, rfl, pH.cp hk48 (by omega)⟩)
                          | (rw [show pFig (tpe s) e (p, false, o) = (pHere (tpe s) e p - 48, p + 1, false, o) by rw [pFig]; rw [if_neg (by simp <;> omega), if_neg (by simp only []; omega)]]; exact ⟨congrArg (fun z => some (vi z)) (by show (_ : Int) = _; omega), I48, rfl, pH.cp hk48 (by omega)⟩)
                          | (rw [show pFig (tpe s) e (p, false, o) = (10 * (pHere (tpe s) e p - 48) + pHere (tpe s) e (p + 1) - 48, p + 2, false, o) by rw [pFig]; rw [if_neg (by simp <;> omega), if_pos (by simp only []; omega)]]; exact ⟨congrArg (fun z => some (vi z)) (by show (_ : Int) = _; omega), I48, rfl, pH.cp hk48 (by omega)⟩)
                      · refine ar_aloadn (k := 21) rfl rfl ?_
                        refine br_getI (k := 22) rfl (hS.k (by decide)) flR_48_12 (by decide) rfl ?_
                        refine tw_top (y := 1) (by exact hk48.2.2.2.2.1) ?_
                        refine ar_if_ne (k := 23) rfl (by omega) (fun c23 => ?_) (fun c23 => ?_)
                        · refine ar_iloadn (k := 51) rfl rfl ?_
                          refine ar_iret (k := 52) rfl rfl rfl (Nat.le_refl _) ?_
                          first
                            | (exfalso; omega)
                            | (rw [show pFig (tpe s) e (p, false, o) = (0, p, true, o) by rw [pFig]; rw [if_pos (by simp <;> omega)]]; exact ⟨congrArg (fun z => some (vi z)) (by show (_ : Int) = _; omega), I48, rfl, pH.cp hk48 (by omega)⟩)
                            | (rw [show pFig (tpe s) e (p, false, o) = (pHere (tpe s) e p - 48, p + 1, false, o) by rw [pFig]; rw [if_neg (by simp <;> omega), if_neg (by simp only []; omega)]]; exact ⟨congrArg (fun z => some (vi z)) (by show (_ : Int) = _; omega), I48, rfl, pH.cp hk48 (by omega)⟩)
                            | (rw [show pFig (tpe s) e (p, false, o) = (10 * (pHere (tpe s) e p - 48) + pHere (tpe s) e (p + 1) - 48, p + 2, false, o) by rw [pFig]; rw [if_neg (by simp <;> omega), if_pos (by simp only []; omega)]]; exact ⟨congrArg (fun z => some (vi z)) (by show (_ : Int) = _; omega), I48, rfl, pH.cp hk48 (by omega)⟩)
                        · refine ar_aloadn (k := 24) rfl rfl ?_
                          refine br_callV (k := 25) (as := []) rfl lvR_52 (hS.k (by decide)) rfl (c_R_here (p := ((p + 1) + 1)) hS hB hk48 (by (constructor <;> (dsimp only; omega))) rfl) rfl (by decide) (by decide) tw_m0 (Nat.le_of_ble_eq_true rfl) ?_
                          refine ar_bipush (k := 26) rfl (by decide) ?_
                          refine ar_bipush (k := 27) rfl (by decide) ?_
                          refine br_callS (k := 28) (as := [_, _, _]) rfl lsR_38 (c_R_in (by omega) (by omega) (by omega)) rfl (by decide) (by decide) tw_m0 (Nat.le_of_ble_eq_true rfl) ?_
                          refine ar_if_eq (k := 29) rfl (by omega) (fun c29 => ?_) (fun c29 => ?_)
                          · refine ar_iloadn (k := 51) rfl rfl ?_
                            refine ar_iret (k := 52) rfl rfl rfl (Nat.le_refl _) ?_
                            first
                              | (exfalso; omega)
                              | (rw [show pFig (tpe s) e (p, false, o) = (0, p, true, o) by rw [pFig]; rw [if_pos (by simp <;> omega)]]; exact ⟨congrArg (fun z => some (vi z)) (by show (_ : Int) = _; omega), I48, rfl, pH.cp hk48 (by omega)⟩)
                              | (rw [show pFig (tpe s) e (p, false, o) = (pHere (tpe s) e p - 48, p + 1, false, o) by rw [pFig]; rw [if_neg (by simp <;> omega), if_neg (by simp only []; omega)]]; exact ⟨congrArg (fun z => some (vi z)) (by show (_ : Int) = _; omega), I48, rfl, pH.cp hk48 (by omega)⟩)
                              | (rw [show pFig (tpe s) e (p, false, o) = (10 * (pHere (tpe s) e p - 48) + pHere (tpe s) e (p + 1) - 48, p + 2, false, o) by rw [pFig]; rw [if_neg (by simp <;> omega), if_pos (by simp only []; omega)]]; exact ⟨congrArg (fun z => some (vi z)) (by show (_ : Int) = _; omega), I48, rfl, pH.cp hk48 (by omega)⟩)
                          · refine ar_iloadn (k := 30) rfl rfl ?_
                            refine ar_if_eq (k := 31) rfl (by omega) (fun c31 => ?_) (fun c31 => ?_)
                            · refine ar_bipush (k := 34) rfl (by decide) ?_
                              refine ar_iloadn (k := 35) rfl rfl ?_
                              refine ar_imul (k := 36) rfl ?_
                              refine ar_aloadn (k := 37) rfl rfl ?_
                              refine br_callV (k := 38) (as := []) rfl lvR_52 (hS.k (by decide)) rfl (c_R_here (p := ((p + 1) + 1)) hS hB hk48 (by (constructor <;> (dsimp only; omega))) rfl) rfl (by decide) (by decide) tw_m0 (Nat.le_of_ble_eq_true rfl) ?_
                              refine ar_iadd (k := 39) rfl ?_
                              refine ar_bipush (k := 40) rfl (by decide) ?_
                              refine ar_isub (k := 41) rfl ?_
                              refine ar_istoren (k := 42) (l2 := [(1, _), (2, _), (0, _)]) rfl (by decide) rfl ?_
                              refine ar_aloadn (k := 43) rfl rfl ?_
                              refine ar_dup (k := 44) rfl rfl ?_
                              refine br_getI (k := 45) rfl (hS.k (by decide)) flR_42_12 (by decide) rfl ?_
                              refine tw_top (y := ((p + 1) + 1)) (by exact hk48.2.2.1) ?_
                              refine ar_iconst (k := 46) rfl ?_
                              refine ar_iadd (k := 47) rfl ?_
                              refine br_putIJ (k := 48) rfl (hS.k (by decide)) flR_42_12 (by decide) rfl (fun _ _ _ q => by cases q; exact ⟨rfl, rfl⟩) (fun I48 e48 => ?_)
                              change _ = uI _ 69 5 _ at e48
                              have hk48 := pH.p5 hk48 e48 (y := ((p + 1) + 1) + 1) (by rfl)
                              refine ar_iinc (k := 49) (l2 := [(2, _), (1, _), (0, _)]) rfl (by decide) rfl rfl ?_
                              refine ar_goto (k := 50) rfl ?_
                              exfalso; omega
                            · refine ar_iloadn (k := 32) rfl rfl ?_
                              refine ar_if_le (k := 33) rfl (by omega) (fun c33 => ?_) (fun c33 => ?_)
                              · refine ar_iloadn (k := 51) rfl rfl ?_
                                refine ar_iret (k := 52) rfl rfl rfl (Nat.le_refl _) ?_
                                first
                                  | (exfalso; omega)
                                  | (rw [show pFig (tpe s) e (p, false, o) = (0, p, true, o) by rw [pFig]; rw [if_pos (by simp <;> omega)]]; exact ⟨congrArg (fun z => some (vi z)) (by show (_ : Int) = _; omega), I48, rfl, pH.cp hk48 (by omega)⟩)
                                  | (rw [show pFig (tpe s) e (p, false, o) = (pHere (tpe s) e p - 48, p + 1, false, o) by rw [pFig]; rw [if_neg (by simp <;> omega), if_neg (by simp only []; omega)]]; exact ⟨congrArg (fun z => some (vi z)) (by show (_ : Int) = _; omega), I48, rfl, pH.cp hk48 (by omega)⟩)
                                  | (rw [show pFig (tpe s) e (p, false, o) = (10 * (pHere (tpe s) e p - 48) + pHere (tpe s) e (p + 1) - 48, p + 2, false, o) by rw [pFig]; rw [if_neg (by simp <;> omega), if_pos (by simp only []; omega)]]; exact ⟨congrArg (fun z => some (vi z)) (by show (_ : Int) = _; omega), I48, rfl, pH.cp hk48 (by omega)⟩)
                              · refine ar_bipush (k := 34) rfl (by decide) ?_
                                refine ar_iloadn (k := 35) rfl rfl ?_
                                refine ar_imul (k := 36) rfl ?_
                                refine ar_aloadn (k := 37) rfl rfl ?_
                                refine br_callV (k := 38) (as := []) rfl lvR_52 (hS.k (by decide)) rfl (c_R_here (p := ((p + 1) + 1)) hS hB hk48 (by (constructor <;> (dsimp only; omega))) rfl) rfl (by decide) (by decide) tw_m0 (Nat.le_of_ble_eq_true rfl) ?_
                                refine ar_iadd (k := 39) rfl ?_
                                refine ar_bipush (k := 40) rfl (by decide) ?_
                                refine ar_isub (k := 41) rfl ?_
                                refine ar_istoren (k := 42) (l2 := [(1, _), (2, _), (0, _)]) rfl (by decide) rfl ?_
                                refine ar_aloadn (k := 43) rfl rfl ?_
                                refine ar_dup (k := 44) rfl rfl ?_
                                refine br_getI (k := 45) rfl (hS.k (by decide)) flR_42_12 (by decide) rfl ?_
                                refine tw_top (y := ((p + 1) + 1)) (by exact hk48.2.2.1) ?_
                                refine ar_iconst (k := 46) rfl ?_
                                refine ar_iadd (k := 47) rfl ?_
                                refine br_putIJ (k := 48) rfl (hS.k (by decide)) flR_42_12 (by decide) rfl (fun _ _ _ q => by cases q; exact ⟨rfl, rfl⟩) (fun I48 e48 => ?_)
                                change _ = uI _ 69 5 _ at e48
                                have hk48 := pH.p5 hk48 e48 (y := ((p + 1) + 1) + 1) (by rfl)
                                refine ar_iinc (k := 49) (l2 := [(2, _), (1, _), (0, _)]) rfl (by decide) rfl rfl ?_
                                refine ar_goto (k := 50) rfl ?_
                                exfalso; omega
                    · refine ar_iloadn (k := 32) rfl rfl ?_
                      refine ar_if_le (k := 33) rfl (by omega) (fun c33 => ?_) (fun c33 => ?_)
                      · refine ar_iloadn (k := 51) rfl rfl ?_
                        refine ar_iret (k := 52) rfl rfl rfl (Nat.le_refl _) ?_
                        first
                          | (exfalso; omega)
                          | (rw [show pFig (tpe s) e (p, false, o) = (0, p, true, o) by rw [pFig]; rw [if_pos (by simp <;> omega)]]; exact ⟨congrArg (fun z => some (vi z)) (by show (_ : Int) = _; omega), I48, rfl, pH.cp hk48 (by omega)⟩)
                          | (rw [show pFig (tpe s) e (p, false, o) = (pHere (tpe s) e p - 48, p + 1, false, o) by rw [pFig]; rw [if_neg (by simp <;> omega), if_neg (by simp only []; omega)]]; exact ⟨congrArg (fun z => some (vi z)) (by show (_ : Int) = _; omega), I48, rfl, pH.cp hk48 (by omega)⟩)
                          | (rw [show pFig (tpe s) e (p, false, o) = (10 * (pHere (tpe s) e p - 48) + pHere (tpe s) e (p + 1) - 48, p + 2, false, o) by rw [pFig]; rw [if_neg (by simp <;> omega), if_pos (by simp only []; omega)]]; exact ⟨congrArg (fun z => some (vi z)) (by show (_ : Int) = _; omega), I48, rfl, pH.cp hk48 (by omega)⟩)
                      · refine ar_bipush (k := 34) rfl (by decide) ?_
                        refine ar_iloadn (k := 35) rfl rfl ?_
                        refine ar_imul (k := 36) rfl ?_
                        refine ar_aloadn (k := 37) rfl rfl ?_
                        refine br_callV (k := 38) (as := []) rfl lvR_52 (hS.k (by decide)) rfl (c_R_here (p := (p + 1)) hS hB hk48 (by (constructor <;> (dsimp only; omega))) rfl) rfl (by decide) (by decide) tw_m0 (Nat.le_of_ble_eq_true rfl) ?_
                        refine ar_iadd (k := 39) rfl ?_
                        refine ar_bipush (k := 40) rfl (by decide) ?_
                        refine ar_isub (k := 41) rfl ?_
                        refine ar_istoren (k := 42) (l2 := [(1, _), (2, _), (0, _)]) rfl (by decide) rfl ?_
                        refine ar_aloadn (k := 43) rfl rfl ?_
                        refine ar_dup (k := 44) rfl rfl ?_
                        refine br_getI (k := 45) rfl (hS.k (by decide)) flR_42_12 (by decide) rfl ?_
                        refine tw_top (y := (p + 1)) (by exact hk48.2.2.1) ?_
                        refine ar_iconst (k := 46) rfl ?_
                        refine ar_iadd (k := 47) rfl ?_
                        refine br_putIJ (k := 48) rfl (hS.k (by decide)) flR_42_12 (by decide) rfl (fun _ _ _ q => by cases q; exact ⟨rfl, rfl⟩) (fun I48 e48 => ?_)
                        change _ = uI _ 69 5 _ at e48
                        have hk48 := pH.p5 hk48 e48 (y := (p + 1) + 1) (by rfl)
                        refine ar_iinc (k := 49) (l2 := [(2, _), (1, _), (0, _)]) rfl (by decide) rfl rfl ?_
                        refine ar_goto (k := 50) rfl ?_
                        refine ar_iloadn (k := 18) rfl rfl ?_
                        refine ar_iconst (k := 19) rfl ?_
                        refine ar_icmp_ge (k := 20) rfl (by omega) (by omega) (fun c20 => ?_) (fun c20 => ?_)
                        · refine ar_iloadn (k := 51) rfl rfl ?_
                          refine ar_iret (k := 52) rfl rfl rfl (Nat.le_refl _) ?_
                          first
                            | (exfalso; omega)
                            | (rw [show pFig (tpe s) e (p, false, o) = (0, p, true, o) by rw [pFig]; rw [if_pos (by simp <;> omega)]]; exact ⟨congrArg (fun z => some (vi z)) (by show (_ : Int) = _; omega), I48, rfl, pH.cp hk48 (by omega)⟩)
                            | (rw [show pFig (tpe s) e (p, false, o) = (pHere (tpe s) e p - 48, p + 1, false, o) by rw [pFig]; rw [if_neg (by simp <;> omega), if_neg (by simp only []; omega)]]; exact ⟨congrArg (fun z => some (vi z)) (by show (_ : Int) = _; omega), I48, rfl, pH.cp hk48 (by omega)⟩)
                            | (rw [show pFig (tpe s) e (p, false, o) = (10 * (pHere (tpe s) e p - 48) + pHere (tpe s) e (p + 1) - 48, p + 2, false, o) by rw [pFig]; rw [if_neg (by simp <;> omega), if_pos (by simp only []; omega)]]; exact ⟨congrArg (fun z => some (vi z)) (by show (_ : Int) = _; omega), I48, rfl, pH.cp hk48 (by omega)⟩)
                        · refine ar_aloadn (k := 21) rfl rfl ?_
                          refine br_getI (k := 22) rfl (hS.k (by decide)) flR_48_12 (by decide) rfl ?_
                          refine tw_top (y := 1) (by exact hk48.2.2.2.2.1) ?_
                          refine ar_if_ne (k := 23) rfl (by omega) (fun c23 => ?_) (fun c23 => ?_)
                          · refine ar_iloadn (k := 51) rfl rfl ?_
                            refine ar_iret (k := 52) rfl rfl rfl (Nat.le_refl _) ?_
                            first
                              | (exfalso; omega)
                              | (rw [show pFig (tpe s) e (p, false, o) = (0, p, true, o) by rw [pFig]; rw [if_pos (by simp <;> omega)]]; exact ⟨congrArg (fun z => some (vi z)) (by show (_ : Int) = _; omega), I48, rfl, pH.cp hk48 (by omega)⟩)
                              | (rw [show pFig (tpe s) e (p, false, o) = (pHere (tpe s) e p - 48, p + 1, false, o) by rw [pFig]; rw [if_neg (by simp <;> omega), if_neg (by simp only []; omega)]]; exact ⟨congrArg (fun z => some (vi z)) (by show (_ : Int) = _; omega), I48, rfl, pH.cp hk48 (by omega)⟩)
                              | (rw [show pFig (tpe s) e (p, false, o) = (10 * (pHere (tpe s) e p - 48) + pHere (tpe s) e (p + 1) - 48, p + 2, false, o) by rw [pFig]; rw [if_neg (by simp <;> omega), if_pos (by simp only []; omega)]]; exact ⟨congrArg (fun z => some (vi z)) (by show (_ : Int) = _; omega), I48, rfl, pH.cp hk48 (by omega)⟩)
                          · refine ar_aloadn (k := 24) rfl rfl ?_
                            refine br_callV (k := 25) (as := []) rfl lvR_52 (hS.k (by decide)) rfl (c_R_here (p := ((p + 1) + 1)) hS hB hk48 (by (constructor <;> (dsimp only; omega))) rfl) rfl (by decide) (by decide) tw_m0 (Nat.le_of_ble_eq_true rfl) ?_
                            refine ar_bipush (k := 26) rfl (by decide) ?_
                            refine ar_bipush (k := 27) rfl (by decide) ?_
                            refine br_callS (k := 28) (as := [_, _, _]) rfl lsR_38 (c_R_in (by omega) (by omega) (by omega)) rfl (by decide) (by decide) tw_m0 (Nat.le_of_ble_eq_true rfl) ?_
                            refine ar_if_eq (k := 29) rfl (by omega) (fun c29 => ?_) (fun c29 => ?_)
                            · refine ar_iloadn (k := 51) rfl rfl ?_
                              refine ar_iret (k := 52) rfl rfl rfl (Nat.le_refl _) ?_
                              first
                                | (exfalso; omega)
                                | (rw [show pFig (tpe s) e (p, false, o) = (0, p, true, o) by rw [pFig]; rw [if_pos (by simp <;> omega)]]; exact ⟨congrArg (fun z => some (vi z)) (by show (_ : Int) = _; omega), I48, rfl, pH.cp hk48 (by omega)⟩)
                                | (rw [show pFig (tpe s) e (p, false, o) = (pHere (tpe s) e p - 48, p + 1, false, o) by rw [pFig]; rw [if_neg (by simp <;> omega), if_neg (by simp only []; omega)]]; exact ⟨congrArg (fun z => some (vi z)) (by show (_ : Int) = _; omega), I48, rfl, pH.cp hk48 (by omega)⟩)
                                | (rw [show pFig (tpe s) e (p, false, o) = (10 * (pHere (tpe s) e p - 48) + pHere (tpe s) e (p + 1) - 48, p + 2, false, o) by rw [pFig]; rw [if_neg (by simp <;> omega), if_pos (by simp only []; omega)]]; exact ⟨congrArg (fun z => some (vi z)) (by show (_ : Int) = _; omega), I48, rfl, pH.cp hk48 (by omega)⟩)
                            · refine ar_iloadn (k := 30) rfl rfl ?_
                              refine ar_if_eq (k := 31) rfl (by omega) (fun c31 => ?_) (fun c31 => ?_)
                              · refine ar_bipush (k := 34) rfl (by decide) ?_
                                refine ar_iloadn (k := 35) rfl rfl ?_
                                refine ar_imul (k := 36) rfl ?_
                                refine ar_aloadn (k := 37) rfl rfl ?_
                                refine br_callV (k := 38) (as := []) rfl lvR_52 (hS.k (by decide)) rfl (c_R_here (p := ((p + 1) + 1)) hS hB hk48 (by (constructor <;> (dsimp only; omega))) rfl) rfl (by decide) (by decide) tw_m0 (Nat.le_of_ble_eq_true rfl) ?_
                                refine ar_iadd (k := 39) rfl ?_
                                refine ar_bipush (k := 40) rfl (by decide) ?_
                                refine ar_isub (k := 41) rfl ?_
                                refine ar_istoren (k := 42) (l2 := [(1, _), (2, _), (0, _)]) rfl (by decide) rfl ?_
                                refine ar_aloadn (k := 43) rfl rfl ?_
                                refine ar_dup (k := 44) rfl rfl ?_
                                refine br_getI (k := 45) rfl (hS.k (by decide)) flR_42_12 (by decide) rfl ?_
                                refine tw_top (y := ((p + 1) + 1)) (by exact hk48.2.2.1) ?_
                                refine ar_iconst (k := 46) rfl ?_
                                refine ar_iadd (k := 47) rfl ?_
                                refine br_putIJ (k := 48) rfl (hS.k (by decide)) flR_42_12 (by decide) rfl (fun _ _ _ q => by cases q; exact ⟨rfl, rfl⟩) (fun I48 e48 => ?_)
                                change _ = uI _ 69 5 _ at e48
                                have hk48 := pH.p5 hk48 e48 (y := ((p + 1) + 1) + 1) (by rfl)
                                refine ar_iinc (k := 49) (l2 := [(2, _), (1, _), (0, _)]) rfl (by decide) rfl rfl ?_
                                refine ar_goto (k := 50) rfl ?_
                                exfalso; omega
                              · refine ar_iloadn (k := 32) rfl rfl ?_
                                refine ar_if_le (k := 33) rfl (by omega) (fun c33 => ?_) (fun c33 => ?_)
                                · refine ar_iloadn (k := 51) rfl rfl ?_
                                  refine ar_iret (k := 52) rfl rfl rfl (Nat.le_refl _) ?_
                                  first
                                    | (exfalso; omega)
                                    | (rw [show pFig (tpe s) e (p, false, o) = (0, p, true, o) by rw [pFig]; rw [if_pos (by simp <;> omega)]]; exact ⟨congrArg (fun z => some (vi z)) (by show (_ : Int) = _; omega), I48, rfl, pH.cp hk48 (by omega)⟩)
                                    | (rw [show pFig (tpe s) e (p, false, o) = (pHere (tpe s) e p - 48, p + 1, false, o) by rw [pFig]; rw [if_neg (by simp <;> omega), if_neg (by simp only []; omega)]]; exact ⟨congrArg (fun z => some (vi z)) (by show (_ : Int) = _; omega), I48, rfl, pH.cp hk48 (by omega)⟩)
                                    | (rw [show pFig (tpe s) e (p, false, o) = (10 * (pHere (tpe s) e p - 48) + pHere (tpe s) e (p + 1) - 48, p + 2, false, o) by rw [pFig]; rw [if_neg (by simp <;> omega), if_pos (by simp only []; omega)]]; exact ⟨congrArg (fun z => some (vi z)) (by show (_ : Int) = _; omega), I48, rfl, pH.cp hk48 (by omega)⟩)
                                · refine ar_bipush (k := 34) rfl (by decide) ?_
                                  refine ar_iloadn (k := 35) rfl rfl ?_
                                  refine ar_imul (k := 36) rfl ?_
                                  refine ar_aloadn (k := 37) rfl rfl ?_
                                  refine br_callV (k := 38) (as := []) rfl lvR_52 (hS.k (by decide)) rfl (c_R_here (p := ((p + 1) + 1)) hS hB hk48 (by (constructor <;> (dsimp only; omega))) rfl) rfl (by decide) (by decide) tw_m0 (Nat.le_of_ble_eq_true rfl) ?_
                                  refine ar_iadd (k := 39) rfl ?_
                                  refine ar_bipush (k := 40) rfl (by decide) ?_
                                  refine ar_isub (k := 41) rfl ?_
                                  refine ar_istoren (k := 42) (l2 := [(1, _), (2, _), (0, _)]) rfl (by decide) rfl ?_
                                  refine ar_aloadn (k := 43) rfl rfl ?_
                                  refine ar_dup (k := 44) rfl rfl ?_
                                  refine br_getI (k := 45) rfl (hS.k (by decide)) flR_42_12 (by decide) rfl ?_
                                  refine tw_top (y := ((p + 1) + 1)) (by exact hk48.2.2.1) ?_
                                  refine ar_iconst (k := 46) rfl ?_
                                  refine ar_iadd (k := 47) rfl ?_
                                  refine br_putIJ (k := 48) rfl (hS.k (by decide)) flR_42_12 (by decide) rfl (fun _ _ _ q => by cases q; exact ⟨rfl, rfl⟩) (fun I48 e48 => ?_)
                                  change _ = uI _ 69 5 _ at e48
                                  have hk48 := pH.p5 hk48 e48 (y := ((p + 1) + 1) + 1) (by rfl)
                                  refine ar_iinc (k := 49) (l2 := [(2, _), (1, _), (0, _)]) rfl (by decide) rfl rfl ?_
                                  refine ar_goto (k := 50) rfl ?_
                                  exfalso; omega
  · refine ar_aloadn (k := 4) rfl rfl ?_
    refine br_callV (k := 5) (as := []) rfl lvR_52 (hS.k (by decide)) rfl (c_R_here (p := p) hS hB hk (by (constructor <;> (dsimp only; omega))) rfl) rfl (by decide) (by decide) tw_m0 (Nat.le_of_ble_eq_true rfl) ?_
    refine ar_bipush (k := 6) rfl (by decide) ?_
    refine ar_bipush (k := 7) rfl (by decide) ?_
    refine br_callS (k := 8) (as := [_, _, _]) rfl lsR_38 (c_R_in (by omega) (by omega) (by omega)) rfl (by decide) (by decide) tw_m0 (Nat.le_of_ble_eq_true rfl) ?_
    refine ar_if_ne (k := 9) rfl (by omega) (fun c9 => ?_) (fun c9 => ?_)
    · refine ar_iconst (k := 12) rfl ?_
      refine br_putZJ (k := 13) rfl (hS.k (by decide)) flR_48_12 (by decide) rfl (by omega) (fun _ _ _ q => by cases q; exact ⟨rfl, rfl⟩) (fun I13 e13 => ?_)
      change _ = uI _ 69 7 _ at e13
      have hk13 := pH.w7 hk e13 (y := false) (by rfl)
      refine ar_iconst (k := 14) rfl ?_
      refine ar_istoren (k := 15) (l2 := [(1, _), (0, _)]) rfl (by decide) rfl ?_
      refine ar_iconst (k := 16) rfl ?_
      refine ar_istoren (k := 17) (l2 := [(2, _), (1, _), (0, _)]) rfl (by decide) rfl ?_
      refine ar_iloadn (k := 18) rfl rfl ?_
      refine ar_iconst (k := 19) rfl ?_
      refine ar_icmp_ge (k := 20) rfl (by omega) (by omega) (fun c20 => ?_) (fun c20 => ?_)
      · refine ar_iloadn (k := 51) rfl rfl ?_
        refine ar_iret (k := 52) rfl rfl rfl (Nat.le_refl _) ?_
        first
          | (exfalso; omega)
          | (rw [show pFig (tpe s) e (p, false, o) = (0, p, true, o) by rw [pFig]; rw [if_pos (by simp <;> omega)]]; exact ⟨congrArg (fun z => some (vi z)) (by show (_ : Int) = _; omega), I13, rfl, pH.cp hk13 (by omega)⟩)
          | (rw [show pFig (tpe s) e (p, false, o) = (pHere (tpe s) e p - 48, p + 1, false, o) by rw [pFig]; rw [if_neg (by simp <;> omega), if_neg (by simp only []; omega)]]; exact ⟨congrArg (fun z => some (vi z)) (by show (_ : Int) = _; omega), I13, rfl, pH.cp hk13 (by omega)⟩)
          | (rw [show pFig (tpe s) e (p, false, o) = (10 * (pHere (tpe s) e p - 48) + pHere (tpe s) e (p + 1) - 48, p + 2, false, o) by rw [pFig]; rw [if_neg (by simp <;> omega), if_pos (by simp only []; omega)]]; exact ⟨congrArg (fun z => some (vi z)) (by show (_ : Int) = _; omega), I13, rfl, pH.cp hk13 (by omega)⟩)
      · refine ar_aloadn (k := 21) rfl rfl ?_
        refine br_getI (k := 22) rfl (hS.k (by decide)) flR_48_12 (by decide) rfl ?_
        refine tw_top (y := 0) (by exact hk13.2.2.2.2.1) ?_
        refine ar_if_ne (k := 23) rfl (by omega) (fun c23 => ?_) (fun c23 => ?_)
        · refine ar_iloadn (k := 51) rfl rfl ?_
          refine ar_iret (k := 52) rfl rfl rfl (Nat.le_refl _) ?_
          first
            | (exfalso; omega)
            | (rw [show pFig (tpe s) e (p, false, o) = (0, p, true, o) by rw [pFig]; rw [if_pos (by simp <;> omega)]]; exact ⟨congrArg (fun z => some (vi z)) (by show (_ : Int) = _; omega), I13, rfl, pH.cp hk13 (by omega)⟩)
            | (rw [show pFig (tpe s) e (p, false, o) = (pHere (tpe s) e p - 48, p + 1, false, o) by rw [pFig]; rw [if_neg (by simp <;> omega), if_neg (by simp only []; omega)]]; exact ⟨congrArg (fun z => some (vi z)) (by show (_ : Int) = _; omega), I13, rfl, pH.cp hk13 (by omega)⟩)
            | (rw [show pFig (tpe s) e (p, false, o) = (10 * (pHere (tpe s) e p - 48) + pHere (tpe s) e (p + 1) - 48, p + 2, false, o) by rw [pFig]; rw [if_neg (by simp <;> omega), if_pos (by simp only []; omega)]]; exact ⟨congrArg (fun z => some (vi z)) (by show (_ : Int) = _; omega), I13, rfl, pH.cp hk13 (by omega)⟩)
        · refine ar_aloadn (k := 24) rfl rfl ?_
          refine br_callV (k := 25) (as := []) rfl lvR_52 (hS.k (by decide)) rfl (c_R_here (p := p) hS hB hk13 (by (constructor <;> (dsimp only; omega))) rfl) rfl (by decide) (by decide) tw_m0 (Nat.le_of_ble_eq_true rfl) ?_
          refine ar_bipush (k := 26) rfl (by decide) ?_
          refine ar_bipush (k := 27) rfl (by decide) ?_
          refine br_callS (k := 28) (as := [_, _, _]) rfl lsR_38 (c_R_in (by omega) (by omega) (by omega)) rfl (by decide) (by decide) tw_m0 (Nat.le_of_ble_eq_true rfl) ?_
          refine ar_if_eq (k := 29) rfl (by omega) (fun c29 => ?_) (fun c29 => ?_)
          · refine ar_iloadn (k := 51) rfl rfl ?_
            refine ar_iret (k := 52) rfl rfl rfl (Nat.le_refl _) ?_
            first
              | (exfalso; omega)
              | (rw [show pFig (tpe s) e (p, false, o) = (0, p, true, o) by rw [pFig]; rw [if_pos (by simp <;> omega)]]; exact ⟨congrArg (fun z => some (vi z)) (by show (_ : Int) = _; omega), I13, rfl, pH.cp hk13 (by omega)⟩)
              | (rw [show pFig (tpe s) e (p, false, o) = (pHere (tpe s) e p - 48, p + 1, false, o) by rw [pFig]; rw [if_neg (by simp <;> omega), if_neg (by simp only []; omega)]]; exact ⟨congrArg (fun z => some (vi z)) (by show (_ : Int) = _; omega), I13, rfl, pH.cp hk13 (by omega)⟩)
              | (rw [show pFig (tpe s) e (p, false, o) = (10 * (pHere (tpe s) e p - 48) + pHere (tpe s) e (p + 1) - 48, p + 2, false, o) by rw [pFig]; rw [if_neg (by simp <;> omega), if_pos (by simp only []; omega)]]; exact ⟨congrArg (fun z => some (vi z)) (by show (_ : Int) = _; omega), I13, rfl, pH.cp hk13 (by omega)⟩)
          · refine ar_iloadn (k := 30) rfl rfl ?_
            refine ar_if_eq (k := 31) rfl (by omega) (fun c31 => ?_) (fun c31 => ?_)
            · refine ar_bipush (k := 34) rfl (by decide) ?_
              refine ar_iloadn (k := 35) rfl rfl ?_
              refine ar_imul (k := 36) rfl ?_
              refine ar_aloadn (k := 37) rfl rfl ?_
              refine br_callV (k := 38) (as := []) rfl lvR_52 (hS.k (by decide)) rfl (c_R_here (p := p) hS hB hk13 (by (constructor <;> (dsimp only; omega))) rfl) rfl (by decide) (by decide) tw_m0 (Nat.le_of_ble_eq_true rfl) ?_
              refine ar_iadd (k := 39) rfl ?_
              refine ar_bipush (k := 40) rfl (by decide) ?_
              refine ar_isub (k := 41) rfl ?_
              refine ar_istoren (k := 42) (l2 := [(1, _), (2, _), (0, _)]) rfl (by decide) rfl ?_
              refine ar_aloadn (k := 43) rfl rfl ?_
              refine ar_dup (k := 44) rfl rfl ?_
              refine br_getI (k := 45) rfl (hS.k (by decide)) flR_42_12 (by decide) rfl ?_
              refine tw_top (y := p) (by exact hk13.2.2.1) ?_
              refine ar_iconst (k := 46) rfl ?_
              refine ar_iadd (k := 47) rfl ?_
              refine br_putIJ (k := 48) rfl (hS.k (by decide)) flR_42_12 (by decide) rfl (fun _ _ _ q => by cases q; exact ⟨rfl, rfl⟩) (fun I48 e48 => ?_)
              change _ = uI _ 69 5 _ at e48
              have hk48 := pH.p5 hk13 e48 (y := p + 1) (by rfl)
              refine ar_iinc (k := 49) (l2 := [(2, _), (1, _), (0, _)]) rfl (by decide) rfl rfl ?_
              refine ar_goto (k := 50) rfl ?_
              refine ar_iloadn (k := 18) rfl rfl ?_
              refine ar_iconst (k := 19) rfl ?_
              refine ar_icmp_ge (k := 20) rfl (by omega) (by omega) (fun c20 => ?_) (fun c20 => ?_)
              · refine ar_iloadn (k := 51) rfl rfl ?_
                refine ar_iret (k := 52) rfl rfl rfl (Nat.le_refl _) ?_
                first
                  | (exfalso; omega)
                  | (rw [show pFig (tpe s) e (p, false, o) = (0, p, true, o) by rw [pFig]; rw [if_pos (by simp <;> omega)]]; exact ⟨congrArg (fun z => some (vi z)) (by show (_ : Int) = _; omega), I48, rfl, pH.cp hk48 (by omega)⟩)
                  | (rw [show pFig (tpe s) e (p, false, o) = (pHere (tpe s) e p - 48, p + 1, false, o) by rw [pFig]; rw [if_neg (by simp <;> omega), if_neg (by simp only []; omega)]]; exact ⟨congrArg (fun z => some (vi z)) (by show (_ : Int) = _; omega), I48, rfl, pH.cp hk48 (by omega)⟩)
                  | (rw [show pFig (tpe s) e (p, false, o) = (10 * (pHere (tpe s) e p - 48) + pHere (tpe s) e (p + 1) - 48, p + 2, false, o) by rw [pFig]; rw [if_neg (by simp <;> omega), if_pos (by simp only []; omega)]]; exact ⟨congrArg (fun z => some (vi z)) (by show (_ : Int) = _; omega), I48, rfl, pH.cp hk48 (by omega)⟩)
              · refine ar_aloadn (k := 21) rfl rfl ?_
                refine br_getI (k := 22) rfl (hS.k (by decide)) flR_48_12 (by decide) rfl ?_
                refine tw_top (y := 0) (by exact hk48.2.2.2.2.1) ?_
                refine ar_if_ne (k := 23) rfl (by omega) (fun c23 => ?_) (fun c23 => ?_)
                · refine ar_iloadn (k := 51) rfl rfl ?_
                  refine ar_iret (k := 52) rfl rfl rfl (Nat.le_refl _) ?_
                  first
                    | (exfalso; omega)
                    | (rw [show pFig (tpe s) e (p, false, o) = (0, p, true, o) by rw [pFig]; rw [if_pos (by simp <;> omega)]]; exact ⟨congrArg (fun z => some (vi z)) (by show (_ : Int) = _; omega), I48, rfl, pH.cp hk48 (by omega)⟩)
                    | (rw [show pFig (tpe s) e (p, false, o) = (pHere (tpe s) e p - 48, p + 1, false, o) by rw [pFig]; rw [if_neg (by simp <;> omega), if_neg (by simp only []; omega)]]; exact ⟨congrArg (fun z => some (vi z)) (by show (_ : Int) = _; omega), I48, rfl, pH.cp hk48 (by omega)⟩)
                    | (rw [show pFig (tpe s) e (p, false, o) = (10 * (pHere (tpe s) e p - 48) + pHere (tpe s) e (p + 1) - 48, p + 2, false, o) by rw [pFig]; rw [if_neg (by simp <;> omega), if_pos (by simp only []; omega)]]; exact ⟨congrArg (fun z => some (vi z)) (by show (_ : Int) = _; omega), I48, rfl, pH.cp hk48 (by omega)⟩)
                · refine ar_aloadn (k := 24) rfl rfl ?_
                  refine br_callV (k := 25) (as := []) rfl lvR_52 (hS.k (by decide)) rfl (c_R_here (p := (p + 1)) hS hB hk48 (by (constructor <;> (dsimp only; omega))) rfl) rfl (by decide) (by decide) tw_m0 (Nat.le_of_ble_eq_true rfl) ?_
                  refine ar_bipush (k := 26) rfl (by decide) ?_
                  refine ar_bipush (k := 27) rfl (by decide) ?_
                  refine br_callS (k := 28) (as := [_, _, _]) rfl lsR_38 (c_R_in (by omega) (by omega) (by omega)) rfl (by decide) (by decide) tw_m0 (Nat.le_of_ble_eq_true rfl) ?_
                  refine ar_if_eq (k := 29) rfl (by omega) (fun c29 => ?_) (fun c29 => ?_)
                  · refine ar_iloadn (k := 51) rfl rfl ?_
                    refine ar_iret (k := 52) rfl rfl rfl (Nat.le_refl _) ?_
                    first
                      | (exfalso; omega)
                      | (rw [show pFig (tpe s) e (p, false, o) = (0, p, true, o) by rw [pFig]; rw [if_pos (by simp <;> omega)]]; exact ⟨congrArg (fun z => some (vi z)) (by show (_ : Int) = _; omega), I48, rfl, pH.cp hk48 (by omega)⟩)
                      | (rw [show pFig (tpe s) e (p, false, o) = (pHere (tpe s) e p - 48, p + 1, false, o) by rw [pFig]; rw [if_neg (by simp <;> omega), if_neg (by simp only []; omega)]]; exact ⟨congrArg (fun z => some (vi z)) (by show (_ : Int) = _; omega), I48, rfl, pH.cp hk48 (by omega)⟩)
                      | (rw [show pFig (tpe s) e (p, false, o) = (10 * (pHere (tpe s) e p - 48) + pHere (tpe s) e (p + 1) - 48, p + 2, false, o) by rw [pFig]; rw [if_neg (by simp <;> omega), if_pos (by simp only []; omega)]]; exact ⟨congrArg (fun z => some (vi z)) (by show (_ : Int) = _; omega), I48, rfl, pH.cp hk48 (by omega)⟩)
                  · refine ar_iloadn (k := 30) rfl rfl ?_
                    refine ar_if_eq (k := 31) rfl (by omega) (fun c31 => ?_) (fun c31 => ?_)
                    · refine ar_bipush (k := 34) rfl (by decide) ?_
                      refine ar_iloadn (k := 35) rfl rfl ?_
                      refine ar_imul (k := 36) rfl ?_
                      refine ar_aloadn (k := 37) rfl rfl ?_
                      refine br_callV (k := 38) (as := []) rfl lvR_52 (hS.k (by decide)) rfl (c_R_here (p := (p + 1)) hS hB hk48 (by (constructor <;> (dsimp only; omega))) rfl) rfl (by decide) (by decide) tw_m0 (Nat.le_of_ble_eq_true rfl) ?_
                      refine ar_iadd (k := 39) rfl ?_
                      refine ar_bipush (k := 40) rfl (by decide) ?_
                      refine ar_isub (k := 41) rfl ?_
                      refine ar_istoren (k := 42) (l2 := [(1, _), (2, _), (0, _)]) rfl (by decide) rfl ?_
                      refine ar_aloadn (k := 43) rfl rfl ?_
                      refine ar_dup (k := 44) rfl rfl ?_
                      refine br_getI (k := 45) rfl (hS.k (by decide)) flR_42_12 (by decide) rfl ?_
                      refine tw_top (y := (p + 1)) (by exact hk48.2.2.1) ?_
                      refine ar_iconst (k := 46) rfl ?_
                      refine ar_iadd (k := 47) rfl ?_
                      refine br_putIJ (k := 48) rfl (hS.k (by decide)) flR_42_12 (by decide) rfl (fun _ _ _ q => by cases q; exact ⟨rfl, rfl⟩) (fun I48 e48 => ?_)
                      change _ = uI _ 69 5 _ at e48
                      have hk48 := pH.p5 hk48 e48 (y := (p + 1) + 1) (by rfl)
                      refine ar_iinc (k := 49) (l2 := [(2, _), (1, _), (0, _)]) rfl (by decide) rfl rfl ?_
                      refine ar_goto (k := 50) rfl ?_
                      refine ar_iloadn (k := 18) rfl rfl ?_
                      refine ar_iconst (k := 19) rfl ?_
                      refine ar_icmp_ge (k := 20) rfl (by omega) (by omega) (fun c20 => ?_) (fun c20 => ?_)
                      · refine ar_iloadn (k := 51) rfl rfl ?_
                        refine ar_iret (k := 52) rfl rfl rfl (Nat.le_refl _) ?_
                        first
                          | (exfalso; omega)
                          | (rw [show pFig (tpe s) e (p, false, o) = (0, p, true, o) by rw [pFig]; rw [if_pos (by simp <;> omega)]]; exact ⟨congrArg (fun z => some (vi z)) (by show (_ : Int) = _; omega), I48, rfl, pH.cp hk48 (by omega)⟩)
                          | (rw [show pFig (tpe s) e (p, false, o) = (pHere (tpe s) e p - 48, p + 1, false, o) by rw [pFig]; rw [if_neg (by simp <;> omega), if_neg (by simp only []; omega)]]; exact ⟨congrArg (fun z => some (vi z)) (by show (_ : Int) = _; omega), I48, rfl, pH.cp hk48 (by omega)⟩)
                          | (rw [show pFig (tpe s) e (p, false, o) = (10 * (pHere (tpe s) e p - 48) + pHere (tpe s) e (p + 1) - 48, p + 2, false, o) by rw [pFig]; rw [if_neg (by simp <;> omega), if_pos (by simp only []; omega)]]; exact ⟨congrArg (fun z => some (vi z)) (by show (_ : Int) = _; omega), I48, rfl, pH.cp hk48 (by omega)⟩)
                      · refine ar_aloadn (k := 21) rfl rfl ?_
                        refine br_getI (k := 22) rfl (hS.k (by decide)) flR_48_12 (by decide) rfl ?_
                        refine tw_top (y := 0) (by exact hk48.2.2.2.2.1) ?_
                        refine ar_if_ne (k := 23) rfl (by omega) (fun c23 => ?_) (fun c23 => ?_)
                        · refine ar_iloadn (k := 51) rfl rfl ?_
                          refine ar_iret (k := 52) rfl rfl rfl (Nat.le_refl _) ?_
                          first
                            | (exfalso; omega)
                            | (rw [show pFig (tpe s) e (p, false, o) = (0, p, true, o) by rw [pFig]; rw [if_pos (by simp <;> omega)]]; exact ⟨congrArg (fun z => some (vi z)) (by show (_ : Int) = _; omega), I48, rfl, pH.cp hk48 (by omega)⟩)
                            | (rw [show pFig (tpe s) e (p, false, o) = (pHere (tpe s) e p - 48, p + 1, false, o) by rw [pFig]; rw [if_neg (by simp <;> omega), if_neg (by simp only []; omega)]]; exact ⟨congrArg (fun z => some (vi z)) (by show (_ : Int) = _; omega), I48, rfl, pH.cp hk48 (by omega)⟩)
                            | (rw [show pFig (tpe s) e (p, false, o) = (10 * (pHere (tpe s) e p - 48) + pHere (tpe s) e (p + 1) - 48, p + 2, false, o) by rw [pFig]; rw [if_neg (by simp <;> omega), if_pos (by simp only []; omega)]]; exact ⟨congrArg (fun z => some (vi z)) (by show (_ : Int) = _; omega), I48, rfl, pH.cp hk48 (by omega)⟩)
                        · refine ar_aloadn (k := 24) rfl rfl ?_
                          refine br_callV (k := 25) (as := []) rfl lvR_52 (hS.k (by decide)) rfl (c_R_here (p := ((p + 1) + 1)) hS hB hk48 (by (constructor <;> (dsimp only; omega))) rfl) rfl (by decide) (by decide) tw_m0 (Nat.le_of_ble_eq_true rfl) ?_
                          refine ar_bipush (k := 26) rfl (by decide) ?_
                          refine ar_bipush (k := 27) rfl (by decide) ?_
                          refine br_callS (k := 28) (as := [_, _, _]) rfl lsR_38 (c_R_in (by omega) (by omega) (by omega)) rfl (by decide) (by decide) tw_m0 (Nat.le_of_ble_eq_true rfl) ?_
                          refine ar_if_eq (k := 29) rfl (by omega) (fun c29 => ?_) (fun c29 => ?_)
                          · refine ar_iloadn (k := 51) rfl rfl ?_
                            refine ar_iret (k := 52) rfl rfl rfl (Nat.le_refl _) ?_
                            first
                              | (exfalso; omega)
                              | (rw [show pFig (tpe s) e (p, false, o) = (0, p, true, o) by rw [pFig]; rw [if_pos (by simp <;> omega)]]; exact ⟨congrArg (fun z => some (vi z)) (by show (_ : Int) = _; omega), I48, rfl, pH.cp hk48 (by omega)⟩)
                              | (rw [show pFig (tpe s) e (p, false, o) = (pHere (tpe s) e p - 48, p + 1, false, o) by rw [pFig]; rw [if_neg (by simp <;> omega), if_neg (by simp only []; omega)]]; exact ⟨congrArg (fun z => some (vi z)) (by show (_ : Int) = _; omega), I48, rfl, pH.cp hk48 (by omega)⟩)
                              | (rw [show pFig (tpe s) e (p, false, o) = (10 * (pHere (tpe s) e p - 48) + pHere (tpe s) e (p + 1) - 48, p + 2, false, o) by rw [pFig]; rw [if_neg (by simp <;> omega), if_pos (by simp only []; omega)]]; exact ⟨congrArg (fun z => some (vi z)) (by show (_ : Int) = _; omega), I48, rfl, pH.cp hk48 (by omega)⟩)
                          · refine ar_iloadn (k := 30) rfl rfl ?_
                            refine ar_if_eq (k := 31) rfl (by omega) (fun c31 => ?_) (fun c31 => ?_)
                            · refine ar_bipush (k := 34) rfl (by decide) ?_
                              refine ar_iloadn (k := 35) rfl rfl ?_
                              refine ar_imul (k := 36) rfl ?_
                              refine ar_aloadn (k := 37) rfl rfl ?_
                              refine br_callV (k := 38) (as := []) rfl lvR_52 (hS.k (by decide)) rfl (c_R_here (p := ((p + 1) + 1)) hS hB hk48 (by (constructor <;> (dsimp only; omega))) rfl) rfl (by decide) (by decide) tw_m0 (Nat.le_of_ble_eq_true rfl) ?_
                              refine ar_iadd (k := 39) rfl ?_
                              refine ar_bipush (k := 40) rfl (by decide) ?_
                              refine ar_isub (k := 41) rfl ?_
                              refine ar_istoren (k := 42) (l2 := [(1, _), (2, _), (0, _)]) rfl (by decide) rfl ?_
                              refine ar_aloadn (k := 43) rfl rfl ?_
                              refine ar_dup (k := 44) rfl rfl ?_
                              refine br_getI (k := 45) rfl (hS.k (by decide)) flR_42_12 (by decide) rfl ?_
                              refine tw_top (y := ((p + 1) + 1)) (by exact hk48.2.2.1) ?_
                              refine ar_iconst (k := 46) rfl ?_
                              refine ar_iadd (k := 47) rfl ?_
                              refine br_putIJ (k := 48) rfl (hS.k (by decide)) flR_42_12 (by decide) rfl (fun _ _ _ q => by cases q; exact ⟨rfl, rfl⟩) (fun I48 e48 => ?_)
                              change _ = uI _ 69 5 _ at e48
                              have hk48 := pH.p5 hk48 e48 (y := ((p + 1) + 1) + 1) (by rfl)
                              refine ar_iinc (k := 49) (l2 := [(2, _), (1, _), (0, _)]) rfl (by decide) rfl rfl ?_
                              refine ar_goto (k := 50) rfl ?_
                              exfalso; omega
                            · refine ar_iloadn (k := 32) rfl rfl ?_
                              refine ar_if_le (k := 33) rfl (by omega) (fun c33 => ?_) (fun c33 => ?_)
                              · refine ar_iloadn (k := 51) rfl rfl ?_
                                refine ar_iret (k := 52) rfl rfl rfl (Nat.le_refl _) ?_
                                first
                                  | (exfalso; omega)
                                  | (rw [show pFig (tpe s) e (p, false, o) = (0, p, true, o) by rw [pFig]; rw [if_pos (by simp <;> omega)]]; exact ⟨congrArg (fun z => some (vi z)) (by show (_ : Int) = _; omega), I48, rfl, pH.cp hk48 (by omega)⟩)
                                  | (rw [show pFig (tpe s) e (p, false, o) = (pHere (tpe s) e p - 48, p + 1, false, o) by rw [pFig]; rw [if_neg (by simp <;> omega), if_neg (by simp only []; omega)]]; exact ⟨congrArg (fun z => some (vi z)) (by show (_ : Int) = _; omega), I48, rfl, pH.cp hk48 (by omega)⟩)
                                  | (rw [show pFig (tpe s) e (p, false, o) = (10 * (pHere (tpe s) e p - 48) + pHere (tpe s) e (p + 1) - 48, p + 2, false, o) by rw [pFig]; rw [if_neg (by simp <;> omega), if_pos (by simp only []; omega)]]; exact ⟨congrArg (fun z => some (vi z)) (by show (_ : Int) = _; omega), I48, rfl, pH.cp hk48 (by omega)⟩)
                              · refine ar_bipush (k := 34) rfl (by decide) ?_
                                refine ar_iloadn (k := 35) rfl rfl ?_
                                refine ar_imul (k := 36) rfl ?_
                                refine ar_aloadn (k := 37) rfl rfl ?_
                                refine br_callV (k := 38) (as := []) rfl lvR_52 (hS.k (by decide)) rfl (c_R_here (p := ((p + 1) + 1)) hS hB hk48 (by (constructor <;> (dsimp only; omega))) rfl) rfl (by decide) (by decide) tw_m0 (Nat.le_of_ble_eq_true rfl) ?_
                                refine ar_iadd (k := 39) rfl ?_
                                refine ar_bipush (k := 40) rfl (by decide) ?_
                                refine ar_isub (k := 41) rfl ?_
                                refine ar_istoren (k := 42) (l2 := [(1, _), (2, _), (0, _)]) rfl (by decide) rfl ?_
                                refine ar_aloadn (k := 43) rfl rfl ?_
                                refine ar_dup (k := 44) rfl rfl ?_
                                refine br_getI (k := 45) rfl (hS.k (by decide)) flR_42_12 (by decide) rfl ?_
                                refine tw_top (y := ((p + 1) + 1)) (by exact hk48.2.2.1) ?_
                                refine ar_iconst (k := 46) rfl ?_
                                refine ar_iadd (k := 47) rfl ?_
                                refine br_putIJ (k := 48) rfl (hS.k (by decide)) flR_42_12 (by decide) rfl (fun _ _ _ q => by cases q; exact ⟨rfl, rfl⟩) (fun I48 e48 => ?_)
                                change _ = uI _ 69 5 _ at e48
                                have hk48 := pH.p5 hk48 e48 (y := ((p + 1) + 1) + 1) (by rfl)
                                refine ar_iinc (k := 49) (l2 := [(2, _), (1, _), (0, _)]) rfl (by decide) rfl rfl ?_
                                refine ar_goto (k := 50) rfl ?_
                                exfalso; omega
                    · refine ar_iloadn (k := 32) rfl rfl ?_
                      refine ar_if_le (k := 33) rfl (by omega) (fun c33 => ?_) (fun c33 => ?_)
                      · refine ar_iloadn (k := 51) rfl rfl ?_
                        refine ar_iret (k := 52) rfl rfl rfl (Nat.le_refl _) ?_
                        first
                          | (exfalso; omega)
                          | (rw [show pFig (tpe s) e (p, false, o) = (0, p, true, o) by rw [pFig]; rw [if_pos (by simp <;> omega)]]; exact ⟨congrArg (fun z => some (vi z)) (by show (_ : Int) = _; omega), I48, rfl, pH.cp hk48 (by omega)⟩)
                          | (rw [show pFig (tpe s) e (p, false, o) = (pHere (tpe s) e p - 48, p + 1, false, o) by rw [pFig]; rw [if_neg (by simp <;> omega), if_neg (by simp only []; omega)]]; exact ⟨congrArg (fun z => some (vi z)) (by show (_ : Int) = _; omega), I48, rfl, pH.cp hk48 (by omega)⟩)
                          | (rw [show pFig (tpe s) e (p, false, o) = (10 * (pHere (tpe s) e p - 48) + pHere (tpe s) e (p + 1) - 48, p + 2, false, o) by rw [pFig]; rw [if_neg (by simp <;> omega), if_pos (by simp only []; omega)]]; exact ⟨congrArg (fun z => some (vi z)) (by show (_ : Int) = _; omega), I48, rfl, pH.cp hk48 (by omega)⟩)
                      · refine ar_bipush (k := 34) rfl (by decide) ?_
                        refine ar_iloadn (k := 35) rfl rfl ?_
                        refine ar_imul (k := 36) rfl ?_
                        refine ar_aloadn (k := 37) rfl rfl ?_
                        refine br_callV (k := 38) (as := []) rfl lvR_52 (hS.k (by decide)) rfl (c_R_here (p := (p + 1)) hS hB hk48 (by (constructor <;> (dsimp only; omega))) rfl) rfl (by decide) (by decide) tw_m0 (Nat.le_of_ble_eq_true rfl) ?_
                        refine ar_iadd (k := 39) rfl ?_
                        refine ar_bipush (k := 40) rfl (by decide) ?_
                        refine ar_isub (k := 41) rfl ?_
                        refine ar_istoren (k := 42) (l2 := [(1, _), (2, _), (0, _)]) rfl (by decide) rfl ?_
                        refine ar_aloadn (k := 43) rfl rfl ?_
                        refine ar_dup (k := 44) rfl rfl ?_
                        refine br_getI (k := 45) rfl (hS.k (by decide)) flR_42_12 (by decide) rfl ?_
                        refine tw_top (y := (p + 1)) (by exact hk48.2.2.1) ?_
                        refine ar_iconst (k := 46) rfl ?_
                        refine ar_iadd (k := 47) rfl ?_
                        refine br_putIJ (k := 48) rfl (hS.k (by decide)) flR_42_12 (by decide) rfl (fun _ _ _ q => by cases q; exact ⟨rfl, rfl⟩) (fun I48 e48 => ?_)
                        change _ = uI _ 69 5 _ at e48
                        have hk48 := pH.p5 hk48 e48 (y := (p + 1) + 1) (by rfl)
                        refine ar_iinc (k := 49) (l2 := [(2, _), (1, _), (0, _)]) rfl (by decide) rfl rfl ?_
                        refine ar_goto (k := 50) rfl ?_
                        refine ar_iloadn (k := 18) rfl rfl ?_
                        refine ar_iconst (k := 19) rfl ?_
                        refine ar_icmp_ge (k := 20) rfl (by omega) (by omega) (fun c20 => ?_) (fun c20 => ?_)
                        · refine ar_iloadn (k := 51) rfl rfl ?_
                          refine ar_iret (k := 52) rfl rfl rfl (Nat.le_refl _) ?_
                          first
                            | (exfalso; omega)
                            | (rw [show pFig (tpe s) e (p, false, o) = (0, p, true, o) by rw [pFig]; rw [if_pos (by simp <;> omega)]]; exact ⟨congrArg (fun z => some (vi z)) (by show (_ : Int) = _; omega), I48, rfl, pH.cp hk48 (by omega)⟩)
                            | (rw [show pFig (tpe s) e (p, false, o) = (pHere (tpe s) e p - 48, p + 1, false, o) by rw [pFig]; rw [if_neg (by simp <;> omega), if_neg (by simp only []; omega)]]; exact ⟨congrArg (fun z => some (vi z)) (by show (_ : Int) = _; omega), I48, rfl, pH.cp hk48 (by omega)⟩)
                            | (rw [show pFig (tpe s) e (p, false, o) = (10 * (pHere (tpe s) e p - 48) + pHere (tpe s) e (p + 1) - 48, p + 2, false, o) by rw [pFig]; rw [if_neg (by simp <;> omega), if_pos (by simp only []; omega)]]; exact ⟨congrArg (fun z => some (vi z)) (by show (_ : Int) = _; omega), I48, rfl, pH.cp hk48 (by omega)⟩)
                        · refine ar_aloadn (k := 21) rfl rfl ?_
                          refine br_getI (k := 22) rfl (hS.k (by decide)) flR_48_12 (by decide) rfl ?_
                          refine tw_top (y := 0) (by exact hk48.2.2.2.2.1) ?_
                          refine ar_if_ne (k := 23) rfl (by omega) (fun c23 => ?_) (fun c23 => ?_)
                          · refine ar_iloadn (k := 51) rfl rfl ?_
                            refine ar_iret (k := 52) rfl rfl rfl (Nat.le_refl _) ?_
                            first
                              | (exfalso; omega)
                              | (rw [show pFig (tpe s) e (p, false, o) = (0, p, true, o) by rw [pFig]; rw [if_pos (by simp <;> omega)]]; exact ⟨congrArg (fun z => some (vi z)) (by show (_ : Int) = _; omega), I48, rfl, pH.cp hk48 (by omega)⟩)
                              | (rw [show pFig (tpe s) e (p, false, o) = (pHere (tpe s) e p - 48, p + 1, false, o) by rw [pFig]; rw [if_neg (by simp <;> omega), if_neg (by simp only []; omega)]]; exact ⟨congrArg (fun z => some (vi z)) (by show (_ : Int) = _; omega), I48, rfl, pH.cp hk48 (by omega)⟩)
                              | (rw [show pFig (tpe s) e (p, false, o) = (10 * (pHere (tpe s) e p - 48) + pHere (tpe s) e (p + 1) - 48, p + 2, false, o) by rw [pFig]; rw [if_neg (by simp <;> omega), if_pos (by simp only []; omega)]]; exact ⟨congrArg (fun z => some (vi z)) (by show (_ : Int) = _; omega), I48, rfl, pH.cp hk48 (by omega)⟩)
                          · refine ar_aloadn (k := 24) rfl rfl ?_
                            refine br_callV (k := 25) (as := []) rfl lvR_52 (hS.k (by decide)) rfl (c_R_here (p := ((p + 1) + 1)) hS hB hk48 (by (constructor <;> (dsimp only; omega))) rfl) rfl (by decide) (by decide) tw_m0 (Nat.le_of_ble_eq_true rfl) ?_
                            refine ar_bipush (k := 26) rfl (by decide) ?_
                            refine ar_bipush (k := 27) rfl (by decide) ?_
                            refine br_callS (k := 28) (as := [_, _, _]) rfl lsR_38 (c_R_in (by omega) (by omega) (by omega)) rfl (by decide) (by decide) tw_m0 (Nat.le_of_ble_eq_true rfl) ?_
                            refine ar_if_eq (k := 29) rfl (by omega) (fun c29 => ?_) (fun c29 => ?_)
                            · refine ar_iloadn (k := 51) rfl rfl ?_
                              refine ar_iret (k := 52) rfl rfl rfl (Nat.le_refl _) ?_
                              first
                                | (exfalso; omega)
                                | (rw [show pFig (tpe s) e (p, false, o) = (0, p, true, o) by rw [pFig]; rw [if_pos (by simp <;> omega)]]; exact ⟨congrArg (fun z => some (vi z)) (by show (_ : Int) = _; omega), I48, rfl, pH.cp hk48 (by omega)⟩)
                                | (rw [show pFig (tpe s) e (p, false, o) = (pHere (tpe s) e p - 48, p + 1, false, o) by rw [pFig]; rw [if_neg (by simp <;> omega), if_neg (by simp only []; omega)]]; exact ⟨congrArg (fun z => some (vi z)) (by show (_ : Int) = _; omega), I48, rfl, pH.cp hk48 (by omega)⟩)
                                | (rw [show pFig (tpe s) e (p, false, o) = (10 * (pHere (tpe s) e p - 48) + pHere (tpe s) e (p + 1) - 48, p + 2, false, o) by rw [pFig]; rw [if_neg (by simp <;> omega), if_pos (by simp only []; omega)]]; exact ⟨congrArg (fun z => some (vi z)) (by show (_ : Int) = _; omega), I48, rfl, pH.cp hk48 (by omega)⟩)
                            · refine ar_iloadn (k := 30) rfl rfl ?_
                              refine ar_if_eq (k := 31) rfl (by omega) (fun c31 => ?_) (fun c31 => ?_)
                              · refine ar_bipush (k := 34) rfl (by decide) ?_
                                refine ar_iloadn (k := 35) rfl rfl ?_
                                refine ar_imul (k := 36) rfl ?_
                                refine ar_aloadn (k := 37) rfl rfl ?_
                                refine br_callV (k := 38) (as := []) rfl lvR_52 (hS.k (by decide)) rfl (c_R_here (p := ((p + 1) + 1)) hS hB hk48 (by (constructor <;> (dsimp only; omega))) rfl) rfl (by decide) (by decide) tw_m0 (Nat.le_of_ble_eq_true rfl) ?_
                                refine ar_iadd (k := 39) rfl ?_
                                refine ar_bipush (k := 40) rfl (by decide) ?_
                                refine ar_isub (k := 41) rfl ?_
                                refine ar_istoren (k := 42) (l2 := [(1, _), (2, _), (0, _)]) rfl (by decide) rfl ?_
                                refine ar_aloadn (k := 43) rfl rfl ?_
                                refine ar_dup (k := 44) rfl rfl ?_
                                refine br_getI (k := 45) rfl (hS.k (by decide)) flR_42_12 (by decide) rfl ?_
                                refine tw_top (y := ((p + 1) + 1)) (by exact hk48.2.2.1) ?_
                                refine ar_iconst (k := 46) rfl ?_
                                refine ar_iadd (k := 47) rfl ?_
                                refine br_putIJ (k := 48) rfl (hS.k (by decide)) flR_42_12 (by decide) rfl (fun _ _ _ q => by cases q; exact ⟨rfl, rfl⟩) (fun I48 e48 => ?_)
                                change _ = uI _ 69 5 _ at e48
                                have hk48 := pH.p5 hk48 e48 (y := ((p + 1) + 1) + 1) (by rfl)
                                refine ar_iinc (k := 49) (l2 := [(2, _), (1, _), (0, _)]) rfl (by decide) rfl rfl ?_
                                refine ar_goto (k := 50) rfl ?_
                                exfalso; omega
                              · refine ar_iloadn (k := 32) rfl rfl ?_
                                refine ar_if_le (k := 33) rfl (by omega) (fun c33 => ?_) (fun c33 => ?_)
                                · refine ar_iloadn (k := 51) rfl rfl ?_
                                  refine ar_iret (k := 52) rfl rfl rfl (Nat.le_refl _) ?_
                                  first
                                    | (exfalso; omega)
                                    | (rw [show pFig (tpe s) e (p, false, o) = (0, p, true, o) by rw [pFig]; rw [if_pos (by simp <;> omega)]]; exact ⟨congrArg (fun z => some (vi z)) (by show (_ : Int) = _; omega), I48, rfl, pH.cp hk48 (by omega)⟩)
                                    | (rw [show pFig (tpe s) e (p, false, o) = (pHere (tpe s) e p - 48, p + 1, false, o) by rw [pFig]; rw [if_neg (by simp <;> omega), if_neg (by simp only []; omega)]]; exact ⟨congrArg (fun z => some (vi z)) (by show (_ : Int) = _; omega), I48, rfl, pH.cp hk48 (by omega)⟩)
                                    | (rw [show pFig (tpe s) e (p, false, o) = (10 * (pHere (tpe s) e p - 48) + pHere (tpe s) e (p + 1) - 48, p + 2, false, o) by rw [pFig]; rw [if_neg (by simp <;> omega), if_pos (by simp only []; omega)]]; exact ⟨congrArg (fun z => some (vi z)) (by show (_ : Int) = _; omega), I48, rfl, pH.cp hk48 (by omega)⟩)
                                · refine ar_bipush (k := 34) rfl (by decide) ?_
                                  refine ar_iloadn (k := 35) rfl rfl ?_
                                  refine ar_imul (k := 36) rfl ?_
                                  refine ar_aloadn (k := 37) rfl rfl ?_
                                  refine br_callV (k := 38) (as := []) rfl lvR_52 (hS.k (by decide)) rfl (c_R_here (p := ((p + 1) + 1)) hS hB hk48 (by (constructor <;> (dsimp only; omega))) rfl) rfl (by decide) (by decide) tw_m0 (Nat.le_of_ble_eq_true rfl) ?_
                                  refine ar_iadd (k := 39) rfl ?_
                                  refine ar_bipush (k := 40) rfl (by decide) ?_
                                  refine ar_isub (k := 41) rfl ?_
                                  refine ar_istoren (k := 42) (l2 := [(1, _), (2, _), (0, _)]) rfl (by decide) rfl ?_
                                  refine ar_aloadn (k := 43) rfl rfl ?_
                                  refine ar_dup (k := 44) rfl rfl ?_
                                  refine br_getI (k := 45) rfl (hS.k (by decide)) flR_42_12 (by decide) rfl ?_
                                  refine tw_top (y := ((p + 1) + 1)) (by exact hk48.2.2.1) ?_
                                  refine ar_iconst (k := 46) rfl ?_
                                  refine ar_iadd (k := 47) rfl ?_
                                  refine br_putIJ (k := 48) rfl (hS.k (by decide)) flR_42_12 (by decide) rfl (fun _ _ _ q => by cases q; exact ⟨rfl, rfl⟩) (fun I48 e48 => ?_)
                                  change _ = uI _ 69 5 _ at e48
                                  have hk48 := pH.p5 hk48 e48 (y := ((p + 1) + 1) + 1) (by rfl)
                                  refine ar_iinc (k := 49) (l2 := [(2, _), (1, _), (0, _)]) rfl (by decide) rfl rfl ?_
                                  refine ar_goto (k := 50) rfl ?_
                                  exfalso; omega
            · refine ar_iloadn (k := 32) rfl rfl ?_
              refine ar_if_le (k := 33) rfl (by omega) (fun c33 => ?_) (fun c33 => ?_)
              · refine ar_iloadn (k := 51) rfl rfl ?_
                refine ar_iret (k := 52) rfl rfl rfl (Nat.le_refl _) ?_
                first
                  | (exfalso; omega)
                  | (rw [show pFig (tpe s) e (p, false, o) = (0, p, true, o) by rw [pFig]; rw [if_pos (by simp <;> omega)]]; exact ⟨congrArg (fun z => some (vi z)) (by show (_ : Int) = _; omega), I13, rfl, pH.cp hk13 (by omega)⟩)
                  | (rw [show pFig (tpe s) e (p, false, o) = (pHere (tpe s) e p - 48, p + 1, false, o) by rw [pFig]; rw [if_neg (by simp <;> omega), if_neg (by simp only []; omega)]]; exact ⟨congrArg (fun z => some (vi z)) (by show (_ : Int) = _; omega), I13, rfl, pH.cp hk13 (by omega)⟩)
                  | (rw [show pFig (tpe s) e (p, false, o) = (10 * (pHere (tpe s) e p - 48) + pHere (tpe s) e (p + 1) - 48, p + 2, false, o) by rw [pFig]; rw [if_neg (by simp <;> omega), if_pos (by simp only []; omega)]]; exact ⟨congrArg (fun z => some (vi z)) (by show (_ : Int) = _; omega), I13, rfl, pH.cp hk13 (by omega)⟩)
              · refine ar_bipush (k := 34) rfl (by decide) ?_
                refine ar_iloadn (k := 35) rfl rfl ?_
                refine ar_imul (k := 36) rfl ?_
                refine ar_aloadn (k := 37) rfl rfl ?_
                refine br_callV (k := 38) (as := []) rfl lvR_52 (hS.k (by decide)) rfl (c_R_here (p := p) hS hB hk13 (by (constructor <;> (dsimp only; omega))) rfl) rfl (by decide) (by decide) tw_m0 (Nat.le_of_ble_eq_true rfl) ?_
                refine ar_iadd (k := 39) rfl ?_
                refine ar_bipush (k := 40) rfl (by decide) ?_
                refine ar_isub (k := 41) rfl ?_
                refine ar_istoren (k := 42) (l2 := [(1, _), (2, _), (0, _)]) rfl (by decide) rfl ?_
                refine ar_aloadn (k := 43) rfl rfl ?_
                refine ar_dup (k := 44) rfl rfl ?_
                refine br_getI (k := 45) rfl (hS.k (by decide)) flR_42_12 (by decide) rfl ?_
                refine tw_top (y := p) (by exact hk13.2.2.1) ?_
                refine ar_iconst (k := 46) rfl ?_
                refine ar_iadd (k := 47) rfl ?_
                refine br_putIJ (k := 48) rfl (hS.k (by decide)) flR_42_12 (by decide) rfl (fun _ _ _ q => by cases q; exact ⟨rfl, rfl⟩) (fun I48 e48 => ?_)
                change _ = uI _ 69 5 _ at e48
                have hk48 := pH.p5 hk13 e48 (y := p + 1) (by rfl)
                refine ar_iinc (k := 49) (l2 := [(2, _), (1, _), (0, _)]) rfl (by decide) rfl rfl ?_
                refine ar_goto (k := 50) rfl ?_
                refine ar_iloadn (k := 18) rfl rfl ?_
                refine ar_iconst (k := 19) rfl ?_
                refine ar_icmp_ge (k := 20) rfl (by omega) (by omega) (fun c20 => ?_) (fun c20 => ?_)
                · refine ar_iloadn (k := 51) rfl rfl ?_
                  refine ar_iret (k := 52) rfl rfl rfl (Nat.le_refl _) ?_
                  first
                    | (exfalso; omega)
                    | (rw [show pFig (tpe s) e (p, false, o) = (0, p, true, o) by rw [pFig]; rw [if_pos (by simp <;> omega)]]; exact ⟨congrArg (fun z => some (vi z)) (by show (_ : Int) = _; omega), I48, rfl, pH.cp hk48 (by omega)⟩)
                    | (rw [show pFig (tpe s) e (p, false, o) = (pHere (tpe s) e p - 48, p + 1, false, o) by rw [pFig]; rw [if_neg (by simp <;> omega), if_neg (by simp only []; omega)]]; exact ⟨congrArg (fun z => some (vi z)) (by show (_ : Int) = _; omega), I48, rfl, pH.cp hk48 (by omega)⟩)
                    | (rw [show pFig (tpe s) e (p, false, o) = (10 * (pHere (tpe s) e p - 48) + pHere (tpe s) e (p + 1) - 48, p + 2, false, o) by rw [pFig]; rw [if_neg (by simp <;> omega), if_pos (by simp only []; omega)]]; exact ⟨congrArg (fun z => some (vi z)) (by show (_ : Int) = _; omega), I48, rfl, pH.cp hk48 (by omega)⟩)
                · refine ar_aloadn (k := 21) rfl rfl ?_
                  refine br_getI (k := 22) rfl (hS.k (by decide)) flR_48_12 (by decide) rfl ?_
                  refine tw_top (y := 0) (by exact hk48.2.2.2.2.1) ?_
                  refine ar_if_ne (k := 23) rfl (by omega) (fun c23 => ?_) (fun c23 => ?_)
                  · refine ar_iloadn (k := 51) rfl rfl ?_
                    refine ar_iret (k := 52) rfl rfl rfl (Nat.le_refl _) ?_
                    first
                      | (exfalso; omega)
                      | (rw [show pFig (tpe s) e (p, false, o) = (0, p, true, o) by rw [pFig]; rw [if_pos (by simp <;> omega)]]; exact ⟨congrArg (fun z => some (vi z)) (by show (_ : Int) = _; omega), I48, rfl, pH.cp hk48 (by omega)⟩)
                      | (rw [show pFig (tpe s) e (p, false, o) = (pHere (tpe s) e p - 48, p + 1, false, o) by rw [pFig]; rw [if_neg (by simp <;> omega), if_neg (by simp only []; omega)]]; exact ⟨congrArg (fun z => some (vi z)) (by show (_ : Int) = _; omega), I48, rfl, pH.cp hk48 (by omega)⟩)
                      | (rw [show pFig (tpe s) e (p, false, o) = (10 * (pHere (tpe s) e p - 48) + pHere (tpe s) e (p + 1) - 48, p + 2, false, o) by rw [pFig]; rw [if_neg (by simp <;> omega), if_pos (by simp only []; omega)]]; exact ⟨congrArg (fun z => some (vi z)) (by show (_ : Int) = _; omega), I48, rfl, pH.cp hk48 (by omega)⟩)
                  · refine ar_aloadn (k := 24) rfl rfl ?_
                    refine br_callV (k := 25) (as := []) rfl lvR_52 (hS.k (by decide)) rfl (c_R_here (p := (p + 1)) hS hB hk48 (by (constructor <;> (dsimp only; omega))) rfl) rfl (by decide) (by decide) tw_m0 (Nat.le_of_ble_eq_true rfl) ?_
                    refine ar_bipush (k := 26) rfl (by decide) ?_
                    refine ar_bipush (k := 27) rfl (by decide) ?_
                    refine br_callS (k := 28) (as := [_, _, _]) rfl lsR_38 (c_R_in (by omega) (by omega) (by omega)) rfl (by decide) (by decide) tw_m0 (Nat.le_of_ble_eq_true rfl) ?_
                    refine ar_if_eq (k := 29) rfl (by omega) (fun c29 => ?_) (fun c29 => ?_)
                    · refine ar_iloadn (k := 51) rfl rfl ?_
                      refine ar_iret (k := 52) rfl rfl rfl (Nat.le_refl _) ?_
                      first
                        | (exfalso; omega)
                        | (rw [show pFig (tpe s) e (p, false, o) = (0, p, true, o) by rw [pFig]; rw [if_pos (by simp <;> omega)]]; exact ⟨congrArg (fun z => some (vi z)) (by show (_ : Int) = _; omega), I48, rfl, pH.cp hk48 (by omega)⟩)
                        | (rw [show pFig (tpe s) e (p, false, o) = (pHere (tpe s) e p - 48, p + 1, false, o) by rw [pFig]; rw [if_neg (by simp <;> omega), if_neg (by simp only []; omega)]]; exact ⟨congrArg (fun z => some (vi z)) (by show (_ : Int) = _; omega), I48, rfl, pH.cp hk48 (by omega)⟩)
                        | (rw [show pFig (tpe s) e (p, false, o) = (10 * (pHere (tpe s) e p - 48) + pHere (tpe s) e (p + 1) - 48, p + 2, false, o) by rw [pFig]; rw [if_neg (by simp <;> omega), if_pos (by simp only []; omega)]]; exact ⟨congrArg (fun z => some (vi z)) (by show (_ : Int) = _; omega), I48, rfl, pH.cp hk48 (by omega)⟩)
                    · refine ar_iloadn (k := 30) rfl rfl ?_
                      refine ar_if_eq (k := 31) rfl (by omega) (fun c31 => ?_) (fun c31 => ?_)
                      · refine ar_bipush (k := 34) rfl (by decide) ?_
                        refine ar_iloadn (k := 35) rfl rfl ?_
                        refine ar_imul (k := 36) rfl ?_
                        refine ar_aloadn (k := 37) rfl rfl ?_
                        refine br_callV (k := 38) (as := []) rfl lvR_52 (hS.k (by decide)) rfl (c_R_here (p := (p + 1)) hS hB hk48 (by (constructor <;> (dsimp only; omega))) rfl) rfl (by decide) (by decide) tw_m0 (Nat.le_of_ble_eq_true rfl) ?_
                        refine ar_iadd (k := 39) rfl ?_
                        refine ar_bipush (k := 40) rfl (by decide) ?_
                        refine ar_isub (k := 41) rfl ?_
                        refine ar_istoren (k := 42) (l2 := [(1, _), (2, _), (0, _)]) rfl (by decide) rfl ?_
                        refine ar_aloadn (k := 43) rfl rfl ?_
                        refine ar_dup (k := 44) rfl rfl ?_
                        refine br_getI (k := 45) rfl (hS.k (by decide)) flR_42_12 (by decide) rfl ?_
                        refine tw_top (y := (p + 1)) (by exact hk48.2.2.1) ?_
                        refine ar_iconst (k := 46) rfl ?_
                        refine ar_iadd (k := 47) rfl ?_
                        refine br_putIJ (k := 48) rfl (hS.k (by decide)) flR_42_12 (by decide) rfl (fun _ _ _ q => by cases q; exact ⟨rfl, rfl⟩) (fun I48 e48 => ?_)
                        change _ = uI _ 69 5 _ at e48
                        have hk48 := pH.p5 hk48 e48 (y := (p + 1) + 1) (by rfl)
                        refine ar_iinc (k := 49) (l2 := [(2, _), (1, _), (0, _)]) rfl (by decide) rfl rfl ?_
                        refine ar_goto (k := 50) rfl ?_
                        refine ar_iloadn (k := 18) rfl rfl ?_
                        refine ar_iconst (k := 19) rfl ?_
                        refine ar_icmp_ge (k := 20) rfl (by omega) (by omega) (fun c20 => ?_) (fun c20 => ?_)
                        · refine ar_iloadn (k := 51) rfl rfl ?_
                          refine ar_iret (k := 52) rfl rfl rfl (Nat.le_refl _) ?_
                          first
                            | (exfalso; omega)
                            | (rw [show pFig (tpe s) e (p, false, o) = (0, p, true, o) by rw [pFig]; rw [if_pos (by simp <;> omega)]]; exact ⟨congrArg (fun z => some (vi z)) (by show (_ : Int) = _; omega), I48, rfl, pH.cp hk48 (by omega)⟩)
                            | (rw [show pFig (tpe s) e (p, false, o) = (pHere (tpe s) e p - 48, p + 1, false, o) by rw [pFig]; rw [if_neg (by simp <;> omega), if_neg (by simp only []; omega)]]; exact ⟨congrArg (fun z => some (vi z)) (by show (_ : Int) = _; omega), I48, rfl, pH.cp hk48 (by omega)⟩)
                            | (rw [show pFig (tpe s) e (p, false, o) = (10 * (pHere (tpe s) e p - 48) + pHere (tpe s) e (p + 1) - 48, p + 2, false, o) by rw [pFig]; rw [if_neg (by simp <;> omega), if_pos (by simp only []; omega)]]; exact ⟨congrArg (fun z => some (vi z)) (by show (_ : Int) = _; omega), I48, rfl, pH.cp hk48 (by omega)⟩)
                        · refine ar_aloadn (k := 21) rfl rfl ?_
                          refine br_getI (k := 22) rfl (hS.k (by decide)) flR_48_12 (by decide) rfl ?_
                          refine tw_top (y := 0) (by exact hk48.2.2.2.2.1) ?_
                          refine ar_if_ne (k := 23) rfl (by omega) (fun c23 => ?_) (fun c23 => ?_)
                          · refine ar_iloadn (k := 51) rfl rfl ?_
                            refine ar_iret (k := 52) rfl rfl rfl (Nat.le_refl _) ?_
                            first
                              | (exfalso; omega)
                              | (rw [show pFig (tpe s) e (p, false, o) = (0, p, true, o) by rw [pFig]; rw [if_pos (by simp <;> omega)]]; exact ⟨congrArg (fun z => some (vi z)) (by show (_ : Int) = _; omega), I48, rfl, pH.cp hk48 (by omega)⟩)
                              | (rw [show pFig (tpe s) e (p, false, o) = (pHere (tpe s) e p - 48, p + 1, false, o) by rw [pFig]; rw [if_neg (by simp <;> omega), if_neg (by simp only []; omega)]]; exact ⟨congrArg (fun z => some (vi z)) (by show (_ : Int) = _; omega), I48, rfl, pH.cp hk48 (by omega)⟩)
                              | (rw [show pFig (tpe s) e (p, false, o) = (10 * (pHere (tpe s) e p - 48) + pHere (tpe s) e (p + 1) - 48, p + 2, false, o) by rw [pFig]; rw [if_neg (by simp <;> omega), if_pos (by simp only []; omega)]]; exact ⟨congrArg (fun z => some (vi z)) (by show (_ : Int) = _; omega), I48, rfl, pH.cp hk48 (by omega)⟩)
                          · refine ar_aloadn (k := 24) rfl rfl ?_
                            refine br_callV (k := 25) (as := []) rfl lvR_52 (hS.k (by decide)) rfl (c_R_here (p := ((p + 1) + 1)) hS hB hk48 (by (constructor <;> (dsimp only; omega))) rfl) rfl (by decide) (by decide) tw_m0 (Nat.le_of_ble_eq_true rfl) ?_
                            refine ar_bipush (k := 26) rfl (by decide) ?_
                            refine ar_bipush (k := 27) rfl (by decide) ?_
                            refine br_callS (k := 28) (as := [_, _, _]) rfl lsR_38 (c_R_in (by omega) (by omega) (by omega)) rfl (by decide) (by decide) tw_m0 (Nat.le_of_ble_eq_true rfl) ?_
                            refine ar_if_eq (k := 29) rfl (by omega) (fun c29 => ?_) (fun c29 => ?_)
                            · refine ar_iloadn (k := 51) rfl rfl ?_
                              refine ar_iret (k := 52) rfl rfl rfl (Nat.le_refl _) ?_
                              first
                                | (exfalso; omega)
                                | (rw [show pFig (tpe s) e (p, false, o) = (0, p, true, o) by rw [pFig]; rw [if_pos (by simp <;> omega)]]; exact ⟨congrArg (fun z => some (vi z)) (by show (_ : Int) = _; omega), I48, rfl, pH.cp hk48 (by omega)⟩)
                                | (rw [show pFig (tpe s) e (p, false, o) = (pHere (tpe s) e p - 48, p + 1, false, o) by rw [pFig]; rw [if_neg (by simp <;> omega), if_neg (by simp only []; omega)]]; exact ⟨congrArg (fun z => some (vi z)) (by show (_ : Int) = _; omega), I48, rfl, pH.cp hk48 (by omega)⟩)
                                | (rw [show pFig (tpe s) e (p, false, o) = (10 * (pHere (tpe s) e p - 48) + pHere (tpe s) e (p + 1) - 48, p + 2, false, o) by rw [pFig]; rw [if_neg (by simp <;> omega), if_pos (by simp only []; omega)]]; exact ⟨congrArg (fun z => some (vi z)) (by show (_ : Int) = _; omega), I48, rfl, pH.cp hk48 (by omega)⟩)
                            · refine ar_iloadn (k := 30) rfl rfl ?_
                              refine ar_if_eq (k := 31) rfl (by omega) (fun c31 => ?_) (fun c31 => ?_)
                              · refine ar_bipush (k := 34) rfl (by decide) ?_
                                refine ar_iloadn (k := 35) rfl rfl ?_
                                refine ar_imul (k := 36) rfl ?_
                                refine ar_aloadn (k := 37) rfl rfl ?_
                                refine br_callV (k := 38) (as := []) rfl lvR_52 (hS.k (by decide)) rfl (c_R_here (p := ((p + 1) + 1)) hS hB hk48 (by (constructor <;> (dsimp only; omega))) rfl) rfl (by decide) (by decide) tw_m0 (Nat.le_of_ble_eq_true rfl) ?_
                                refine ar_iadd (k := 39) rfl ?_
                                refine ar_bipush (k := 40) rfl (by decide) ?_
                                refine ar_isub (k := 41) rfl ?_
                                refine ar_istoren (k := 42) (l2 := [(1, _), (2, _), (0, _)]) rfl (by decide) rfl ?_
                                refine ar_aloadn (k := 43) rfl rfl ?_
                                refine ar_dup (k := 44) rfl rfl ?_
                                refine br_getI (k := 45) rfl (hS.k (by decide)) flR_42_12 (by decide) rfl ?_
                                refine tw_top (y := ((p + 1) + 1)) (by exact hk48.2.2.1) ?_
                                refine ar_iconst (k := 46) rfl ?_
                                refine ar_iadd (k := 47) rfl ?_
                                refine br_putIJ (k := 48) rfl (hS.k (by decide)) flR_42_12 (by decide) rfl (fun _ _ _ q => by cases q; exact ⟨rfl, rfl⟩) (fun I48 e48 => ?_)
                                change _ = uI _ 69 5 _ at e48
                                have hk48 := pH.p5 hk48 e48 (y := ((p + 1) + 1) + 1) (by rfl)
                                refine ar_iinc (k := 49) (l2 := [(2, _), (1, _), (0, _)]) rfl (by decide) rfl rfl ?_
                                refine ar_goto (k := 50) rfl ?_
                                exfalso; omega
                              · refine ar_iloadn (k := 32) rfl rfl ?_
                                refine ar_if_le (k := 33) rfl (by omega) (fun c33 => ?_) (fun c33 => ?_)
                                · refine ar_iloadn (k := 51) rfl rfl ?_
                                  refine ar_iret (k := 52) rfl rfl rfl (Nat.le_refl _) ?_
                                  first
                                    | (exfalso; omega)
                                    | (rw [show pFig (tpe s) e (p, false, o) = (0, p, true, o) by rw [pFig]; rw [if_pos (by simp <;> omega)]]; exact ⟨congrArg (fun z => some (vi z)) (by show (_ : Int) = _; omega), I48, rfl, pH.cp hk48 (by omega)⟩)
                                    | (rw [show pFig (tpe s) e (p, false, o) = (pHere (tpe s) e p - 48, p + 1, false, o) by rw [pFig]; rw [if_neg (by simp <;> omega), if_neg (by simp only []; omega)]]; exact ⟨congrArg (fun z => some (vi z)) (by show (_ : Int) = _; omega), I48, rfl, pH.cp hk48 (by omega)⟩)
                                    | (rw [show pFig (tpe s) e (p, false, o) = (10 * (pHere (tpe s) e p - 48) + pHere (tpe s) e (p + 1) - 48, p + 2, false, o) by rw [pFig]; rw [if_neg (by simp <;> omega), if_pos (by simp only []; omega)]]; exact ⟨congrArg (fun z => some (vi z)) (by show (_ : Int) = _; omega), I48, rfl, pH.cp hk48 (by omega)⟩)
                                · refine ar_bipush (k := 34) rfl (by decide) ?_
                                  refine ar_iloadn (k := 35) rfl rfl ?_
                                  refine ar_imul (k := 36) rfl ?_
                                  refine ar_aloadn (k := 37) rfl rfl ?_
                                  refine br_callV (k := 38) (as := []) rfl lvR_52 (hS.k (by decide)) rfl (c_R_here (p := ((p + 1) + 1)) hS hB hk48 (by (constructor <;> (dsimp only; omega))) rfl) rfl (by decide) (by decide) tw_m0 (Nat.le_of_ble_eq_true rfl) ?_
                                  refine ar_iadd (k := 39) rfl ?_
                                  refine ar_bipush (k := 40) rfl (by decide) ?_
                                  refine ar_isub (k := 41) rfl ?_
                                  refine ar_istoren (k := 42) (l2 := [(1, _), (2, _), (0, _)]) rfl (by decide) rfl ?_
                                  refine ar_aloadn (k := 43) rfl rfl ?_
                                  refine ar_dup (k := 44) rfl rfl ?_
                                  refine br_getI (k := 45) rfl (hS.k (by decide)) flR_42_12 (by decide) rfl ?_
                                  refine tw_top (y := ((p + 1) + 1)) (by exact hk48.2.2.1) ?_
                                  refine ar_iconst (k := 46) rfl ?_
                                  refine ar_iadd (k := 47) rfl ?_
                                  refine br_putIJ (k := 48) rfl (hS.k (by decide)) flR_42_12 (by decide) rfl (fun _ _ _ q => by cases q; exact ⟨rfl, rfl⟩) (fun I48 e48 => ?_)
                                  change _ = uI _ 69 5 _ at e48
                                  have hk48 := pH.p5 hk48 e48 (y := ((p + 1) + 1) + 1) (by rfl)
                                  refine ar_iinc (k := 49) (l2 := [(2, _), (1, _), (0, _)]) rfl (by decide) rfl rfl ?_
                                  refine ar_goto (k := 50) rfl ?_
                                  exfalso; omega
                      · refine ar_iloadn (k := 32) rfl rfl ?_
                        refine ar_if_le (k := 33) rfl (by omega) (fun c33 => ?_) (fun c33 => ?_)
                        · refine ar_iloadn (k := 51) rfl rfl ?_
                          refine ar_iret (k := 52) rfl rfl rfl (Nat.le_refl _) ?_
                          first
                            | (exfalso; omega)
                            | (rw [show pFig (tpe s) e (p, false, o) = (0, p, true, o) by rw [pFig]; rw [if_pos (by simp <;> omega)]]; exact ⟨congrArg (fun z => some (vi z)) (by show (_ : Int) = _; omega), I48, rfl, pH.cp hk48 (by omega)⟩)
                            | (rw [show pFig (tpe s) e (p, false, o) = (pHere (tpe s) e p - 48, p + 1, false, o) by rw [pFig]; rw [if_neg (by simp <;> omega), if_neg (by simp only []; omega)]]; exact ⟨congrArg (fun z => some (vi z)) (by show (_ : Int) = _; omega), I48, rfl, pH.cp hk48 (by omega)⟩)
                            | (rw [show pFig (tpe s) e (p, false, o) = (10 * (pHere (tpe s) e p - 48) + pHere (tpe s) e (p + 1) - 48, p + 2, false, o) by rw [pFig]; rw [if_neg (by simp <;> omega), if_pos (by simp only []; omega)]]; exact ⟨congrArg (fun z => some (vi z)) (by show (_ : Int) = _; omega), I48, rfl, pH.cp hk48 (by omega)⟩)
                        · refine ar_bipush (k := 34) rfl (by decide) ?_
                          refine ar_iloadn (k := 35) rfl rfl ?_
                          refine ar_imul (k := 36) rfl ?_
                          refine ar_aloadn (k := 37) rfl rfl ?_
                          refine br_callV (k := 38) (as := []) rfl lvR_52 (hS.k (by decide)) rfl (c_R_here (p := (p + 1)) hS hB hk48 (by (constructor <;> (dsimp only; omega))) rfl) rfl (by decide) (by decide) tw_m0 (Nat.le_of_ble_eq_true rfl) ?_
                          refine ar_iadd (k := 39) rfl ?_
                          refine ar_bipush (k := 40) rfl (by decide) ?_
                          refine ar_isub (k := 41) rfl ?_
                          refine ar_istoren (k := 42) (l2 := [(1, _), (2, _), (0, _)]) rfl (by decide) rfl ?_
                          refine ar_aloadn (k := 43) rfl rfl ?_
                          refine ar_dup (k := 44) rfl rfl ?_
                          refine br_getI (k := 45) rfl (hS.k (by decide)) flR_42_12 (by decide) rfl ?_
                          refine tw_top (y := (p + 1)) (by exact hk48.2.2.1) ?_
                          refine ar_iconst (k := 46) rfl ?_
                          refine ar_iadd (k := 47) rfl ?_
                          refine br_putIJ (k := 48) rfl (hS.k (by decide)) flR_42_12 (by decide) rfl (fun _ _ _ q => by cases q; exact ⟨rfl, rfl⟩) (fun I48 e48 => ?_)
                          change _ = uI _ 69 5 _ at e48
                          have hk48 := pH.p5 hk48 e48 (y := (p + 1) + 1) (by rfl)
                          refine ar_iinc (k := 49) (l2 := [(2, _), (1, _), (0, _)]) rfl (by decide) rfl rfl ?_
                          refine ar_goto (k := 50) rfl ?_
                          refine ar_iloadn (k := 18) rfl rfl ?_
                          refine ar_iconst (k := 19) rfl ?_
                          refine ar_icmp_ge (k := 20) rfl (by omega) (by omega) (fun c20 => ?_) (fun c20 => ?_)
                          · refine ar_iloadn (k := 51) rfl rfl ?_
                            refine ar_iret (k := 52) rfl rfl rfl (Nat.le_refl _) ?_
                            first
                              | (exfalso; omega)
                              | (rw [show pFig (tpe s) e (p, false, o) = (0, p, true, o) by rw [pFig]; rw [if_pos (by simp <;> omega)]]; exact ⟨congrArg (fun z => some (vi z)) (by show (_ : Int) = _; omega), I48, rfl, pH.cp hk48 (by omega)⟩)
                              | (rw [show pFig (tpe s) e (p, false, o) = (pHere (tpe s) e p - 48, p + 1, false, o) by rw [pFig]; rw [if_neg (by simp <;> omega), if_neg (by simp only []; omega)]]; exact ⟨congrArg (fun z => some (vi z)) (by show (_ : Int) = _; omega), I48, rfl, pH.cp hk48 (by omega)⟩)
                              | (rw [show pFig (tpe s) e (p, false, o) = (10 * (pHere (tpe s) e p - 48) + pHere (tpe s) e (p + 1) - 48, p + 2, false, o) by rw [pFig]; rw [if_neg (by simp <;> omega), if_pos (by simp only []; omega)]]; exact ⟨congrArg (fun z => some (vi z)) (by show (_ : Int) = _; omega), I48, rfl, pH.cp hk48 (by omega)⟩)
                          · refine ar_aloadn (k := 21) rfl rfl ?_
                            refine br_getI (k := 22) rfl (hS.k (by decide)) flR_48_12 (by decide) rfl ?_
                            refine tw_top (y := 0) (by exact hk48.2.2.2.2.1) ?_
                            refine ar_if_ne (k := 23) rfl (by omega) (fun c23 => ?_) (fun c23 => ?_)
                            · refine ar_iloadn (k := 51) rfl rfl ?_
                              refine ar_iret (k := 52) rfl rfl rfl (Nat.le_refl _) ?_
                              first
                                | (exfalso; omega)
                                | (rw [show pFig (tpe s) e (p, false, o) = (0, p, true, o) by rw [pFig]; rw [if_pos (by simp <;> omega)]]; exact ⟨congrArg (fun z => some (vi z)) (by show (_ : Int) = _; omega), I48, rfl, pH.cp hk48 (by omega)⟩)
                                | (rw [show pFig (tpe s) e (p, false, o) = (pHere (tpe s) e p - 48, p + 1, false, o) by rw [pFig]; rw [if_neg (by simp <;> omega), if_neg (by simp only []; omega)]]; exact ⟨congrArg (fun z => some (vi z)) (by show (_ : Int) = _; omega), I48, rfl, pH.cp hk48 (by omega)⟩)
                                | (rw [show pFig (tpe s) e (p, false, o) = (10 * (pHere (tpe s) e p - 48) + pHere (tpe s) e (p + 1) - 48, p + 2, false, o) by rw [pFig]; rw [if_neg (by simp <;> omega), if_pos (by simp only []; omega)]]; exact ⟨congrArg (fun z => some (vi z)) (by show (_ : Int) = _; omega), I48, rfl, pH.cp hk48 (by omega)⟩)
                            · refine ar_aloadn (k := 24) rfl rfl ?_
                              refine br_callV (k := 25) (as := []) rfl lvR_52 (hS.k (by decide)) rfl (c_R_here (p := ((p + 1) + 1)) hS hB hk48 (by (constructor <;> (dsimp only; omega))) rfl) rfl (by decide) (by decide) tw_m0 (Nat.le_of_ble_eq_true rfl) ?_
                              refine ar_bipush (k := 26) rfl (by decide) ?_
                              refine ar_bipush (k := 27) rfl (by decide) ?_
                              refine br_callS (k := 28) (as := [_, _, _]) rfl lsR_38 (c_R_in (by omega) (by omega) (by omega)) rfl (by decide) (by decide) tw_m0 (Nat.le_of_ble_eq_true rfl) ?_
                              refine ar_if_eq (k := 29) rfl (by omega) (fun c29 => ?_) (fun c29 => ?_)
                              · refine ar_iloadn (k := 51) rfl rfl ?_
                                refine ar_iret (k := 52) rfl rfl rfl (Nat.le_refl _) ?_
                                first
                                  | (exfalso; omega)
                                  | (rw [show pFig (tpe s) e (p, false, o) = (0, p, true, o) by rw [pFig]; rw [if_pos (by simp <;> omega)]]; exact ⟨congrArg (fun z => some (vi z)) (by show (_ : Int) = _; omega), I48, rfl, pH.cp hk48 (by omega)⟩)
                                  | (rw [show pFig (tpe s) e (p, false, o) = (pHere (tpe s) e p - 48, p + 1, false, o) by rw [pFig]; rw [if_neg (by simp <;> omega), if_neg (by simp only []; omega)]]; exact ⟨congrArg (fun z => some (vi z)) (by show (_ : Int) = _; omega), I48, rfl, pH.cp hk48 (by omega)⟩)
                                  | (rw [show pFig (tpe s) e (p, false, o) = (10 * (pHere (tpe s) e p - 48) + pHere (tpe s) e (p + 1) - 48, p + 2, false, o) by rw [pFig]; rw [if_neg (by simp <;> omega), if_pos (by simp only []; omega)]]; exact ⟨congrArg (fun z => some (vi z)) (by show (_ : Int) = _; omega), I48, rfl, pH.cp hk48 (by omega)⟩)
                              · refine ar_iloadn (k := 30) rfl rfl ?_
                                refine ar_if_eq (k := 31) rfl (by omega) (fun c31 => ?_) (fun c31 => ?_)
                                · refine ar_bipush (k := 34) rfl (by decide) ?_
                                  refine ar_iloadn (k := 35) rfl rfl ?_
                                  refine ar_imul (k := 36) rfl ?_
                                  refine ar_aloadn (k := 37) rfl rfl ?_
                                  refine br_callV (k := 38) (as := []) rfl lvR_52 (hS.k (by decide)) rfl (c_R_here (p := ((p + 1) + 1)) hS hB hk48 (by (constructor <;> (dsimp only; omega))) rfl) rfl (by decide) (by decide) tw_m0 (Nat.le_of_ble_eq_true rfl) ?_
                                  refine ar_iadd (k := 39) rfl ?_
                                  refine ar_bipush (k := 40) rfl (by decide) ?_
                                  refine ar_isub (k := 41) rfl ?_
                                  refine ar_istoren (k := 42) (l2 := [(1, _), (2, _), (0, _)]) rfl (by decide) rfl ?_
                                  refine ar_aloadn (k := 43) rfl rfl ?_
                                  refine ar_dup (k := 44) rfl rfl ?_
                                  refine br_getI (k := 45) rfl (hS.k (by decide)) flR_42_12 (by decide) rfl ?_
                                  refine tw_top (y := ((p + 1) + 1)) (by exact hk48.2.2.1) ?_
                                  refine ar_iconst (k := 46) rfl ?_
                                  refine ar_iadd (k := 47) rfl ?_
                                  refine br_putIJ (k := 48) rfl (hS.k (by decide)) flR_42_12 (by decide) rfl (fun _ _ _ q => by cases q; exact ⟨rfl, rfl⟩) (fun I48 e48 => ?_)
                                  change _ = uI _ 69 5 _ at e48
                                  have hk48 := pH.p5 hk48 e48 (y := ((p + 1) + 1) + 1) (by rfl)
                                  refine ar_iinc (k := 49) (l2 := [(2, _), (1, _), (0, _)]) rfl (by decide) rfl rfl ?_
                                  refine ar_goto (k := 50) rfl ?_
                                  exfalso; omega
                                · refine ar_iloadn (k := 32) rfl rfl ?_
                                  refine ar_if_le (k := 33) rfl (by omega) (fun c33 => ?_) (fun c33 => ?_)
                                  · refine ar_iloadn (k := 51) rfl rfl ?_
                                    refine ar_iret (k := 52) rfl rfl rfl (Nat.le_refl _) ?_
                                    first
                                      | (exfalso; omega)
                                      | (rw [show pFig (tpe s) e (p, false, o) = (0, p, true, o) by rw [pFig]; rw [if_pos (by simp <;> omega)]]; exact ⟨congrArg (fun z => some (vi z)) (by show (_ : Int) = _; omega), I48, rfl, pH.cp hk48 (by omega)⟩)
                                      | (rw [show pFig (tpe s) e (p, false, o) = (pHere (tpe s) e p - 48, p + 1, false, o) by rw [pFig]; rw [if_neg (by simp <;> omega), if_neg (by simp only []; omega)]]; exact ⟨congrArg (fun z => some (vi z)) (by show (_ : Int) = _; omega), I48, rfl, pH.cp hk48 (by omega)⟩)
                                      | (rw [show pFig (tpe s) e (p, false, o) = (10 * (pHere (tpe s) e p - 48) + pHere (tpe s) e (p + 1) - 48, p + 2, false, o) by rw [pFig]; rw [if_neg (by simp <;> omega), if_pos (by simp only []; omega)]]; exact ⟨congrArg (fun z => some (vi z)) (by show (_ : Int) = _; omega), I48, rfl, pH.cp hk48 (by omega)⟩)
                                  · refine ar_bipush (k := 34) rfl (by decide) ?_
                                    refine ar_iloadn (k := 35) rfl rfl ?_
                                    refine ar_imul (k := 36) rfl ?_
                                    refine ar_aloadn (k := 37) rfl rfl ?_
                                    refine br_callV (k := 38) (as := []) rfl lvR_52 (hS.k (by decide)) rfl (c_R_here (p := ((p + 1) + 1)) hS hB hk48 (by (constructor <;> (dsimp only; omega))) rfl) rfl (by decide) (by decide) tw_m0 (Nat.le_of_ble_eq_true rfl) ?_
                                    refine ar_iadd (k := 39) rfl ?_
                                    refine ar_bipush (k := 40) rfl (by decide) ?_
                                    refine ar_isub (k := 41) rfl ?_
                                    refine ar_istoren (k := 42) (l2 := [(1, _), (2, _), (0, _)]) rfl (by decide) rfl ?_
                                    refine ar_aloadn (k := 43) rfl rfl ?_
                                    refine ar_dup (k := 44) rfl rfl ?_
                                    refine br_getI (k := 45) rfl (hS.k (by decide)) flR_42_12 (by decide) rfl ?_
                                    refine tw_top (y := ((p + 1) + 1)) (by exact hk48.2.2.1) ?_
                                    refine ar_iconst (k := 46) rfl ?_
                                    refine ar_iadd (k := 47) rfl ?_
                                    refine br_putIJ (k := 48) rfl (hS.k (by decide)) flR_42_12 (by decide) rfl (fun _ _ _ q => by cases q; exact ⟨rfl, rfl⟩) (fun I48 e48 => ?_)
                                    change _ = uI _ 69 5 _ at e48
                                    have hk48 := pH.p5 hk48 e48 (y := ((p + 1) + 1) + 1) (by rfl)
                                    refine ar_iinc (k := 49) (l2 := [(2, _), (1, _), (0, _)]) rfl (by decide) rfl rfl ?_
                                    refine ar_goto (k := 50) rfl ?_
                                    exfalso; omega
    · refine ar_iconst (k := 10) rfl ?_
      refine ar_goto (k := 11) rfl ?_
      refine br_putZJ (k := 13) rfl (hS.k (by decide)) flR_48_12 (by decide) rfl (by omega) (fun _ _ _ q => by cases q; exact ⟨rfl, rfl⟩) (fun I13 e13 => ?_)
      change _ = uI _ 69 7 _ at e13
      have hk13 := pH.w7 hk e13 (y := true) (by rfl)
      refine ar_iconst (k := 14) rfl ?_
      refine ar_istoren (k := 15) (l2 := [(1, _), (0, _)]) rfl (by decide) rfl ?_
      refine ar_iconst (k := 16) rfl ?_
      refine ar_istoren (k := 17) (l2 := [(2, _), (1, _), (0, _)]) rfl (by decide) rfl ?_
      refine ar_iloadn (k := 18) rfl rfl ?_
      refine ar_iconst (k := 19) rfl ?_
      refine ar_icmp_ge (k := 20) rfl (by omega) (by omega) (fun c20 => ?_) (fun c20 => ?_)
      · refine ar_iloadn (k := 51) rfl rfl ?_
        refine ar_iret (k := 52) rfl rfl rfl (Nat.le_refl _) ?_
        first
          | (exfalso; omega)
          | (rw [show pFig (tpe s) e (p, false, o) = (0, p, true, o) by rw [pFig]; rw [if_pos (by simp <;> omega)]]; exact ⟨congrArg (fun z => some (vi z)) (by show (_ : Int) = _; omega), I13, rfl, pH.cp hk13 (by omega)⟩)
          | (rw [show pFig (tpe s) e (p, false, o) = (pHere (tpe s) e p - 48, p + 1, false, o) by rw [pFig]; rw [if_neg (by simp <;> omega), if_neg (by simp only []; omega)]]; exact ⟨congrArg (fun z => some (vi z)) (by show (_ : Int) = _; omega), I13, rfl, pH.cp hk13 (by omega)⟩)
          | (rw [show pFig (tpe s) e (p, false, o) = (10 * (pHere (tpe s) e p - 48) + pHere (tpe s) e (p + 1) - 48, p + 2, false, o) by rw [pFig]; rw [if_neg (by simp <;> omega), if_pos (by simp only []; omega)]]; exact ⟨congrArg (fun z => some (vi z)) (by show (_ : Int) = _; omega), I13, rfl, pH.cp hk13 (by omega)⟩)
      · refine ar_aloadn (k := 21) rfl rfl ?_
        refine br_getI (k := 22) rfl (hS.k (by decide)) flR_48_12 (by decide) rfl ?_
        refine tw_top (y := 1) (by exact hk13.2.2.2.2.1) ?_
        refine ar_if_ne (k := 23) rfl (by omega) (fun c23 => ?_) (fun c23 => ?_)
        · refine ar_iloadn (k := 51) rfl rfl ?_
          refine ar_iret (k := 52) rfl rfl rfl (Nat.le_refl _) ?_
          first
            | (exfalso; omega)
            | (rw [show pFig (tpe s) e (p, false, o) = (0, p, true, o) by rw [pFig]; rw [if_pos (by simp <;> omega)]]; exact ⟨congrArg (fun z => some (vi z)) (by show (_ : Int) = _; omega), I13, rfl, pH.cp hk13 (by omega)⟩)
            | (rw [show pFig (tpe s) e (p, false, o) = (pHere (tpe s) e p - 48, p + 1, false, o) by rw [pFig]; rw [if_neg (by simp <;> omega), if_neg (by simp only []; omega)]]; exact ⟨congrArg (fun z => some (vi z)) (by show (_ : Int) = _; omega), I13, rfl, pH.cp hk13 (by omega)⟩)
            | (rw [show pFig (tpe s) e (p, false, o) = (10 * (pHere (tpe s) e p - 48) + pHere (tpe s) e (p + 1) - 48, p + 2, false, o) by rw [pFig]; rw [if_neg (by simp <;> omega), if_pos (by simp only []; omega)]]; exact ⟨congrArg (fun z => some (vi z)) (by show (_ : Int) = _; omega), I13, rfl, pH.cp hk13 (by omega)⟩)
        · refine ar_aloadn (k := 24) rfl rfl ?_
          refine br_callV (k := 25) (as := []) rfl lvR_52 (hS.k (by decide)) rfl (c_R_here (p := p) hS hB hk13 (by (constructor <;> (dsimp only; omega))) rfl) rfl (by decide) (by decide) tw_m0 (Nat.le_of_ble_eq_true rfl) ?_
          refine ar_bipush (k := 26) rfl (by decide) ?_
          refine ar_bipush (k := 27) rfl (by decide) ?_
          refine br_callS (k := 28) (as := [_, _, _]) rfl lsR_38 (c_R_in (by omega) (by omega) (by omega)) rfl (by decide) (by decide) tw_m0 (Nat.le_of_ble_eq_true rfl) ?_
          refine ar_if_eq (k := 29) rfl (by omega) (fun c29 => ?_) (fun c29 => ?_)
          · refine ar_iloadn (k := 51) rfl rfl ?_
            refine ar_iret (k := 52) rfl rfl rfl (Nat.le_refl _) ?_
            first
              | (exfalso; omega)
              | (rw [show pFig (tpe s) e (p, false, o) = (0, p, true, o) by rw [pFig]; rw [if_pos (by simp <;> omega)]]; exact ⟨congrArg (fun z => some (vi z)) (by show (_ : Int) = _; omega), I13, rfl, pH.cp hk13 (by omega)⟩)
              | (rw [show pFig (tpe s) e (p, false, o) = (pHere (tpe s) e p - 48, p + 1, false, o) by rw [pFig]; rw [if_neg (by simp <;> omega), if_neg (by simp only []; omega)]]; exact ⟨congrArg (fun z => some (vi z)) (by show (_ : Int) = _; omega), I13, rfl, pH.cp hk13 (by omega)⟩)
              | (rw [show pFig (tpe s) e (p, false, o) = (10 * (pHere (tpe s) e p - 48) + pHere (tpe s) e (p + 1) - 48, p + 2, false, o) by rw [pFig]; rw [if_neg (by simp <;> omega), if_pos (by simp only []; omega)]]; exact ⟨congrArg (fun z => some (vi z)) (by show (_ : Int) = _; omega), I13, rfl, pH.cp hk13 (by omega)⟩)
          · refine ar_iloadn (k := 30) rfl rfl ?_
            refine ar_if_eq (k := 31) rfl (by omega) (fun c31 => ?_) (fun c31 => ?_)
            · refine ar_bipush (k := 34) rfl (by decide) ?_
              refine ar_iloadn (k := 35) rfl rfl ?_
              refine ar_imul (k := 36) rfl ?_
              refine ar_aloadn (k := 37) rfl rfl ?_
              refine br_callV (k := 38) (as := []) rfl lvR_52 (hS.k (by decide)) rfl (c_R_here (p := p) hS hB hk13 (by (constructor <;> (dsimp only; omega))) rfl) rfl (by decide) (by decide) tw_m0 (Nat.le_of_ble_eq_true rfl) ?_
              refine ar_iadd (k := 39) rfl ?_
              refine ar_bipush (k := 40) rfl (by decide) ?_
              refine ar_isub (k := 41) rfl ?_
              refine ar_istoren (k := 42) (l2 := [(1, _), (2, _), (0, _)]) rfl (by decide) rfl ?_
              refine ar_aloadn (k := 43) rfl rfl ?_
              refine ar_dup (k := 44) rfl rfl ?_
              refine br_getI (k := 45) rfl (hS.k (by decide)) flR_42_12 (by decide) rfl ?_
              refine tw_top (y := p) (by exact hk13.2.2.1) ?_
              refine ar_iconst (k := 46) rfl ?_
              refine ar_iadd (k := 47) rfl ?_
              refine br_putIJ (k := 48) rfl (hS.k (by decide)) flR_42_12 (by decide) rfl (fun _ _ _ q => by cases q; exact ⟨rfl, rfl⟩) (fun I48 e48 => ?_)
              change _ = uI _ 69 5 _ at e48
              have hk48 := pH.p5 hk13 e48 (y := p + 1) (by rfl)
              refine ar_iinc (k := 49) (l2 := [(2, _), (1, _), (0, _)]) rfl (by decide) rfl rfl ?_
              refine ar_goto (k := 50) rfl ?_
              refine ar_iloadn (k := 18) rfl rfl ?_
              refine ar_iconst (k := 19) rfl ?_
              refine ar_icmp_ge (k := 20) rfl (by omega) (by omega) (fun c20 => ?_) (fun c20 => ?_)
              · refine ar_iloadn (k := 51) rfl rfl ?_
                refine ar_iret (k := 52) rfl rfl rfl (Nat.le_refl _) ?_
                first
                  | (exfalso; omega)
                  | (rw [show pFig (tpe s) e (p, false, o) = (0, p, true, o) by rw [pFig]; rw [if_pos (by simp <;> omega)]]; exact ⟨congrArg (fun z => some (vi z)) (by show (_ : Int) = _; omega), I48, rfl, pH.cp hk48 (by omega)⟩)
                  | (rw [show pFig (tpe s) e (p, false, o) = (pHere (tpe s) e p - 48, p + 1, false, o) by rw [pFig]; rw [if_neg (by simp <;> omega), if_neg (by simp only []; omega)]]; exact ⟨congrArg (fun z => some (vi z)) (by show (_ : Int) = _; omega), I48, rfl, pH.cp hk48 (by omega)⟩)
                  | (rw [show pFig (tpe s) e (p, false, o) = (10 * (pHere (tpe s) e p - 48) + pHere (tpe s) e (p + 1) - 48, p + 2, false, o) by rw [pFig]; rw [if_neg (by simp <;> omega), if_pos (by simp only []; omega)]]; exact ⟨congrArg (fun z => some (vi z)) (by show (_ : Int) = _; omega), I48, rfl, pH.cp hk48 (by omega)⟩)
              · refine ar_aloadn (k := 21) rfl rfl ?_
                refine br_getI (k := 22) rfl (hS.k (by decide)) flR_48_12 (by decide) rfl ?_
                refine tw_top (y := 1) (by exact hk48.2.2.2.2.1) ?_
                refine ar_if_ne (k := 23) rfl (by omega) (fun c23 => ?_) (fun c23 => ?_)
                · refine ar_iloadn (k := 51) rfl rfl ?_
                  refine ar_iret (k := 52) rfl rfl rfl (Nat.le_refl _) ?_
                  first
                    | (exfalso; omega)
                    | (rw [show pFig (tpe s) e (p, false, o) = (0, p, true, o) by rw [pFig]; rw [if_pos (by simp <;> omega)]]; exact ⟨congrArg (fun z => some (vi z)) (by show (_ : Int) = _; omega), I48, rfl, pH.cp hk48 (by omega)⟩)
                    | (rw [show pFig (tpe s) e (p, false, o) = (pHere (tpe s) e p - 48, p + 1, false, o) by rw [pFig]; rw [if_neg (by simp <;> omega), if_neg (by simp only []; omega)]]; exact ⟨congrArg (fun z => some (vi z)) (by show (_ : Int) = _; omega), I48, rfl, pH.cp hk48 (by omega)⟩)
                    | (rw [show pFig (tpe s) e (p, false, o) = (10 * (pHere (tpe s) e p - 48) + pHere (tpe s) e (p + 1) - 48, p + 2, false, o) by rw [pFig]; rw [if_neg (by simp <;> omega), if_pos (by simp only []; omega)]]; exact ⟨congrArg (fun z => some (vi z)) (by show (_ : Int) = _; omega), I48, rfl, pH.cp hk48 (by omega)⟩)
                · refine ar_aloadn (k := 24) rfl rfl ?_
                  refine br_callV (k := 25) (as := []) rfl lvR_52 (hS.k (by decide)) rfl (c_R_here (p := (p + 1)) hS hB hk48 (by (constructor <;> (dsimp only; omega))) rfl) rfl (by decide) (by decide) tw_m0 (Nat.le_of_ble_eq_true rfl) ?_
                  refine ar_bipush (k := 26) rfl (by decide) ?_
                  refine ar_bipush (k := 27) rfl (by decide) ?_
                  refine br_callS (k := 28) (as := [_, _, _]) rfl lsR_38 (c_R_in (by omega) (by omega) (by omega)) rfl (by decide) (by decide) tw_m0 (Nat.le_of_ble_eq_true rfl) ?_
                  refine ar_if_eq (k := 29) rfl (by omega) (fun c29 => ?_) (fun c29 => ?_)
                  · refine ar_iloadn (k := 51) rfl rfl ?_
                    refine ar_iret (k := 52) rfl rfl rfl (Nat.le_refl _) ?_
                    first
                      | (exfalso; omega)
                      | (rw [show pFig (tpe s) e (p, false, o) = (0, p, true, o) by rw [pFig]; rw [if_pos (by simp <;> omega)]]; exact ⟨congrArg (fun z => some (vi z)) (by show (_ : Int) = _; omega), I48, rfl, pH.cp hk48 (by omega)⟩)
                      | (rw [show pFig (tpe s) e (p, false, o) = (pHere (tpe s) e p - 48, p + 1, false, o) by rw [pFig]; rw [if_neg (by simp <;> omega), if_neg (by simp only []; omega)]]; exact ⟨congrArg (fun z => some (vi z)) (by show (_ : Int) = _; omega), I48, rfl, pH.cp hk48 (by omega)⟩)
                      | (rw [show pFig (tpe s) e (p, false, o) = (10 * (pHere (tpe s) e p - 48) + pHere (tpe s) e (p + 1) - 48, p + 2, false, o) by rw [pFig]; rw [if_neg (by simp <;> omega), if_pos (by simp only []; omega)]]; exact ⟨congrArg (fun z => some (vi z)) (by show (_ : Int) = _; omega), I48, rfl, pH.cp hk48 (by omega)⟩)
                  · refine ar_iloadn (k := 30) rfl rfl ?_
                    refine ar_if_eq (k := 31) rfl (by omega) (fun c31 => ?_) (fun c31 => ?_)
                    · refine ar_bipush (k := 34) rfl (by decide) ?_
                      refine ar_iloadn (k := 35) rfl rfl ?_
                      refine ar_imul (k := 36) rfl ?_
                      refine ar_aloadn (k := 37) rfl rfl ?_
                      refine br_callV (k := 38) (as := []) rfl lvR_52 (hS.k (by decide)) rfl (c_R_here (p := (p + 1)) hS hB hk48 (by (constructor <;> (dsimp only; omega))) rfl) rfl (by decide) (by decide) tw_m0 (Nat.le_of_ble_eq_true rfl) ?_
                      refine ar_iadd (k := 39) rfl ?_
                      refine ar_bipush (k := 40) rfl (by decide) ?_
                      refine ar_isub (k := 41) rfl ?_
                      refine ar_istoren (k := 42) (l2 := [(1, _), (2, _), (0, _)]) rfl (by decide) rfl ?_
                      refine ar_aloadn (k := 43) rfl rfl ?_
                      refine ar_dup (k := 44) rfl rfl ?_
                      refine br_getI (k := 45) rfl (hS.k (by decide)) flR_42_12 (by decide) rfl ?_
                      refine tw_top (y := (p + 1)) (by exact hk48.2.2.1) ?_
                      refine ar_iconst (k := 46) rfl ?_
                      refine ar_iadd (k := 47) rfl ?_
                      refine br_putIJ (k := 48) rfl (hS.k (by decide)) flR_42_12 (by decide) rfl (fun _ _ _ q => by cases q; exact ⟨rfl, rfl⟩) (fun I48 e48 => ?_)
                      change _ = uI _ 69 5 _ at e48
                      have hk48 := pH.p5 hk48 e48 (y := (p + 1) + 1) (by rfl)
                      refine ar_iinc (k := 49) (l2 := [(2, _), (1, _), (0, _)]) rfl (by decide) rfl rfl ?_
                      refine ar_goto (k := 50) rfl ?_
                      refine ar_iloadn (k := 18) rfl rfl ?_
                      refine ar_iconst (k := 19) rfl ?_
                      refine ar_icmp_ge (k := 20) rfl (by omega) (by omega) (fun c20 => ?_) (fun c20 => ?_)
                      · refine ar_iloadn (k := 51) rfl rfl ?_
                        refine ar_iret (k := 52) rfl rfl rfl (Nat.le_refl _) ?_
                        first
                          | (exfalso; omega)
                          | (rw [show pFig (tpe s) e (p, false, o) = (0, p, true, o) by rw [pFig]; rw [if_pos (by simp <;> omega)]]; exact ⟨congrArg (fun z => some (vi z)) (by show (_ : Int) = _; omega), I48, rfl, pH.cp hk48 (by omega)⟩)
                          | (rw [show pFig (tpe s) e (p, false, o) = (pHere (tpe s) e p - 48, p + 1, false, o) by rw [pFig]; rw [if_neg (by simp <;> omega), if_neg (by simp only []; omega)]]; exact ⟨congrArg (fun z => some (vi z)) (by show (_ : Int) = _; omega), I48, rfl, pH.cp hk48 (by omega)⟩)
                          | (rw [show pFig (tpe s) e (p, false, o) = (10 * (pHere (tpe s) e p - 48) + pHere (tpe s) e (p + 1) - 48, p + 2, false, o) by rw [pFig]; rw [if_neg (by simp <;> omega), if_pos (by simp only []; omega)]]; exact ⟨congrArg (fun z => some (vi z)) (by show (_ : Int) = _; omega), I48, rfl, pH.cp hk48 (by omega)⟩)
                      · refine ar_aloadn (k := 21) rfl rfl ?_
                        refine br_getI (k := 22) rfl (hS.k (by decide)) flR_48_12 (by decide) rfl ?_
                        refine tw_top (y := 1) (by exact hk48.2.2.2.2.1) ?_
                        refine ar_if_ne (k := 23) rfl (by omega) (fun c23 => ?_) (fun c23 => ?_)
                        · refine ar_iloadn (k := 51) rfl rfl ?_
                          refine ar_iret (k := 52) rfl rfl rfl (Nat.le_refl _) ?_
                          first
                            | (exfalso; omega)
                            | (rw [show pFig (tpe s) e (p, false, o) = (0, p, true, o) by rw [pFig]; rw [if_pos (by simp <;> omega)]]; exact ⟨congrArg (fun z => some (vi z)) (by show (_ : Int) = _; omega), I48, rfl, pH.cp hk48 (by omega)⟩)
                            | (rw [show pFig (tpe s) e (p, false, o) = (pHere (tpe s) e p - 48, p + 1, false, o) by rw [pFig]; rw [if_neg (by simp <;> omega), if_neg (by simp only []; omega)]]; exact ⟨congrArg (fun z => some (vi z)) (by show (_ : Int) = _; omega), I48, rfl, pH.cp hk48 (by omega)⟩)
                            | (rw [show pFig (tpe s) e (p, false, o) = (10 * (pHere (tpe s) e p - 48) + pHere (tpe s) e (p + 1) - 48, p + 2, false, o) by rw [pFig]; rw [if_neg (by simp <;> omega), if_pos (by simp only []; omega)]]; exact ⟨congrArg (fun z => some (vi z)) (by show (_ : Int) = _; omega), I48, rfl, pH.cp hk48 (by omega)⟩)
                        · refine ar_aloadn (k := 24) rfl rfl ?_
                          refine br_callV (k := 25) (as := []) rfl lvR_52 (hS.k (by decide)) rfl (c_R_here (p := ((p + 1) + 1)) hS hB hk48 (by (constructor <;> (dsimp only; omega))) rfl) rfl (by decide) (by decide) tw_m0 (Nat.le_of_ble_eq_true rfl) ?_
                          refine ar_bipush (k := 26) rfl (by decide) ?_
                          refine ar_bipush (k := 27) rfl (by decide) ?_
                          refine br_callS (k := 28) (as := [_, _, _]) rfl lsR_38 (c_R_in (by omega) (by omega) (by omega)) rfl (by decide) (by decide) tw_m0 (Nat.le_of_ble_eq_true rfl) ?_
                          refine ar_if_eq (k := 29) rfl (by omega) (fun c29 => ?_) (fun c29 => ?_)
                          · refine ar_iloadn (k := 51) rfl rfl ?_
                            refine ar_iret (k := 52) rfl rfl rfl (Nat.le_refl _) ?_
                            first
                              | (exfalso; omega)
                              | (rw [show pFig (tpe s) e (p, false, o) = (0, p, true, o) by rw [pFig]; rw [if_pos (by simp <;> omega)]]; exact ⟨congrArg (fun z => some (vi z)) (by show (_ : Int) = _; omega), I48, rfl, pH.cp hk48 (by omega)⟩)
                              | (rw [show pFig (tpe s) e (p, false, o) = (pHere (tpe s) e p - 48, p + 1, false, o) by rw [pFig]; rw [if_neg (by simp <;> omega), if_neg (by simp only []; omega)]]; exact ⟨congrArg (fun z => some (vi z)) (by show (_ : Int) = _; omega), I48, rfl, pH.cp hk48 (by omega)⟩)
                              | (rw [show pFig (tpe s) e (p, false, o) = (10 * (pHere (tpe s) e p - 48) + pHere (tpe s) e (p + 1) - 48, p + 2, false, o) by rw [pFig]; rw [if_neg (by simp <;> omega), if_pos (by simp only []; omega)]]; exact ⟨congrArg (fun z => some (vi z)) (by show (_ : Int) = _; omega), I48, rfl, pH.cp hk48 (by omega)⟩)
                          · refine ar_iloadn (k := 30) rfl rfl ?_
                            refine ar_if_eq (k := 31) rfl (by omega) (fun c31 => ?_) (fun c31 => ?_)
                            · refine ar_bipush (k := 34) rfl (by decide) ?_
                              refine ar_iloadn (k := 35) rfl rfl ?_
                              refine ar_imul (k := 36) rfl ?_
                              refine ar_aloadn (k := 37) rfl rfl ?_
                              refine br_callV (k := 38) (as := []) rfl lvR_52 (hS.k (by decide)) rfl (c_R_here (p := ((p + 1) + 1)) hS hB hk48 (by (constructor <;> (dsimp only; omega))) rfl) rfl (by decide) (by decide) tw_m0 (Nat.le_of_ble_eq_true rfl) ?_
                              refine ar_iadd (k := 39) rfl ?_
                              refine ar_bipush (k := 40) rfl (by decide) ?_
                              refine ar_isub (k := 41) rfl ?_
                              refine ar_istoren (k := 42) (l2 := [(1, _), (2, _), (0, _)]) rfl (by decide) rfl ?_
                              refine ar_aloadn (k := 43) rfl rfl ?_
                              refine ar_dup (k := 44) rfl rfl ?_
                              refine br_getI (k := 45) rfl (hS.k (by decide)) flR_42_12 (by decide) rfl ?_
                              refine tw_top (y := ((p + 1) + 1)) (by exact hk48.2.2.1) ?_
                              refine ar_iconst (k := 46) rfl ?_
                              refine ar_iadd (k := 47) rfl ?_
                              refine br_putIJ (k := 48) rfl (hS.k (by decide)) flR_42_12 (by decide) rfl (fun _ _ _ q => by cases q; exact ⟨rfl, rfl⟩) (fun I48 e48 => ?_)
                              change _ = uI _ 69 5 _ at e48
                              have hk48 := pH.p5 hk48 e48 (y := ((p + 1) + 1) + 1) (by rfl)
                              refine ar_iinc (k := 49) (l2 := [(2, _), (1, _), (0, _)]) rfl (by decide) rfl rfl ?_
                              refine ar_goto (k := 50) rfl ?_
                              exfalso; omega
                            · refine ar_iloadn (k := 32) rfl rfl ?_
                              refine ar_if_le (k := 33) rfl (by omega) (fun c33 => ?_) (fun c33 => ?_)
                              · refine ar_iloadn (k := 51) rfl rfl ?_
                                refine ar_iret (k := 52) rfl rfl rfl (Nat.le_refl _) ?_
                                first
                                  | (exfalso; omega)
                                  | (rw [show pFig (tpe s) e (p, false, o) = (0, p, true, o) by rw [pFig]; rw [if_pos (by simp <;> omega)]]; exact ⟨congrArg (fun z => some (vi z)) (by show (_ : Int) = _; omega), I48, rfl, pH.cp hk48 (by omega)⟩)
                                  | (rw [show pFig (tpe s) e (p, false, o) = (pHere (tpe s) e p - 48, p + 1, false, o) by rw [pFig]; rw [if_neg (by simp <;> omega), if_neg (by simp only []; omega)]]; exact ⟨congrArg (fun z => some (vi z)) (by show (_ : Int) = _; omega), I48, rfl, pH.cp hk48 (by omega)⟩)
                                  | (rw [show pFig (tpe s) e (p, false, o) = (10 * (pHere (tpe s) e p - 48) + pHere (tpe s) e (p + 1) - 48, p + 2, false, o) by rw [pFig]; rw [if_neg (by simp <;> omega), if_pos (by simp only []; omega)]]; exact ⟨congrArg (fun z => some (vi z)) (by show (_ : Int) = _; omega), I48, rfl, pH.cp hk48 (by omega)⟩)
                              · refine ar_bipush (k := 34) rfl (by decide) ?_
                                refine ar_iloadn (k := 35) rfl rfl ?_
                                refine ar_imul (k := 36) rfl ?_
                                refine ar_aloadn (k := 37) rfl rfl ?_
                                refine br_callV (k := 38) (as := []) rfl lvR_52 (hS.k (by decide)) rfl (c_R_here (p := ((p + 1) + 1)) hS hB hk48 (by (constructor <;> (dsimp only; omega))) rfl) rfl (by decide) (by decide) tw_m0 (Nat.le_of_ble_eq_true rfl) ?_
                                refine ar_iadd (k := 39) rfl ?_
                                refine ar_bipush (k := 40) rfl (by decide) ?_
                                refine ar_isub (k := 41) rfl ?_
                                refine ar_istoren (k := 42) (l2 := [(1, _), (2, _), (0, _)]) rfl (by decide) rfl ?_
                                refine ar_aloadn (k := 43) rfl rfl ?_
                                refine ar_dup (k := 44) rfl rfl ?_
                                refine br_getI (k := 45) rfl (hS.k (by decide)) flR_42_12 (by decide) rfl ?_
                                refine tw_top (y := ((p + 1) + 1)) (by exact hk48.2.2.1) ?_
                                refine ar_iconst (k := 46) rfl ?_
                                refine ar_iadd (k := 47) rfl ?_
                                refine br_putIJ (k := 48) rfl (hS.k (by decide)) flR_42_12 (by decide) rfl (fun _ _ _ q => by cases q; exact ⟨rfl, rfl⟩) (fun I48 e48 => ?_)
                                change _ = uI _ 69 5 _ at e48
                                have hk48 := pH.p5 hk48 e48 (y := ((p + 1) + 1) + 1) (by rfl)
                                refine ar_iinc (k := 49) (l2 := [(2, _), (1, _), (0, _)]) rfl (by decide) rfl rfl ?_
                                refine ar_goto (k := 50) rfl ?_
                                exfalso; omega
                    · refine ar_iloadn (k := 32) rfl rfl ?_
                      refine ar_if_le (k := 33) rfl (by omega) (fun c33 => ?_) (fun c33 => ?_)
                      · refine ar_iloadn (k := 51) rfl rfl ?_
                        refine ar_iret (k := 52) rfl rfl rfl (Nat.le_refl _) ?_
                        first
                          | (exfalso; omega)
                          | (rw [show pFig (tpe s) e (p, false, o) = (0, p, true, o) by rw [pFig]; rw [if_pos (by simp <;> omega)]]; exact ⟨congrArg (fun z => some (vi z)) (by show (_ : Int) = _; omega), I48, rfl, pH.cp hk48 (by omega)⟩)
                          | (rw [show pFig (tpe s) e (p, false, o) = (pHere (tpe s) e p - 48, p + 1, false, o) by rw [pFig]; rw [if_neg (by simp <;> omega), if_neg (by simp only []; omega)]]; exact ⟨congrArg (fun z => some (vi z)) (by show (_ : Int) = _; omega), I48, rfl, pH.cp hk48 (by omega)⟩)
                          | (rw [show pFig (tpe s) e (p, false, o) = (10 * (pHere (tpe s) e p - 48) + pHere (tpe s) e (p + 1) - 48, p + 2, false, o) by rw [pFig]; rw [if_neg (by simp <;> omega), if_pos (by simp only []; omega)]]; exact ⟨congrArg (fun z => some (vi z)) (by show (_ : Int) = _; omega), I48, rfl, pH.cp hk48 (by omega)⟩)
                      · refine ar_bipush (k := 34) rfl (by decide) ?_
                        refine ar_iloadn (k := 35) rfl rfl ?_
                        refine ar_imul (k := 36) rfl ?_
                        refine ar_aloadn (k := 37) rfl rfl ?_
                        refine br_callV (k := 38) (as := []) rfl lvR_52 (hS.k (by decide)) rfl (c_R_here (p := (p + 1)) hS hB hk48 (by (constructor <;> (dsimp only; omega))) rfl) rfl (by decide) (by decide) tw_m0 (Nat.le_of_ble_eq_true rfl) ?_
                        refine ar_iadd (k := 39) rfl ?_
                        refine ar_bipush (k := 40) rfl (by decide) ?_
                        refine ar_isub (k := 41) rfl ?_
                        refine ar_istoren (k := 42) (l2 := [(1, _), (2, _), (0, _)]) rfl (by decide) rfl ?_
                        refine ar_aloadn (k := 43) rfl rfl ?_
                        refine ar_dup (k := 44) rfl rfl ?_
                        refine br_getI (k := 45) rfl (hS.k (by decide)) flR_42_12 (by decide) rfl ?_
                        refine tw_top (y := (p + 1)) (by exact hk48.2.2.1) ?_
                        refine ar_iconst (k := 46) rfl ?_
                        refine ar_iadd (k := 47) rfl ?_
                        refine br_putIJ (k := 48) rfl (hS.k (by decide)) flR_42_12 (by decide) rfl (fun _ _ _ q => by cases q; exact ⟨rfl, rfl⟩) (fun I48 e48 => ?_)
                        change _ = uI _ 69 5 _ at e48
                        have hk48 := pH.p5 hk48 e48 (y := (p + 1) + 1) (by rfl)
                        refine ar_iinc (k := 49) (l2 := [(2, _), (1, _), (0, _)]) rfl (by decide) rfl rfl ?_
                        refine ar_goto (k := 50) rfl ?_
                        refine ar_iloadn (k := 18) rfl rfl ?_
                        refine ar_iconst (k := 19) rfl ?_
                        refine ar_icmp_ge (k := 20) rfl (by omega) (by omega) (fun c20 => ?_) (fun c20 => ?_)
                        · refine ar_iloadn (k := 51) rfl rfl ?_
                          refine ar_iret (k := 52) rfl rfl rfl (Nat.le_refl _) ?_
                          first
                            | (exfalso; omega)
                            | (rw [show pFig (tpe s) e (p, false, o) = (0, p, true, o) by rw [pFig]; rw [if_pos (by simp <;> omega)]]; exact ⟨congrArg (fun z => some (vi z)) (by show (_ : Int) = _; omega), I48, rfl, pH.cp hk48 (by omega)⟩)
                            | (rw [show pFig (tpe s) e (p, false, o) = (pHere (tpe s) e p - 48, p + 1, false, o) by rw [pFig]; rw [if_neg (by simp <;> omega), if_neg (by simp only []; omega)]]; exact ⟨congrArg (fun z => some (vi z)) (by show (_ : Int) = _; omega), I48, rfl, pH.cp hk48 (by omega)⟩)
                            | (rw [show pFig (tpe s) e (p, false, o) = (10 * (pHere (tpe s) e p - 48) + pHere (tpe s) e (p + 1) - 48, p + 2, false, o) by rw [pFig]; rw [if_neg (by simp <;> omega), if_pos (by simp only []; omega)]]; exact ⟨congrArg (fun z => some (vi z)) (by show (_ : Int) = _; omega), I48, rfl, pH.cp hk48 (by omega)⟩)
                        · refine ar_aloadn (k := 21) rfl rfl ?_
                          refine br_getI (k := 22) rfl (hS.k (by decide)) flR_48_12 (by decide) rfl ?_
                          refine tw_top (y := 1) (by exact hk48.2.2.2.2.1) ?_
                          refine ar_if_ne (k := 23) rfl (by omega) (fun c23 => ?_) (fun c23 => ?_)
                          · refine ar_iloadn (k := 51) rfl rfl ?_
                            refine ar_iret (k := 52) rfl rfl rfl (Nat.le_refl _) ?_
                            first
                              | (exfalso; omega)
                              | (rw [show pFig (tpe s) e (p, false, o) = (0, p, true, o) by rw [pFig]; rw [if_pos (by simp <;> omega)]]; exact ⟨congrArg (fun z => some (vi z)) (by show (_ : Int) = _; omega), I48, rfl, pH.cp hk48 (by omega)⟩)
                              | (rw [show pFig (tpe s) e (p, false, o) = (pHere (tpe s) e p - 48, p + 1, false, o) by rw [pFig]; rw [if_neg (by simp <;> omega), if_neg (by simp only []; omega)]]; exact ⟨congrArg (fun z => some (vi z)) (by show (_ : Int) = _; omega), I48, rfl, pH.cp hk48 (by omega)⟩)
                              | (rw [show pFig (tpe s) e (p, false, o) = (10 * (pHere (tpe s) e p - 48) + pHere (tpe s) e (p + 1) - 48, p + 2, false, o) by rw [pFig]; rw [if_neg (by simp <;> omega), if_pos (by simp only []; omega)]]; exact ⟨congrArg (fun z => some (vi z)) (by show (_ : Int) = _; omega), I48, rfl, pH.cp hk48 (by omega)⟩)
                          · refine ar_aloadn (k := 24) rfl rfl ?_
                            refine br_callV (k := 25) (as := []) rfl lvR_52 (hS.k (by decide)) rfl (c_R_here (p := ((p + 1) + 1)) hS hB hk48 (by (constructor <;> (dsimp only; omega))) rfl) rfl (by decide) (by decide) tw_m0 (Nat.le_of_ble_eq_true rfl) ?_
                            refine ar_bipush (k := 26) rfl (by decide) ?_
                            refine ar_bipush (k := 27) rfl (by decide) ?_
                            refine br_callS (k := 28) (as := [_, _, _]) rfl lsR_38 (c_R_in (by omega) (by omega) (by omega)) rfl (by decide) (by decide) tw_m0 (Nat.le_of_ble_eq_true rfl) ?_
                            refine ar_if_eq (k := 29) rfl (by omega) (fun c29 => ?_) (fun c29 => ?_)
                            · refine ar_iloadn (k := 51) rfl rfl ?_
                              refine ar_iret (k := 52) rfl rfl rfl (Nat.le_refl _) ?_
                              first
                                | (exfalso; omega)
                                | (rw [show pFig (tpe s) e (p, false, o) = (0, p, true, o) by rw [pFig]; rw [if_pos (by simp <;> omega)]]; exact ⟨congrArg (fun z => some (vi z)) (by show (_ : Int) = _; omega), I48, rfl, pH.cp hk48 (by omega)⟩)
                                | (rw [show pFig (tpe s) e (p, false, o) = (pHere (tpe s) e p - 48, p + 1, false, o) by rw [pFig]; rw [if_neg (by simp <;> omega), if_neg (by simp only []; omega)]]; exact ⟨congrArg (fun z => some (vi z)) (by show (_ : Int) = _; omega), I48, rfl, pH.cp hk48 (by omega)⟩)
                                | (rw [show pFig (tpe s) e (p, false, o) = (10 * (pHere (tpe s) e p - 48) + pHere (tpe s) e (p + 1) - 48, p + 2, false, o) by rw [pFig]; rw [if_neg (by simp <;> omega), if_pos (by simp only []; omega)]]; exact ⟨congrArg (fun z => some (vi z)) (by show (_ : Int) = _; omega), I48, rfl, pH.cp hk48 (by omega)⟩)
                            · refine ar_iloadn (k := 30) rfl rfl ?_
                              refine ar_if_eq (k := 31) rfl (by omega) (fun c31 => ?_) (fun c31 => ?_)
                              · refine ar_bipush (k := 34) rfl (by decide) ?_
                                refine ar_iloadn (k := 35) rfl rfl ?_
                                refine ar_imul (k := 36) rfl ?_
                                refine ar_aloadn (k := 37) rfl rfl ?_
                                refine br_callV (k := 38) (as := []) rfl lvR_52 (hS.k (by decide)) rfl (c_R_here (p := ((p + 1) + 1)) hS hB hk48 (by (constructor <;> (dsimp only; omega))) rfl) rfl (by decide) (by decide) tw_m0 (Nat.le_of_ble_eq_true rfl) ?_
                                refine ar_iadd (k := 39) rfl ?_
                                refine ar_bipush (k := 40) rfl (by decide) ?_
                                refine ar_isub (k := 41) rfl ?_
                                refine ar_istoren (k := 42) (l2 := [(1, _), (2, _), (0, _)]) rfl (by decide) rfl ?_
                                refine ar_aloadn (k := 43) rfl rfl ?_
                                refine ar_dup (k := 44) rfl rfl ?_
                                refine br_getI (k := 45) rfl (hS.k (by decide)) flR_42_12 (by decide) rfl ?_
                                refine tw_top (y := ((p + 1) + 1)) (by exact hk48.2.2.1) ?_
                                refine ar_iconst (k := 46) rfl ?_
                                refine ar_iadd (k := 47) rfl ?_
                                refine br_putIJ (k := 48) rfl (hS.k (by decide)) flR_42_12 (by decide) rfl (fun _ _ _ q => by cases q; exact ⟨rfl, rfl⟩) (fun I48 e48 => ?_)
                                change _ = uI _ 69 5 _ at e48
                                have hk48 := pH.p5 hk48 e48 (y := ((p + 1) + 1) + 1) (by rfl)
                                refine ar_iinc (k := 49) (l2 := [(2, _), (1, _), (0, _)]) rfl (by decide) rfl rfl ?_
                                refine ar_goto (k := 50) rfl ?_
                                exfalso; omega
                              · refine ar_iloadn (k := 32) rfl rfl ?_
                                refine ar_if_le (k := 33) rfl (by omega) (fun c33 => ?_) (fun c33 => ?_)
                                · refine ar_iloadn (k := 51) rfl rfl ?_
                                  refine ar_iret (k := 52) rfl rfl rfl (Nat.le_refl _) ?_
                                  first
                                    | (exfalso; omega)
                                    | (rw [show pFig (tpe s) e (p, false, o) = (0, p, true, o) by rw [pFig]; rw [if_pos (by simp <;> omega)]]; exact ⟨congrArg (fun z => some (vi z)) (by show (_ : Int) = _; omega), I48, rfl, pH.cp hk48 (by omega)⟩)
                                    | (rw [show pFig (tpe s) e (p, false, o) = (pHere (tpe s) e p - 48, p + 1, false, o) by rw [pFig]; rw [if_neg (by simp <;> omega), if_neg (by simp only []; omega)]]; exact ⟨congrArg (fun z => some (vi z)) (by show (_ : Int) = _; omega), I48, rfl, pH.cp hk48 (by omega)⟩)
                                    | (rw [show pFig (tpe s) e (p, false, o) = (10 * (pHere (tpe s) e p - 48) + pHere (tpe s) e (p + 1) - 48, p + 2, false, o) by rw [pFig]; rw [if_neg (by simp <;> omega), if_pos (by simp only []; omega)]]; exact ⟨congrArg (fun z => some (vi z)) (by show (_ : Int) = _; omega), I48, rfl, pH.cp hk48 (by omega)⟩)
                                · refine ar_bipush (k := 34) rfl (by decide) ?_
                                  refine ar_iloadn (k := 35) rfl rfl ?_
                                  refine ar_imul (k := 36) rfl ?_
                                  refine ar_aloadn (k := 37) rfl rfl ?_
                                  refine br_callV (k := 38) (as := []) rfl lvR_52 (hS.k (by decide)) rfl (c_R_here (p := ((p + 1) + 1)) hS hB hk48 (by (constructor <;> (dsimp only; omega))) rfl) rfl (by decide) (by decide) tw_m0 (Nat.le_of_ble_eq_true rfl) ?_
                                  refine ar_iadd (k := 39) rfl ?_
                                  refine ar_bipush (k := 40) rfl (by decide) ?_
                                  refine ar_isub (k := 41) rfl ?_
                                  refine ar_istoren (k := 42) (l2 := [(1, _), (2, _), (0, _)]) rfl (by decide) rfl ?_
                                  refine ar_aloadn (k := 43) rfl rfl ?_
                                  refine ar_dup (k := 44) rfl rfl ?_
                                  refine br_getI (k := 45) rfl (hS.k (by decide)) flR_42_12 (by decide) rfl ?_
                                  refine tw_top (y := ((p + 1) + 1)) (by exact hk48.2.2.1) ?_
                                  refine ar_iconst (k := 46) rfl ?_
                                  refine ar_iadd (k := 47) rfl ?_
                                  refine br_putIJ (k := 48) rfl (hS.k (by decide)) flR_42_12 (by decide) rfl (fun _ _ _ q => by cases q; exact ⟨rfl, rfl⟩) (fun I48 e48 => ?_)
                                  change _ = uI _ 69 5 _ at e48
                                  have hk48 := pH.p5 hk48 e48 (y := ((p + 1) + 1) + 1) (by rfl)
                                  refine ar_iinc (k := 49) (l2 := [(2, _), (1, _), (0, _)]) rfl (by decide) rfl rfl ?_
                                  refine ar_goto (k := 50) rfl ?_
                                  exfalso; omega
            · refine ar_iloadn (k := 32) rfl rfl ?_
              refine ar_if_le (k := 33) rfl (by omega) (fun c33 => ?_) (fun c33 => ?_)
              · refine ar_iloadn (k := 51) rfl rfl ?_
                refine ar_iret (k := 52) rfl rfl rfl (Nat.le_refl _) ?_
                first
                  | (exfalso; omega)
                  | (rw [show pFig (tpe s) e (p, false, o) = (0, p, true, o) by rw [pFig]; rw [if_pos (by simp <;> omega)]]; exact ⟨congrArg (fun z => some (vi z)) (by show (_ : Int) = _; omega), I13, rfl, pH.cp hk13 (by omega)⟩)
                  | (rw [show pFig (tpe s) e (p, false, o) = (pHere (tpe s) e p - 48, p + 1, false, o) by rw [pFig]; rw [if_neg (by simp <;> omega), if_neg (by simp only []; omega)]]; exact ⟨congrArg (fun z => some (vi z)) (by show (_ : Int) = _; omega), I13, rfl, pH.cp hk13 (by omega)⟩)
                  | (rw [show pFig (tpe s) e (p, false, o) = (10 * (pHere (tpe s) e p - 48) + pHere (tpe s) e (p + 1) - 48, p + 2, false, o) by rw [pFig]; rw [if_neg (by simp <;> omega), if_pos (by simp only []; omega)]]; exact ⟨congrArg (fun z => some (vi z)) (by show (_ : Int) = _; omega), I13, rfl, pH.cp hk13 (by omega)⟩)
              · refine ar_bipush (k := 34) rfl (by decide) ?_
                refine ar_iloadn (k := 35) rfl rfl ?_
                refine ar_imul (k := 36) rfl ?_
                refine ar_aloadn (k := 37) rfl rfl ?_
                refine br_callV (k := 38) (as := []) rfl lvR_52 (hS.k (by decide)) rfl (c_R_here (p := p) hS hB hk13 (by (constructor <;> (dsimp only; omega))) rfl) rfl (by decide) (by decide) tw_m0 (Nat.le_of_ble_eq_true rfl) ?_
                refine ar_iadd (k := 39) rfl ?_
                refine ar_bipush (k := 40) rfl (by decide) ?_
                refine ar_isub (k := 41) rfl ?_
                refine ar_istoren (k := 42) (l2 := [(1, _), (2, _), (0, _)]) rfl (by decide) rfl ?_
                refine ar_aloadn (k := 43) rfl rfl ?_
                refine ar_dup (k := 44) rfl rfl ?_
                refine br_getI (k := 45) rfl (hS.k (by decide)) flR_42_12 (by decide) rfl ?_
                refine tw_top (y := p) (by exact hk13.2.2.1) ?_
                refine ar_iconst (k := 46) rfl ?_
                refine ar_iadd (k := 47) rfl ?_
                refine br_putIJ (k := 48) rfl (hS.k (by decide)) flR_42_12 (by decide) rfl (fun _ _ _ q => by cases q; exact ⟨rfl, rfl⟩) (fun I48 e48 => ?_)
                change _ = uI _ 69 5 _ at e48
                have hk48 := pH.p5 hk13 e48 (y := p + 1) (by rfl)
                refine ar_iinc (k := 49) (l2 := [(2, _), (1, _), (0, _)]) rfl (by decide) rfl rfl ?_
                refine ar_goto (k := 50) rfl ?_
                refine ar_iloadn (k := 18) rfl rfl ?_
                refine ar_iconst (k := 19) rfl ?_
                refine ar_icmp_ge (k := 20) rfl (by omega) (by omega) (fun c20 => ?_) (fun c20 => ?_)
                · refine ar_iloadn (k := 51) rfl rfl ?_
                  refine ar_iret (k := 52) rfl rfl rfl (Nat.le_refl _) ?_
                  first
                    | (exfalso; omega)
                    | (rw [show pFig (tpe s) e (p, false, o) = (0, p, true, o) by rw [pFig]; rw [if_pos (by simp <;> omega)]]; exact ⟨congrArg (fun z => some (vi z)) (by show (_ : Int) = _; omega), I48, rfl, pH.cp hk48 (by omega)⟩)
                    | (rw [show pFig (tpe s) e (p, false, o) = (pHere (tpe s) e p - 48, p + 1, false, o) by rw [pFig]; rw [if_neg (by simp <;> omega), if_neg (by simp only []; omega)]]; exact ⟨congrArg (fun z => some (vi z)) (by show (_ : Int) = _; omega), I48, rfl, pH.cp hk48 (by omega)⟩)
                    | (rw [show pFig (tpe s) e (p, false, o) = (10 * (pHere (tpe s) e p - 48) + pHere (tpe s) e (p + 1) - 48, p + 2, false, o) by rw [pFig]; rw [if_neg (by simp <;> omega), if_pos (by simp only []; omega)]]; exact ⟨congrArg (fun z => some (vi z)) (by show (_ : Int) = _; omega), I48, rfl, pH.cp hk48 (by omega)⟩)
                · refine ar_aloadn (k := 21) rfl rfl ?_
                  refine br_getI (k := 22) rfl (hS.k (by decide)) flR_48_12 (by decide) rfl ?_
                  refine tw_top (y := 1) (by exact hk48.2.2.2.2.1) ?_
                  refine ar_if_ne (k := 23) rfl (by omega) (fun c23 => ?_) (fun c23 => ?_)
                  · refine ar_iloadn (k := 51) rfl rfl ?_
                    refine ar_iret (k := 52) rfl rfl rfl (Nat.le_refl _) ?_
                    first
                      | (exfalso; omega)
                      | (rw [show pFig (tpe s) e (p, false, o) = (0, p, true, o) by rw [pFig]; rw [if_pos (by simp <;> omega)]]; exact ⟨congrArg (fun z => some (vi z)) (by show (_ : Int) = _; omega), I48, rfl, pH.cp hk48 (by omega)⟩)
                      | (rw [show pFig (tpe s) e (p, false, o) = (pHere (tpe s) e p - 48, p + 1, false, o) by rw [pFig]; rw [if_neg (by simp <;> omega), if_neg (by simp only []; omega)]]; exact ⟨congrArg (fun z => some (vi z)) (by show (_ : Int) = _; omega), I48, rfl, pH.cp hk48 (by omega)⟩)
                      | (rw [show pFig (tpe s) e (p, false, o) = (10 * (pHere (tpe s) e p - 48) + pHere (tpe s) e (p + 1) - 48, p + 2, false, o) by rw [pFig]; rw [if_neg (by simp <;> omega), if_pos (by simp only []; omega)]]; exact ⟨congrArg (fun z => some (vi z)) (by show (_ : Int) = _; omega), I48, rfl, pH.cp hk48 (by omega)⟩)
                  · refine ar_aloadn (k := 24) rfl rfl ?_
                    refine br_callV (k := 25) (as := []) rfl lvR_52 (hS.k (by decide)) rfl (c_R_here (p := (p + 1)) hS hB hk48 (by (constructor <;> (dsimp only; omega))) rfl) rfl (by decide) (by decide) tw_m0 (Nat.le_of_ble_eq_true rfl) ?_
                    refine ar_bipush (k := 26) rfl (by decide) ?_
                    refine ar_bipush (k := 27) rfl (by decide) ?_
                    refine br_callS (k := 28) (as := [_, _, _]) rfl lsR_38 (c_R_in (by omega) (by omega) (by omega)) rfl (by decide) (by decide) tw_m0 (Nat.le_of_ble_eq_true rfl) ?_
                    refine ar_if_eq (k := 29) rfl (by omega) (fun c29 => ?_) (fun c29 => ?_)
                    · refine ar_iloadn (k := 51) rfl rfl ?_
                      refine ar_iret (k := 52) rfl rfl rfl (Nat.le_refl _) ?_
                      first
                        | (exfalso; omega)
                        | (rw [show pFig (tpe s) e (p, false, o) = (0, p, true, o) by rw [pFig]; rw [if_pos (by simp <;> omega)]]; exact ⟨congrArg (fun z => some (vi z)) (by show (_ : Int) = _; omega), I48, rfl, pH.cp hk48 (by omega)⟩)
                        | (rw [show pFig (tpe s) e (p, false, o) = (pHere (tpe s) e p - 48, p + 1, false, o) by rw [pFig]; rw [if_neg (by simp <;> omega), if_neg (by simp only []; omega)]]; exact ⟨congrArg (fun z => some (vi z)) (by show (_ : Int) = _; omega), I48, rfl, pH.cp hk48 (by omega)⟩)
                        | (rw [show pFig (tpe s) e (p, false, o) = (10 * (pHere (tpe s) e p - 48) + pHere (tpe s) e (p + 1) - 48, p + 2, false, o) by rw [pFig]; rw [if_neg (by simp <;> omega), if_pos (by simp only []; omega)]]; exact ⟨congrArg (fun z => some (vi z)) (by show (_ : Int) = _; omega), I48, rfl, pH.cp hk48 (by omega)⟩)
                    · refine ar_iloadn (k := 30) rfl rfl ?_
                      refine ar_if_eq (k := 31) rfl (by omega) (fun c31 => ?_) (fun c31 => ?_)
                      · refine ar_bipush (k := 34) rfl (by decide) ?_
                        refine ar_iloadn (k := 35) rfl rfl ?_
                        refine ar_imul (k := 36) rfl ?_
                        refine ar_aloadn (k := 37) rfl rfl ?_
                        refine br_callV (k := 38) (as := []) rfl lvR_52 (hS.k (by decide)) rfl (c_R_here (p := (p + 1)) hS hB hk48 (by (constructor <;> (dsimp only; omega))) rfl) rfl (by decide) (by decide) tw_m0 (Nat.le_of_ble_eq_true rfl) ?_
                        refine ar_iadd (k := 39) rfl ?_
                        refine ar_bipush (k := 40) rfl (by decide) ?_
                        refine ar_isub (k := 41) rfl ?_
                        refine ar_istoren (k := 42) (l2 := [(1, _), (2, _), (0, _)]) rfl (by decide) rfl ?_
                        refine ar_aloadn (k := 43) rfl rfl ?_
                        refine ar_dup (k := 44) rfl rfl ?_
                        refine br_getI (k := 45) rfl (hS.k (by decide)) flR_42_12 (by decide) rfl ?_
                        refine tw_top (y := (p + 1)) (by exact hk48.2.2.1) ?_
                        refine ar_iconst (k := 46) rfl ?_
                        refine ar_iadd (k := 47) rfl ?_
                        refine br_putIJ (k := 48) rfl (hS.k (by decide)) flR_42_12 (by decide) rfl (fun _ _ _ q => by cases q; exact ⟨rfl, rfl⟩) (fun I48 e48 => ?_)
                        change _ = uI _ 69 5 _ at e48
                        have hk48 := pH.p5 hk48 e48 (y := (p + 1) + 1) (by rfl)
                        refine ar_iinc (k := 49) (l2 := [(2, _), (1, _), (0, _)]) rfl (by decide) rfl rfl ?_
                        refine ar_goto (k := 50) rfl ?_
                        refine ar_iloadn (k := 18) rfl rfl ?_
                        refine ar_iconst (k := 19) rfl ?_
                        refine ar_icmp_ge (k := 20) rfl (by omega) (by omega) (fun c20 => ?_) (fun c20 => ?_)
                        · refine ar_iloadn (k := 51) rfl rfl ?_
                          refine ar_iret (k := 52) rfl rfl rfl (Nat.le_refl _) ?_
                          first
                            | (exfalso; omega)
                            | (rw [show pFig (tpe s) e (p, false, o) = (0, p, true, o) by rw [pFig]; rw [if_pos (by simp <;> omega)]]; exact ⟨congrArg (fun z => some (vi z)) (by show (_ : Int) = _; omega), I48, rfl, pH.cp hk48 (by omega)⟩)
                            | (rw [show pFig (tpe s) e (p, false, o) = (pHere (tpe s) e p - 48, p + 1, false, o) by rw [pFig]; rw [if_neg (by simp <;> omega), if_neg (by simp only []; omega)]]; exact ⟨congrArg (fun z => some (vi z)) (by show (_ : Int) = _; omega), I48, rfl, pH.cp hk48 (by omega)⟩)
                            | (rw [show pFig (tpe s) e (p, false, o) = (10 * (pHere (tpe s) e p - 48) + pHere (tpe s) e (p + 1) - 48, p + 2, false, o) by rw [pFig]; rw [if_neg (by simp <;> omega), if_pos (by simp only []; omega)]]; exact ⟨congrArg (fun z => some (vi z)) (by show (_ : Int) = _; omega), I48, rfl, pH.cp hk48 (by omega)⟩)
                        · refine ar_aloadn (k := 21) rfl rfl ?_
                          refine br_getI (k := 22) rfl (hS.k (by decide)) flR_48_12 (by decide) rfl ?_
                          refine tw_top (y := 1) (by exact hk48.2.2.2.2.1) ?_
                          refine ar_if_ne (k := 23) rfl (by omega) (fun c23 => ?_) (fun c23 => ?_)
                          · refine ar_iloadn (k := 51) rfl rfl ?_
                            refine ar_iret (k := 52) rfl rfl rfl (Nat.le_refl _) ?_
                            first
                              | (exfalso; omega)
                              | (rw [show pFig (tpe s) e (p, false, o) = (0, p, true, o) by rw [pFig]; rw [if_pos (by simp <;> omega)]]; exact ⟨congrArg (fun z => some (vi z)) (by show (_ : Int) = _; omega), I48, rfl, pH.cp hk48 (by omega)⟩)
                              | (rw [show pFig (tpe s) e (p, false, o) = (pHere (tpe s) e p - 48, p + 1, false, o) by rw [pFig]; rw [if_neg (by simp <;> omega), if_neg (by simp only []; omega)]]; exact ⟨congrArg (fun z => some (vi z)) (by show (_ : Int) = _; omega), I48, rfl, pH.cp hk48 (by omega)⟩)
                              | (rw [show pFig (tpe s) e (p, false, o) = (10 * (pHere (tpe s) e p - 48) + pHere (tpe s) e (p + 1) - 48, p + 2, false, o) by rw [pFig]; rw [if_neg (by simp <;> omega), if_pos (by simp only []; omega)]]; exact ⟨congrArg (fun z => some (vi z)) (by show (_ : Int) = _; omega), I48, rfl, pH.cp hk48 (by omega)⟩)
                          · refine ar_aloadn (k := 24) rfl rfl ?_
                            refine br_callV (k := 25) (as := []) rfl lvR_52 (hS.k (by decide)) rfl (c_R_here (p := ((p + 1) + 1)) hS hB hk48 (by (constructor <;> (dsimp only; omega))) rfl) rfl (by decide) (by decide) tw_m0 (Nat.le_of_ble_eq_true rfl) ?_
                            refine ar_bipush (k := 26) rfl (by decide) ?_
                            refine ar_bipush (k := 27) rfl (by decide) ?_
                            refine br_callS (k := 28) (as := [_, _, _]) rfl lsR_38 (c_R_in (by omega) (by omega) (by omega)) rfl (by decide) (by decide) tw_m0 (Nat.le_of_ble_eq_true rfl) ?_
                            refine ar_if_eq (k := 29) rfl (by omega) (fun c29 => ?_) (fun c29 => ?_)
                            · refine ar_iloadn (k := 51) rfl rfl ?_
                              refine ar_iret (k := 52) rfl rfl rfl (Nat.le_refl _) ?_
                              first
                                | (exfalso; omega)
                                | (rw [show pFig (tpe s) e (p, false, o) = (0, p, true, o) by rw [pFig]; rw [if_pos (by simp <;> omega)]]; exact ⟨congrArg (fun z => some (vi z)) (by show (_ : Int) = _; omega), I48, rfl, pH.cp hk48 (by omega)⟩)
                                | (rw [show pFig (tpe s) e (p, false, o) = (pHere (tpe s) e p - 48, p + 1, false, o) by rw [pFig]; rw [if_neg (by simp <;> omega), if_neg (by simp only []; omega)]]; exact ⟨congrArg (fun z => some (vi z)) (by show (_ : Int) = _; omega), I48, rfl, pH.cp hk48 (by omega)⟩)
                                | (rw [show pFig (tpe s) e (p, false, o) = (10 * (pHere (tpe s) e p - 48) + pHere (tpe s) e (p + 1) - 48, p + 2, false, o) by rw [pFig]; rw [if_neg (by simp <;> omega), if_pos (by simp only []; omega)]]; exact ⟨congrArg (fun z => some (vi z)) (by show (_ : Int) = _; omega), I48, rfl, pH.cp hk48 (by omega)⟩)
                            · refine ar_iloadn (k := 30) rfl rfl ?_
                              refine ar_if_eq (k := 31) rfl (by omega) (fun c31 => ?_) (fun c31 => ?_)
                              · refine ar_bipush (k := 34) rfl (by decide) ?_
                                refine ar_iloadn (k := 35) rfl rfl ?_
                                refine ar_imul (k := 36) rfl ?_
                                refine ar_aloadn (k := 37) rfl rfl ?_
                                refine br_callV (k := 38) (as := []) rfl lvR_52 (hS.k (by decide)) rfl (c_R_here (p := ((p + 1) + 1)) hS hB hk48 (by (constructor <;> (dsimp only; omega))) rfl) rfl (by decide) (by decide) tw_m0 (Nat.le_of_ble_eq_true rfl) ?_
                                refine ar_iadd (k := 39) rfl ?_
                                refine ar_bipush (k := 40) rfl (by decide) ?_
                                refine ar_isub (k := 41) rfl ?_
                                refine ar_istoren (k := 42) (l2 := [(1, _), (2, _), (0, _)]) rfl (by decide) rfl ?_
                                refine ar_aloadn (k := 43) rfl rfl ?_
                                refine ar_dup (k := 44) rfl rfl ?_
                                refine br_getI (k := 45) rfl (hS.k (by decide)) flR_42_12 (by decide) rfl ?_
                                refine tw_top (y := ((p + 1) + 1)) (by exact hk48.2.2.1) ?_
                                refine ar_iconst (k := 46) rfl ?_
                                refine ar_iadd (k := 47) rfl ?_
                                refine br_putIJ (k := 48) rfl (hS.k (by decide)) flR_42_12 (by decide) rfl (fun _ _ _ q => by cases q; exact ⟨rfl, rfl⟩) (fun I48 e48 => ?_)
                                change _ = uI _ 69 5 _ at e48
                                have hk48 := pH.p5 hk48 e48 (y := ((p + 1) + 1) + 1) (by rfl)
                                refine ar_iinc (k := 49) (l2 := [(2, _), (1, _), (0, _)]) rfl (by decide) rfl rfl ?_
                                refine ar_goto (k := 50) rfl ?_
                                exfalso; omega
                              · refine ar_iloadn (k := 32) rfl rfl ?_
                                refine ar_if_le (k := 33) rfl (by omega) (fun c33 => ?_) (fun c33 => ?_)
                                · refine ar_iloadn (k := 51) rfl rfl ?_
                                  refine ar_iret (k := 52) rfl rfl rfl (Nat.le_refl _) ?_
                                  first
                                    | (exfalso; omega)
                                    | (rw [show pFig (tpe s) e (p, false, o) = (0, p, true, o) by rw [pFig]; rw [if_pos (by simp <;> omega)]]; exact ⟨congrArg (fun z => some (vi z)) (by show (_ : Int) = _; omega), I48, rfl, pH.cp hk48 (by omega)⟩)
                                    | (rw [show pFig (tpe s) e (p, false, o) = (pHere (tpe s) e p - 48, p + 1, false, o) by rw [pFig]; rw [if_neg (by simp <;> omega), if_neg (by simp only []; omega)]]; exact ⟨congrArg (fun z => some (vi z)) (by show (_ : Int) = _; omega), I48, rfl, pH.cp hk48 (by omega)⟩)
                                    | (rw [show pFig (tpe s) e (p, false, o) = (10 * (pHere (tpe s) e p - 48) + pHere (tpe s) e (p + 1) - 48, p + 2, false, o) by rw [pFig]; rw [if_neg (by simp <;> omega), if_pos (by simp only []; omega)]]; exact ⟨congrArg (fun z => some (vi z)) (by show (_ : Int) = _; omega), I48, rfl, pH.cp hk48 (by omega)⟩)
                                · refine ar_bipush (k := 34) rfl (by decide) ?_
                                  refine ar_iloadn (k := 35) rfl rfl ?_
                                  refine ar_imul (k := 36) rfl ?_
                                  refine ar_aloadn (k := 37) rfl rfl ?_
                                  refine br_callV (k := 38) (as := []) rfl lvR_52 (hS.k (by decide)) rfl (c_R_here (p := ((p + 1) + 1)) hS hB hk48 (by (constructor <;> (dsimp only; omega))) rfl) rfl (by decide) (by decide) tw_m0 (Nat.le_of_ble_eq_true rfl) ?_
                                  refine ar_iadd (k := 39) rfl ?_
                                  refine ar_bipush (k := 40) rfl (by decide) ?_
                                  refine ar_isub (k := 41) rfl ?_
                                  refine ar_istoren (k := 42) (l2 := [(1, _), (2, _), (0, _)]) rfl (by decide) rfl ?_
                                  refine ar_aloadn (k := 43) rfl rfl ?_
                                  refine ar_dup (k := 44) rfl rfl ?_
                                  refine br_getI (k := 45) rfl (hS.k (by decide)) flR_42_12 (by decide) rfl ?_
                                  refine tw_top (y := ((p + 1) + 1)) (by exact hk48.2.2.1) ?_
                                  refine ar_iconst (k := 46) rfl ?_
                                  refine ar_iadd (k := 47) rfl ?_
                                  refine br_putIJ (k := 48) rfl (hS.k (by decide)) flR_42_12 (by decide) rfl (fun _ _ _ q => by cases q; exact ⟨rfl, rfl⟩) (fun I48 e48 => ?_)
                                  change _ = uI _ 69 5 _ at e48
                                  have hk48 := pH.p5 hk48 e48 (y := ((p + 1) + 1) + 1) (by rfl)
                                  refine ar_iinc (k := 49) (l2 := [(2, _), (1, _), (0, _)]) rfl (by decide) rfl rfl ?_
                                  refine ar_goto (k := 50) rfl ?_
                                  exfalso; omega
                      · refine ar_iloadn (k := 32) rfl rfl ?_
                        refine ar_if_le (k := 33) rfl (by omega) (fun c33 => ?_) (fun c33 => ?_)
                        · refine ar_iloadn (k := 51) rfl rfl ?_
                          refine ar_iret (k := 52) rfl rfl rfl (Nat.le_refl _) ?_
                          first
                            | (exfalso; omega)
                            | (rw [show pFig (tpe s) e (p, false, o) = (0, p, true, o) by rw [pFig]; rw [if_pos (by simp <;> omega)]]; exact ⟨congrArg (fun z => some (vi z)) (by show (_ : Int) = _; omega), I48, rfl, pH.cp hk48 (by omega)⟩)
                            | (rw [show pFig (tpe s) e (p, false, o) = (pHere (tpe s) e p - 48, p + 1, false, o) by rw [pFig]; rw [if_neg (by simp <;> omega), if_neg (by simp only []; omega)]]; exact ⟨congrArg (fun z => some (vi z)) (by show (_ : Int) = _; omega), I48, rfl, pH.cp hk48 (by omega)⟩)
                            | (rw [show pFig (tpe s) e (p, false, o) = (10 * (pHere (tpe s) e p - 48) + pHere (tpe s) e (p + 1) - 48, p + 2, false, o) by rw [pFig]; rw [if_neg (by simp <;> omega), if_pos (by simp only []; omega)]]; exact ⟨congrArg (fun z => some (vi z)) (by show (_ : Int) = _; omega), I48, rfl, pH.cp hk48 (by omega)⟩)
                        · refine ar_bipush (k := 34) rfl (by decide) ?_
                          refine ar_iloadn (k := 35) rfl rfl ?_
                          refine ar_imul (k := 36) rfl ?_
                          refine ar_aloadn (k := 37) rfl rfl ?_
                          refine br_callV (k := 38) (as := []) rfl lvR_52 (hS.k (by decide)) rfl (c_R_here (p := (p + 1)) hS hB hk48 (by (constructor <;> (dsimp only; omega))) rfl) rfl (by decide) (by decide) tw_m0 (Nat.le_of_ble_eq_true rfl) ?_
                          refine ar_iadd (k := 39) rfl ?_
                          refine ar_bipush (k := 40) rfl (by decide) ?_
                          refine ar_isub (k := 41) rfl ?_
                          refine ar_istoren (k := 42) (l2 := [(1, _), (2, _), (0, _)]) rfl (by decide) rfl ?_
                          refine ar_aloadn (k := 43) rfl rfl ?_
                          refine ar_dup (k := 44) rfl rfl ?_
                          refine br_getI (k := 45) rfl (hS.k (by decide)) flR_42_12 (by decide) rfl ?_
                          refine tw_top (y := (p + 1)) (by exact hk48.2.2.1) ?_
                          refine ar_iconst (k := 46) rfl ?_
                          refine ar_iadd (k := 47) rfl ?_
                          refine br_putIJ (k := 48) rfl (hS.k (by decide)) flR_42_12 (by decide) rfl (fun _ _ _ q => by cases q; exact ⟨rfl, rfl⟩) (fun I48 e48 => ?_)
                          change _ = uI _ 69 5 _ at e48
                          have hk48 := pH.p5 hk48 e48 (y := (p + 1) + 1) (by rfl)
                          refine ar_iinc (k := 49) (l2 := [(2, _), (1, _), (0, _)]) rfl (by decide) rfl rfl ?_
                          refine ar_goto (k := 50) rfl ?_
                          refine ar_iloadn (k := 18) rfl rfl ?_
                          refine ar_iconst (k := 19) rfl ?_
                          refine ar_icmp_ge (k := 20) rfl (by omega) (by omega) (fun c20 => ?_) (fun c20 => ?_)
                          · refine ar_iloadn (k := 51) rfl rfl ?_
                            refine ar_iret (k := 52) rfl rfl rfl (Nat.le_refl _) ?_
                            first
                              | (exfalso; omega)
                              | (rw [show pFig (tpe s) e (p, false, o) = (0, p, true, o) by rw [pFig]; rw [if_pos (by simp <;> omega)]]; exact ⟨congrArg (fun z => some (vi z)) (by show (_ : Int) = _; omega), I48, rfl, pH.cp hk48 (by omega)⟩)
                              | (rw [show pFig (tpe s) e (p, false, o) = (pHere (tpe s) e p - 48, p + 1, false, o) by rw [pFig]; rw [if_neg (by simp <;> omega), if_neg (by simp only []; omega)]]; exact ⟨congrArg (fun z => some (vi z)) (by show (_ : Int) = _; omega), I48, rfl, pH.cp hk48 (by omega)⟩)
                              | (rw [show pFig (tpe s) e (p, false, o) = (10 * (pHere (tpe s) e p - 48) + pHere (tpe s) e (p + 1) - 48, p + 2, false, o) by rw [pFig]; rw [if_neg (by simp <;> omega), if_pos (by simp only []; omega)]]; exact ⟨congrArg (fun z => some (vi z)) (by show (_ : Int) = _; omega), I48, rfl, pH.cp hk48 (by omega)⟩)
                          · refine ar_aloadn (k := 21) rfl rfl ?_
                            refine br_getI (k := 22) rfl (hS.k (by decide)) flR_48_12 (by decide) rfl ?_
                            refine tw_top (y := 1) (by exact hk48.2.2.2.2.1) ?_
                            refine ar_if_ne (k := 23) rfl (by omega) (fun c23 => ?_) (fun c23 => ?_)
                            · refine ar_iloadn (k := 51) rfl rfl ?_
                              refine ar_iret (k := 52) rfl rfl rfl (Nat.le_refl _) ?_
                              first
                                | (exfalso; omega)
                                | (rw [show pFig (tpe s) e (p, false, o) = (0, p, true, o) by rw [pFig]; rw [if_pos (by simp <;> omega)]]; exact ⟨congrArg (fun z => some (vi z)) (by show (_ : Int) = _; omega), I48, rfl, pH.cp hk48 (by omega)⟩)
                                | (rw [show pFig (tpe s) e (p, false, o) = (pHere (tpe s) e p - 48, p + 1, false, o) by rw [pFig]; rw [if_neg (by simp <;> omega), if_neg (by simp only []; omega)]]; exact ⟨congrArg (fun z => some (vi z)) (by show (_ : Int) = _; omega), I48, rfl, pH.cp hk48 (by omega)⟩)
                                | (rw [show pFig (tpe s) e (p, false, o) = (10 * (pHere (tpe s) e p - 48) + pHere (tpe s) e (p + 1) - 48, p + 2, false, o) by rw [pFig]; rw [if_neg (by simp <;> omega), if_pos (by simp only []; omega)]]; exact ⟨congrArg (fun z => some (vi z)) (by show (_ : Int) = _; omega), I48, rfl, pH.cp hk48 (by omega)⟩)
                            · refine ar_aloadn (k := 24) rfl rfl ?_
                              refine br_callV (k := 25) (as := []) rfl lvR_52 (hS.k (by decide)) rfl (c_R_here (p := ((p + 1) + 1)) hS hB hk48 (by (constructor <;> (dsimp only; omega))) rfl) rfl (by decide) (by decide) tw_m0 (Nat.le_of_ble_eq_true rfl) ?_
                              refine ar_bipush (k := 26) rfl (by decide) ?_
                              refine ar_bipush (k := 27) rfl (by decide) ?_
                              refine br_callS (k := 28) (as := [_, _, _]) rfl lsR_38 (c_R_in (by omega) (by omega) (by omega)) rfl (by decide) (by decide) tw_m0 (Nat.le_of_ble_eq_true rfl) ?_
                              refine ar_if_eq (k := 29) rfl (by omega) (fun c29 => ?_) (fun c29 => ?_)
                              · refine ar_iloadn (k := 51) rfl rfl ?_
                                refine ar_iret (k := 52) rfl rfl rfl (Nat.le_refl _) ?_
                                first
                                  | (exfalso; omega)
                                  | (rw [show pFig (tpe s) e (p, false, o) = (0, p, true, o) by rw [pFig]; rw [if_pos (by simp <;> omega)]]; exact ⟨congrArg (fun z => some (vi z)) (by show (_ : Int) = _; omega), I48, rfl, pH.cp hk48 (by omega)⟩)
                                  | (rw [show pFig (tpe s) e (p, false, o) = (pHere (tpe s) e p - 48, p + 1, false, o) by rw [pFig]; rw [if_neg (by simp <;> omega), if_neg (by simp only []; omega)]]; exact ⟨congrArg (fun z => some (vi z)) (by show (_ : Int) = _; omega), I48, rfl, pH.cp hk48 (by omega)⟩)
                                  | (rw [show pFig (tpe s) e (p, false, o) = (10 * (pHere (tpe s) e p - 48) + pHere (tpe s) e (p + 1) - 48, p + 2, false, o) by rw [pFig]; rw [if_neg (by simp <;> omega), if_pos (by simp only []; omega)]]; exact ⟨congrArg (fun z => some (vi z)) (by show (_ : Int) = _; omega), I48, rfl, pH.cp hk48 (by omega)⟩)
                              · refine ar_iloadn (k := 30) rfl rfl ?_
                                refine ar_if_eq (k := 31) rfl (by omega) (fun c31 => ?_) (fun c31 => ?_)
                                · refine ar_bipush (k := 34) rfl (by decide) ?_
                                  refine ar_iloadn (k := 35) rfl rfl ?_
                                  refine ar_imul (k := 36) rfl ?_
                                  refine ar_aloadn (k := 37) rfl rfl ?_
                                  refine br_callV (k := 38) (as := []) rfl lvR_52 (hS.k (by decide)) rfl (c_R_here (p := ((p + 1) + 1)) hS hB hk48 (by (constructor <;> (dsimp only; omega))) rfl) rfl (by decide) (by decide) tw_m0 (Nat.le_of_ble_eq_true rfl) ?_
                                  refine ar_iadd (k := 39) rfl ?_
                                  refine ar_bipush (k := 40) rfl (by decide) ?_
                                  refine ar_isub (k := 41) rfl ?_
                                  refine ar_istoren (k := 42) (l2 := [(1, _), (2, _), (0, _)]) rfl (by decide) rfl ?_
                                  refine ar_aloadn (k := 43) rfl rfl ?_
                                  refine ar_dup (k := 44) rfl rfl ?_
                                  refine br_getI (k := 45) rfl (hS.k (by decide)) flR_42_12 (by decide) rfl ?_
                                  refine tw_top (y := ((p + 1) + 1)) (by exact hk48.2.2.1) ?_
                                  refine ar_iconst (k := 46) rfl ?_
                                  refine ar_iadd (k := 47) rfl ?_
                                  refine br_putIJ (k := 48) rfl (hS.k (by decide)) flR_42_12 (by decide) rfl (fun _ _ _ q => by cases q; exact ⟨rfl, rfl⟩) (fun I48 e48 => ?_)
                                  change _ = uI _ 69 5 _ at e48
                                  have hk48 := pH.p5 hk48 e48 (y := ((p + 1) + 1) + 1) (by rfl)
                                  refine ar_iinc (k := 49) (l2 := [(2, _), (1, _), (0, _)]) rfl (by decide) rfl rfl ?_
                                  refine ar_goto (k := 50) rfl ?_
                                  exfalso; omega
                                · refine ar_iloadn (k := 32) rfl rfl ?_
                                  refine ar_if_le (k := 33) rfl (by omega) (fun c33 => ?_) (fun c33 => ?_)
                                  · refine ar_iloadn (k := 51) rfl rfl ?_
                                    refine ar_iret (k := 52) rfl rfl rfl (Nat.le_refl _) ?_
                                    first
                                      | (exfalso; omega)
                                      | (rw [show pFig (tpe s) e (p, false, o) = (0, p, true, o) by rw [pFig]; rw [if_pos (by simp <;> omega)]]; exact ⟨congrArg (fun z => some (vi z)) (by show (_ : Int) = _; omega), I48, rfl, pH.cp hk48 (by omega)⟩)
                                      | (rw [show pFig (tpe s) e (p, false, o) = (pHere (tpe s) e p - 48, p + 1, false, o) by rw [pFig]; rw [if_neg (by simp <;> omega), if_neg (by simp only []; omega)]]; exact ⟨congrArg (fun z => some (vi z)) (by show (_ : Int) = _; omega), I48, rfl, pH.cp hk48 (by omega)⟩)
                                      | (rw [show pFig (tpe s) e (p, false, o) = (10 * (pHere (tpe s) e p - 48) + pHere (tpe s) e (p + 1) - 48, p + 2, false, o) by rw [pFig]; rw [if_neg (by simp <;> omega), if_pos (by simp only []; omega)]]; exact ⟨congrArg (fun z => some (vi z)) (by show (_ : Int) = _; omega), I48, rfl, pH.cp hk48 (by omega)⟩)
                                  · refine ar_bipush (k := 34) rfl (by decide) ?_
                                    refine ar_iloadn (k := 35) rfl rfl ?_
                                    refine ar_imul (k := 36) rfl ?_
                                    refine ar_aloadn (k := 37) rfl rfl ?_
                                    refine br_callV (k := 38) (as := []) rfl lvR_52 (hS.k (by decide)) rfl (c_R_here (p := ((p + 1) + 1)) hS hB hk48 (by (constructor <;> (dsimp only; omega))) rfl) rfl (by decide) (by decide) tw_m0 (Nat.le_of_ble_eq_true rfl) ?_
                                    refine ar_iadd (k := 39) rfl ?_
                                    refine ar_bipush (k := 40) rfl (by decide) ?_
                                    refine ar_isub (k := 41) rfl ?_
                                    refine ar_istoren (k := 42) (l2 := [(1, _), (2, _), (0, _)]) rfl (by decide) rfl ?_
                                    refine ar_aloadn (k := 43) rfl rfl ?_
                                    refine ar_dup (k := 44) rfl rfl ?_
                                    refine br_getI (k := 45) rfl (hS.k (by decide)) flR_42_12 (by decide) rfl ?_
                                    refine tw_top (y := ((p + 1) + 1)) (by exact hk48.2.2.1) ?_
                                    refine ar_iconst (k := 46) rfl ?_
                                    refine ar_iadd (k := 47) rfl ?_
                                    refine br_putIJ (k := 48) rfl (hS.k (by decide)) flR_42_12 (by decide) rfl (fun _ _ _ q => by cases q; exact ⟨rfl, rfl⟩) (fun I48 e48 => ?_)
                                    change _ = uI _ 69 5 _ at e48
                                    have hk48 := pH.p5 hk48 e48 (y := ((p + 1) + 1) + 1) (by rfl)
                                    refine ar_iinc (k := 49) (l2 := [(2, _), (1, _), (0, _)]) rfl (by decide) rfl rfl ?_
                                    refine ar_goto (k := 50) rfl ?_
                                    exfalso; omega
theorem c_R_figures (hS : tSt (K, J, Q, n)) (hB : pB s a e) (hk : pH I J s a e op q) (p1 : 0 ≤ q.1 ∧ q.1 ≤ e) : tw_M l G 2 0 0 mR_figures [vr (some 69)] (K, J, Q, n) (fun r h' => r = some (vi (pFig (tpe s) e q).1) ∧ ∃ L, h' = (K, L, Q, n) ∧ pH I L s a e op ((pFig (tpe s) e q).2)) := by
  obtain ⟨p, w, o⟩ := q
  cases w
  · exact c_R_figures_f hS hB hk p1
  · exact c_R_figures_t hS hB hk p1
theorem pFig_bd {s : Int → Int} {a e : Int} {q : tP} (hB : pB s a e) (h : 0 ≤ q.1 ∧ q.1 ≤ e) : q.1 ≤ (pFig (tpe s) e q).2.1 ∧ (pFig (tpe s) e q).2.1 ≤ e ∧ (pFig (tpe s) e q).2.2.2 = q.2.2 ∧ (0 ≤ (pFig (tpe s) e q).1 ∧ (pFig (tpe s) e q).1 ≤ 99) ∧ ((pFig (tpe s) e q).2.2.1 = false → q.1 < (pFig (tpe s) e q).2.1) := by
  have h1 := pHere_bd (p := q.1) hB h.1
  have h2 := pHere_bd (p := q.1 + 1) hB (by omega)
  rw [pFig]
  split
  · exact ⟨Int.le_refl _, h.2, rfl, by show (0:Int) ≤ 0 ∧ (0:Int) ≤ 99; decide, fun z => by cases z⟩
  · rename_i g
    have g2 : pDigP (tpe s) e q.1 := by
      by_cases g3 : pDigP (tpe s) e q.1
      · exact g3
      · exact absurd (Or.inr g3) g
    split
    · refine ⟨by show q.1 ≤ q.1 + 2; omega, by show q.1 + 2 ≤ e; omega, rfl, by show 0 ≤ 10 * (pHere (tpe s) e q.1 - 48) + pHere (tpe s) e (q.1 + 1) - 48 ∧ _ ≤ _; omega, fun _ => by show q.1 < q.1 + 2; omega⟩
    · refine ⟨by show q.1 ≤ q.1 + 1; omega, by show q.1 + 1 ≤ e; omega, rfl, by show 0 ≤ pHere (tpe s) e q.1 - 48 ∧ _ ≤ _; omega, fun _ => by show q.1 < q.1 + 1; omega⟩
end RP
