theorem pFac_w {t : Int → Int} {e : Int} {q : tP} (h : q.2.1 = true) : ∀ k, pFac t e k q = q
  | 0 => rfl
  | k + 1 => by rw [pFac_s, if_pos h]
theorem pEv_w2 {t : Int → Int} {e : Int} {q : tP} {k : Nat} (h : q.2.1 = true) : pEv t e (pFac t e k) q = q := by
  unfold pEv
  rw [pFac_w h, pLoop_w h]
theorem pSo_w {t : Int → Int} {e : Int} {q : tP} {k : Nat} (h : q.2.1 = true) : pSo t e (pFac t e k) q = q := by
  unfold pSo
  rw [pEv_w2 h, pLoop_w h]
/-- how deep a row of steps leads -/
def lDeep : Nat → List Int → Option Nat
  | d, [] => some d
  | d, x :: r => (rDeep d x).bind fun d' => lDeep d' r
theorem lDeep_app : ∀ (d : Nat) (x y : List Int), lDeep d (x ++ y) = (lDeep d x).bind fun d' => lDeep d' y
  | d, [], y => rfl
  | d, z :: x, y => by
    rw [List.cons_append, lDeep, lDeep]
    cases rDeep d z with
    | none => rfl
    | some d' => exact lDeep_app d' x y
def pAd (d d' : Nat) (q r : tP) : Prop := r.2.1 = false → ∃ x, r.2.2 = q.2.2 ++ x ∧ lDeep d x = some d'
theorem pAd.tr {d d1 d2 : Nat} {q r u : tP} (h : pAd d d1 q r) (g : pAd d1 d2 r u) (w : u.2.1 = false → r.2.1 = false) : pAd d d2 q u := by
  intro hu
  obtain ⟨x, x1, x2⟩ := h (w hu)
  obtain ⟨y, y1, y2⟩ := g hu
  refine ⟨x ++ y, by rw [y1, x1, List.append_assoc], ?_⟩
  rw [lDeep_app, x2]; exact y2
theorem pAd.em {d d1 d2 : Nat} {q r : tP} {x : Int} (h : pAd d d1 q r) (g : rDeep d1 x = some d2) : pAd d d2 q (pEmit x r) := by
  obtain ⟨p, w, o⟩ := r
  cases w
  · rw [pEmit_f]
    intro _
    obtain ⟨y, y1, y2⟩ := h rfl
    simp only at y1
    refine ⟨y ++ [x], by simp only; rw [y1, List.append_assoc], ?_⟩
    rw [lDeep_app, y2]
    show (rDeep d1 x).bind _ = _
    rw [g]; rfl
  · rw [pEmit_t]; intro z; cases z
theorem pEmit_w {x : Int} {q : tP} : (pEmit x q).2.1 = q.2.1 := by
  unfold pEmit
  split <;> rfl
theorem pLoop_deep {s : Int → Int} {a e c x : Int} {d : Nat} {sub : tP → tP} (hB : pB s a e) (hc : c ≠ -1) (hsub : ∀ q, pZ e q → pOK e q (sub q)) (hd : ∀ q, pZ e q → pAd (d + 1) (d + 2) q (sub q)) (hx : rDeep (d + 2) x = some (d + 1)) : ∀ (f : Nat) (q : tP), pZ e q → pAd (d + 1) (d + 1) q (pLoop (tpe s) e c x sub f q)
  | 0, q, _ => fun _ => ⟨[], by rw [List.append_nil]; rfl, rfl⟩
  | f + 1, q, h => by
    rw [pLoop]
    by_cases g : q.2.1 = false ∧ pHere (tpe s) e q.1 = c
    · rw [if_pos g]
      have h1 := pHere_bd hB h.1
      have z1 : pZ e (q.1 + 1, false, q.2.2) := ⟨by show 0 ≤ q.1 + 1; omega, by show q.1 + 1 ≤ e; omega, by show (q.2.2.length : Int) ≤ q.1 + 1; omega⟩
      have h2 := hsub _ z1
      have h3 : pOK e q (pEmit x (sub (q.1 + 1, false, q.2.2))) := by
        obtain ⟨a1, a2, a3⟩ := h2
        simp only at a1 a3
        exact pEmit_ok ⟨by omega, a2, by omega⟩ (fun _ => by omega)
      have h4 : pAd (d + 1) (d + 1) q (pEmit x (sub (q.1 + 1, false, q.2.2))) := pAd.em (q := q) (hd _ z1) hx
      by_cases hw : (pEmit x (sub (q.1 + 1, false, q.2.2))).2.1 = true
      · rw [pLoop_w hw]; exact h4
      · exact h4.tr (pLoop_deep hB hc hsub hd hx f _ (h3.z h)) (fun _ => by simpa using hw)
    · rw [if_neg g]; exact fun _ => ⟨[], by rw [List.append_nil], rfl⟩
theorem pEv_deep {s : Int → Int} {a e : Int} {d k : Nat} (hB : pB s a e) (h1 : ∀ q, pZ e q → pAd d (d + 1) q (pFac (tpe s) e k q)) (h2 : ∀ q, pZ e q → pAd (d + 1) (d + 2) q (pFac (tpe s) e k q)) {q : tP} (h : pZ e q) : pAd d (d + 1) q (pEv (tpe s) e (pFac (tpe s) e k) q) := by
  unfold pEv
  by_cases hw : (pFac (tpe s) e k q).2.1 = true
  · rw [pLoop_w hw]; exact h1 q h
  · exact (h1 q h).tr (pLoop_deep hB (by decide) (pFac_ok hB k) h2 (by unfold rDeep; rw [if_neg (by decide), if_neg (by decide), if_pos (by decide), if_pos (by omega)]; rfl) 101 _ ((pFac_ok hB k q h).z h)) (fun _ => by simpa using hw)
theorem pSo_deep {s : Int → Int} {a e : Int} {d k : Nat} (hB : pB s a e) (hf : ∀ d2 q, d ≤ d2 → d2 ≤ d + 2 → pZ e q → pAd d2 (d2 + 1) q (pFac (tpe s) e k q)) {q : tP} (h : pZ e q) : pAd d (d + 1) q (pSo (tpe s) e (pFac (tpe s) e k) q) := by
  have h1 := pEv_deep hB (d := d) (fun q z => hf d q (by omega) (by omega) z) (fun q z => hf (d + 1) q (by omega) (by omega) z) h
  unfold pSo
  by_cases hw : (pEv (tpe s) e (pFac (tpe s) e k) q).2.1 = true
  · rw [pLoop_w hw]; exact h1
  · exact h1.tr (pLoop_deep hB (by decide) (fun _ z => pEv_ok hB (pFac_ok hB k) z) (fun q z => pEv_deep hB (fun q z => hf (d + 1) q (by omega) (by omega) z) (fun q z => hf (d + 2) q (by omega) (by omega) z) z) (by unfold rDeep; rw [if_neg (by decide), if_neg (by decide), if_pos (by decide), if_pos (by omega)]; rfl) 101 _ ((pEv_ok hB (pFac_ok hB k) h).z h)) (fun _ => by simpa using hw)
theorem rDeep_tt {d : Nat} {w h v : Int} (h1 : 0 ≤ w ∧ w < 5) (h2 : 0 ≤ h ∧ h < 3) (h3 : 0 ≤ v ∧ v ≤ 99) (hd : d < 13) : rDeep d (w + 8 * h + 32 * v) = some (d + 1) := by
  unfold rDeep
  rw [if_pos (by omega), if_pos (by omega)]
theorem pTst_deep {s : Int → Int} {a e : Int} {q : tP} {d : Nat} (hB : pB s a e) (hd : d < 13) (h : pZ e q) : pAd d (d + 1) q (pTst (tpe s) e q) := by
  have h2 := pAm_bd (j := 2) (by decide) hB h.1
  have h3 := pAm_bd (j := 3) (p := q.1 + 1) (by decide) hB (by omega)
  rw [show sN 2 = 5 from rfl] at h2
  rw [show sN 3 = 3 from rfl] at h3
  rw [pTst]
  split
  · intro z; cases z
  · split
    · intro z; cases z
    · have h4 := pFig_bd (q := (q.1 + 2, false, q.2.2)) hB ⟨by show 0 ≤ q.1 + 2; omega, by show q.1 + 2 ≤ e; omega⟩
      obtain ⟨g1, g2, g3, g4, g5⟩ := h4
      refine pAd.em (d1 := d) (fun _ => ⟨[], by rw [g3, List.append_nil], rfl⟩) (rDeep_tt (by omega) (by omega) g4 hd)
theorem pFac_deep {s : Int → Int} {a e : Int} (hB : pB s a e) : ∀ (k : Nat) (d : Nat) (q : tP), d + 2 * (k + 1) ≤ 14 → pZ e q → pAd d (d + 1) q (pFac (tpe s) e (k + 1) q)
  | 0, d, q, hd, h => by
    rw [pFac_s]
    split
    · rename_i hw; intro z; rw [hw] at z; cases z
    · split
      · rw [if_pos rfl]; intro z; rw [pEmit_w] at z; cases z
      · split
        · rw [if_pos rfl, pSo_w rfl]; intro z; rw [pMust, if_pos (Or.inl rfl)] at z; cases z
        · exact pTst_deep hB (by omega) h
  | k + 1, d, q, hd, h => by
    have hb := pHere_bd hB h.1
    rw [pFac_s, if_neg (show k + 1 ≠ 0 by omega)]
    split
    · rename_i hw; intro z; rw [hw] at z; cases z
    · split
      · have z1 : pZ e (q.1 + 1, false, q.2.2) := ⟨by show 0 ≤ q.1 + 1; omega, by show q.1 + 1 ≤ e; omega, by show (q.2.2.length : Int) ≤ q.1 + 1; omega⟩
        exact pAd.em (q := q) (pFac_deep hB k d _ (by omega) z1) (by unfold rDeep; rw [if_neg (by decide), if_pos rfl, if_pos (by omega)])
      · split
        · have z1 : pZ e (q.1 + 1, false, q.2.2) := ⟨by show 0 ≤ q.1 + 1; omega, by show q.1 + 1 ≤ e; omega, by show (q.2.2.length : Int) ≤ q.1 + 1; omega⟩
          have h1 : pAd d (d + 1) q (pSo (tpe s) e (pFac (tpe s) e (k + 1)) (q.1 + 1, false, q.2.2)) := pSo_deep hB (fun d2 q a1 a2 z => pFac_deep hB k d2 q (by omega) z) z1
          intro z
          rw [pMust] at z ⊢
          by_cases hc : (pSo (tpe s) e (pFac (tpe s) e (k + 1)) (q.1 + 1, false, q.2.2)).2.1 = true ∨ pHere (tpe s) e (pSo (tpe s) e (pFac (tpe s) e (k + 1)) (q.1 + 1, false, q.2.2)).1 ≠ 41
          · rw [if_pos hc] at z; cases z
          · rw [if_neg hc]
            exact h1 (by
              by_cases h2 : (pSo (tpe s) e (pFac (tpe s) e (k + 1)) (q.1 + 1, false, q.2.2)).2.1 = true
              · exact absurd (Or.inl h2) hc
              · simpa using h2)
        · exact pTst_deep hB (by omega) h
/-! clauses -/
def pMuch (t : Int → Int) (e : Int) (j : Nat) (x : Int) (q : tP) : tP := pEmit (x - (pFig t e (pSpl t e j (sN j) 0 q)).1) (pSo t e (pFac t e 6) (pMust t e 32 (pFig t e (pSpl t e j (sN j) 0 q)).2))
def pBel (t : Int → Int) (e : Int) (q : tP) : Int × tP := pFig t e (pSpl t e 5 (sN 5) 0 q)
def pCl (t : Int → Int) (e : Int) (x : tP × Int) : tP × Int := if pHere t e x.1.1 = 119 then (pMuch t e 0 (-10) x.1, x.2) else if pHere t e x.1.1 = 108 then (pMuch t e 4 (-200) x.1, x.2) else if pHere t e x.1.1 = 98 then ((pBel t e x.1).2, if (pBel t e x.1).2.2.1 = true then x.2 else (pBel t e x.1).1) else ((x.1.1, true, x.1.2.2), x.2)
def pVal (t : Int → Int) (e : Int) : Nat → tP × Int → tP × Int
  | 0, x => x
  | k + 1, x => if x.1.2.1 = false ∧ pHere t e x.1.1 = 59 then pVal t e k (pCl t e ((x.1.1 + 1, false, x.1.2.2), x.2)) else x
theorem pFig_ok {s : Int → Int} {a e : Int} {q : tP} (hB : pB s a e) (h : pZ e q) : pOK e q (pFig (tpe s) e q).2 := by
  obtain ⟨g1, g2, g3, g4, g5⟩ := pFig_bd hB ⟨h.1, h.2.1⟩
  exact ⟨g1, g2, by rw [g3]; omega⟩
theorem pMust_w {t : Int → Int} {e c : Int} {q : tP} (h : (pMust t e c q).2.1 = false) : q.2.1 = false := by
  by_cases hw : q.2.1 = true
  · rw [pMust, if_pos (Or.inl hw)] at h; cases h
  · simpa using hw
theorem pMuch_ok {s : Int → Int} {a e x : Int} {j : Nat} {q : tP} (hj : j < 6) (hB : pB s a e) (h : pZ e q) : pOK e q (pMuch (tpe s) e j x q) := by
  have h1 := pSpl_ok (t := tpe s) hj h
  have h2 := pFig_ok hB (h1.z h)
  have h3 := pMust_ok (t := tpe s) (c := 32) (by decide) (h2.z (h1.z h))
  have h4 := pSo_ok hB (pFac_ok hB 6) (h3.z (h2.z (h1.z h)))
  refine pEmit_ok (((h1.tr h2).tr h3).tr h4) (fun z => ?_)
  have z1 : (pMust (tpe s) e 32 (pFig (tpe s) e (pSpl (tpe s) e j (sN j) 0 q)).2).2.1 = false := by
    by_cases hw : (pMust (tpe s) e 32 (pFig (tpe s) e (pSpl (tpe s) e j (sN j) 0 q)).2).2.1 = true
    · rw [pSo_w hw, hw] at z; cases z
    · simpa using hw
  have z2 := (pFig_bd hB ⟨(h1.z h).1, (h1.z h).2.1⟩).2.2.2.2 (pMust_w z1)
  have z3 := (pFig_bd hB ⟨(h1.z h).1, (h1.z h).2.1⟩).2.2.1
  have z4 : (pMust (tpe s) e 32 (pFig (tpe s) e (pSpl (tpe s) e j (sN j) 0 q)).2).2.2 = (pFig (tpe s) e (pSpl (tpe s) e j (sN j) 0 q)).2.2.2 := (pMust_bd (by decide) ⟨((h2.z (h1.z h))).1, ((h2.z (h1.z h))).2.1⟩).2.2
  obtain ⟨a1, a2, a3⟩ := h1
  obtain ⟨b1, b2, b3⟩ := h3
  obtain ⟨c1, c2, c3⟩ := h4
  rw [z4, z3] at c3
  omega
theorem pMuch_deep {s : Int → Int} {a e x : Int} {j : Nat} {q : tP} (hj : j < 6) (hB : pB s a e) (hx : x = -10 ∨ x = -200) (h : pZ e q) : pAd 0 0 q (pMuch (tpe s) e j x q) := by
  have h0 := pSpl_bd (t := tpe s) (e := e) hj (sN j) 0 q (by omega) ⟨h.1, h.2.1⟩
  have h1 := pSpl_ok (t := tpe s) hj h
  have h2 := pFig_ok hB (h1.z h)
  have g2 := pFig_bd hB ⟨(h1.z h).1, (h1.z h).2.1⟩
  have h3 := pMust_ok (t := tpe s) (c := 32) (by decide) (h2.z (h1.z h))
  have g3 := (pMust_bd (t := tpe s) (c := 32) (by decide) ⟨((h2.z (h1.z h))).1, ((h2.z (h1.z h))).2.1⟩).2.2
  refine pAd.em (d1 := 1) ?_ (by unfold rDeep; rw [if_neg (by omega), if_neg (by omega), if_neg (by omega), if_pos (by omega), if_pos rfl])
  have h4 := pSo_deep (d := 0) hB (fun d2 q a1 a2 z => pFac_deep hB 5 d2 q (by omega) z) (h3.z (h2.z (h1.z h)))
  intro z
  obtain ⟨y, y1, y2⟩ := h4 z
  refine ⟨y, ?_, y2⟩
  rw [y1, g3, g2.2.2.1, h0.2.2]
theorem pCl_ok {s : Int → Int} {a e : Int} {x : tP × Int} (hB : pB s a e) (h : pZ e x.1) : pOK e x.1 (pCl (tpe s) e x).1 := by
  rw [pCl]
  split
  · exact pMuch_ok (by decide) hB h
  · split
    · exact pMuch_ok (by decide) hB h
    · split
      · have h1 := pSpl_ok (t := tpe s) (j := 5) (by decide) h
        exact h1.tr (pFig_ok hB (h1.z h))
      · exact ⟨Int.le_refl _, h.2.1, Int.le_refl _⟩
theorem pCl_bell {s : Int → Int} {a e : Int} {x : tP × Int} (hB : pB s a e) (h : pZ e x.1) (hb : 0 ≤ x.2 ∧ x.2 ≤ 99) : 0 ≤ (pCl (tpe s) e x).2 ∧ (pCl (tpe s) e x).2 ≤ 99 := by
  rw [pCl]
  split
  · exact hb
  · split
    · exact hb
    · split
      · simp only
        split
        · exact hb
        · have h1 := pSpl_ok (t := tpe s) (j := 5) (by decide) h
          exact (pFig_bd hB ⟨(h1.z h).1, (h1.z h).2.1⟩).2.2.2.1
      · exact hb
theorem pCl_deep {s : Int → Int} {a e : Int} {x : tP × Int} (hB : pB s a e) (h : pZ e x.1) : pAd 0 0 x.1 (pCl (tpe s) e x).1 := by
  rw [pCl]
  split
  · exact pMuch_deep (by decide) hB (Or.inl rfl) h
  · split
    · exact pMuch_deep (by decide) hB (Or.inr rfl) h
    · split
      · have h0 := pSpl_bd (t := tpe s) (e := e) (j := 5) (by decide) (sN 5) 0 x.1 (by omega) ⟨h.1, h.2.1⟩
        have h1 := pSpl_ok (t := tpe s) (j := 5) (by decide) h
        intro _
        refine ⟨[], ?_, rfl⟩
        rw [List.append_nil]
        exact ((pFig_bd hB ⟨(h1.z h).1, (h1.z h).2.1⟩).2.2.1).trans h0.2.2
      · intro z; cases z
theorem pVal_ok {s : Int → Int} {a e : Int} (hB : pB s a e) : ∀ (k : Nat) (x : tP × Int), pZ e x.1 → (0 ≤ x.2 ∧ x.2 ≤ 99) → pZ e (pVal (tpe s) e k x).1 ∧ (0 ≤ (pVal (tpe s) e k x).2 ∧ (pVal (tpe s) e k x).2 ≤ 99) ∧ pAd 0 0 x.1 (pVal (tpe s) e k x).1
  | 0, x, h, hb => ⟨h, hb, fun _ => ⟨[], by rw [List.append_nil]; rfl, rfl⟩⟩
  | k + 1, x, h, hb => by
    have h1 := pHere_bd hB h.1
    rw [pVal]
    by_cases g : x.1.2.1 = false ∧ pHere (tpe s) e x.1.1 = 59
    · rw [if_pos g]
      have z1 : pZ e (x.1.1 + 1, false, x.1.2.2) := ⟨by show 0 ≤ x.1.1 + 1; omega, by show x.1.1 + 1 ≤ e; omega, by show (x.1.2.2.length : Int) ≤ x.1.1 + 1; omega⟩
      have h2 := pCl_ok (x := ((x.1.1 + 1, false, x.1.2.2), x.2)) hB z1
      have h3 : pAd 0 0 x.1 (pCl (tpe s) e ((x.1.1 + 1, false, x.1.2.2), x.2)).1 := pCl_deep (x := ((x.1.1 + 1, false, x.1.2.2), x.2)) hB z1
      obtain ⟨a1, a2, a3⟩ := pVal_ok hB k _ (h2.z z1) (pCl_bell (x := ((x.1.1 + 1, false, x.1.2.2), x.2)) hB z1 hb)
      refine ⟨a1, a2, ?_⟩
      by_cases hw : (pCl (tpe s) e ((x.1.1 + 1, false, x.1.2.2), x.2)).1.2.1 = true
      · have e1 : pVal (tpe s) e k (pCl (tpe s) e ((x.1.1 + 1, false, x.1.2.2), x.2)) = pCl (tpe s) e ((x.1.1 + 1, false, x.1.2.2), x.2) := by
          cases k with
          | zero => rfl
          | succ k => rw [pVal, if_neg (by rw [hw]; simp)]
        rw [e1]; exact h3
      · exact h3.tr a3 (fun _ => by simpa using hw)
    · rw [if_neg g]; exact ⟨h, hb, fun _ => ⟨[], by rw [List.append_nil], rfl⟩⟩
/-- the reading of what is on the tape -/
def rRead (s : Int → Int) : tP × Int := pVal (tpe s) (s 5) 9 (pCl (tpe s) (s 5) ((0, false, []), 6))
def rBad (s : Int → Int) : Prop := (rRead s).1.2.1 = true ∨ (rRead s).1.1 ≠ s 5
def rValA (s : Int → Int) : Int := if s 2 = 5 then -4 else if (rRead s).1.2.1 = true ∨ (rRead s).1.1 ≠ s 5 then -10 - (rRead s).1.1 else s 2
def rPut (s : Int → Int) : Int → Int := pW (up (up s 5 0) (274 + s 2) (rRead s).2) (s 2) (rRead s).1.2.2
def rValS (s : Int → Int) : Int → Int := if s 2 = 5 then s else if (rRead s).1.2.1 = true ∨ (rRead s).1.1 ≠ s 5 then rPut s else up (up (rPut s) 2 (s 2 + 1)) 6 (s 2)
