/-! a look, tool by tool -/
abbrev dn (s : Int → Int) (t j : Nat) : Prop := (j : Int) < s 1 ∧ s (94 + (j : Int)) ≠ -1 ∧ (j < t ∨ s (94 + (j : Int)) < (t : Int))
def LB (J : Nat → Int → Int) (s : Int → Int) (th t : Nat) : Prop :=
  J 40 2 = rBell s ∧
  (∀ p : Nat, p < 8 → ∀ j, j < 32 → ib (J 52 (p : Int)) j = decide (j < th ∧ s (84 + (j : Int)) = (p : Int))) ∧
  (∀ p : Nat, p < 8 → ∀ j, j < 32 → (ib (J 53 (p : Int)) j = true ↔ (dn s t j ∧ s (84 + s (94 + (j : Int))) = (p : Int)))) ∧
  (∀ j, j < 32 → (ib (J 40 6) j = true ↔ (dn s t j ∧ s (104 + (j : Int)) = 0))) ∧
  (∀ j, j < 32 → (ib (J 40 7) j = true ↔ (dn s t j ∧ s (26 + s (84 + (j : Int))) = s (26 + s (84 + s (94 + (j : Int))))))) ∧
  (∀ j : Nat, dn s t j → ∀ u : Int, 0 ≤ u → u < 24 → J (42 + j) u = rWorth s (j : Int) u) ∧
  (J 40 11 = ((prsN s t 0).length : Int) ∧ ∀ i : Nat, i < (prsN s t 0).length → J 54 (i : Int) = (((prsN s t 0).getD i 0 : Nat) : Int) ∧ J 55 (i : Int) = pHd s ((prsN s t 0).getD i 0) ∧ ∀ u : Nat, u < 24 → (ib (J 56 (i : Int)) u = true ↔ pCan s (((prsN s t 0).getD i 0 : Nat) : Int) (u : Int)))
theorem prsN_snoc {s : Int → Int} : ∀ (k t : Nat), prsN s (k + 1) t = prsN s k t ++ (if ((t + k : Nat) : Int) < s (94 + ((t + k : Nat) : Int)) then [t + k] else [])
  | 0, t => by simp only [prsN, Nat.add_zero, List.nil_append]
  | k + 1, t => by
    rw [prsN, prsN_snoc k (t + 1), prsN, show t + 1 + k = t + (k + 1) by omega]
    by_cases g : (t : Int) < s (94 + (t : Int))
    · rw [if_pos g, if_pos g, List.cons_append]
    · rw [if_neg g, if_neg g]
theorem prsN_lt {s : Int → Int} (hR : RInv s) {t : Nat} (t1 : (t : Int) < s 1) (t2 : (t : Int) < s (94 + (t : Int))) : (prsN s t 0).length < 5 := by
  have h5 := prs_len hR
  have hm : ∀ k : Nat, (prsN s (t + 1) 0).length ≤ (prsN s (t + 1 + k) 0).length := by
    intro k
    induction k with
    | zero => exact Nat.le_refl _
    | succ k ih => rw [show t + 1 + (k + 1) = (t + 1 + k) + 1 by omega, prsN_snoc (t + 1 + k) 0, List.length_append]; omega
  have h1 := hm ((s 1).toNat - (t + 1))
  rw [show t + 1 + ((s 1).toNat - (t + 1)) = (s 1).toNat by omega] at h1
  have e : (prsN s (t + 1) 0).length = (prsN s t 0).length + 1 := by
    rw [prsN_snoc, List.length_append, Nat.zero_add, if_pos t2]
    rfl
  have e2 : (prs s).length = (prsN s (s 1).toNat 0).length := rfl
  omega
/-- a tool that is no lesser one -/
theorem LB.skip {J : Nat → Int → Int} {s : Int → Int} {th t : Nat} (hR : RInv s) (h : LB J s th t) (t1 : (t : Int) < s 1) (t2 : ¬ (t : Int) < s (94 + (t : Int))) : LB J s th (t + 1) := by
  have ht := hR.2.2.2.2.2.2.2.2.2.1
  have wt := ht (t : Int) (by omega) t1
  have e : ∀ j : Nat, dn s (t + 1) j ↔ dn s t j := fun j => by
    unfold dn
    constructor
    · rintro ⟨a1, a2, a3⟩
      have wj := ht (j : Int) (by omega) a1
      refine ⟨a1, a2, ?_⟩
      by_cases g : j = t
      · subst g; omega
      · by_cases g2 : s (94 + (j : Int)) = (t : Int)
        · have : s (94 + (t : Int)) = (j : Int) := by rw [← g2]; omega
          omega
        · omega
    · rintro ⟨a1, a2, a3⟩; exact ⟨a1, a2, by omega⟩
  have ep : prsN s (t + 1) 0 = prsN s t 0 := by rw [prsN_snoc, Nat.zero_add, if_neg t2, List.append_nil]
  unfold LB at *
  simp only [e, ep]
  exact h
theorem LB.held {J L : Nat → Int → Int} {s : Int → Int} {t : Nat} (hR : RInv s) (h : LB J s t t) (t1 : (t : Int) < s 1) (e : L = uI J 52 (s (84 + (t : Int))) (bOr (J 52 (s (84 + (t : Int)))) (bShl 1 (t : Int)))) : LB L s (t + 1) t := by
  have h10 := hR.2.1.2
  have h8 := hR.1
  have wt := hR.2.2.2.2.2.2.2.2.2.1 (t : Int) (by omega) t1
  have eo : ∀ a, a ≠ 52 → L a = J a := fun a ha => by rw [e, uI_off _ _ _ ha]
  unfold LB at *
  rw [eo 40 (by decide), eo 53 (by decide), eo 54 (by decide), eo 55 (by decide), eo 56 (by decide)]
  obtain ⟨a1, a2, a3, a4, a5, a6, a7⟩ := h
  refine ⟨a1, fun p hp j hj => ?_, a3, a4, a5, fun j hj u u1 u2 => by rw [eo _ (by have := hj.1; omega)]; exact a6 j hj u u1 u2, a7⟩
  rw [e, uI_at]
  by_cases g : (p : Int) = s (84 + (t : Int))
  · rw [if_pos g, ← g, ib_put (by omega) hj, a2 p hp j hj, ← Bool.decide_or]
    apply decide_eq_decide.mpr
    by_cases g2 : t = j
    · subst g2; omega
    · omega
  · rw [if_neg g, a2 p hp j hj]
    apply decide_eq_decide.mpr
    by_cases g2 : t = j
    · subst g2; omega
    · omega
theorem LB.pair {I L : Nat → Int → Int} {s : Int → Int} {w t : Nat} (hR : RInv s) (hN : WN w I s) (h : LB I s (t + 1) t) (t1 : (t : Int) < s 1) (t2 : (t : Int) < s (94 + (t : Int))) (hA : pAdd I L s w t (prsN s t 0).length) : LB L s (t + 1) (t + 1) := by
  have h10 := hR.2.1.2
  have h8 := hR.1
  have ht := hR.2.2.2.2.2.2.2.2.2.1
  have wt := ht (t : Int) (by omega) t1
  have wv := ht (s (94 + (t : Int))) (by omega) (by omega)
  obtain ⟨v, ev⟩ : ∃ v : Nat, s (94 + (t : Int)) = (v : Int) := ⟨(s (94 + (t : Int))).toNat, by omega⟩
  have b1 := hN.br (t := (t : Int)) (by omega) t1
  have b2 := hN.br (t := (v : Int)) (by omega) (by omega)
  rw [Int.toNat_natCast] at b1 b2
  have e : ∀ j : Nat, dn s (t + 1) j ↔ (dn s t j ∨ j = t ∨ j = v) := fun j => by
    unfold dn
    constructor
    · rintro ⟨a1, a2, a3⟩
      have wj := ht (j : Int) (by omega) a1
      by_cases g : j = t
      · exact Or.inr (Or.inl g)
      · by_cases g2 : s (94 + (j : Int)) = (t : Int)
        · have : s (94 + (t : Int)) = (j : Int) := by rw [← g2]; omega
          exact Or.inr (Or.inr (by omega))
        · exact Or.inl ⟨a1, a2, by omega⟩
    · rintro (⟨a1, a2, a3⟩ | rfl | rfl)
      · exact ⟨a1, a2, by omega⟩
      · exact ⟨t1, by omega, by omega⟩
      · rw [ev] at wv wt
        exact ⟨by omega, by omega, Or.inr (by omega)⟩
  have nt : ¬ dn s t t := fun q => by unfold dn at q; omega
  have ev2 : s (94 + (v : Int)) = (t : Int) := by rw [← ev]; omega
  have nv : ¬ dn s t v := fun q => by unfold dn at q; omega
  have ep : prsN s (t + 1) 0 = prsN s t 0 ++ [t] := by rw [prsN_snoc, Nat.zero_add, if_pos t2]
  have hc5 := prsN_lt hR t1 t2
  obtain ⟨⟨l1, l5, l6, l10⟩, l52, l53, l54, l55, l56, lw, lo⟩ := hA
  obtain ⟨a1, a2, a3, a4, a5, a6, a7, a8⟩ := h
  rw [ev] at l5 l6 l53 l56 lw lo wv wt
  refine ⟨l1.trans a1, by rw [l52]; exact a2, fun p hp j hj => ?_, fun j hj => ?_, fun j hj => ?_, fun j hj u u1 u2 => ?_, ?_, fun i hi => ?_⟩
  · rw [l53]
    have q1 := a3 p hp j hj
    obtain ⟨x1, ex1⟩ : ∃ x1 : Nat, s (84 + (t : Int)) = (x1 : Int) := ⟨(s (84 + (t : Int))).toNat, by omega⟩
    obtain ⟨x2, ex2⟩ : ∃ x2 : Nat, s (84 + (v : Int)) = (x2 : Int) := ⟨(s (84 + (v : Int))).toNat, by omega⟩
    have key : ib (up (up (I 53) (s (84 + (v : Int))) (bOr (I 53 (s (84 + (v : Int)))) (bShl 1 (t : Int)))) (s (84 + (t : Int))) (bOr (up (I 53) (s (84 + (v : Int))) (bOr (I 53 (s (84 + (v : Int)))) (bShl 1 (t : Int))) (s (84 + (t : Int)))) (bShl 1 (v : Int))) (p : Int)) j = true ↔ (ib (I 53 (p : Int)) j = true ∨ (p = x2 ∧ t = j) ∨ (p = x1 ∧ v = j)) := by
      rw [ex1, ex2]
      by_cases g1 : p = x1
      · subst g1
        rw [up_at, ib_put (by omega) hj, Bool.or_eq_true, decide_eq_true_eq]
        by_cases g2 : p = x2
        · subst g2
          rw [up_at, ib_put (by omega) hj, Bool.or_eq_true, decide_eq_true_eq]
          constructor
          · rintro ((y | y) | y)
            · exact Or.inl y
            · exact Or.inr (Or.inl ⟨rfl, y⟩)
            · exact Or.inr (Or.inr ⟨rfl, y⟩)
          · rintro (y | ⟨_, y⟩ | ⟨_, y⟩)
            · exact Or.inl (Or.inl y)
            · exact Or.inl (Or.inr y)
            · exact Or.inr y
        · rw [up_ne _ _ (by omega)]
          constructor
          · rintro (y | y)
            · exact Or.inl y
            · exact Or.inr (Or.inr ⟨rfl, y⟩)
          · rintro (y | ⟨y, _⟩ | ⟨_, y⟩)
            · exact Or.inl y
            · exact absurd y g2
            · exact Or.inr y
      · rw [up_ne _ _ (by omega)]
        by_cases g2 : p = x2
        · subst g2
          rw [up_at, ib_put (by omega) hj, Bool.or_eq_true, decide_eq_true_eq]
          constructor
          · rintro (y | y)
            · exact Or.inl y
            · exact Or.inr (Or.inl ⟨rfl, y⟩)
          · rintro (y | ⟨_, y⟩ | ⟨y, _⟩)
            · exact Or.inl y
            · exact Or.inr y
            · exact absurd y g1
        · rw [up_ne _ _ (by omega)]
          constructor
          · exact Or.inl
          · rintro (y | ⟨y, _⟩ | ⟨y, _⟩)
            · exact y
            · exact absurd y g2
            · exact absurd y g1
    rw [key, q1, e]
    constructor
    · rintro (⟨y1, y2⟩ | ⟨y1, y2⟩ | ⟨y1, y2⟩)
      · exact ⟨Or.inl y1, y2⟩
      · subst y2; exact ⟨Or.inr (Or.inl rfl), by rw [ev, ex2, y1]⟩
      · subst y2; exact ⟨Or.inr (Or.inr rfl), by rw [ev2, ex1, y1]⟩
    · rintro ⟨y1 | rfl | rfl, y2⟩
      · exact Or.inl ⟨y1, y2⟩
      · rw [ev, ex2] at y2; exact Or.inr (Or.inl ⟨by omega, rfl⟩)
      · rw [ev2, ex1] at y2; exact Or.inr (Or.inr ⟨by omega, rfl⟩)
  · rw [l5, ib_or, Bool.or_eq_true, a4 j hj, ib_and, ib_or, ib_shl1 t (by omega) j hj, ib_shl1 v (by omega) j hj, ib_neg hj, Bool.and_eq_true, Bool.or_eq_true, decide_eq_true_eq, decide_eq_true_eq, e]
    constructor
    · rintro (⟨y1, y2⟩ | ⟨y1 | y1, y2⟩)
      · exact ⟨Or.inl y1, y2⟩
      · subst y1; rw [b1] at y2; exact ⟨Or.inr (Or.inl rfl), by simp at y2; omega⟩
      · subst y1; rw [b2] at y2; exact ⟨Or.inr (Or.inr rfl), by simp at y2; omega⟩
    · rintro ⟨y1 | rfl | rfl, y2⟩
      · exact Or.inl ⟨y1, y2⟩
      · exact Or.inr ⟨Or.inl rfl, by rw [b1]; simp; omega⟩
      · exact Or.inr ⟨Or.inr rfl, by rw [b2]; simp; omega⟩
  · rw [l6, ib_or, Bool.or_eq_true, a5 j hj, e]
    by_cases g : s (26 + s (84 + (t : Int))) = s (26 + s (84 + (v : Int)))
    · rw [if_pos g, ib_or, ib_shl1 t (by omega) j hj, ib_shl1 v (by omega) j hj, Bool.or_eq_true, decide_eq_true_eq, decide_eq_true_eq]
      constructor
      · rintro (⟨y1, y2⟩ | y1 | y1)
        · exact ⟨Or.inl y1, y2⟩
        · subst y1; exact ⟨Or.inr (Or.inl rfl), by rw [ev]; exact g⟩
        · subst y1; exact ⟨Or.inr (Or.inr rfl), by rw [ev2]; exact g.symm⟩
      · rintro ⟨y1 | rfl | rfl, y2⟩
        · exact Or.inl ⟨y1, y2⟩
        · exact Or.inr (Or.inl rfl)
        · exact Or.inr (Or.inr rfl)
    · rw [if_neg g, ib_0]
      constructor
      · rintro (⟨y1, y2⟩ | y1)
        · exact ⟨Or.inl y1, y2⟩
        · cases y1
      · rintro ⟨y1 | rfl | rfl, y2⟩
        · exact Or.inl ⟨y1, y2⟩
        · rw [ev] at y2; exact absurd y2 g
        · rw [ev2] at y2; exact absurd y2.symm g
  · rcases (e j).mp hj with y | y | y
    · have q1 : j ≠ t := fun q => by subst q; exact nt y
      have q2 : j ≠ v := fun q => by subst q; exact nv y
      rw [lo j (by have := y.1; omega) q1 (by omega)]
      exact a6 j y u u1 u2
    · subst y; exact (lw u u1 u2).1
    · subst y
      have q := (lw u u1 u2).2
      rw [Int.toNat_natCast] at q
      rw [q]
      have el : rBy s (j : Int) = rBy s (t : Int) := by
        have l1 : rLess s (t : Int) = (t : Int) := by unfold rLess; rw [if_neg (by omega)]
        have l2 : rLess s (j : Int) = (t : Int) := by unfold rLess; rw [ev2, if_pos (by omega)]
        funext u
        unfold rBy
        rw [l1, l2]
      unfold rWorth
      rw [el]
  · rw [l10, a7, ep, List.length_append]; rfl
  · rw [ep] at hi ⊢
    rw [List.length_append, List.length_singleton] at hi
    rw [l54, l55, l56]
    by_cases g : i = (prsN s t 0).length
    · subst g
      have eg : (prsN s t 0 ++ [t]).getD (prsN s t 0).length 0 = t := by
        rw [List.getD_eq_getElem?_getD, List.getElem?_append_right (Nat.le_refl _), Nat.sub_self]; rfl
      rw [up_at, up_at, up_at, eg]
      refine ⟨rfl, rfl, fun u hu => ?_⟩
      have hz := and_two (x := I w 11) (a := t) (b := v) (by omega) (by omega)
      have z1 : (bAnd (bShr (I w 11) (t : Int)) 1 = 0) ↔ s (104 + (t : Int)) ≠ 1 := by
        rw [ib_bit _ (by omega), b1]; by_cases y : s (104 + (t : Int)) = 1 <;> simp [y]
      have z2 : (bAnd (bShr (I w 11) (v : Int)) 1 = 0) ↔ s (104 + (v : Int)) ≠ 1 := by
        rw [ib_bit _ (by omega), b2]; by_cases y : s (104 + (v : Int)) = 1 <;> simp [y]
      rw [z1, z2] at hz
      unfold pCan rFreeP
      rw [ev, ib_bit1 _ (by omega), ib_bit1 _ (by omega)]
      by_cases y : s (84 + (t : Int)) ≠ s (84 + (v : Int)) ∧ bAnd (I w 11) (bOr (bShl 1 (t : Int)) (bShl 1 (v : Int))) = 0
      · rw [if_pos y, ib_and, Bool.and_eq_true]
        have y2 := hz.mp y.2
        exact ⟨fun q => ⟨y2, y.1, q.1, q.2⟩, fun q => ⟨q.2.2.1, q.2.2.2⟩⟩
      · rw [if_neg y, ib_0]
        exact ⟨fun q => (by cases q), fun q => absurd ⟨q.2.1, hz.mpr q.1⟩ y⟩
    · have eg : (prsN s t 0 ++ [t]).getD i 0 = (prsN s t 0).getD i 0 := by
        rw [List.getD_eq_getElem?_getD, List.getElem?_append_left (by omega), ← List.getD_eq_getElem?_getD]
      rw [up_ne _ _ (by omega), up_ne _ _ (by omega), up_ne _ _ (by omega), eg]
      exact a8 i (by omega)
theorem LB.end {J : Nat → Int → Int} {s : Int → Int} {t : Nat} (hR : RInv s) (h : LB J s t t) (e : t = (s 1).toNat) : PB J s ∧ (J 57 0 = 0 → PT0 J s) := by
  have h1 := hR.2.1
  obtain ⟨a1, a2, a3, a4, a5, a6, a7, a8⟩ := h
  have ed : ∀ j : Nat, dn s t j ↔ ((j : Int) < s 1 ∧ s (94 + (j : Int)) ≠ -1) := fun j => ⟨fun q => ⟨q.1, q.2.1⟩, fun q => ⟨q.1, q.2, Or.inl (by omega)⟩⟩
  have el : prsN s t 0 = prs s := by rw [e]; rfl
  rw [el] at a7 a8
  refine ⟨⟨a1, fun p hp j hj => ?_, fun p hp j hj => ?_, fun j hj => ?_, fun j hj => ?_, fun x x1 x2 x3 u u1 u2 => ?_⟩, fun h57 => ⟨⟨a7, prs_len hR, fun i hi => (a8 i hi).1⟩, fun i hi => (a8 i hi).2, h57⟩⟩
  · rw [a2 p hp j hj]; apply decide_eq_decide.mpr; omega
  · rw [Bool.eq_iff_iff, a3 p hp j hj, decide_eq_true_eq, ed]
    exact ⟨fun q => ⟨q.1.1, q.1.2, q.2⟩, fun q => ⟨⟨q.1, q.2.1⟩, q.2.2⟩⟩
  · rw [Bool.eq_iff_iff, a4 j hj, decide_eq_true_eq, ed]
    exact ⟨fun q => ⟨q.1.1, q.1.2, q.2⟩, fun q => ⟨⟨q.1, q.2.1⟩, q.2.2⟩⟩
  · rw [Bool.eq_iff_iff, a5 j hj, decide_eq_true_eq, ed]
    exact ⟨fun q => ⟨q.1.1, q.1.2, q.2⟩, fun q => ⟨⟨q.1, q.2.1⟩, q.2.2⟩⟩
  · obtain ⟨m, rfl⟩ : ∃ m : Nat, x = (m : Int) := ⟨x.toNat, by omega⟩
    rw [Int.toNat_natCast]
    exact a6 m ((ed m).mpr ⟨x2, x3⟩) u u1 u2
