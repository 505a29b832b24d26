/-- the kinds and references of the cells that always stand, below m -/
def kOK (m : Nat) (K : Nat → Nat × Nat) : Prop := ∀ a, a < m → K a = shp (tw_q a)
def qOK (m : Nat) (Q : Nat → Int → Option Nat) : Prop := ∀ a k b : Nat, 1 ≤ a → a < m → srf (tw_q a) k = some b → Q a (k : Int) = some (tw_p b)
theorem kOK.nw {m : Nat} {K : Nat → Nat × Nat} {q : Nat × Nat} (h : kOK m K) (hq : q = shp (tw_q m)) : kOK (m + 1) (zK K m q) := fun a ha => by
  show (if a = m then q else K a) = _
  by_cases g : a = m
  · rw [if_pos g, g]; exact hq
  · rw [if_neg g]; exact h a (by omega)
theorem kOK.to {m m2 : Nat} {K K' : Nat → Nat × Nat} (h : kOK (m + 1) K) (f : ∀ a, a ≤ m → K' a = K a) (g : ∀ j, 1 ≤ j → m + j < m2 → K' (m + j) = shp (tw_q (m + j))) : kOK m2 K' := fun a ha => by
  by_cases q : a ≤ m
  · rw [f a q]; exact h a (by omega)
  · have := g (a - m) (by omega) (by omega)
    rw [show m + (a - m) = a by omega] at this
    exact this
theorem qOK.to {m m2 : Nat} {Q Q' : Nat → Int → Option Nat} (h : qOK m Q) (f : ∀ a, a < m → Q' a = Q a) (g : ∀ a k b : Nat, m ≤ a → a < m2 → srf (tw_q a) k = some b → Q' a (k : Int) = some (tw_p b)) : qOK m2 Q' := fun a k b a1 a2 e => by
  by_cases q : a < m
  · rw [f a q]; exact h a k b a1 q e
  · exact g a k b (by omega) a2 e
theorem srf_n {a k b : Nat} (e : srfL.getD a [] = []) (h : srf a k = some b) : False := by
  unfold srf at h
  rw [e] at h
  cases h
theorem srf_19 {a k b : Nat} {L : List (Option Nat)} (e : srfL.getD a [] = L) (hL : L.length ≤ 19) (h : srf a k = some b) : k < 19 := by
  by_cases g : k < 19
  · exact g
  · exfalso
    unfold srf at h
    rw [e, List.getD_eq_getElem?_getD, List.getElem?_eq_none (by omega)] at h
    cases h
theorem qW_1 {R : Nat → Int → Option Nat} (h : R 1 0 = some 2 ∧ R 1 2 = some 3 ∧ R 1 4 = some 4 ∧ R 1 6 = some 5 ∧ R 1 7 = some 6 ∧ R 1 8 = some 7 ∧ R 1 9 = some 8 ∧ R 1 10 = some 9 ∧ R 1 13 = some 10 ∧ R 1 14 = some 11 ∧ R 1 17 = some 12 ∧ R 1 18 = some 13) : ∀ a k b : Nat, 1 ≤ a → a < 14 → srf (tw_q a) k = some b → R a (k : Int) = some (tw_p b) := by
  obtain ⟨r0, r2, r4, r6, r7, r8, r9, r10, r13, r14, r17, r18⟩ := h
  intro a k b a1 a2 e
  rcases (show a = 1 ∨ a = 2 ∨ a = 3 ∨ a = 4 ∨ a = 5 ∨ a = 6 ∨ a = 7 ∨ a = 8 ∨ a = 9 ∨ a = 10 ∨ a = 11 ∨ a = 12 ∨ a = 13 by omega) with rfl | rfl | rfl | rfl | rfl | rfl | rfl | rfl | rfl | rfl | rfl | rfl | rfl
  · have hk := srf_19 rfl (by decide) e
    rcases (show k = 0 ∨ k = 1 ∨ k = 2 ∨ k = 3 ∨ k = 4 ∨ k = 5 ∨ k = 6 ∨ k = 7 ∨ k = 8 ∨ k = 9 ∨ k = 10 ∨ k = 11 ∨ k = 12 ∨ k = 13 ∨ k = 14 ∨ k = 15 ∨ k = 16 ∨ k = 17 ∨ k = 18 by omega) with rfl | rfl | rfl | rfl | rfl | rfl | rfl | rfl | rfl | rfl | rfl | rfl | rfl | rfl | rfl | rfl | rfl | rfl | rfl <;> first | (cases e; assumption) | cases e
  all_goals exact (srf_n rfl e).elim
theorem qW_14 {R : Nat → Int → Option Nat} (h : R 14 0 = some 15 ∧ R 14 2 = some 16 ∧ R 14 4 = some 17 ∧ R 14 6 = some 18 ∧ R 14 7 = some 19 ∧ R 14 8 = some 20 ∧ R 14 9 = some 21 ∧ R 14 10 = some 22 ∧ R 14 13 = some 23 ∧ R 14 14 = some 24 ∧ R 14 17 = some 25 ∧ R 14 18 = some 26) : ∀ a k b : Nat, 14 ≤ a → a < 27 → srf (tw_q a) k = some b → R a (k : Int) = some (tw_p b) := by
  obtain ⟨r0, r2, r4, r6, r7, r8, r9, r10, r13, r14, r17, r18⟩ := h
  intro a k b a1 a2 e
  rcases (show a = 14 ∨ a = 15 ∨ a = 16 ∨ a = 17 ∨ a = 18 ∨ a = 19 ∨ a = 20 ∨ a = 21 ∨ a = 22 ∨ a = 23 ∨ a = 24 ∨ a = 25 ∨ a = 26 by omega) with rfl | rfl | rfl | rfl | rfl | rfl | rfl | rfl | rfl | rfl | rfl | rfl | rfl
  · have hk := srf_19 rfl (by decide) e
    rcases (show k = 0 ∨ k = 1 ∨ k = 2 ∨ k = 3 ∨ k = 4 ∨ k = 5 ∨ k = 6 ∨ k = 7 ∨ k = 8 ∨ k = 9 ∨ k = 10 ∨ k = 11 ∨ k = 12 ∨ k = 13 ∨ k = 14 ∨ k = 15 ∨ k = 16 ∨ k = 17 ∨ k = 18 by omega) with rfl | rfl | rfl | rfl | rfl | rfl | rfl | rfl | rfl | rfl | rfl | rfl | rfl | rfl | rfl | rfl | rfl | rfl | rfl <;> first | (cases e; assumption) | cases e
  all_goals exact (srf_n rfl e).elim
theorem qW_28 {R : Nat → Int → Option Nat} (h : R 28 0 = some 29 ∧ R 28 2 = some 30 ∧ R 28 4 = some 31 ∧ R 28 6 = some 32 ∧ R 28 7 = some 33 ∧ R 28 8 = some 34 ∧ R 28 9 = some 35 ∧ R 28 10 = some 36 ∧ R 28 13 = some 37 ∧ R 28 14 = some 38 ∧ R 28 17 = some 39 ∧ R 28 18 = some 40) : ∀ a k b : Nat, 28 ≤ a → a < 41 → srf (tw_q a) k = some b → R a (k : Int) = some (tw_p b) := by
  obtain ⟨r0, r2, r4, r6, r7, r8, r9, r10, r13, r14, r17, r18⟩ := h
  intro a k b a1 a2 e
  rcases (show a = 28 ∨ a = 29 ∨ a = 30 ∨ a = 31 ∨ a = 32 ∨ a = 33 ∨ a = 34 ∨ a = 35 ∨ a = 36 ∨ a = 37 ∨ a = 38 ∨ a = 39 ∨ a = 40 by omega) with rfl | rfl | rfl | rfl | rfl | rfl | rfl | rfl | rfl | rfl | rfl | rfl | rfl
  · have hk := srf_19 rfl (by decide) e
    rcases (show k = 0 ∨ k = 1 ∨ k = 2 ∨ k = 3 ∨ k = 4 ∨ k = 5 ∨ k = 6 ∨ k = 7 ∨ k = 8 ∨ k = 9 ∨ k = 10 ∨ k = 11 ∨ k = 12 ∨ k = 13 ∨ k = 14 ∨ k = 15 ∨ k = 16 ∨ k = 17 ∨ k = 18 by omega) with rfl | rfl | rfl | rfl | rfl | rfl | rfl | rfl | rfl | rfl | rfl | rfl | rfl | rfl | rfl | rfl | rfl | rfl | rfl <;> first | (cases e; assumption) | cases e
  all_goals exact (srf_n rfl e).elim
theorem qP_27 {R : Nat → Int → Option Nat} (h : R 27 0 = some 28 ∧ R 27 3 = some 41 ∧ R 27 4 = some 52 ∧ R 27 5 = some 53 ∧ R 27 8 = some 54 ∧ R 27 9 = some 55 ∧ R 27 10 = some 56 ∧ R 27 12 = some 57 ∧ R 27 13 = some 58 ∧ R 27 14 = some 59 ∧ R 27 18 = some 60) : ∀ k b : Nat, srf (tw_q 27) k = some b → R 27 (k : Int) = some (tw_p b) := by
  obtain ⟨r0, r3, r4, r5, r8, r9, r10, r12, r13, r14, r18⟩ := h
  intro k b e
  have hk := srf_19 rfl (by decide) e
  rcases (show k = 0 ∨ k = 1 ∨ k = 2 ∨ k = 3 ∨ k = 4 ∨ k = 5 ∨ k = 6 ∨ k = 7 ∨ k = 8 ∨ k = 9 ∨ k = 10 ∨ k = 11 ∨ k = 12 ∨ k = 13 ∨ k = 14 ∨ k = 15 ∨ k = 16 ∨ k = 17 ∨ k = 18 by omega) with rfl | rfl | rfl | rfl | rfl | rfl | rfl | rfl | rfl | rfl | rfl | rfl | rfl | rfl | rfl | rfl | rfl | rfl | rfl <;> first | (cases e; assumption) | cases e
theorem qP_41 {R : Nat → Int → Option Nat} (h2 : ∀ j : Int, 0 ≤ j → j < 10 → R 41 j = some (42 + j.toNat)) : ∀ a k b : Nat, 41 ≤ a → a < 61 → srf (tw_q a) k = some b → R a (k : Int) = some (tw_p b) := by
  intro a k b a1 a2 e
  rcases (show a = 41 ∨ a = 42 ∨ a = 43 ∨ a = 44 ∨ a = 45 ∨ a = 46 ∨ a = 47 ∨ a = 48 ∨ a = 49 ∨ a = 50 ∨ a = 51 ∨ a = 52 ∨ a = 53 ∨ a = 54 ∨ a = 55 ∨ a = 56 ∨ a = 57 ∨ a = 58 ∨ a = 59 ∨ a = 60 by omega) with rfl | rfl | rfl | rfl | rfl | rfl | rfl | rfl | rfl | rfl | rfl | rfl | rfl | rfl | rfl | rfl | rfl | rfl | rfl | rfl
  · have hk := srf_19 rfl (by decide) e
    rcases (show k = 0 ∨ k = 1 ∨ k = 2 ∨ k = 3 ∨ k = 4 ∨ k = 5 ∨ k = 6 ∨ k = 7 ∨ k = 8 ∨ k = 9 ∨ k = 10 ∨ k = 11 ∨ k = 12 ∨ k = 13 ∨ k = 14 ∨ k = 15 ∨ k = 16 ∨ k = 17 ∨ k = 18 by omega) with rfl | rfl | rfl | rfl | rfl | rfl | rfl | rfl | rfl | rfl | rfl | rfl | rfl | rfl | rfl | rfl | rfl | rfl | rfl <;> first | (cases e; exact h2 _ (by decide) (by decide)) | cases e
  all_goals exact (srf_n rfl e).elim
