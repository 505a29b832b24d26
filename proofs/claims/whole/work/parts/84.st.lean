theorem kq_start {K1 K2 : Nat → Nat × Nat} {R1 R2 : Nat → Int → Option Nat} (k1 : kOK 70 K1) (q1 : qOK 63 R1) (hvs : VI K1 R1 63) (r0 : R1 0 0 = some 1 ∧ R1 0 1 = some 14 ∧ R1 0 3 = some 27 ∧ R1 0 4 = some 61 ∧ R1 0 5 = some 63) (f : ∀ a, a ≤ 70 → K2 a = zK K1 70 (12, 23) a) (fq : ∀ a, a < 70 → R2 a = zQ R1 70 a) (ka : K2 (70 + 1) = (14, 984) ∧ K2 (70 + 2) = (14, 984) ∧ K2 (70 + 3) = (14, 5) ∧ K2 (70 + 4) = (15, 64) ∧ K2 (70 + 5) = (14, 10) ∧ K2 (70 + 6) = (14, 10) ∧ K2 (70 + 7) = (14, 20)) (rb : R2 70 1 = some (70 + 1) ∧ R2 70 2 = some (70 + 2) ∧ R2 70 9 = some (70 + 3) ∧ R2 70 10 = some (70 + 4) ∧ R2 70 14 = some (70 + 5) ∧ R2 70 15 = some (70 + 6) ∧ R2 70 18 = some (70 + 7)) : kOK 78 K2 ∧ ∀ a k b : Nat, a < 78 → srf (tw_q a) k = some b → R2 a (k : Int) = some (tw_p b) := by
  obtain ⟨ka1, ka2, ka3, ka4, ka5, ka6, ka7⟩ := ka
  obtain ⟨rb1, rb2, rb3, rb4, rb5, rb6, rb7⟩ := rb
  obtain ⟨s1, s2, s3, s4, s5⟩ := r0
  obtain ⟨-, ⟨v1, v2, v4, v6, v7, v8⟩, -⟩ := hvs
  have fr : ∀ a, a < 70 → R2 a = R1 a := fun a ha => by rw [fq a ha]; show (if a = 70 then _ else R1 a) = _; rw [if_neg (by omega)]
  have k2 : kOK 78 K2 := (k1.nw (q := (12, 23)) rfl).to (m := 70) (m2 := 78) f (fun j j1 j2 => by rcases (show j = 1 ∨ j = 2 ∨ j = 3 ∨ j = 4 ∨ j = 5 ∨ j = 6 ∨ j = 7 by omega) with rfl | rfl | rfl | rfl | rfl | rfl | rfl <;> assumption)
  refine ⟨k2, fun a k b ha e => ?_⟩
  by_cases g70 : a < 70
  · rw [fr a g70]
    by_cases g0 : a = 0
    · subst g0
      have hk := srf_19 rfl (by decide) e
      rcases (show k = 0 ∨ k = 1 ∨ k = 2 ∨ k = 3 ∨ k = 4 ∨ k = 5 ∨ k = 6 ∨ k = 7 ∨ k = 8 ∨ k = 9 ∨ k = 10 ∨ k = 11 ∨ k = 12 ∨ k = 13 ∨ k = 14 ∨ k = 15 ∨ k = 16 ∨ k = 17 ∨ k = 18 by omega) with rfl | rfl | rfl | rfl | rfl | rfl | rfl | rfl | rfl | rfl | rfl | rfl | rfl | rfl | rfl | rfl | rfl | rfl | rfl <;> first | (cases e; assumption) | cases e
    · by_cases g63 : a < 63
      · exact q1 a k b (by omega) g63 e
      · rcases (show a = 63 ∨ a = 64 ∨ a = 65 ∨ a = 66 ∨ a = 67 ∨ a = 68 ∨ a = 69 by omega) with rfl | rfl | rfl | rfl | rfl | rfl | rfl
        · have hk := srf_19 rfl (by decide) e
          rcases (show k = 0 ∨ k = 1 ∨ k = 2 ∨ k = 3 ∨ k = 4 ∨ k = 5 ∨ k = 6 ∨ k = 7 ∨ k = 8 ∨ k = 9 ∨ k = 10 ∨ k = 11 ∨ k = 12 ∨ k = 13 ∨ k = 14 ∨ k = 15 ∨ k = 16 ∨ k = 17 ∨ k = 18 by omega) with rfl | rfl | rfl | rfl | rfl | rfl | rfl | rfl | rfl | rfl | rfl | rfl | rfl | rfl | rfl | rfl | rfl | rfl | rfl <;> first | (cases e; assumption) | cases e
        all_goals exact (srf_n rfl e).elim
  · rcases (show a = 70 ∨ a = 71 ∨ a = 72 ∨ a = 73 ∨ a = 74 ∨ a = 75 ∨ a = 76 ∨ a = 77 by omega) with rfl | rfl | rfl | rfl | rfl | rfl | rfl | rfl
    · have hk := srf_19 rfl (by decide) e
      rcases (show k = 0 ∨ k = 1 ∨ k = 2 ∨ k = 3 ∨ k = 4 ∨ k = 5 ∨ k = 6 ∨ k = 7 ∨ k = 8 ∨ k = 9 ∨ k = 10 ∨ k = 11 ∨ k = 12 ∨ k = 13 ∨ k = 14 ∨ k = 15 ∨ k = 16 ∨ k = 17 ∨ k = 18 by omega) with rfl | rfl | rfl | rfl | rfl | rfl | rfl | rfl | rfl | rfl | rfl | rfl | rfl | rfl | rfl | rfl | rfl | rfl | rfl <;> first | (cases e; assumption) | cases e
    all_goals exact (srf_n rfl e).elim
/-- the same cells, counted as the calls count them -/
def tw_h (h : tH) : tH := (fun a => h.1 (tw_p a), fun a => h.2.1 (tw_p a), fun a k => (h.2.2.1 (tw_p a) k).map tw_q, h.2.2.2)
theorem tSt_start {K2 : Nat → Nat × Nat} {J : Nat → Int → Int} {R2 : Nat → Int → Option Nat} (k2 : kOK 78 K2) (q2 : ∀ a k b : Nat, a < 78 → srf (tw_q a) k = some b → R2 a (k : Int) = some (tw_p b)) : tSt (tw_h (K2, J, R2, 78)) := by
  refine ⟨fun a ha => ?_, Nat.le_refl _, fun a k b e => ?_⟩
  · have h := k2 (tw_p a) (tw_p_lt (Nat.le_refl _) ha)
    rw [tw_qp] at h
    exact h
  · have h := q2 (tw_p a) k b (tw_p_lt (Nat.le_refl _) (srf_77 e)) (by rw [tw_qp]; exact e)
    show (R2 (tw_p a) (k : Int)).map tw_q = some b
    rw [h]
    show some (tw_q (tw_p b)) = some b
    rw [tw_qp]
theorem VS_start {K : Nat → Nat × Nat} {J : Nat → Int → Int} {R : Nat → Int → Option Nat} (h : tSt (K, J, R, 78)) : VS K R 78 63 :=
  ⟨⟨by decide, by decide⟩, ⟨h.1 63 (by decide), h.1 64 (by decide), h.1 65 (by decide), h.1 66 (by decide), h.1 67 (by decide), h.1 68 (by decide)⟩, h.2.2 63 1 64 rfl, h.2.2 63 2 65 rfl, h.2.2 63 4 66 rfl, h.2.2 63 6 67 rfl, h.2.2 63 7 68 rfl, h.2.2 63 8 77 rfl, h.1 77 (by decide), by decide⟩
/-- a world with nothing in it -/
theorem WN_start {J : Nat → Int → Int} (h : J 1 1 = 0 ∧ J 1 3 = 0 ∧ J 1 5 = 0 ∧ J 1 12 = 0 ∧ J 1 16 = 0 ∧ J 1 19 = 0) (h2 : J 2 = fun _ => 0) : WN 1 J rS0 := by
  obtain ⟨h1, h3, h5, h12, h16, h19⟩ := h
  have z : ∀ j : Int, 0 ≤ j → j ≠ 6 → (j < 42 ∨ 74 ≤ j) → rS0 j = 0 := fun j j0 j6 j4 => by unfold rS0; rw [if_neg (by omega)]
  have z0 := z 0 (by decide) (by decide) (by decide)
  have z1 := z 1 (by decide) (by decide) (by decide)
  have z2 := z 2 (by decide) (by decide) (by decide)
  have z3 := z 3 (by decide) (by decide) (by decide)
  have z4 := z 4 (by decide) (by decide) (by decide)
  have z5 := z 5 (by decide) (by decide) (by decide)
  refine ⟨⟨by rw [h1, z5], by rw [h3, z2], by rw [h5, z0], by rw [h12, z1], by rw [h16, z3], by rw [h19, z4], by omega, by omega, by omega, by omega⟩, fun i i1 i2 => ?_, fun p p1 p2 => by omega, fun j j1 j2 => by omega, fun t t1 t2 => by omega, fun r r1 r2 => by omega, fun r r1 r2 => by omega⟩
  show J 2 i = _
  rw [h2, z (174 + i) (by omega) (by omega) (by omega)]

