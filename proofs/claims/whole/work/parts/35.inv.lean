/-- one number changed, none of the counts -/
def RCell (s : Int → Int) (i x : Int) : Prop := (10 ≤ i ∧ i < 18 ∧ 0 ≤ x ∧ x ≤ 6) ∨ (18 ≤ i ∧ i < 26 ∧ 0 ≤ x ∧ x ≤ 9) ∨ (26 ≤ i ∧ i < 34 ∧ 0 ≤ x ∧ x ≤ 3) ∨ (34 ≤ i ∧ i < 42 ∧ 0 ≤ x ∧ x ≤ 16777215) ∨ (42 ≤ i ∧ i < 74 ∧ -1 ≤ x ∧ x ≤ 9) ∨ (74 ≤ i ∧ i < 84 ∧ 0 ≤ x ∧ x ≤ 3) ∨ (84 ≤ i ∧ i < 94 ∧ 0 ≤ x ∧ x < s 0) ∨ (94 + s 1 ≤ i ∧ i < 104) ∨ (104 ≤ i ∧ i < 114 ∧ 0 ≤ x ∧ x ≤ 1) ∨ (114 + s 3 ≤ i ∧ i < 126) ∨ (126 + s 3 ≤ i ∧ i < 138) ∨ (138 ≤ i ∧ i < 150 ∧ 0 ≤ x ∧ x ≤ 1) ∨ (150 ≤ i ∧ i < 162 ∧ 0 ≤ x ∧ x ≤ 23) ∨ (162 ≤ i ∧ i < 174 ∧ 0 ≤ x ∧ x < s 1) ∨ (174 ≤ i ∧ i < 274 ∧ 0 ≤ x ∧ x ≤ 127) ∨ (274 ≤ i ∧ i < 279 ∧ 0 ≤ x ∧ x ≤ 99) ∨ (279 ≤ i ∧ i < 284 ∧ 0 ≤ x ∧ x ≤ 140) ∨ 284 ≤ i ∨ (i = 5 ∧ 0 ≤ x ∧ x ≤ 100) ∨ (i = 3 ∧ 0 ≤ x ∧ x ≤ s 3) ∨ (i = 0 ∧ s 0 ≤ x ∧ x ≤ 8)
theorem RC1 {s : Int → Int} {i x : Int} (h : 10 ≤ i ∧ i < 18 ∧ 0 ≤ x ∧ x ≤ 6) : RCell s i x := Or.inl h
theorem RC2 {s : Int → Int} {i x : Int} (h : 18 ≤ i ∧ i < 26 ∧ 0 ≤ x ∧ x ≤ 9) : RCell s i x := Or.inr (Or.inl h)
theorem RC3 {s : Int → Int} {i x : Int} (h : 26 ≤ i ∧ i < 34 ∧ 0 ≤ x ∧ x ≤ 3) : RCell s i x := Or.inr (Or.inr (Or.inl h))
theorem RC4 {s : Int → Int} {i x : Int} (h : 34 ≤ i ∧ i < 42 ∧ 0 ≤ x ∧ x ≤ 16777215) : RCell s i x := Or.inr (Or.inr (Or.inr (Or.inl h)))
theorem RC5 {s : Int → Int} {i x : Int} (h : 42 ≤ i ∧ i < 74 ∧ -1 ≤ x ∧ x ≤ 9) : RCell s i x := Or.inr (Or.inr (Or.inr (Or.inr (Or.inl h))))
theorem RC6 {s : Int → Int} {i x : Int} (h : 74 ≤ i ∧ i < 84 ∧ 0 ≤ x ∧ x ≤ 3) : RCell s i x := Or.inr (Or.inr (Or.inr (Or.inr (Or.inr (Or.inl h)))))
theorem RC7 {s : Int → Int} {i x : Int} (h : 84 ≤ i ∧ i < 94 ∧ 0 ≤ x ∧ x < s 0) : RCell s i x := Or.inr (Or.inr (Or.inr (Or.inr (Or.inr (Or.inr (Or.inl h))))))
theorem RC8 {s : Int → Int} {i x : Int} (h : 94 + s 1 ≤ i ∧ i < 104) : RCell s i x := Or.inr (Or.inr (Or.inr (Or.inr (Or.inr (Or.inr (Or.inr (Or.inl h)))))))
theorem RC9 {s : Int → Int} {i x : Int} (h : 104 ≤ i ∧ i < 114 ∧ 0 ≤ x ∧ x ≤ 1) : RCell s i x := Or.inr (Or.inr (Or.inr (Or.inr (Or.inr (Or.inr (Or.inr (Or.inr (Or.inl h))))))))
theorem RC10 {s : Int → Int} {i x : Int} (h : 114 + s 3 ≤ i ∧ i < 126) : RCell s i x := Or.inr (Or.inr (Or.inr (Or.inr (Or.inr (Or.inr (Or.inr (Or.inr (Or.inr (Or.inl h)))))))))
theorem RC11 {s : Int → Int} {i x : Int} (h : 126 + s 3 ≤ i ∧ i < 138) : RCell s i x := Or.inr (Or.inr (Or.inr (Or.inr (Or.inr (Or.inr (Or.inr (Or.inr (Or.inr (Or.inr (Or.inl h))))))))))
theorem RC12 {s : Int → Int} {i x : Int} (h : 138 ≤ i ∧ i < 150 ∧ 0 ≤ x ∧ x ≤ 1) : RCell s i x := Or.inr (Or.inr (Or.inr (Or.inr (Or.inr (Or.inr (Or.inr (Or.inr (Or.inr (Or.inr (Or.inr (Or.inl h)))))))))))
theorem RC13 {s : Int → Int} {i x : Int} (h : 150 ≤ i ∧ i < 162 ∧ 0 ≤ x ∧ x ≤ 23) : RCell s i x := Or.inr (Or.inr (Or.inr (Or.inr (Or.inr (Or.inr (Or.inr (Or.inr (Or.inr (Or.inr (Or.inr (Or.inr (Or.inl h))))))))))))
theorem RC14 {s : Int → Int} {i x : Int} (h : 162 ≤ i ∧ i < 174 ∧ 0 ≤ x ∧ x < s 1) : RCell s i x := Or.inr (Or.inr (Or.inr (Or.inr (Or.inr (Or.inr (Or.inr (Or.inr (Or.inr (Or.inr (Or.inr (Or.inr (Or.inr (Or.inl h)))))))))))))
theorem RC15 {s : Int → Int} {i x : Int} (h : 174 ≤ i ∧ i < 274 ∧ 0 ≤ x ∧ x ≤ 127) : RCell s i x := Or.inr (Or.inr (Or.inr (Or.inr (Or.inr (Or.inr (Or.inr (Or.inr (Or.inr (Or.inr (Or.inr (Or.inr (Or.inr (Or.inr (Or.inl h))))))))))))))
theorem RC16 {s : Int → Int} {i x : Int} (h : 274 ≤ i ∧ i < 279 ∧ 0 ≤ x ∧ x ≤ 99) : RCell s i x := Or.inr (Or.inr (Or.inr (Or.inr (Or.inr (Or.inr (Or.inr (Or.inr (Or.inr (Or.inr (Or.inr (Or.inr (Or.inr (Or.inr (Or.inr (Or.inl h)))))))))))))))
theorem RC17 {s : Int → Int} {i x : Int} (h : 279 ≤ i ∧ i < 284 ∧ 0 ≤ x ∧ x ≤ 140) : RCell s i x := Or.inr (Or.inr (Or.inr (Or.inr (Or.inr (Or.inr (Or.inr (Or.inr (Or.inr (Or.inr (Or.inr (Or.inr (Or.inr (Or.inr (Or.inr (Or.inr (Or.inl h))))))))))))))))
theorem RC18 {s : Int → Int} {i x : Int} (h : 284 ≤ i) : RCell s i x := Or.inr (Or.inr (Or.inr (Or.inr (Or.inr (Or.inr (Or.inr (Or.inr (Or.inr (Or.inr (Or.inr (Or.inr (Or.inr (Or.inr (Or.inr (Or.inr (Or.inr (Or.inl h)))))))))))))))))
theorem RC19 {s : Int → Int} {i x : Int} (h : i = 5 ∧ 0 ≤ x ∧ x ≤ 100) : RCell s i x := Or.inr (Or.inr (Or.inr (Or.inr (Or.inr (Or.inr (Or.inr (Or.inr (Or.inr (Or.inr (Or.inr (Or.inr (Or.inr (Or.inr (Or.inr (Or.inr (Or.inr (Or.inr (Or.inl h))))))))))))))))))
theorem RC20 {s : Int → Int} {i x : Int} (h : i = 3 ∧ 0 ≤ x ∧ x ≤ s 3) : RCell s i x := Or.inr (Or.inr (Or.inr (Or.inr (Or.inr (Or.inr (Or.inr (Or.inr (Or.inr (Or.inr (Or.inr (Or.inr (Or.inr (Or.inr (Or.inr (Or.inr (Or.inr (Or.inr (Or.inr (Or.inl h)))))))))))))))))))
theorem RC21 {s : Int → Int} {i x : Int} (h : i = 0 ∧ s 0 ≤ x ∧ x ≤ 8) : RCell s i x := Or.inr (Or.inr (Or.inr (Or.inr (Or.inr (Or.inr (Or.inr (Or.inr (Or.inr (Or.inr (Or.inr (Or.inr (Or.inr (Or.inr (Or.inr (Or.inr (Or.inr (Or.inr (Or.inr (Or.inr (h))))))))))))))))))))
theorem RInv_up {s : Int → Int} {i x : Int} (hR : RInv s) (hi : RCell s i x) : RInv (up s i x) := by
  obtain ⟨h0, h1, h2, h3, h4, h5, h6, hp, hrw, ht, hr, hb, htp, hv⟩ := hR
  unfold RCell at hi
  have e0 : (0 ≤ up s i x 0 ∧ up s i x 0 ≤ 8) ∧ s 0 ≤ up s i x 0 := by
    by_cases q : i = 0
    · subst q; rw [up_at]; omega
    · rw [up_ne _ _ (by omega)]; omega
  have e1 : up s i x 1 = s 1 := up_ne _ _ (by omega)
  have e2 : up s i x 2 = s 2 := up_ne _ _ (by omega)
  have e3 : (0 ≤ up s i x 3 ∧ up s i x 3 ≤ 12) ∧ up s i x 3 ≤ s 3 := by
    by_cases q : i = 3
    · subst q; rw [up_at]; omega
    · rw [up_ne _ _ (by omega)]; omega
  have e5 : 0 ≤ up s i x 5 ∧ up s i x 5 ≤ 100 := by
    by_cases q : i = 5
    · subst q; rw [up_at]; omega
    · rw [up_ne _ _ (by omega)]; omega
  have eq : ∀ j lo hi' : Int, (lo ≤ s j ∧ s j ≤ hi') → (i = j → lo ≤ x ∧ x ≤ hi') → lo ≤ up s i x j ∧ up s i x j ≤ hi' := by
    intro j lo hi' a1 a2
    by_cases q : j = i
    · rw [q, up_at]; exact a2 q.symm
    · rw [up_ne _ _ q]; exact a1
  have e4 : up s i x 4 = s 4 := up_ne _ _ (by omega)
  have e6 : up s i x 6 = s 6 := up_ne _ _ (by omega)
  refine ⟨e0.1, by rw [e1]; exact h1, by rw [e2]; exact h2, e3.1, by rw [e4]; exact h4, e5, by rw [e6, e2]; exact h6, ?_, ?_, ?_, ?_, ?_, ?_, ?_⟩
  · intro p p1 p2
    have w := hp p p1 p2
    exact ⟨eq _ _ _ w.1 (by omega), eq _ _ _ w.2.1 (by omega), eq _ _ _ w.2.2.1 (by omega), eq _ _ _ w.2.2.2 (by omega)⟩
  · intro p p1 p2
    exact eq _ _ _ (hrw p p1 p2) (by omega)
  · intro t t1 t2
    rw [e1] at t2 ⊢
    have w := ht t t1 t2
    have f1 : up s i x (94 + t) = s (94 + t) := up_ne _ _ (by omega)
    rw [f1]
    refine ⟨eq _ _ _ w.1 (by omega), ?_, ?_, eq _ _ _ w.2.2.2 (by omega)⟩
    · have := eq (84 + t) 0 (s 0 - 1) (by omega) (by omega)
      omega
    rcases w.2.2.1 with g | ⟨g1, g2, g3, g4⟩
    · exact Or.inl g
    · refine Or.inr ⟨g1, g2, g3, ?_⟩
      rw [up_ne _ _ (by omega)]; exact g4
  · intro r r1 r2
    have w := hr r r1 (by omega)
    rw [e1]
    have f1 : up s i x (114 + r) = s (114 + r) := up_ne _ _ (by omega)
    have f2 : up s i x (126 + r) = s (126 + r) := up_ne _ _ (by omega)
    rw [f1, f2]
    exact ⟨w.1, w.2.1, w.2.2.1, eq _ _ _ w.2.2.2 (by omega)⟩
  · intro r r1 r2
    rw [e4] at r2
    have w := hb r r1 r2
    rw [e1]
    refine ⟨eq _ _ _ w.1 (by omega), ?_⟩
    have := eq (162 + r) 0 (s 1 - 1) (by omega) (by omega)
    omega
  · intro r r1 r2
    exact eq _ _ _ (htp r r1 r2) (by omega)
  · intro r r1 r2
    have w := hv r r1 r2
    exact ⟨eq _ _ _ w.1 (by omega), eq _ _ _ w.2 (by omega)⟩
/-- one more tool -/
theorem RInv_t1 {s : Int → Int} (hR : RInv s) (h : s 1 < 10) (g : (0 ≤ s (74 + s 1) ∧ s (74 + s 1) ≤ 3) ∧ (0 ≤ s (84 + s 1) ∧ s (84 + s 1) < s 0) ∧ s (94 + s 1) = -1 ∧ (0 ≤ s (104 + s 1) ∧ s (104 + s 1) ≤ 1)) : RInv (up s 1 (s 1 + 1)) := by
  obtain ⟨h0, h1, h2, h3, h4, h5, h6, hp, hrw, ht, hr, hb, htp, hv⟩ := hR
  have e : ∀ j, j ≠ 1 → up s 1 (s 1 + 1) j = s j := fun j hj => up_ne _ _ hj
  have e1 : up s 1 (s 1 + 1) 1 = s 1 + 1 := up_at _ _ _
  refine ⟨by rw [e _ (by omega)]; exact h0, by rw [e1]; omega, by rw [e _ (by omega)]; exact h2, by rw [e _ (by omega)]; exact h3, by rw [e _ (by omega)]; exact h4, by rw [e _ (by omega)]; exact h5, by rw [e _ (by omega), e _ (by omega)]; exact h6, ?_, ?_, ?_, ?_, ?_, ?_, ?_⟩
  · intro p p1 p2
    rw [e _ (by omega), e _ (by omega), e _ (by omega), e _ (by omega)]; exact hp p p1 p2
  · intro p p1 p2
    rw [e _ (by omega)]; exact hrw p p1 p2
  · intro t t1 t2
    rw [e1] at t2 ⊢
    rw [e (74 + t) (by omega), e (84 + t) (by omega), e (94 + t) (by omega), e (104 + t) (by omega), e 0 (by omega)]
    by_cases hq : t = s 1
    · subst hq; exact ⟨g.1, g.2.1, Or.inl g.2.2.1, g.2.2.2⟩
    · have w := ht t t1 (by omega)
      refine ⟨w.1, w.2.1, ?_, w.2.2.2⟩
      rcases w.2.2.1 with q | ⟨g1, g2, g3, g4⟩
      · exact Or.inl q
      · refine Or.inr ⟨g1, by omega, g3, ?_⟩
        rw [e _ (by omega)]; exact g4
  · intro r r1 r2
    rw [e _ (by omega)] at r2
    have w := hr r r1 r2
    rw [e1, e _ (by omega), e _ (by omega), e _ (by omega)]
    exact ⟨by omega, by omega, w.2.2.1, w.2.2.2⟩
  · intro r r1 r2
    rw [e _ (by omega)] at r2
    have w := hb r r1 r2
    rw [e1, e _ (by omega), e _ (by omega)]
    omega
  · intro r r1 r2
    rw [e _ (by omega)]; exact htp r r1 r2
  · intro r r1 r2
    rw [e _ (by omega), e _ (by omega)]; exact hv r r1 r2
/-- one more trial -/
theorem RInv_t3 {s : Int → Int} (hR : RInv s) (h : s 3 < 12) (g : (0 ≤ s (114 + s 3) ∧ s (114 + s 3) < s 1) ∧ (0 ≤ s (126 + s 3) ∧ s (126 + s 3) < s 1) ∧ s (114 + s 3) ≠ s (126 + s 3) ∧ (0 ≤ s (138 + s 3) ∧ s (138 + s 3) ≤ 1)) : RInv (up s 3 (s 3 + 1)) := by
  obtain ⟨h0, h1, h2, h3, h4, h5, h6, hp, hrw, ht, hr, hb, htp, hv⟩ := hR
  have e : ∀ j, j ≠ 3 → up s 3 (s 3 + 1) j = s j := fun j hj => up_ne _ _ hj
  have e1 : up s 3 (s 3 + 1) 3 = s 3 + 1 := up_at _ _ _
  refine ⟨by rw [e _ (by omega)]; exact h0, by rw [e _ (by omega)]; exact h1, by rw [e _ (by omega)]; exact h2, by rw [e1]; omega, by rw [e _ (by omega)]; exact h4, by rw [e _ (by omega)]; exact h5, by rw [e _ (by omega), e _ (by omega)]; exact h6, ?_, ?_, ?_, ?_, ?_, ?_, ?_⟩
  · intro p p1 p2
    rw [e _ (by omega), e _ (by omega), e _ (by omega), e _ (by omega)]; exact hp p p1 p2
  · intro p p1 p2
    rw [e _ (by omega)]; exact hrw p p1 p2
  · intro t t1 t2
    rw [e 1 (by omega)] at t2 ⊢
    rw [e (74 + t) (by omega), e (84 + t) (by omega), e (94 + t) (by omega), e (104 + t) (by omega), e 0 (by omega)]
    have w := ht t t1 (by omega)
    refine ⟨w.1, w.2.1, ?_, w.2.2.2⟩
    rcases w.2.2.1 with q | ⟨g1, g2, g3, g4⟩
    · exact Or.inl q
    · refine Or.inr ⟨g1, by omega, g3, ?_⟩
      rw [e _ (by omega)]; exact g4
  · intro r r1 r2
    rw [e1] at r2
    rw [e 1 (by omega), e (114 + r) (by omega), e (126 + r) (by omega), e (138 + r) (by omega)]
    by_cases hq : r = s 3
    · subst hq; exact g
    · exact hr r r1 (by omega)
  · intro r r1 r2
    rw [e _ (by omega)] at r2
    have w := hb r r1 r2
    rw [e 1 (by omega), e _ (by omega), e _ (by omega)]
    omega
  · intro r r1 r2
    rw [e _ (by omega)]; exact htp r r1 r2
  · intro r r1 r2
    rw [e _ (by omega), e _ (by omega)]; exact hv r r1 r2
/-- one more row of the book -/
theorem RInv_t4 {s : Int → Int} (hR : RInv s) (h : s 4 < 12) (g : (0 ≤ s (150 + s 4) ∧ s (150 + s 4) ≤ 23) ∧ (0 ≤ s (162 + s 4) ∧ s (162 + s 4) < s 1)) : RInv (up s 4 (s 4 + 1)) := by
  obtain ⟨h0, h1, h2, h3, h4, h5, h6, hp, hrw, ht, hr, hb, htp, hv⟩ := hR
  have e : ∀ j, j ≠ 4 → up s 4 (s 4 + 1) j = s j := fun j hj => up_ne _ _ hj
  have e1 : up s 4 (s 4 + 1) 4 = s 4 + 1 := up_at _ _ _
  refine ⟨by rw [e _ (by omega)]; exact h0, by rw [e _ (by omega)]; exact h1, by rw [e _ (by omega)]; exact h2, by rw [e _ (by omega)]; exact h3, by rw [e1]; omega, by rw [e _ (by omega)]; exact h5, by rw [e _ (by omega), e _ (by omega)]; exact h6, ?_, ?_, ?_, ?_, ?_, ?_, ?_⟩
  · intro p p1 p2
    rw [e _ (by omega), e _ (by omega), e _ (by omega), e _ (by omega)]; exact hp p p1 p2
  · intro p p1 p2
    rw [e _ (by omega)]; exact hrw p p1 p2
  · intro t t1 t2
    rw [e 1 (by omega)] at t2 ⊢
    rw [e (74 + t) (by omega), e (84 + t) (by omega), e (94 + t) (by omega), e (104 + t) (by omega), e 0 (by omega)]
    have w := ht t t1 (by omega)
    refine ⟨w.1, w.2.1, ?_, w.2.2.2⟩
    rcases w.2.2.1 with q | ⟨g1, g2, g3, g4⟩
    · exact Or.inl q
    · refine Or.inr ⟨g1, by omega, g3, ?_⟩
      rw [e _ (by omega)]; exact g4
  · intro r r1 r2
    rw [e _ (by omega)] at r2
    have w := hr r r1 r2
    rw [e 1 (by omega), e (114 + r) (by omega), e (126 + r) (by omega), e (138 + r) (by omega)]
    exact w
  · intro r r1 r2
    rw [e1] at r2
    rw [e 1 (by omega), e _ (by omega), e _ (by omega)]
    by_cases hq : r = s 4
    · subst hq; exact g
    · exact hb r r1 (by omega)
  · intro r r1 r2
    rw [e _ (by omega)]; exact htp r r1 r2
  · intro r r1 r2
    rw [e _ (by omega), e _ (by omega)]; exact hv r r1 r2
/-- one more valley, held -/
theorem RInv_t2 {s : Int → Int} (hR : RInv s) (h : s 2 < 5) : RInv (up (up s 2 (s 2 + 1)) 6 (s 2)) := by
  obtain ⟨h0, h1, h2, h3, h4, h5, h6, hp, hrw, ht, hr, hb, htp, hv⟩ := hR
  have e : ∀ j, j ≠ 2 → j ≠ 6 → up (up s 2 (s 2 + 1)) 6 (s 2) j = s j := fun j hj hk => by rw [up_ne _ _ hk, up_ne _ _ hj]
  have e1 : up (up s 2 (s 2 + 1)) 6 (s 2) 2 = s 2 + 1 := by rw [up_ne _ _ (by decide), up_at]
  have e2 : up (up s 2 (s 2 + 1)) 6 (s 2) 6 = s 2 := up_at _ _ _
  refine ⟨by rw [e _ (by omega) (by omega)]; exact h0, by rw [e _ (by omega) (by omega)]; exact h1, by rw [e1]; omega, by rw [e _ (by omega) (by omega)]; exact h3, by rw [e _ (by omega) (by omega)]; exact h4, by rw [e _ (by omega) (by omega)]; exact h5, by rw [e1, e2]; omega, ?_, ?_, ?_, ?_, ?_, ?_, ?_⟩
  · intro p p1 p2
    rw [e _ (by omega) (by omega), e _ (by omega) (by omega), e _ (by omega) (by omega), e _ (by omega) (by omega)]; exact hp p p1 p2
  · intro p p1 p2
    rw [e _ (by omega) (by omega)]; exact hrw p p1 p2
  · intro t t1 t2
    rw [e 1 (by omega) (by omega)] at t2 ⊢
    rw [e (74 + t) (by omega) (by omega), e (84 + t) (by omega) (by omega), e (94 + t) (by omega) (by omega), e (104 + t) (by omega) (by omega), e 0 (by omega) (by omega)]
    have w := ht t t1 (by omega)
    refine ⟨w.1, w.2.1, ?_, w.2.2.2⟩
    rcases w.2.2.1 with q | ⟨g1, g2, g3, g4⟩
    · exact Or.inl q
    · refine Or.inr ⟨g1, by omega, g3, ?_⟩
      rw [e _ (by omega) (by omega)]; exact g4
  · intro r r1 r2
    rw [e _ (by omega) (by omega)] at r2
    rw [e 1 (by omega) (by omega), e (114 + r) (by omega) (by omega), e (126 + r) (by omega) (by omega), e (138 + r) (by omega) (by omega)]
    exact hr r r1 r2
  · intro r r1 r2
    rw [e _ (by omega) (by omega)] at r2
    rw [e 1 (by omega) (by omega), e _ (by omega) (by omega), e _ (by omega) (by omega)]
    exact hb r r1 r2
  · intro r r1 r2
    rw [e _ (by omega) (by omega)]; exact htp r r1 r2
  · intro r r1 r2
    rw [e _ (by omega) (by omega), e _ (by omega) (by omega)]; exact hv r r1 r2
/-- what holds of the reference's numbers, all of it -/
def RAll (s : Int → Int) : Prop := RInv s ∧ RVal s
theorem RAll_up {s : Int → Int} {i x : Int} (hR : RAll s) (hi : RCell s i x) (h2 : i < 279) : RAll (up s i x) := ⟨RInv_up hR.1 hi, RVal_up h2 (by unfold RCell at hi; have := hR.1.2.1; have := hR.1.2.2.2.1; omega) hR.2⟩
theorem RAll_feed {s : Int → Int} {x : Int} (h : RAll s) : RAll (rs_feed s x).2 := by
  have h5 := h.1.2.2.2.2.2.1
  unfold rs_feed
  split
  · exact h
  · split
    · exact h
    · exact RAll_up (i := 5) (x := s 5 + 1) (RAll_up (i := 174 + s 5) (x := x) h (RC15 (by omega)) (by omega)) (RC19 (by omega)) (by omega)
theorem RAll_free {s : Int → Int} {p x : Int} (h : RAll s) : RAll (rs_free s p x).2 := by
  have h0 := h.1.1
  unfold rs_free
  split
  · exact h
  · split
    · exact h
    · exact RAll_up h (RC4 (by (try simp only [up]); omega)) (by omega)
theorem RAll_row {s : Int → Int} {p a t : Int} (h : RAll s) : RAll (rs_row s p a t).2 := by
  have h0 := h.1.1
  unfold rs_row
  split
  · exact h
  · split
    · exact h
    · split
      · exact h
      · exact RAll_up h (RC5 (by (try simp only [up]); omega)) (by omega)
theorem RAll_broken {s : Int → Int} {t b : Int} (h : RAll s) : RAll (rs_broken s t b).2 := by
  have h1 := h.1.2.1
  unfold rs_broken
  split
  · exact h
  · exact RAll_up h (RC9 (by (try simp only [up]); omega)) (by omega)
theorem RAll_give {s : Int → Int} {t p : Int} (h : RAll s) : RAll (rs_give s t p).2 := by
  have h1 := h.1.2.1
  unfold rs_give
  split
  · exact h
  · exact RAll_up h (RC7 (by (try simp only [up]); omega)) (by omega)
theorem RAll_clear {s : Int → Int} (h : RAll s) : RAll (rs_clear s).2 := by
  have h1 := h.1.2.2.2.1
  unfold rs_clear
  exact RAll_up (i := 3) (x := 0) h (RC20 (by omega)) (by omega)
theorem RAll_tool {s : Int → Int} {a p : Int} (h : RAll s) : RAll (rs_tool s a p).2 := by
  have h0 := h.1.1
  have h1 := h.1.2.1
  unfold rs_tool
  split
  · exact h
  · split
    · exact h
    · split
      · exact h
      · have g1 := RAll_up (i := 74 + s 1) (x := a) h (RC6 (by (try simp only [up]); omega)) (by omega)
        have g2 := RAll_up (i := 84 + s 1) (x := p) g1 (RC7 (by (try simp only [up]); omega)) (by omega)
        have g3 := RAll_up (i := 94 + s 1) (x := -1) g2 (RC8 (by (try simp only [up]); omega)) (by omega)
        have g4 := RAll_up (i := 104 + s 1) (x := 0) g3 (RC9 (by (try simp only [up]); omega)) (by omega)
        have e1 : up (up (up (up s (74 + s 1) a) (84 + s 1) p) (94 + s 1) (-1)) (104 + s 1) 0 1 = s 1 := by simp only [up]; omega
        refine ⟨?_, RVal_up (by omega) (by omega) g4.2⟩
        have c1 : up (up (up (up s (74 + s 1) a) (84 + s 1) p) (94 + s 1) (-1)) (104 + s 1) 0 (74 + s 1) = a := by rw [up_ne _ _ (by omega), up_ne _ _ (by omega), up_ne _ _ (by omega), up_at]
        have c2 : up (up (up (up s (74 + s 1) a) (84 + s 1) p) (94 + s 1) (-1)) (104 + s 1) 0 (84 + s 1) = p := by rw [up_ne _ _ (by omega), up_ne _ _ (by omega), up_at]
        have c3 : up (up (up (up s (74 + s 1) a) (84 + s 1) p) (94 + s 1) (-1)) (104 + s 1) 0 (94 + s 1) = -1 := by rw [up_ne _ _ (by omega), up_at]
        have c4 : up (up (up (up s (74 + s 1) a) (84 + s 1) p) (94 + s 1) (-1)) (104 + s 1) 0 (104 + s 1) = 0 := by rw [up_at]
        have c5 : up (up (up (up s (74 + s 1) a) (84 + s 1) p) (94 + s 1) (-1)) (104 + s 1) 0 0 = s 0 := by rw [up_ne _ _ (by omega), up_ne _ _ (by omega), up_ne _ _ (by omega), up_ne _ _ (by omega)]
        have g5 := RInv_t1 g4.1 (by rw [e1]; omega) (by rw [e1, c1, c2, c3, c4, c5]; omega)
        rw [e1] at g5
        exact g5
theorem RAll_trial {s : Int → Int} {a b w : Int} (h : RAll s) : RAll (rs_trial s a b w).2 := by
  have h1 := h.1.2.1
  have h3 := h.1.2.2.2.1
  unfold rs_trial
  split
  · exact h
  · split
    · exact h
    · split
      · exact h
      · have g1 := RAll_up (i := 114 + s 3) (x := a) h (RC10 (by (try simp only [up]); omega)) (by omega)
        have g2 := RAll_up (i := 126 + s 3) (x := b) g1 (RC11 (by (try simp only [up]); omega)) (by omega)
        have g3 := RAll_up (i := 138 + s 3) (x := if w = 0 then 0 else 1) g2 (RC12 (by (try simp only [up]); omega)) (by omega)
        have e1 : up (up (up s (114 + s 3) a) (126 + s 3) b) (138 + s 3) (if w = 0 then 0 else 1) 3 = s 3 := by simp only [up]; omega
        refine ⟨?_, RVal_up (by omega) (by omega) g3.2⟩
        have c1 : up (up (up s (114 + s 3) a) (126 + s 3) b) (138 + s 3) (if w = 0 then 0 else 1) (114 + s 3) = a := by rw [up_ne _ _ (by omega), up_ne _ _ (by omega), up_at]
        have c2 : up (up (up s (114 + s 3) a) (126 + s 3) b) (138 + s 3) (if w = 0 then 0 else 1) (126 + s 3) = b := by rw [up_ne _ _ (by omega), up_at]
        have c3 : up (up (up s (114 + s 3) a) (126 + s 3) b) (138 + s 3) (if w = 0 then 0 else 1) (138 + s 3) = if w = 0 then 0 else 1 := by rw [up_at]
        have c5 : up (up (up s (114 + s 3) a) (126 + s 3) b) (138 + s 3) (if w = 0 then 0 else 1) 1 = s 1 := by rw [up_ne _ _ (by omega), up_ne _ _ (by omega), up_ne _ _ (by omega)]
        have g5 := RInv_t3 g3.1 (by rw [e1]; omega) (by rw [e1, c1, c2, c3, c5]; omega)
        rw [e1] at g5
        exact g5
theorem RAll_book {s : Int → Int} {u t : Int} (h : RAll s) : RAll (rs_book s u t).2 := by
  have h1 := h.1.2.1
  have h4 := h.1.2.2.2.2.1
  unfold rs_book
  split
  · exact h
  · split
    · exact h
    · have g1 := RAll_up (i := 150 + s 4) (x := u) h (RC13 (by (try simp only [up]); omega)) (by omega)
      have g2 := RAll_up (i := 162 + s 4) (x := t) g1 (RC14 (by (try simp only [up]); omega)) (by omega)
      have e1 : up (up s (150 + s 4) u) (162 + s 4) t 4 = s 4 := by simp only [up]; omega
      refine ⟨?_, RVal_up (by omega) (by omega) g2.2⟩
      have c1 : up (up s (150 + s 4) u) (162 + s 4) t (150 + s 4) = u := by rw [up_ne _ _ (by omega), up_at]
      have c2 : up (up s (150 + s 4) u) (162 + s 4) t (162 + s 4) = t := by rw [up_at]
      have c5 : up (up s (150 + s 4) u) (162 + s 4) t 1 = s 1 := by rw [up_ne _ _ (by omega), up_ne _ _ (by omega)]
      have g5 := RInv_t4 g2.1 (by rw [e1]; omega) (by rw [e1, c1, c2, c5]; omega)
      rw [e1] at g5
      exact g5
theorem RAll_fill {p : Int} (p1 : 0 ≤ p ∧ p < 8) : ∀ (k j : Nat) (s : Int → Int), j + k ≤ 4 → RAll s → RAll (rFill p k j s)
  | 0, _, _, _, h => h
  | k + 1, j, s, hj, h => by
    rw [rFill]
    exact RAll_fill p1 k (j + 1) _ (by omega) (RAll_up h (RC5 (by omega)) (by omega))
theorem RAll_person {s : Int → Int} {k v u : Int} (h : RAll s) : RAll (rs_person s k v u).2 := by
  have h0 := h.1.1
  unfold rs_person
  split
  · exact h
  · split
    · exact h
    · split
      · exact h
      · have g1 := RAll_up (i := 10 + s 0) (x := k) h (RC1 (by omega)) (by omega)
        have g2 := RAll_up (i := 18 + s 0) (x := v) g1 (RC2 (by omega)) (by omega)
        have g3 := RAll_up (i := 26 + s 0) (x := u) g2 (RC3 (by omega)) (by omega)
        have g4 := RAll_up (i := 34 + s 0) (x := 0) g3 (RC4 (by omega)) (by omega)
        have g5 := RAll_fill (p := s 0) (by omega) 4 0 _ (by omega) g4
        refine RAll_up g5 (RC21 ⟨rfl, ?_, by omega⟩) (by omega)
        rw [rFill_0 h0.1]
        simp only [up]; omega
theorem RInv_part {s : Int → Int} {a : Int} (a1 : 0 ≤ a ∧ a < s 1) (hR : RInv s) : RInv (rPart s a) := by
  have hR0 := hR
  obtain ⟨h0, h1, h2, h3, h4, h5, h6, hp, hrw, ht, hr, hb, htp, hv⟩ := hR
  have wa := (ht a a1.1 a1.2).2.2.1
  unfold rPart
  by_cases hq : s (94 + a) = -1
  · rw [if_neg (by omega)]; exact hR0
  · rw [if_pos hq]
    have e : ∀ j, j ≠ 94 + a → j ≠ 94 + s (94 + a) → up (up s (94 + s (94 + a)) (-1)) (94 + a) (-1) j = s j := fun j j1 j2 => by rw [up_ne _ _ j1, up_ne _ _ j2]
    have e1 : ∀ j, j = 94 + a ∨ j = 94 + s (94 + a) → up (up s (94 + s (94 + a)) (-1)) (94 + a) (-1) j = -1 := fun j hj => by
      by_cases q : j = 94 + a
      · rw [q, up_at]
      · rw [up_ne _ _ q]
        rcases hj with g | g
        · exact absurd g q
        · rw [g, up_at]
    obtain ⟨q1, q2, q3, q4⟩ := wa.resolve_left hq
    generalize hu : s (94 + a) = u at *
    refine ⟨by rw [e _ (by omega) (by omega)]; exact h0, by rw [e _ (by omega) (by omega)]; exact h1, by rw [e _ (by omega) (by omega)]; exact h2, by rw [e _ (by omega) (by omega)]; exact h3, by rw [e _ (by omega) (by omega)]; exact h4, by rw [e _ (by omega) (by omega)]; exact h5, by rw [e _ (by omega) (by omega), e _ (by omega) (by omega)]; exact h6, ?_, ?_, ?_, ?_, ?_, ?_, ?_⟩
    · intro p p1 p2
      rw [e _ (by omega) (by omega), e _ (by omega) (by omega), e _ (by omega) (by omega), e _ (by omega) (by omega)]; exact hp p p1 p2
    · intro p p1 p2
      rw [e _ (by omega) (by omega)]; exact hrw p p1 p2
    · intro t t1 t2
      rw [e 1 (by omega) (by omega)] at t2 ⊢
      have w := ht t t1 t2
      rw [e (74 + t) (by omega) (by omega), e (84 + t) (by omega) (by omega), e (104 + t) (by omega) (by omega), e 0 (by omega) (by omega)]
      refine ⟨w.1, w.2.1, ?_, w.2.2.2⟩
      by_cases g : t = a ∨ t = u
      · exact Or.inl (e1 _ (by omega))
      · rw [e (94 + t) (by omega) (by omega)]
        rcases w.2.2.1 with g1 | ⟨g1, g2, g3, g4⟩
        · exact Or.inl g1
        · refine Or.inr ⟨g1, g2, g3, ?_⟩
          rw [e _ (fun y => ?_) (fun y => ?_)]
          · exact g4
          · have : s (94 + t) = a := by omega
            rw [this] at g4; omega
          · have : s (94 + t) = u := by omega
            rw [this] at g4; omega
    · intro r r1 r2
      rw [e _ (by omega) (by omega)] at r2
      rw [e 1 (by omega) (by omega), e (114 + r) (by omega) (by omega), e (126 + r) (by omega) (by omega), e (138 + r) (by omega) (by omega)]
      exact hr r r1 r2
    · intro r r1 r2
      rw [e _ (by omega) (by omega)] at r2
      rw [e 1 (by omega) (by omega), e _ (by omega) (by omega), e _ (by omega) (by omega)]
      exact hb r r1 r2
    · intro r r1 r2
      rw [e _ (by omega) (by omega)]; exact htp r r1 r2
    · intro r r1 r2
      rw [e _ (by omega) (by omega), e _ (by omega) (by omega)]; exact hv r r1 r2
theorem rPart_ne {s : Int → Int} {a j : Int} (hR : RInv s) (a1 : 0 ≤ a ∧ a < s 1) (h : j < 94 ∨ 104 ≤ j) : rPart s a j = s j := by
  have h1 := hR.2.1
  have wa := (hR.2.2.2.2.2.2.2.2.2.1 a a1.1 a1.2).2.2.1
  unfold rPart
  by_cases hq : s (94 + a) = -1
  · rw [if_neg (by omega)]
  · rw [if_pos hq, up_ne _ _ (by omega), up_ne _ _ (by omega)]
theorem rPart_a {s : Int → Int} {a : Int} : rPart s a (94 + a) = -1 := by
  unfold rPart
  by_cases hq : s (94 + a) = -1
  · rw [if_neg (by omega)]; exact hq
  · rw [if_pos hq, up_at]
theorem rPart_k {s : Int → Int} {a b : Int} (h : s (94 + a) = -1) : rPart s b (94 + a) = -1 := by
  unfold rPart
  split
  · by_cases q : 94 + a = 94 + b
    · rw [q, up_at]
    · rw [up_ne _ _ q]
      by_cases q2 : 94 + a = 94 + s (94 + b)
      · rw [q2, up_at]
      · rw [up_ne _ _ q2]; exact h
  · exact h
theorem RAll_twin {s : Int → Int} {a b : Int} (h : RAll s) : RAll (rs_twin s a b).2 := by
  have h1 := h.1.2.1
  unfold rs_twin
  split
  · exact h
  · split
    · exact h
    · rename_i g1 g2
      have a1 : 0 ≤ a ∧ a < s 1 := by omega
      have b1 : 0 ≤ b ∧ b < s 1 := by omega
      have k1 := RInv_part a1 h.1
      have e1 : rPart s a 1 = s 1 := rPart_ne h.1 a1 (by omega)
      have k2 := RInv_part (a := b) (by rw [e1]; exact b1) k1
      have e2 : rPart (rPart s a) b 1 = s 1 := (rPart_ne k1 (by rw [e1]; exact b1) (by omega)).trans e1
      refine ⟨RInv_pair (by rw [e2]; exact a1) (by rw [e2]; exact b1) g2 (rPart_k rPart_a) rPart_a k2, RVal_up (by omega) (by omega) (RVal_up (by omega) (by omega) (RVal_congr ?_ (fun j hj => ?_) h.2))⟩
      · exact (rPart_ne k1 (by rw [e1]; exact b1) (by omega)).trans (rPart_ne h.1 a1 (by omega))
      · exact (rPart_ne k1 (by rw [e1]; exact b1) (by omega)).trans (rPart_ne h.1 a1 (by omega))
theorem pW_len {s : Int → Int} {a : Int} {o : List Int} : pW s a o (279 + a) = (o.length : Int) := by unfold pW; rw [if_pos rfl]
theorem rDeeps_list {s : Int → Int} {f : Int} {o : List Int} (h : ∀ i : Nat, i < o.length → s (f + (i : Int)) = o.getD i 0) : ∀ k : Nat, k ≤ o.length → rDeeps s f k = lDeep 0 (o.take k)
  | 0, _ => rfl
  | k + 1, hk => by
    rw [rDeeps, rDeeps_list h k (by omega), List.take_succ_eq_append_getElem (by omega), lDeep_app, h k (by omega)]
    congr 1
    funext d
    rw [show o.getD k 0 = o[k] by simp [show k < o.length by omega]]
    show _ = (rDeep d o[k]).bind fun d' => lDeep d' []
    cases rDeep d o[k] <;> rfl
theorem RInv_pW {s : Int → Int} {a : Int} {o : List Int} (a1 : 0 ≤ a ∧ a < 5) (ho : o.length ≤ 100) (hR : RInv s) : RInv (pW s a o) := by
  obtain ⟨h0, h1, h2, h3, h4, h5, h6, hp, hrw, ht, hr, hb, htp, hv⟩ := hR
  have e : ∀ j, j < 279 → pW s a o j = s j := fun j hj => by unfold pW; rw [if_neg (by omega), if_neg (by omega)]
  refine ⟨by rw [e _ (by omega)]; exact h0, by rw [e _ (by omega)]; exact h1, by rw [e _ (by omega)]; exact h2, by rw [e _ (by omega)]; exact h3, by rw [e _ (by omega)]; exact h4, by rw [e _ (by omega)]; exact h5, by rw [e _ (by omega), e _ (by omega)]; exact h6, ?_, ?_, ?_, ?_, ?_, ?_, ?_⟩
  · intro p p1 p2
    rw [e _ (by omega), e _ (by omega), e _ (by omega), e _ (by omega)]; exact hp p p1 p2
  · intro p p1 p2
    rw [e _ (by omega)]; exact hrw p p1 p2
  · intro t t1 t2
    rw [e 1 (by omega)] at t2 ⊢
    rw [e (74 + t) (by omega), e (84 + t) (by omega), e (94 + t) (by omega), e (104 + t) (by omega), e 0 (by omega)]
    have w := ht t t1 (by omega)
    refine ⟨w.1, w.2.1, ?_, w.2.2.2⟩
    rcases w.2.2.1 with q | ⟨g1, g2, g3, g4⟩
    · exact Or.inl q
    · refine Or.inr ⟨g1, by omega, g3, ?_⟩
      rw [e _ (by omega)]; exact g4
  · intro r r1 r2
    rw [e _ (by omega)] at r2
    rw [e 1 (by omega), e (114 + r) (by omega), e (126 + r) (by omega), e (138 + r) (by omega)]
    exact hr r r1 r2
  · intro r r1 r2
    rw [e _ (by omega)] at r2
    rw [e 1 (by omega), e _ (by omega), e _ (by omega)]
    exact hb r r1 r2
  · intro r r1 r2
    rw [e _ (by omega)]; exact htp r r1 r2
  · intro r r1 r2
    have w := hv r r1 r2
    rw [e _ (by omega)]
    refine ⟨w.1, ?_⟩
    by_cases q : r = a
    · rw [q, pW_len]; omega
    · unfold pW; rw [if_neg (by omega), if_neg (by omega)]; exact w.2
theorem RAll_valley {s : Int → Int} (h : RAll s) : RAll (rValS s) := by
  obtain ⟨h0, h1, h2, h3, h4, h5, h6, hp, hrw, ht, hr, hb, htp, hv⟩ := id h.1
  unfold rValS
  split
  · exact h
  · rename_i g5
    have ha : 0 ≤ s 2 ∧ s 2 < 5 := by omega
    have hB : pB s (s 2) (s 5) := ⟨ha, h5, htp⟩
    have zz : pZ (s 5) (0, false, []) := ⟨Int.le_refl _, h5.1, Int.le_refl _⟩
    obtain ⟨k1, k2, k3⟩ := pVal_ok hB 9 _ ((pCl_ok (x := ((0, false, []), 6)) hB zz).z zz) (pCl_bell (x := ((0, false, []), 6)) hB zz (by decide))
    have k4 := pCl_deep (x := ((0, false, []), 6)) hB zz
    have hl : (rRead s).1.2.2.length ≤ 100 := by
      have : ((rRead s).1.2.2.length : Int) ≤ (rRead s).1.1 := k1.2.2
      have : (rRead s).1.1 ≤ s 5 := k1.2.1
      omega
    have i1 : RInv (rPut s) := by
      refine RInv_pW ha hl ?_
      refine RInv_up (RInv_up h.1 (RC19 (by omega))) (RC16 ?_)
      have : 0 ≤ (rRead s).2 ∧ (rRead s).2 ≤ 99 := k2
      omega
    have e : ∀ j, j ≠ 5 → j ≠ 274 + s 2 → j ≠ 279 + s 2 → ¬ (284 + 140 * s 2 ≤ j ∧ j < 424 + 140 * s 2) → rPut s j = s j := fun j j1 j2 j3 j4 => by
      unfold rPut pW
      rw [if_neg j3, if_neg (by omega), up_ne _ _ j2, up_ne _ _ j1]
    have v1 : ∀ a, 0 ≤ a → a < s 2 → rDeeps (rPut s) (284 + 140 * a) (rPut s (279 + a)).toNat = some 0 := by
      intro a a1 a2
      have hva := hv a a1 (by omega)
      rw [e (279 + a) (by omega) (by omega) (by omega) (by omega), rDeeps_congr _ (fun j hj => e _ (by omega) (by omega) (by omega) (by omega))]
      exact h.2 a a1 a2
    have e2 : rPut s 2 = s 2 := e 2 (by omega) (by omega) (by omega) (by omega)
    split
    · exact ⟨i1, fun a a1 a2 => v1 a a1 (by omega)⟩
    · rename_i g6
      have i2 := RInv_t2 i1 (by omega)
      rw [e2] at i2
      refine ⟨i2, fun a a1 a2 => ?_⟩
      rw [up_ne _ _ (by omega), up_at] at a2
      rw [up_ne _ _ (by omega), up_ne _ _ (by omega), rDeeps_congr (s := rPut s) _ (fun j hj => by rw [up_ne _ _ (by omega), up_ne _ _ (by omega)])]
      by_cases q : a = s 2
      · subst q
        have e3 : rPut s (279 + s 2) = ((rRead s).1.2.2.length : Int) := pW_len
        rw [e3, Int.toNat_natCast, rDeeps_list (o := (rRead s).1.2.2) (fun i hi => ?_) _ (Nat.le_refl _), List.take_length]
        · have hw : (rRead s).1.2.1 = false := by
            by_cases y : (rRead s).1.2.1 = true
            · exact absurd (Or.inl y) g6
            · simpa using y
          have hd : pAd 0 0 (0, false, []) (rRead s).1 := by
            by_cases y : (pCl (tpe s) (s 5) ((0, false, []), 6)).1.2.1 = true
            · have e4 : rRead s = pCl (tpe s) (s 5) ((0, false, []), 6) := by
                unfold rRead
                rw [pVal, if_neg (by rw [y]; simp)]
              rw [e4]; exact k4
            · exact k4.tr k3 (fun _ => by simpa using y)
          obtain ⟨x, x1, x2⟩ := hd hw
          rw [x1]; exact x2
        · unfold rPut pW
          rw [if_neg (by omega), if_pos (by omega), show (284 + 140 * s 2 + (i : Int) - (284 + 140 * s 2)).toNat = i by omega]
      · exact v1 a a1 (by omega)
/-- the start -/
def rS0 : Int → Int := fun i => if i = 6 ∨ (42 ≤ i ∧ i < 74) then -1 else 0
theorem RAll_0 : RAll rS0 := by
  refine ⟨⟨by decide, by decide, by decide, by decide, by decide, by decide, by decide, ?_, ?_, ?_, ?_, ?_, ?_, ?_⟩, ?_⟩
  · intro p p1 p2
    unfold rS0; omega
  · intro p p1 p2
    unfold rS0; omega
  · intro t t1 t2
    exact absurd t2 (by show ¬ t < 0; omega)
  · intro t t1 t2
    exact absurd t2 (by show ¬ t < 0; omega)
  · intro t t1 t2
    exact absurd t2 (by show ¬ t < 0; omega)
  · intro p p1 p2
    unfold rS0; omega
  · intro p p1 p2
    unfold rS0; omega
  · intro a a1 a2
    exact absurd a2 (by show ¬ a < 0; omega)
