/-! WHAT HOLDS BETWEEN THE CALLS -/
def CW (w : Nat) (K : Nat → Nat × Nat) (I : Nat → Int → Int) (Q : Nat → Int → Option Nat) (n : Nat) (s : Int → Int) : Prop := WN w I s ∧ WP w K I Q n s ∧ WV w K I Q n s ∧ RAll s
def CT (I : Nat → Int → Int) : Prop := ∃ T : List Int, T.length ≤ 20 ∧ (∀ x ∈ T, tr x) ∧ I 61 1 = (T.length : Int) ∧ I 69 19 = (T.length : Int) ∧ ∀ i : Nat, i < T.length → I 62 (i : Int) = T.getD i 0 ∧ I 76 (i : Int) = T.getD i 0
def CInv (K : Nat → Nat × Nat) (I : Nat → Int → Int) (Q : Nat → Int → Option Nat) (n : Nat) : Prop :=
  tSt (K, I, Q, n) ∧ CW 1 K I Q n (I 70) ∧ (QH K Q n 1 ∧ QH K Q n 14) ∧ (I 57 0 = 0 ∧ I 59 0 = 0) ∧ (∃ v, Q 0 ((5 : Nat) : Int) = some v ∧ VS K Q n v ∧ ∀ x : Int, 0 ≤ x → x < 5 → Q 3 x ≠ some v ∧ Q 16 x ≠ some v) ∧ (I 0 2 = I 69 3 ∧ (I 0 2 = 0 ∨ (I 0 2 = 1 ∧ CW 14 K I Q n (I 71)))) ∧ CT I ∧ (-12000000 ≤ I 69 16 ∧ I 69 16 ≤ 12000000)
def CI (h : tH) : Prop := CInv h.1 h.2.1 h.2.2.1 h.2.2.2
section CI1
variable {K K' : Nat → Nat × Nat} {I J : Nat → Int → Int} {Q Q' : Nat → Int → Option Nat} {n n' : Nat} {s s' : Int → Int}
theorem VS.ap {v u : Nat} (h : VS K Q n v) (g : VS K Q n u) (hne : u ≠ v) : ∀ i j : Nat, i ≤ 5 → j ≤ 5 → u + i ≠ v + j := by
  have aux : ∀ {a b : Nat}, VS K Q n a → VS K Q n b → ∀ d, 1 ≤ d → d ≤ 5 → b ≠ a + d := by
    intro a b ha hb d d1 d2 e
    obtain ⟨-, ⟨-, a1, a2, a3, a4, a5⟩, -⟩ := ha
    obtain ⟨-, ⟨b0, -⟩, -⟩ := hb
    rw [e] at b0
    rcases (show d = 1 ∨ d = 2 ∨ d = 3 ∨ d = 4 ∨ d = 5 by omega) with rfl | rfl | rfl | rfl | rfl
    · rw [a1] at b0; exact absurd b0 (by decide)
    · rw [a2] at b0; exact absurd b0 (by decide)
    · rw [a3] at b0; exact absurd b0 (by decide)
    · rw [a4] at b0; exact absurd b0 (by decide)
    · rw [a5] at b0; exact absurd b0 (by decide)
  intro i j i1 j1 e
  rcases Nat.lt_trichotomy i j with q | q | q
  · exact aux h g (j - i) (by omega) (by omega) (by omega)
  · omega
  · exact aux g h (i - j) (by omega) (by omega) (by omega)
theorem VS.pl {v : Nat} (h : VS K Q n v) (hS : tSt (K, I, Q', n')) : v = 63 ∨ 78 ≤ v := by
  obtain ⟨⟨h1, -⟩, ⟨h2, -⟩, -⟩ := h
  by_cases q : v = 63 ∨ 78 ≤ v
  · exact q
  · exfalso
    have e : K v = shp v := hS.1 v (by omega)
    rw [h2] at e
    have g : ∀ b, b < 78 → 64 ≤ b → (9, 12) ≠ shp b := by decide +kernel
    exact g v (by omega) (by omega) e
/-- a hand's cell is none of a valley's -/
theorem VS.hd {v a : Nat} {k : Int} (h : VS K Q n v) (ha : K a = (kC k, 4)) : ∀ j : Nat, j ≤ 5 → a ≠ v + j := by
  obtain ⟨-, ⟨a0, a1, a2, a3, a4, a5⟩, -⟩ := h
  intro j j1 e
  have hk := kC_lt k
  rw [e] at ha
  rcases (show j = 0 ∨ j = 1 ∨ j = 2 ∨ j = 3 ∨ j = 4 ∨ j = 5 by omega) with rfl | rfl | rfl | rfl | rfl | rfl
  · rw [Nat.add_zero, a0] at ha; have := congrArg Prod.fst ha; simp only at this; omega
  · rw [a1] at ha; have := congrArg Prod.fst ha; simp only at this; omega
  · rw [a2] at ha; have := congrArg Prod.fst ha; simp only at this; omega
  · rw [a3] at ha; have := congrArg Prod.fst ha; simp only at this; omega
  · rw [a4] at ha; have := congrArg Prod.fst ha; simp only at this; omega
  · rw [a5] at ha; have := congrArg Prod.fst ha; simp only at this; omega
theorem VS.x {v : Nat} (h : VS K Q n v) (kk : ∀ a, a < n → K' a = K a) (hn : n ≤ n') (fv : Q' v = Q v) : VS K' Q' n' v := by
  obtain ⟨h1, ⟨a0, a1, a2, a3, a4, a5⟩, q1, q2, q3, q4, q5, q6, kx, nx⟩ := h
  refine ⟨by omega, ⟨?_, ?_, ?_, ?_, ?_, ?_⟩, ?_⟩
  · rw [kk _ (by omega)]; exact a0
  · rw [kk _ (by omega)]; exact a1
  · rw [kk _ (by omega)]; exact a2
  · rw [kk _ (by omega)]; exact a3
  · rw [kk _ (by omega)]; exact a4
  · rw [kk _ (by omega)]; exact a5
  · rw [fv]; exact ⟨q1, q2, q3, q4, q5, q6, by rw [kk _ nx]; exact kx, by omega⟩
/-- where a valley's text lies, and what lies elsewhere -/
theorem VS.xp {v : Nat} (h : VS K Q n v) (hS : tSt (K, I, Q', n')) : vX v = 77 ∨ 84 ≤ vX v := by
  rcases h.pl hS with rfl | q
  · exact Or.inl rfl
  · right; unfold vX; rw [if_neg (by omega)]; omega
theorem VS.xk {v a : Nat} (h : VS K Q n v) (ha : K a ≠ (13, 100)) : a ≠ vX v := fun q => by
  subst q
  exact ha h.2.2.2.2.2.2.2.2.1
theorem VS.xh {v a : Nat} {k : Int} (h : VS K Q n v) (ha : K a = (kC k, 4)) : a ≠ vX v := h.xk (by
  rw [ha]
  intro q
  have h1 : (4 : Nat) = 100 := congrArg Prod.snd q
  omega)
theorem VS.xa {u v : Nat} (h : VS K Q n v) (g : VS K Q n u) : ∀ j : Nat, j ≤ 3 → u + j ≠ vX v := fun j hj => h.xk (by
  obtain ⟨-, ⟨a0, a1, a2, a3, -⟩, -⟩ := g
  rcases (show j = 0 ∨ j = 1 ∨ j = 2 ∨ j = 3 by omega) with rfl | rfl | rfl | rfl
  · rw [Nat.add_zero, a0]; decide
  · rw [a1]; decide
  · rw [a2]; decide
  · rw [a3]; decide)
theorem WP.x {w w' : Nat} (h : WP w K I Q n s) (kk : ∀ a, a < n → K' a = K a) (hn : n ≤ n') (fi : ∀ a k, 78 ≤ a → a < n → K a = (kC k, 4) → J a = I a) (fq : ∀ x, 0 ≤ x → x < s 0 → Q' (w' + 3) x = Q (w + 3) x) : WP w' K' J Q' n' s := by
  intro p p1 p2
  obtain ⟨a, a1, a2, a3, a4, a5⟩ := h p p1 p2
  exact ⟨a, by rw [fq p p1 p2]; exact a1, a2, by omega, by rw [kk a a3]; exact a4, by rw [fi a _ a2 a3 a4]; exact a5⟩
theorem WV.x {w w' : Nat} (h : WV w K I Q n s) (kk : ∀ a, a < n → K' a = K a) (hn : n ≤ n') (fi : ∀ x u, 0 ≤ x → x < s 2 → Q (w + 2) x = some u → VS K Q n u → J u = I u ∧ J (u + 1) = I (u + 1) ∧ J (u + 2) = I (u + 2) ∧ J (u + 3) = I (u + 3)) (fv : ∀ u, 63 ≤ u → u < n → Q' u = Q u) (fq : ∀ x, 0 ≤ x → x < s 2 → Q' (w' + 2) x = Q (w + 2) x) : WV w' K' J Q' n' s := by
  intro x x1 x2
  obtain ⟨v, L, v1, v2, v3, v4, v5⟩ := h x x1 x2
  have e := fi x v x1 x2 v1 v2
  have h0 := v2.1
  exact ⟨v, L, by rw [fq x x1 x2]; exact v1, v2.x kk hn (fv v (by omega) (by omega)), by rw [e.1]; exact v3, v4.g e, v5⟩
theorem QH.x {w w' : Nat} (h : QH K Q n w) (kk : ∀ a, a < n → K' a = K a) (hn : n ≤ n') (f3 : ∀ x, 0 ≤ x → x < 8 → Q' (w' + 3) x = Q (w + 3) x ∨ ∃ b q, Q' (w' + 3) x = some b ∧ b < n' ∧ K' b = (kC q, 4)) (f2 : ∀ x, 0 ≤ x → x < 5 → Q' (w' + 2) x = Q (w + 2) x ∨ ∃ b, Q' (w' + 2) x = some b ∧ b < n' ∧ K' b = (9, 12)) : QH K' Q' n' w' := by
  refine ⟨fun x x1 x2 b hb => ?_, fun x x1 x2 b hb => ?_⟩
  · rcases f3 x x1 x2 with e | ⟨c, q, e, e1, e2⟩
    · rw [e] at hb
      obtain ⟨g1, q, g2⟩ := h.1 x x1 x2 b hb
      exact ⟨by omega, q, by rw [kk b g1]; exact g2⟩
    · rw [e] at hb
      cases hb
      exact ⟨e1, q, e2⟩
  · rcases f2 x x1 x2 with e | ⟨c, e, e1, e2⟩
    · rw [e] at hb
      obtain ⟨g1, g2⟩ := h.2 x x1 x2 b hb
      exact ⟨by omega, by rw [kk b g1]; exact g2⟩
    · rw [e] at hb
      cases hb
      exact ⟨e1, e2⟩
theorem WP.sc {w : Nat} (h : WP w K I Q n s) (e0 : s' 0 = s 0) (e : ∀ i, 10 ≤ i → i < 34 → s' i = s i) (b0 : s 0 ≤ 8) : WP w K I Q n s' := by
  intro p p1 p2
  rw [e0] at p2
  rw [e (10 + p) (by omega) (by omega), e (18 + p) (by omega) (by omega), e (26 + p) (by omega) (by omega)]
  exact h p p1 p2
theorem WV.sc {w : Nat} (h : WV w K I Q n s) (e2 : s' 2 = s 2) (e : ∀ x, 0 ≤ x → x < s 2 → s' (274 + x) = s (274 + x) ∧ s' (279 + x) = s (279 + x) ∧ rOut s' x = rOut s x) : WV w K I Q n s' := by
  intro x x1 x2
  rw [e2] at x2
  obtain ⟨v, L, v1, v2, v3, v4, v5⟩ := h x x1 x2
  obtain ⟨g1, g2, g3⟩ := e x x1 x2
  exact ⟨v, L, v1, v2, by rw [g1]; exact v3, v4, by rw [g3]; exact v5⟩
theorem CW.fr {w : Nat} (hS : tSt (K, I, Q, n)) (h : CW w K I Q n s) (hw : w = 1 ∨ w = 14) (f : ∀ b, b < 27 ∨ (63 ≤ b ∧ b ≤ 66) ∨ 78 ≤ b → J b = I b) : CW w K J Q n s := by
  obtain ⟨h1, h2, h3, h4⟩ := h
  refine ⟨h1.fm (fun b b1 b2 => f b (by omega)), h2.x (fun _ _ => rfl) (Nat.le_refl _) (fun a _ a1 _ _ => f a (by omega)) (fun _ _ _ => rfl), h3.x (fun _ _ => rfl) (Nat.le_refl _) (fun x u _ _ _ hu => ?_) (fun _ _ _ => rfl) (fun _ _ _ => rfl), h4⟩
  have hv := hu.pl hS
  exact ⟨f _ (by omega), f _ (by omega), f _ (by omega), f _ (by omega)⟩
/-- the reference's own scratch -/
theorem CInv.r (h : CInv K I Q n) (f : ∀ b, b ≠ 69 → b ≠ 72 → b ≠ 73 → b ≠ 74 → b ≠ 75 → J b = I b) (f3 : J 69 3 = I 69 3) (f19 : J 69 19 = I 69 19) (f16 : -12000000 ≤ J 69 16 ∧ J 69 16 ≤ 12000000) : CInv K J Q n := by
  obtain ⟨hS, h1, h2, h3, h4, ⟨h5, h6⟩, ⟨T, t1, t2, t3, t4, t5⟩, h8⟩ := h
  have e : ∀ b, b < 27 ∨ (63 ≤ b ∧ b ≤ 66) ∨ 78 ≤ b → J b = I b := fun b hb => f b (by omega) (by omega) (by omega) (by omega) (by omega)
  have e0 : J 0 = I 0 := e 0 (by omega)
  have e70 : J 70 = I 70 := f 70 (by decide) (by decide) (by decide) (by decide) (by decide)
  have e71 : J 71 = I 71 := f 71 (by decide) (by decide) (by decide) (by decide) (by decide)
  refine ⟨hS.i, by rw [e70]; exact h1.fr hS (Or.inl rfl) e, h2, ?_, h4, ?_, ⟨T, t1, t2, ?_, ?_, ?_⟩, f16⟩
  · rw [f 57 (by decide) (by decide) (by decide) (by decide) (by decide), f 59 (by decide) (by decide) (by decide) (by decide) (by decide)]
    exact h3
  · rw [e0, f3, e71]
    refine ⟨h5, ?_⟩
    rcases h6 with h6 | ⟨h6, h7⟩
    · exact Or.inl h6
    · exact Or.inr ⟨h6, h7.fr hS (Or.inr rfl) e⟩
  · rw [f 61 (by decide) (by decide) (by decide) (by decide) (by decide)]
    exact t3
  · rw [f19]
    exact t4
  · rw [f 62 (by decide) (by decide) (by decide) (by decide) (by decide), f 76 (by decide) (by decide) (by decide) (by decide) (by decide)]
    exact t5
theorem CInv.rq (h : CInv K I Q n) (f : rq I J) : CInv K J Q n := h.r (fun b b1 b2 b3 _ _ => f.1 b b1 b2 b3) (f.2 3 (by decide) (by decide) (by decide)) (f.2 19 (by decide) (by decide) (by decide)) (by rw [f.2 16 (by decide) (by decide) (by decide)]; exact h.2.2.2.2.2.2.2)
theorem cg.a76 (g : cg K I J) (hS : tSt (K, I, Q, n)) : J 76 = I 76 := by
  have e : K 76 = shp 76 := hS.1 76 (by decide)
  exact g.1 76 (by decide) (by rw [e]; decide) (by rw [e]; decide)
/-- a question's -/
theorem CInv.g (h : CInv K I Q n) (g : cg K I J) (gq : qg Q Q') (hS' : tSt (K, J, Q', n)) : CInv K J Q' n := by
  obtain ⟨hS, ⟨a1, a2, a3, a4⟩, ⟨b1, b2⟩, h3, ⟨v, v1, v2, v3⟩, ⟨h5, h6⟩, ⟨T, t1, t2, t3, t4, t5⟩, h8⟩ := h
  have e0 : J 0 = I 0 := g.at hS (by omega)
  have e70 : J 70 = I 70 := g.at hS (by omega)
  have e71 : J 71 = I 71 := g.at hS (by omega)
  have e69 : J 69 = I 69 := g.at hS (by omega)
  have q3 : Q' 3 = Q 3 := gq 3 (by omega)
  have q4 : Q' 4 = Q 4 := gq 4 (by omega)
  have q16 : Q' 16 = Q 16 := gq 16 (by omega)
  have q17 : Q' 17 = Q 17 := gq 17 (by omega)
  have q0 : Q' 0 = Q 0 := gq 0 (by omega)
  refine ⟨hS', ⟨by rw [e70]; exact a1.g1 hS g, by rw [e70]; exact a2.g1 g gq, by rw [e70]; exact a3.g1 g gq, by rw [e70]; exact a4⟩, ⟨b1.x (fun _ _ => rfl) (Nat.le_refl _) (fun x _ _ => Or.inl (congrFun q4 x)) (fun x _ _ => Or.inl (congrFun q3 x)), b2.x (fun _ _ => rfl) (Nat.le_refl _) (fun x _ _ => Or.inl (congrFun q17 x)) (fun x _ _ => Or.inl (congrFun q16 x))⟩, ?_, ⟨v, by rw [q0]; exact v1, v2.qg gq, fun x x1 x2 => by rw [q3, q16]; exact v3 x x1 x2⟩, ?_, ⟨T, t1, t2, ?_, ?_, ?_⟩, by rw [e69]; exact h8⟩
  · rw [g.2.1, g.2.2]
    exact h3
  · rw [e0, e69, e71]
    refine ⟨h5, ?_⟩
    rcases h6 with h6 | ⟨h6, w1, w2, w3, w4⟩
    · exact Or.inl h6
    · exact Or.inr ⟨h6, w1.g14 hS g, w2.g14 g gq, w3.g14 g gq, w4⟩
  · rw [g.at hS (b := 61) (by omega)]
    exact t3
  · rw [e69]
    exact t4
  · rw [g.at hS (b := 62) (by omega), g.a76 hS]
    exact t5
/-- which of the reference's numbers a command leaves -/
def rsk (s s' : Int → Int) : Prop := s' 0 = s 0 ∧ s' 2 = s 2 ∧ ∀ i, (10 ≤ i ∧ i < 34) ∨ 274 ≤ i → s' i = s i
theorem rsk.rf : rsk s s := ⟨rfl, rfl, fun _ _ => rfl⟩
theorem rsk.up {i x : Int} (h : rsk s s') (hi : i ≠ 0 ∧ i ≠ 2 ∧ ¬ (10 ≤ i ∧ i < 34) ∧ i < 274) : rsk s (up s' i x) :=
  ⟨by rw [up_ne _ _ (by omega)]; exact h.1, by rw [up_ne _ _ (by omega)]; exact h.2.1, fun j hj => by rw [up_ne _ _ (by omega)]; exact h.2.2 j hj⟩
theorem rOut_eq {x : Int} (e1 : s' (279 + x) = s (279 + x)) (e2 : ∀ i : Nat, i < (s (279 + x)).toNat → s' (284 + 140 * x + (i : Int)) = s (284 + 140 * x + (i : Int))) : rOut s' x = rOut s x := by
  unfold rOut
  rw [e1]
  apply List.map_congr_left
  intro i hi
  exact e2 i (List.mem_range.mp hi)
/-- a command's -/
theorem CInv.cm (h : CInv K I Q n) (hN : WN 1 J s') (hw : wo I J) (hk : rsk (I 70) s') (hR : RAll s') : CInv K (setA J 70 s') Q n := by
  obtain ⟨hS, ⟨a1, a2, a3, a4⟩, h2, h3, h4, ⟨h5, h6⟩, ⟨T, t1, t2, t3, t4, t5⟩, h8⟩ := h
  have e : ∀ b, b ≠ 70 → (b < 1 ∨ 13 < b) → setA J 70 s' b = I b := fun b b1 b2 => by rw [setA_ne _ _ b1]; exact hw b b2
  have e70 : setA J 70 s' 70 = s' := setA_at _ _ _
  have e0 := e 0 (by decide) (by decide)
  have e69 := e 69 (by decide) (by decide)
  have b0 := a4.1.1
  have w1 : WP 1 K (setA J 70 s') Q n s' := (a2.x (fun _ _ => rfl) (Nat.le_refl _) (fun a _ g1 _ _ => e a (by omega) (by omega)) (fun _ _ _ => rfl)).sc hk.1 (fun i i1 i2 => hk.2.2 i (by omega)) (by omega)
  have w2 : WV 1 K (setA J 70 s') Q n s' := (a3.x (fun _ _ => rfl) (Nat.le_refl _) (fun x u _ _ _ hu => by have hv := hu.pl hS; exact ⟨e _ (by omega) (by omega), e _ (by omega) (by omega), e _ (by omega) (by omega), e _ (by omega) (by omega)⟩) (fun _ _ _ => rfl) (fun _ _ _ => rfl)).sc hk.2.1 (fun x x1 x2 => ⟨hk.2.2 _ (by omega), hk.2.2 _ (by omega), rOut_eq (hk.2.2 _ (by omega)) (fun i _ => hk.2.2 _ (by omega))⟩)
  refine ⟨hS.i, ⟨by rw [e70]; exact hN.fm (fun b b1 b2 => setA_ne _ _ (by omega)), by rw [e70]; exact w1, by rw [e70]; exact w2, by rw [e70]; exact hR⟩, h2, ?_, h4, ?_, ⟨T, t1, t2, ?_, ?_, ?_⟩, by rw [e69]; exact h8⟩
  · rw [e 57 (by decide) (by decide), e 59 (by decide) (by decide)]
    exact h3
  · rw [e0, e69, e 71 (by decide) (by decide)]
    refine ⟨h5, ?_⟩
    rcases h6 with h6 | ⟨h6, w1, w2, w3, w4⟩
    · exact Or.inl h6
    · refine Or.inr ⟨h6, w1.fm (fun b b1 b2 => e b (by omega) (by omega)), w2.x (fun _ _ => rfl) (Nat.le_refl _) (fun a _ g1 _ _ => e a (by omega) (by omega)) (fun _ _ _ => rfl), w3.x (fun _ _ => rfl) (Nat.le_refl _) (fun x u _ _ _ hu => ?_) (fun _ _ _ => rfl) (fun _ _ _ => rfl), w4⟩
      have hv := hu.pl hS
      exact ⟨e _ (by omega) (by omega), e _ (by omega) (by omega), e _ (by omega) (by omega), e _ (by omega) (by omega)⟩
  · rw [e 61 (by decide) (by decide)]
    exact t3
  · rw [e69]
    exact t4
  · rw [e 62 (by decide) (by decide), e 76 (by decide) (by decide)]
    exact t5
end CI1
/-- one call of the script: the class's, then the reference's: the same answer -/
def zOp (l : Launch) (G : tG) (M1 M2 : tM) (as : List tV) (f : Int → tV) (h : tH) : Prop :=
  ∃ (d1 mc1 ms1 : Nat) (P1 : Option tV → tH → Prop), tw_M l G d1 mc1 ms1 M1 (vr (some 0) :: as) h P1 ∧ (d1 ≤ 1000 ∧ mc1 ≤ 7 ∧ ms1 ≤ 250) ∧ ∀ r h1, P1 r h1 → tSt h1 ∧ ∃ x, r = some (f x) ∧ ∃ (d2 : Nat) (P2 : Option tV → tH → Prop), tw_M l G d2 0 0 M2 (vr (some 69) :: as) h1 P2 ∧ d2 ≤ 1000 ∧ ∀ r2 h2, P2 r2 h2 → r2 = some (f x) ∧ CI h2
section ZOP
variable {l : Launch} {G : tG} {M1 M2 : tM} {as : List tV} {K : Nat → Nat × Nat} {I : Nat → Int → Int} {Q : Nat → Int → Option Nat} {n d1 d2 : Nat} {A : Int}
theorem zq (h : CInv K I Q n) (c1 : tw_M l G d1 0 0 M1 (vr (some 0) :: as) (K, I, Q, n) (fun r h' => r = some (vi A) ∧ ∃ J Q', h' = (K, J, Q', n) ∧ cq K I J ∧ (Q' = Q ∨ Q' = uQ Q 40 1 (some 1)))) (b1 : d1 ≤ 1000) {ρ : (Nat → Int → Int) → (Nat → Int → Int) → Prop} (hρ : ∀ J L, ρ J L → rq J L) (c2 : ∀ J Q', tSt (K, J, Q', n) → J 70 = I 70 → tw_M l G d2 0 0 M2 (vr (some 69) :: as) (K, J, Q', n) (fun r h' => r = some (vi A) ∧ ∃ L, h' = (K, L, Q', n) ∧ ρ J L)) (b2 : d2 ≤ 1000) : zOp l G M1 M2 as vi (K, I, Q, n) := by
  refine ⟨d1, 0, 0, _, c1, ⟨b1, by decide, by decide⟩, fun r h1 hp => ?_⟩
  obtain ⟨rfl, J, Q', rfl, hq, hQ⟩ := hp
  have hS := h.1
  have hS' : tSt (K, J, Q', n) := by
    rcases hQ with rfl | rfl
    · exact hS.i
    · exact (hS.q40 _).i
  have gq : qg Q Q' := by
    rcases hQ with rfl | rfl
    · exact qg.rf
    · intro a ha
      show (if a = 40 then _ else Q a) = Q a
      rw [if_neg (by omega)]
  refine ⟨hS', A, rfl, d2, _, c2 J Q' hS' (hq.at hS (by omega)), b2, fun r2 h2 hp => ?_⟩
  obtain ⟨rfl, L, rfl, hL⟩ := hp
  exact ⟨rfl, (h.g hq.g gq hS').rq (hρ J L hL)⟩
theorem zg (h : CInv K I Q n) (c1 : tw_M l G d1 0 0 M1 (vr (some 0) :: as) (K, I, Q, n) (fun r h' => r = some (vi A) ∧ ∃ J Q', h' = (K, J, Q', n) ∧ cg K I J ∧ qg Q Q' ∧ tSt (K, J, Q', n))) (b1 : d1 ≤ 1000) (c2 : ∀ J Q', tSt (K, J, Q', n) → J 70 = I 70 → tw_M l G d2 0 0 M2 (vr (some 69) :: as) (K, J, Q', n) (fun r h' => r = some (vi A) ∧ ∃ L, h' = (K, L, Q', n) ∧ rq J L)) (b2 : d2 ≤ 1000) : zOp l G M1 M2 as vi (K, I, Q, n) := by
  refine ⟨d1, 0, 0, _, c1, ⟨b1, by decide, by decide⟩, fun r h1 hp => ?_⟩
  obtain ⟨rfl, J, Q', rfl, hq, gq, hS'⟩ := hp
  have hS := h.1
  refine ⟨hS', A, rfl, d2, _, c2 J Q' hS' (hq.at hS (by omega)), b2, fun r2 h2 hp => ?_⟩
  obtain ⟨rfl, L, rfl, hL⟩ := hp
  exact ⟨rfl, (h.g hq gq hS').rq hL⟩
theorem zf {f : Int → tV} (h : CInv K I Q n) (c1 : tw_F l G d1 0 0 M1 (vr (some 0) :: as) (K, I, Q, n) (some (f A)) (K, I, Q, n)) (b1 : d1 ≤ 1000) (c2 : tw_F l G d2 0 0 M2 (vr (some 69) :: as) (K, I, Q, n) (some (f A)) (K, I, Q, n)) (b2 : d2 ≤ 1000) : zOp l G M1 M2 as f (K, I, Q, n) := by
  refine ⟨d1, 0, 0, _, c1, ⟨b1, by decide, by decide⟩, fun r h1 hp => ?_⟩
  obtain ⟨rfl, rfl⟩ := hp
  refine ⟨h.1, A, rfl, d2, _, c2, b2, fun r2 h2 hp => ?_⟩
  obtain ⟨rfl, rfl⟩ := hp
  exact ⟨rfl, h⟩
theorem zc {A : Int × (Int → Int)} (h : CInv K I Q n) (c1 : tw_M l G d1 0 0 M1 (vr (some 0) :: as) (K, I, Q, n) (fun r h' => r = some (vi A.1) ∧ ∃ J, h' = (K, J, Q, n) ∧ WN 1 J A.2 ∧ wo I J)) (b1 : d1 ≤ 1000) (c2 : ∀ J, tSt (K, J, Q, n) → J 70 = I 70 → tw_F l G d2 0 0 M2 (vr (some 69) :: as) (K, J, Q, n) (some (vi A.1)) (K, setA J 70 A.2, Q, n)) (b2 : d2 ≤ 1000) (hk : rsk (I 70) A.2) (hR : RAll A.2) : zOp l G M1 M2 as vi (K, I, Q, n) := by
  refine ⟨d1, 0, 0, _, c1, ⟨b1, by decide, by decide⟩, fun r h1 hp => ?_⟩
  obtain ⟨rfl, J, rfl, hN, hw⟩ := hp
  refine ⟨h.1.i, A.1, rfl, d2, _, c2 J h.1.i (hw 70 (by decide)), b2, fun r2 h2 hp => ?_⟩
  obtain ⟨rfl, rfl⟩ := hp
  exact ⟨rfl, h.cm hN hw hk hR⟩
end ZOP
