/-! sets of pairs: the reference goes through them tool by tool, the class by their places -/
abbrev tY : Type := Int × Int × Int × Int
def yInc (s : Int → Int) (u : Int) (y : tY) (t : Nat) : tY := (bOr y.1 (bShl 1 (t : Int)), bOr (bOr y.2.1 (bShl 1 (s (84 + (t : Int))))) (bShl 1 (s (84 + s (94 + (t : Int))))), y.2.2.1 + rWorth s (t : Int) u, y.2.2.2 + 1)
def lst (s : Int → Int) (u : Int) : List Nat → tY → List tY
  | [], y => [y]
  | t :: r, y => lst s u r y ++ (if rCanP s (t : Int) u y.2.1 then lst s u r (yInc s u y t) else [])
def rP (s : Int → Int) (u : Int) : List Nat → tY → Int × Int × Int → Int × Int × Int
  | [], y, M => (if y.2.2.1 > M.1 ∨ (y.2.2.1 = M.1 ∧ y.1 < M.2.1) then y.2.2.1 else M.1, if y.2.2.1 > M.1 ∨ (y.2.2.1 = M.1 ∧ y.1 < M.2.1) then y.1 else M.2.1, if y.2.2.2 > M.2.2 then y.2.2.2 else M.2.2)
  | t :: r, y, M => if rCanP s (t : Int) u y.2.1 then rP s u r (yInc s u y t) (rP s u r y M) else rP s u r y M
theorem rSets_P {s : Int → Int} {u : Int} (hR : RInv s) : ∀ (k t : Nat) (y : tY) (M : Int × Int × Int), t + k ≤ (s 1).toNat → rSets s u k t y.1 y.2.1 y.2.2.1 y.2.2.2 M = rP s u (prsN s k t) y M
  | 0, _, _, _, _ => rfl
  | k + 1, t, y, M, h => by
    have w := hR.2.2.2.2.2.2.2.2.2.1 (t : Int) (by omega) (by omega)
    have e1 := rSets_P (u := u) hR k (t + 1) y M (by omega)
    rw [rSets, prsN]
    by_cases g : (t : Int) < s (94 + (t : Int))
    · rw [if_pos g, rP]
      by_cases c : rCanP s (t : Int) u y.2.1
      · rw [if_pos c, if_pos c, e1]
        exact rSets_P hR k (t + 1) (yInc s u y t) _ (by omega)
      · rw [if_neg c, if_neg c, e1]
    · rw [if_neg g, if_neg (fun c => by have := c.1.1; omega), e1]
theorem lst_self {s : Int → Int} {u : Int} : ∀ (L : List Nat) (y : tY), y ∈ lst s u L y
  | [], y => List.mem_singleton.mpr rfl
  | t :: r, y => List.mem_append.mpr (Or.inl (lst_self r y))
def rBs (s : Int → Int) (u : Int) (L : List Nat) (y : tY) (M N : Int × Int × Int) : Prop :=
  ((N.1 = M.1 ∧ N.2.1 = M.2.1) ∨ ∃ z ∈ lst s u L y, z.2.2.1 = N.1 ∧ z.1 = N.2.1) ∧ (M.1 < N.1 ∨ (M.1 = N.1 ∧ N.2.1 ≤ M.2.1)) ∧ (∀ z ∈ lst s u L y, z.2.2.1 < N.1 ∨ (z.2.2.1 = N.1 ∧ N.2.1 ≤ z.1)) ∧ (N.2.2 = M.2.2 ∨ ∃ z ∈ lst s u L y, z.2.2.2 = N.2.2) ∧ M.2.2 ≤ N.2.2 ∧ (∀ z ∈ lst s u L y, z.2.2.2 ≤ N.2.2)
theorem rP_best {s : Int → Int} {u : Int} : ∀ (L : List Nat) (y : tY) (M : Int × Int × Int), rBs s u L y M (rP s u L y M)
  | [], y, M => by
    unfold rBs
    simp only [rP, lst, List.mem_singleton, exists_eq_left, forall_eq]
    refine ⟨?_, ?_, ?_, ?_, ?_, ?_⟩ <;> (repeat' split) <;> omega
  | t :: r, y, M => by
    have h1 := rP_best (s := s) (u := u) r y M
    rw [rP]
    by_cases c : rCanP s (t : Int) u y.2.1
    · rw [if_pos c]
      have h2 := rP_best (s := s) (u := u) r (yInc s u y t) (rP s u r y M)
      generalize rP s u r y M = N at h1 h2
      generalize rP s u r (yInc s u y t) N = N2 at h2
      obtain ⟨a1, a2, a3, a4, a5, a6⟩ := h1
      obtain ⟨b1, b2, b3, b4, b5, b6⟩ := h2
      have em : ∀ z, z ∈ lst s u (t :: r) y ↔ (z ∈ lst s u r y ∨ z ∈ lst s u r (yInc s u y t)) := fun z => by rw [lst, if_pos c, List.mem_append]
      refine ⟨?_, by clear a1 a4 b1 b4; omega, ?_, ?_, by clear a1 a4 b1 b4; omega, ?_⟩
      · rcases b1 with b1 | ⟨z, z1, z2⟩
        · rcases a1 with a1 | ⟨z, z1, z2⟩
          · exact Or.inl ⟨b1.1.trans a1.1, b1.2.trans a1.2⟩
          · exact Or.inr ⟨z, (em z).mpr (Or.inl z1), z2.1.trans b1.1.symm, z2.2.trans b1.2.symm⟩
        · exact Or.inr ⟨z, (em z).mpr (Or.inr z1), z2⟩
      · intro z hz
        rcases (em z).mp hz with q | q
        · have := a3 z q; clear a1 a4 b1 b4; omega
        · exact b3 z q
      · rcases b4 with b4 | ⟨z, z1, z2⟩
        · rcases a4 with a4 | ⟨z, z1, z2⟩
          · exact Or.inl (b4.trans a4)
          · exact Or.inr ⟨z, (em z).mpr (Or.inl z1), z2.trans b4.symm⟩
        · exact Or.inr ⟨z, (em z).mpr (Or.inr z1), z2⟩
      · intro z hz
        rcases (em z).mp hz with q | q
        · have := a6 z q; clear a1 a4 b1 b4; omega
        · exact b6 z q
    · rw [if_neg c]
      have em : lst s u (t :: r) y = lst s u r y := by rw [lst, if_neg c, List.append_nil]
      unfold rBs
      rw [em]
      exact h1
abbrev y0 : tY := (0, 0, 0, 0)
/-- the most of an hour, by all sets -/
theorem rMost_ch {s : Int → Int} {u : Int} (hR : RInv s) : (∃ z ∈ lst s u (prs s) y0, z.2.2.1 = (rMost s u).1 ∧ z.1 = (rMost s u).2.1) ∧ (∀ z ∈ lst s u (prs s) y0, z.2.2.1 < (rMost s u).1 ∨ (z.2.2.1 = (rMost s u).1 ∧ (rMost s u).2.1 ≤ z.1)) ∧ (∃ z ∈ lst s u (prs s) y0, z.2.2.2 = (rMost s u).2.2) ∧ (∀ z ∈ lst s u (prs s) y0, z.2.2.2 ≤ (rMost s u).2.2) := by
  have e : rMost s u = rP s u (prs s) y0 (0, 0, 0) := rSets_P hR (s 1).toNat 0 y0 (0, 0, 0) (by omega)
  have h := rP_best (s := s) (u := u) (prs s) y0 (0, 0, 0)
  rw [← e] at h
  obtain ⟨a1, -, a3, a4, -, a6⟩ := h
  refine ⟨?_, a3, ?_, a6⟩
  · rcases a1 with a1 | a1
    · exact ⟨y0, lst_self _ _, a1.1.symm, a1.2.symm⟩
    · exact a1
  · rcases a4 with a4 | a4
    · exact ⟨y0, lst_self _ _, a4.symm⟩
    · exact a4
theorem rMost_0 {s : Int → Int} {u : Int} (hR : RInv s) : 0 ≤ (rMost s u).1 := by
  have h := (rMost_ch (u := u) hR).2.1 y0 (lst_self _ _)
  have e : (y0 : tY).2.2.1 = 0 := rfl
  omega
theorem lst_snoc {s : Int → Int} {u : Int} {t : Nat} : ∀ (L : List Nat) (y z : tY), z ∈ lst s u (L ++ [t]) y ↔ (z ∈ lst s u L y ∨ ∃ x ∈ lst s u L y, rCanP s (t : Int) u x.2.1 ∧ z = yInc s u x t)
  | [], y, z => by
    simp only [List.nil_append, lst, List.mem_append, List.mem_singleton, exists_eq_left]
    by_cases c : rCanP s (t : Int) u y.2.1
    · rw [if_pos c, List.mem_singleton]
      exact ⟨fun h => h.elim Or.inl (fun q => Or.inr ⟨c, q⟩), fun h => h.elim Or.inl (fun q => Or.inr q.2)⟩
    · rw [if_neg c]
      exact ⟨fun h => h.elim Or.inl (fun q => by cases q), fun h => h.elim Or.inl (fun q => absurd q.1 c)⟩
  | a :: L, y, z => by
    have e : a :: L ++ [t] = a :: (L ++ [t]) := rfl
    rw [e, lst, List.mem_append, lst_snoc L y z]
    have em : ∀ x, x ∈ lst s u (a :: L) y ↔ (x ∈ lst s u L y ∨ x ∈ (if rCanP s (a : Int) u y.2.1 then lst s u L (yInc s u y a) else [])) := fun x => by rw [lst, List.mem_append]
    by_cases c : rCanP s (a : Int) u y.2.1
    · rw [if_pos c] at em ⊢
      rw [lst_snoc L (yInc s u y a) z]
      constructor
      · rintro ((h | ⟨x, h1, h2⟩) | (h | ⟨x, h1, h2⟩))
        · exact Or.inl ((em z).mpr (Or.inl h))
        · exact Or.inr ⟨x, (em x).mpr (Or.inl h1), h2⟩
        · exact Or.inl ((em z).mpr (Or.inr h))
        · exact Or.inr ⟨x, (em x).mpr (Or.inr h1), h2⟩
      · rintro (h | ⟨x, h1, h2⟩)
        · exact ((em z).mp h).elim (fun q => Or.inl (Or.inl q)) (fun q => Or.inr (Or.inl q))
        · exact ((em x).mp h1).elim (fun q => Or.inl (Or.inr ⟨x, q, h2⟩)) (fun q => Or.inr (Or.inr ⟨x, q, h2⟩))
    · rw [if_neg c] at em ⊢
      constructor
      · rintro ((h | ⟨x, h1, h2⟩) | h)
        · exact Or.inl ((em z).mpr (Or.inl h))
        · exact Or.inr ⟨x, (em x).mpr (Or.inl h1), h2⟩
        · cases h
      · rintro (h | ⟨x, h1, h2⟩)
        · exact Or.inl (Or.inl (((em z).mp h).elim id (fun q => by cases q)))
        · exact Or.inl (Or.inr ⟨x, ((em x).mp h1).elim id (fun q => by cases q), h2⟩)
/-- a set by its places -/
def SI (s : Int → Int) (u : Int) (L : List Nat) : Nat → Nat → tY
  | 0, _ => y0
  | i + 1, x => if x < 2 ^ i then SI s u L i x else yInc s u (SI s u L i (x - 2 ^ i)) (L.getD i 0)
theorem SI_lo {s : Int → Int} {u : Int} {L : List Nat} {i x : Nat} (h : x < 2 ^ i) : SI s u L (i + 1) x = SI s u L i x := by rw [SI, if_pos h]
theorem SI_hi {s : Int → Int} {u : Int} {L : List Nat} {i r : Nat} : SI s u L (i + 1) (r + 2 ^ i) = yInc s u (SI s u L i r) (L.getD i 0) := by
  rw [SI, if_neg (by omega), show r + 2 ^ i - 2 ^ i = r by omega]
theorem SI_st {s : Int → Int} {u : Int} {L : List Nat} {i x : Nat} (h : x < 2 ^ i) : ∀ k : Nat, SI s u L (i + k) x = SI s u L i x
  | 0 => rfl
  | k + 1 => by
    rw [show i + (k + 1) = (i + k) + 1 by omega, SI_lo, SI_st h k]
    exact Nat.lt_of_lt_of_le h (Nat.pow_le_pow_right (by decide) (by omega))
/-- the holders of a pair; its hours -/
def pHd (s : Int → Int) (t : Nat) : Int := bOr (bShl 1 (s (84 + (t : Int)))) (bShl 1 (s (84 + s (94 + (t : Int)))))
abbrev pCan (s : Int → Int) (t u : Int) : Prop := (s (104 + t) ≠ 1 ∧ s (104 + s (94 + t)) ≠ 1) ∧ s (84 + t) ≠ s (84 + s (94 + t)) ∧ rFreeP s (s (84 + t)) u ∧ rFreeP s (s (84 + s (94 + t))) u
/-- the plan's sets -/
def PT (I : Nat → Int → Int) (s : Int → Int) : Prop := PR I s ∧ (∀ i : Nat, i < (prs s).length → I 55 (i : Int) = pHd s ((prs s).getD i 0) ∧ ∀ u : Nat, u < 24 → (ib (I 56 (i : Int)) u = true ↔ pCan s (((prs s).getD i 0 : Nat) : Int) (u : Int))) ∧ I 57 0 = 0 ∧ I 58 0 = 16777215 ∧ ∀ i : Nat, i < (prs s).length → ∀ r : Nat, r < 2 ^ i → I 57 ((r + 2 ^ i : Nat) : Int) = bOr (I 57 (r : Int)) (I 55 (i : Int)) ∧ I 58 ((r + 2 ^ i : Nat) : Int) = (if bAnd (I 57 (r : Int)) (I 55 (i : Int)) ≠ 0 then 0 else bAnd (I 58 (r : Int)) (I 56 (i : Int)))
theorem bOr_as (a b c : Int) : bOr (bOr a b) c = bOr a (bOr b c) := ib_ext (tr_toInt _) (tr_toInt _) (fun i _ => by simp only [ib_or, Bool.or_assoc])
theorem and_two {x : Int} {a b : Nat} (ha : a < 32) (hb : b < 32) : bAnd x (bOr (bShl 1 (a : Int)) (bShl 1 (b : Int))) = 0 ↔ (bAnd (bShr x (a : Int)) 1 = 0 ∧ bAnd (bShr x (b : Int)) 1 = 0) := by
  have e : ∀ j : Nat, j < 32 → (bAnd (bShr x (j : Int)) 1 = 0 ↔ ib x j = false) := fun j hj => by
    rw [ib_bit _ hj]
    by_cases g : ib x j = true
    · simp [g]
    · simp [g]
  rw [e a ha, e b hb]
  constructor
  · intro h
    have a1 : ib (bAnd x (bOr (bShl 1 (a : Int)) (bShl 1 (b : Int)))) a = false := by rw [h, ib_0]
    have a2 : ib (bAnd x (bOr (bShl 1 (a : Int)) (bShl 1 (b : Int)))) b = false := by rw [h, ib_0]
    rw [ib_and, ib_or, ib_shl1 a ha a ha, decide_eq_true rfl, Bool.true_or, Bool.and_true] at a1
    rw [ib_and, ib_or, ib_shl1 b hb b hb, decide_eq_true rfl, Bool.or_true, Bool.and_true] at a2
    exact ⟨a1, a2⟩
  · rintro ⟨h1, h2⟩
    refine ib_ext (tr_toInt _) (by decide) (fun i hi => ?_)
    rw [ib_and, ib_or, ib_shl1 a ha i hi, ib_shl1 b hb i hi, ib_0]
    by_cases e1 : a = i
    · subst e1; rw [h1]; simp
    · by_cases e2 : b = i
      · subst e2; rw [h2]; simp
      · simp [e1, e2]
theorem ib_all : ∀ u, u < 24 → ib 16777215 u = true := by decide +kernel
theorem SI_mem {s : Int → Int} {I : Nat → Int → Int} {u : Nat} (hR : RInv s) (hT : PT I s) (hu : u < 24) : ∀ i : Nat, i ≤ (prs s).length → (∀ x : Nat, x < 2 ^ i → (SI s u (prs s) i x).2.1 = I 57 (x : Int)) ∧ ∀ z, z ∈ lst s (u : Int) ((prs s).take i) y0 ↔ ∃ x : Nat, x < 2 ^ i ∧ ib (I 58 (x : Int)) u = true ∧ SI s u (prs s) i x = z
  | 0, _ => by
    obtain ⟨-, -, h57, h58, -⟩ := hT
    refine ⟨fun x hx => ?_, fun z => ?_⟩
    · have e : x = 0 := by omega
      subst e
      exact h57.symm
    · rw [List.take_zero, lst, List.mem_singleton]
      constructor
      · rintro rfl
        exact ⟨0, by decide, by rw [show I 58 ((0 : Nat) : Int) = 16777215 from h58]; exact ib_all u hu, rfl⟩
      · rintro ⟨x, x1, x2, x3⟩
        exact x3.symm
  | i + 1, hi => by
    obtain ⟨ih1, ih2⟩ := SI_mem (u := u) hR hT hu i (by omega)
    obtain ⟨⟨-, -, -⟩, hpq, h57, h58, hst⟩ := hT
    have hg := prs_get (s := s) hR.2.1.1 (i := i) (by omega)
    obtain ⟨q1, q2⟩ := hpq i (by omega)
    have w1 := hR.2.2.2.2.2.2.2.2.2.1 (((prs s).getD i 0 : Nat) : Int) (by omega) hg.1
    have w2 := hR.2.2.2.2.2.2.2.2.2.1 (s (94 + (((prs s).getD i 0 : Nat) : Int))) (by omega) (by omega)
    have hs0 := hR.1
    have eH : ∀ r : Nat, r < 2 ^ i → I 57 ((r + 2 ^ i : Nat) : Int) = (yInc s u (SI s u (prs s) i r) ((prs s).getD i 0)).2.1 := fun r hr => by
      rw [(hst i (by omega) r hr).1, q1, ← ih1 r hr]
      exact (bOr_as _ _ _).symm
    have eF : ∀ r : Nat, r < 2 ^ i → (ib (I 58 ((r + 2 ^ i : Nat) : Int)) u = true ↔ (ib (I 58 (r : Int)) u = true ∧ rCanP s (((prs s).getD i 0 : Nat) : Int) (u : Int) (SI s u (prs s) i r).2.1)) := fun r hr => by
      rw [(hst i (by omega) r hr).2, q1, ih1 r hr]
      have ea := and_two (x := I 57 (r : Int)) (a := (s (84 + (((prs s).getD i 0 : Nat) : Int))).toNat) (b := (s (84 + s (94 + (((prs s).getD i 0 : Nat) : Int)))).toNat) (by omega) (by omega)
      rw [show (((s (84 + (((prs s).getD i 0 : Nat) : Int))).toNat : Nat) : Int) = s (84 + (((prs s).getD i 0 : Nat) : Int)) by omega, show (((s (84 + s (94 + (((prs s).getD i 0 : Nat) : Int)))).toNat : Nat) : Int) = s (84 + s (94 + (((prs s).getD i 0 : Nat) : Int))) by omega] at ea
      by_cases c : bAnd (I 57 (r : Int)) (pHd s ((prs s).getD i 0)) = 0
      · rw [if_neg (fun z => z c), ib_and, Bool.and_eq_true, q2 u hu]
        have c2 := ea.mp c
        constructor
        · rintro ⟨y1, ⟨y2, y3, y4, y5⟩⟩; exact ⟨y1, ⟨by omega, y2.1, y2.2⟩, y3, y4, y5, c2.1, c2.2⟩
        · rintro ⟨y1, ⟨y2, y3, y4, y5, y6⟩⟩; exact ⟨y1, ⟨y2.2.1, y2.2.2⟩, y3, y4, y5⟩
      · rw [if_pos c, ib_0]
        constructor
        · intro y; cases y
        · rintro ⟨-, ⟨-, -, -, -, y6, y7⟩⟩
          exact absurd (ea.mpr ⟨y6, y7⟩) c
    have ep : 2 ^ (i + 1) = 2 ^ i + 2 ^ i := by rw [Nat.pow_succ]; omega
    refine ⟨fun x hx => ?_, fun z => ?_⟩
    · by_cases g : x < 2 ^ i
      · rw [SI_lo g]; exact ih1 x g
      · obtain ⟨r, rfl⟩ : ∃ r, x = r + 2 ^ i := ⟨x - 2 ^ i, by omega⟩
        rw [SI_hi, eH r (by omega)]
    · have et : (prs s).take (i + 1) = (prs s).take i ++ [(prs s).getD i 0] := by
        rw [List.take_add_one, List.getD_eq_getElem?_getD, List.getElem?_eq_getElem (by omega)]
        rfl
      rw [et, lst_snoc]
      constructor
      · rintro (h | ⟨y, h1, h2, h3⟩)
        · obtain ⟨x, x1, x2, x3⟩ := (ih2 z).mp h
          exact ⟨x, by omega, x2, by rw [SI_lo x1]; exact x3⟩
        · obtain ⟨x, x1, x2, x3⟩ := (ih2 y).mp h1
          refine ⟨x + 2 ^ i, by omega, (eF x x1).mpr ⟨x2, by rw [x3]; exact h2⟩, ?_⟩
          rw [SI_hi, x3, h3]
      · rintro ⟨x, x1, x2, x3⟩
        by_cases g : x < 2 ^ i
        · exact Or.inl ((ih2 z).mpr ⟨x, g, x2, by rw [SI_lo g] at x3; exact x3⟩)
        · obtain ⟨r, rfl⟩ : ∃ r, x = r + 2 ^ i := ⟨x - 2 ^ i, by omega⟩
          have f2 := (eF r (by omega)).mp x2
          rw [SI_hi] at x3
          exact Or.inr ⟨SI s u (prs s) i r, (ih2 _).mpr ⟨r, by omega, f2.1, rfl⟩, f2.2, x3.symm⟩
/-- a set that can leaves out sets that can -/
theorem SI_sub {s : Int → Int} {I : Nat → Int → Int} {u i r : Nat} (hT : PT I s) (hi : i < (prs s).length) (hr : r < 2 ^ i) (h : ib (I 58 ((r + 2 ^ i : Nat) : Int)) u = true) : ib (I 58 (r : Int)) u = true := by
  rw [(hT.2.2.2.2 i hi r hr).2] at h
  by_cases c : bAnd (I 57 (r : Int)) (I 55 (i : Int)) = 0
  · rw [if_neg (fun z => z c), ib_and, Bool.and_eq_true] at h
    exact h.1
  · rw [if_pos c, ib_0] at h
    cases h
/-- masks rise with the places -/
theorem bOr_pw : ∀ t : Nat, t < 10 → ∀ e : Nat, e < 2 ^ t → bOr (e : Int) (bShl 1 (t : Int)) = ((e + 2 ^ t : Nat) : Int) := by decide +kernel
theorem prsN_up {s : Int → Int} : ∀ (k t i j : Nat), i < j → j < (prsN s k t).length → (prsN s k t).getD i 0 < (prsN s k t).getD j 0
  | 0, t, i, j, _, h => by simp [prsN] at h
  | k + 1, t, i, j, hij, h => by
    rw [prsN] at h ⊢
    by_cases g : (t : Int) < s (94 + (t : Int))
    · rw [if_pos g] at h ⊢
      obtain ⟨j', rfl⟩ : ∃ j', j = j' + 1 := ⟨j - 1, by omega⟩
      rw [List.length_cons] at h
      rw [List.getD_cons_succ]
      rcases i with _ | i'
      · rw [List.getD_cons_zero]
        have hm : (prsN s k (t + 1)).getD j' 0 ∈ prsN s k (t + 1) := by
          rw [List.getD_eq_getElem?_getD, List.getElem?_eq_getElem (by omega)]
          exact List.getElem_mem _
        have := prsN_mem _ _ _ hm
        omega
      · rw [List.getD_cons_succ]
        exact prsN_up k (t + 1) i' j' (by omega) (by omega)
    · rw [if_neg g] at h ⊢
      exact prsN_up k (t + 1) i j hij h
theorem SI_mask {s : Int → Int} {u : Int} (hR : RInv s) : ∀ i : Nat, i ≤ (prs s).length → ∀ x : Nat, x < 2 ^ i → ∃ e : Nat, (SI s u (prs s) i x).1 = (e : Int) ∧ (∀ j, i ≤ j → j < (prs s).length → e < 2 ^ ((prs s).getD j 0)) ∧ e < 1024 ∧ ∀ x' : Nat, x' < x → ∃ e' : Nat, (SI s u (prs s) i x').1 = (e' : Int) ∧ e' < e
  | 0, _, x, hx => ⟨0, rfl, fun j _ _ => Nat.two_pow_pos _, by decide, fun x' h => by omega⟩
  | i + 1, hi, x, hx => by
    have hg := prs_get (s := s) hR.2.1.1 (i := i) (by omega)
    have h10 := hR.2.1.2
    have ht10 : (prs s).getD i 0 < 10 := by omega
    have ep : 2 ^ (i + 1) = 2 ^ i + 2 ^ i := by rw [Nat.pow_succ]; omega
    have hup : ∀ j, i + 1 ≤ j → j < (prs s).length → 2 ^ ((prs s).getD i 0) + 2 ^ ((prs s).getD i 0) ≤ 2 ^ ((prs s).getD j 0) := fun j j1 j2 => by
      have h1 := prsN_up (s := s) (s 1).toNat 0 i j (by omega) j2
      have h2 : 2 ^ ((prs s).getD i 0 + 1) ≤ 2 ^ ((prs s).getD j 0) := Nat.pow_le_pow_right (by decide) h1
      rw [Nat.pow_succ] at h2
      omega
    have h1024 : 2 ^ ((prs s).getD i 0) + 2 ^ ((prs s).getD i 0) ≤ 1024 := by
      have h2 : 2 ^ ((prs s).getD i 0 + 1) ≤ 2 ^ 10 := Nat.pow_le_pow_right (by decide) (by omega)
      rw [Nat.pow_succ] at h2
      omega
    by_cases g : x < 2 ^ i
    · obtain ⟨e, e1, e2, e3, e4⟩ := SI_mask (u := u) hR i (by omega) x g
      refine ⟨e, by rw [SI_lo g]; exact e1, fun j j1 j2 => e2 j (by omega) j2, e3, fun x' hx' => ?_⟩
      rw [SI_lo (by omega)]
      exact e4 x' hx'
    · obtain ⟨r, rfl⟩ : ∃ r, x = r + 2 ^ i := ⟨x - 2 ^ i, by omega⟩
      obtain ⟨e, e1, e2, e3, e4⟩ := SI_mask (u := u) hR i (by omega) r (by omega)
      have ei := e2 i (by omega) (by omega)
      have ev : (SI s u (prs s) (i + 1) (r + 2 ^ i)).1 = ((e + 2 ^ ((prs s).getD i 0) : Nat) : Int) := by
        rw [SI_hi]
        show bOr (SI s u (prs s) i r).1 (bShl 1 (((prs s).getD i 0 : Nat) : Int)) = _
        rw [e1]
        exact bOr_pw _ ht10 e ei
      refine ⟨e + 2 ^ ((prs s).getD i 0), ev, fun j j1 j2 => ?_, by omega, fun x' hx' => ?_⟩
      · have := hup j j1 j2; omega
      · by_cases g2 : x' < 2 ^ i
        · obtain ⟨d, d1, d2, -, -⟩ := SI_mask (u := u) hR i (by omega) x' g2
          have := d2 i (by omega) (by omega)
          exact ⟨d, by rw [SI_lo g2]; exact d1, by omega⟩
        · obtain ⟨r', rfl⟩ : ∃ r', x' = r' + 2 ^ i := ⟨x' - 2 ^ i, by omega⟩
          obtain ⟨d, d1, d2⟩ := e4 r' (by omega)
          refine ⟨d + 2 ^ ((prs s).getD i 0), ?_, by omega⟩
          rw [SI_hi]
          show bOr (SI s u (prs s) i r').1 (bShl 1 (((prs s).getD i 0 : Nat) : Int)) = _
          rw [d1]
          exact bOr_pw _ ht10 d (by omega)
theorem cnt_pw : ∀ i : Nat, i < 5 → ∀ r : Nat, r < 2 ^ i → rCnt ((r + 2 ^ i : Nat) : Int) = rCnt (r : Int) + 1 := by decide +kernel
theorem SI_many {s : Int → Int} {u : Int} {L : List Nat} : ∀ i : Nat, i ≤ 5 → ∀ x : Nat, x < 2 ^ i → (SI s u L i x).2.2.2 = rCnt (x : Int)
  | 0, _, x, hx => by
    have e : x = 0 := by omega
    subst e
    exact (by decide +kernel : (0 : Int) = rCnt ((0 : Nat) : Int))
  | i + 1, hi, x, hx => by
    have ep : 2 ^ (i + 1) = 2 ^ i + 2 ^ i := by rw [Nat.pow_succ]; omega
    by_cases g : x < 2 ^ i
    · rw [SI_lo g]; exact SI_many i (by omega) x g
    · obtain ⟨r, rfl⟩ : ∃ r, x = r + 2 ^ i := ⟨x - 2 ^ i, by omega⟩
      rw [SI_hi, cnt_pw i (by omega) r (by omega), ← SI_many (s := s) (u := u) (L := L) i (by omega) r (by omega)]
      rfl
/-- the worth of a set, as the class keeps it -/
abbrev sW (s : Int → Int) (u : Int) (x : Nat) : Int := (SI s u (prs s) (prs s).length x).2.2.1
theorem SI_len {s : Int → Int} {u : Int} {i x : Nat} (hi : i ≤ (prs s).length) (hx : x < 2 ^ i) : SI s u (prs s) (prs s).length x = SI s u (prs s) i x := by
  obtain ⟨k, hk⟩ : ∃ k, (prs s).length = i + k := ⟨(prs s).length - i, by omega⟩
  rw [hk]
  exact SI_st hx k
theorem sW_hi {s : Int → Int} {u : Int} {i r : Nat} (hi : i < (prs s).length) (hr : r < 2 ^ i) : sW s u (r + 2 ^ i) = sW s u r + rWorth s (((prs s).getD i 0 : Nat) : Int) u := by
  have ep : 2 ^ (i + 1) = 2 ^ i + 2 ^ i := by rw [Nat.pow_succ]; omega
  unfold sW
  rw [SI_len (i := i + 1) (by omega) (by omega), SI_len (i := i) (by omega) hr, SI_hi]
  rfl
theorem sW_0 {s : Int → Int} {u : Int} : sW s u 0 = 0 := by
  unfold sW
  rw [SI_len (i := 0) (by omega) (by decide)]
  rfl
/-- the best set that the class finds is the reference's -/
theorem best_is {s : Int → Int} {I : Nat → Int → Int} {u b : Nat} (hR : RInv s) (hT : PT I s) (hu : u < 24) (hb : b < 2 ^ (prs s).length) (hF : ib (I 58 (b : Int)) u = true) (hm : ∀ x : Nat, x < 2 ^ (prs s).length → ib (I 58 (x : Int)) u = true → sW s u x < sW s u b ∨ (sW s u x = sW s u b ∧ b ≤ x)) : (rMost s u).1 = sW s u b ∧ (rMost s u).2.1 = (SI s u (prs s) (prs s).length b).1 := by
  obtain ⟨⟨z, z1, z2, z3⟩, a2, -, -⟩ := rMost_ch (u := (u : Int)) hR
  have hM := (SI_mem (u := u) hR hT hu (prs s).length (Nat.le_refl _)).2
  rw [List.take_length] at hM
  obtain ⟨x, x1, x2, x3⟩ := (hM z).mp z1
  have c1 := a2 _ ((hM _).mpr ⟨b, hb, hF, rfl⟩)
  have c2 := hm x x1 x2
  have c3 : sW s u x = (rMost s u).1 := by rw [← z2, ← x3]
  have e1 : (rMost s u).1 = sW s u b := by
    have c4 : sW s u b < (rMost s u).1 ∨ sW s u b = (rMost s u).1 := by
      rcases c1 with q | q
      · exact Or.inl q
      · exact Or.inr q.1
    omega
  refine ⟨e1, ?_⟩
  have c5 : (rMost s u).2.1 ≤ (SI s u (prs s) (prs s).length b).1 := by
    rcases c1 with q | q
    · have q2 : sW s u b < (rMost s u).1 := q
      omega
    · exact q.2
  have c6 : b ≤ x := by omega
  obtain ⟨e, d1, -, -, d4⟩ := SI_mask (u := (u : Int)) hR (prs s).length (Nat.le_refl _) x x1
  have c7 : (SI s u (prs s) (prs s).length x).1 = (rMost s u).2.1 := by rw [x3]; exact z3
  rcases (show b < x ∨ b = x by omega) with g | g
  · obtain ⟨e', f1, f2⟩ := d4 b g
    omega
  · subst g
    exact c7.symm
theorem many_is {s : Int → Int} {I : Nat → Int → Int} {u : Nat} {m : Int} (hR : RInv s) (hT : PT I s) (hu : u < 24) (h1 : ∃ x : Nat, x < 2 ^ (prs s).length ∧ ib (I 58 (x : Int)) u = true ∧ rCnt (x : Int) = m) (h2 : ∀ x : Nat, x < 2 ^ (prs s).length → ib (I 58 (x : Int)) u = true → rCnt (x : Int) ≤ m) : (rMost s u).2.2 = m := by
  obtain ⟨-, -, ⟨z, z1, z2⟩, a4⟩ := rMost_ch (u := (u : Int)) hR
  have hM := (SI_mem (u := u) hR hT hu (prs s).length (Nat.le_refl _)).2
  rw [List.take_length] at hM
  have h5 := hT.1.2.1
  obtain ⟨x, x1, x2, x3⟩ := (hM z).mp z1
  obtain ⟨y, k1, k2, k3⟩ := h1
  have c1 := a4 _ ((hM _).mpr ⟨y, k1, k2, rfl⟩)
  rw [SI_many _ h5 y k1] at c1
  have c2 := h2 x x1 x2
  rw [← SI_many (s := s) (u := (u : Int)) (L := prs s) _ h5 x x1, x3] at c2
  omega
