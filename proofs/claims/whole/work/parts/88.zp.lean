section ZP
variable {l : Launch} {G : tG} {K K' : Nat → Nat × Nat} {I L : Nat → Int → Int} {Q R : Nat → Int → Option Nat} {n n' : Nat} {s s' : Int → Int}
theorem zo_image (h : CInv K I Q n) : zOp l G mT_image mR_image [] vi (K, I, Q, n) := by
  obtain ⟨hS, ⟨hN, hP, hW, hR, hV⟩, ⟨hH, hH2⟩, ⟨h57, h59⟩, ⟨v, v1, v2, v3⟩, ⟨h5, h6⟩, ⟨T, t1, t2, t3, t4, t5⟩, h8⟩ := id h
  have b0 := hR.1
  have b2 := hR.2.2.1
  refine ⟨3, 0, 0, _, c_T_image hS hN hH hR, ⟨by decide, by decide, by decide⟩, fun r h1 hp => ?_⟩
  obtain ⟨rfl, J, R, rfl, fc, j1, j2, q1, q2, q3, hS'⟩ := hp
  refine ⟨hS', _, rfl, 1, _, c_R_image (s := I 70) hS' (j1 70 (by decide) (by decide)), by decide, fun r2 h2 hp => ?_⟩
  obtain ⟨rfl, L, rfl, l1, l2, l3, l4⟩ := hp
  have e : ∀ b, b ≠ 0 → b < 14 ∨ 26 < b → b ≠ 69 → b ≠ 71 → L b = I b := fun b b0 b1 b2 b3 => (l4 b b2 b3).trans (j1 b b0 b1)
  have e70 : L 70 = I 70 := e 70 (by decide) (by decide) (by decide) (by decide)
  have ek : ∀ k, k ≠ 3 → L 69 k = I 69 k := fun k hk => by rw [l3 k hk, j1 69 (by decide) (by decide)]
  have q0 : R 0 = Q 0 := q1 0 (by decide) (by decide)
  have r3 : R 3 = Q 3 := q1 3 (by decide) (by decide)
  have r4 : R 4 = Q 4 := q1 4 (by decide) (by decide)
  have fv : ∀ u, 63 ≤ u → u < n → R u = Q u := fun u u1 _ => q1 u (by omega) (by omega)
  have fh : ∀ a k, 78 ≤ a → a < n → K a = (kC k, 4) → L a = I a := fun a _ a1 _ _ => e a (by omega) (by omega) (by omega) (by omega)
  have fa : ∀ x u, 0 ≤ x → x < I 70 2 → Q (1 + 2) x = some u → VS K Q n u → L u = I u ∧ L (u + 1) = I (u + 1) ∧ L (u + 2) = I (u + 2) ∧ L (u + 3) = I (u + 3) := fun x u _ _ _ hu => by
    have hv := hu.pl hS
    exact ⟨e _ (by omega) (by omega) (by omega) (by omega), e _ (by omega) (by omega) (by omega) (by omega), e _ (by omega) (by omega) (by omega) (by omega), e _ (by omega) (by omega) (by omega) (by omega)⟩
  have vv := v2.1
  refine ⟨rfl, hS'.i, ?_, ⟨hH.x (fun _ _ => rfl) (Nat.le_refl _) (fun x _ _ => Or.inl (congrFun r4 x)) (fun x _ _ => Or.inl (congrFun r3 x)), hH.x (w' := 14) (fun _ _ => rfl) (Nat.le_refl _) (fun x x1 x2 => Or.inl (q2 x x1 x2)) (fun x x1 x2 => Or.inl (q3 x x1 x2))⟩, ?_, ⟨v, by show R 0 _ = _; rw [q0]; exact v1, v2.x (fun _ _ => rfl) (Nat.le_refl _) (fv v (by omega) (by omega)), fun x x1 x2 => ?_⟩, ?_, ⟨T, t1, t2, ?_, ?_, ?_⟩, ?_⟩
  · show CW 1 K L R n (L 70)
    rw [e70]
    exact ⟨hN.fm (fun b b1 b2 => e b (by omega) (by omega) (by omega) (by omega)), hP.x (fun _ _ => rfl) (Nat.le_refl _) fh (fun x _ _ => congrFun r4 x), hW.x (fun _ _ => rfl) (Nat.le_refl _) fa fv (fun x _ _ => congrFun r3 x), hR, hV⟩
  · show L 57 0 = 0 ∧ L 59 0 = 0
    rw [e 57 (by decide) (by decide) (by decide) (by decide), e 59 (by decide) (by decide) (by decide) (by decide)]
    exact ⟨h57, h59⟩
  · show R 3 x ≠ some v ∧ R 16 x ≠ some v
    rw [r3, q3 x x1 x2]
    exact ⟨(v3 x x1 x2).1, (v3 x x1 x2).1⟩
  · show L 0 2 = L 69 3 ∧ (L 0 2 = 0 ∨ (L 0 2 = 1 ∧ CW 14 K L R n (L 71)))
    rw [l4 0 (by decide) (by decide), j2, l2, l1]
    exact ⟨rfl, Or.inr ⟨rfl, (fc.wn hN).fm (fun b b1 b2 => l4 b (by omega) (by omega)), hP.x (w' := 14) (fun _ _ => rfl) (Nat.le_refl _) fh (fun x x1 x2 => q2 x x1 (by omega)), hW.x (w' := 14) (fun _ _ => rfl) (Nat.le_refl _) fa fv (fun x x1 x2 => q3 x x1 (by omega)), hR, hV⟩⟩
  · show L 61 1 = _
    rw [e 61 (by decide) (by decide) (by decide) (by decide)]
    exact t3
  · show L 69 19 = _
    rw [ek 19 (by decide)]
    exact t4
  · show ∀ i : Nat, i < T.length → L 62 (i : Int) = T.getD i 0 ∧ L 76 (i : Int) = T.getD i 0
    rw [e 62 (by decide) (by decide) (by decide) (by decide), e 76 (by decide) (by decide) (by decide) (by decide)]
    exact t5
  · show -12000000 ≤ L 69 16 ∧ L 69 16 ≤ 12000000
    rw [ek 16 (by decide)]
    exact h8
theorem zo_undo (h : CInv K I Q n) : zOp l G mT_undo mR_undo [] vi (K, I, Q, n) := by
  obtain ⟨hS, ⟨hN, hP, hW, hR, hV⟩, ⟨hH, hH2⟩, ⟨h57, h59⟩, ⟨v, v1, v2, v3⟩, ⟨h5, h6⟩, ⟨T, t1, t2, t3, t4, t5⟩, h8⟩ := id h
  rcases h6 with h6 | ⟨h6, hN', hP', hW', hR', hV'⟩
  · exact zf h (c_T_undo0 hS h6) (by decide) (c_R_undo0 hS (by rw [← h5]; exact h6)) (by decide)
  have b0 := hR'.1
  have b2 := hR'.2.2.1
  refine ⟨3, 0, 0, _, c_T_undo1 hS hN' hH2 hR' h6, ⟨by decide, by decide, by decide⟩, fun r h1 hp => ?_⟩
  obtain ⟨rfl, J, R, rfl, fc, j1, q1, q2, q3, hS'⟩ := hp
  have j69 : J 69 = I 69 := j1 69 (by decide)
  refine ⟨hS', _, rfl, 1, _, c_R_undo1 (im := I 71) hS' (by rw [j69, ← h5]; exact h6) (j1 71 (by decide)), by decide, fun r2 h2 hp => ?_⟩
  obtain ⟨rfl, L, rfl, l1, l4⟩ := hp
  have e : ∀ b, b < 1 ∨ 13 < b → b ≠ 70 → L b = I b := fun b b1 b2 => (l4 b b2).trans (j1 b b1)
  have e69 : L 69 = I 69 := e 69 (by decide) (by decide)
  have e0 : L 0 = I 0 := e 0 (by decide) (by decide)
  have q0 : R 0 = Q 0 := q1 0 (by decide) (by decide)
  have r16 : R 16 = Q 16 := q1 16 (by decide) (by decide)
  have r17 : R 17 = Q 17 := q1 17 (by decide) (by decide)
  have fv : ∀ u, 63 ≤ u → u < n → R u = Q u := fun u u1 _ => q1 u (by omega) (by omega)
  have fh : ∀ a k, 78 ≤ a → a < n → K a = (kC k, 4) → L a = I a := fun a _ a1 _ _ => e a (by omega) (by omega)
  have fa : ∀ x u, 0 ≤ x → x < I 71 2 → Q (14 + 2) x = some u → VS K Q n u → L u = I u ∧ L (u + 1) = I (u + 1) ∧ L (u + 2) = I (u + 2) ∧ L (u + 3) = I (u + 3) := fun x u _ _ _ hu => by
    have hv := hu.pl hS
    exact ⟨e _ (by omega) (by omega), e _ (by omega) (by omega), e _ (by omega) (by omega), e _ (by omega) (by omega)⟩
  have vv := v2.1
  refine ⟨rfl, hS'.i, ?_, ⟨hH2.x (w' := 1) (fun _ _ => rfl) (Nat.le_refl _) (fun x x1 x2 => Or.inl (q2 x x1 x2)) (fun x x1 x2 => Or.inl (q3 x x1 x2)), hH2.x (fun _ _ => rfl) (Nat.le_refl _) (fun x _ _ => Or.inl (congrFun r17 x)) (fun x _ _ => Or.inl (congrFun r16 x))⟩, ?_, ⟨v, by show R 0 _ = _; rw [q0]; exact v1, v2.x (fun _ _ => rfl) (Nat.le_refl _) (fv v (by omega) (by omega)), fun x x1 x2 => ?_⟩, ?_, ⟨T, t1, t2, ?_, ?_, ?_⟩, ?_⟩
  · show CW 1 K L R n (L 70)
    rw [l1]
    exact ⟨(fc.wn hN').fm (fun b b1 b2 => l4 b (by omega)), hP'.x (w' := 1) (fun _ _ => rfl) (Nat.le_refl _) fh (fun x x1 x2 => q2 x x1 (by omega)), hW'.x (w' := 1) (fun _ _ => rfl) (Nat.le_refl _) fa fv (fun x x1 x2 => q3 x x1 (by omega)), hR', hV'⟩
  · show L 57 0 = 0 ∧ L 59 0 = 0
    rw [e 57 (by decide) (by decide), e 59 (by decide) (by decide)]
    exact ⟨h57, h59⟩
  · show R 3 x ≠ some v ∧ R 16 x ≠ some v
    rw [r16, q3 x x1 x2]
    exact ⟨(v3 x x1 x2).2, (v3 x x1 x2).2⟩
  · show L 0 2 = L 69 3 ∧ (L 0 2 = 0 ∨ (L 0 2 = 1 ∧ CW 14 K L R n (L 71)))
    rw [e0, e69, e 71 (by decide) (by decide)]
    exact ⟨h5, Or.inr ⟨h6, hN'.fm (fun b b1 b2 => e b (by omega) (by omega)), hP'.x (fun _ _ => rfl) (Nat.le_refl _) fh (fun x _ _ => congrFun r17 x), hW'.x (fun _ _ => rfl) (Nat.le_refl _) fa fv (fun x _ _ => congrFun r16 x), hR', hV'⟩⟩
  · show L 61 1 = _
    rw [e 61 (by decide) (by decide)]
    exact t3
  · show L 69 19 = _
    rw [e69]
    exact t4
  · show ∀ i : Nat, i < T.length → L 62 (i : Int) = T.getD i 0 ∧ L 76 (i : Int) = T.getD i 0
    rw [e 62 (by decide) (by decide), e 76 (by decide) (by decide)]
    exact t5
  · show -12000000 ≤ L 69 16 ∧ L 69 16 ≤ 12000000
    rw [e69]
    exact h8
theorem rFill_ne {p : Int} (p1 : 0 ≤ p ∧ p < 8) {i : Int} (hi : i < 42 ∨ 74 ≤ i) : ∀ (k j : Nat) (g : Int → Int), j + k ≤ 4 → rFill p k j g i = g i
  | 0, _, _, _ => rfl
  | k + 1, j, g, hj => by rw [rFill, rFill_ne p1 hi k (j + 1) _ (by omega), up_ne _ _ (by omega)]
theorem zo_person {k v u : Int} (h : CInv K I Q n) (t_k : tr k) (t_v : tr v) (t_u : tr u) : zOp l G mT_person mR_person [vi k, vi v, vi u] vi (K, I, Q, n) := by
  obtain ⟨hS, ⟨hN, hP, hW, hR, hV⟩, ⟨hH, hH2⟩, ⟨h57, h59⟩, ⟨w, v1, v2, v3⟩, ⟨h5, h6⟩, ⟨T, t1, t2, t3, t4, t5⟩, h8⟩ := id h
  have b0 := hR.1
  have b2 := hR.2.2.1
  have n77 : 78 ≤ n := hS.2.1
  by_cases g : 0 ≤ k ∧ k ≤ 6 ∧ 0 ≤ v ∧ v ≤ 9 ∧ 0 ≤ u ∧ u ≤ 3 ∧ I 70 0 < 8
  · refine ⟨6, 1, 4, _, c_T_person1 hS hN hR g, ⟨by decide, by decide, by decide⟩, fun r h1 hp => ?_⟩
    obtain ⟨rfl, J, rfl, jN, jw⟩ := hp
    have k1 : ∀ a, a < n → zK K n (kC k, 4) a = K a := fun a ha => if_neg (by omega)
    have kn : zK K n (kC k, 4) n = (kC k, 4) := if_pos rfl
    obtain ⟨K', hK'⟩ : ∃ K', K' = zK K n (kC k, 4) := ⟨_, rfl⟩
    obtain ⟨R, hRR⟩ : ∃ R, R = uQ (zQ Q n) 4 (I 70 0) (some n) := ⟨_, rfl⟩
    rw [← hK', ← hRR]
    rw [← hK'] at k1 kn
    have r1 : ∀ b, b ≠ 4 → b ≠ n → R b = Q b := fun b c1 c2 => by
      rw [hRR]
      show (if b = 4 then _ else (if b = n then _ else Q b)) = Q b
      rw [if_neg c1, if_neg c2]
    have r4 : ∀ x, R 4 x = if x = I 70 0 then some n else Q 4 x := fun x => by
      rw [hRR]
      show (if x = I 70 0 then some n else (if 4 = n then _ else Q 4) x) = _
      rw [if_neg (show ¬ 4 = n by omega)]
    have i1 : ∀ b, b < 1 ∨ 13 < b → b ≠ n → J b = I b := fun b c1 c2 => by
      rw [jw b c1, uI_off _ _ _ c2, uI_off _ _ _ c2, uI_off _ _ _ c2, uI_off _ _ _ c2]
      exact if_neg c2
    have jn : J n 0 = k ∧ J n 1 = I 70 0 ∧ J n 2 = v ∧ J n 3 = u := by
      rw [jw n (by omega)]
      simp only [uI_at, Int.reduceEq, reduceIte, and_self]
    have hS' : tSt (K', J, R, n + 1) := by
      have e1 : tSt (zK K n (kC k, 4), I, zQ Q n, n + 1) := hS.nw
      rw [← hK'] at e1
      have e2 := e1.qc (b := 4) (by omega) (Q' := R) (fun c hc => by rw [hRR]; show (if c = 4 then _ else zQ Q n c) = zQ Q n c; rw [if_neg hc])
      exact e2.i
    have j70 : J 70 = I 70 := i1 70 (by decide) (by omega)
    have c := c_R_person (l := l) (G := G) hS' (by rw [j70]; exact hR) t_k t_v t_u
    rw [j70] at c
    refine ⟨hS', _, rfl, 2, _, c, by decide, fun r2 h2 hp => ?_⟩
    obtain ⟨rfl, rfl⟩ := hp
    obtain ⟨s', hs'⟩ : ∃ s', s' = (rs_person (I 70) k v u).2 := ⟨_, rfl⟩
    have hR2 : RAll s' := by rw [hs']; exact RAll_person ⟨hR, hV⟩
    rw [← hs'] at jN ⊢
    have es : s' = up (rFill (I 70 0) 4 0 (up (up (up (up (I 70) (10 + I 70 0) k) (18 + I 70 0) v) (26 + I 70 0) u) (34 + I 70 0) 0)) 0 (I 70 0 + 1) := by
      rw [hs']
      unfold rs_person
      rw [if_neg (by omega), if_neg (by omega), if_neg (by omega)]
    have sv : ∀ i, i ≠ 0 → i < 42 ∨ 74 ≤ i → s' i = up (up (up (up (I 70) (10 + I 70 0) k) (18 + I 70 0) v) (26 + I 70 0) u) (34 + I 70 0) 0 i := fun i i0 i1 => by
      rw [es, up_ne _ _ i0, rFill_ne (by omega) i1 4 0 _ (by omega)]
    have s0 : s' 0 = I 70 0 + 1 := by rw [es, up_at]
    have s2 : s' 2 = I 70 2 := by rw [sv 2 (by omega) (by omega), up_ne _ _ (by omega), up_ne _ _ (by omega), up_ne _ _ (by omega), up_ne _ _ (by omega)]
    have sh : ∀ i, 274 ≤ i → s' i = I 70 i := fun i hi => by rw [sv i (by omega) (by omega), up_ne _ _ (by omega), up_ne _ _ (by omega), up_ne _ _ (by omega), up_ne _ _ (by omega)]
    have e : ∀ b, b < 1 ∨ 13 < b → b ≠ n → b ≠ 70 → setA J 70 s' b = I b := fun b c1 c2 c3 => by rw [setA_ne _ _ c3]; exact i1 b c1 c2
    have e70 : setA J 70 s' 70 = s' := setA_at _ _ _
    have e69 := e 69 (by decide) (by omega) (by decide)
    have en : setA J 70 s' n = J n := setA_ne _ _ (by omega)
    have fh : ∀ a k, 78 ≤ a → a < n → K a = (kC k, 4) → setA J 70 s' a = I a := fun a _ a1 a2 _ => e a (by omega) (by omega) (by omega)
    have fa : ∀ (w0 : Nat) (m0 : Int) x u, 0 ≤ x → x < m0 → Q (w0 + 2) x = some u → VS K Q n u → setA J 70 s' u = I u ∧ setA J 70 s' (u + 1) = I (u + 1) ∧ setA J 70 s' (u + 2) = I (u + 2) ∧ setA J 70 s' (u + 3) = I (u + 3) := fun w0 m0 x u _ _ _ hu => by
      have hv := hu.pl hS
      have hu1 := hu.1
      exact ⟨e _ (by omega) (by omega) (by omega), e _ (by omega) (by omega) (by omega), e _ (by omega) (by omega) (by omega), e _ (by omega) (by omega) (by omega)⟩
    have fv : ∀ u, 63 ≤ u → u < n → R u = Q u := fun u u1 u2 => r1 u (by omega) (by omega)
    have vv := v2.1
    refine ⟨rfl, hS'.i, ?_, ⟨hH.x k1 (Nat.le_succ n) (fun x x1 x2 => ?_) (fun x _ _ => Or.inl (congrFun (r1 3 (by decide) (by omega)) x)), hH2.x k1 (Nat.le_succ n) (fun x _ _ => Or.inl (congrFun (r1 17 (by decide) (by omega)) x)) (fun x _ _ => Or.inl (congrFun (r1 16 (by decide) (by omega)) x))⟩, ?_, ⟨w, by show R 0 _ = _; rw [r1 0 (by decide) (by omega)]; exact v1, v2.x k1 (by show n ≤ n + 1; omega) (fv w (by omega) (by omega)), fun x x1 x2 => ?_⟩, ?_, ⟨T, t1, t2, ?_, ?_, ?_⟩, ?_⟩
    · show CW 1 K' (setA J 70 s') R (n + 1) (setA J 70 s' 70)
      rw [e70]
      refine ⟨jN.fm (fun b b1 b2 => setA_ne _ _ (by omega)), fun p p1 p2 => ?_, (hW.x k1 (by omega) (fa 1 _) fv (fun x _ _ => congrFun (r1 3 (by decide) (by omega)) x)).sc s2 (fun x x1 x2 => ⟨sh _ (by omega), sh _ (by omega), rOut_eq (sh _ (by omega)) (fun i _ => sh _ (by omega))⟩), hR2⟩
      by_cases gp : p = I 70 0
      · subst gp
        have z1 : s' (10 + I 70 0) = k := by rw [sv _ (by omega) (by omega), up_ne _ _ (by omega), up_ne _ _ (by omega), up_ne _ _ (by omega), up_at]
        have z2 : s' (18 + I 70 0) = v := by rw [sv _ (by omega) (by omega), up_ne _ _ (by omega), up_ne _ _ (by omega), up_at]
        have z3 : s' (26 + I 70 0) = u := by rw [sv _ (by omega) (by omega), up_ne _ _ (by omega), up_at]
        refine ⟨n, by show R 4 _ = _; rw [r4, if_pos rfl], n77, by omega, ?_, ?_⟩
        · rw [z1]; exact kn
        · rw [z1, z2, z3, en]; exact jn
      · have p3 : p < I 70 0 := by omega
        have z : ∀ i, 10 ≤ i → i < 34 → i ≠ 10 + I 70 0 → i ≠ 18 + I 70 0 → i ≠ 26 + I 70 0 → s' i = I 70 i := fun i a1 a2 a3 a4 a5 => by rw [sv _ (by omega) (by omega), up_ne _ _ (by omega), up_ne _ _ a5, up_ne _ _ a4, up_ne _ _ a3]
        rw [z (10 + p) (by omega) (by omega) (by omega) (by omega) (by omega), z (18 + p) (by omega) (by omega) (by omega) (by omega) (by omega), z (26 + p) (by omega) (by omega) (by omega) (by omega) (by omega)]
        obtain ⟨a, a1, a2, a3, a4, a5⟩ := hP p p1 p3
        exact ⟨a, by show R 4 p = _; rw [r4, if_neg gp]; exact a1, a2, by omega, by rw [k1 a a3]; exact a4, by rw [fh a _ a2 a3 a4]; exact a5⟩
    · by_cases gx : x = I 70 0
      · exact Or.inr ⟨n, k, by show R 4 x = _; rw [r4, if_pos gx], Nat.lt_succ_self n, kn⟩
      · exact Or.inl (by show R 4 x = Q 4 x; rw [r4, if_neg gx])
    · show setA J 70 s' 57 0 = 0 ∧ setA J 70 s' 59 0 = 0
      rw [e 57 (by decide) (by omega) (by decide), e 59 (by decide) (by omega) (by decide)]
      exact ⟨h57, h59⟩
    · show R 3 x ≠ some w ∧ R 16 x ≠ some w
      rw [r1 3 (by decide) (by omega), r1 16 (by decide) (by omega)]
      exact v3 x x1 x2
    · show setA J 70 s' 0 2 = setA J 70 s' 69 3 ∧ (setA J 70 s' 0 2 = 0 ∨ (setA J 70 s' 0 2 = 1 ∧ CW 14 K' (setA J 70 s') R (n + 1) (setA J 70 s' 71)))
      rw [e 0 (by decide) (by omega) (by decide), e69, e 71 (by decide) (by omega) (by decide)]
      refine ⟨h5, ?_⟩
      rcases h6 with h6 | ⟨h6, w1, w2, w3, w4⟩
      · exact Or.inl h6
      · exact Or.inr ⟨h6, w1.fm (fun b b1 b2 => e b (by omega) (by omega) (by omega)), w2.x k1 (by omega) fh (fun x _ _ => congrFun (r1 17 (by decide) (by omega)) x), w3.x k1 (by omega) (fa 14 _) fv (fun x _ _ => congrFun (r1 16 (by decide) (by omega)) x), w4⟩
    · show setA J 70 s' 61 1 = _
      rw [e 61 (by decide) (by omega) (by decide)]
      exact t3
    · show setA J 70 s' 69 19 = _
      rw [e69]
      exact t4
    · show ∀ i : Nat, i < T.length → setA J 70 s' 62 (i : Int) = T.getD i 0 ∧ setA J 70 s' 76 (i : Int) = T.getD i 0
      rw [e 62 (by decide) (by omega) (by decide), e 76 (by decide) (by omega) (by decide)]
      exact t5
    · show -12000000 ≤ setA J 70 s' 69 16 ∧ setA J 70 s' 69 16 ≤ 12000000
      rw [e69]
      exact h8
  · have e : (rs_person (I 70) k v u).2 = I 70 := by
      unfold rs_person
      split
      · rfl
      · split
        · rfl
        · split
          · rfl
          · exfalso; omega
    have c := c_R_person (l := l) (G := G) hS hR t_k t_v t_u
    rw [e, setA_id] at c
    exact zf h (c_T_person hS hN hR t_k t_v t_u g) (by decide) c (by decide)
end ZP
