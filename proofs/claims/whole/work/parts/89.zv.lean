section ZV
variable {l : Launch} {G : tG} {K K' : Nat → Nat × Nat} {I L : Nat → Int → Int} {Q R : Nat → Int → Option Nat} {n n' v : Nat} {s s' : Int → Int}
/-- what a reading leaves of the reference's numbers -/
theorem rVal_k (h : RAll s) (g5 : s 2 < 5) : (rRead s).1.2.2.length ≤ 100 ∧ ∀ j, j ≠ 5 → j ≠ 2 → j ≠ 6 → j ≠ 274 + s 2 → j ≠ 279 + s 2 → ¬ (284 + 140 * s 2 ≤ j ∧ j < 424 + 140 * s 2) → rValS s j = s j := by
  obtain ⟨h0, h1, h2, h3, h4, h5, h6, hp, hrw, ht, hr, hb, htp, hv⟩ := id h.1
  have ha : 0 ≤ s 2 ∧ s 2 < 5 := by omega
  have hB : pB s (s 2) (s 5) := ⟨ha, h5, htp⟩
  have zz : pZ (s 5) (0, false, []) := ⟨Int.le_refl _, h5.1, Int.le_refl _⟩
  obtain ⟨k1, k2, k3⟩ := pVal_ok hB 9 _ ((pCl_ok (x := ((0, false, []), 6)) hB zz).z zz) (pCl_bell (x := ((0, false, []), 6)) hB zz (by decide))
  have hl : (rRead s).1.2.2.length ≤ 100 := by
    have : ((rRead s).1.2.2.length : Int) ≤ (rRead s).1.1 := k1.2.2
    have : (rRead s).1.1 ≤ s 5 := k1.2.1
    omega
  refine ⟨hl, fun j j1 j6 j7 j2 j3 j4 => ?_⟩
  have e : rPut s j = s j := by
    unfold rPut pW
    rw [if_neg j3, if_neg (by omega), up_ne _ _ j2, up_ne _ _ j1]
  unfold rValS
  rw [if_neg (by omega)]
  split
  · exact e
  · rw [up_ne _ _ j7, up_ne _ _ j6]; exact e
theorem CInv.vx (h : CInv K I Q n) (hvs : VS K Q n v) (hne : ∀ x : Int, 0 ≤ x → x < 5 → Q 3 x ≠ some v ∧ Q 16 x ≠ some v) (kk : ∀ a, a < n → K' a = K a) (hn : n ≤ n') (fi : ∀ b, b < n → b ≠ 1 → b ≠ 69 → b ≠ 70 → b ≠ v → b ≠ v + 1 → b ≠ v + 2 → b ≠ v + 3 → b ≠ vX v → L b = I b) (f69 : L 69 3 = I 69 3 ∧ L 69 16 = I 69 16 ∧ L 69 19 = I 69 19) (fq : ∀ b, b < n → b ≠ 0 → b ≠ 3 → R b = Q b) (hS' : tSt (K', L, R, n')) (h70 : L 70 = s') (hN : WN 1 L s') (hR' : RAll s') (hW : WV 1 K' L R n' s') (e0 : s' 0 = I 70 0) (e : ∀ i, 10 ≤ i → i < 34 → s' i = I 70 i) (hH : QH K' R n' 1) (hsp : ∃ v, R 0 ((5 : Nat) : Int) = some v ∧ VS K' R n' v ∧ ∀ x : Int, 0 ≤ x → x < 5 → R 3 x ≠ some v ∧ R 16 x ≠ some v) : CInv K' L R n' := by
  obtain ⟨hS, ⟨aN, aP, aW, aR, aV⟩, ⟨aH, aH2⟩, ⟨h57, h59⟩, -, ⟨h5, h6⟩, ⟨T, t1, t2, t3, t4, t5⟩, h8⟩ := id h
  have n77 : 78 ≤ n := hS.2.1
  have hv := hvs.pl hS
  have hxp := hvs.xp hS
  have b0 := aR.1
  have fh : ∀ a k, 78 ≤ a → a < n → K a = (kC k, 4) → L a = I a := fun a k a1 a2 a3 => by
    have z := hvs.hd a3
    exact fi a a2 (by omega) (by omega) (by omega) (by have := z 0 (by omega); omega) (z 1 (by omega)) (z 2 (by omega)) (z 3 (by omega)) (hvs.xh a3)
  have fa : ∀ u, VS K Q n u → u ≠ v → L u = I u ∧ L (u + 1) = I (u + 1) ∧ L (u + 2) = I (u + 2) ∧ L (u + 3) = I (u + 3) := fun u hu huv => by
    have z := hvs.ap hu huv
    have hp := hu.pl hS
    have hu1 := hu.1
    have f : ∀ j, j ≤ 3 → L (u + j) = I (u + j) := fun j hj => by
      have y0 := z j 0 (by omega) (by omega)
      exact fi (u + j) (by omega) (by omega) (by omega) (by omega) (by omega) (z j 1 (by omega) (by omega)) (z j 2 (by omega) (by omega)) (z j 3 (by omega) (by omega)) (hvs.xa hu j hj)
    exact ⟨f 0 (by omega), f 1 (by omega), f 2 (by omega), f 3 (by omega)⟩
  have fv : ∀ u, 63 ≤ u → u < n → R u = Q u := fun u u1 u2 => fq u u2 (by omega) (by omega)
  have ff : ∀ b, b < 63 → b ≠ 1 → L b = I b := fun b b1 b2 => fi b (by omega) b2 (by omega) (by omega) (by omega) (by omega) (by omega) (by omega) (by omega)
  have f71 : L 71 = I 71 := fi 71 (by omega) (by omega) (by omega) (by omega) (by omega) (by omega) (by omega) (by omega) (by omega)
  have f76 : L 76 = I 76 := fi 76 (by omega) (by omega) (by omega) (by omega) (by omega) (by omega) (by omega) (by omega) (by omega)
  refine ⟨hS', ?_, ⟨hH, aH2.x kk hn (fun x _ _ => Or.inl (congrFun (fq 17 (by omega) (by decide) (by decide)) x)) (fun x _ _ => Or.inl (congrFun (fq 16 (by omega) (by decide) (by decide)) x))⟩, ?_, hsp, ?_, ⟨T, t1, t2, ?_, ?_, ?_⟩, ?_⟩
  · rw [h70]
    exact ⟨hN, (aP.x kk hn fh (fun x _ _ => congrFun (fq 4 (by omega) (by decide) (by decide)) x)).sc e0 e (by omega), hW, hR'⟩
  · rw [ff 57 (by decide) (by decide), ff 59 (by decide) (by decide)]
    exact ⟨h57, h59⟩
  · rw [ff 0 (by decide) (by decide), f69.1, f71]
    refine ⟨h5, ?_⟩
    rcases h6 with h6 | ⟨h6, w1, w2, w3, w4⟩
    · exact Or.inl h6
    · refine Or.inr ⟨h6, w1.fm (fun b b1 b2 => ff b (by omega) (by omega)), w2.x kk hn fh (fun x _ _ => congrFun (fq 17 (by omega) (by decide) (by decide)) x), w3.x kk hn (fun x u x1 x2 hx hu => fa u hu (fun q => ?_)) fv (fun x _ _ => congrFun (fq 16 (by omega) (by decide) (by decide)) x), w4⟩
      subst q
      have b2 := w4.1.2.2.1
      exact (hne x x1 (by omega)).2 hx
  · rw [ff 61 (by decide) (by decide)]
    exact t3
  · rw [f69.2.2]
    exact t4
  · rw [ff 62 (by decide) (by decide), f76]
    exact t5
  · rw [f69.2.1]
    exact h8
theorem zo_valley (h : CInv K I Q n) : zOp l G mT_valley mR_valley [] vi (K, I, Q, n) := by
  obtain ⟨hS, ⟨hN, hP, hW, hR, hV⟩, ⟨hH, hH2⟩, ⟨h57, h59⟩, ⟨v, v1, v2, v3⟩, -, -, h8⟩ := id h
  have n77 : 78 ≤ n := hS.2.1
  have b0 := hR.1
  have b2 := hR.2.2.1
  have hRA : RAll (rValS (I 70)) := RAll_valley ⟨hR, hV⟩
  obtain ⟨-, -, -, -, -, -, -, -, -, -, -, -, -, hvb⟩ := id hR
  by_cases g5 : I 70 2 = 5
  · refine ⟨1, 0, 0, _, c_T_valley0 hS hN g5, ⟨by decide, by decide, by decide⟩, fun r h1 hp => ?_⟩
    obtain ⟨rfl, rfl⟩ := hp
    refine ⟨hS, _, rfl, 30, _, c_R_valley (s := I 70) hS rfl hR, by decide, fun r2 h2 hp => ?_⟩
    obtain ⟨rfl, L, rfl, l1, l2, l3⟩ := hp
    have e : rValS (I 70) = I 70 := by unfold rValS; rw [if_pos g5]
    rw [e] at l1
    refine ⟨rfl, h.r (J := L) (fun b b1 _ _ _ _ => ?_) (l3 3 (by decide) (by decide) (by decide) (by decide) (by decide)) (l3 19 (by decide) (by decide) (by decide) (by decide) (by decide)) (by rw [l3 16 (by decide) (by decide) (by decide) (by decide) (by decide)]; exact h8)⟩
    by_cases g : b = 70
    · subst g; exact l1
    · exact l2 b b1 g
  have g5' : I 70 2 < 5 := by omega
  obtain ⟨hl, hk⟩ := rVal_k ⟨hR, hV⟩ g5'
  have hv := v2.pl hS
  have hxp := v2.xp hS
  have vv := v2.1
  have k0 : rValS (I 70) 0 = I 70 0 := hk 0 (by omega) (by omega) (by omega) (by omega) (by omega) (by omega)
  have k1 : ∀ i, 10 ≤ i → i < 34 → rValS (I 70) i = I 70 i := fun i i1 i2 => hk i (by omega) (by omega) (by omega) (by omega) (by omega) (by omega)
  have k2 : ∀ x, 0 ≤ x → x < I 70 2 → rValS (I 70) (274 + x) = I 70 (274 + x) ∧ rValS (I 70) (279 + x) = I 70 (279 + x) ∧ rOut (rValS (I 70)) x = rOut (I 70) x := fun x x1 x2 => by
    have hb := hvb x x1 (by omega)
    have e1 : rValS (I 70) (279 + x) = I 70 (279 + x) := hk _ (by omega) (by omega) (by omega) (by omega) (by omega) (by omega)
    exact ⟨hk _ (by omega) (by omega) (by omega) (by omega) (by omega) (by omega), e1, rOut_eq e1 (fun i hi => hk _ (by omega) (by omega) (by omega) (by omega) (by omega) (by omega))⟩
  by_cases hb : (rRead (I 70)).1.2.1 = true ∨ (rRead (I 70)).1.1 ≠ I 70 5
  · refine ⟨34, 0, 0, _, c_T_valleyB hS hN hR g5' v1 v2 hb, ⟨by decide, by decide, by decide⟩, fun r h1 hp => ?_⟩
    obtain ⟨rfl, J, rfl, j1, jN⟩ := hp
    have j70 : J 70 = I 70 := j1 70 (by omega) (by omega) (by omega) (by omega) (by omega) (by omega)
    have j69 : J 69 = I 69 := j1 69 (by omega) (by omega) (by omega) (by omega) (by omega) (by omega)
    refine ⟨hS.i, _, rfl, 30, _, c_R_valley (s := I 70) hS.i j70 hR, by decide, fun r2 h2 hp => ?_⟩
    obtain ⟨rfl, L, rfl, l1, l2, l3⟩ := hp
    have fi : ∀ b, b < n → b ≠ 1 → b ≠ 69 → b ≠ 70 → b ≠ v → b ≠ v + 1 → b ≠ v + 2 → b ≠ v + 3 → b ≠ vX v → L b = I b := fun b _ b1 b2 b3 b4 b5 b6 b7 b8 => (l2 b b2 b3).trans (j1 b b1 b4 b5 b6 b7 b8)
    have k3 : rValS (I 70) 2 = I 70 2 := by
      unfold rValS
      rw [if_neg g5, if_pos hb, rPut_lo (by omega) (by omega), up_ne _ _ (by omega)]
    refine ⟨rfl, h.vx (L := L) (K' := K) (R := Q) (n' := n) v2 v3 (fun _ _ => rfl) (Nat.le_refl _) fi ⟨?_, ?_, ?_⟩ (fun _ _ _ _ => rfl) hS.i l1 (jN.fm (fun b b1 b2 => l2 b (by omega) (by omega))) hRA ?_ k0 k1 hH ⟨v, v1, v2, v3⟩⟩
    · rw [l3 3 (by decide) (by decide) (by decide) (by decide) (by decide), j69]
    · rw [l3 16 (by decide) (by decide) (by decide) (by decide) (by decide), j69]
    · rw [l3 19 (by decide) (by decide) (by decide) (by decide) (by decide), j69]
    · refine WV.sc (hW.x (K' := K) (Q' := Q) (n' := n) (J := L) (fun _ _ => rfl) (Nat.le_refl _) (fun x u x1 x2 hx hu => ?_) (fun _ _ _ => rfl) (fun _ _ _ => rfl)) k3 k2
      have huv : u ≠ v := fun q => by subst q; exact (v3 x x1 (by omega)).1 hx
      have z := v2.ap hu huv
      have hp := hu.pl hS
      have hu1 := hu.1
      have f : ∀ j, j ≤ 3 → L (u + j) = I (u + j) := fun j hj => by
        have y0 := z j 0 (by omega) (by omega)
        exact fi (u + j) (by omega) (by omega) (by omega) (by omega) (by omega) (z j 1 (by omega) (by omega)) (z j 2 (by omega) (by omega)) (z j 3 (by omega) (by omega)) (v2.xa hu j hj)
      exact ⟨f 0 (by omega), f 1 (by omega), f 2 (by omega), f 3 (by omega)⟩
  · refine ⟨34, 7, 250, _, c_T_valley1 hS hN hR g5' v1 v2 hb, ⟨by decide, by decide, by decide⟩, fun r h1 hp => ?_⟩
    obtain ⟨rfl, K', J, R, rfl, hS', hvs', r0, kk, j1, q1, q3, jN, jv, C, hC, hVD⟩ := hp
    have j70 : J 70 = I 70 := j1 70 (by omega) (by omega) (by omega) (by omega) (by omega) (by omega) (by omega)
    have j69 : J 69 = I 69 := j1 69 (by omega) (by omega) (by omega) (by omega) (by omega) (by omega) (by omega)
    refine ⟨hS', _, rfl, 30, _, c_R_valley (s := I 70) hS' j70 hR, by decide, fun r2 h2 hp => ?_⟩
    obtain ⟨rfl, L, rfl, l1, l2, l3⟩ := hp
    have fi : ∀ b, b < n → b ≠ 1 → b ≠ 69 → b ≠ 70 → b ≠ v → b ≠ v + 1 → b ≠ v + 2 → b ≠ v + 3 → b ≠ vX v → L b = I b := fun b b0 b1 b2 b3 b4 b5 b6 b7 b8 => (l2 b b2 b3).trans (j1 b b0 b1 b4 b5 b6 b7 b8)
    have hs : rValS (I 70) = up (up (rPut (I 70)) 2 (I 70 2 + 1)) 6 (I 70 2) := by
      unfold rValS
      rw [if_neg g5, if_neg hb]
    have k3 : rValS (I 70) 2 = I 70 2 + 1 := by rw [hs, up_ne _ _ (by omega), up_at]
    have fr3 : ∀ x, 0 ≤ x → x < I 70 2 → R 3 x = Q 3 x := fun x _ x2 => by rw [q3, if_neg (by omega)]
    have fv : ∀ u, 63 ≤ u → u < n → R u = Q u := fun u u1 u2 => q1 u u2 (by omega) (by omega)
    have kv : K v = (9, 12) := v2.2.1.1
    refine ⟨rfl, h.vx (L := L) (K' := K') (R := R) (n' := n + 7) v2 v3 kk (by omega) fi ⟨?_, ?_, ?_⟩ q1 hS'.i l1 (jN.fm (fun b b1 b2 => l2 b (by omega) (by omega))) hRA ?_ k0 k1 ?_ ⟨n, r0, hvs', fun x x1 x2 => ⟨fun q => ?_, fun q => ?_⟩⟩⟩
    · rw [l3 3 (by decide) (by decide) (by decide) (by decide) (by decide), j69]
    · rw [l3 16 (by decide) (by decide) (by decide) (by decide) (by decide), j69]
    · rw [l3 19 (by decide) (by decide) (by decide) (by decide) (by decide), j69]
    · intro x x1 x2
      rw [k3] at x2
      by_cases gx : x = I 70 2
      · subst gx
        have ev : ∀ j, j ≤ 3 → L (v + j) = J (v + j) := fun j hj => l2 _ (by omega) (by omega)
        refine ⟨v, C, by show R 3 _ = _; rw [q3, if_pos rfl], v2.x kk (by omega) (fv v (by omega) (by omega)), ?_, hVD.g ⟨ev 0 (by omega), ev 1 (by omega), ev 2 (by omega), ev 3 (by omega)⟩, ?_⟩
        · have e274 : rValS (I 70) (274 + I 70 2) = (rRead (I 70)).2 := by
            rw [hs, up_ne _ _ (by omega), up_ne _ _ (by omega)]
            unfold rPut pW
            rw [if_neg (by omega), if_neg (by omega), up_at]
          rw [e274]
          show L (v + 0) 0 = _
          rw [ev 0 (by omega)]
          exact jv
        · rw [← hC]
          have e279 : rValS (I 70) (279 + I 70 2) = ((rRead (I 70)).1.2.2.length : Int) := by
            rw [hs, up_ne _ _ (by omega), up_ne _ _ (by omega)]
            exact pW_len
          unfold rOut
          rw [e279, Int.toNat_natCast]
          apply List.ext_getElem (by simp)
          intro i i1 i2
          rw [List.getElem_map, List.getElem_range, hs, up_ne _ _ (by omega), up_ne _ _ (by omega)]
          unfold rPut pW
          rw [if_neg (by omega), if_pos (by omega), show (284 + 140 * I 70 2 + (i : Int) - (284 + 140 * I 70 2)).toNat = i by omega, List.getD_eq_getElem?_getD, List.getElem?_eq_getElem i2]
          rfl
      · have x3 : x < I 70 2 := by omega
        obtain ⟨u, C2, u1, u2, u3, u4, u5⟩ := hW x x1 x3
        have huv : u ≠ v := fun q => by subst q; exact (v3 x x1 (by omega)).1 u1
        have z := v2.ap u2 huv
        have hp := u2.pl hS
        have hu1 := u2.1
        have f : ∀ j, j ≤ 3 → L (u + j) = I (u + j) := fun j hj => by
          have y0 := z j 0 (by omega) (by omega)
          exact fi (u + j) (by omega) (by omega) (by omega) (by omega) (by omega) (z j 1 (by omega) (by omega)) (z j 2 (by omega) (by omega)) (z j 3 (by omega) (by omega)) (v2.xa u2 j hj)
        obtain ⟨y1, y2, y3⟩ := k2 x x1 x3
        refine ⟨u, C2, by show R 3 _ = _; rw [fr3 x x1 x3]; exact u1, u2.x kk (by omega) (fv u (by omega) (by omega)), ?_, u4.g ⟨f 0 (by omega), f 1 (by omega), f 2 (by omega), f 3 (by omega)⟩, by rw [y3]; exact u5⟩
        rw [y1]
        show L (u + 0) 0 = _
        rw [f 0 (by omega)]
        exact u3
    · refine hH.x kk (by omega) (fun x _ _ => Or.inl (congrFun (q1 4 (by omega) (by decide) (by decide)) x)) (fun x x1 x2 => ?_)
      by_cases gx : x = I 70 2
      · exact Or.inr ⟨v, by show R 3 x = _; rw [q3, if_pos gx], by omega, by rw [kk v (by omega)]; exact kv⟩
      · exact Or.inl (by show R 3 x = Q 3 x; rw [q3, if_neg gx])
    · rw [q3] at q
      split at q
      · have := Option.some.inj q; omega
      · have := (hH.2 x x1 x2 n q).1; omega
    · rw [q1 16 (by omega) (by decide) (by decide)] at q
      have := (hH2.2 x x1 x2 n q).1
      omega
end ZV
