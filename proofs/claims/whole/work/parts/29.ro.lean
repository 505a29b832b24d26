abbrev tJS : Type := Int × Int × (Int → Int)
/-- the first tool without a twin; their number, if there is none -/
def rFst (s : Int → Int) : Int := fstD (s 1) (fun t => decide (s (94 + (t : Int)) = -1)) (s 1).toNat 0
def rCpN (s : Int → Int) : Nat → Nat → (Int → Int) → Int → Int
  | 0, _, g => g
  | k + 1, t, g => rCpN s k (t + 1) (up g (t : Int) (s (94 + (t : Int))))
def rJl (s : Int → Int) (q : tJS) : tJS := if q.1 = 0 ∨ q.2.1 < rBestDay s then (1, rBestDay s, rCpN s (s 1).toNat 0 q.2.2) else q
def rPair (s : Int → Int) (a b : Int) : Int → Int := up (up s (94 + a) b) (94 + b) a
def rJb (rec : (Int → Int) → tJS → tJS) (s : Int → Int) (a : Int) : Nat → Nat → tJS → tJS
  | 0, _, q => q
  | k + 1, b, q => rJb rec s a k (b + 1) (if s (94 + (b : Int)) = -1 then rec (rPair s a b) q else q)
def rJ : Nat → (Int → Int) → tJS → tJS
  | 0, _, q => q
  | e + 1, s, q => if rFst s = s 1 then rJl s q else rJb (rJ e) s (rFst s) ((s 1).toNat - ((rFst s).toNat + 1)) ((rFst s).toNat + 1) q
theorem fstD_le {d : Int} {p : Nat → Bool} {N : Int} : ∀ (k j : Nat), ((j + k : Nat) : Int) = N → d = N → (j : Int) ≤ fstD d p k j ∧ fstD d p k j ≤ N ∧ (fstD d p k j < N → p (fstD d p k j).toNat = true) ∧ ∀ t : Nat, j ≤ t → (t : Int) < fstD d p k j → p t = false
  | 0, j, h, h1 => by
    rw [fstD]
    refine ⟨by omega, by omega, by omega, fun t a1 a2 => by omega⟩
  | k + 1, j, h, h1 => by
    rw [fstD]
    by_cases g : p j = true
    · rw [if_pos g]
      refine ⟨by omega, by omega, fun _ => by rw [show ((j : Int)).toNat = j by omega]; exact g, fun t a1 a2 => by omega⟩
    · rw [if_neg g]
      obtain ⟨b1, b2, b3, b4⟩ := fstD_le (d := d) (p := p) k (j + 1) (by omega) h1
      refine ⟨by omega, b2, b3, fun t a1 a2 => ?_⟩
      by_cases e : t = j
      · subst e; simpa using g
      · exact b4 t (by omega) a2
theorem rFst_le {s : Int → Int} (h1 : 0 ≤ s 1) : 0 ≤ rFst s ∧ rFst s ≤ s 1 ∧ (rFst s < s 1 → s (94 + rFst s) = -1) ∧ ∀ t : Nat, (t : Int) < rFst s → s (94 + (t : Int)) ≠ -1 := by
  obtain ⟨b1, b2, b3, b4⟩ := fstD_le (d := s 1) (p := fun t => decide (s (94 + (t : Int)) = -1)) (N := s 1) (s 1).toNat 0 (by omega) rfl
  refine ⟨by unfold rFst; omega, b2, fun h => ?_, fun t ht => ?_⟩
  · have := b3 h
    simp only [decide_eq_true_eq] at this
    change s (94 + (((rFst s).toNat : Nat) : Int)) = -1 at this
    rw [show (((rFst s).toNat : Nat) : Int) = rFst s by unfold rFst; omega] at this
    exact this
  · have := b4 t (by omega) ht
    simpa using this
theorem rPair_1 {s : Int → Int} {a b : Int} (a1 : 0 ≤ a) (b1 : 0 ≤ b) : rPair s a b 1 = s 1 := by
  unfold rPair
  rw [up_ne _ _ (by omega), up_ne _ _ (by omega)]
theorem rFst_pair {s : Int → Int} {b : Int} (h1 : 0 ≤ s 1) (ha : rFst s < s 1) (b1 : rFst s < b ∧ b < s 1) : rFst s < rFst (rPair s (rFst s) b) := by
  obtain ⟨c1, c2, c3, c4⟩ := rFst_le h1
  have e1 : rPair s (rFst s) b 1 = s 1 := rPair_1 c1 (by omega)
  obtain ⟨d1, d2, d3, d4⟩ := rFst_le (s := rPair s (rFst s) b) (by omega)
  generalize rFst (rPair s (rFst s) b) = x at d1 d2 d3 d4 ⊢
  rcases Int.lt_or_le (rFst s) x with g | g
  · exact g
  · exfalso
    have h3 := d3 (by omega)
    by_cases e : x = rFst s
    · rw [e] at h3
      unfold rPair at h3
      rw [up_ne _ _ (by omega), up_at] at h3
      omega
    · have h4 := c4 x.toNat (by omega)
      rw [show ((x.toNat : Nat) : Int) = x by omega] at h4
      unfold rPair at h3
      rw [up_ne _ _ (by omega), up_ne _ _ (by omega)] at h3
      exact h4 h3
/-- two that have none become twins -/
theorem RInv_pair {s : Int → Int} {a b : Int} (a1 : 0 ≤ a ∧ a < s 1) (b1 : 0 ≤ b ∧ b < s 1) (hab : a ≠ b) (ha : s (94 + a) = -1) (hb9 : s (94 + b) = -1) (hR : RInv s) : RInv (rPair s a b) := by
  obtain ⟨h0, h1, h2, h3, h4, h5, h6, hp, hrw, ht, hr, hb, htp, hv⟩ := hR
  have e : ∀ j, j ≠ 94 + a → j ≠ 94 + b → rPair s a b j = s j := fun j hj hj2 => by unfold rPair; rw [up_ne _ _ hj2, up_ne _ _ hj]
  have ea : rPair s a b (94 + a) = b := by unfold rPair; rw [up_ne _ _ (by omega), up_at]
  have eb : rPair s a b (94 + b) = a := by unfold rPair; rw [up_at]
  refine ⟨by rw [e _ (by omega) (by omega)]; exact h0, by rw [e _ (by omega) (by omega)]; exact h1, by rw [e _ (by omega) (by omega)]; exact h2, by rw [e _ (by omega) (by omega)]; exact h3, by rw [e _ (by omega) (by omega)]; exact h4, by rw [e _ (by omega) (by omega)]; exact h5, by rw [e _ (by omega) (by omega), e _ (by omega) (by omega)]; exact h6, ?_, ?_, ?_, ?_, ?_, ?_, ?_⟩
  · intro q q1 q2
    rw [e (10 + q) (by omega) (by omega), e (18 + q) (by omega) (by omega), e (26 + q) (by omega) (by omega), e (34 + q) (by omega) (by omega)]
    exact hp q q1 q2
  · intro j j1 j2; rw [e _ (by omega) (by omega)]; exact hrw j j1 j2
  · intro t t1 t2
    rw [e 1 (by omega) (by omega)] at t2
    have w := ht t t1 t2
    rw [e (74 + t) (by omega) (by omega), e (84 + t) (by omega) (by omega), e (104 + t) (by omega) (by omega), e 0 (by omega) (by omega), e 1 (by omega) (by omega)]
    refine ⟨w.1, w.2.1, ?_, w.2.2.2⟩
    by_cases g1 : t = a
    · subst g1
      rw [ea, eb]
      exact Or.inr ⟨by omega, by omega, by omega, rfl⟩
    · by_cases g2 : t = b
      · subst g2
        rw [eb, ea]
        exact Or.inr ⟨by omega, by omega, by omega, rfl⟩
      · rw [e (94 + t) (by omega) (by omega)]
        rcases w.2.2.1 with g | g
        · exact Or.inl g
        · have n1 : s (94 + t) ≠ a := fun q => by rw [q, ha] at g; omega
          have n2 : s (94 + t) ≠ b := fun q => by rw [q, hb9] at g; omega
          rw [e (94 + s (94 + t)) (by omega) (by omega)]
          exact Or.inr g
  · intro r r1 r2
    rw [e 3 (by omega) (by omega)] at r2
    rw [e (114 + r) (by omega) (by omega), e (126 + r) (by omega) (by omega), e (138 + r) (by omega) (by omega), e 1 (by omega) (by omega)]; exact hr r r1 r2
  · intro r r1 r2
    rw [e 4 (by omega) (by omega)] at r2
    rw [e (150 + r) (by omega) (by omega), e (162 + r) (by omega) (by omega), e 1 (by omega) (by omega)]; exact hb r r1 r2
  · intro i i1 i2; rw [e _ (by omega) (by omega)]; exact htp i i1 i2
  · intro c c1 c2; rw [e (274 + c) (by omega) (by omega), e (279 + c) (by omega) (by omega)]; exact hv c c1 c2
theorem RVal_pair {s : Int → Int} {a b : Int} (a1 : 0 ≤ a ∧ a < 10) (b1 : 0 ≤ b ∧ b < 10) (hV : RVal s) : RVal (rPair s a b) := RVal_up (by omega) (by omega) (RVal_up (by omega) (by omega) hV)
theorem rPair_un {s : Int → Int} {a b : Int} (hab : a ≠ b) (ha : s (94 + a) = -1) (hb : s (94 + b) = -1) : up (up (rPair s a b) (94 + a) (-1)) (94 + b) (-1) = s := by
  funext j
  unfold rPair up
  by_cases h1 : j = 94 + b
  · subst h1; simp [hb]
  · by_cases h2 : j = 94 + a
    · subst h2; simp [ha]
    · simp [h1, h2]
/-- the scratch of joining -/
def rj (I J : Nat → Int → Int) : Prop := (∀ b, b ≠ 69 → b ≠ 72 → b ≠ 73 → b ≠ 75 → J b = I b) ∧ ∀ k, k ≠ 11 → k ≠ 12 → k ≠ 13 → k ≠ 16 → k ≠ 17 → J 69 k = I 69 k
theorem rj.rf {I : Nat → Int → Int} : rj I I := ⟨fun _ _ _ _ _ => rfl, fun _ _ _ _ _ _ => rfl⟩
theorem rj.trans {I J L : Nat → Int → Int} (h : rj I J) (g : rj J L) : rj I L := ⟨fun b a1 a2 a3 a4 => (g.1 b a1 a2 a3 a4).trans (h.1 b a1 a2 a3 a4), fun k a1 a2 a3 a4 a5 => (g.2 k a1 a2 a3 a4 a5).trans (h.2 k a1 a2 a3 a4 a5)⟩
theorem rq.j {I J : Nat → Int → Int} (h : rq I J) : rj I J := ⟨fun b a1 a2 a3 _ => h.1 b a1 a2 a3, fun k a1 a2 a3 _ _ => h.2 k a1 a2 a3⟩
theorem rj.s {I J : Nat → Int → Int} (h : rj I J) : J 70 = I 70 := h.1 70 (by decide) (by decide) (by decide) (by decide)
theorem rj.w {I J L : Nat → Int → Int} {i x : Int} (h : rj I J) (e : L = uI J 75 i x) : rj I L := by
  subst e
  exact h.trans ⟨fun b a1 a2 a3 a4 => uI_off _ _ _ a4, fun k _ _ _ _ _ => by rw [uI_off _ _ _ (by decide)]⟩
theorem rj.f {I J L : Nat → Int → Int} {i x : Int} (h : rj I J) (hi : i = 16 ∨ i = 17) (e : L = uI J 69 i x) : rj I L := by
  subst e
  exact h.trans ⟨fun b a1 a2 a3 a4 => uI_off _ _ _ a1, fun k _ _ _ _ _ => by rw [uI_at, if_neg (by omega)]⟩
theorem rj_back {I J L : Nat → Int → Int} {s s' : Int → Int} (h : rj I J) (hs : J 70 = s) (g : rj (setA J 70 s') L) : rj I (setA L 70 s) := by
  refine ⟨fun b a1 a2 a3 a4 => ?_, fun k a1 a2 a3 a4 a5 => ?_⟩
  · by_cases hb : b = 70
    · subst hb; rw [setA_at, ← hs]; exact h.1 70 a1 a2 a3 a4
    · rw [setA_ne _ _ hb, g.1 b a1 a2 a3 a4, setA_ne _ _ hb]; exact h.1 b a1 a2 a3 a4
  · rw [setA_ne _ _ (by decide), g.2 k a1 a2 a3 a4 a5, setA_ne _ _ (by decide)]; exact h.2 k a1 a2 a3 a4 a5
/-- what the fields of joining hold -/
abbrev jq (J : Nat → Int → Int) : tJS := (J 69 17, J 69 16, J 75)
abbrev jqb (q : tJS) : Prop := (q.1 = 0 ∨ q.1 = 1) ∧ (-12000000 ≤ q.2.1 ∧ q.2.1 ≤ 12000000)
theorem rJl_b {s : Int → Int} {q : tJS} (hR : RInv s) (hV : RVal s) (h : jqb q) : jqb (rJl s q) := by
  have := rBestDay_bd hR hV
  unfold rJl
  split
  · exact ⟨Or.inr rfl, this⟩
  · exact h
theorem rJ_b : ∀ (e : Nat) (s : Int → Int) (q : tJS), RInv s → RVal s → jqb q → jqb (rJ e s q)
  | 0, _, _, _, _, h => h
  | e + 1, s, q, hR, hV, h => by
    have h1 := hR.2.1
    obtain ⟨c1, c2, c3, c4⟩ := rFst_le h1.1
    rw [rJ]
    split
    · exact rJl_b hR hV h
    · rename_i hne
      have key : ∀ (k b : Nat) (q : tJS), b + k ≤ (s 1).toNat → rFst s < (b : Int) → jqb q → jqb (rJb (rJ e) s (rFst s) k b q) := by
        intro k
        induction k with
        | zero => intro b q _ _ hq; exact hq
        | succ k ih =>
          intro b q hb hlt hq
          rw [rJb]
          refine ih (b + 1) _ (by omega) (by omega) ?_
          split
          · rename_i hbb
            exact rJ_b e _ _ (RInv_pair (by omega) (by omega) (by omega) (c3 (by omega)) hbb hR) (RVal_pair (by omega) (by omega) hV) hq
          · exact hq
      exact key _ _ _ (by omega) (by omega) h
section RO
variable {l : Launch} {G : tG} {K : Nat → Nat × Nat} {Q : Nat → Int → Option Nat} {n : Nat}
theorem l1_R_joins {s : Int → Int} {I : Nat → Int → Int} {d : Nat} {P : Option tV → tH → Prop} {F : Int} (hS : tSt (K, I, Q, n)) (hs : I 70 = s) (hR : RInv s) (cont : tw_AW l G mR_joins d 0 0 n 0 P 31 [(1, vi F), (0, vr (some 69))] [] (K, I, Q, n)) : ∀ (k j : Nat), j + k = (s 1).toNat → fstD (s 1) (fun t => decide (s (94 + (t : Int)) = -1)) k j = F → tw_AW l G mR_joins d 0 0 n 0 P 2 [(1, vi (j : Int)), (0, vr (some 69))] [] (K, I, Q, n) := by
  obtain ⟨h0, h1, h2, h3, h4, h5, h6, hp, hrw, ht, hr, hb, htp, hv⟩ := id hR
  intro k
  induction k with
  | zero =>
    intro j hj hF
    refine ar_iloadn (k := 2) rfl rfl ?_
    refine ar_aloadn (k := 3) rfl rfl ?_
    refine br_getR (k := 4) rfl (hS.k (by decide)) flR_9_12 (by decide) rfl (hS.r rfl) ?_
    refine ar_iconst (k := 5) rfl ?_
    refine br_iads (k := 6) rfl (hS.k (by decide)) (by omega) (by omega) (by decide) hs ?_
    refine ar_icmp_ge (k := 7) rfl (by omega) (by omega) (fun c7 => ?_) (fun c7 => ?_)
    · rw [fstD] at hF
      have e : F = (j : Int) := by omega
      subst e
      exact cont
    · exfalso; omega
  | succ k ih =>
    intro j hj hF
    have hw := ht j (by omega) (by omega)
    refine ar_iloadn (k := 2) rfl rfl ?_
    refine ar_aloadn (k := 3) rfl rfl ?_
    refine br_getR (k := 4) rfl (hS.k (by decide)) flR_9_12 (by decide) rfl (hS.r rfl) ?_
    refine ar_iconst (k := 5) rfl ?_
    refine br_iads (k := 6) rfl (hS.k (by decide)) (by omega) (by omega) (by decide) hs ?_
    refine ar_icmp_ge (k := 7) rfl (by omega) (by omega) (fun c7 => ?_) (fun c7 => ?_)
    · first
        | (exfalso; omega)
        | (rw [fstD, if_pos (by simp only [decide_eq_true_eq]; omega)] at hF; subst hF; exact cont)
    · refine ar_aloadn (k := 8) rfl rfl ?_
      refine br_getR (k := 9) rfl (hS.k (by decide)) flR_9_12 (by decide) rfl (hS.r rfl) ?_
      refine ar_bipush (k := 10) rfl (by decide) ?_
      refine ar_iloadn (k := 11) rfl rfl ?_
      refine ar_iadd (k := 12) rfl ?_
      refine br_iads (k := 13) rfl (hS.k (by decide)) (by omega) (by omega) (by decide) hs ?_
      refine ar_iconst (k := 14) rfl ?_
      refine ar_icmp_eq (k := 15) rfl (by omega) (by omega) (fun c15 => ?_) (fun c15 => ?_)
      · first
          | (exfalso; omega)
          | (rw [fstD, if_pos (by simp only [decide_eq_true_eq]; omega)] at hF; subst hF; exact cont)
      · refine ar_iinc (k := 16) (l2 := [(1, _), (0, _)]) rfl (by decide) rfl rfl ?_
        refine ar_goto (k := 17) rfl ?_
        refine ar_sub (l2 := [(1, vi ((j + 1 : Nat) : Int)), (0, vr (some 69))]) (tw_s (tw_e 0 rfl (by omega)) (tw_s (tw_g 1 rfl) tw_s0)) ?_
        rw [fstD, if_neg (by simp only [decide_eq_true_eq]; omega)] at hF
        exact ih (j + 1) (by omega) hF
theorem l2_R_joins {s : Int → Int} {I : Nat → Int → Int} {d : Nat} {a v : Int} {F : tJS} (hS : tSt (K, I, Q, n)) (hR : RInv s) : ∀ (k j : Nat) (J : Nat → Int → Int), j + k = (s 1).toNat → J 70 = s → rj I J → (J 69 17, J 69 16, rCpN s k j (J 75)) = F → tw_AW l G mR_joins d 0 0 n 0 (fun r h' => r = none ∧ ∃ J, h' = (K, J, Q, n) ∧ rj I J ∧ jq J = F) 73 [(3, vi (j : Int)), (2, vi v), (1, vi a), (0, vr (some 69))] [] (K, J, Q, n) := by
  obtain ⟨h0, h1, h2, h3, h4, h5, h6, hp, hrw, ht, hr, hb, htp, hv⟩ := id hR
  intro k
  induction k with
  | zero =>
    intro j J hj hs hk hF
    refine ar_iloadn (k := 42) rfl rfl ?_
    refine ar_aloadn (k := 43) rfl rfl ?_
    refine br_getR (k := 44) rfl (hS.k (by decide)) flR_9_12 (by decide) rfl (hS.r rfl) ?_
    refine ar_iconst (k := 45) rfl ?_
    refine br_iads (k := 46) rfl (hS.k (by decide)) (by omega) (by omega) (by decide) hs ?_
    refine ar_icmp_ge (k := 47) rfl (by omega) (by omega) (fun c47 => ?_) (fun c47 => ?_)
    · refine ar_ret (k := 60) rfl rfl rfl (Nat.le_refl _) ?_
      exact ⟨rfl, J, rfl, hk, hF⟩
    · exfalso; omega
  | succ k ih =>
    intro j J hj hs hk hF
    have hw := ht j (by omega) (by omega)
    refine ar_iloadn (k := 42) rfl rfl ?_
    refine ar_aloadn (k := 43) rfl rfl ?_
    refine br_getR (k := 44) rfl (hS.k (by decide)) flR_9_12 (by decide) rfl (hS.r rfl) ?_
    refine ar_iconst (k := 45) rfl ?_
    refine br_iads (k := 46) rfl (hS.k (by decide)) (by omega) (by omega) (by decide) hs ?_
    refine ar_icmp_ge (k := 47) rfl (by omega) (by omega) (fun c47 => ?_) (fun c47 => ?_)
    · exfalso; omega
    · refine ar_aloadn (k := 48) rfl rfl ?_
      refine br_getR (k := 49) rfl (hS.k (by decide)) flR_28_12 (by decide) rfl (hS.r rfl) ?_
      refine ar_iloadn (k := 50) rfl rfl ?_
      refine ar_aloadn (k := 51) rfl rfl ?_
      refine br_getR (k := 52) rfl (hS.k (by decide)) flR_9_12 (by decide) rfl (hS.r rfl) ?_
      refine ar_bipush (k := 53) rfl (by decide) ?_
      refine ar_iloadn (k := 54) rfl rfl ?_
      refine ar_iadd (k := 55) rfl ?_
      refine br_iads (k := 56) rfl (hS.k (by decide)) (by omega) (by omega) (by decide) hs ?_
      refine br_iastJ (k := 57) rfl (hS.k (by decide)) (by omega) (by omega) (by decide) (fun I57 e57 => ?_)
      have hs57 : I57 70 = s := by rw [e57]; exact hs
      refine ar_iinc (k := 58) (l2 := [(3, _), (2, _), (1, _), (0, _)]) rfl (by decide) rfl rfl ?_
      refine ar_goto (k := 59) rfl ?_
      refine ar_sub (l2 := [(3, vi ((j + 1 : Nat) : Int)), (2, vi v), (1, vi a), (0, vr (some 69))]) (tw_s (tw_e 0 rfl (by omega)) (tw_s (tw_g 1 rfl) (tw_s (tw_g 2 rfl) (tw_s (tw_g 3 rfl) tw_s0)))) ?_
      refine ih (j + 1) I57 (by omega) hs57 (rj.w hk e57) ?_
      rw [← hF, e57, uI_off _ _ _ (by decide), uI_set, setA_at]
      rfl
theorem l3_R_joins {e : Nat} (ih : ∀ (s : Int → Int) (I : Nat → Int → Int), tSt (K, I, Q, n) → I 70 = s → RInv s → RVal s → s 1 - rFst s < (e : Int) → jqb (jq I) → tw_M l G (17 + e) 0 0 mR_joins [vr (some 69)] (K, I, Q, n) (fun r h' => r = none ∧ ∃ J, h' = (K, J, Q, n) ∧ rj I J ∧ jq J = rJ e s (jq I))) {s : Int → Int} {I : Nat → Int → Int} {F : tJS} (hS : tSt (K, I, Q, n)) (hR : RInv s) (hV : RVal s) (ha : rFst s < s 1) (he : s 1 - rFst s ≤ (e : Int)) : ∀ (k b : Nat) (J : Nat → Int → Int), b + k = (s 1).toNat → rFst s < (b : Int) → J 70 = s → rj I J → jqb (jq J) → rJb (rJ e) s (rFst s) k b (jq J) = F → tw_AW l G mR_joins (17 + (e + 1)) 0 0 n 0 (fun r h' => r = none ∧ ∃ J, h' = (K, J, Q, n) ∧ rj I J ∧ jq J = F) 109 [(2, vi (b : Int)), (1, vi (rFst s)), (0, vr (some 69))] [] (K, J, Q, n) := by
  obtain ⟨h0, h1, h2, h3, h4, h5, h6, hp, hrw, ht, hr, hb, htp, hv⟩ := id hR
  obtain ⟨c1, c2, c3, c4⟩ := rFst_le h1.1
  have hs0 := c3 ha
  intro k
  induction k with
  | zero =>
    intro b J hj hlt hs hk hq hF
    refine ar_iloadn (k := 65) rfl rfl ?_
    refine ar_aloadn (k := 66) rfl rfl ?_
    refine br_getR (k := 67) rfl (hS.k (by decide)) flR_9_12 (by decide) rfl (hS.r rfl) ?_
    refine ar_iconst (k := 68) rfl ?_
    refine br_iads (k := 69) rfl (hS.k (by decide)) (by omega) (by omega) (by decide) hs ?_
    refine ar_icmp_ge (k := 70) rfl (by omega) (by omega) (fun c70 => ?_) (fun c70 => ?_)
    · refine ar_ret (k := 111) rfl rfl rfl (Nat.le_refl _) ?_
      rw [rJb] at hF
      exact ⟨rfl, J, rfl, hk, hF⟩
    · exfalso; omega
  | succ k ih2 =>
    intro b J hj hlt hs hk hq hF
    have hw := ht b (by omega) (by omega)
    refine ar_iloadn (k := 65) rfl rfl ?_
    refine ar_aloadn (k := 66) rfl rfl ?_
    refine br_getR (k := 67) rfl (hS.k (by decide)) flR_9_12 (by decide) rfl (hS.r rfl) ?_
    refine ar_iconst (k := 68) rfl ?_
    refine br_iads (k := 69) rfl (hS.k (by decide)) (by omega) (by omega) (by decide) hs ?_
    refine ar_icmp_ge (k := 70) rfl (by omega) (by omega) (fun c70 => ?_) (fun c70 => ?_)
    · exfalso; omega
    · refine ar_aloadn (k := 71) rfl rfl ?_
      refine br_getR (k := 72) rfl (hS.k (by decide)) flR_9_12 (by decide) rfl (hS.r rfl) ?_
      refine ar_bipush (k := 73) rfl (by decide) ?_
      refine ar_iloadn (k := 74) rfl rfl ?_
      refine ar_iadd (k := 75) rfl ?_
      refine br_iads (k := 76) rfl (hS.k (by decide)) (by omega) (by omega) (by decide) hs ?_
      refine ar_iconst (k := 77) rfl ?_
      refine ar_icmp_ne (k := 78) rfl (by omega) (by omega) (fun c78 => ?_) (fun c78 => ?_)
      · refine ar_iinc (k := 109) (l2 := [(2, _), (1, _), (0, _)]) rfl (by decide) rfl rfl ?_
        refine ar_goto (k := 110) rfl ?_
        refine ar_sub (l2 := [(2, vi ((b + 1 : Nat) : Int)), (1, vi (rFst s)), (0, vr (some 69))]) (tw_s (tw_e 0 rfl (by omega)) (tw_s (tw_g 1 rfl) (tw_s (tw_g 2 rfl) tw_s0))) ?_
        rw [rJb, if_neg (by omega)] at hF
        exact ih2 (b + 1) J (by omega) (by omega) hs hk hq hF
      · refine ar_aloadn (k := 79) rfl rfl ?_
        refine br_getR (k := 80) rfl (hS.k (by decide)) flR_9_12 (by decide) rfl (hS.r rfl) ?_
        refine ar_bipush (k := 81) rfl (by decide) ?_
        refine ar_iloadn (k := 82) rfl rfl ?_
        refine ar_iadd (k := 83) rfl ?_
        refine ar_iloadn (k := 84) rfl rfl ?_
        refine br_iast (k := 85) rfl (hS.k (by decide)) (by omega) (by omega) (by decide) ?_
        refine ar_aloadn (k := 86) rfl rfl ?_
        refine br_getR (k := 87) rfl (hS.k (by decide)) flR_9_12 (by decide) rfl (hS.r rfl) ?_
        refine ar_bipush (k := 88) rfl (by decide) ?_
        refine ar_iloadn (k := 89) rfl rfl ?_
        refine ar_iadd (k := 90) rfl ?_
        refine ar_iloadn (k := 91) rfl rfl ?_
        refine br_iast (k := 92) rfl (hS.k (by decide)) (by omega) (by omega) (by decide) ?_
        rw [uI_set, uI_set, setA_setA, setA_at, hs]
        have hbb : s (94 + (b : Int)) = -1 := by omega
        have hp1 := rPair_1 (s := s) (a := rFst s) (b := (b : Int)) c1 (by omega)
        have hp2 := rFst_pair (s := s) (b := (b : Int)) h1.1 ha (by omega)
        refine ar_aloadn (k := 93) rfl rfl ?_
        refine ar_callV (k := 94) (as := []) rfl lvR_216 (hS.k (by decide)) rfl (ih (rPair s (rFst s) (b : Int)) (setA J 70 (rPair s (rFst s) (b : Int))) hS (setA_at _ _ _) (RInv_pair (by omega) (by omega) (by omega) hs0 hbb hR) (RVal_pair (by omega) (by omega) hV) (by omega) hq) rfl (by omega) (by decide) tw_m0 (Nat.le_of_ble_eq_true rfl) (fun r h' hp => ?_)
        obtain ⟨rfl, I94, rfl, q94, hX⟩ := hp
        refine ar_aloadn (k := 95) rfl rfl ?_
        refine br_getR (k := 96) rfl (hS.k (by decide)) flR_9_12 (by decide) rfl (hS.r rfl) ?_
        refine ar_bipush (k := 97) rfl (by decide) ?_
        refine ar_iloadn (k := 98) rfl rfl ?_
        refine ar_iadd (k := 99) rfl ?_
        refine ar_iconst (k := 100) rfl ?_
        refine br_iast (k := 101) rfl (hS.k (by decide)) (by omega) (by omega) (by decide) ?_
        refine ar_aloadn (k := 102) rfl rfl ?_
        refine br_getR (k := 103) rfl (hS.k (by decide)) flR_9_12 (by decide) rfl (hS.r rfl) ?_
        refine ar_bipush (k := 104) rfl (by decide) ?_
        refine ar_iloadn (k := 105) rfl rfl ?_
        refine ar_iadd (k := 106) rfl ?_
        refine ar_iconst (k := 107) rfl ?_
        refine br_iast (k := 108) rfl (hS.k (by decide)) (by omega) (by omega) (by decide) ?_
        rw [uI_set, uI_set, setA_setA, setA_at, q94.s, setA_at, rPair_un (by omega) hs0 hbb]
        obtain ⟨J3, e3⟩ : ∃ J3, J3 = setA I94 70 s := ⟨_, rfl⟩
        rw [← e3]
        have hs3 : J3 70 = s := by rw [e3, setA_at]
        have hk3 : rj I J3 := by rw [e3]; exact rj_back hk hs q94
        have hj3 : jq J3 = rJ e (rPair s (rFst s) (b : Int)) (jq J) := by rw [e3]; exact hX
        refine ar_iinc (k := 109) (l2 := [(2, _), (1, _), (0, _)]) rfl (by decide) rfl rfl ?_
        refine ar_goto (k := 110) rfl ?_
        refine ar_sub (l2 := [(2, vi ((b + 1 : Nat) : Int)), (1, vi (rFst s)), (0, vr (some 69))]) (tw_s (tw_e 0 rfl (by omega)) (tw_s (tw_g 1 rfl) (tw_s (tw_g 2 rfl) tw_s0))) ?_
        rw [rJb, if_pos hbb, ← hj3] at hF
        exact ih2 (b + 1) J3 (by omega) (by omega) hs3 hk3 (by rw [hj3]; exact rJ_b e _ _ (RInv_pair (by omega) (by omega) (by omega) hs0 hbb hR) (RVal_pair (by omega) (by omega) hV) hq) hF
theorem c_R_joins : ∀ (e : Nat) (s : Int → Int) (I : Nat → Int → Int), tSt (K, I, Q, n) → I 70 = s → RInv s → RVal s → s 1 - rFst s < (e : Int) → jqb (jq I) → tw_M l G (17 + e) 0 0 mR_joins [vr (some 69)] (K, I, Q, n) (fun r h' => r = none ∧ ∃ J, h' = (K, J, Q, n) ∧ rj I J ∧ jq J = rJ e s (jq I)) := by
  intro e
  induction e with
  | zero =>
    intro s I hS hs hR hV he hq
    have c2 := (rFst_le hR.2.1.1).2.1
    exfalso; omega
  | succ e ih =>
    intro s I hS hs hR hV he hq
    obtain ⟨h0, h1, h2, h3, h4, h5, h6, hp, hrw, ht, hr, hb, htp, hv⟩ := id hR
    obtain ⟨c1, c2, c3, c4⟩ := rFst_le h1.1
    have hbd := rBestDay_bd hR hV
    have hq1 : I 69 17 = 0 ∨ I 69 17 = 1 := hq.1
    have hq2 : -12000000 ≤ I 69 16 ∧ I 69 16 ≤ 12000000 := hq.2
    refine tw_intro okR_joins (Nat.le_of_ble_eq_true rfl) ?_
    refine ar_iconst (k := 0) rfl ?_
    refine ar_istoren (k := 1) (l2 := [(1, _), (0, _)]) rfl (by decide) rfl ?_
    refine ar_sub (l2 := [(1, vi ((0 : Nat) : Int)), (0, vr (some 69))]) (tw_s (tw_e 0 rfl (by rfl)) (tw_s (tw_g 1 rfl) tw_s0)) ?_
    refine l1_R_joins (F := rFst s) hS hs hR ?_ _ 0 (by omega) rfl
    have hk : rq I I := rq.rf
    refine ar_iloadn (k := 18) rfl rfl ?_
    refine ar_aloadn (k := 19) rfl rfl ?_
    refine br_getR (k := 20) rfl (hS.k (by decide)) flR_9_12 (by decide) rfl (hS.r rfl) ?_
    refine ar_iconst (k := 21) rfl ?_
    refine br_iads (k := 22) rfl (hS.k (by decide)) (by omega) (by omega) (by decide) hs ?_
    refine ar_icmp_ne (k := 23) rfl (by omega) (by omega) (fun c23 => ?_) (fun c23 => ?_)
    · refine ar_iloadn (k := 61) rfl rfl ?_
      refine ar_iconst (k := 62) rfl ?_
      refine ar_iadd (k := 63) rfl ?_
      refine ar_istoren (k := 64) (l2 := [(2, _), (1, _), (0, _)]) rfl (by decide) rfl ?_
      refine ar_sub (l2 := [(2, vi (((rFst s).toNat + 1 : Nat) : Int)), (1, vi (rFst s)), (0, vr (some 69))]) (tw_s (tw_e 0 rfl (by omega)) (tw_s (tw_g 1 rfl) (tw_s (tw_g 2 rfl) tw_s0))) ?_
      refine l3_R_joins (I := I) ih hS hR hV (by omega) (by omega) ((s 1).toNat - ((rFst s).toNat + 1)) ((rFst s).toNat + 1) I (by omega) (by omega) hs rj.rf hq ?_
      rw [rJ, if_neg (by omega)]
    · refine ar_aloadn (k := 24) rfl rfl ?_
      refine br_callVK (k := 25) (as := []) rfl lvR_200 (hS.k (by decide)) rfl (c_R_bestDay hS hs hR hV) rfl (by omega) (by decide) tw_m0 (Nat.le_of_ble_eq_true rfl) (fun I25 q25 => ?_)
      have hs25 : I25 70 = s := q25.s.trans hs
      have hk25 := rq.trans hk q25
      refine ar_istoren (k := 26) (l2 := [(2, _), (1, _), (0, _)]) rfl (by decide) rfl ?_
      refine ar_aloadn (k := 27) rfl rfl ?_
      refine br_getI (k := 28) rfl (hS.k (by decide)) flR_210_12 (by decide) rfl ?_
      refine tw_top (y := I 69 17) (by exact hk25.2 17 (by decide) (by decide) (by decide)) ?_
      refine ar_if_eq (k := 29) rfl (by omega) (fun c29 => ?_) (fun c29 => ?_)
      · refine ar_aloadn (k := 34) rfl rfl ?_
        refine ar_iconst (k := 35) rfl ?_
        refine br_putZJ (k := 36) rfl (hS.k (by decide)) flR_210_12 (by decide) rfl (by omega) (fun _ _ _ q => by cases q; exact ⟨rfl, rfl⟩) (fun I36 e36 => ?_)
        change _ = uI _ 69 17 _ at e36
        refine ar_aloadn (k := 37) rfl rfl ?_
        refine ar_iloadn (k := 38) rfl rfl ?_
        refine br_putIJ (k := 39) rfl (hS.k (by decide)) flR_213_12 (by decide) rfl (fun _ _ _ q => by cases q; exact ⟨rfl, rfl⟩) (fun I39 e39 => ?_)
        change _ = uI _ 69 16 _ at e39
        have hs39 : I39 70 = s := by rw [e39, e36]; exact hs25
        have hk39 : rj I I39 := rj.f (rj.f hk25.j (by decide) e36) (by decide) e39
        refine ar_iconst (k := 40) rfl ?_
        refine ar_istoren (k := 41) (l2 := [(3, _), (2, _), (1, _), (0, _)]) rfl (by decide) rfl ?_
        refine ar_sub (l2 := [(3, vi ((0 : Nat) : Int)), (2, vi (rBestDay s)), (1, vi (rFst s)), (0, vr (some 69))]) (tw_s (tw_e 0 rfl (by rfl)) (tw_s (tw_g 1 rfl) (tw_s (tw_g 2 rfl) (tw_s (tw_g 3 rfl) tw_s0)))) ?_
        refine l2_R_joins (I := I) hS hR (s 1).toNat 0 I39 (by omega) hs39 hk39 ?_
        rw [rJ, if_pos (by omega), rJl, if_pos (by show I 69 17 = 0 ∨ I 69 16 < _; omega)]
        rw [e39, e36]
        simp only [uI_at, Int.reduceEq, reduceIte]
        rw [uI_off _ _ _ (by decide), uI_off _ _ _ (by decide), hk25.1 75 (by decide) (by decide) (by decide)]
      · refine ar_iloadn (k := 30) rfl rfl ?_
        refine ar_aloadn (k := 31) rfl rfl ?_
        refine br_getI (k := 32) rfl (hS.k (by decide)) flR_213_12 (by decide) rfl ?_
        refine tw_top (y := I 69 16) (by exact hk25.2 16 (by decide) (by decide) (by decide)) ?_
        refine ar_icmp_le (k := 33) rfl (by omega) (by omega) (fun c33 => ?_) (fun c33 => ?_)
        · refine ar_ret (k := 60) rfl rfl rfl (Nat.le_refl _) ?_
          refine ⟨rfl, I25, rfl, hk25.j, ?_⟩
          rw [rJ, if_pos (by omega), rJl, if_neg (by show ¬ (I 69 17 = 0 ∨ I 69 16 < _); omega)]
          exact Prod.ext (hk25.2 17 (by decide) (by decide) (by decide)) (Prod.ext (hk25.2 16 (by decide) (by decide) (by decide)) (hk25.1 75 (by decide) (by decide) (by decide)))
        · refine ar_aloadn (k := 34) rfl rfl ?_
          refine ar_iconst (k := 35) rfl ?_
          refine br_putZJ (k := 36) rfl (hS.k (by decide)) flR_210_12 (by decide) rfl (by omega) (fun _ _ _ q => by cases q; exact ⟨rfl, rfl⟩) (fun I36 e36 => ?_)
          change _ = uI _ 69 17 _ at e36
          refine ar_aloadn (k := 37) rfl rfl ?_
          refine ar_iloadn (k := 38) rfl rfl ?_
          refine br_putIJ (k := 39) rfl (hS.k (by decide)) flR_213_12 (by decide) rfl (fun _ _ _ q => by cases q; exact ⟨rfl, rfl⟩) (fun I39 e39 => ?_)
          change _ = uI _ 69 16 _ at e39
          have hs39 : I39 70 = s := by rw [e39, e36]; exact hs25
          have hk39 : rj I I39 := rj.f (rj.f hk25.j (by decide) e36) (by decide) e39
          refine ar_iconst (k := 40) rfl ?_
          refine ar_istoren (k := 41) (l2 := [(3, _), (2, _), (1, _), (0, _)]) rfl (by decide) rfl ?_
          refine ar_sub (l2 := [(3, vi ((0 : Nat) : Int)), (2, vi (rBestDay s)), (1, vi (rFst s)), (0, vr (some 69))]) (tw_s (tw_e 0 rfl (by rfl)) (tw_s (tw_g 1 rfl) (tw_s (tw_g 2 rfl) (tw_s (tw_g 3 rfl) tw_s0)))) ?_
          refine l2_R_joins (I := I) hS hR (s 1).toNat 0 I39 (by omega) hs39 hk39 ?_
          rw [rJ, if_pos (by omega), rJl, if_pos (by show I 69 17 = 0 ∨ I 69 16 < _; omega)]
          rw [e39, e36]
          simp only [uI_at, Int.reduceEq, reduceIte]
          rw [uI_off _ _ _ (by decide), uI_off _ _ _ (by decide), hk25.1 75 (by decide) (by decide) (by decide)]
/-- all twins apart -/
def rClN : Nat → Nat → (Int → Int) → Int → Int
  | 0, _, g => g
  | k + 1, t, g => rClN k (t + 1) (up g (94 + (t : Int)) (-1))
theorem rClN_at : ∀ (k j : Nat) (g : Int → Int) (i : Int), rClN k j g i = if 94 + (j : Int) ≤ i ∧ i < 94 + (j : Int) + (k : Int) then -1 else g i
  | 0, j, g, i => by rw [rClN, if_neg (by omega)]
  | k + 1, j, g, i => by
    rw [rClN, rClN_at k (j + 1)]
    by_cases h : i = 94 + (j : Int)
    · subst h
      rw [if_neg (by omega), up_at, if_pos (by omega)]
    · rw [up_ne _ _ h]
      by_cases g2 : 94 + ((j + 1 : Nat) : Int) ≤ i ∧ i < 94 + ((j + 1 : Nat) : Int) + (k : Int)
      · rw [if_pos g2, if_pos (by omega)]
      · rw [if_neg g2, if_neg (by omega)]
def rClr (s : Int → Int) : Int → Int := rClN (s 1).toNat 0 s
theorem rClr_at {s : Int → Int} (h1 : 0 ≤ s 1) (i : Int) : rClr s i = if 94 ≤ i ∧ i < 94 + s 1 then -1 else s i := by
  unfold rClr
  rw [rClN_at]
  by_cases h : 94 ≤ i ∧ i < 94 + s 1
  · rw [if_pos h, if_pos (by omega)]
  · rw [if_neg h, if_neg (by omega)]
theorem RInv_clr {s : Int → Int} (hR : RInv s) : RInv (rClr s) := by
  obtain ⟨h0, h1, h2, h3, h4, h5, h6, hp, hrw, ht, hr, hb, htp, hv⟩ := hR
  have e : ∀ j, (j < 94 ∨ 94 + s 1 ≤ j) → rClr s j = s j := fun j hj => by rw [rClr_at h1.1, if_neg (by omega)]
  have et : ∀ t, 0 ≤ t → t < s 1 → rClr s (94 + t) = -1 := fun t a b => by rw [rClr_at h1.1, if_pos (by omega)]
  refine ⟨by rw [e _ (by omega)]; exact h0, by rw [e _ (by omega)]; exact h1, by rw [e _ (by omega)]; exact h2, by rw [e _ (by omega)]; exact h3, by rw [e _ (by omega)]; exact h4, by rw [e _ (by omega)]; exact h5, by rw [e _ (by omega), e _ (by omega)]; exact h6, ?_, ?_, ?_, ?_, ?_, ?_, ?_⟩
  · intro q q1 q2
    rw [e (10 + q) (by omega), e (18 + q) (by omega), e (26 + q) (by omega), e (34 + q) (by omega)]
    exact hp q q1 q2
  · intro j j1 j2; rw [e _ (by omega)]; exact hrw j j1 j2
  · intro t t1 t2
    rw [e 1 (by omega)] at t2
    have w := ht t t1 t2
    rw [e (74 + t) (by omega), e (84 + t) (by omega), e (104 + t) (by omega), e 0 (by omega), et t t1 t2]
    exact ⟨w.1, w.2.1, Or.inl rfl, w.2.2.2⟩
  · intro r r1 r2
    rw [e 3 (by omega)] at r2
    rw [e (114 + r) (by omega), e (126 + r) (by omega), e (138 + r) (by omega), e 1 (by omega)]; exact hr r r1 r2
  · intro r r1 r2
    rw [e 4 (by omega)] at r2
    rw [e (150 + r) (by omega), e (162 + r) (by omega), e 1 (by omega)]; exact hb r r1 r2
  · intro i i1 i2; rw [e _ (by omega)]; exact htp i i1 i2
  · intro c c1 c2; rw [e (274 + c) (by omega), e (279 + c) (by omega)]; exact hv c c1 c2
theorem RVal_clr {s : Int → Int} (h1 : 0 ≤ s 1 ∧ s 1 ≤ 10) (hV : RVal s) : RVal (rClr s) := RVal_congr (by rw [rClr_at h1.1, if_neg (by omega)]) (fun j hj => by rw [rClr_at h1.1, if_neg (by omega)]) hV
/-- the scratch of join() -/
def ry (I J : Nat → Int → Int) : Prop := (∀ b, b ≠ 69 → b ≠ 72 → b ≠ 73 → b ≠ 74 → b ≠ 75 → J b = I b) ∧ J 69 3 = I 69 3 ∧ J 69 19 = I 69 19
def rJoinA (s : Int → Int) (q : tJS) (k : Int) : Int := if ¬ (-1 ≤ k ∧ k ≤ s 1 - 1) then -10001 else if 6 < s 1 ∨ s 1 % 2 = 1 then -9 else if k = -1 then (rJ 8 (rClr s) (0, q.2.1, q.2.2)).2.1 else (rJ 8 (rClr s) (0, q.2.1, q.2.2)).2.2 k
theorem l3_R_join {s : Int → Int} {I : Nat → Int → Int} {w : Int} {q : tJS} (hS : tSt (K, I, Q, n)) (hR : RInv s) (w1 : -1 ≤ w ∧ w < 10) (hq : rJoinA s (jq I) w = if w = -1 then q.2.1 else q.2.2 w) (hqb : -12000000 ≤ q.2.1 ∧ q.2.1 ≤ 12000000) : ∀ (k j : Nat) (J : Nat → Int → Int), j + k = (s 1).toNat → (∀ i, J 70 i = if 94 + (j : Int) ≤ i ∧ i < 94 + s 1 then -1 else s i) → (∀ t : Nat, (t : Int) < s 1 → J 74 (t : Int) = s (94 + (t : Int))) → jq J = q → (∀ b, b ≠ 69 → b ≠ 70 → b ≠ 72 → b ≠ 73 → b ≠ 74 → b ≠ 75 → J b = I b) → I 70 = s → J 69 3 = I 69 3 → J 69 19 = I 69 19 → tw_AW l G mR_join 27 0 0 n 0 (fun r h' => r = some (vi (rJoinA s (jq I) w)) ∧ ∃ J, h' = (K, J, Q, n) ∧ ry I J ∧ (-12000000 ≤ J 69 16 ∧ J 69 16 ≤ 12000000)) 100 [(2, vi (j : Int)), (0, vr (some 69)), (1, vi w)] [] (K, J, Q, n) := by
  obtain ⟨h0, h1, h2, h3, h4, h5, h6, hp, hrw, ht, hr, hb, htp, hv⟩ := id hR
  intro k
  induction k with
  | zero =>
    intro j J hj hx h74 hjq ho hs0 g3 g19
    have hs : J 70 = s := by funext i; rw [hx, if_neg (by omega)]
    refine ar_iloadn (k := 62) rfl rfl ?_
    refine ar_aloadn (k := 63) rfl rfl ?_
    refine br_getR (k := 64) rfl (hS.k (by decide)) flR_9_12 (by decide) rfl (hS.r rfl) ?_
    refine ar_iconst (k := 65) rfl ?_
    refine br_iads (k := 66) rfl (hS.k (by decide)) (by omega) (by omega) (by decide) hs ?_
    refine ar_icmp_ge (k := 67) rfl (by omega) (by omega) (fun c67 => ?_) (fun c67 => ?_)
    · refine ar_iloadn (k := 80) rfl rfl ?_
      refine ar_iconst (k := 81) rfl ?_
      refine ar_icmp_ne (k := 82) rfl (by omega) (by omega) (fun c82 => ?_) (fun c82 => ?_)
      · refine ar_aloadn (k := 86) rfl rfl ?_
        refine br_getR (k := 87) rfl (hS.k (by decide)) flR_28_12 (by decide) rfl (hS.r rfl) ?_
        refine ar_iloadn (k := 88) rfl rfl ?_
        refine br_iald (k := 89) rfl (hS.k (by decide)) (by omega) (by omega) (by decide) ?_
        refine tw_top (y := q.2.2 w) (by exact congrFun (congrArg (fun z => z.2.2) hjq) w) ?_
        refine ar_iret (k := 90) rfl rfl rfl (Nat.le_refl _) ?_
        refine ⟨congrArg (fun z => some (vi z)) ?_, J, rfl, ⟨fun b b1 b2 b3 b4 b5 => ?_, g3, g19⟩, by rw [show J 69 16 = q.2.1 from congrArg (fun z => z.2.1) hjq]; exact hqb⟩
        · rw [hq]
          (repeat' split) <;> first | rfl | (exfalso; omega)
        · by_cases hb : b = 70
          · subst hb; rw [hs, hs0]
          · exact ho b b1 hb b2 b3 b4 b5
      · refine ar_aloadn (k := 83) rfl rfl ?_
        refine br_getI (k := 84) rfl (hS.k (by decide)) flR_213_12 (by decide) rfl ?_
        refine tw_top (y := q.2.1) (by exact congrArg (fun z => z.2.1) hjq) ?_
        refine ar_goto (k := 85) rfl ?_
        refine ar_iret (k := 90) rfl rfl rfl (Nat.le_refl _) ?_
        refine ⟨congrArg (fun z => some (vi z)) ?_, J, rfl, ⟨fun b b1 b2 b3 b4 b5 => ?_, g3, g19⟩, by rw [show J 69 16 = q.2.1 from congrArg (fun z => z.2.1) hjq]; exact hqb⟩
        · rw [hq]
          (repeat' split) <;> first | rfl | (exfalso; omega)
        · by_cases hb : b = 70
          · subst hb; rw [hs, hs0]
          · exact ho b b1 hb b2 b3 b4 b5
    · exfalso; omega
  | succ k ih =>
    intro j J hj hx h74 hjq ho hs0 g3 g19
    have e1 : J 70 1 = s 1 := by rw [hx, if_neg (by omega)]
    refine ar_iloadn (k := 62) rfl rfl ?_
    refine ar_aloadn (k := 63) rfl rfl ?_
    refine br_getR (k := 64) rfl (hS.k (by decide)) flR_9_12 (by decide) rfl (hS.r rfl) ?_
    refine ar_iconst (k := 65) rfl ?_
    refine br_iald (k := 66) rfl (hS.k (by decide)) (by omega) (by omega) (by decide) ?_
    refine tw_top (y := s 1) (by exact e1) ?_
    refine ar_icmp_ge (k := 67) rfl (by omega) (by omega) (fun c67 => ?_) (fun c67 => ?_)
    · exfalso; omega
    · refine ar_aloadn (k := 68) rfl rfl ?_
      refine br_getR (k := 69) rfl (hS.k (by decide)) flR_9_12 (by decide) rfl (hS.r rfl) ?_
      refine ar_bipush (k := 70) rfl (by decide) ?_
      refine ar_iloadn (k := 71) rfl rfl ?_
      refine ar_iadd (k := 72) rfl ?_
      refine ar_aloadn (k := 73) rfl rfl ?_
      refine br_getR (k := 74) rfl (hS.k (by decide)) flR_25_12 (by decide) rfl (hS.r rfl) ?_
      refine ar_iloadn (k := 75) rfl rfl ?_
      refine br_iald (k := 76) rfl (hS.k (by decide)) (by omega) (by omega) (by decide) ?_
      refine tw_top (y := s (94 + (j : Int))) (by exact h74 j (by omega)) ?_
      refine br_iast (k := 77) rfl (hS.k (by decide)) (by omega) (by omega) (by decide) ?_
      refine ar_iinc (k := 78) (l2 := [(2, _), (0, _), (1, _)]) rfl (by decide) rfl rfl ?_
      refine ar_goto (k := 79) rfl ?_
      refine ar_sub (l2 := [(2, vi ((j + 1 : Nat) : Int)), (0, vr (some 69)), (1, vi w)]) (tw_s (tw_e 0 rfl (by omega)) (tw_s (tw_g 1 rfl) (tw_s (tw_g 2 rfl) tw_s0))) ?_
      refine ih (j + 1) _ (by omega) (fun i => ?_) h74 hjq (fun b b1 b2 b3 b4 b5 b6 => ?_) hs0 g3 g19
      · rw [uI_at]
        by_cases hi : i = 94 + (j : Int)
        · subst hi; rw [if_pos rfl, if_neg (by omega)]
        · rw [if_neg hi, hx]
          by_cases g2 : 94 + (j : Int) ≤ i ∧ i < 94 + s 1
          · rw [if_pos g2, if_pos (by omega)]
          · rw [if_neg g2, if_neg (by omega)]
      · rw [uI_off _ _ _ b2]; exact ho b b1 b2 b3 b4 b5 b6
theorem l1_R_join {s : Int → Int} {I : Nat → Int → Int} {w : Int} {P : Option tV → tH → Prop} (hS : tSt (K, I, Q, n)) (hR : RInv s) (cont : ∀ (j : Int) (J : Nat → Int → Int), J 70 = rClr s → (∀ t : Nat, (t : Int) < s 1 → J 74 (t : Int) = s (94 + (t : Int))) → (∀ b, b ≠ 70 → b ≠ 74 → J b = I b) → tw_AW l G mR_join 27 0 0 n 0 P 89 [(2, vi j), (0, vr (some 69)), (1, vi w)] [] (K, J, Q, n)) : ∀ (k j : Nat) (J : Nat → Int → Int), j + k = (s 1).toNat → (∀ i, J 70 i = if 94 ≤ i ∧ i < 94 + (j : Int) then -1 else s i) → (∀ t : Nat, t < j → J 74 (t : Int) = s (94 + (t : Int))) → (∀ b, b ≠ 70 → b ≠ 74 → J b = I b) → tw_AW l G mR_join 27 0 0 n 0 P 48 [(2, vi (j : Int)), (0, vr (some 69)), (1, vi w)] [] (K, J, Q, n) := by
  obtain ⟨h0, h1, h2, h3, h4, h5, h6, hp, hrw, ht, hr, hb, htp, hv⟩ := id hR
  intro k
  induction k with
  | zero =>
    intro j J hj hx h74 ho
    have e1 : J 70 1 = s 1 := by rw [hx, if_neg (by omega)]
    refine ar_iloadn (k := 30) rfl rfl ?_
    refine ar_aloadn (k := 31) rfl rfl ?_
    refine br_getR (k := 32) rfl (hS.k (by decide)) flR_9_12 (by decide) rfl (hS.r rfl) ?_
    refine ar_iconst (k := 33) rfl ?_
    refine br_iald (k := 34) rfl (hS.k (by decide)) (by omega) (by omega) (by decide) ?_
    refine tw_top (y := s 1) (by exact e1) ?_
    refine ar_icmp_ge (k := 35) rfl (by omega) (by omega) (fun c35 => ?_) (fun c35 => ?_)
    · refine cont _ J (by funext i; rw [hx, rClr_at h1.1, show (j : Int) = s 1 by omega]) (fun t ht2 => h74 t (by omega)) ho
    · exfalso; omega
  | succ k ih =>
    intro j J hj hx h74 ho
    have e1 : J 70 1 = s 1 := by rw [hx, if_neg (by omega)]
    have e2 : J 70 (94 + (j : Int)) = s (94 + (j : Int)) := by rw [hx, if_neg (by omega)]
    refine ar_iloadn (k := 30) rfl rfl ?_
    refine ar_aloadn (k := 31) rfl rfl ?_
    refine br_getR (k := 32) rfl (hS.k (by decide)) flR_9_12 (by decide) rfl (hS.r rfl) ?_
    refine ar_iconst (k := 33) rfl ?_
    refine br_iald (k := 34) rfl (hS.k (by decide)) (by omega) (by omega) (by decide) ?_
    refine tw_top (y := s 1) (by exact e1) ?_
    refine ar_icmp_ge (k := 35) rfl (by omega) (by omega) (fun c35 => ?_) (fun c35 => ?_)
    · exfalso; omega
    · refine ar_aloadn (k := 36) rfl rfl ?_
      refine br_getR (k := 37) rfl (hS.k (by decide)) flR_25_12 (by decide) rfl (hS.r rfl) ?_
      refine ar_iloadn (k := 38) rfl rfl ?_
      refine ar_aloadn (k := 39) rfl rfl ?_
      refine br_getR (k := 40) rfl (hS.k (by decide)) flR_9_12 (by decide) rfl (hS.r rfl) ?_
      refine ar_bipush (k := 41) rfl (by decide) ?_
      refine ar_iloadn (k := 42) rfl rfl ?_
      refine ar_iadd (k := 43) rfl ?_
      refine br_iald (k := 44) rfl (hS.k (by decide)) (by omega) (by omega) (by decide) ?_
      refine tw_top (y := s (94 + (j : Int))) (by exact e2) ?_
      refine br_iast (k := 45) rfl (hS.k (by decide)) (by omega) (by omega) (by decide) ?_
      refine ar_aloadn (k := 46) rfl rfl ?_
      refine br_getR (k := 47) rfl (hS.k (by decide)) flR_9_12 (by decide) rfl (hS.r rfl) ?_
      refine ar_bipush (k := 48) rfl (by decide) ?_
      refine ar_iloadn (k := 49) rfl rfl ?_
      refine ar_iadd (k := 50) rfl ?_
      refine ar_iconst (k := 51) rfl ?_
      refine br_iast (k := 52) rfl (hS.k (by decide)) (by omega) (by omega) (by decide) ?_
      refine ar_iinc (k := 53) (l2 := [(2, _), (0, _), (1, _)]) rfl (by decide) rfl rfl ?_
      refine ar_goto (k := 54) rfl ?_
      refine ar_sub (l2 := [(2, vi ((j + 1 : Nat) : Int)), (0, vr (some 69)), (1, vi w)]) (tw_s (tw_e 0 rfl (by omega)) (tw_s (tw_g 1 rfl) (tw_s (tw_g 2 rfl) tw_s0))) ?_
      refine ih (j + 1) _ (by omega) (fun i => ?_) (fun t ht2 => ?_) (fun b b1 b2 => ?_)
      · rw [uI_at]
        by_cases hi : i = 94 + (j : Int)
        · subst hi; rw [if_pos rfl, if_pos (by omega)]
        · rw [if_neg hi, uI_off _ _ _ (by decide), hx]
          by_cases g2 : 94 ≤ i ∧ i < 94 + (j : Int)
          · rw [if_pos g2, if_pos (by omega)]
          · rw [if_neg g2, if_neg (by omega)]
      · rw [uI_off _ _ _ (by decide), uI_at]
        by_cases ht3 : t = j
        · subst ht3; rw [if_pos rfl]
        · rw [if_neg (by omega)]; exact h74 t (by omega)
      · rw [uI_off _ _ _ b1, uI_off _ _ _ b2]; exact ho b b1 b2
theorem c_R_join {s : Int → Int} {I : Nat → Int → Int} {w : Int} (hS : tSt (K, I, Q, n)) (hs : I 70 = s) (hR : RInv s) (hV : RVal s) (hq : -12000000 ≤ I 69 16 ∧ I 69 16 ≤ 12000000) (tw : tr w) : tw_M l G 27 0 0 mR_join [vr (some 69), vi w] (K, I, Q, n) (fun r h' => r = some (vi (rJoinA s (jq I) w)) ∧ ∃ J, h' = (K, J, Q, n) ∧ ry I J ∧ (-12000000 ≤ J 69 16 ∧ J 69 16 ≤ 12000000)) := by
  obtain ⟨h0, h1, h2, h3, h4, h5, h6, hp, hrw, ht, hr, hb, htp, hv⟩ := id hR
  refine tw_intro okR_join (Nat.le_of_ble_eq_true rfl) ?_
  refine ar_iloadn (k := 0) rfl rfl ?_
  refine ar_iconst (k := 1) rfl ?_
  refine ar_aloadn (k := 2) rfl rfl ?_
  refine br_getR (k := 3) rfl (hS.k (by decide)) flR_9_12 (by decide) rfl (hS.r rfl) ?_
  refine ar_iconst (k := 4) rfl ?_
  refine br_iads (k := 5) rfl (hS.k (by decide)) (by omega) (by omega) (by decide) hs ?_
  refine ar_iconst (k := 6) rfl ?_
  refine ar_isub (k := 7) rfl ?_
  refine br_callS (k := 8) (as := [_, _, _]) rfl lsR_38 (c_R_in (by omega) (by omega) (by omega)) rfl (by decide) (by decide) tw_m0 (Nat.le_of_ble_eq_true rfl) ?_
  refine ar_if_ne (k := 9) rfl (by omega) (fun c9 => ?_) (fun c9 => ?_)
  · refine ar_aloadn (k := 12) rfl rfl ?_
    refine br_getR (k := 13) rfl (hS.k (by decide)) flR_9_12 (by decide) rfl (hS.r rfl) ?_
    refine ar_iconst (k := 14) rfl ?_
    refine br_iads (k := 15) rfl (hS.k (by decide)) (by omega) (by omega) (by decide) hs ?_
    refine ar_bipush (k := 16) rfl (by decide) ?_
    refine ar_icmp_gt (k := 17) rfl (by omega) (by omega) (fun c17 => ?_) (fun c17 => ?_)
    · refine ar_bipush (k := 26) rfl (by decide) ?_
      refine ar_iret (k := 27) rfl rfl rfl (Nat.le_refl _) ?_
      refine ⟨congrArg (fun z => some (vi z)) ?_, I, rfl, ⟨fun _ _ _ _ _ _ => rfl, rfl, rfl⟩, hq⟩
      unfold rJoinA
      (repeat' split) <;> first | rfl | (exfalso; omega)
    · refine ar_aloadn (k := 18) rfl rfl ?_
      refine br_getR (k := 19) rfl (hS.k (by decide)) flR_9_12 (by decide) rfl (hS.r rfl) ?_
      refine ar_iconst (k := 20) rfl ?_
      refine br_iads (k := 21) rfl (hS.k (by decide)) (by omega) (by omega) (by decide) hs ?_
      refine ar_iconst (k := 22) rfl ?_
      refine ar_irem (k := 23) rfl (by omega) (by omega) (by omega) ?_
      refine tw_top (y := s 1 % 2) (by exact Int.tmod_eq_emod_of_nonneg (by omega)) ?_
      refine ar_iconst (k := 24) rfl ?_
      refine ar_icmp_ne (k := 25) rfl (by omega) (by omega) (fun c25 => ?_) (fun c25 => ?_)
      · refine ar_iconst (k := 28) rfl ?_
        refine ar_istoren (k := 29) (l2 := [(2, _), (0, _), (1, _)]) rfl (by decide) rfl ?_
        refine ar_sub (l2 := [(2, vi ((0 : Nat) : Int)), (0, vr (some 69)), (1, vi w)]) (tw_s (tw_e 0 rfl (by rfl)) (tw_s (tw_g 1 rfl) (tw_s (tw_g 2 rfl) tw_s0))) ?_
        refine l1_R_join (I := I) hS hR ?_ (s 1).toNat 0 I (by omega) (fun i => by rw [if_neg (by omega), hs]) (fun t ht2 => absurd ht2 (Nat.not_lt_zero t)) (fun _ _ _ => rfl)
        intro j2 J2 h70 h74 ho
        refine ar_aloadn (k := 55) rfl rfl ?_
        refine ar_iconst (k := 56) rfl ?_
        refine br_putZJ (k := 57) rfl (hS.k (by decide)) flR_210_12 (by decide) rfl (by omega) (fun _ _ _ q => by cases q; exact ⟨rfl, rfl⟩) (fun I57 e57 => ?_)
        change _ = uI _ 69 17 _ at e57
        have hc1 : rClr s 1 = s 1 := by rw [rClr_at h1.1, if_neg (by omega)]
        have c1 := (rFst_le (s := rClr s) (by omega)).1
        have j57 : jq I57 = (0, I 69 16, I 75) := by
          rw [e57]
          simp only [jq, uI_at, Int.reduceEq, reduceIte]
          rw [uI_off _ _ _ (by decide), ho 69 (by decide) (by decide), ho 75 (by decide) (by decide)]
        refine ar_aloadn (k := 58) rfl rfl ?_
        refine ar_callV (k := 59) (as := []) rfl lvR_216 (hS.k (by decide)) rfl (c_R_joins 8 (rClr s) I57 hS (by rw [e57]; exact h70) (RInv_clr hR) (RVal_clr h1 hV) (by omega) (by rw [j57]; exact ⟨Or.inl rfl, hq⟩)) rfl (by decide) (by decide) tw_m0 (Nat.le_of_ble_eq_true rfl) (fun r h' hp => ?_)
        obtain ⟨rfl, I59, rfl, q59, hX⟩ := hp
        refine ar_iconst (k := 60) rfl ?_
        refine ar_istoren (k := 61) (l2 := [(2, _), (0, _), (1, _)]) rfl (by decide) rfl ?_
        refine ar_sub (l2 := [(2, vi ((0 : Nat) : Int)), (0, vr (some 69)), (1, vi w)]) (tw_s (tw_e 0 rfl (by rfl)) (tw_s (tw_g 1 rfl) (tw_s (tw_g 2 rfl) tw_s0))) ?_
        refine l3_R_join (q := rJ 8 (rClr s) (0, I 69 16, I 75)) hS hR (by omega) (by rw [rJoinA, if_neg (by omega), if_neg (by omega)]) (rJ_b 8 _ _ (RInv_clr hR) (RVal_clr h1 hV) ⟨Or.inl rfl, hq⟩).2 (s 1).toNat 0 I59 (by omega) (fun i => ?_) (fun t ht2 => ?_) (by rw [hX, j57]) (fun b b1 b2 b3 b4 b5 b6 => ?_) hs ?_ ?_
        · rw [q59.s, e57, uI_off _ _ _ (by decide), h70, rClr_at h1.1]
          rfl
        · rw [q59.1 74 (by decide) (by decide) (by decide) (by decide), e57, uI_off _ _ _ (by decide)]
          exact h74 t ht2
        · rw [q59.1 b b1 b3 b4 b6, e57, uI_off _ _ _ b1]
          exact ho b b2 b5
        · rw [q59.2 3 (by decide) (by decide) (by decide) (by decide) (by decide), e57, uI_at, if_neg (by decide), ho 69 (by decide) (by decide)]
        · rw [q59.2 19 (by decide) (by decide) (by decide) (by decide) (by decide), e57, uI_at, if_neg (by decide), ho 69 (by decide) (by decide)]
      · refine ar_bipush (k := 26) rfl (by decide) ?_
        refine ar_iret (k := 27) rfl rfl rfl (Nat.le_refl _) ?_
        refine ⟨congrArg (fun z => some (vi z)) ?_, I, rfl, ⟨fun _ _ _ _ _ _ => rfl, rfl, rfl⟩, hq⟩
        unfold rJoinA
        (repeat' split) <;> first | rfl | (exfalso; omega)
  · refine ar_sipush (k := 10) rfl (by decide) ?_
    refine ar_iret (k := 11) rfl rfl rfl (Nat.le_refl _) ?_
    refine ⟨congrArg (fun z => some (vi z)) ?_, I, rfl, ⟨fun _ _ _ _ _ _ => rfl, rfl, rfl⟩, hq⟩
    unfold rJoinA
    (repeat' split) <;> first | rfl | (exfalso; omega)
end RO
