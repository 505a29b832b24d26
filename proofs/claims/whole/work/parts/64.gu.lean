section GUs
variable {K : Nat → Nat × Nat} {I J L : Nat → Int → Int} {Q Q2 : Nat → Int → Option Nat} {n : Nat} {s s2 : Int → Int}
theorem uQ_same {a : Nat} {i : Int} {x : Option Nat} : uQ (uQ Q a i x) a i x = uQ Q a i x := by
  funext b j
  unfold uQ upQ
  by_cases h : b = a
  · subst h; simp only [if_pos]; by_cases g : j = i <;> simp [g]
  · simp [h]
theorem WP.se {w : Nat} (h : WP w K I Q n s) (e : ∀ j, j = 0 ∨ (10 ≤ j ∧ j < 34) → s2 j = s j) (b : s 0 ≤ 8) : WP w K I Q n s2 := fun p p1 p2 => by
  rw [e 0 (by omega)] at p2
  rw [e (10 + p) (by omega), e (18 + p) (by omega), e (26 + p) (by omega)]
  exact h p p1 p2
theorem WV.se {w : Nat} (h : WV w K I Q n s) (e : ∀ j, j = 2 ∨ 274 ≤ j → s2 j = s j) : WV w K I Q n s2 := fun x x1 x2 => by
  rw [e 2 (by omega)] at x2
  have eo : rOut s2 x = rOut s x := by
    unfold rOut
    rw [e (279 + x) (by omega)]
    apply List.map_congr_left
    intro i _
    exact e _ (by omega)
  rw [e (274 + x) (by omega), eo]
  exact h x x1 x2
/-- the guess holds the numbers s -/
def GU (K : Nat → Nat × Nat) (I : Nat → Int → Int) (Q : Nat → Int → Option Nat) (n : Nat) (s : Int → Int) : Prop := tSt (K, I, Q, n) ∧ WN 27 I s ∧ WP 27 K I Q n s ∧ WV 27 K I Q n s ∧ I 57 0 = 0 ∧ I 59 0 = 0
theorem GU.k (h : GU K I Q n s) (g : cq K I J) : GU K J Q n s := ⟨h.1, WN.q27 h.2.1 h.1 g, h.2.2.1.q g, h.2.2.2.1.q g, g.2.1.trans h.2.2.2.2.1, g.2.2.1.trans h.2.2.2.2.2⟩
theorem GU.q (h : GU K I Q n s) (x : Option Nat) : GU K I (uQ Q 40 1 x) n s := by
  obtain ⟨a1, a2, a3, a4, a5⟩ := h
  refine ⟨a1.q40 x, a2, fun p p1 p2 => ?_, fun y y1 y2 => ?_, a5⟩
  · obtain ⟨a, b1, b2⟩ := a3 p p1 p2; exact ⟨a, by rw [q40_ne _ (by decide)]; exact b1, b2⟩
  · obtain ⟨v, C, b1, b2, b3⟩ := a4 y y1 y2; exact ⟨v, C, by rw [q40_ne _ (by decide)]; exact b1, b2.qg (qg.q40 x), b3⟩
/-- a write into the guess's numbers -/
theorem GU.w {a : Nat} {i x : Int} (h : GU K I Q n s) (ha : 27 ≤ a ∧ a < 40) (hN : WN 27 (uI I a i x) s2) (e1 : ∀ j, j = 0 ∨ (10 ≤ j ∧ j < 34) → s2 j = s j) (e2 : ∀ j, j = 2 ∨ 274 ≤ j → s2 j = s j) (b : s 0 ≤ 8) : GU K (uI I a i x) Q n s2 := by
  obtain ⟨a1, a2, a3, a4, a5, a6⟩ := h
  refine ⟨a1, hN, fun p p1 p2 => ?_, fun y y1 y2 => ?_, by rw [uI_off _ _ _ (by omega)]; exact a5, by rw [uI_off _ _ _ (by omega)]; exact a6⟩
  · obtain ⟨c, b1, b2⟩ := (a3.se e1 b) p p1 p2
    refine ⟨c, b1, b2.1, b2.2.1, b2.2.2.1, ?_⟩
    rw [uI_off _ _ _ (by have := b2.1; omega)]; exact b2.2.2.2
  · obtain ⟨v, C, b1, b2, b3, b4, b5⟩ := (a4.se e2) y y1 y2
    have hv := b2.1
    refine ⟨v, C, b1, b2, by rw [uI_off _ _ _ (by omega)]; exact b3, b4.g ⟨uI_off _ _ _ (by omega), uI_off _ _ _ (by omega), uI_off _ _ _ (by omega), uI_off _ _ _ (by omega)⟩, b5⟩
theorem cg.w {a : Nat} {i x : Int} (h : cg K I J) (ha : 27 ≤ a ∧ a < 40) : cg K I (uI J a i x) := h.trans ⟨fun b b1 _ _ => uI_off _ _ _ (by omega), by rw [uI_off _ _ _ (by omega)], by rw [uI_off _ _ _ (by omega)]⟩
theorem PW.fm (h : PW I s) (hs : s 1 ≤ 10) (g : ∀ a, 42 ≤ a → a < 52 → J a = I a) : PW J s := fun t t1 t2 t3 u u1 u2 => by rw [g _ (by omega) (by omega)]; exact h t t1 t2 t3 u u1 u2
/-- the guess as the world that is now -/
theorem GU.cp (hS : tSt (K, I, Q, n)) (hN : WN 1 I s) (hP : WP 1 K I Q n s) (hW : WV 1 K I Q n s) (h57 : I 57 0 = 0) (h59 : I 59 0 = 0) (f : FC I J 1 27) (e : ∀ c, c < 27 ∨ 39 < c → J c = I c) (q : ∀ c, c ≠ 29 → c ≠ 30 → Q2 c = Q c) (q8 : ∀ x, 0 ≤ x → x < 8 → Q2 30 x = Q 4 x) (q5 : ∀ x, 0 ≤ x → x < 5 → Q2 29 x = Q 3 x) (b2 : s 2 ≤ 5) : GU K J Q2 n s ∧ cg K I J ∧ qg Q Q2 := by
  have hb := hN.bd
  have hg : cg K I J := ⟨fun b b1 _ _ => e b (by omega), by rw [e 57 (by omega)], by rw [e 59 (by omega)]⟩
  have hq : qg Q Q2 := fun a ha => q a (by omega) (by omega)
  refine ⟨⟨?_, f.wn hN, fun p p1 p2 => ?_, fun x x1 x2 => ?_, by rw [e 57 (by omega)]; exact h57, by rw [e 59 (by omega)]; exact h59⟩, hg, hq⟩
  · refine ⟨hS.1, hS.2.1, fun a k c h => ?_⟩
    have h1 := hS.2.2 a k c h
    show Q2 a (k : Int) = some c
    by_cases g1 : a = 29
    · subst g1; exfalso; revert h; show ([] : List (Option Nat)).getD k none = some c → False; simp
    · by_cases g2 : a = 30
      · subst g2; exfalso; revert h; show ([] : List (Option Nat)).getD k none = some c → False; simp
      · rw [q a g1 g2]; exact h1
  · obtain ⟨a, c1, c2⟩ := hP p p1 p2
    exact ⟨a, by show Q2 30 p = _; rw [q8 p p1 (by omega)]; exact c1, c2.g hg⟩
  · obtain ⟨v, C, c1, c2, c3, c4, c5⟩ := hW x x1 x2
    have eg := c2.g hg
    exact ⟨v, C, by show Q2 29 x = _; rw [q5 x x1 (by omega)]; exact c1, c2.qg hq, by rw [eg.1]; exact c3, c4.g eg, c5⟩
/-- fewer are free: less -/
theorem rRun_cg {b : Int → Int} {f0 : Int} : ∀ k : Nat, (∀ j : Nat, j < k → s2 (f0 + (j : Int)) = s (f0 + (j : Int))) → rRun b s2 f0 k = rRun b s f0 k
  | 0, _ => rfl
  | k + 1, h => by rw [rRun, rRun, rRun_cg k (fun j hj => h j (by omega)), h k (by omega)]
theorem rWorth_free {p t u : Int} (hR : RInv s) (p1 : 0 ≤ p ∧ p < 8) (t1 : 0 ≤ t ∧ t < s 1) (t2 : s (94 + t) ≠ -1) : rWorth (up s (34 + p) 0) t u = rWorth s t u := by
  obtain ⟨h0, h1, h2, h3, h4, h5, h6, hp, hrw, ht, hr, hb, htp, hv⟩ := hR
  have e : ∀ j, j ≠ 34 + p → up s (34 + p) 0 j = s j := fun j hj => up_ne _ _ hj
  have w1 := ht t t1.1 t1.2
  have el : rLess (up s (34 + p) 0) t = rLess s t := by unfold rLess; rw [e (94 + t) (by omega)]
  have hl : 0 ≤ rLess s t ∧ rLess s t < s 1 ∧ s (94 + rLess s t) ≠ -1 := by
    unfold rLess
    by_cases g : s (94 + t) < t
    · rw [if_pos g]; exact ⟨by omega, by omega, by omega⟩
    · rw [if_neg g]; exact ⟨t1.1, t1.2, t2⟩
  have w2 := ht (rLess s t) hl.1 hl.2.1
  have w3 := ht (s (94 + rLess s t)) (by omega) (by omega)
  have eb : rBy (up s (34 + p) 0) t u = rBy s t u := by
    funext j
    unfold rBy
    rw [el, e (74 + rLess s t) (by omega), e (84 + rLess s t) (by omega), e (94 + rLess s t) (by omega), e (84 + s (94 + rLess s t)) (by omega), e (10 + s (84 + rLess s t)) (by omega), e (26 + s (84 + rLess s t)) (by omega), e (26 + s (84 + s (94 + rLess s t))) (by omega)]
  unfold rWorth
  rw [e 6 (by omega), eb]
  by_cases g : s 6 = -1
  · rw [if_pos g, if_pos g]
  · rw [if_neg g, if_neg g, e (279 + s 6) (by omega), rRun_cg _ (fun j _ => e _ (by omega))]
theorem lst_free {p : Int} {u : Nat} (hu : u < 24) (hR : RInv s) (hp : 0 ≤ p ∧ p < 8) : ∀ (Lt : List Nat) (y z : tY), z ∈ lst (up s (34 + p) 0) (u : Int) Lt y → (∀ t ∈ Lt, (t : Int) < s 1 ∧ (t : Int) < s (94 + (t : Int))) → z ∈ lst s (u : Int) Lt y
  | [], y, z, h, _ => h
  | t :: r, y, z, h, hl => by
    have e : ∀ j, j ≠ 34 + p → up s (34 + p) 0 j = s j := fun j hj => up_ne _ _ hj
    have ht := hl t List.mem_cons_self
    have hr := fun x hx => hl x (List.mem_cons_of_mem _ hx)
    have w1 := hR.2.2.2.2.2.2.2.2.2.1 (t : Int) (by omega) ht.1
    have w2 := hR.2.2.2.2.2.2.2.2.2.1 (s (94 + (t : Int))) (by omega) (by omega)
    have h8 := hR.1
    have ew : rWorth (up s (34 + p) 0) (t : Int) (u : Int) = rWorth s (t : Int) (u : Int) := rWorth_free hR hp (by omega) (by omega)
    have ey : yInc (up s (34 + p) 0) (u : Int) y t = yInc s (u : Int) y t := by
      unfold yInc
      rw [ew, e (94 + (t : Int)) (by omega), e (84 + (t : Int)) (by omega), e (84 + s (94 + (t : Int))) (by omega)]
    have ef : ∀ q : Int, rFreeP (up s (34 + p) 0) q (u : Int) → rFreeP s q (u : Int) := fun q hq => by
      unfold rFreeP at hq ⊢
      by_cases g : q = p
      · subst g
        rw [up_at, ib_bit1 _ (by omega), ib_0] at hq
        cases hq
      · rw [e (34 + q) (by omega)] at hq
        exact hq
    rw [lst, List.mem_append] at h ⊢
    rcases h with h | h
    · exact Or.inl (lst_free hu hR hp r y z h hr)
    · right
      by_cases c : rCanP (up s (34 + p) 0) (t : Int) (u : Int) y.2.1
      · rw [if_pos c, ey] at h
        obtain ⟨c1, c2, c3, c4, c5, c6⟩ := c
        rw [e (94 + (t : Int)) (by omega)] at c1 c2 c4 c6
        rw [e (84 + (t : Int)) (by omega)] at c2 c3 c5
        rw [e (84 + s (94 + (t : Int))) (by omega)] at c2 c4 c6
        rw [e (104 + (t : Int)) (by omega), e (104 + s (94 + (t : Int))) (by omega)] at c1
        rw [if_pos ⟨c1, c2, ef _ c3, ef _ c4, c5, c6⟩]
        exact lst_free hu hR hp r _ z h hr
      · rw [if_neg c] at h; cases h
theorem prsN_cg : ∀ (k t : Nat), (∀ j : Nat, j < t + k → s2 (94 + (j : Int)) = s (94 + (j : Int))) → prsN s2 k t = prsN s k t
  | 0, _, _ => rfl
  | k + 1, t, h => by rw [prsN, prsN, h t (by omega), prsN_cg k (t + 1) (fun j hj => h j (by omega))]
theorem smV_le {g g' : Nat → Int} {m : Nat} (h : ∀ i, i < m → g i ≤ g' i) : ∀ (k j : Nat) (a a' : Int), j + k ≤ m → a ≤ a' → smV g k j a ≤ smV g' k j a'
  | 0, _, _, _, _, ha => ha
  | k + 1, j, a, a', hk, ha => by rw [smV, smV]; exact smV_le h k (j + 1) _ _ (by omega) (by have := h j (by omega); omega)
theorem rAway_0 {p : Int} (hR : RInv s) (hp : 0 ≤ p ∧ p < 8) : 0 ≤ rAway s p := by
  have hR2 : RInv (up s (34 + p) 0) := RInv_free hp (by omega) hR
  have h1 := hR.2.1
  have e1 : up s (34 + p) 0 1 = s 1 := up_ne _ _ (by omega)
  have ep : prs (up s (34 + p) 0) = prs s := by
    unfold prs
    rw [e1]
    exact prsN_cg _ _ (fun j _ => up_ne _ _ (by omega))
  have : rBestDay (up s (34 + p) 0) ≤ rBestDay s := by
    unfold rBestDay
    refine smV_le (m := 24) (fun u hu => ?_) 24 0 0 0 (by omega) (by omega)
    obtain ⟨⟨z, z1, z2, -⟩, -⟩ := rMost_ch (u := (u : Int)) hR2
    rw [ep] at z1
    have hz := lst_free hu hR hp (prs s) y0 z z1 (fun t ht => by have := prsN_mem _ _ _ ht; exact ⟨by omega, this.2.2⟩)
    have := (rMost_ch (u := (u : Int)) hR).2.1 z hz
    omega
  unfold rAway
  omega
end GUs
section NUs
variable {K : Nat → Nat × Nat} {I J L : Nat → Int → Int} {Q Q' : Nat → Int → Option Nat} {n : Nat} {s : Int → Int}
theorem qg.t {Q1 Q2 Q3 : Nat → Int → Option Nat} (h : qg Q1 Q2) (g : qg Q2 Q3) : qg Q1 Q3 := fun a ha => (g a ha).trans (h a ha)
def q27 (R S : Nat → Int → Option Nat) : Prop := S = R ∨ S = uQ R 40 1 (some 27)
theorem q27.rf {R : Nat → Int → Option Nat} : q27 R R := Or.inl rfl
theorem q27.t {R S U : Nat → Int → Option Nat} (h : q27 R S) (g : q27 S U) : q27 R U := by
  rcases h with rfl | rfl
  · exact g
  · rcases g with rfl | rfl
    · exact Or.inr rfl
    · exact Or.inr uQ_same
theorem q27.g {R S : Nat → Int → Option Nat} (h : q27 R S) : qg R S := by
  rcases h with rfl | rfl
  · exact qg.rf
  · exact qg.q40 _
/-- the world that is now holds the numbers s -/
def NU (K : Nat → Nat × Nat) (I : Nat → Int → Int) (Q : Nat → Int → Option Nat) (n : Nat) (s : Int → Int) : Prop := tSt (K, I, Q, n) ∧ WN 1 I s ∧ WP 1 K I Q n s ∧ WV 1 K I Q n s ∧ QH K Q n 1 ∧ I 57 0 = 0 ∧ I 59 0 = 0
theorem QH.qg (h : QH K Q n 1) (g : qg Q Q') : QH K Q' n 1 := by
  refine ⟨fun x x1 x2 b e => h.1 x x1 x2 b ?_, fun x x1 x2 b e => h.2 x x1 x2 b ?_⟩
  · rw [← g (1 + 3) (by omega)]; exact e
  · rw [← g (1 + 2) (by omega)]; exact e
theorem NU.g (h : NU K I Q n s) (g : cg K I J) (gq : qg Q Q') (hS : tSt (K, J, Q', n)) : NU K J Q' n s := ⟨hS, WN.g1 h.2.1 h.1 g, h.2.2.1.g1 g gq, h.2.2.2.1.g1 g gq, h.2.2.2.2.1.qg gq, g.2.1.trans h.2.2.2.2.2.1, g.2.2.trans h.2.2.2.2.2.2⟩
theorem cg.f40 (h : cg K I J) (e : ∀ x, x ≠ 40 → L x = J x) : cg K I L := h.trans ⟨fun b b1 _ _ => e b (by omega), by rw [e _ (by decide)], by rw [e _ (by decide)]⟩
end NUs
section CG
variable {l : Launch} {G : tG} {K : Nat → Nat × Nat} {I : Nat → Int → Int} {Q : Nat → Int → Option Nat} {n : Nat} {s : Int → Int}
theorem c_W_guess (hU : NU K I Q n s) (hR : RInv s) : tw_M l G 2 0 0 mW_copyFrom [vr (some 27), vr (some 1)] (K, I, Q, n) (fun r h' => r = none ∧ ∃ J R, h' = (K, J, R, n) ∧ GU K J R n s ∧ cg K I J ∧ qg Q R ∧ J 40 = I 40) := by
  obtain ⟨h0, h1, h2, h3, h4, h5, h6, hp, hrw, ht, hr, hb, htp, hv⟩ := id hR
  obtain ⟨hS, hN, hP, hW, hH, h57, h59⟩ := hU
  refine tw_post (c_W_copyFrom_27_1 hS hH (fun j j1 j2 => by rw [show I 2 j = _ from WN.tp hN j1 j2]; have := htp j j1 j2; omega)) ?_
  intro r h' q
  obtain ⟨rfl, J, R, rfl, fc, fo, fq, f8, f5⟩ := q
  obtain ⟨hG, hc, hg⟩ := GU.cp hS hN hP hW h57 h59 fc fo fq f8 f5 h2.2
  exact ⟨rfl, J, R, rfl, hG, hc, hg, fo 40 (by omega)⟩
theorem c_P_lost {p : Int} (hU : NU K I Q n s) (hR : RInv s) (hV : RVal s) (p1 : 0 ≤ p ∧ p < s 0) : tw_M l G 6 0 0 mP_lostWithout [vr (some 40), vr (some 1), vi p] (K, I, Q, n) (fun r h' => r = some (vi (rAway s p)) ∧ ∃ J Q', h' = (K, J, Q', n) ∧ cg K I J ∧ qg Q Q' ∧ tSt (K, J, Q', n)) := by
  obtain ⟨h0, h1, h2, h3, h4, h5, h6, hp, hrw, ht, hr, hb, htp, hv⟩ := id hR
  have hS := hU.1
  have hR2 : RInv (up s (34 + p) 0) := RInv_free (by omega) (by omega) hR
  have hV2 : RVal (up s (34 + p) 0) := RVal_up (by omega) (by omega) hV
  have e1 : ∀ j, j = 0 ∨ (10 ≤ j ∧ j < 34) → up s (34 + p) 0 j = s j := fun j hj => up_ne _ _ (by omega)
  have e2 : ∀ j, j = 2 ∨ 274 ≤ j → up s (34 + p) 0 j = s j := fun j hj => up_ne _ _ (by omega)
  refine tw_intro okP_lostWithout (Nat.le_of_ble_eq_true rfl) ?_
  refine ar_aloadn (k := 0) rfl rfl ?_
  refine ar_aloadn (k := 1) rfl rfl ?_
  refine ar_callV (k := 2) (as := [_]) rfl lvP_182 (hS.k (by decide)) rfl (c_P_look1 hU.1 hU.2.1 hU.2.2.1 hU.2.2.2.1 hR hV hU.2.2.2.2.2.1) rfl (by decide) (by decide) tw_m0 (Nat.le_of_ble_eq_true rfl) (fun r2 h2 p2 => ?_)
  obtain ⟨rfl, I2, rfl, hk2, hB2, hT2⟩ := p2
  have hS := hS.q40 (some 1)
  have hU2 := hU.g hk2.g (qg.q40 (some 1)) hS
  refine ar_aloadn (k := 3) rfl rfl ?_
  refine ar_callV (k := 4) (as := []) rfl lvP_186 (hS.k (by decide)) rfl (c_P_bestDay hS hR hV hT2 hB2.2.2.2.2.2 hU2.2.2.2.2.2.2) rfl (by decide) (by decide) tw_m0 (Nat.le_of_ble_eq_true rfl) (fun r4 h4 p4 => ?_)
  obtain ⟨rfl, I4, rfl, hb4⟩ := p4
  have hU4 := hU2.g hb4.q.g qg.rf hS
  refine ar_istoren (k := 5) (l2 := [(3, _), (0, _), (1, _), (2, _)]) rfl (by decide) rfl ?_
  refine ar_aloadn (k := 6) rfl rfl ?_
  refine br_getR (k := 7) rfl (hS.k (by decide)) flP_12_6 (by decide) rfl (hS.r rfl) ?_
  refine ar_aloadn (k := 8) rfl rfl ?_
  refine ar_callV (k := 9) (as := [_]) rfl lvP_190 (hS.k (by decide)) rfl (c_W_guess hU4 hR) rfl (by decide) (by decide) tw_m0 (Nat.le_of_ble_eq_true rfl) (fun r9 h9 p9 => ?_)
  obtain ⟨rfl, J9, R9, rfl, hG9, hc9, hg9, f9⟩ := p9
  have hS := hG9.1
  have hN15 : WN 27 (uI J9 31 p 0) (up s (34 + p) 0) := hG9.2.1.u_fr (by omega)
  have hG15 : GU K (uI J9 31 p 0) R9 n (up s (34 + p) 0) := hG9.w (by omega) hN15 e1 e2 h0.2
  refine ar_aloadn (k := 10) rfl rfl ?_
  refine br_getR (k := 11) rfl (hS.k (by decide)) flP_12_6 (by decide) rfl (hS.r rfl) ?_
  refine br_getR (k := 12) rfl (hS.k (by decide)) flP_123_10 (by decide) rfl (hS.r rfl) ?_
  refine ar_iloadn (k := 13) rfl rfl ?_
  refine ar_iconst (k := 14) rfl ?_
  refine br_iast (k := 15) rfl (hS.k (by decide)) (by omega) (by omega) (by decide) ?_
  refine ar_aloadn (k := 16) rfl rfl ?_
  refine ar_aloadn (k := 17) rfl rfl ?_
  refine br_getR (k := 18) rfl (hS.k (by decide)) flP_12_6 (by decide) rfl (hS.r rfl) ?_
  refine ar_callV (k := 19) (as := [_]) rfl lvP_182 (hS.k (by decide)) rfl (c_P_look27 hG15.1 hG15.2.1 hG15.2.2.1 hG15.2.2.2.1 hR2 hV2 hG15.2.2.2.2.1) rfl (by decide) (by decide) tw_m0 (Nat.le_of_ble_eq_true rfl) (fun r19 h19 p19 => ?_)
  obtain ⟨rfl, I19, rfl, hk19, hB19, hT19⟩ := p19
  have hG19 := (hG15.q (some 27)).k hk19
  have hS := hG19.1
  refine ar_iloadn (k := 20) rfl rfl ?_
  refine ar_aloadn (k := 21) rfl rfl ?_
  refine ar_callV (k := 22) (as := []) rfl lvP_186 (hS.k (by decide)) rfl (c_P_bestDay hS hR2 hV2 hT19 hB19.2.2.2.2.2 hG19.2.2.2.2.2) rfl (by decide) (by decide) tw_m0 (Nat.le_of_ble_eq_true rfl) (fun r22 h22 p22 => ?_)
  obtain ⟨rfl, I22, rfl, hb22⟩ := p22
  refine ar_isub (k := 23) rfl ?_
  refine ar_iret (k := 24) rfl rfl rfl (Nat.le_refl _) ?_
  exact ⟨rfl, _, _, rfl, ((((hk2.g.trans hb4.q.g).trans hc9).w (by omega)).trans hk19.g).trans hb22.q.g, ((qg.q40 (some 1)).t hg9).t (qg.q40 _), hS⟩
end CG
