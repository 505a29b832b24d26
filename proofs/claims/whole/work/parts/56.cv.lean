section VA
variable {K : Nat → Nat × Nat} {I : Nat → Int → Int} {Q : Nat → Int → Option Nat} {n v : Nat}
theorem VS.k0 (h : VS K Q n v) : tK (K, I, Q, n) v (9, 12) := ⟨h.2.1.1, by have := h.1; show v < n; omega⟩
theorem VS.k1 (h : VS K Q n v) : tK (K, I, Q, n) (v + 1) (14, 10) := ⟨h.2.1.2.1, by have := h.1; show v + 1 < n; omega⟩
theorem VS.k2 (h : VS K Q n v) : tK (K, I, Q, n) (v + 2) (14, 10) := ⟨h.2.1.2.2.1, by have := h.1; show v + 2 < n; omega⟩
theorem VS.k3 (h : VS K Q n v) : tK (K, I, Q, n) (v + 3) (14, 100) := ⟨h.2.1.2.2.2.1, by have := h.1; show v + 3 < n; omega⟩
theorem VS.k4 (h : VS K Q n v) : tK (K, I, Q, n) (v + 4) (14, 5) := ⟨h.2.1.2.2.2.2.1, by have := h.1; show v + 4 < n; omega⟩
theorem VS.k5 (h : VS K Q n v) : tK (K, I, Q, n) (v + 5) (14, 13) := ⟨h.2.1.2.2.2.2.2, by have := h.1; show v + 5 < n; omega⟩
theorem VS.q1 (h : VS K Q n v) : Q v ((1 : Nat) : Int) = some (v + 1) := h.2.2.1
theorem VS.q2 (h : VS K Q n v) : Q v ((2 : Nat) : Int) = some (v + 2) := h.2.2.2.1
theorem VS.q4 (h : VS K Q n v) : Q v ((4 : Nat) : Int) = some (v + 3) := h.2.2.2.2.1
theorem VS.q6 (h : VS K Q n v) : Q v ((6 : Nat) : Int) = some (v + 4) := h.2.2.2.2.2.1
theorem VS.q7 (h : VS K Q n v) : Q v ((7 : Nat) : Int) = some (v + 5) := h.2.2.2.2.2.2.1
theorem VS.q8 (h : VS K Q n v) : Q v ((8 : Nat) : Int) = some (vX v) := h.2.2.2.2.2.2.2.1
theorem VS.kx (h : VS K Q n v) : tK (K, I, Q, n) (vX v) (13, 100) := h.2.2.2.2.2.2.2.2
end VA
/-- what is tested, by letter, sign and number -/
def tT (b : Int → Int) (g h t : Int) : Bool := if h = 0 then decide (b g < t) else if h = 1 then decide (b g = t) else decide (b g > t)
def bu (b : Int → Int) (u : Int) : Int → Int := fun j => if j = 0 then u else b j
theorem ib_bl : ∀ t : Nat, t < 24 → ∀ u, u < 24 → ib (bShl 1 (t : Int) - 1) u = decide (u < t) := by decide +kernel
/-- a step of the row of truths -/
def bStp (b : Int → Int) (x : Int) (q : List Bool) : List Bool := (rStep b x (q, 0)).1
def tR (b : Int → Int) : List Bool → List Int → List Bool
  | q, [] => q
  | q, x :: r => tR b (bStp b x q) r
def lR (b : Int → Int) : List Bool × Int → List Int → List Bool × Int
  | q, [] => q
  | q, x :: r => lR b (rStep b x q) r
theorem lR_app (b : Int → Int) : ∀ (x y : List Int) (q : List Bool × Int), lR b q (x ++ y) = lR b (lR b q x) y
  | [], _, _ => rfl
  | z :: x, y, q => by rw [List.cons_append, lR, lR]; exact lR_app b x y _
theorem rStep_hi {b : Int → Int} {x : Int} {q : List Bool} {a : Int} (h : -3 ≤ x) : rStep b x (q, a) = (bStp b x q, a) := by
  unfold bStp rStep
  by_cases h1 : 0 ≤ x
  · rw [if_pos h1, if_pos h1]
  · rw [if_neg h1, if_neg h1]
    by_cases h2 : x = -1
    · rw [if_pos h2, if_pos h2]
    · rw [if_neg h2, if_neg h2, if_pos (by omega), if_pos (by omega)]
theorem lR_hi {b : Int → Int} : ∀ (c : List Int) (q : List Bool) (a : Int), (∀ x ∈ c, -3 ≤ x) → lR b (q, a) c = (tR b q c, a)
  | [], _, _, _ => rfl
  | x :: r, q, a, h => by
    rw [lR, tR, rStep_hi (h x (List.mem_cons_self))]
    exact lR_hi r _ a (fun y hy => h y (List.mem_cons_of_mem _ hy))
theorem rStep_mk {b : Int → Int} {x : Int} {q : List Bool} {a : Int} (h : x ≤ -10) : rStep b x (q, a) = ([], a + (if q.headD false = true then cAm x else 0)) := by
  unfold rStep cAm
  rw [if_neg (by omega), if_neg (by omega), if_neg (by omega)]
theorem rRun_lR {b s : Int → Int} {f : Int} : ∀ k : Nat, rRun b s f k = lR b ([], 0) ((List.range k).map (fun i : Nat => s (f + (i : Int))))
  | 0 => rfl
  | k + 1 => by
    rw [rRun, rRun_lR k, List.range_succ, List.map_append, lR_app]
    rfl
theorem rTst_tT {b : Int → Int} {x : Int} : rTst b x = tT b (x % 8) (x / 8 % 4) (x / 32) := rfl
/-- the worth that a row of clauses gives -/
def clW (b : Int → Int) : tCL → Int → Int
  | [], a => a
  | c :: r, a => clW b r (a + (if (tR b [] c.1).headD false = true then cAm c.2 else 0))
theorem clW_lR {b : Int → Int} : ∀ (L : tCL) (a : Int), LOK L → (lR b ([], a) (cFl L)).2 = clW b L a
  | [], _, _ => rfl
  | c :: r, a, h => by
    have hc := h c (List.mem_cons_self)
    show (lR b ([], a) ((c.1 ++ [c.2]) ++ cFl r)).2 = _
    rw [lR_app, lR_app, lR_hi c.1 [] a hc.1, lR, lR, rStep_mk hc.2, clW]
    exact clW_lR r _ (fun y hy => h y (List.mem_cons_of_mem _ hy))
theorem clW_app {b : Int → Int} : ∀ (x y : tCL) (a : Int), clW b (x ++ y) a = clW b y (clW b x a)
  | [], _, _ => rfl
  | c :: x, y, a => by rw [List.cons_append, clW, clW]; exact clW_app x y _
/-- each clause leads from nothing to one truth -/
theorem LOK_deep : ∀ (L : tCL), LOK L → lDeep 0 (cFl L) = some 0 → ∀ c ∈ L, lDeep 0 c.1 = some 1
  | [], _, _, c, hc => by cases hc
  | d :: r, h, hd, c, hc => by
    have hdd := h d (List.mem_cons_self)
    have e : lDeep 0 ((d.1 ++ [d.2]) ++ cFl r) = some 0 := hd
    rw [lDeep_app, lDeep_app] at e
    cases g : lDeep 0 d.1 with
    | none => rw [g] at e; cases e
    | some k =>
      rw [g] at e
      have e2 : ((rDeep k d.2).bind fun d' => some d').bind (fun d' => lDeep d' (cFl r)) = some 0 := e
      have hk : k = 1 ∧ rDeep k d.2 = some 0 := by
        unfold rDeep at e2 ⊢
        rw [if_neg (by omega), if_neg (by omega), if_neg (by omega)] at e2 ⊢
        by_cases q : (-109 ≤ d.2 ∧ d.2 ≤ -10) ∨ (-299 ≤ d.2 ∧ d.2 ≤ -200)
        · rw [if_pos q] at e2 ⊢
          by_cases q2 : k = 1
          · exact ⟨q2, by rw [if_pos q2]⟩
          · rw [if_neg q2] at e2; cases e2
        · rw [if_neg q] at e2; cases e2
      rcases List.mem_cons.mp hc with z | z
      · subst z; rw [g, hk.1]
      · rw [hk.2] at e2
        exact LOK_deep r (fun y hy => h y (List.mem_cons_of_mem _ hy)) e2 c z
section CV
variable {l : Launch} {G : tG} {K : Nat → Nat × Nat} {I : Nat → Int → Int} {Q : Nat → Int → Option Nat} {n : Nat} {s : Int → Int}
theorem c_V_setFacts {v : Nat} {a b c x : Int} (hv : VS K Q n v) (tx : tr x) : tw_F l G 1 0 0 mV_setFacts [vr (some v), vi a, vi b, vi c, vi x] (K, I, Q, n) none (K, uI (uI (uI (uI I (v + 4) 1 a) (v + 4) 2 b) (v + 4) 3 c) (v + 4) 4 (if x = 0 then 0 else 1), Q, n) := by
  refine tw_intro okV_setFacts (Nat.le_of_ble_eq_true rfl) ?_
  refine ar_aloadn (k := 0) rfl rfl ?_
  refine br_getR (k := 1) rfl hv.k0 flV_31_9 (by decide) rfl hv.q6 ?_
  refine ar_iconst (k := 2) rfl ?_
  refine ar_iloadn (k := 3) rfl rfl ?_
  refine br_iast (k := 4) rfl hv.k4 (by omega) (by omega) (by decide) ?_
  refine ar_aloadn (k := 5) rfl rfl ?_
  refine br_getR (k := 6) rfl hv.k0 flV_31_9 (by decide) rfl hv.q6 ?_
  refine ar_iconst (k := 7) rfl ?_
  refine ar_iloadn (k := 8) rfl rfl ?_
  refine br_iast (k := 9) rfl hv.k4 (by omega) (by omega) (by decide) ?_
  refine ar_aloadn (k := 10) rfl rfl ?_
  refine br_getR (k := 11) rfl hv.k0 flV_31_9 (by decide) rfl hv.q6 ?_
  refine ar_iconst (k := 12) rfl ?_
  refine ar_iloadn (k := 13) rfl rfl ?_
  refine br_iast (k := 14) rfl hv.k4 (by omega) (by omega) (by decide) ?_
  refine ar_aloadn (k := 15) rfl rfl ?_
  refine br_getR (k := 16) rfl hv.k0 flV_31_9 (by decide) rfl hv.q6 ?_
  refine ar_iconst (k := 17) rfl ?_
  refine ar_iload (k := 18) rfl rfl ?_
  refine ar_if_eq (k := 19) rfl (by omega) (fun c19 => ?_) (fun c19 => ?_)
  · refine ar_iconst (k := 22) rfl ?_
    refine tw_top (y := if x = 0 then 0 else 1) (by first | (exfalso; omega) | (rw [if_pos (by omega)]; done) | (rw [if_neg (by omega)]; done)) ?_
    refine br_iast (k := 23) rfl hv.k4 (by omega) (by omega) (by decide) ?_
    refine ar_ret (k := 24) rfl rfl rfl (Nat.le_refl _) ?_
    exact ⟨rfl, rfl⟩
  · refine ar_iconst (k := 20) rfl ?_
    refine ar_goto (k := 21) rfl ?_
    refine tw_top (y := if x = 0 then 0 else 1) (by first | (exfalso; omega) | (rw [if_pos (by omega)]; done) | (rw [if_neg (by omega)]; done)) ?_
    refine br_iast (k := 23) rfl hv.k4 (by omega) (by omega) (by decide) ?_
    refine ar_ret (k := 24) rfl rfl rfl (Nat.le_refl _) ?_
    exact ⟨rfl, rfl⟩
theorem c_V_testedWhen {v : Nat} {b : Int → Int} {g h t : Int} (hv : VS K Q n v) (hg : 0 ≤ g ∧ g ≤ 4) (hh : 0 ≤ h ∧ h ≤ 2) (ht : 0 ≤ t ∧ t ≤ 99) (hf : ∀ j, 1 ≤ j → j ≤ 4 → I (v + 4) j = b j) (hb : ∀ j, 1 ≤ j → j ≤ 4 → tr (b j)) : tw_M l G 1 0 0 mV_testedWhen [vr (some v), vi ((g * 3 + h) * 100 + t)] (K, I, Q, n) (fun r h' => ∃ m, r = some (vi m) ∧ h' = (K, I, Q, n) ∧ ∀ u : Nat, u < 24 → ib m u = tT (bu b (u : Int)) g h t) := by
  refine tw_intro okV_testedWhen (Nat.le_of_ble_eq_true rfl) ?_
  refine ar_iloadn (k := 0) rfl rfl ?_
  refine ar_bipush (k := 1) rfl (by decide) ?_
  refine ar_irem (k := 2) rfl (by omega) (by omega) (by omega) ?_
  refine tw_top (y := t) (by rw [Int.tmod_eq_emod_of_nonneg (by omega)]; omega) ?_
  refine ar_istoren (k := 3) (l2 := [(2, _), (0, _), (1, _)]) rfl (by decide) rfl ?_
  refine ar_iloadn (k := 4) rfl rfl ?_
  refine ar_bipush (k := 5) rfl (by decide) ?_
  refine ar_idiv (k := 6) rfl (by omega) (by omega) (by omega) ?_
  refine tw_top (y := g * 3 + h) (by rw [Int.tdiv_eq_ediv_of_nonneg (by omega)]; omega) ?_
  refine ar_iconst (k := 7) rfl ?_
  refine ar_irem (k := 8) rfl (by omega) (by omega) (by omega) ?_
  refine tw_top (y := h) (by rw [Int.tmod_eq_emod_of_nonneg (by omega)]; omega) ?_
  refine ar_istoren (k := 9) (l2 := [(3, _), (2, _), (0, _), (1, _)]) rfl (by decide) rfl ?_
  refine ar_iloadn (k := 10) rfl rfl ?_
  refine ar_bipush (k := 11) rfl (by decide) ?_
  refine ar_idiv (k := 12) rfl (by omega) (by omega) (by omega) ?_
  refine tw_top (y := g * 3 + h) (by rw [Int.tdiv_eq_ediv_of_nonneg (by omega)]; omega) ?_
  refine ar_iconst (k := 13) rfl ?_
  refine ar_idiv (k := 14) rfl (by omega) (by omega) (by omega) ?_
  refine tw_top (y := g) (by rw [Int.tdiv_eq_ediv_of_nonneg (by omega)]; omega) ?_
  refine ar_istore (k := 15) (l2 := [(4, _), (3, _), (2, _), (0, _), (1, _)]) rfl (by decide) rfl ?_
  refine ar_iload (k := 16) rfl rfl ?_
  refine ar_if_ne (k := 17) rfl (by omega) (fun c17 => ?_) (fun c17 => ?_)
  · refine ar_iload (k := 57) rfl rfl ?_
    refine ar_iconst (k := 58) rfl ?_
    refine ar_icmp_ge (k := 59) rfl (by omega) (by omega) (fun c59 => ?_) (fun c59 => ?_)
    · refine ar_iconst (k := 65) rfl ?_
      have hbg := hb g (by omega) (by omega)
      refine ar_istore (k := 66) (l2 := [(5, _), (4, _), (3, _), (2, _), (0, _), (1, _)]) rfl (by decide) rfl ?_
      refine ar_iloadn (k := 67) rfl rfl ?_
      refine ar_if_ne (k := 68) rfl (by omega) (fun c68 => ?_) (fun c68 => ?_)
      · refine ar_iloadn (k := 76) rfl rfl ?_
        refine ar_iconst (k := 77) rfl ?_
        refine ar_icmp_ne (k := 78) rfl (by omega) (by omega) (fun c78 => ?_) (fun c78 => ?_)
        · refine ar_iload (k := 86) rfl rfl ?_
          refine ar_iloadn (k := 87) rfl rfl ?_
          refine ar_icmp_le (k := 88) rfl (by omega) (by omega) (fun c88 => ?_) (fun c88 => ?_)
          · refine ar_iconst (k := 91) rfl ?_
            refine ar_istore (k := 92) (l2 := [(6, _), (5, _), (4, _), (3, _), (2, _), (0, _), (1, _)]) rfl (by decide) rfl ?_
            refine ar_iload (k := 93) rfl rfl ?_
            refine ar_if_eq (k := 94) rfl (by omega) (fun c94 => ?_) (fun c94 => ?_)
            · refine ar_iconst (k := 97) rfl ?_
              refine ar_iret (k := 98) rfl rfl rfl (Nat.le_refl _) ?_
              refine ⟨_, rfl, rfl, fun u hu => ?_⟩
              unfold tT bu
              first
                | (exfalso; omega)
                | (obtain ⟨tn, rfl⟩ : ∃ tn : Nat, t = (tn : Int) := ⟨t.toNat, by omega⟩
                   rw [if_pos (show h = 0 by omega), if_pos (show g = 0 by omega), ib_bl tn (by omega) u hu]; apply decide_eq_decide.mpr; omega)
                | (rw [if_pos (show h = 0 by omega), if_pos (show g = 0 by omega), ib_all u hu]; symm; apply decide_eq_true; omega)
                | (obtain ⟨tn, rfl⟩ : ∃ tn : Nat, t = (tn : Int) := ⟨t.toNat, by omega⟩
                   rw [if_neg (show ¬ h = 0 by omega), if_pos (show h = 1 by omega), if_pos (show g = 0 by omega), ib_shl1 tn (by omega) u (by omega)]; apply decide_eq_decide.mpr; omega)
                | (rw [if_neg (show ¬ h = 0 by omega), if_pos (show h = 1 by omega), if_pos (show g = 0 by omega), ib_0]; symm; apply decide_eq_false; omega)
                | (obtain ⟨tn, rfl⟩ : ∃ tn : Nat, t = (tn : Int) := ⟨t.toNat, by omega⟩
                   rw [if_neg (show ¬ h = 0 by omega), if_neg (show ¬ h = 1 by omega), if_pos (show g = 0 by omega), ib_and, ib_and, ib_neg (by omega), ib_neg (by omega), ib_all u hu, ib_bl tn (by omega) u hu, ib_shl1 tn (by omega) u (by omega), Bool.true_and, ← decide_not, ← decide_not, ← Bool.decide_and]; apply decide_eq_decide.mpr; omega)
                | (rw [if_neg (show ¬ h = 0 by omega), if_neg (show ¬ h = 1 by omega), if_pos (show g = 0 by omega), ib_and, ib_and, ib_neg (by omega), ib_neg (by omega), ib_all u hu, ib_0]; symm; apply decide_eq_false; omega)
                | (rw [if_neg (show ¬ g = 0 by omega), ib_all u hu]; (repeat' split) <;> first | (exfalso; omega) | (symm; apply decide_eq_true; omega))
                | (rw [if_neg (show ¬ g = 0 by omega), ib_0]; (repeat' split) <;> first | (exfalso; omega) | (symm; apply decide_eq_false; omega))
            · refine ar_ldc (k := 95) (z := 16777215) rfl cnV_140 rfl ?_
              refine ar_goto (k := 96) rfl ?_
              refine ar_iret (k := 98) rfl rfl rfl (Nat.le_refl _) ?_
              refine ⟨_, rfl, rfl, fun u hu => ?_⟩
              unfold tT bu
              first
                | (exfalso; omega)
                | (obtain ⟨tn, rfl⟩ : ∃ tn : Nat, t = (tn : Int) := ⟨t.toNat, by omega⟩
                   rw [if_pos (show h = 0 by omega), if_pos (show g = 0 by omega), ib_bl tn (by omega) u hu]; apply decide_eq_decide.mpr; omega)
                | (rw [if_pos (show h = 0 by omega), if_pos (show g = 0 by omega), ib_all u hu]; symm; apply decide_eq_true; omega)
                | (obtain ⟨tn, rfl⟩ : ∃ tn : Nat, t = (tn : Int) := ⟨t.toNat, by omega⟩
                   rw [if_neg (show ¬ h = 0 by omega), if_pos (show h = 1 by omega), if_pos (show g = 0 by omega), ib_shl1 tn (by omega) u (by omega)]; apply decide_eq_decide.mpr; omega)
                | (rw [if_neg (show ¬ h = 0 by omega), if_pos (show h = 1 by omega), if_pos (show g = 0 by omega), ib_0]; symm; apply decide_eq_false; omega)
                | (obtain ⟨tn, rfl⟩ : ∃ tn : Nat, t = (tn : Int) := ⟨t.toNat, by omega⟩
                   rw [if_neg (show ¬ h = 0 by omega), if_neg (show ¬ h = 1 by omega), if_pos (show g = 0 by omega), ib_and, ib_and, ib_neg (by omega), ib_neg (by omega), ib_all u hu, ib_bl tn (by omega) u hu, ib_shl1 tn (by omega) u (by omega), Bool.true_and, ← decide_not, ← decide_not, ← Bool.decide_and]; apply decide_eq_decide.mpr; omega)
                | (rw [if_neg (show ¬ h = 0 by omega), if_neg (show ¬ h = 1 by omega), if_pos (show g = 0 by omega), ib_and, ib_and, ib_neg (by omega), ib_neg (by omega), ib_all u hu, ib_0]; symm; apply decide_eq_false; omega)
                | (rw [if_neg (show ¬ g = 0 by omega), ib_all u hu]; (repeat' split) <;> first | (exfalso; omega) | (symm; apply decide_eq_true; omega))
                | (rw [if_neg (show ¬ g = 0 by omega), ib_0]; (repeat' split) <;> first | (exfalso; omega) | (symm; apply decide_eq_false; omega))
          · refine ar_iconst (k := 89) rfl ?_
            refine ar_goto (k := 90) rfl ?_
            refine ar_istore (k := 92) (l2 := [(6, _), (5, _), (4, _), (3, _), (2, _), (0, _), (1, _)]) rfl (by decide) rfl ?_
            refine ar_iload (k := 93) rfl rfl ?_
            refine ar_if_eq (k := 94) rfl (by omega) (fun c94 => ?_) (fun c94 => ?_)
            · refine ar_iconst (k := 97) rfl ?_
              refine ar_iret (k := 98) rfl rfl rfl (Nat.le_refl _) ?_
              refine ⟨_, rfl, rfl, fun u hu => ?_⟩
              unfold tT bu
              first
                | (exfalso; omega)
                | (obtain ⟨tn, rfl⟩ : ∃ tn : Nat, t = (tn : Int) := ⟨t.toNat, by omega⟩
                   rw [if_pos (show h = 0 by omega), if_pos (show g = 0 by omega), ib_bl tn (by omega) u hu]; apply decide_eq_decide.mpr; omega)
                | (rw [if_pos (show h = 0 by omega), if_pos (show g = 0 by omega), ib_all u hu]; symm; apply decide_eq_true; omega)
                | (obtain ⟨tn, rfl⟩ : ∃ tn : Nat, t = (tn : Int) := ⟨t.toNat, by omega⟩
                   rw [if_neg (show ¬ h = 0 by omega), if_pos (show h = 1 by omega), if_pos (show g = 0 by omega), ib_shl1 tn (by omega) u (by omega)]; apply decide_eq_decide.mpr; omega)
                | (rw [if_neg (show ¬ h = 0 by omega), if_pos (show h = 1 by omega), if_pos (show g = 0 by omega), ib_0]; symm; apply decide_eq_false; omega)
                | (obtain ⟨tn, rfl⟩ : ∃ tn : Nat, t = (tn : Int) := ⟨t.toNat, by omega⟩
                   rw [if_neg (show ¬ h = 0 by omega), if_neg (show ¬ h = 1 by omega), if_pos (show g = 0 by omega), ib_and, ib_and, ib_neg (by omega), ib_neg (by omega), ib_all u hu, ib_bl tn (by omega) u hu, ib_shl1 tn (by omega) u (by omega), Bool.true_and, ← decide_not, ← decide_not, ← Bool.decide_and]; apply decide_eq_decide.mpr; omega)
                | (rw [if_neg (show ¬ h = 0 by omega), if_neg (show ¬ h = 1 by omega), if_pos (show g = 0 by omega), ib_and, ib_and, ib_neg (by omega), ib_neg (by omega), ib_all u hu, ib_0]; symm; apply decide_eq_false; omega)
                | (rw [if_neg (show ¬ g = 0 by omega), ib_all u hu]; (repeat' split) <;> first | (exfalso; omega) | (symm; apply decide_eq_true; omega))
                | (rw [if_neg (show ¬ g = 0 by omega), ib_0]; (repeat' split) <;> first | (exfalso; omega) | (symm; apply decide_eq_false; omega))
            · refine ar_ldc (k := 95) (z := 16777215) rfl cnV_140 rfl ?_
              refine ar_goto (k := 96) rfl ?_
              refine ar_iret (k := 98) rfl rfl rfl (Nat.le_refl _) ?_
              refine ⟨_, rfl, rfl, fun u hu => ?_⟩
              unfold tT bu
              first
                | (exfalso; omega)
                | (obtain ⟨tn, rfl⟩ : ∃ tn : Nat, t = (tn : Int) := ⟨t.toNat, by omega⟩
                   rw [if_pos (show h = 0 by omega), if_pos (show g = 0 by omega), ib_bl tn (by omega) u hu]; apply decide_eq_decide.mpr; omega)
                | (rw [if_pos (show h = 0 by omega), if_pos (show g = 0 by omega), ib_all u hu]; symm; apply decide_eq_true; omega)
                | (obtain ⟨tn, rfl⟩ : ∃ tn : Nat, t = (tn : Int) := ⟨t.toNat, by omega⟩
                   rw [if_neg (show ¬ h = 0 by omega), if_pos (show h = 1 by omega), if_pos (show g = 0 by omega), ib_shl1 tn (by omega) u (by omega)]; apply decide_eq_decide.mpr; omega)
                | (rw [if_neg (show ¬ h = 0 by omega), if_pos (show h = 1 by omega), if_pos (show g = 0 by omega), ib_0]; symm; apply decide_eq_false; omega)
                | (obtain ⟨tn, rfl⟩ : ∃ tn : Nat, t = (tn : Int) := ⟨t.toNat, by omega⟩
                   rw [if_neg (show ¬ h = 0 by omega), if_neg (show ¬ h = 1 by omega), if_pos (show g = 0 by omega), ib_and, ib_and, ib_neg (by omega), ib_neg (by omega), ib_all u hu, ib_bl tn (by omega) u hu, ib_shl1 tn (by omega) u (by omega), Bool.true_and, ← decide_not, ← decide_not, ← Bool.decide_and]; apply decide_eq_decide.mpr; omega)
                | (rw [if_neg (show ¬ h = 0 by omega), if_neg (show ¬ h = 1 by omega), if_pos (show g = 0 by omega), ib_and, ib_and, ib_neg (by omega), ib_neg (by omega), ib_all u hu, ib_0]; symm; apply decide_eq_false; omega)
                | (rw [if_neg (show ¬ g = 0 by omega), ib_all u hu]; (repeat' split) <;> first | (exfalso; omega) | (symm; apply decide_eq_true; omega))
                | (rw [if_neg (show ¬ g = 0 by omega), ib_0]; (repeat' split) <;> first | (exfalso; omega) | (symm; apply decide_eq_false; omega))
        · refine ar_iload (k := 79) rfl rfl ?_
          refine ar_iloadn (k := 80) rfl rfl ?_
          refine ar_icmp_ne (k := 81) rfl (by omega) (by omega) (fun c81 => ?_) (fun c81 => ?_)
          · refine ar_iconst (k := 84) rfl ?_
            refine ar_goto (k := 85) rfl ?_
            refine ar_istore (k := 92) (l2 := [(6, _), (5, _), (4, _), (3, _), (2, _), (0, _), (1, _)]) rfl (by decide) rfl ?_
            refine ar_iload (k := 93) rfl rfl ?_
            refine ar_if_eq (k := 94) rfl (by omega) (fun c94 => ?_) (fun c94 => ?_)
            · refine ar_iconst (k := 97) rfl ?_
              refine ar_iret (k := 98) rfl rfl rfl (Nat.le_refl _) ?_
              refine ⟨_, rfl, rfl, fun u hu => ?_⟩
              unfold tT bu
              first
                | (exfalso; omega)
                | (obtain ⟨tn, rfl⟩ : ∃ tn : Nat, t = (tn : Int) := ⟨t.toNat, by omega⟩
                   rw [if_pos (show h = 0 by omega), if_pos (show g = 0 by omega), ib_bl tn (by omega) u hu]; apply decide_eq_decide.mpr; omega)
                | (rw [if_pos (show h = 0 by omega), if_pos (show g = 0 by omega), ib_all u hu]; symm; apply decide_eq_true; omega)
                | (obtain ⟨tn, rfl⟩ : ∃ tn : Nat, t = (tn : Int) := ⟨t.toNat, by omega⟩
                   rw [if_neg (show ¬ h = 0 by omega), if_pos (show h = 1 by omega), if_pos (show g = 0 by omega), ib_shl1 tn (by omega) u (by omega)]; apply decide_eq_decide.mpr; omega)
                | (rw [if_neg (show ¬ h = 0 by omega), if_pos (show h = 1 by omega), if_pos (show g = 0 by omega), ib_0]; symm; apply decide_eq_false; omega)
                | (obtain ⟨tn, rfl⟩ : ∃ tn : Nat, t = (tn : Int) := ⟨t.toNat, by omega⟩
                   rw [if_neg (show ¬ h = 0 by omega), if_neg (show ¬ h = 1 by omega), if_pos (show g = 0 by omega), ib_and, ib_and, ib_neg (by omega), ib_neg (by omega), ib_all u hu, ib_bl tn (by omega) u hu, ib_shl1 tn (by omega) u (by omega), Bool.true_and, ← decide_not, ← decide_not, ← Bool.decide_and]; apply decide_eq_decide.mpr; omega)
                | (rw [if_neg (show ¬ h = 0 by omega), if_neg (show ¬ h = 1 by omega), if_pos (show g = 0 by omega), ib_and, ib_and, ib_neg (by omega), ib_neg (by omega), ib_all u hu, ib_0]; symm; apply decide_eq_false; omega)
                | (rw [if_neg (show ¬ g = 0 by omega), ib_all u hu]; (repeat' split) <;> first | (exfalso; omega) | (symm; apply decide_eq_true; omega))
                | (rw [if_neg (show ¬ g = 0 by omega), ib_0]; (repeat' split) <;> first | (exfalso; omega) | (symm; apply decide_eq_false; omega))
            · refine ar_ldc (k := 95) (z := 16777215) rfl cnV_140 rfl ?_
              refine ar_goto (k := 96) rfl ?_
              refine ar_iret (k := 98) rfl rfl rfl (Nat.le_refl _) ?_
              refine ⟨_, rfl, rfl, fun u hu => ?_⟩
              unfold tT bu
              first
                | (exfalso; omega)
                | (obtain ⟨tn, rfl⟩ : ∃ tn : Nat, t = (tn : Int) := ⟨t.toNat, by omega⟩
                   rw [if_pos (show h = 0 by omega), if_pos (show g = 0 by omega), ib_bl tn (by omega) u hu]; apply decide_eq_decide.mpr; omega)
                | (rw [if_pos (show h = 0 by omega), if_pos (show g = 0 by omega), ib_all u hu]; symm; apply decide_eq_true; omega)
                | (obtain ⟨tn, rfl⟩ : ∃ tn : Nat, t = (tn : Int) := ⟨t.toNat, by omega⟩
                   rw [if_neg (show ¬ h = 0 by omega), if_pos (show h = 1 by omega), if_pos (show g = 0 by omega), ib_shl1 tn (by omega) u (by omega)]; apply decide_eq_decide.mpr; omega)
                | (rw [if_neg (show ¬ h = 0 by omega), if_pos (show h = 1 by omega), if_pos (show g = 0 by omega), ib_0]; symm; apply decide_eq_false; omega)
                | (obtain ⟨tn, rfl⟩ : ∃ tn : Nat, t = (tn : Int) := ⟨t.toNat, by omega⟩
                   rw [if_neg (show ¬ h = 0 by omega), if_neg (show ¬ h = 1 by omega), if_pos (show g = 0 by omega), ib_and, ib_and, ib_neg (by omega), ib_neg (by omega), ib_all u hu, ib_bl tn (by omega) u hu, ib_shl1 tn (by omega) u (by omega), Bool.true_and, ← decide_not, ← decide_not, ← Bool.decide_and]; apply decide_eq_decide.mpr; omega)
                | (rw [if_neg (show ¬ h = 0 by omega), if_neg (show ¬ h = 1 by omega), if_pos (show g = 0 by omega), ib_and, ib_and, ib_neg (by omega), ib_neg (by omega), ib_all u hu, ib_0]; symm; apply decide_eq_false; omega)
                | (rw [if_neg (show ¬ g = 0 by omega), ib_all u hu]; (repeat' split) <;> first | (exfalso; omega) | (symm; apply decide_eq_true; omega))
                | (rw [if_neg (show ¬ g = 0 by omega), ib_0]; (repeat' split) <;> first | (exfalso; omega) | (symm; apply decide_eq_false; omega))
          · refine ar_iconst (k := 82) rfl ?_
            refine ar_goto (k := 83) rfl ?_
            refine ar_istore (k := 92) (l2 := [(6, _), (5, _), (4, _), (3, _), (2, _), (0, _), (1, _)]) rfl (by decide) rfl ?_
            refine ar_iload (k := 93) rfl rfl ?_
            refine ar_if_eq (k := 94) rfl (by omega) (fun c94 => ?_) (fun c94 => ?_)
            · refine ar_iconst (k := 97) rfl ?_
              refine ar_iret (k := 98) rfl rfl rfl (Nat.le_refl _) ?_
              refine ⟨_, rfl, rfl, fun u hu => ?_⟩
              unfold tT bu
              first
                | (exfalso; omega)
                | (obtain ⟨tn, rfl⟩ : ∃ tn : Nat, t = (tn : Int) := ⟨t.toNat, by omega⟩
                   rw [if_pos (show h = 0 by omega), if_pos (show g = 0 by omega), ib_bl tn (by omega) u hu]; apply decide_eq_decide.mpr; omega)
                | (rw [if_pos (show h = 0 by omega), if_pos (show g = 0 by omega), ib_all u hu]; symm; apply decide_eq_true; omega)
                | (obtain ⟨tn, rfl⟩ : ∃ tn : Nat, t = (tn : Int) := ⟨t.toNat, by omega⟩
                   rw [if_neg (show ¬ h = 0 by omega), if_pos (show h = 1 by omega), if_pos (show g = 0 by omega), ib_shl1 tn (by omega) u (by omega)]; apply decide_eq_decide.mpr; omega)
                | (rw [if_neg (show ¬ h = 0 by omega), if_pos (show h = 1 by omega), if_pos (show g = 0 by omega), ib_0]; symm; apply decide_eq_false; omega)
                | (obtain ⟨tn, rfl⟩ : ∃ tn : Nat, t = (tn : Int) := ⟨t.toNat, by omega⟩
                   rw [if_neg (show ¬ h = 0 by omega), if_neg (show ¬ h = 1 by omega), if_pos (show g = 0 by omega), ib_and, ib_and, ib_neg (by omega), ib_neg (by omega), ib_all u hu, ib_bl tn (by omega) u hu, ib_shl1 tn (by omega) u (by omega), Bool.true_and, ← decide_not, ← decide_not, ← Bool.decide_and]; apply decide_eq_decide.mpr; omega)
                | (rw [if_neg (show ¬ h = 0 by omega), if_neg (show ¬ h = 1 by omega), if_pos (show g = 0 by omega), ib_and, ib_and, ib_neg (by omega), ib_neg (by omega), ib_all u hu, ib_0]; symm; apply decide_eq_false; omega)
                | (rw [if_neg (show ¬ g = 0 by omega), ib_all u hu]; (repeat' split) <;> first | (exfalso; omega) | (symm; apply decide_eq_true; omega))
                | (rw [if_neg (show ¬ g = 0 by omega), ib_0]; (repeat' split) <;> first | (exfalso; omega) | (symm; apply decide_eq_false; omega))
            · refine ar_ldc (k := 95) (z := 16777215) rfl cnV_140 rfl ?_
              refine ar_goto (k := 96) rfl ?_
              refine ar_iret (k := 98) rfl rfl rfl (Nat.le_refl _) ?_
              refine ⟨_, rfl, rfl, fun u hu => ?_⟩
              unfold tT bu
              first
                | (exfalso; omega)
                | (obtain ⟨tn, rfl⟩ : ∃ tn : Nat, t = (tn : Int) := ⟨t.toNat, by omega⟩
                   rw [if_pos (show h = 0 by omega), if_pos (show g = 0 by omega), ib_bl tn (by omega) u hu]; apply decide_eq_decide.mpr; omega)
                | (rw [if_pos (show h = 0 by omega), if_pos (show g = 0 by omega), ib_all u hu]; symm; apply decide_eq_true; omega)
                | (obtain ⟨tn, rfl⟩ : ∃ tn : Nat, t = (tn : Int) := ⟨t.toNat, by omega⟩
                   rw [if_neg (show ¬ h = 0 by omega), if_pos (show h = 1 by omega), if_pos (show g = 0 by omega), ib_shl1 tn (by omega) u (by omega)]; apply decide_eq_decide.mpr; omega)
                | (rw [if_neg (show ¬ h = 0 by omega), if_pos (show h = 1 by omega), if_pos (show g = 0 by omega), ib_0]; symm; apply decide_eq_false; omega)
                | (obtain ⟨tn, rfl⟩ : ∃ tn : Nat, t = (tn : Int) := ⟨t.toNat, by omega⟩
                   rw [if_neg (show ¬ h = 0 by omega), if_neg (show ¬ h = 1 by omega), if_pos (show g = 0 by omega), ib_and, ib_and, ib_neg (by omega), ib_neg (by omega), ib_all u hu, ib_bl tn (by omega) u hu, ib_shl1 tn (by omega) u (by omega), Bool.true_and, ← decide_not, ← decide_not, ← Bool.decide_and]; apply decide_eq_decide.mpr; omega)
                | (rw [if_neg (show ¬ h = 0 by omega), if_neg (show ¬ h = 1 by omega), if_pos (show g = 0 by omega), ib_and, ib_and, ib_neg (by omega), ib_neg (by omega), ib_all u hu, ib_0]; symm; apply decide_eq_false; omega)
                | (rw [if_neg (show ¬ g = 0 by omega), ib_all u hu]; (repeat' split) <;> first | (exfalso; omega) | (symm; apply decide_eq_true; omega))
                | (rw [if_neg (show ¬ g = 0 by omega), ib_0]; (repeat' split) <;> first | (exfalso; omega) | (symm; apply decide_eq_false; omega))
      · refine ar_iload (k := 69) rfl rfl ?_
        refine ar_iloadn (k := 70) rfl rfl ?_
        refine ar_icmp_ge (k := 71) rfl (by omega) (by omega) (fun c71 => ?_) (fun c71 => ?_)
        · refine ar_iconst (k := 74) rfl ?_
          refine ar_goto (k := 75) rfl ?_
          refine ar_istore (k := 92) (l2 := [(6, _), (5, _), (4, _), (3, _), (2, _), (0, _), (1, _)]) rfl (by decide) rfl ?_
          refine ar_iload (k := 93) rfl rfl ?_
          refine ar_if_eq (k := 94) rfl (by omega) (fun c94 => ?_) (fun c94 => ?_)
          · refine ar_iconst (k := 97) rfl ?_
            refine ar_iret (k := 98) rfl rfl rfl (Nat.le_refl _) ?_
            refine ⟨_, rfl, rfl, fun u hu => ?_⟩
            unfold tT bu
            first
              | (exfalso; omega)
              | (obtain ⟨tn, rfl⟩ : ∃ tn : Nat, t = (tn : Int) := ⟨t.toNat, by omega⟩
                 rw [if_pos (show h = 0 by omega), if_pos (show g = 0 by omega), ib_bl tn (by omega) u hu]; apply decide_eq_decide.mpr; omega)
              | (rw [if_pos (show h = 0 by omega), if_pos (show g = 0 by omega), ib_all u hu]; symm; apply decide_eq_true; omega)
              | (obtain ⟨tn, rfl⟩ : ∃ tn : Nat, t = (tn : Int) := ⟨t.toNat, by omega⟩
                 rw [if_neg (show ¬ h = 0 by omega), if_pos (show h = 1 by omega), if_pos (show g = 0 by omega), ib_shl1 tn (by omega) u (by omega)]; apply decide_eq_decide.mpr; omega)
              | (rw [if_neg (show ¬ h = 0 by omega), if_pos (show h = 1 by omega), if_pos (show g = 0 by omega), ib_0]; symm; apply decide_eq_false; omega)
              | (obtain ⟨tn, rfl⟩ : ∃ tn : Nat, t = (tn : Int) := ⟨t.toNat, by omega⟩
                 rw [if_neg (show ¬ h = 0 by omega), if_neg (show ¬ h = 1 by omega), if_pos (show g = 0 by omega), ib_and, ib_and, ib_neg (by omega), ib_neg (by omega), ib_all u hu, ib_bl tn (by omega) u hu, ib_shl1 tn (by omega) u (by omega), Bool.true_and, ← decide_not, ← decide_not, ← Bool.decide_and]; apply decide_eq_decide.mpr; omega)
              | (rw [if_neg (show ¬ h = 0 by omega), if_neg (show ¬ h = 1 by omega), if_pos (show g = 0 by omega), ib_and, ib_and, ib_neg (by omega), ib_neg (by omega), ib_all u hu, ib_0]; symm; apply decide_eq_false; omega)
              | (rw [if_neg (show ¬ g = 0 by omega), ib_all u hu]; (repeat' split) <;> first | (exfalso; omega) | (symm; apply decide_eq_true; omega))
              | (rw [if_neg (show ¬ g = 0 by omega), ib_0]; (repeat' split) <;> first | (exfalso; omega) | (symm; apply decide_eq_false; omega))
          · refine ar_ldc (k := 95) (z := 16777215) rfl cnV_140 rfl ?_
            refine ar_goto (k := 96) rfl ?_
            refine ar_iret (k := 98) rfl rfl rfl (Nat.le_refl _) ?_
            refine ⟨_, rfl, rfl, fun u hu => ?_⟩
            unfold tT bu
            first
              | (exfalso; omega)
              | (obtain ⟨tn, rfl⟩ : ∃ tn : Nat, t = (tn : Int) := ⟨t.toNat, by omega⟩
                 rw [if_pos (show h = 0 by omega), if_pos (show g = 0 by omega), ib_bl tn (by omega) u hu]; apply decide_eq_decide.mpr; omega)
              | (rw [if_pos (show h = 0 by omega), if_pos (show g = 0 by omega), ib_all u hu]; symm; apply decide_eq_true; omega)
              | (obtain ⟨tn, rfl⟩ : ∃ tn : Nat, t = (tn : Int) := ⟨t.toNat, by omega⟩
                 rw [if_neg (show ¬ h = 0 by omega), if_pos (show h = 1 by omega), if_pos (show g = 0 by omega), ib_shl1 tn (by omega) u (by omega)]; apply decide_eq_decide.mpr; omega)
              | (rw [if_neg (show ¬ h = 0 by omega), if_pos (show h = 1 by omega), if_pos (show g = 0 by omega), ib_0]; symm; apply decide_eq_false; omega)
              | (obtain ⟨tn, rfl⟩ : ∃ tn : Nat, t = (tn : Int) := ⟨t.toNat, by omega⟩
                 rw [if_neg (show ¬ h = 0 by omega), if_neg (show ¬ h = 1 by omega), if_pos (show g = 0 by omega), ib_and, ib_and, ib_neg (by omega), ib_neg (by omega), ib_all u hu, ib_bl tn (by omega) u hu, ib_shl1 tn (by omega) u (by omega), Bool.true_and, ← decide_not, ← decide_not, ← Bool.decide_and]; apply decide_eq_decide.mpr; omega)
              | (rw [if_neg (show ¬ h = 0 by omega), if_neg (show ¬ h = 1 by omega), if_pos (show g = 0 by omega), ib_and, ib_and, ib_neg (by omega), ib_neg (by omega), ib_all u hu, ib_0]; symm; apply decide_eq_false; omega)
              | (rw [if_neg (show ¬ g = 0 by omega), ib_all u hu]; (repeat' split) <;> first | (exfalso; omega) | (symm; apply decide_eq_true; omega))
              | (rw [if_neg (show ¬ g = 0 by omega), ib_0]; (repeat' split) <;> first | (exfalso; omega) | (symm; apply decide_eq_false; omega))
        · refine ar_iconst (k := 72) rfl ?_
          refine ar_goto (k := 73) rfl ?_
          refine ar_istore (k := 92) (l2 := [(6, _), (5, _), (4, _), (3, _), (2, _), (0, _), (1, _)]) rfl (by decide) rfl ?_
          refine ar_iload (k := 93) rfl rfl ?_
          refine ar_if_eq (k := 94) rfl (by omega) (fun c94 => ?_) (fun c94 => ?_)
          · refine ar_iconst (k := 97) rfl ?_
            refine ar_iret (k := 98) rfl rfl rfl (Nat.le_refl _) ?_
            refine ⟨_, rfl, rfl, fun u hu => ?_⟩
            unfold tT bu
            first
              | (exfalso; omega)
              | (obtain ⟨tn, rfl⟩ : ∃ tn : Nat, t = (tn : Int) := ⟨t.toNat, by omega⟩
                 rw [if_pos (show h = 0 by omega), if_pos (show g = 0 by omega), ib_bl tn (by omega) u hu]; apply decide_eq_decide.mpr; omega)
              | (rw [if_pos (show h = 0 by omega), if_pos (show g = 0 by omega), ib_all u hu]; symm; apply decide_eq_true; omega)
              | (obtain ⟨tn, rfl⟩ : ∃ tn : Nat, t = (tn : Int) := ⟨t.toNat, by omega⟩
                 rw [if_neg (show ¬ h = 0 by omega), if_pos (show h = 1 by omega), if_pos (show g = 0 by omega), ib_shl1 tn (by omega) u (by omega)]; apply decide_eq_decide.mpr; omega)
              | (rw [if_neg (show ¬ h = 0 by omega), if_pos (show h = 1 by omega), if_pos (show g = 0 by omega), ib_0]; symm; apply decide_eq_false; omega)
              | (obtain ⟨tn, rfl⟩ : ∃ tn : Nat, t = (tn : Int) := ⟨t.toNat, by omega⟩
                 rw [if_neg (show ¬ h = 0 by omega), if_neg (show ¬ h = 1 by omega), if_pos (show g = 0 by omega), ib_and, ib_and, ib_neg (by omega), ib_neg (by omega), ib_all u hu, ib_bl tn (by omega) u hu, ib_shl1 tn (by omega) u (by omega), Bool.true_and, ← decide_not, ← decide_not, ← Bool.decide_and]; apply decide_eq_decide.mpr; omega)
              | (rw [if_neg (show ¬ h = 0 by omega), if_neg (show ¬ h = 1 by omega), if_pos (show g = 0 by omega), ib_and, ib_and, ib_neg (by omega), ib_neg (by omega), ib_all u hu, ib_0]; symm; apply decide_eq_false; omega)
              | (rw [if_neg (show ¬ g = 0 by omega), ib_all u hu]; (repeat' split) <;> first | (exfalso; omega) | (symm; apply decide_eq_true; omega))
              | (rw [if_neg (show ¬ g = 0 by omega), ib_0]; (repeat' split) <;> first | (exfalso; omega) | (symm; apply decide_eq_false; omega))
          · refine ar_ldc (k := 95) (z := 16777215) rfl cnV_140 rfl ?_
            refine ar_goto (k := 96) rfl ?_
            refine ar_iret (k := 98) rfl rfl rfl (Nat.le_refl _) ?_
            refine ⟨_, rfl, rfl, fun u hu => ?_⟩
            unfold tT bu
            first
              | (exfalso; omega)
              | (obtain ⟨tn, rfl⟩ : ∃ tn : Nat, t = (tn : Int) := ⟨t.toNat, by omega⟩
                 rw [if_pos (show h = 0 by omega), if_pos (show g = 0 by omega), ib_bl tn (by omega) u hu]; apply decide_eq_decide.mpr; omega)
              | (rw [if_pos (show h = 0 by omega), if_pos (show g = 0 by omega), ib_all u hu]; symm; apply decide_eq_true; omega)
              | (obtain ⟨tn, rfl⟩ : ∃ tn : Nat, t = (tn : Int) := ⟨t.toNat, by omega⟩
                 rw [if_neg (show ¬ h = 0 by omega), if_pos (show h = 1 by omega), if_pos (show g = 0 by omega), ib_shl1 tn (by omega) u (by omega)]; apply decide_eq_decide.mpr; omega)
              | (rw [if_neg (show ¬ h = 0 by omega), if_pos (show h = 1 by omega), if_pos (show g = 0 by omega), ib_0]; symm; apply decide_eq_false; omega)
              | (obtain ⟨tn, rfl⟩ : ∃ tn : Nat, t = (tn : Int) := ⟨t.toNat, by omega⟩
                 rw [if_neg (show ¬ h = 0 by omega), if_neg (show ¬ h = 1 by omega), if_pos (show g = 0 by omega), ib_and, ib_and, ib_neg (by omega), ib_neg (by omega), ib_all u hu, ib_bl tn (by omega) u hu, ib_shl1 tn (by omega) u (by omega), Bool.true_and, ← decide_not, ← decide_not, ← Bool.decide_and]; apply decide_eq_decide.mpr; omega)
              | (rw [if_neg (show ¬ h = 0 by omega), if_neg (show ¬ h = 1 by omega), if_pos (show g = 0 by omega), ib_and, ib_and, ib_neg (by omega), ib_neg (by omega), ib_all u hu, ib_0]; symm; apply decide_eq_false; omega)
              | (rw [if_neg (show ¬ g = 0 by omega), ib_all u hu]; (repeat' split) <;> first | (exfalso; omega) | (symm; apply decide_eq_true; omega))
              | (rw [if_neg (show ¬ g = 0 by omega), ib_0]; (repeat' split) <;> first | (exfalso; omega) | (symm; apply decide_eq_false; omega))
    · refine ar_aloadn (k := 60) rfl rfl ?_
      refine br_getR (k := 61) rfl hv.k0 flV_31_9 (by decide) rfl hv.q6 ?_
      refine ar_iload (k := 62) rfl rfl ?_
      refine br_iald (k := 63) rfl hv.k4 (by omega) (by omega) (by decide) ?_
      refine tw_top (hf _ (by omega) (by omega)) ?_
      refine ar_goto (k := 64) rfl ?_
      have hbg := hb g (by omega) (by omega)
      refine ar_istore (k := 66) (l2 := [(5, _), (4, _), (3, _), (2, _), (0, _), (1, _)]) rfl (by decide) rfl ?_
      refine ar_iloadn (k := 67) rfl rfl ?_
      refine ar_if_ne (k := 68) rfl (by omega) (fun c68 => ?_) (fun c68 => ?_)
      · refine ar_iloadn (k := 76) rfl rfl ?_
        refine ar_iconst (k := 77) rfl ?_
        refine ar_icmp_ne (k := 78) rfl (by omega) (by omega) (fun c78 => ?_) (fun c78 => ?_)
        · refine ar_iload (k := 86) rfl rfl ?_
          refine ar_iloadn (k := 87) rfl rfl ?_
          refine ar_icmp_le (k := 88) rfl (by omega) (by omega) (fun c88 => ?_) (fun c88 => ?_)
          · refine ar_iconst (k := 91) rfl ?_
            refine ar_istore (k := 92) (l2 := [(6, _), (5, _), (4, _), (3, _), (2, _), (0, _), (1, _)]) rfl (by decide) rfl ?_
            refine ar_iload (k := 93) rfl rfl ?_
            refine ar_if_eq (k := 94) rfl (by omega) (fun c94 => ?_) (fun c94 => ?_)
            · refine ar_iconst (k := 97) rfl ?_
              refine ar_iret (k := 98) rfl rfl rfl (Nat.le_refl _) ?_
              refine ⟨_, rfl, rfl, fun u hu => ?_⟩
              unfold tT bu
              first
                | (exfalso; omega)
                | (obtain ⟨tn, rfl⟩ : ∃ tn : Nat, t = (tn : Int) := ⟨t.toNat, by omega⟩
                   rw [if_pos (show h = 0 by omega), if_pos (show g = 0 by omega), ib_bl tn (by omega) u hu]; apply decide_eq_decide.mpr; omega)
                | (rw [if_pos (show h = 0 by omega), if_pos (show g = 0 by omega), ib_all u hu]; symm; apply decide_eq_true; omega)
                | (obtain ⟨tn, rfl⟩ : ∃ tn : Nat, t = (tn : Int) := ⟨t.toNat, by omega⟩
                   rw [if_neg (show ¬ h = 0 by omega), if_pos (show h = 1 by omega), if_pos (show g = 0 by omega), ib_shl1 tn (by omega) u (by omega)]; apply decide_eq_decide.mpr; omega)
                | (rw [if_neg (show ¬ h = 0 by omega), if_pos (show h = 1 by omega), if_pos (show g = 0 by omega), ib_0]; symm; apply decide_eq_false; omega)
                | (obtain ⟨tn, rfl⟩ : ∃ tn : Nat, t = (tn : Int) := ⟨t.toNat, by omega⟩
                   rw [if_neg (show ¬ h = 0 by omega), if_neg (show ¬ h = 1 by omega), if_pos (show g = 0 by omega), ib_and, ib_and, ib_neg (by omega), ib_neg (by omega), ib_all u hu, ib_bl tn (by omega) u hu, ib_shl1 tn (by omega) u (by omega), Bool.true_and, ← decide_not, ← decide_not, ← Bool.decide_and]; apply decide_eq_decide.mpr; omega)
                | (rw [if_neg (show ¬ h = 0 by omega), if_neg (show ¬ h = 1 by omega), if_pos (show g = 0 by omega), ib_and, ib_and, ib_neg (by omega), ib_neg (by omega), ib_all u hu, ib_0]; symm; apply decide_eq_false; omega)
                | (rw [if_neg (show ¬ g = 0 by omega), ib_all u hu]; (repeat' split) <;> first | (exfalso; omega) | (symm; apply decide_eq_true; omega))
                | (rw [if_neg (show ¬ g = 0 by omega), ib_0]; (repeat' split) <;> first | (exfalso; omega) | (symm; apply decide_eq_false; omega))
            · refine ar_ldc (k := 95) (z := 16777215) rfl cnV_140 rfl ?_
              refine ar_goto (k := 96) rfl ?_
              refine ar_iret (k := 98) rfl rfl rfl (Nat.le_refl _) ?_
              refine ⟨_, rfl, rfl, fun u hu => ?_⟩
              unfold tT bu
              first
                | (exfalso; omega)
                | (obtain ⟨tn, rfl⟩ : ∃ tn : Nat, t = (tn : Int) := ⟨t.toNat, by omega⟩
                   rw [if_pos (show h = 0 by omega), if_pos (show g = 0 by omega), ib_bl tn (by omega) u hu]; apply decide_eq_decide.mpr; omega)
                | (rw [if_pos (show h = 0 by omega), if_pos (show g = 0 by omega), ib_all u hu]; symm; apply decide_eq_true; omega)
                | (obtain ⟨tn, rfl⟩ : ∃ tn : Nat, t = (tn : Int) := ⟨t.toNat, by omega⟩
                   rw [if_neg (show ¬ h = 0 by omega), if_pos (show h = 1 by omega), if_pos (show g = 0 by omega), ib_shl1 tn (by omega) u (by omega)]; apply decide_eq_decide.mpr; omega)
                | (rw [if_neg (show ¬ h = 0 by omega), if_pos (show h = 1 by omega), if_pos (show g = 0 by omega), ib_0]; symm; apply decide_eq_false; omega)
                | (obtain ⟨tn, rfl⟩ : ∃ tn : Nat, t = (tn : Int) := ⟨t.toNat, by omega⟩
                   rw [if_neg (show ¬ h = 0 by omega), if_neg (show ¬ h = 1 by omega), if_pos (show g = 0 by omega), ib_and, ib_and, ib_neg (by omega), ib_neg (by omega), ib_all u hu, ib_bl tn (by omega) u hu, ib_shl1 tn (by omega) u (by omega), Bool.true_and, ← decide_not, ← decide_not, ← Bool.decide_and]; apply decide_eq_decide.mpr; omega)
                | (rw [if_neg (show ¬ h = 0 by omega), if_neg (show ¬ h = 1 by omega), if_pos (show g = 0 by omega), ib_and, ib_and, ib_neg (by omega), ib_neg (by omega), ib_all u hu, ib_0]; symm; apply decide_eq_false; omega)
                | (rw [if_neg (show ¬ g = 0 by omega), ib_all u hu]; (repeat' split) <;> first | (exfalso; omega) | (symm; apply decide_eq_true; omega))
                | (rw [if_neg (show ¬ g = 0 by omega), ib_0]; (repeat' split) <;> first | (exfalso; omega) | (symm; apply decide_eq_false; omega))
          · refine ar_iconst (k := 89) rfl ?_
            refine ar_goto (k := 90) rfl ?_
            refine ar_istore (k := 92) (l2 := [(6, _), (5, _), (4, _), (3, _), (2, _), (0, _), (1, _)]) rfl (by decide) rfl ?_
            refine ar_iload (k := 93) rfl rfl ?_
            refine ar_if_eq (k := 94) rfl (by omega) (fun c94 => ?_) (fun c94 => ?_)
            · refine ar_iconst (k := 97) rfl ?_
              refine ar_iret (k := 98) rfl rfl rfl (Nat.le_refl _) ?_
              refine ⟨_, rfl, rfl, fun u hu => ?_⟩
              unfold tT bu
              first
                | (exfalso; omega)
                | (obtain ⟨tn, rfl⟩ : ∃ tn : Nat, t = (tn : Int) := ⟨t.toNat, by omega⟩
                   rw [if_pos (show h = 0 by omega), if_pos (show g = 0 by omega), ib_bl tn (by omega) u hu]; apply decide_eq_decide.mpr; omega)
                | (rw [if_pos (show h = 0 by omega), if_pos (show g = 0 by omega), ib_all u hu]; symm; apply decide_eq_true; omega)
                | (obtain ⟨tn, rfl⟩ : ∃ tn : Nat, t = (tn : Int) := ⟨t.toNat, by omega⟩
                   rw [if_neg (show ¬ h = 0 by omega), if_pos (show h = 1 by omega), if_pos (show g = 0 by omega), ib_shl1 tn (by omega) u (by omega)]; apply decide_eq_decide.mpr; omega)
                | (rw [if_neg (show ¬ h = 0 by omega), if_pos (show h = 1 by omega), if_pos (show g = 0 by omega), ib_0]; symm; apply decide_eq_false; omega)
                | (obtain ⟨tn, rfl⟩ : ∃ tn : Nat, t = (tn : Int) := ⟨t.toNat, by omega⟩
                   rw [if_neg (show ¬ h = 0 by omega), if_neg (show ¬ h = 1 by omega), if_pos (show g = 0 by omega), ib_and, ib_and, ib_neg (by omega), ib_neg (by omega), ib_all u hu, ib_bl tn (by omega) u hu, ib_shl1 tn (by omega) u (by omega), Bool.true_and, ← decide_not, ← decide_not, ← Bool.decide_and]; apply decide_eq_decide.mpr; omega)
                | (rw [if_neg (show ¬ h = 0 by omega), if_neg (show ¬ h = 1 by omega), if_pos (show g = 0 by omega), ib_and, ib_and, ib_neg (by omega), ib_neg (by omega), ib_all u hu, ib_0]; symm; apply decide_eq_false; omega)
                | (rw [if_neg (show ¬ g = 0 by omega), ib_all u hu]; (repeat' split) <;> first | (exfalso; omega) | (symm; apply decide_eq_true; omega))
                | (rw [if_neg (show ¬ g = 0 by omega), ib_0]; (repeat' split) <;> first | (exfalso; omega) | (symm; apply decide_eq_false; omega))
            · refine ar_ldc (k := 95) (z := 16777215) rfl cnV_140 rfl ?_
              refine ar_goto (k := 96) rfl ?_
              refine ar_iret (k := 98) rfl rfl rfl (Nat.le_refl _) ?_
              refine ⟨_, rfl, rfl, fun u hu => ?_⟩
              unfold tT bu
              first
                | (exfalso; omega)
                | (obtain ⟨tn, rfl⟩ : ∃ tn : Nat, t = (tn : Int) := ⟨t.toNat, by omega⟩
                   rw [if_pos (show h = 0 by omega), if_pos (show g = 0 by omega), ib_bl tn (by omega) u hu]; apply decide_eq_decide.mpr; omega)
                | (rw [if_pos (show h = 0 by omega), if_pos (show g = 0 by omega), ib_all u hu]; symm; apply decide_eq_true; omega)
                | (obtain ⟨tn, rfl⟩ : ∃ tn : Nat, t = (tn : Int) := ⟨t.toNat, by omega⟩
                   rw [if_neg (show ¬ h = 0 by omega), if_pos (show h = 1 by omega), if_pos (show g = 0 by omega), ib_shl1 tn (by omega) u (by omega)]; apply decide_eq_decide.mpr; omega)
                | (rw [if_neg (show ¬ h = 0 by omega), if_pos (show h = 1 by omega), if_pos (show g = 0 by omega), ib_0]; symm; apply decide_eq_false; omega)
                | (obtain ⟨tn, rfl⟩ : ∃ tn : Nat, t = (tn : Int) := ⟨t.toNat, by omega⟩
                   rw [if_neg (show ¬ h = 0 by omega), if_neg (show ¬ h = 1 by omega), if_pos (show g = 0 by omega), ib_and, ib_and, ib_neg (by omega), ib_neg (by omega), ib_all u hu, ib_bl tn (by omega) u hu, ib_shl1 tn (by omega) u (by omega), Bool.true_and, ← decide_not, ← decide_not, ← Bool.decide_and]; apply decide_eq_decide.mpr; omega)
                | (rw [if_neg (show ¬ h = 0 by omega), if_neg (show ¬ h = 1 by omega), if_pos (show g = 0 by omega), ib_and, ib_and, ib_neg (by omega), ib_neg (by omega), ib_all u hu, ib_0]; symm; apply decide_eq_false; omega)
                | (rw [if_neg (show ¬ g = 0 by omega), ib_all u hu]; (repeat' split) <;> first | (exfalso; omega) | (symm; apply decide_eq_true; omega))
                | (rw [if_neg (show ¬ g = 0 by omega), ib_0]; (repeat' split) <;> first | (exfalso; omega) | (symm; apply decide_eq_false; omega))
        · refine ar_iload (k := 79) rfl rfl ?_
          refine ar_iloadn (k := 80) rfl rfl ?_
          refine ar_icmp_ne (k := 81) rfl (by omega) (by omega) (fun c81 => ?_) (fun c81 => ?_)
          · refine ar_iconst (k := 84) rfl ?_
            refine ar_goto (k := 85) rfl ?_
            refine ar_istore (k := 92) (l2 := [(6, _), (5, _), (4, _), (3, _), (2, _), (0, _), (1, _)]) rfl (by decide) rfl ?_
            refine ar_iload (k := 93) rfl rfl ?_
            refine ar_if_eq (k := 94) rfl (by omega) (fun c94 => ?_) (fun c94 => ?_)
            · refine ar_iconst (k := 97) rfl ?_
              refine ar_iret (k := 98) rfl rfl rfl (Nat.le_refl _) ?_
              refine ⟨_, rfl, rfl, fun u hu => ?_⟩
              unfold tT bu
              first
                | (exfalso; omega)
                | (obtain ⟨tn, rfl⟩ : ∃ tn : Nat, t = (tn : Int) := ⟨t.toNat, by omega⟩
                   rw [if_pos (show h = 0 by omega), if_pos (show g = 0 by omega), ib_bl tn (by omega) u hu]; apply decide_eq_decide.mpr; omega)
                | (rw [if_pos (show h = 0 by omega), if_pos (show g = 0 by omega), ib_all u hu]; symm; apply decide_eq_true; omega)
                | (obtain ⟨tn, rfl⟩ : ∃ tn : Nat, t = (tn : Int) := ⟨t.toNat, by omega⟩
                   rw [if_neg (show ¬ h = 0 by omega), if_pos (show h = 1 by omega), if_pos (show g = 0 by omega), ib_shl1 tn (by omega) u (by omega)]; apply decide_eq_decide.mpr; omega)
                | (rw [if_neg (show ¬ h = 0 by omega), if_pos (show h = 1 by omega), if_pos (show g = 0 by omega), ib_0]; symm; apply decide_eq_false; omega)
                | (obtain ⟨tn, rfl⟩ : ∃ tn : Nat, t = (tn : Int) := ⟨t.toNat, by omega⟩
                   rw [if_neg (show ¬ h = 0 by omega), if_neg (show ¬ h = 1 by omega), if_pos (show g = 0 by omega), ib_and, ib_and, ib_neg (by omega), ib_neg (by omega), ib_all u hu, ib_bl tn (by omega) u hu, ib_shl1 tn (by omega) u (by omega), Bool.true_and, ← decide_not, ← decide_not, ← Bool.decide_and]; apply decide_eq_decide.mpr; omega)
                | (rw [if_neg (show ¬ h = 0 by omega), if_neg (show ¬ h = 1 by omega), if_pos (show g = 0 by omega), ib_and, ib_and, ib_neg (by omega), ib_neg (by omega), ib_all u hu, ib_0]; symm; apply decide_eq_false; omega)
                | (rw [if_neg (show ¬ g = 0 by omega), ib_all u hu]; (repeat' split) <;> first | (exfalso; omega) | (symm; apply decide_eq_true; omega))
                | (rw [if_neg (show ¬ g = 0 by omega), ib_0]; (repeat' split) <;> first | (exfalso; omega) | (symm; apply decide_eq_false; omega))
            · refine ar_ldc (k := 95) (z := 16777215) rfl cnV_140 rfl ?_
              refine ar_goto (k := 96) rfl ?_
              refine ar_iret (k := 98) rfl rfl rfl (Nat.le_refl _) ?_
              refine ⟨_, rfl, rfl, fun u hu => ?_⟩
              unfold tT bu
              first
                | (exfalso; omega)
                | (obtain ⟨tn, rfl⟩ : ∃ tn : Nat, t = (tn : Int) := ⟨t.toNat, by omega⟩
                   rw [if_pos (show h = 0 by omega), if_pos (show g = 0 by omega), ib_bl tn (by omega) u hu]; apply decide_eq_decide.mpr; omega)
                | (rw [if_pos (show h = 0 by omega), if_pos (show g = 0 by omega), ib_all u hu]; symm; apply decide_eq_true; omega)
                | (obtain ⟨tn, rfl⟩ : ∃ tn : Nat, t = (tn : Int) := ⟨t.toNat, by omega⟩
                   rw [if_neg (show ¬ h = 0 by omega), if_pos (show h = 1 by omega), if_pos (show g = 0 by omega), ib_shl1 tn (by omega) u (by omega)]; apply decide_eq_decide.mpr; omega)
                | (rw [if_neg (show ¬ h = 0 by omega), if_pos (show h = 1 by omega), if_pos (show g = 0 by omega), ib_0]; symm; apply decide_eq_false; omega)
                | (obtain ⟨tn, rfl⟩ : ∃ tn : Nat, t = (tn : Int) := ⟨t.toNat, by omega⟩
                   rw [if_neg (show ¬ h = 0 by omega), if_neg (show ¬ h = 1 by omega), if_pos (show g = 0 by omega), ib_and, ib_and, ib_neg (by omega), ib_neg (by omega), ib_all u hu, ib_bl tn (by omega) u hu, ib_shl1 tn (by omega) u (by omega), Bool.true_and, ← decide_not, ← decide_not, ← Bool.decide_and]; apply decide_eq_decide.mpr; omega)
                | (rw [if_neg (show ¬ h = 0 by omega), if_neg (show ¬ h = 1 by omega), if_pos (show g = 0 by omega), ib_and, ib_and, ib_neg (by omega), ib_neg (by omega), ib_all u hu, ib_0]; symm; apply decide_eq_false; omega)
                | (rw [if_neg (show ¬ g = 0 by omega), ib_all u hu]; (repeat' split) <;> first | (exfalso; omega) | (symm; apply decide_eq_true; omega))
                | (rw [if_neg (show ¬ g = 0 by omega), ib_0]; (repeat' split) <;> first | (exfalso; omega) | (symm; apply decide_eq_false; omega))
          · refine ar_iconst (k := 82) rfl ?_
            refine ar_goto (k := 83) rfl ?_
            refine ar_istore (k := 92) (l2 := [(6, _), (5, _), (4, _), (3, _), (2, _), (0, _), (1, _)]) rfl (by decide) rfl ?_
            refine ar_iload (k := 93) rfl rfl ?_
            refine ar_if_eq (k := 94) rfl (by omega) (fun c94 => ?_) (fun c94 => ?_)
            · refine ar_iconst (k := 97) rfl ?_
              refine ar_iret (k := 98) rfl rfl rfl (Nat.le_refl _) ?_
              refine ⟨_, rfl, rfl, fun u hu => ?_⟩
              unfold tT bu
              first
                | (exfalso; omega)
                | (obtain ⟨tn, rfl⟩ : ∃ tn : Nat, t = (tn : Int) := ⟨t.toNat, by omega⟩
                   rw [if_pos (show h = 0 by omega), if_pos (show g = 0 by omega), ib_bl tn (by omega) u hu]; apply decide_eq_decide.mpr; omega)
                | (rw [if_pos (show h = 0 by omega), if_pos (show g = 0 by omega), ib_all u hu]; symm; apply decide_eq_true; omega)
                | (obtain ⟨tn, rfl⟩ : ∃ tn : Nat, t = (tn : Int) := ⟨t.toNat, by omega⟩
                   rw [if_neg (show ¬ h = 0 by omega), if_pos (show h = 1 by omega), if_pos (show g = 0 by omega), ib_shl1 tn (by omega) u (by omega)]; apply decide_eq_decide.mpr; omega)
                | (rw [if_neg (show ¬ h = 0 by omega), if_pos (show h = 1 by omega), if_pos (show g = 0 by omega), ib_0]; symm; apply decide_eq_false; omega)
                | (obtain ⟨tn, rfl⟩ : ∃ tn : Nat, t = (tn : Int) := ⟨t.toNat, by omega⟩
                   rw [if_neg (show ¬ h = 0 by omega), if_neg (show ¬ h = 1 by omega), if_pos (show g = 0 by omega), ib_and, ib_and, ib_neg (by omega), ib_neg (by omega), ib_all u hu, ib_bl tn (by omega) u hu, ib_shl1 tn (by omega) u (by omega), Bool.true_and, ← decide_not, ← decide_not, ← Bool.decide_and]; apply decide_eq_decide.mpr; omega)
                | (rw [if_neg (show ¬ h = 0 by omega), if_neg (show ¬ h = 1 by omega), if_pos (show g = 0 by omega), ib_and, ib_and, ib_neg (by omega), ib_neg (by omega), ib_all u hu, ib_0]; symm; apply decide_eq_false; omega)
                | (rw [if_neg (show ¬ g = 0 by omega), ib_all u hu]; (repeat' split) <;> first | (exfalso; omega) | (symm; apply decide_eq_true; omega))
                | (rw [if_neg (show ¬ g = 0 by omega), ib_0]; (repeat' split) <;> first | (exfalso; omega) | (symm; apply decide_eq_false; omega))
            · refine ar_ldc (k := 95) (z := 16777215) rfl cnV_140 rfl ?_
              refine ar_goto (k := 96) rfl ?_
              refine ar_iret (k := 98) rfl rfl rfl (Nat.le_refl _) ?_
              refine ⟨_, rfl, rfl, fun u hu => ?_⟩
              unfold tT bu
              first
                | (exfalso; omega)
                | (obtain ⟨tn, rfl⟩ : ∃ tn : Nat, t = (tn : Int) := ⟨t.toNat, by omega⟩
                   rw [if_pos (show h = 0 by omega), if_pos (show g = 0 by omega), ib_bl tn (by omega) u hu]; apply decide_eq_decide.mpr; omega)
                | (rw [if_pos (show h = 0 by omega), if_pos (show g = 0 by omega), ib_all u hu]; symm; apply decide_eq_true; omega)
                | (obtain ⟨tn, rfl⟩ : ∃ tn : Nat, t = (tn : Int) := ⟨t.toNat, by omega⟩
                   rw [if_neg (show ¬ h = 0 by omega), if_pos (show h = 1 by omega), if_pos (show g = 0 by omega), ib_shl1 tn (by omega) u (by omega)]; apply decide_eq_decide.mpr; omega)
                | (rw [if_neg (show ¬ h = 0 by omega), if_pos (show h = 1 by omega), if_pos (show g = 0 by omega), ib_0]; symm; apply decide_eq_false; omega)
                | (obtain ⟨tn, rfl⟩ : ∃ tn : Nat, t = (tn : Int) := ⟨t.toNat, by omega⟩
                   rw [if_neg (show ¬ h = 0 by omega), if_neg (show ¬ h = 1 by omega), if_pos (show g = 0 by omega), ib_and, ib_and, ib_neg (by omega), ib_neg (by omega), ib_all u hu, ib_bl tn (by omega) u hu, ib_shl1 tn (by omega) u (by omega), Bool.true_and, ← decide_not, ← decide_not, ← Bool.decide_and]; apply decide_eq_decide.mpr; omega)
                | (rw [if_neg (show ¬ h = 0 by omega), if_neg (show ¬ h = 1 by omega), if_pos (show g = 0 by omega), ib_and, ib_and, ib_neg (by omega), ib_neg (by omega), ib_all u hu, ib_0]; symm; apply decide_eq_false; omega)
                | (rw [if_neg (show ¬ g = 0 by omega), ib_all u hu]; (repeat' split) <;> first | (exfalso; omega) | (symm; apply decide_eq_true; omega))
                | (rw [if_neg (show ¬ g = 0 by omega), ib_0]; (repeat' split) <;> first | (exfalso; omega) | (symm; apply decide_eq_false; omega))
      · refine ar_iload (k := 69) rfl rfl ?_
        refine ar_iloadn (k := 70) rfl rfl ?_
        refine ar_icmp_ge (k := 71) rfl (by omega) (by omega) (fun c71 => ?_) (fun c71 => ?_)
        · refine ar_iconst (k := 74) rfl ?_
          refine ar_goto (k := 75) rfl ?_
          refine ar_istore (k := 92) (l2 := [(6, _), (5, _), (4, _), (3, _), (2, _), (0, _), (1, _)]) rfl (by decide) rfl ?_
          refine ar_iload (k := 93) rfl rfl ?_
          refine ar_if_eq (k := 94) rfl (by omega) (fun c94 => ?_) (fun c94 => ?_)
          · refine ar_iconst (k := 97) rfl ?_
            refine ar_iret (k := 98) rfl rfl rfl (Nat.le_refl _) ?_
            refine ⟨_, rfl, rfl, fun u hu => ?_⟩
            unfold tT bu
            first
              | (exfalso; omega)
              | (obtain ⟨tn, rfl⟩ : ∃ tn : Nat, t = (tn : Int) := ⟨t.toNat, by omega⟩
                 rw [if_pos (show h = 0 by omega), if_pos (show g = 0 by omega), ib_bl tn (by omega) u hu]; apply decide_eq_decide.mpr; omega)
              | (rw [if_pos (show h = 0 by omega), if_pos (show g = 0 by omega), ib_all u hu]; symm; apply decide_eq_true; omega)
              | (obtain ⟨tn, rfl⟩ : ∃ tn : Nat, t = (tn : Int) := ⟨t.toNat, by omega⟩
                 rw [if_neg (show ¬ h = 0 by omega), if_pos (show h = 1 by omega), if_pos (show g = 0 by omega), ib_shl1 tn (by omega) u (by omega)]; apply decide_eq_decide.mpr; omega)
              | (rw [if_neg (show ¬ h = 0 by omega), if_pos (show h = 1 by omega), if_pos (show g = 0 by omega), ib_0]; symm; apply decide_eq_false; omega)
              | (obtain ⟨tn, rfl⟩ : ∃ tn : Nat, t = (tn : Int) := ⟨t.toNat, by omega⟩
                 rw [if_neg (show ¬ h = 0 by omega), if_neg (show ¬ h = 1 by omega), if_pos (show g = 0 by omega), ib_and, ib_and, ib_neg (by omega), ib_neg (by omega), ib_all u hu, ib_bl tn (by omega) u hu, ib_shl1 tn (by omega) u (by omega), Bool.true_and, ← decide_not, ← decide_not, ← Bool.decide_and]; apply decide_eq_decide.mpr; omega)
              | (rw [if_neg (show ¬ h = 0 by omega), if_neg (show ¬ h = 1 by omega), if_pos (show g = 0 by omega), ib_and, ib_and, ib_neg (by omega), ib_neg (by omega), ib_all u hu, ib_0]; symm; apply decide_eq_false; omega)
              | (rw [if_neg (show ¬ g = 0 by omega), ib_all u hu]; (repeat' split) <;> first | (exfalso; omega) | (symm; apply decide_eq_true; omega))
              | (rw [if_neg (show ¬ g = 0 by omega), ib_0]; (repeat' split) <;> first | (exfalso; omega) | (symm; apply decide_eq_false; omega))
          · refine ar_ldc (k := 95) (z := 16777215) rfl cnV_140 rfl ?_
            refine ar_goto (k := 96) rfl ?_
            refine ar_iret (k := 98) rfl rfl rfl (Nat.le_refl _) ?_
            refine ⟨_, rfl, rfl, fun u hu => ?_⟩
            unfold tT bu
            first
              | (exfalso; omega)
              | (obtain ⟨tn, rfl⟩ : ∃ tn : Nat, t = (tn : Int) := ⟨t.toNat, by omega⟩
                 rw [if_pos (show h = 0 by omega), if_pos (show g = 0 by omega), ib_bl tn (by omega) u hu]; apply decide_eq_decide.mpr; omega)
              | (rw [if_pos (show h = 0 by omega), if_pos (show g = 0 by omega), ib_all u hu]; symm; apply decide_eq_true; omega)
              | (obtain ⟨tn, rfl⟩ : ∃ tn : Nat, t = (tn : Int) := ⟨t.toNat, by omega⟩
                 rw [if_neg (show ¬ h = 0 by omega), if_pos (show h = 1 by omega), if_pos (show g = 0 by omega), ib_shl1 tn (by omega) u (by omega)]; apply decide_eq_decide.mpr; omega)
              | (rw [if_neg (show ¬ h = 0 by omega), if_pos (show h = 1 by omega), if_pos (show g = 0 by omega), ib_0]; symm; apply decide_eq_false; omega)
              | (obtain ⟨tn, rfl⟩ : ∃ tn : Nat, t = (tn : Int) := ⟨t.toNat, by omega⟩
                 rw [if_neg (show ¬ h = 0 by omega), if_neg (show ¬ h = 1 by omega), if_pos (show g = 0 by omega), ib_and, ib_and, ib_neg (by omega), ib_neg (by omega), ib_all u hu, ib_bl tn (by omega) u hu, ib_shl1 tn (by omega) u (by omega), Bool.true_and, ← decide_not, ← decide_not, ← Bool.decide_and]; apply decide_eq_decide.mpr; omega)
              | (rw [if_neg (show ¬ h = 0 by omega), if_neg (show ¬ h = 1 by omega), if_pos (show g = 0 by omega), ib_and, ib_and, ib_neg (by omega), ib_neg (by omega), ib_all u hu, ib_0]; symm; apply decide_eq_false; omega)
              | (rw [if_neg (show ¬ g = 0 by omega), ib_all u hu]; (repeat' split) <;> first | (exfalso; omega) | (symm; apply decide_eq_true; omega))
              | (rw [if_neg (show ¬ g = 0 by omega), ib_0]; (repeat' split) <;> first | (exfalso; omega) | (symm; apply decide_eq_false; omega))
        · refine ar_iconst (k := 72) rfl ?_
          refine ar_goto (k := 73) rfl ?_
          refine ar_istore (k := 92) (l2 := [(6, _), (5, _), (4, _), (3, _), (2, _), (0, _), (1, _)]) rfl (by decide) rfl ?_
          refine ar_iload (k := 93) rfl rfl ?_
          refine ar_if_eq (k := 94) rfl (by omega) (fun c94 => ?_) (fun c94 => ?_)
          · refine ar_iconst (k := 97) rfl ?_
            refine ar_iret (k := 98) rfl rfl rfl (Nat.le_refl _) ?_
            refine ⟨_, rfl, rfl, fun u hu => ?_⟩
            unfold tT bu
            first
              | (exfalso; omega)
              | (obtain ⟨tn, rfl⟩ : ∃ tn : Nat, t = (tn : Int) := ⟨t.toNat, by omega⟩
                 rw [if_pos (show h = 0 by omega), if_pos (show g = 0 by omega), ib_bl tn (by omega) u hu]; apply decide_eq_decide.mpr; omega)
              | (rw [if_pos (show h = 0 by omega), if_pos (show g = 0 by omega), ib_all u hu]; symm; apply decide_eq_true; omega)
              | (obtain ⟨tn, rfl⟩ : ∃ tn : Nat, t = (tn : Int) := ⟨t.toNat, by omega⟩
                 rw [if_neg (show ¬ h = 0 by omega), if_pos (show h = 1 by omega), if_pos (show g = 0 by omega), ib_shl1 tn (by omega) u (by omega)]; apply decide_eq_decide.mpr; omega)
              | (rw [if_neg (show ¬ h = 0 by omega), if_pos (show h = 1 by omega), if_pos (show g = 0 by omega), ib_0]; symm; apply decide_eq_false; omega)
              | (obtain ⟨tn, rfl⟩ : ∃ tn : Nat, t = (tn : Int) := ⟨t.toNat, by omega⟩
                 rw [if_neg (show ¬ h = 0 by omega), if_neg (show ¬ h = 1 by omega), if_pos (show g = 0 by omega), ib_and, ib_and, ib_neg (by omega), ib_neg (by omega), ib_all u hu, ib_bl tn (by omega) u hu, ib_shl1 tn (by omega) u (by omega), Bool.true_and, ← decide_not, ← decide_not, ← Bool.decide_and]; apply decide_eq_decide.mpr; omega)
              | (rw [if_neg (show ¬ h = 0 by omega), if_neg (show ¬ h = 1 by omega), if_pos (show g = 0 by omega), ib_and, ib_and, ib_neg (by omega), ib_neg (by omega), ib_all u hu, ib_0]; symm; apply decide_eq_false; omega)
              | (rw [if_neg (show ¬ g = 0 by omega), ib_all u hu]; (repeat' split) <;> first | (exfalso; omega) | (symm; apply decide_eq_true; omega))
              | (rw [if_neg (show ¬ g = 0 by omega), ib_0]; (repeat' split) <;> first | (exfalso; omega) | (symm; apply decide_eq_false; omega))
          · refine ar_ldc (k := 95) (z := 16777215) rfl cnV_140 rfl ?_
            refine ar_goto (k := 96) rfl ?_
            refine ar_iret (k := 98) rfl rfl rfl (Nat.le_refl _) ?_
            refine ⟨_, rfl, rfl, fun u hu => ?_⟩
            unfold tT bu
            first
              | (exfalso; omega)
              | (obtain ⟨tn, rfl⟩ : ∃ tn : Nat, t = (tn : Int) := ⟨t.toNat, by omega⟩
                 rw [if_pos (show h = 0 by omega), if_pos (show g = 0 by omega), ib_bl tn (by omega) u hu]; apply decide_eq_decide.mpr; omega)
              | (rw [if_pos (show h = 0 by omega), if_pos (show g = 0 by omega), ib_all u hu]; symm; apply decide_eq_true; omega)
              | (obtain ⟨tn, rfl⟩ : ∃ tn : Nat, t = (tn : Int) := ⟨t.toNat, by omega⟩
                 rw [if_neg (show ¬ h = 0 by omega), if_pos (show h = 1 by omega), if_pos (show g = 0 by omega), ib_shl1 tn (by omega) u (by omega)]; apply decide_eq_decide.mpr; omega)
              | (rw [if_neg (show ¬ h = 0 by omega), if_pos (show h = 1 by omega), if_pos (show g = 0 by omega), ib_0]; symm; apply decide_eq_false; omega)
              | (obtain ⟨tn, rfl⟩ : ∃ tn : Nat, t = (tn : Int) := ⟨t.toNat, by omega⟩
                 rw [if_neg (show ¬ h = 0 by omega), if_neg (show ¬ h = 1 by omega), if_pos (show g = 0 by omega), ib_and, ib_and, ib_neg (by omega), ib_neg (by omega), ib_all u hu, ib_bl tn (by omega) u hu, ib_shl1 tn (by omega) u (by omega), Bool.true_and, ← decide_not, ← decide_not, ← Bool.decide_and]; apply decide_eq_decide.mpr; omega)
              | (rw [if_neg (show ¬ h = 0 by omega), if_neg (show ¬ h = 1 by omega), if_pos (show g = 0 by omega), ib_and, ib_and, ib_neg (by omega), ib_neg (by omega), ib_all u hu, ib_0]; symm; apply decide_eq_false; omega)
              | (rw [if_neg (show ¬ g = 0 by omega), ib_all u hu]; (repeat' split) <;> first | (exfalso; omega) | (symm; apply decide_eq_true; omega))
              | (rw [if_neg (show ¬ g = 0 by omega), ib_0]; (repeat' split) <;> first | (exfalso; omega) | (symm; apply decide_eq_false; omega))
  · refine ar_iloadn (k := 18) rfl rfl ?_
    refine ar_bipush (k := 19) rfl (by decide) ?_
    refine ar_icmp_ge (k := 20) rfl (by omega) (by omega) (fun c20 => ?_) (fun c20 => ?_)
    · refine ar_ldc (k := 27) (z := 16777215) rfl cnV_140 rfl ?_
      refine ar_istore (k := 28) (l2 := [(5, _), (4, _), (3, _), (2, _), (0, _), (1, _)]) rfl (by decide) rfl ?_
      refine ar_iloadn (k := 29) rfl rfl ?_
      refine ar_bipush (k := 30) rfl (by decide) ?_
      refine ar_icmp_ge (k := 31) rfl (by omega) (by omega) (fun c31 => ?_) (fun c31 => ?_)
      · refine ar_iconst (k := 36) rfl ?_
        refine ar_istore (k := 37) (l2 := [(6, _), (5, _), (4, _), (3, _), (2, _), (0, _), (1, _)]) rfl (by decide) rfl ?_
        refine ar_iloadn (k := 38) rfl rfl ?_
        refine ar_if_ne (k := 39) rfl (by omega) (fun c39 => ?_) (fun c39 => ?_)
        · refine ar_iloadn (k := 42) rfl rfl ?_
          refine ar_iconst (k := 43) rfl ?_
          refine ar_icmp_ne (k := 44) rfl (by omega) (by omega) (fun c44 => ?_) (fun c44 => ?_)
          · refine ar_ldc (k := 47) (z := 16777215) rfl cnV_140 rfl ?_
            refine ar_iload (k := 48) rfl rfl ?_
            refine ar_iconst (k := 49) rfl ?_
            refine ar_ixor (k := 50) rfl ?_
            refine ar_iand (k := 51) rfl ?_
            refine ar_iload (k := 52) rfl rfl ?_
            refine ar_iconst (k := 53) rfl ?_
            refine ar_ixor (k := 54) rfl ?_
            refine ar_iand (k := 55) rfl ?_
            refine ar_iret (k := 56) rfl rfl rfl (Nat.le_refl _) ?_
            refine ⟨_, rfl, rfl, fun u hu => ?_⟩
            unfold tT bu
            first
              | (exfalso; omega)
              | (obtain ⟨tn, rfl⟩ : ∃ tn : Nat, t = (tn : Int) := ⟨t.toNat, by omega⟩
                 rw [if_pos (show h = 0 by omega), if_pos (show g = 0 by omega), ib_bl tn (by omega) u hu]; apply decide_eq_decide.mpr; omega)
              | (rw [if_pos (show h = 0 by omega), if_pos (show g = 0 by omega), ib_all u hu]; symm; apply decide_eq_true; omega)
              | (obtain ⟨tn, rfl⟩ : ∃ tn : Nat, t = (tn : Int) := ⟨t.toNat, by omega⟩
                 rw [if_neg (show ¬ h = 0 by omega), if_pos (show h = 1 by omega), if_pos (show g = 0 by omega), ib_shl1 tn (by omega) u (by omega)]; apply decide_eq_decide.mpr; omega)
              | (rw [if_neg (show ¬ h = 0 by omega), if_pos (show h = 1 by omega), if_pos (show g = 0 by omega), ib_0]; symm; apply decide_eq_false; omega)
              | (obtain ⟨tn, rfl⟩ : ∃ tn : Nat, t = (tn : Int) := ⟨t.toNat, by omega⟩
                 rw [if_neg (show ¬ h = 0 by omega), if_neg (show ¬ h = 1 by omega), if_pos (show g = 0 by omega), ib_and, ib_and, ib_neg (by omega), ib_neg (by omega), ib_all u hu, ib_bl tn (by omega) u hu, ib_shl1 tn (by omega) u (by omega), Bool.true_and, ← decide_not, ← decide_not, ← Bool.decide_and]; apply decide_eq_decide.mpr; omega)
              | (rw [if_neg (show ¬ h = 0 by omega), if_neg (show ¬ h = 1 by omega), if_pos (show g = 0 by omega), ib_and, ib_and, ib_neg (by omega), ib_neg (by omega), ib_all u hu, ib_0]; symm; apply decide_eq_false; omega)
              | (rw [if_neg (show ¬ g = 0 by omega), ib_all u hu]; (repeat' split) <;> first | (exfalso; omega) | (symm; apply decide_eq_true; omega))
              | (rw [if_neg (show ¬ g = 0 by omega), ib_0]; (repeat' split) <;> first | (exfalso; omega) | (symm; apply decide_eq_false; omega))
          · refine ar_iload (k := 45) rfl rfl ?_
            refine ar_goto (k := 46) rfl ?_
            refine ar_iret (k := 56) rfl rfl rfl (Nat.le_refl _) ?_
            refine ⟨_, rfl, rfl, fun u hu => ?_⟩
            unfold tT bu
            first
              | (exfalso; omega)
              | (obtain ⟨tn, rfl⟩ : ∃ tn : Nat, t = (tn : Int) := ⟨t.toNat, by omega⟩
                 rw [if_pos (show h = 0 by omega), if_pos (show g = 0 by omega), ib_bl tn (by omega) u hu]; apply decide_eq_decide.mpr; omega)
              | (rw [if_pos (show h = 0 by omega), if_pos (show g = 0 by omega), ib_all u hu]; symm; apply decide_eq_true; omega)
              | (obtain ⟨tn, rfl⟩ : ∃ tn : Nat, t = (tn : Int) := ⟨t.toNat, by omega⟩
                 rw [if_neg (show ¬ h = 0 by omega), if_pos (show h = 1 by omega), if_pos (show g = 0 by omega), ib_shl1 tn (by omega) u (by omega)]; apply decide_eq_decide.mpr; omega)
              | (rw [if_neg (show ¬ h = 0 by omega), if_pos (show h = 1 by omega), if_pos (show g = 0 by omega), ib_0]; symm; apply decide_eq_false; omega)
              | (obtain ⟨tn, rfl⟩ : ∃ tn : Nat, t = (tn : Int) := ⟨t.toNat, by omega⟩
                 rw [if_neg (show ¬ h = 0 by omega), if_neg (show ¬ h = 1 by omega), if_pos (show g = 0 by omega), ib_and, ib_and, ib_neg (by omega), ib_neg (by omega), ib_all u hu, ib_bl tn (by omega) u hu, ib_shl1 tn (by omega) u (by omega), Bool.true_and, ← decide_not, ← decide_not, ← Bool.decide_and]; apply decide_eq_decide.mpr; omega)
              | (rw [if_neg (show ¬ h = 0 by omega), if_neg (show ¬ h = 1 by omega), if_pos (show g = 0 by omega), ib_and, ib_and, ib_neg (by omega), ib_neg (by omega), ib_all u hu, ib_0]; symm; apply decide_eq_false; omega)
              | (rw [if_neg (show ¬ g = 0 by omega), ib_all u hu]; (repeat' split) <;> first | (exfalso; omega) | (symm; apply decide_eq_true; omega))
              | (rw [if_neg (show ¬ g = 0 by omega), ib_0]; (repeat' split) <;> first | (exfalso; omega) | (symm; apply decide_eq_false; omega))
        · refine ar_iload (k := 40) rfl rfl ?_
          refine ar_goto (k := 41) rfl ?_
          refine ar_iret (k := 56) rfl rfl rfl (Nat.le_refl _) ?_
          refine ⟨_, rfl, rfl, fun u hu => ?_⟩
          unfold tT bu
          first
            | (exfalso; omega)
            | (obtain ⟨tn, rfl⟩ : ∃ tn : Nat, t = (tn : Int) := ⟨t.toNat, by omega⟩
               rw [if_pos (show h = 0 by omega), if_pos (show g = 0 by omega), ib_bl tn (by omega) u hu]; apply decide_eq_decide.mpr; omega)
            | (rw [if_pos (show h = 0 by omega), if_pos (show g = 0 by omega), ib_all u hu]; symm; apply decide_eq_true; omega)
            | (obtain ⟨tn, rfl⟩ : ∃ tn : Nat, t = (tn : Int) := ⟨t.toNat, by omega⟩
               rw [if_neg (show ¬ h = 0 by omega), if_pos (show h = 1 by omega), if_pos (show g = 0 by omega), ib_shl1 tn (by omega) u (by omega)]; apply decide_eq_decide.mpr; omega)
            | (rw [if_neg (show ¬ h = 0 by omega), if_pos (show h = 1 by omega), if_pos (show g = 0 by omega), ib_0]; symm; apply decide_eq_false; omega)
            | (obtain ⟨tn, rfl⟩ : ∃ tn : Nat, t = (tn : Int) := ⟨t.toNat, by omega⟩
               rw [if_neg (show ¬ h = 0 by omega), if_neg (show ¬ h = 1 by omega), if_pos (show g = 0 by omega), ib_and, ib_and, ib_neg (by omega), ib_neg (by omega), ib_all u hu, ib_bl tn (by omega) u hu, ib_shl1 tn (by omega) u (by omega), Bool.true_and, ← decide_not, ← decide_not, ← Bool.decide_and]; apply decide_eq_decide.mpr; omega)
            | (rw [if_neg (show ¬ h = 0 by omega), if_neg (show ¬ h = 1 by omega), if_pos (show g = 0 by omega), ib_and, ib_and, ib_neg (by omega), ib_neg (by omega), ib_all u hu, ib_0]; symm; apply decide_eq_false; omega)
            | (rw [if_neg (show ¬ g = 0 by omega), ib_all u hu]; (repeat' split) <;> first | (exfalso; omega) | (symm; apply decide_eq_true; omega))
            | (rw [if_neg (show ¬ g = 0 by omega), ib_0]; (repeat' split) <;> first | (exfalso; omega) | (symm; apply decide_eq_false; omega))
      · refine ar_iconst (k := 32) rfl ?_
        refine ar_iloadn (k := 33) rfl rfl ?_
        refine ar_ishl (k := 34) rfl ?_
        refine ar_goto (k := 35) rfl ?_
        refine ar_istore (k := 37) (l2 := [(6, _), (5, _), (4, _), (3, _), (2, _), (0, _), (1, _)]) rfl (by decide) rfl ?_
        refine ar_iloadn (k := 38) rfl rfl ?_
        refine ar_if_ne (k := 39) rfl (by omega) (fun c39 => ?_) (fun c39 => ?_)
        · refine ar_iloadn (k := 42) rfl rfl ?_
          refine ar_iconst (k := 43) rfl ?_
          refine ar_icmp_ne (k := 44) rfl (by omega) (by omega) (fun c44 => ?_) (fun c44 => ?_)
          · refine ar_ldc (k := 47) (z := 16777215) rfl cnV_140 rfl ?_
            refine ar_iload (k := 48) rfl rfl ?_
            refine ar_iconst (k := 49) rfl ?_
            refine ar_ixor (k := 50) rfl ?_
            refine ar_iand (k := 51) rfl ?_
            refine ar_iload (k := 52) rfl rfl ?_
            refine ar_iconst (k := 53) rfl ?_
            refine ar_ixor (k := 54) rfl ?_
            refine ar_iand (k := 55) rfl ?_
            refine ar_iret (k := 56) rfl rfl rfl (Nat.le_refl _) ?_
            refine ⟨_, rfl, rfl, fun u hu => ?_⟩
            unfold tT bu
            first
              | (exfalso; omega)
              | (obtain ⟨tn, rfl⟩ : ∃ tn : Nat, t = (tn : Int) := ⟨t.toNat, by omega⟩
                 rw [if_pos (show h = 0 by omega), if_pos (show g = 0 by omega), ib_bl tn (by omega) u hu]; apply decide_eq_decide.mpr; omega)
              | (rw [if_pos (show h = 0 by omega), if_pos (show g = 0 by omega), ib_all u hu]; symm; apply decide_eq_true; omega)
              | (obtain ⟨tn, rfl⟩ : ∃ tn : Nat, t = (tn : Int) := ⟨t.toNat, by omega⟩
                 rw [if_neg (show ¬ h = 0 by omega), if_pos (show h = 1 by omega), if_pos (show g = 0 by omega), ib_shl1 tn (by omega) u (by omega)]; apply decide_eq_decide.mpr; omega)
              | (rw [if_neg (show ¬ h = 0 by omega), if_pos (show h = 1 by omega), if_pos (show g = 0 by omega), ib_0]; symm; apply decide_eq_false; omega)
              | (obtain ⟨tn, rfl⟩ : ∃ tn : Nat, t = (tn : Int) := ⟨t.toNat, by omega⟩
                 rw [if_neg (show ¬ h = 0 by omega), if_neg (show ¬ h = 1 by omega), if_pos (show g = 0 by omega), ib_and, ib_and, ib_neg (by omega), ib_neg (by omega), ib_all u hu, ib_bl tn (by omega) u hu, ib_shl1 tn (by omega) u (by omega), Bool.true_and, ← decide_not, ← decide_not, ← Bool.decide_and]; apply decide_eq_decide.mpr; omega)
              | (rw [if_neg (show ¬ h = 0 by omega), if_neg (show ¬ h = 1 by omega), if_pos (show g = 0 by omega), ib_and, ib_and, ib_neg (by omega), ib_neg (by omega), ib_all u hu, ib_0]; symm; apply decide_eq_false; omega)
              | (rw [if_neg (show ¬ g = 0 by omega), ib_all u hu]; (repeat' split) <;> first | (exfalso; omega) | (symm; apply decide_eq_true; omega))
              | (rw [if_neg (show ¬ g = 0 by omega), ib_0]; (repeat' split) <;> first | (exfalso; omega) | (symm; apply decide_eq_false; omega))
          · refine ar_iload (k := 45) rfl rfl ?_
            refine ar_goto (k := 46) rfl ?_
            refine ar_iret (k := 56) rfl rfl rfl (Nat.le_refl _) ?_
            refine ⟨_, rfl, rfl, fun u hu => ?_⟩
            unfold tT bu
            first
              | (exfalso; omega)
              | (obtain ⟨tn, rfl⟩ : ∃ tn : Nat, t = (tn : Int) := ⟨t.toNat, by omega⟩
                 rw [if_pos (show h = 0 by omega), if_pos (show g = 0 by omega), ib_bl tn (by omega) u hu]; apply decide_eq_decide.mpr; omega)
              | (rw [if_pos (show h = 0 by omega), if_pos (show g = 0 by omega), ib_all u hu]; symm; apply decide_eq_true; omega)
              | (obtain ⟨tn, rfl⟩ : ∃ tn : Nat, t = (tn : Int) := ⟨t.toNat, by omega⟩
                 rw [if_neg (show ¬ h = 0 by omega), if_pos (show h = 1 by omega), if_pos (show g = 0 by omega), ib_shl1 tn (by omega) u (by omega)]; apply decide_eq_decide.mpr; omega)
              | (rw [if_neg (show ¬ h = 0 by omega), if_pos (show h = 1 by omega), if_pos (show g = 0 by omega), ib_0]; symm; apply decide_eq_false; omega)
              | (obtain ⟨tn, rfl⟩ : ∃ tn : Nat, t = (tn : Int) := ⟨t.toNat, by omega⟩
                 rw [if_neg (show ¬ h = 0 by omega), if_neg (show ¬ h = 1 by omega), if_pos (show g = 0 by omega), ib_and, ib_and, ib_neg (by omega), ib_neg (by omega), ib_all u hu, ib_bl tn (by omega) u hu, ib_shl1 tn (by omega) u (by omega), Bool.true_and, ← decide_not, ← decide_not, ← Bool.decide_and]; apply decide_eq_decide.mpr; omega)
              | (rw [if_neg (show ¬ h = 0 by omega), if_neg (show ¬ h = 1 by omega), if_pos (show g = 0 by omega), ib_and, ib_and, ib_neg (by omega), ib_neg (by omega), ib_all u hu, ib_0]; symm; apply decide_eq_false; omega)
              | (rw [if_neg (show ¬ g = 0 by omega), ib_all u hu]; (repeat' split) <;> first | (exfalso; omega) | (symm; apply decide_eq_true; omega))
              | (rw [if_neg (show ¬ g = 0 by omega), ib_0]; (repeat' split) <;> first | (exfalso; omega) | (symm; apply decide_eq_false; omega))
        · refine ar_iload (k := 40) rfl rfl ?_
          refine ar_goto (k := 41) rfl ?_
          refine ar_iret (k := 56) rfl rfl rfl (Nat.le_refl _) ?_
          refine ⟨_, rfl, rfl, fun u hu => ?_⟩
          unfold tT bu
          first
            | (exfalso; omega)
            | (obtain ⟨tn, rfl⟩ : ∃ tn : Nat, t = (tn : Int) := ⟨t.toNat, by omega⟩
               rw [if_pos (show h = 0 by omega), if_pos (show g = 0 by omega), ib_bl tn (by omega) u hu]; apply decide_eq_decide.mpr; omega)
            | (rw [if_pos (show h = 0 by omega), if_pos (show g = 0 by omega), ib_all u hu]; symm; apply decide_eq_true; omega)
            | (obtain ⟨tn, rfl⟩ : ∃ tn : Nat, t = (tn : Int) := ⟨t.toNat, by omega⟩
               rw [if_neg (show ¬ h = 0 by omega), if_pos (show h = 1 by omega), if_pos (show g = 0 by omega), ib_shl1 tn (by omega) u (by omega)]; apply decide_eq_decide.mpr; omega)
            | (rw [if_neg (show ¬ h = 0 by omega), if_pos (show h = 1 by omega), if_pos (show g = 0 by omega), ib_0]; symm; apply decide_eq_false; omega)
            | (obtain ⟨tn, rfl⟩ : ∃ tn : Nat, t = (tn : Int) := ⟨t.toNat, by omega⟩
               rw [if_neg (show ¬ h = 0 by omega), if_neg (show ¬ h = 1 by omega), if_pos (show g = 0 by omega), ib_and, ib_and, ib_neg (by omega), ib_neg (by omega), ib_all u hu, ib_bl tn (by omega) u hu, ib_shl1 tn (by omega) u (by omega), Bool.true_and, ← decide_not, ← decide_not, ← Bool.decide_and]; apply decide_eq_decide.mpr; omega)
            | (rw [if_neg (show ¬ h = 0 by omega), if_neg (show ¬ h = 1 by omega), if_pos (show g = 0 by omega), ib_and, ib_and, ib_neg (by omega), ib_neg (by omega), ib_all u hu, ib_0]; symm; apply decide_eq_false; omega)
            | (rw [if_neg (show ¬ g = 0 by omega), ib_all u hu]; (repeat' split) <;> first | (exfalso; omega) | (symm; apply decide_eq_true; omega))
            | (rw [if_neg (show ¬ g = 0 by omega), ib_0]; (repeat' split) <;> first | (exfalso; omega) | (symm; apply decide_eq_false; omega))
    · refine ar_iconst (k := 21) rfl ?_
      refine ar_iloadn (k := 22) rfl rfl ?_
      refine ar_ishl (k := 23) rfl ?_
      refine ar_iconst (k := 24) rfl ?_
      refine ar_isub (k := 25) rfl ?_
      refine ar_goto (k := 26) rfl ?_
      refine ar_istore (k := 28) (l2 := [(5, _), (4, _), (3, _), (2, _), (0, _), (1, _)]) rfl (by decide) rfl ?_
      refine ar_iloadn (k := 29) rfl rfl ?_
      refine ar_bipush (k := 30) rfl (by decide) ?_
      refine ar_icmp_ge (k := 31) rfl (by omega) (by omega) (fun c31 => ?_) (fun c31 => ?_)
      · refine ar_iconst (k := 36) rfl ?_
        refine ar_istore (k := 37) (l2 := [(6, _), (5, _), (4, _), (3, _), (2, _), (0, _), (1, _)]) rfl (by decide) rfl ?_
        refine ar_iloadn (k := 38) rfl rfl ?_
        refine ar_if_ne (k := 39) rfl (by omega) (fun c39 => ?_) (fun c39 => ?_)
        · refine ar_iloadn (k := 42) rfl rfl ?_
          refine ar_iconst (k := 43) rfl ?_
          refine ar_icmp_ne (k := 44) rfl (by omega) (by omega) (fun c44 => ?_) (fun c44 => ?_)
          · refine ar_ldc (k := 47) (z := 16777215) rfl cnV_140 rfl ?_
            refine ar_iload (k := 48) rfl rfl ?_
            refine ar_iconst (k := 49) rfl ?_
            refine ar_ixor (k := 50) rfl ?_
            refine ar_iand (k := 51) rfl ?_
            refine ar_iload (k := 52) rfl rfl ?_
            refine ar_iconst (k := 53) rfl ?_
            refine ar_ixor (k := 54) rfl ?_
            refine ar_iand (k := 55) rfl ?_
            refine ar_iret (k := 56) rfl rfl rfl (Nat.le_refl _) ?_
            refine ⟨_, rfl, rfl, fun u hu => ?_⟩
            unfold tT bu
            first
              | (exfalso; omega)
              | (obtain ⟨tn, rfl⟩ : ∃ tn : Nat, t = (tn : Int) := ⟨t.toNat, by omega⟩
                 rw [if_pos (show h = 0 by omega), if_pos (show g = 0 by omega), ib_bl tn (by omega) u hu]; apply decide_eq_decide.mpr; omega)
              | (rw [if_pos (show h = 0 by omega), if_pos (show g = 0 by omega), ib_all u hu]; symm; apply decide_eq_true; omega)
              | (obtain ⟨tn, rfl⟩ : ∃ tn : Nat, t = (tn : Int) := ⟨t.toNat, by omega⟩
                 rw [if_neg (show ¬ h = 0 by omega), if_pos (show h = 1 by omega), if_pos (show g = 0 by omega), ib_shl1 tn (by omega) u (by omega)]; apply decide_eq_decide.mpr; omega)
              | (rw [if_neg (show ¬ h = 0 by omega), if_pos (show h = 1 by omega), if_pos (show g = 0 by omega), ib_0]; symm; apply decide_eq_false; omega)
              | (obtain ⟨tn, rfl⟩ : ∃ tn : Nat, t = (tn : Int) := ⟨t.toNat, by omega⟩
                 rw [if_neg (show ¬ h = 0 by omega), if_neg (show ¬ h = 1 by omega), if_pos (show g = 0 by omega), ib_and, ib_and, ib_neg (by omega), ib_neg (by omega), ib_all u hu, ib_bl tn (by omega) u hu, ib_shl1 tn (by omega) u (by omega), Bool.true_and, ← decide_not, ← decide_not, ← Bool.decide_and]; apply decide_eq_decide.mpr; omega)
              | (rw [if_neg (show ¬ h = 0 by omega), if_neg (show ¬ h = 1 by omega), if_pos (show g = 0 by omega), ib_and, ib_and, ib_neg (by omega), ib_neg (by omega), ib_all u hu, ib_0]; symm; apply decide_eq_false; omega)
              | (rw [if_neg (show ¬ g = 0 by omega), ib_all u hu]; (repeat' split) <;> first | (exfalso; omega) | (symm; apply decide_eq_true; omega))
              | (rw [if_neg (show ¬ g = 0 by omega), ib_0]; (repeat' split) <;> first | (exfalso; omega) | (symm; apply decide_eq_false; omega))
          · refine ar_iload (k := 45) rfl rfl ?_
            refine ar_goto (k := 46) rfl ?_
            refine ar_iret (k := 56) rfl rfl rfl (Nat.le_refl _) ?_
            refine ⟨_, rfl, rfl, fun u hu => ?_⟩
            unfold tT bu
            first
              | (exfalso; omega)
              | (obtain ⟨tn, rfl⟩ : ∃ tn : Nat, t = (tn : Int) := ⟨t.toNat, by omega⟩
                 rw [if_pos (show h = 0 by omega), if_pos (show g = 0 by omega), ib_bl tn (by omega) u hu]; apply decide_eq_decide.mpr; omega)
              | (rw [if_pos (show h = 0 by omega), if_pos (show g = 0 by omega), ib_all u hu]; symm; apply decide_eq_true; omega)
              | (obtain ⟨tn, rfl⟩ : ∃ tn : Nat, t = (tn : Int) := ⟨t.toNat, by omega⟩
                 rw [if_neg (show ¬ h = 0 by omega), if_pos (show h = 1 by omega), if_pos (show g = 0 by omega), ib_shl1 tn (by omega) u (by omega)]; apply decide_eq_decide.mpr; omega)
              | (rw [if_neg (show ¬ h = 0 by omega), if_pos (show h = 1 by omega), if_pos (show g = 0 by omega), ib_0]; symm; apply decide_eq_false; omega)
              | (obtain ⟨tn, rfl⟩ : ∃ tn : Nat, t = (tn : Int) := ⟨t.toNat, by omega⟩
                 rw [if_neg (show ¬ h = 0 by omega), if_neg (show ¬ h = 1 by omega), if_pos (show g = 0 by omega), ib_and, ib_and, ib_neg (by omega), ib_neg (by omega), ib_all u hu, ib_bl tn (by omega) u hu, ib_shl1 tn (by omega) u (by omega), Bool.true_and, ← decide_not, ← decide_not, ← Bool.decide_and]; apply decide_eq_decide.mpr; omega)
              | (rw [if_neg (show ¬ h = 0 by omega), if_neg (show ¬ h = 1 by omega), if_pos (show g = 0 by omega), ib_and, ib_and, ib_neg (by omega), ib_neg (by omega), ib_all u hu, ib_0]; symm; apply decide_eq_false; omega)
              | (rw [if_neg (show ¬ g = 0 by omega), ib_all u hu]; (repeat' split) <;> first | (exfalso; omega) | (symm; apply decide_eq_true; omega))
              | (rw [if_neg (show ¬ g = 0 by omega), ib_0]; (repeat' split) <;> first | (exfalso; omega) | (symm; apply decide_eq_false; omega))
        · refine ar_iload (k := 40) rfl rfl ?_
          refine ar_goto (k := 41) rfl ?_
          refine ar_iret (k := 56) rfl rfl rfl (Nat.le_refl _) ?_
          refine ⟨_, rfl, rfl, fun u hu => ?_⟩
          unfold tT bu
          first
            | (exfalso; omega)
            | (obtain ⟨tn, rfl⟩ : ∃ tn : Nat, t = (tn : Int) := ⟨t.toNat, by omega⟩
               rw [if_pos (show h = 0 by omega), if_pos (show g = 0 by omega), ib_bl tn (by omega) u hu]; apply decide_eq_decide.mpr; omega)
            | (rw [if_pos (show h = 0 by omega), if_pos (show g = 0 by omega), ib_all u hu]; symm; apply decide_eq_true; omega)
            | (obtain ⟨tn, rfl⟩ : ∃ tn : Nat, t = (tn : Int) := ⟨t.toNat, by omega⟩
               rw [if_neg (show ¬ h = 0 by omega), if_pos (show h = 1 by omega), if_pos (show g = 0 by omega), ib_shl1 tn (by omega) u (by omega)]; apply decide_eq_decide.mpr; omega)
            | (rw [if_neg (show ¬ h = 0 by omega), if_pos (show h = 1 by omega), if_pos (show g = 0 by omega), ib_0]; symm; apply decide_eq_false; omega)
            | (obtain ⟨tn, rfl⟩ : ∃ tn : Nat, t = (tn : Int) := ⟨t.toNat, by omega⟩
               rw [if_neg (show ¬ h = 0 by omega), if_neg (show ¬ h = 1 by omega), if_pos (show g = 0 by omega), ib_and, ib_and, ib_neg (by omega), ib_neg (by omega), ib_all u hu, ib_bl tn (by omega) u hu, ib_shl1 tn (by omega) u (by omega), Bool.true_and, ← decide_not, ← decide_not, ← Bool.decide_and]; apply decide_eq_decide.mpr; omega)
            | (rw [if_neg (show ¬ h = 0 by omega), if_neg (show ¬ h = 1 by omega), if_pos (show g = 0 by omega), ib_and, ib_and, ib_neg (by omega), ib_neg (by omega), ib_all u hu, ib_0]; symm; apply decide_eq_false; omega)
            | (rw [if_neg (show ¬ g = 0 by omega), ib_all u hu]; (repeat' split) <;> first | (exfalso; omega) | (symm; apply decide_eq_true; omega))
            | (rw [if_neg (show ¬ g = 0 by omega), ib_0]; (repeat' split) <;> first | (exfalso; omega) | (symm; apply decide_eq_false; omega))
      · refine ar_iconst (k := 32) rfl ?_
        refine ar_iloadn (k := 33) rfl rfl ?_
        refine ar_ishl (k := 34) rfl ?_
        refine ar_goto (k := 35) rfl ?_
        refine ar_istore (k := 37) (l2 := [(6, _), (5, _), (4, _), (3, _), (2, _), (0, _), (1, _)]) rfl (by decide) rfl ?_
        refine ar_iloadn (k := 38) rfl rfl ?_
        refine ar_if_ne (k := 39) rfl (by omega) (fun c39 => ?_) (fun c39 => ?_)
        · refine ar_iloadn (k := 42) rfl rfl ?_
          refine ar_iconst (k := 43) rfl ?_
          refine ar_icmp_ne (k := 44) rfl (by omega) (by omega) (fun c44 => ?_) (fun c44 => ?_)
          · refine ar_ldc (k := 47) (z := 16777215) rfl cnV_140 rfl ?_
            refine ar_iload (k := 48) rfl rfl ?_
            refine ar_iconst (k := 49) rfl ?_
            refine ar_ixor (k := 50) rfl ?_
            refine ar_iand (k := 51) rfl ?_
            refine ar_iload (k := 52) rfl rfl ?_
            refine ar_iconst (k := 53) rfl ?_
            refine ar_ixor (k := 54) rfl ?_
            refine ar_iand (k := 55) rfl ?_
            refine ar_iret (k := 56) rfl rfl rfl (Nat.le_refl _) ?_
            refine ⟨_, rfl, rfl, fun u hu => ?_⟩
            unfold tT bu
            first
              | (exfalso; omega)
              | (obtain ⟨tn, rfl⟩ : ∃ tn : Nat, t = (tn : Int) := ⟨t.toNat, by omega⟩
                 rw [if_pos (show h = 0 by omega), if_pos (show g = 0 by omega), ib_bl tn (by omega) u hu]; apply decide_eq_decide.mpr; omega)
              | (rw [if_pos (show h = 0 by omega), if_pos (show g = 0 by omega), ib_all u hu]; symm; apply decide_eq_true; omega)
              | (obtain ⟨tn, rfl⟩ : ∃ tn : Nat, t = (tn : Int) := ⟨t.toNat, by omega⟩
                 rw [if_neg (show ¬ h = 0 by omega), if_pos (show h = 1 by omega), if_pos (show g = 0 by omega), ib_shl1 tn (by omega) u (by omega)]; apply decide_eq_decide.mpr; omega)
              | (rw [if_neg (show ¬ h = 0 by omega), if_pos (show h = 1 by omega), if_pos (show g = 0 by omega), ib_0]; symm; apply decide_eq_false; omega)
              | (obtain ⟨tn, rfl⟩ : ∃ tn : Nat, t = (tn : Int) := ⟨t.toNat, by omega⟩
                 rw [if_neg (show ¬ h = 0 by omega), if_neg (show ¬ h = 1 by omega), if_pos (show g = 0 by omega), ib_and, ib_and, ib_neg (by omega), ib_neg (by omega), ib_all u hu, ib_bl tn (by omega) u hu, ib_shl1 tn (by omega) u (by omega), Bool.true_and, ← decide_not, ← decide_not, ← Bool.decide_and]; apply decide_eq_decide.mpr; omega)
              | (rw [if_neg (show ¬ h = 0 by omega), if_neg (show ¬ h = 1 by omega), if_pos (show g = 0 by omega), ib_and, ib_and, ib_neg (by omega), ib_neg (by omega), ib_all u hu, ib_0]; symm; apply decide_eq_false; omega)
              | (rw [if_neg (show ¬ g = 0 by omega), ib_all u hu]; (repeat' split) <;> first | (exfalso; omega) | (symm; apply decide_eq_true; omega))
              | (rw [if_neg (show ¬ g = 0 by omega), ib_0]; (repeat' split) <;> first | (exfalso; omega) | (symm; apply decide_eq_false; omega))
          · refine ar_iload (k := 45) rfl rfl ?_
            refine ar_goto (k := 46) rfl ?_
            refine ar_iret (k := 56) rfl rfl rfl (Nat.le_refl _) ?_
            refine ⟨_, rfl, rfl, fun u hu => ?_⟩
            unfold tT bu
            first
              | (exfalso; omega)
              | (obtain ⟨tn, rfl⟩ : ∃ tn : Nat, t = (tn : Int) := ⟨t.toNat, by omega⟩
                 rw [if_pos (show h = 0 by omega), if_pos (show g = 0 by omega), ib_bl tn (by omega) u hu]; apply decide_eq_decide.mpr; omega)
              | (rw [if_pos (show h = 0 by omega), if_pos (show g = 0 by omega), ib_all u hu]; symm; apply decide_eq_true; omega)
              | (obtain ⟨tn, rfl⟩ : ∃ tn : Nat, t = (tn : Int) := ⟨t.toNat, by omega⟩
                 rw [if_neg (show ¬ h = 0 by omega), if_pos (show h = 1 by omega), if_pos (show g = 0 by omega), ib_shl1 tn (by omega) u (by omega)]; apply decide_eq_decide.mpr; omega)
              | (rw [if_neg (show ¬ h = 0 by omega), if_pos (show h = 1 by omega), if_pos (show g = 0 by omega), ib_0]; symm; apply decide_eq_false; omega)
              | (obtain ⟨tn, rfl⟩ : ∃ tn : Nat, t = (tn : Int) := ⟨t.toNat, by omega⟩
                 rw [if_neg (show ¬ h = 0 by omega), if_neg (show ¬ h = 1 by omega), if_pos (show g = 0 by omega), ib_and, ib_and, ib_neg (by omega), ib_neg (by omega), ib_all u hu, ib_bl tn (by omega) u hu, ib_shl1 tn (by omega) u (by omega), Bool.true_and, ← decide_not, ← decide_not, ← Bool.decide_and]; apply decide_eq_decide.mpr; omega)
              | (rw [if_neg (show ¬ h = 0 by omega), if_neg (show ¬ h = 1 by omega), if_pos (show g = 0 by omega), ib_and, ib_and, ib_neg (by omega), ib_neg (by omega), ib_all u hu, ib_0]; symm; apply decide_eq_false; omega)
              | (rw [if_neg (show ¬ g = 0 by omega), ib_all u hu]; (repeat' split) <;> first | (exfalso; omega) | (symm; apply decide_eq_true; omega))
              | (rw [if_neg (show ¬ g = 0 by omega), ib_0]; (repeat' split) <;> first | (exfalso; omega) | (symm; apply decide_eq_false; omega))
        · refine ar_iload (k := 40) rfl rfl ?_
          refine ar_goto (k := 41) rfl ?_
          refine ar_iret (k := 56) rfl rfl rfl (Nat.le_refl _) ?_
          refine ⟨_, rfl, rfl, fun u hu => ?_⟩
          unfold tT bu
          first
            | (exfalso; omega)
            | (obtain ⟨tn, rfl⟩ : ∃ tn : Nat, t = (tn : Int) := ⟨t.toNat, by omega⟩
               rw [if_pos (show h = 0 by omega), if_pos (show g = 0 by omega), ib_bl tn (by omega) u hu]; apply decide_eq_decide.mpr; omega)
            | (rw [if_pos (show h = 0 by omega), if_pos (show g = 0 by omega), ib_all u hu]; symm; apply decide_eq_true; omega)
            | (obtain ⟨tn, rfl⟩ : ∃ tn : Nat, t = (tn : Int) := ⟨t.toNat, by omega⟩
               rw [if_neg (show ¬ h = 0 by omega), if_pos (show h = 1 by omega), if_pos (show g = 0 by omega), ib_shl1 tn (by omega) u (by omega)]; apply decide_eq_decide.mpr; omega)
            | (rw [if_neg (show ¬ h = 0 by omega), if_pos (show h = 1 by omega), if_pos (show g = 0 by omega), ib_0]; symm; apply decide_eq_false; omega)
            | (obtain ⟨tn, rfl⟩ : ∃ tn : Nat, t = (tn : Int) := ⟨t.toNat, by omega⟩
               rw [if_neg (show ¬ h = 0 by omega), if_neg (show ¬ h = 1 by omega), if_pos (show g = 0 by omega), ib_and, ib_and, ib_neg (by omega), ib_neg (by omega), ib_all u hu, ib_bl tn (by omega) u hu, ib_shl1 tn (by omega) u (by omega), Bool.true_and, ← decide_not, ← decide_not, ← Bool.decide_and]; apply decide_eq_decide.mpr; omega)
            | (rw [if_neg (show ¬ h = 0 by omega), if_neg (show ¬ h = 1 by omega), if_pos (show g = 0 by omega), ib_and, ib_and, ib_neg (by omega), ib_neg (by omega), ib_all u hu, ib_0]; symm; apply decide_eq_false; omega)
            | (rw [if_neg (show ¬ g = 0 by omega), ib_all u hu]; (repeat' split) <;> first | (exfalso; omega) | (symm; apply decide_eq_true; omega))
            | (rw [if_neg (show ¬ g = 0 by omega), ib_0]; (repeat' split) <;> first | (exfalso; omega) | (symm; apply decide_eq_false; omega))
end CV
