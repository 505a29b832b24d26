/-- a column of the row of parts -/
def sk (J : Nat → Int → Int) (a u d : Nat) (q : List Bool) : Prop := q.length = d ∧ ∀ j : Nat, j < d → ib (J a (j : Int)) u = q.getD (d - 1 - j) false
theorem bStp_t {b : Int → Int} {x : Int} {q : List Bool} (h : 0 ≤ x) : bStp b x q = rTst b x :: q := by unfold bStp rStep; rw [if_pos h]
theorem sk.push {J L : Nat → Int → Int} {a u d : Nat} {q : List Bool} {m : Int} {y : Bool} (h : sk J a u d q) (e : L = uI J a (d : Int) m) (hm : ib m u = y) : sk L a u (d + 1) (y :: q) := by
  subst e
  refine ⟨by rw [List.length_cons, h.1], fun j hj => ?_⟩
  rw [uI_at]
  by_cases g : j = d
  · subst g
    rw [if_pos rfl, hm, show j + 1 - 1 - j = 0 by omega]
    rfl
  · rw [if_neg (by omega), h.2 j (by omega), show d + 1 - 1 - j = (d - 1 - j) + 1 by omega, List.getD_cons_succ]
theorem sk.neg {J L : Nat → Int → Int} {a u d : Nat} {q : List Bool} {m z : Int} {b : Int → Int} (h : sk J a u d q) (hd : 1 ≤ d) (hz : z = (d : Int) - 1) (e : L = uI J a z m) (hm : ib m u = !ib (J a z) u) : sk L a u d (bStp b (-1) q) := by
  subst e
  obtain ⟨h1, h2⟩ := h
  cases q with
  | nil => simp at h1; omega
  | cons y r =>
    have hb : bStp b (-1) (y :: r) = (!y) :: r := rfl
    rw [hb]
    refine ⟨h1, fun j hj => ?_⟩
    rw [uI_at]
    by_cases g : j = d - 1
    · subst g
      have e0 := h2 (d - 1) (by omega)
      rw [show d - 1 - (d - 1) = 0 by omega, List.getD_cons_zero] at e0 ⊢
      rw [if_pos (by omega), hm, hz, show (d : Int) - 1 = ((d - 1 : Nat) : Int) by omega, e0]
    · rw [if_neg (by omega), h2 j hj, show d - 1 - j = (d - 2 - j) + 1 by omega, List.getD_cons_succ, List.getD_cons_succ]
theorem sk.two {J L : Nat → Int → Int} {a u d : Nat} {q : List Bool} {m z x : Int} {b : Int → Int} (h : sk J a u d q) (hd : 2 ≤ d) (hx : x = -2 ∨ x = -3) (hz : z = (d : Int) - 2) (e : L = uI J a z m) (hm : ib m u = if x = -2 then (ib (J a z) u && ib (J a ((d : Int) - 1)) u) else (ib (J a z) u || ib (J a ((d : Int) - 1)) u)) : sk L a u (d - 1) (bStp b x q) := by
  subst e
  obtain ⟨h1, h2⟩ := h
  match q, h1, h2 with
  | [], h1, _ => simp at h1; omega
  | [_], h1, _ => simp at h1; omega
  | w :: y :: r, h1, h2 =>
    have hb : bStp b x (w :: y :: r) = (if x = -2 then y && w else y || w) :: r := by
      rcases hx with rfl | rfl <;> rfl
    rw [hb]
    simp only [List.length_cons] at h1
    refine ⟨by rw [List.length_cons]; omega, fun j hj => ?_⟩
    rw [uI_at]
    have e1 := h2 (d - 1) (by omega)
    have e2 := h2 (d - 2) (by omega)
    rw [show d - 1 - (d - 1) = 0 by omega, List.getD_cons_zero] at e1
    rw [show d - 1 - (d - 2) = 1 by omega, List.getD_cons_succ, List.getD_cons_zero] at e2
    by_cases g : j = d - 2
    · subst g
      rw [if_pos (by omega), hm, hz, show (d : Int) - 2 = ((d - 2 : Nat) : Int) by omega, show (d : Int) - 1 = ((d - 1 : Nat) : Int) by omega, e1, e2, show d - 1 - 1 - (d - 2) = 0 by omega, List.getD_cons_zero]
    · rw [if_neg (by omega), h2 j (by omega), show d - 1 - j = (d - 3 - j) + 1 + 1 by omega, List.getD_cons_succ, List.getD_cons_succ, show d - 1 - 1 - j = (d - 3 - j) + 1 by omega, List.getD_cons_succ]
theorem dp_cases {d : Nat} {x : Int} {r : List Int} (hx : -3 ≤ x) (h : lDeep d (x :: r) = some 1) : (0 ≤ x ∧ (x % 8 ≤ 4 ∧ x / 8 % 4 ≤ 2 ∧ x ≤ 3188 ∧ d < 13) ∧ lDeep (d + 1) r = some 1) ∨ (x = -1 ∧ 1 ≤ d ∧ lDeep d r = some 1) ∨ (x = -2 ∧ 2 ≤ d ∧ lDeep (d - 1) r = some 1) ∨ (x = -3 ∧ 2 ≤ d ∧ lDeep (d - 1) r = some 1) := by
  rw [lDeep] at h
  unfold rDeep at h
  by_cases a : 0 ≤ x
  · rw [if_pos a] at h
    by_cases c : x % 8 ≤ 4 ∧ x / 8 % 4 ≤ 2 ∧ x ≤ 3188 ∧ d < 13
    · rw [if_pos c] at h; exact Or.inl ⟨a, c, h⟩
    · rw [if_neg c] at h; cases h
  · rw [if_neg a] at h
    by_cases c : x = -1
    · rw [if_pos c] at h
      by_cases e : 1 ≤ d
      · rw [if_pos e] at h; exact Or.inr (Or.inl ⟨c, e, h⟩)
      · rw [if_neg e] at h; cases h
    · rw [if_neg c, if_pos (by omega)] at h
      by_cases e : 2 ≤ d
      · rw [if_pos e] at h
        rcases (show x = -2 ∨ x = -3 by omega) with q | q
        · exact Or.inr (Or.inr (Or.inl ⟨q, e, h⟩))
        · exact Or.inr (Or.inr (Or.inr ⟨q, e, h⟩))
      · rw [if_neg e] at h; cases h
section CV2
variable {l : Launch} {G : tG} {K : Nat → Nat × Nat} {I : Nat → Int → Int} {Q : Nat → Int → Option Nat} {n : Nat} {s : Int → Int}
theorem l_V_holdsWhen {v m : Nat} {b : Int → Int} (hv : VS K Q n v) (hf : ∀ j, 1 ≤ j → j ≤ 4 → I (v + 4) j = b j) (hb : ∀ j, 1 ≤ j → j ≤ 4 → tr (b j)) (hm1 : m ≤ 100) : ∀ (k : Nat) (i d : Nat) (c : List Int) (qs : Nat → List Bool) (J : Nat → Int → Int), c.length = k → i + k = m → (∀ j : Nat, j < k → I (v + 3) ((i + j : Nat) : Int) = cSt (c.getD j 0)) → lDeep d c = some 1 → d ≤ 13 → (∀ x ∈ c, -3 ≤ x) → (∀ u : Nat, u < 24 → sk J (v + 5) u d (qs u)) → (∀ a, a ≠ v + 5 → J a = I a) → tw_AW l G mV_holdsWhen 2 0 0 n 0 ((fun r h' => ∃ m L, r = some (vi m) ∧ h' = (K, L, Q, n) ∧ (∀ a, a ≠ v + 5 → L a = I a) ∧ ∀ u : Nat, u < 24 → ib m u = (tR (bu b (u : Int)) (qs u) c).headD false)) 5 [(4, vi (i : Int)), (3, vi (d : Int)), (0, vr (some v)), (2, vi (m : Int))] [] (K, J, Q, n) := by
  intro k
  induction k with
  | zero =>
    intro i d c qs J hlen hto hcell hd hd13 hm hq hJ
    have hc0 : c = [] := List.eq_nil_of_length_eq_zero hlen
    subst hc0
    have hd1 : d = 1 := by injection hd
    subst hd1
    refine ar_iload (k := 4) rfl rfl ?_
    refine ar_iloadn (k := 5) rfl rfl ?_
    refine ar_icmp_ge (k := 6) rfl (by omega) (by omega) (fun c6 => ?_) (fun c6 => ?_)
    · refine ar_iloadn (k := 79) rfl rfl ?_
      refine ar_if_le (k := 80) rfl (by omega) (fun c80 => ?_) (fun c80 => ?_)
      · exfalso; omega
      · refine ar_aloadn (k := 81) rfl rfl ?_
        refine br_getR (k := 82) rfl hv.k0 flV_34_9 (by decide) rfl hv.q7 ?_
        refine ar_iconst (k := 83) rfl ?_
        refine br_iald (k := 84) rfl hv.k5 (by omega) (by omega) (by decide) ?_
        refine ar_goto (k := 85) rfl ?_
        refine ar_iret (k := 87) rfl rfl rfl (Nat.le_refl _) ?_
        refine ⟨_, J, rfl, rfl, hJ, fun u hu => ?_⟩
        have e1 := (hq u hu).2 0 (by omega)
        have e2 := (hq u hu).1
        cases g : qs u with
        | nil => rw [g] at e2; simp at e2
        | cons y r => rw [g] at e1; exact e1
    · exfalso; omega
  | succ k ih =>
    intro i d c qs J hlen hto hcell hd hd13 hm hq hJ
    obtain ⟨x, r, rfl⟩ : ∃ x r, c = x :: r := by cases c with | nil => cases hlen | cons x r => exact ⟨x, r, rfl⟩
    have hlen : r.length = k := by simpa using hlen
    refine ar_iload (k := 4) rfl rfl ?_
    refine ar_iloadn (k := 5) rfl rfl ?_
    refine ar_icmp_ge (k := 6) rfl (by omega) (by omega) (fun c6 => ?_) (fun c6 => ?_)
    · exfalso; omega
    · rcases dp_cases (hm x List.mem_cons_self) hd with ⟨x0, ⟨x1, x2, x3, x4⟩, hd2⟩ | ⟨x0, x1, hd2⟩ | ⟨x0, x1, hd2⟩ | ⟨x0, x1, hd2⟩
      · have cv : cSt x = ((x % 8 * 3 + x / 8 % 4) * 100 + x / 32) := by unfold cSt; rw [if_pos x0]
        refine ar_aloadn (k := 7) rfl rfl ?_
        refine br_getR (k := 8) rfl hv.k0 flV_25_9 (by decide) rfl hv.q4 ?_
        refine ar_iload (k := 9) rfl rfl ?_
        refine br_iald (k := 10) rfl hv.k3 (by omega) (by omega) (by decide) ?_
        refine tw_top ((congrFun (hJ _ (by omega)) _).trans ((hcell 0 (by omega)).trans cv)) ?_
        refine ar_istore (k := 11) (l2 := [(5, _), (4, _), (3, _), (0, _), (2, _)]) rfl (by decide) rfl ?_
        refine ar_iload (k := 12) rfl rfl ?_
        refine ar_if_lt (k := 13) rfl (by omega) (fun c13 => ?_) (fun c13 => ?_)
        · exfalso; omega
        · refine ar_iloadn (k := 14) rfl rfl ?_
          refine ar_bipush (k := 15) rfl (by decide) ?_
          refine ar_icmp_ge (k := 16) rfl (by omega) (by omega) (fun c16 => ?_) (fun c16 => ?_)
          · exfalso; omega
          · refine ar_aloadn (k := 17) rfl rfl ?_
            refine br_getR (k := 18) rfl hv.k0 flV_34_9 (by decide) rfl hv.q7 ?_
            refine ar_iloadn (k := 19) rfl rfl ?_
            refine ar_aloadn (k := 20) rfl rfl ?_
            refine ar_iload (k := 21) rfl rfl ?_
            refine ar_callV (k := 22) (as := [_]) rfl lvV_137 hv.k0 rfl (c_V_testedWhen (b := b) (g := x % 8) (h := x / 8 % 4) (t := x / 32) hv (by omega) (by omega) (by omega) (fun j j1 j2 => by rw [hJ _ (by omega)]; exact hf j j1 j2) hb) rfl (by decide) (by decide) tw_m0 (Nat.le_of_ble_eq_true rfl) (fun r22 h22 p22 => ?_)
            obtain ⟨m22, rfl, rfl, hm22⟩ := p22
            skip
            refine br_iastJ (k := 23) rfl hv.k5 (by omega) (by omega) (by decide) (fun I23 e23 => ?_)
            skip
            refine ar_iinc (k := 24) (l2 := [(3, _), (5, _), (4, _), (0, _), (2, _)]) rfl (by decide) rfl rfl ?_
            refine ar_goto (k := 25) rfl ?_
            refine ar_iinc (k := 77) (l2 := [(4, _), (3, _), (5, _), (0, _), (2, _)]) rfl (by decide) rfl rfl ?_
            refine ar_goto (k := 78) rfl ?_
            refine ar_sub (l2 := [(4, vi ((i + 1 : Nat) : Int)), (3, vi ((d + 1 : Nat) : Int)), (0, vr (some v)), (2, vi (m : Int))]) (tw_s (tw_e 0 rfl (by omega)) (tw_s (tw_e 1 rfl (by omega)) (tw_s (tw_g 3 rfl) (tw_s (tw_g 4 rfl) tw_s0)))) ?_
            exact ih (i + 1) (d + 1) r (fun u : Nat => bStp (bu b (u : Int)) x (qs u)) I23 hlen (by omega) (fun j hj => by have := hcell (j + 1) (by omega); rw [List.getD_cons_succ] at this; rw [show i + 1 + j = i + (j + 1) by omega]; exact this) hd2 (by omega) (fun y hy => hm y (List.mem_cons_of_mem _ hy)) (fun u hu => by rw [bStp_t x0]; exact (hq u hu).push e23 (hm22 u hu)) (fun a ha => by rw [e23, uI_off _ _ _ ha]; exact hJ a ha)
      · have cv : cSt x = -3 := by subst x0; rfl
        refine ar_aloadn (k := 7) rfl rfl ?_
        refine br_getR (k := 8) rfl hv.k0 flV_25_9 (by decide) rfl hv.q4 ?_
        refine ar_iload (k := 9) rfl rfl ?_
        refine br_iald (k := 10) rfl hv.k3 (by omega) (by omega) (by decide) ?_
        refine tw_top ((congrFun (hJ _ (by omega)) _).trans ((hcell 0 (by omega)).trans cv)) ?_
        refine ar_istore (k := 11) (l2 := [(5, _), (4, _), (3, _), (0, _), (2, _)]) rfl (by decide) rfl ?_
        refine ar_iload (k := 12) rfl rfl ?_
        refine ar_if_lt (k := 13) rfl (by omega) (fun c13 => ?_) (fun c13 => ?_)
        · refine ar_iload (k := 26) rfl rfl ?_
          refine ar_bipush (k := 27) rfl (by decide) ?_
          refine ar_icmp_ne (k := 28) rfl (by omega) (by omega) (fun c28 => ?_) (fun c28 => ?_)
          · exfalso; omega
          · refine ar_iloadn (k := 29) rfl rfl ?_
            refine ar_if_le (k := 30) rfl (by omega) (fun c30 => ?_) (fun c30 => ?_)
            · exfalso; omega
            · refine ar_aloadn (k := 31) rfl rfl ?_
              refine br_getR (k := 32) rfl hv.k0 flV_34_9 (by decide) rfl hv.q7 ?_
              refine ar_iloadn (k := 33) rfl rfl ?_
              refine ar_iconst (k := 34) rfl ?_
              refine ar_isub (k := 35) rfl ?_
              refine ar_dup2 (k := 36) rfl rfl rfl ?_
              refine br_iald (k := 37) rfl hv.k5 (by omega) (by omega) (by decide) ?_
              refine ar_ldc (k := 38) (z := 16777215) rfl cnV_140 rfl ?_
              refine ar_ixor (k := 39) rfl ?_
              skip
              refine br_iastJ (k := 40) rfl hv.k5 (by omega) (by omega) (by decide) (fun I40 e40 => ?_)
              skip
              refine ar_goto (k := 41) rfl ?_
              refine ar_iinc (k := 77) (l2 := [(4, _), (5, _), (3, _), (0, _), (2, _)]) rfl (by decide) rfl rfl ?_
              refine ar_goto (k := 78) rfl ?_
              refine ar_sub (l2 := [(4, vi ((i + 1 : Nat) : Int)), (3, vi (d : Int)), (0, vr (some v)), (2, vi (m : Int))]) (tw_s (tw_e 0 rfl (by omega)) (tw_s (tw_e 2 rfl (by omega)) (tw_s (tw_g 3 rfl) (tw_s (tw_g 4 rfl) tw_s0)))) ?_
              exact ih (i + 1) (d) r (fun u : Nat => bStp (bu b (u : Int)) x (qs u)) I40 hlen (by omega) (fun j hj => by have := hcell (j + 1) (by omega); rw [List.getD_cons_succ] at this; rw [show i + 1 + j = i + (j + 1) by omega]; exact this) hd2 (by omega) (fun y hy => hm y (List.mem_cons_of_mem _ hy)) (fun u hu => by rw [x0]; exact (hq u hu).neg x1 rfl e40 (by rw [ib_xor, ib_all u hu, Bool.xor_true])) (fun a ha => by rw [e40, uI_off _ _ _ ha]; exact hJ a ha)
        · exfalso; omega
      · have cv : cSt x = -1 := by subst x0; rfl
        refine ar_aloadn (k := 7) rfl rfl ?_
        refine br_getR (k := 8) rfl hv.k0 flV_25_9 (by decide) rfl hv.q4 ?_
        refine ar_iload (k := 9) rfl rfl ?_
        refine br_iald (k := 10) rfl hv.k3 (by omega) (by omega) (by decide) ?_
        refine tw_top ((congrFun (hJ _ (by omega)) _).trans ((hcell 0 (by omega)).trans cv)) ?_
        refine ar_istore (k := 11) (l2 := [(5, _), (4, _), (3, _), (0, _), (2, _)]) rfl (by decide) rfl ?_
        refine ar_iload (k := 12) rfl rfl ?_
        refine ar_if_lt (k := 13) rfl (by omega) (fun c13 => ?_) (fun c13 => ?_)
        · refine ar_iload (k := 26) rfl rfl ?_
          refine ar_bipush (k := 27) rfl (by decide) ?_
          refine ar_icmp_ne (k := 28) rfl (by omega) (by omega) (fun c28 => ?_) (fun c28 => ?_)
          · refine ar_iloadn (k := 42) rfl rfl ?_
            refine ar_iconst (k := 43) rfl ?_
            refine ar_icmp_le (k := 44) rfl (by omega) (by omega) (fun c44 => ?_) (fun c44 => ?_)
            · exfalso; omega
            · refine ar_iinc (k := 45) (l2 := [(3, _), (5, _), (4, _), (0, _), (2, _)]) rfl (by decide) rfl rfl ?_
              refine ar_aloadn (k := 46) rfl rfl ?_
              refine br_getR (k := 47) rfl hv.k0 flV_34_9 (by decide) rfl hv.q7 ?_
              refine ar_iloadn (k := 48) rfl rfl ?_
              refine br_iald (k := 49) rfl hv.k5 (by omega) (by omega) (by decide) ?_
              refine ar_istore (k := 50) (l2 := [(6, _), (3, _), (5, _), (4, _), (0, _), (2, _)]) rfl (by decide) rfl ?_
              refine ar_aloadn (k := 51) rfl rfl ?_
              refine br_getR (k := 52) rfl hv.k0 flV_34_9 (by decide) rfl hv.q7 ?_
              refine ar_iloadn (k := 53) rfl rfl ?_
              refine ar_iconst (k := 54) rfl ?_
              refine ar_isub (k := 55) rfl ?_
              refine ar_iload (k := 56) rfl rfl ?_
              refine ar_iconst (k := 57) rfl ?_
              refine ar_icmp_ne (k := 58) rfl (by omega) (by omega) (fun c58 => ?_) (fun c58 => ?_)
              · exfalso; omega
              · refine ar_aloadn (k := 59) rfl rfl ?_
                refine br_getR (k := 60) rfl hv.k0 flV_34_9 (by decide) rfl hv.q7 ?_
                refine ar_iloadn (k := 61) rfl rfl ?_
                refine ar_iconst (k := 62) rfl ?_
                refine ar_isub (k := 63) rfl ?_
                refine br_iald (k := 64) rfl hv.k5 (by omega) (by omega) (by decide) ?_
                refine ar_iload (k := 65) rfl rfl ?_
                refine ar_iand (k := 66) rfl ?_
                refine ar_goto (k := 67) rfl ?_
                refine tw_top (y := bAnd (J (v + 5) ((d : Int) - 2)) (J (v + 5) ((d : Int) - 1))) (by rw [show (d : Int) + -1 - 1 = (d : Int) - 2 by omega, show (d : Int) + -1 = (d : Int) - 1 by omega]) ?_
                refine tw_st (st' := [vi (bAnd (J (v + 5) ((d : Int) - 2)) (J (v + 5) ((d : Int) - 1))), vi ((d : Int) - 2), vr (some (v + 5))]) (by rw [show (d : Int) + -1 - 1 = (d : Int) - 2 by omega]) ?_
                refine br_iastJ (k := 76) rfl hv.k5 (by omega) (by omega) (by decide) (fun I76 e76 => ?_)
                skip
                refine ar_iinc (k := 77) (l2 := [(4, _), (6, _), (3, _), (5, _), (0, _), (2, _)]) rfl (by decide) rfl rfl ?_
                refine ar_goto (k := 78) rfl ?_
                refine ar_sub (l2 := [(4, vi ((i + 1 : Nat) : Int)), (3, vi ((d - 1 : Nat) : Int)), (0, vr (some v)), (2, vi (m : Int))]) (tw_s (tw_e 0 rfl (by omega)) (tw_s (tw_e 2 rfl (by omega)) (tw_s (tw_g 4 rfl) (tw_s (tw_g 5 rfl) tw_s0)))) ?_
                exact ih (i + 1) (d - 1) r (fun u : Nat => bStp (bu b (u : Int)) x (qs u)) I76 hlen (by omega) (fun j hj => by have := hcell (j + 1) (by omega); rw [List.getD_cons_succ] at this; rw [show i + 1 + j = i + (j + 1) by omega]; exact this) hd2 (by omega) (fun y hy => hm y (List.mem_cons_of_mem _ hy)) (fun u hu => (hq u hu).two x1 (by omega) rfl e76 (by rw [if_pos (show x = -2 by omega), ib_and])) (fun a ha => by rw [e76, uI_off _ _ _ ha]; exact hJ a ha)
          · exfalso; omega
        · exfalso; omega
      · have cv : cSt x = -2 := by subst x0; rfl
        refine ar_aloadn (k := 7) rfl rfl ?_
        refine br_getR (k := 8) rfl hv.k0 flV_25_9 (by decide) rfl hv.q4 ?_
        refine ar_iload (k := 9) rfl rfl ?_
        refine br_iald (k := 10) rfl hv.k3 (by omega) (by omega) (by decide) ?_
        refine tw_top ((congrFun (hJ _ (by omega)) _).trans ((hcell 0 (by omega)).trans cv)) ?_
        refine ar_istore (k := 11) (l2 := [(5, _), (4, _), (3, _), (0, _), (2, _)]) rfl (by decide) rfl ?_
        refine ar_iload (k := 12) rfl rfl ?_
        refine ar_if_lt (k := 13) rfl (by omega) (fun c13 => ?_) (fun c13 => ?_)
        · refine ar_iload (k := 26) rfl rfl ?_
          refine ar_bipush (k := 27) rfl (by decide) ?_
          refine ar_icmp_ne (k := 28) rfl (by omega) (by omega) (fun c28 => ?_) (fun c28 => ?_)
          · refine ar_iloadn (k := 42) rfl rfl ?_
            refine ar_iconst (k := 43) rfl ?_
            refine ar_icmp_le (k := 44) rfl (by omega) (by omega) (fun c44 => ?_) (fun c44 => ?_)
            · exfalso; omega
            · refine ar_iinc (k := 45) (l2 := [(3, _), (5, _), (4, _), (0, _), (2, _)]) rfl (by decide) rfl rfl ?_
              refine ar_aloadn (k := 46) rfl rfl ?_
              refine br_getR (k := 47) rfl hv.k0 flV_34_9 (by decide) rfl hv.q7 ?_
              refine ar_iloadn (k := 48) rfl rfl ?_
              refine br_iald (k := 49) rfl hv.k5 (by omega) (by omega) (by decide) ?_
              refine ar_istore (k := 50) (l2 := [(6, _), (3, _), (5, _), (4, _), (0, _), (2, _)]) rfl (by decide) rfl ?_
              refine ar_aloadn (k := 51) rfl rfl ?_
              refine br_getR (k := 52) rfl hv.k0 flV_34_9 (by decide) rfl hv.q7 ?_
              refine ar_iloadn (k := 53) rfl rfl ?_
              refine ar_iconst (k := 54) rfl ?_
              refine ar_isub (k := 55) rfl ?_
              refine ar_iload (k := 56) rfl rfl ?_
              refine ar_iconst (k := 57) rfl ?_
              refine ar_icmp_ne (k := 58) rfl (by omega) (by omega) (fun c58 => ?_) (fun c58 => ?_)
              · refine ar_aloadn (k := 68) rfl rfl ?_
                refine br_getR (k := 69) rfl hv.k0 flV_34_9 (by decide) rfl hv.q7 ?_
                refine ar_iloadn (k := 70) rfl rfl ?_
                refine ar_iconst (k := 71) rfl ?_
                refine ar_isub (k := 72) rfl ?_
                refine br_iald (k := 73) rfl hv.k5 (by omega) (by omega) (by decide) ?_
                refine ar_iload (k := 74) rfl rfl ?_
                refine ar_ior (k := 75) rfl ?_
                refine tw_top (y := bOr (J (v + 5) ((d : Int) - 2)) (J (v + 5) ((d : Int) - 1))) (by rw [show (d : Int) + -1 - 1 = (d : Int) - 2 by omega, show (d : Int) + -1 = (d : Int) - 1 by omega]) ?_
                refine tw_st (st' := [vi (bOr (J (v + 5) ((d : Int) - 2)) (J (v + 5) ((d : Int) - 1))), vi ((d : Int) - 2), vr (some (v + 5))]) (by rw [show (d : Int) + -1 - 1 = (d : Int) - 2 by omega]) ?_
                refine br_iastJ (k := 76) rfl hv.k5 (by omega) (by omega) (by decide) (fun I76 e76 => ?_)
                skip
                refine ar_iinc (k := 77) (l2 := [(4, _), (6, _), (3, _), (5, _), (0, _), (2, _)]) rfl (by decide) rfl rfl ?_
                refine ar_goto (k := 78) rfl ?_
                refine ar_sub (l2 := [(4, vi ((i + 1 : Nat) : Int)), (3, vi ((d - 1 : Nat) : Int)), (0, vr (some v)), (2, vi (m : Int))]) (tw_s (tw_e 0 rfl (by omega)) (tw_s (tw_e 2 rfl (by omega)) (tw_s (tw_g 4 rfl) (tw_s (tw_g 5 rfl) tw_s0)))) ?_
                exact ih (i + 1) (d - 1) r (fun u : Nat => bStp (bu b (u : Int)) x (qs u)) I76 hlen (by omega) (fun j hj => by have := hcell (j + 1) (by omega); rw [List.getD_cons_succ] at this; rw [show i + 1 + j = i + (j + 1) by omega]; exact this) hd2 (by omega) (fun y hy => hm y (List.mem_cons_of_mem _ hy)) (fun u hu => (hq u hu).two x1 (by omega) rfl e76 (by rw [if_neg (show ¬ x = -2 by omega), ib_or])) (fun a ha => by rw [e76, uI_off _ _ _ ha]; exact hJ a ha)
              · exfalso; omega
          · exfalso; omega
        · exfalso; omega
theorem c_V_holdsWhen {v fr to : Nat} {b : Int → Int} {c : List Int} (hv : VS K Q n v) (hf : ∀ j, 1 ≤ j → j ≤ 4 → I (v + 4) j = b j) (hb : ∀ j, 1 ≤ j → j ≤ 4 → tr (b j)) (hto : fr + c.length = to) (h100 : to ≤ 100) (hcell : ∀ j : Nat, j < c.length → I (v + 3) ((fr + j : Nat) : Int) = cSt (c.getD j 0)) (hd : lDeep 0 c = some 1) (hm : ∀ x ∈ c, -3 ≤ x) : tw_M l G 2 0 0 mV_holdsWhen [vr (some v), vi (fr : Int), vi (to : Int)] (K, I, Q, n) (fun r h' => ∃ m L, r = some (vi m) ∧ h' = (K, L, Q, n) ∧ (∀ a, a ≠ v + 5 → L a = I a) ∧ ∀ u : Nat, u < 24 → ib m u = (tR (bu b (u : Int)) [] c).headD false) := by
  refine tw_intro okV_holdsWhen (Nat.le_of_ble_eq_true rfl) ?_
  refine ar_iconst (k := 0) rfl ?_
  refine ar_istoren (k := 1) (l2 := [(3, _), (0, _), (1, _), (2, _)]) rfl (by decide) rfl ?_
  refine ar_iloadn (k := 2) rfl rfl ?_
  refine ar_istore (k := 3) (l2 := [(4, _), (3, _), (0, _), (1, _), (2, _)]) rfl (by decide) rfl ?_
  refine ar_sub (l2 := [(4, vi (fr : Int)), (3, vi ((0 : Nat) : Int)), (0, vr (some v)), (2, vi (to : Int))]) (tw_s (tw_g 0 rfl) (tw_s (tw_e 1 rfl (by rfl)) (tw_s (tw_g 2 rfl) (tw_s (tw_g 4 rfl) tw_s0)))) ?_
  exact l_V_holdsWhen hv hf hb h100 c.length fr 0 c (fun _ => []) I rfl hto hcell hd (by decide) hm (fun u hu => ⟨rfl, fun j hj => absurd hj (Nat.not_lt_zero _)⟩) (fun a ha => rfl)
end CV2
