/-- a number as the machine keeps it -/
def wrp (z : Int) : Int := (Int32.ofInt z).toInt
theorem wrp_tr (z : Int) : tr (wrp z) := tr_toInt _
theorem wrp_id {z : Int} (h : tr z) : wrp z = z := tr_id h
section AX
variable {l : Launch} {G : tG} {M : tM} {d mc ms n0 c2 : Nat} {P : Option tV → tH → Prop} {ls : List (Nat × tV)} {st : List tV} {pc : Nat} {K : Nat → Nat × Nat} {I : Nat → Int → Int} {Q : Nat → Int → Option Nat} {n : Nat}
theorem ar_wrap {z : Int} {h : tH} (kk : tw_AW l G M d mc ms n0 c2 P pc ls (vi (wrp z) :: st) h) : tw_AW l G M d mc ms n0 c2 P pc ls (vi z :: st) h := by
  intro p e s m args below meth c H locs ls' X hl hP hS h0 hn
  have K := kk p e s m args below meth c H locs ls' X hl hP hS h0 hn
  have e : tw_v G (vi (wrp z)) = tw_v G (vi z) := congrArg Value.int (Int32.ofInt_toInt _)
  rw [List.map_cons, e] at K
  exact K
/-- numbers of an array behind its end don't count -/
theorem ar_cong {a N : Nat} {g : Int → Int} (hk : tK (K, I, Q, n) a (14, N)) (hg : ∀ j : Nat, j < N → g (j : Int) = I a (j : Int)) (kk : tw_AW l G M d mc ms n0 c2 P pc ls st (K, setA I a g, Q, n)) : tw_AW l G M d mc ms n0 c2 P pc ls st (K, I, Q, n) := by
  intro p e s m args below meth c H locs ls' X hl hP hS h0 hn
  refine kk p e s m args below meth c H locs ls' X hl ?_ hS h0 hn
  intro k q hq
  obtain ⟨h1, h2⟩ := tw_ws_inv hq
  subst h2
  have hold := hP k _ (tw_ws_get (G := G) (h := (K, I, Q, n)) h1)
  by_cases hka : k = a
  · subst hka
    rw [tw_c_int (h := (K, I, Q, n)) hk.1 (by decide) (by decide)] at hold
    rw [tw_c_int (h := (K, setA I k g, Q, n)) hk.1 (by decide) (by decide)]
    have e1 : H[tw_ad G k]? = some (arrV (G.2.1 14) N (fun j => .int (Int32.ofInt (I k (j : Int))))) := hold
    show H[tw_ad G k]? = some (arrV (G.2.1 14) N (fun j => .int (Int32.ofInt (setA I k g k (j : Int)))))
    rw [e1, setA_at]
    congr 1
    unfold arrV
    congr 2
    funext j
    show Value.int (Int32.ofInt (I k (j.val : Int))) = Value.int (Int32.ofInt (g (j.val : Int)))
    rw [hg j.val j.isLt]
  · have e2 : tw_c G (K, setA I a g, Q, n) k = tw_c G (K, I, Q, n) k := by
      have e3 : setA I a g k = I k := setA_ne _ _ hka
      unfold tw_c tw_fv
      simp only [e3]
    rw [e2]
    exact hold
end AX
/-- what ran since, and all else as it was -/
def ta (I J : Nat → Int → Int) (L : List Int) : Prop := J 69 19 = (L.length : Int) ∧ (∀ i : Nat, i < L.length → J 76 (i : Int) = L.getD i 0) ∧ (∀ b, b ≠ 69 → b ≠ 76 → J b = I b) ∧ ∀ k, k ≠ 19 → J 69 k = I 69 k
theorem ta_push {I J : Nat → Int → Int} {L : List Int} {b : Int} (h : ta I J L) : ta I (uI (uI J 76 (L.length : Int) b) 69 19 ((L.length : Int) + 1)) (L ++ [b]) := by
  obtain ⟨h1, h2, h3, h4⟩ := h
  refine ⟨by rw [uI_at, if_pos rfl]; simp, fun i hi => ?_, fun c c1 c2 => ?_, fun k hk => ?_⟩
  · rw [uI_off _ _ _ (by decide), uI_at]
    simp only [List.length_append, List.length_cons, List.length_nil] at hi
    by_cases g : i = L.length
    · subst g
      rw [if_pos rfl]
      simp
    · rw [if_neg (by omega), h2 i (by omega)]
      simp [List.getElem?_append_left (show i < L.length by omega)]
  · rw [uI_off _ _ _ c1, uI_off _ _ _ c2]; exact h3 c c1 c2
  · rw [uI_at, if_neg hk, uI_off _ _ _ (by decide)]; exact h4 k hk
abbrev uP (a b : Int) : Prop := b = 0 ∨ b = a ∨ (0 < b ∧ b < 4 ∧ a = b + 3)
def aL (q i x : Int) : Int × List Int := if uP q 1 then (x * 3 + i, [11, 1]) else if q = 5 then (bXor (x + i) i, [51, 1]) else (x + i, [1])
def aW0 (q i v x : Int) : Int × List Int := ((aL q i x).1 - v, 2 :: (aL q i x).2)
def aW (q i v x : Int) : Int × List Int := if uP q 2 then (-(aW0 q i v x).1, 21 :: (aW0 q i v x).2) else if q = 6 then ((aW0 q i v x).1 + v, 61 :: (aW0 q i v x).2) else aW0 q i v x
def aT0 (q i v x : Int) : Int × List Int := ((aW q i v x).1 * 2, 3 :: (aW q i v x).2)
def aT (q i v x : Int) : Int × List Int := if uP q 3 then (bXor (aT0 q i v x).1 7, 31 :: (aT0 q i v x).2) else if q = 4 then ((aT0 q i v (x - 1)).1 + (aL q i 2).1, 41 :: ((aT0 q i v (x - 1)).2 ++ (aL q i 2).2)) else aT0 q i v x
theorem aL_len (q i x : Int) : (aL q i x).2.length ≤ 2 := by unfold aL; (repeat' split) <;> simp
theorem aW0_len (q i v x : Int) : (aW0 q i v x).2.length ≤ 3 := by unfold aW0; have := aL_len q i x; simp only [List.length_cons]; omega
theorem aW_len (q i v x : Int) : (aW q i v x).2.length ≤ 4 := by unfold aW; have := aW0_len q i v x; (repeat' split) <;> (try simp only [List.length_cons]) <;> omega
theorem aT0_len (q i v x : Int) : (aT0 q i v x).2.length ≤ 5 := by unfold aT0; have := aW_len q i v x; simp only [List.length_cons]; omega
section RL
variable {l : Launch} {G : tG} {K : Nat → Nat × Nat} {I J : Nat → Int → Int} {Q : Nat → Int → Option Nat} {n : Nat} {L : List Int} {q i v : Int}
theorem c_R_ranBody {b : Int} (hS : tSt (K, J, Q, n)) (hk : ta I J L) (hL : L.length < 20) : tw_M l G 1 0 0 mR_ranBody [vr (some 69), vi b] (K, J, Q, n) (fun r h' => r = none ∧ ∃ L2, h' = (K, L2, Q, n) ∧ ta I L2 (L ++ [b])) := by
  refine tw_intro okR_ranBody (Nat.le_of_ble_eq_true rfl) ?_
  refine ar_aloadn (k := 0) rfl rfl ?_
  refine br_getI (k := 1) rfl (hS.k (by decide)) flR_233_12 (by decide) rfl ?_
  refine tw_top (y := (L.length : Int)) (by exact hk.1) ?_
  refine ar_bipush (k := 2) rfl (by decide) ?_
  refine ar_icmp_ge (k := 3) rfl (by omega) (by omega) (fun c3 => ?_) (fun c3 => ?_)
  · refine ar_aloadn (k := 10) rfl rfl ?_
    refine ar_dup (k := 11) rfl rfl ?_
    refine br_getI (k := 12) rfl (hS.k (by decide)) flR_233_12 (by decide) rfl ?_
    refine tw_top (y := (L.length : Int)) (by exact hk.1) ?_
    refine ar_iconst (k := 13) rfl ?_
    refine ar_iadd (k := 14) rfl ?_
    refine br_putI (k := 15) rfl (hS.k (by decide)) flR_233_12 (by decide) rfl (fun _ _ _ q => by cases q; exact ⟨rfl, rfl⟩) ?_
    refine ar_ret (k := 16) rfl rfl rfl (Nat.le_refl _) ?_
    first
      | (exfalso; omega)
      | exact ⟨rfl, _, rfl, ta_push hk⟩
  · refine ar_aloadn (k := 4) rfl rfl ?_
    refine br_getR (k := 5) rfl (hS.k (by decide)) flR_31_12 (by decide) rfl (hS.r rfl) ?_
    refine ar_aloadn (k := 6) rfl rfl ?_
    refine br_getI (k := 7) rfl (hS.k (by decide)) flR_233_12 (by decide) rfl ?_
    refine tw_top (y := (L.length : Int)) (by exact hk.1) ?_
    refine ar_iloadn (k := 8) rfl rfl ?_
    refine br_iast (k := 9) rfl (hS.k (by decide)) (by omega) (by omega) (by decide) ?_
    refine ar_aloadn (k := 10) rfl rfl ?_
    refine ar_dup (k := 11) rfl rfl ?_
    refine br_getI (k := 12) rfl (hS.k (by decide)) flR_233_12 (by decide) rfl ?_
    refine tw_top (y := (L.length : Int)) (by exact hk.1) ?_
    refine ar_iconst (k := 13) rfl ?_
    refine ar_iadd (k := 14) rfl ?_
    refine br_putI (k := 15) rfl (hS.k (by decide)) flR_233_12 (by decide) rfl (fun _ _ _ q => by cases q; exact ⟨rfl, rfl⟩) ?_
    refine ar_ret (k := 16) rfl rfl rfl (Nat.le_refl _) ?_
    first
      | (exfalso; omega)
      | exact ⟨rfl, _, rfl, ta_push hk⟩
theorem c_R_plainLifts {x : Int} (hS : tSt (K, J, Q, n)) (hk : ta I J L) (hq : I 69 20 = q) (hi : I 69 21 = i) (hv : I 69 22 = v) (q1 : 0 ≤ q ∧ q ≤ 6) (hL : L.length ≤ 19) : tw_M l G 2 0 0 mR_plainLifts [vr (some 69), vi x] (K, J, Q, n) (fun r h' => r = some (vi (x + i)) ∧ ∃ L2, h' = (K, L2, Q, n) ∧ ta I L2 (L ++ [1])) := by
  refine tw_intro okR_plainLifts (Nat.le_of_ble_eq_true rfl) ?_
  refine ar_aloadn (k := 0) rfl rfl ?_
  refine ar_iconst (k := 1) rfl ?_
  refine ar_callV (k := 2) (as := [_]) rfl lvR_236 (hS.k (by decide)) rfl (c_R_ranBody hS hk (by first | omega | (simp only [List.length_append, List.length_cons, List.length_nil]; omega))) rfl (by decide) (by decide) tw_m0 (Nat.le_of_ble_eq_true rfl) (fun r h' hp => ?_)
  obtain ⟨rfl, I2, rfl, hk2⟩ := hp
  refine ar_iloadn (k := 3) rfl rfl ?_
  refine ar_aloadn (k := 4) rfl rfl ?_
  refine br_getI (k := 5) rfl (hS.k (by decide)) flR_239_12 (by decide) rfl ?_
  refine tw_top (y := i) (by exact (hk2.2.2.2 21 (by decide)).trans hi) ?_
  refine ar_iadd (k := 6) rfl ?_
  refine ar_iret (k := 7) rfl rfl rfl (Nat.le_refl _) ?_
  exact ⟨rfl, _, rfl, hk2⟩
theorem c_R_liftsActs {x : Int} (hS : tSt (K, J, Q, n)) (hk : ta I J L) (hq : I 69 20 = q) (hi : I 69 21 = i) (hv : I 69 22 = v) (q1 : 0 ≤ q ∧ q ≤ 6) (hL : L.length ≤ 18) : tw_M l G 3 0 0 mR_liftsActs [vr (some 69), vi x] (K, J, Q, n) (fun r h' => r = some (vi (aL q i x).1) ∧ ∃ L2, h' = (K, L2, Q, n) ∧ ta I L2 (L ++ (aL q i x).2)) := by
  refine tw_intro okR_liftsActs (Nat.le_of_ble_eq_true rfl) ?_
  refine ar_aloadn (k := 0) rfl rfl ?_
  refine br_getI (k := 1) rfl (hS.k (by decide)) flR_242_12 (by decide) rfl ?_
  refine tw_top (y := q) (by exact (hk.2.2.2 20 (by decide)).trans hq) ?_
  refine ar_iconst (k := 2) rfl ?_
  refine br_callS (k := 3) (as := [_, _]) rfl lsR_245 (c_R_isUnder (by omega) (by omega)) rfl (by decide) (by decide) tw_m0 (Nat.le_of_ble_eq_true rfl) ?_
  refine ar_if_eq (k := 4) rfl (by omega) (fun c4 => ?_) (fun c4 => ?_)
  · refine ar_aloadn (k := 14) rfl rfl ?_
    refine br_getI (k := 15) rfl (hS.k (by decide)) flR_242_12 (by decide) rfl ?_
    refine tw_top (y := q) (by exact (hk.2.2.2 20 (by decide)).trans hq) ?_
    refine ar_iconst (k := 16) rfl ?_
    refine ar_icmp_ne (k := 17) rfl (by omega) (by omega) (fun c17 => ?_) (fun c17 => ?_)
    · refine ar_aloadn (k := 28) rfl rfl ?_
      refine ar_iloadn (k := 29) rfl rfl ?_
      refine ar_callV (k := 30) (as := [_]) rfl lvR_248 (hS.k (by decide)) rfl (c_R_plainLifts hS hk hq hi hv q1 (by first | omega | (simp only [List.length_append, List.length_cons, List.length_nil]; omega))) rfl (by decide) (by decide) tw_m0 (Nat.le_of_ble_eq_true rfl) (fun r h' hp => ?_)
      obtain ⟨rfl, I30, rfl, hk30⟩ := hp
      refine ar_iret (k := 31) rfl rfl rfl (Nat.le_refl _) ?_
      refine ⟨congrArg (fun z => some (vi z)) ?_, _, rfl, ?_⟩
      · unfold aL
        (repeat' split) <;> first | rfl | (exfalso; omega)
      · have hh := hk30
        try simp only [List.append_assoc, List.cons_append, List.nil_append] at hh
        unfold aL
        (repeat' split) <;> first | exact hh | (exfalso; omega)
    · refine ar_aloadn (k := 18) rfl rfl ?_
      refine ar_bipush (k := 19) rfl (by decide) ?_
      refine ar_callV (k := 20) (as := [_]) rfl lvR_236 (hS.k (by decide)) rfl (c_R_ranBody hS hk (by first | omega | (simp only [List.length_append, List.length_cons, List.length_nil]; omega))) rfl (by decide) (by decide) tw_m0 (Nat.le_of_ble_eq_true rfl) (fun r h' hp => ?_)
      obtain ⟨rfl, I20, rfl, hk20⟩ := hp
      refine ar_aloadn (k := 21) rfl rfl ?_
      refine ar_iloadn (k := 22) rfl rfl ?_
      refine ar_callV (k := 23) (as := [_]) rfl lvR_248 (hS.k (by decide)) rfl (c_R_plainLifts hS hk20 hq hi hv q1 (by first | omega | (simp only [List.length_append, List.length_cons, List.length_nil]; omega))) rfl (by decide) (by decide) tw_m0 (Nat.le_of_ble_eq_true rfl) (fun r h' hp => ?_)
      obtain ⟨rfl, I23, rfl, hk23⟩ := hp
      refine ar_aloadn (k := 24) rfl rfl ?_
      refine br_getI (k := 25) rfl (hS.k (by decide)) flR_239_12 (by decide) rfl ?_
      refine tw_top (y := i) (by exact (hk23.2.2.2 21 (by decide)).trans hi) ?_
      refine ar_ixor (k := 26) rfl ?_
      refine ar_iret (k := 27) rfl rfl rfl (Nat.le_refl _) ?_
      refine ⟨congrArg (fun z => some (vi z)) ?_, _, rfl, ?_⟩
      · unfold aL
        (repeat' split) <;> first | rfl | (exfalso; omega)
      · have hh := hk23
        try simp only [List.append_assoc, List.cons_append, List.nil_append] at hh
        unfold aL
        (repeat' split) <;> first | exact hh | (exfalso; omega)
  · refine ar_aloadn (k := 5) rfl rfl ?_
    refine ar_bipush (k := 6) rfl (by decide) ?_
    refine ar_callV (k := 7) (as := [_]) rfl lvR_236 (hS.k (by decide)) rfl (c_R_ranBody hS hk (by first | omega | (simp only [List.length_append, List.length_cons, List.length_nil]; omega))) rfl (by decide) (by decide) tw_m0 (Nat.le_of_ble_eq_true rfl) (fun r h' hp => ?_)
    obtain ⟨rfl, I7, rfl, hk7⟩ := hp
    refine ar_aloadn (k := 8) rfl rfl ?_
    refine ar_iloadn (k := 9) rfl rfl ?_
    refine ar_iconst (k := 10) rfl ?_
    refine ar_imul (k := 11) rfl ?_
    refine ar_callV (k := 12) (as := [_]) rfl lvR_248 (hS.k (by decide)) rfl (c_R_plainLifts hS hk7 hq hi hv q1 (by first | omega | (simp only [List.length_append, List.length_cons, List.length_nil]; omega))) rfl (by decide) (by decide) tw_m0 (Nat.le_of_ble_eq_true rfl) (fun r h' hp => ?_)
    obtain ⟨rfl, I12, rfl, hk12⟩ := hp
    refine ar_iret (k := 13) rfl rfl rfl (Nat.le_refl _) ?_
    refine ⟨congrArg (fun z => some (vi z)) ?_, _, rfl, ?_⟩
    · unfold aL
      (repeat' split) <;> first | rfl | (exfalso; omega)
    · have hh := hk12
      try simp only [List.append_assoc, List.cons_append, List.nil_append] at hh
      unfold aL
      (repeat' split) <;> first | exact hh | (exfalso; omega)
theorem c_R_plainWaits {x : Int} (hS : tSt (K, J, Q, n)) (hk : ta I J L) (hq : I 69 20 = q) (hi : I 69 21 = i) (hv : I 69 22 = v) (q1 : 0 ≤ q ∧ q ≤ 6) (hL : L.length ≤ 17) : tw_M l G 4 0 0 mR_plainWaits [vr (some 69), vi x] (K, J, Q, n) (fun r h' => r = some (vi (aW0 q i v x).1) ∧ ∃ L2, h' = (K, L2, Q, n) ∧ ta I L2 (L ++ (aW0 q i v x).2)) := by
  refine tw_intro okR_plainWaits (Nat.le_of_ble_eq_true rfl) ?_
  refine ar_aloadn (k := 0) rfl rfl ?_
  refine ar_iconst (k := 1) rfl ?_
  refine ar_callV (k := 2) (as := [_]) rfl lvR_236 (hS.k (by decide)) rfl (c_R_ranBody hS hk (by first | omega | (simp only [List.length_append, List.length_cons, List.length_nil]; omega))) rfl (by decide) (by decide) tw_m0 (Nat.le_of_ble_eq_true rfl) (fun r h' hp => ?_)
  obtain ⟨rfl, I2, rfl, hk2⟩ := hp
  refine ar_aloadn (k := 3) rfl rfl ?_
  refine ar_iloadn (k := 4) rfl rfl ?_
  refine ar_callV (k := 5) (as := [_]) rfl lvR_251 (hS.k (by decide)) rfl (c_R_liftsActs hS hk2 hq hi hv q1 (by first | omega | (simp only [List.length_append, List.length_cons, List.length_nil]; omega))) rfl (by decide) (by decide) tw_m0 (Nat.le_of_ble_eq_true rfl) (fun r h' hp => ?_)
  obtain ⟨rfl, I5, rfl, hk5⟩ := hp
  refine ar_aloadn (k := 6) rfl rfl ?_
  refine br_getI (k := 7) rfl (hS.k (by decide)) flR_254_12 (by decide) rfl ?_
  refine tw_top (y := v) (by exact (hk5.2.2.2 22 (by decide)).trans hv) ?_
  refine ar_isub (k := 8) rfl ?_
  refine ar_iret (k := 9) rfl rfl rfl (Nat.le_refl _) ?_
  refine ⟨rfl, _, rfl, ?_⟩
  have hh := hk5
  simp only [List.append_assoc, List.cons_append, List.nil_append] at hh
  exact hh
theorem c_R_waitsActs {x : Int} (hS : tSt (K, J, Q, n)) (hk : ta I J L) (hq : I 69 20 = q) (hi : I 69 21 = i) (hv : I 69 22 = v) (q1 : 0 ≤ q ∧ q ≤ 6) (hL : L.length ≤ 16) : tw_M l G 5 0 0 mR_waitsActs [vr (some 69), vi x] (K, J, Q, n) (fun r h' => r = some (vi (aW q i v x).1) ∧ ∃ L2, h' = (K, L2, Q, n) ∧ ta I L2 (L ++ (aW q i v x).2)) := by
  refine tw_intro okR_waitsActs (Nat.le_of_ble_eq_true rfl) ?_
  refine ar_aloadn (k := 0) rfl rfl ?_
  refine br_getI (k := 1) rfl (hS.k (by decide)) flR_242_12 (by decide) rfl ?_
  refine tw_top (y := q) (by exact (hk.2.2.2 20 (by decide)).trans hq) ?_
  refine ar_iconst (k := 2) rfl ?_
  refine br_callS (k := 3) (as := [_, _]) rfl lsR_245 (c_R_isUnder (by omega) (by omega)) rfl (by decide) (by decide) tw_m0 (Nat.le_of_ble_eq_true rfl) ?_
  refine ar_if_eq (k := 4) rfl (by omega) (fun c4 => ?_) (fun c4 => ?_)
  · refine ar_aloadn (k := 13) rfl rfl ?_
    refine br_getI (k := 14) rfl (hS.k (by decide)) flR_242_12 (by decide) rfl ?_
    refine tw_top (y := q) (by exact (hk.2.2.2 20 (by decide)).trans hq) ?_
    refine ar_bipush (k := 15) rfl (by decide) ?_
    refine ar_icmp_ne (k := 16) rfl (by omega) (by omega) (fun c16 => ?_) (fun c16 => ?_)
    · refine ar_aloadn (k := 27) rfl rfl ?_
      refine ar_iloadn (k := 28) rfl rfl ?_
      refine ar_callV (k := 29) (as := [_]) rfl lvR_257 (hS.k (by decide)) rfl (c_R_plainWaits hS hk hq hi hv q1 (by first | omega | (simp only [List.length_append, List.length_cons, List.length_nil]; omega))) rfl (by decide) (by decide) tw_m0 (Nat.le_of_ble_eq_true rfl) (fun r h' hp => ?_)
      obtain ⟨rfl, I29, rfl, hk29⟩ := hp
      refine ar_iret (k := 30) rfl rfl rfl (Nat.le_refl _) ?_
      refine ⟨congrArg (fun z => some (vi z)) ?_, _, rfl, ?_⟩
      · unfold aW
        (repeat' split) <;> first | rfl | (exfalso; omega)
      · have hh := hk29
        try simp only [List.append_assoc, List.cons_append, List.nil_append] at hh
        unfold aW
        (repeat' split) <;> first | exact hh | (exfalso; omega)
    · refine ar_aloadn (k := 17) rfl rfl ?_
      refine ar_bipush (k := 18) rfl (by decide) ?_
      refine ar_callV (k := 19) (as := [_]) rfl lvR_236 (hS.k (by decide)) rfl (c_R_ranBody hS hk (by first | omega | (simp only [List.length_append, List.length_cons, List.length_nil]; omega))) rfl (by decide) (by decide) tw_m0 (Nat.le_of_ble_eq_true rfl) (fun r h' hp => ?_)
      obtain ⟨rfl, I19, rfl, hk19⟩ := hp
      refine ar_aloadn (k := 20) rfl rfl ?_
      refine ar_iloadn (k := 21) rfl rfl ?_
      refine ar_callV (k := 22) (as := [_]) rfl lvR_257 (hS.k (by decide)) rfl (c_R_plainWaits hS hk19 hq hi hv q1 (by first | omega | (simp only [List.length_append, List.length_cons, List.length_nil]; omega))) rfl (by decide) (by decide) tw_m0 (Nat.le_of_ble_eq_true rfl) (fun r h' hp => ?_)
      obtain ⟨rfl, I22, rfl, hk22⟩ := hp
      refine ar_aloadn (k := 23) rfl rfl ?_
      refine br_getI (k := 24) rfl (hS.k (by decide)) flR_254_12 (by decide) rfl ?_
      refine tw_top (y := v) (by exact (hk22.2.2.2 22 (by decide)).trans hv) ?_
      refine ar_iadd (k := 25) rfl ?_
      refine ar_iret (k := 26) rfl rfl rfl (Nat.le_refl _) ?_
      refine ⟨congrArg (fun z => some (vi z)) ?_, _, rfl, ?_⟩
      · unfold aW
        (repeat' split) <;> first | rfl | (exfalso; omega)
      · have hh := hk22
        try simp only [List.append_assoc, List.cons_append, List.nil_append] at hh
        unfold aW
        (repeat' split) <;> first | exact hh | (exfalso; omega)
  · refine ar_aloadn (k := 5) rfl rfl ?_
    refine ar_bipush (k := 6) rfl (by decide) ?_
    refine ar_callV (k := 7) (as := [_]) rfl lvR_236 (hS.k (by decide)) rfl (c_R_ranBody hS hk (by first | omega | (simp only [List.length_append, List.length_cons, List.length_nil]; omega))) rfl (by decide) (by decide) tw_m0 (Nat.le_of_ble_eq_true rfl) (fun r h' hp => ?_)
    obtain ⟨rfl, I7, rfl, hk7⟩ := hp
    refine ar_aloadn (k := 8) rfl rfl ?_
    refine ar_iloadn (k := 9) rfl rfl ?_
    refine ar_callV (k := 10) (as := [_]) rfl lvR_257 (hS.k (by decide)) rfl (c_R_plainWaits hS hk7 hq hi hv q1 (by first | omega | (simp only [List.length_append, List.length_cons, List.length_nil]; omega))) rfl (by decide) (by decide) tw_m0 (Nat.le_of_ble_eq_true rfl) (fun r h' hp => ?_)
    obtain ⟨rfl, I10, rfl, hk10⟩ := hp
    refine ar_ineg (k := 11) rfl ?_
    refine ar_iret (k := 12) rfl rfl rfl (Nat.le_refl _) ?_
    refine ⟨congrArg (fun z => some (vi z)) ?_, _, rfl, ?_⟩
    · unfold aW
      (repeat' split) <;> first | rfl | (exfalso; omega)
    · have hh := hk10
      try simp only [List.append_assoc, List.cons_append, List.nil_append] at hh
      unfold aW
      (repeat' split) <;> first | exact hh | (exfalso; omega)
theorem c_R_plainTells {x : Int} (hS : tSt (K, J, Q, n)) (hk : ta I J L) (hq : I 69 20 = q) (hi : I 69 21 = i) (hv : I 69 22 = v) (q1 : 0 ≤ q ∧ q ≤ 6) (hL : L.length ≤ 15) : tw_M l G 6 0 0 mR_plainTells [vr (some 69), vi x] (K, J, Q, n) (fun r h' => r = some (vi (aT0 q i v x).1) ∧ ∃ L2, h' = (K, L2, Q, n) ∧ ta I L2 (L ++ (aT0 q i v x).2)) := by
  refine tw_intro okR_plainTells (Nat.le_of_ble_eq_true rfl) ?_
  refine ar_aloadn (k := 0) rfl rfl ?_
  refine ar_iconst (k := 1) rfl ?_
  refine ar_callV (k := 2) (as := [_]) rfl lvR_236 (hS.k (by decide)) rfl (c_R_ranBody hS hk (by first | omega | (simp only [List.length_append, List.length_cons, List.length_nil]; omega))) rfl (by decide) (by decide) tw_m0 (Nat.le_of_ble_eq_true rfl) (fun r h' hp => ?_)
  obtain ⟨rfl, I2, rfl, hk2⟩ := hp
  refine ar_aloadn (k := 3) rfl rfl ?_
  refine ar_iloadn (k := 4) rfl rfl ?_
  refine ar_callV (k := 5) (as := [_]) rfl lvR_260 (hS.k (by decide)) rfl (c_R_waitsActs hS hk2 hq hi hv q1 (by first | omega | (simp only [List.length_append, List.length_cons, List.length_nil]; omega))) rfl (by decide) (by decide) tw_m0 (Nat.le_of_ble_eq_true rfl) (fun r h' hp => ?_)
  obtain ⟨rfl, I5, rfl, hk5⟩ := hp
  refine ar_iconst (k := 6) rfl ?_
  refine ar_imul (k := 7) rfl ?_
  refine ar_iret (k := 8) rfl rfl rfl (Nat.le_refl _) ?_
  refine ⟨rfl, _, rfl, ?_⟩
  have hh := hk5
  simp only [List.append_assoc, List.cons_append, List.nil_append] at hh
  exact hh
theorem c_R_tellsActs {x : Int} (hS : tSt (K, J, Q, n)) (hk : ta I J L) (hq : I 69 20 = q) (hi : I 69 21 = i) (hv : I 69 22 = v) (q1 : 0 ≤ q ∧ q ≤ 6) (hL : L.length ≤ 12) : tw_M l G 7 0 0 mR_tellsActs [vr (some 69), vi x] (K, J, Q, n) (fun r h' => r = some (vi (aT q i v x).1) ∧ ∃ L2, h' = (K, L2, Q, n) ∧ ta I L2 (L ++ (aT q i v x).2)) := by
  refine tw_intro okR_tellsActs (Nat.le_of_ble_eq_true rfl) ?_
  refine ar_aloadn (k := 0) rfl rfl ?_
  refine br_getI (k := 1) rfl (hS.k (by decide)) flR_242_12 (by decide) rfl ?_
  refine tw_top (y := q) (by exact (hk.2.2.2 20 (by decide)).trans hq) ?_
  refine ar_iconst (k := 2) rfl ?_
  refine br_callS (k := 3) (as := [_, _]) rfl lsR_245 (c_R_isUnder (by omega) (by omega)) rfl (by decide) (by decide) tw_m0 (Nat.le_of_ble_eq_true rfl) ?_
  refine ar_if_eq (k := 4) rfl (by omega) (fun c4 => ?_) (fun c4 => ?_)
  · refine ar_aloadn (k := 14) rfl rfl ?_
    refine br_getI (k := 15) rfl (hS.k (by decide)) flR_242_12 (by decide) rfl ?_
    refine tw_top (y := q) (by exact (hk.2.2.2 20 (by decide)).trans hq) ?_
    refine ar_iconst (k := 16) rfl ?_
    refine ar_icmp_ne (k := 17) rfl (by omega) (by omega) (fun c17 => ?_) (fun c17 => ?_)
    · refine ar_aloadn (k := 33) rfl rfl ?_
      refine ar_iloadn (k := 34) rfl rfl ?_
      refine ar_callV (k := 35) (as := [_]) rfl lvR_263 (hS.k (by decide)) rfl (c_R_plainTells hS hk hq hi hv q1 (by first | omega | (simp only [List.length_append, List.length_cons, List.length_nil]; omega))) rfl (by decide) (by decide) tw_m0 (Nat.le_of_ble_eq_true rfl) (fun r h' hp => ?_)
      obtain ⟨rfl, I35, rfl, hk35⟩ := hp
      refine ar_iret (k := 36) rfl rfl rfl (Nat.le_refl _) ?_
      refine ⟨congrArg (fun z => some (vi z)) ?_, _, rfl, ?_⟩
      · unfold aT
        (repeat' split) <;> first | rfl | (exfalso; omega)
      · have hh := hk35
        try simp only [List.append_assoc, List.cons_append, List.nil_append] at hh
        unfold aT
        (repeat' split) <;> first | exact hh | (exfalso; omega)
    · refine ar_aloadn (k := 18) rfl rfl ?_
      refine ar_bipush (k := 19) rfl (by decide) ?_
      refine ar_callV (k := 20) (as := [_]) rfl lvR_236 (hS.k (by decide)) rfl (c_R_ranBody hS hk (by first | omega | (simp only [List.length_append, List.length_cons, List.length_nil]; omega))) rfl (by decide) (by decide) tw_m0 (Nat.le_of_ble_eq_true rfl) (fun r h' hp => ?_)
      obtain ⟨rfl, I20, rfl, hk20⟩ := hp
      refine ar_aloadn (k := 21) rfl rfl ?_
      refine ar_iloadn (k := 22) rfl rfl ?_
      refine ar_iconst (k := 23) rfl ?_
      refine ar_isub (k := 24) rfl ?_
      refine ar_callV (k := 25) (as := [_]) rfl lvR_263 (hS.k (by decide)) rfl (c_R_plainTells hS hk20 hq hi hv q1 (by first | omega | (simp only [List.length_append, List.length_cons, List.length_nil]; omega))) rfl (by decide) (by decide) tw_m0 (Nat.le_of_ble_eq_true rfl) (fun r h' hp => ?_)
      obtain ⟨rfl, I25, rfl, hk25⟩ := hp
      refine ar_istoren (k := 26) (l2 := [(2, _), (0, _), (1, _)]) rfl (by decide) rfl ?_
      refine ar_iloadn (k := 27) rfl rfl ?_
      refine ar_aloadn (k := 28) rfl rfl ?_
      refine ar_iconst (k := 29) rfl ?_
      have hl9 := aT0_len q i v (x - 1)
      refine ar_callV (k := 30) (as := [_]) rfl lvR_251 (hS.k (by decide)) rfl (c_R_liftsActs hS hk25 hq hi hv q1 (by first | omega | (simp only [List.length_append, List.length_cons, List.length_nil]; omega))) rfl (by decide) (by decide) tw_m0 (Nat.le_of_ble_eq_true rfl) (fun r h' hp => ?_)
      obtain ⟨rfl, I30, rfl, hk30⟩ := hp
      refine ar_iadd (k := 31) rfl ?_
      refine ar_iret (k := 32) rfl rfl rfl (Nat.le_refl _) ?_
      refine ⟨congrArg (fun z => some (vi z)) ?_, _, rfl, ?_⟩
      · unfold aT
        (repeat' split) <;> first | rfl | (exfalso; omega)
      · have hh := hk30
        try simp only [List.append_assoc, List.cons_append, List.nil_append] at hh
        unfold aT
        (repeat' split) <;> first | exact hh | (exfalso; omega)
  · refine ar_aloadn (k := 5) rfl rfl ?_
    refine ar_bipush (k := 6) rfl (by decide) ?_
    refine ar_callV (k := 7) (as := [_]) rfl lvR_236 (hS.k (by decide)) rfl (c_R_ranBody hS hk (by first | omega | (simp only [List.length_append, List.length_cons, List.length_nil]; omega))) rfl (by decide) (by decide) tw_m0 (Nat.le_of_ble_eq_true rfl) (fun r h' hp => ?_)
    obtain ⟨rfl, I7, rfl, hk7⟩ := hp
    refine ar_aloadn (k := 8) rfl rfl ?_
    refine ar_iloadn (k := 9) rfl rfl ?_
    refine ar_callV (k := 10) (as := [_]) rfl lvR_263 (hS.k (by decide)) rfl (c_R_plainTells hS hk7 hq hi hv q1 (by first | omega | (simp only [List.length_append, List.length_cons, List.length_nil]; omega))) rfl (by decide) (by decide) tw_m0 (Nat.le_of_ble_eq_true rfl) (fun r h' hp => ?_)
    obtain ⟨rfl, I10, rfl, hk10⟩ := hp
    refine ar_bipush (k := 11) rfl (by decide) ?_
    refine ar_ixor (k := 12) rfl ?_
    refine ar_iret (k := 13) rfl rfl rfl (Nat.le_refl _) ?_
    refine ⟨congrArg (fun z => some (vi z)) ?_, _, rfl, ?_⟩
    · unfold aT
      (repeat' split) <;> first | rfl | (exfalso; omega)
    · have hh := hk10
      try simp only [List.append_assoc, List.cons_append, List.nil_append] at hh
      unfold aT
      (repeat' split) <;> first | exact hh | (exfalso; omega)
end RL
