def gF (K : Nat → Nat × Nat) (I : Nat → Int → Int) (Q : Nat → Int → Option Nat) (v m0 m : Nat) (K' : Nat → Nat × Nat) (J : Nat → Int → Int) (R : Nat → Int → Option Nat) : Prop := (∀ a, a < m0 → K' a = K a) ∧ (∀ a, a < m0 → a ≠ v → J a = I a) ∧ (∀ a, a < m0 → a ≠ v → R a = Q a) ∧ (∀ a, m0 ≤ a → a < m → J a = fun _ => 0)
section GF
variable {K K' : Nat → Nat × Nat} {I J : Nat → Int → Int} {Q R : Nat → Int → Option Nat} {v m0 m : Nat}
theorem gF.rf : gF K I Q v m0 m0 K I Q := ⟨fun _ _ => rfl, fun _ _ _ => rfl, fun _ _ _ => rfl, fun a a1 a2 => by exfalso; omega⟩
theorem gF.pi {k x : Int} (h : gF K I Q v m0 m K' J R) (hv : v < m0) : gF K I Q v m0 m K' (uI J v k x) R := ⟨h.1, fun a a1 a2 => by rw [uI_off _ _ _ a2]; exact h.2.1 a a1 a2, h.2.2.1, fun a a1 a2 => by rw [uI_off _ _ _ (by omega)]; exact h.2.2.2 a a1 a2⟩
theorem gF.pr {k : Int} {x : Option Nat} (h : gF K I Q v m0 m K' J R) : gF K I Q v m0 m K' J (uQ R v k x) := ⟨h.1, h.2.1, fun a a1 a2 => by show (if a = v then _ else R a) = _; rw [if_neg a2]; exact h.2.2.1 a a1 a2, h.2.2.2⟩
theorem gF.nw {q : Nat × Nat} (h : gF K I Q v m0 m K' J R) (hm : m0 ≤ m) : gF K I Q v m0 (m + 1) (zK K' m q) (zI J m) (zQ R m) := by
  refine ⟨fun a a1 => by show (if a = m then _ else K' a) = _; rw [if_neg (by omega)]; exact h.1 a a1, fun a a1 a2 => by show (if a = m then _ else J a) = _; rw [if_neg (by omega)]; exact h.2.1 a a1 a2, fun a a1 a2 => by show (if a = m then _ else R a) = _; rw [if_neg (by omega)]; exact h.2.2.1 a a1 a2, fun a a1 a2 => ?_⟩
  show (if a = m then _ else J a) = _
  by_cases g : a = m
  · rw [if_pos g]
  · rw [if_neg g]; exact h.2.2.2 a a1 (by omega)
end GF
section CX1
variable {l : Launch} {G : tG} {M : tM} {d mc ms n0 c2 : Nat} {P : Option tV → tH → Prop} {ls : List (Nat × tV)} {st : List tV} {k pc nx tg : Nat} {K : Nat → Nat × Nat} {I : Nat → Int → Int} {Q : Nat → Int → Option Nat} {n : Nat}
theorem br_mna {i : Nat} (hd : M.2.2.2.2[k]? = some (pc, .multianewarray i 2, nx, tg)) (hw : Cond.classLink M.1.cls i "[[I" ∈ tw_tbl ∧ Cond.arrayClass .int ∈ tw_tbl) (hm : n - n0 + 11 ≤ mc ∧ c2 + 250 ≤ ms) (kk : ∀ (K' : Nat → Nat × Nat) (J : Nat → Int → Int) (R : Nat → Int → Option Nat), K' n = (18, 10) → (∀ j : Nat, 1 ≤ j → j ≤ 10 → K' (n + j) = (14, 24)) → (∀ j : Int, 0 ≤ j → j < 10 → R n j = some (n + 1 + j.toNat)) → (∀ a, a < n → K' a = K a ∧ J a = I a ∧ R a = Q a) → (∀ a, n ≤ a → a < n + 11 → J a = fun _ => 0) → tw_AW l G M d mc ms n0 (c2 + 250) P nx ls (vr (some n) :: st) (K', J, R, n + 11)) : tw_AW l G M d mc ms n0 c2 P pc ls (vi 24 :: vi 10 :: st) (K, I, Q, n) := by
  refine ar_mna hd hw hm (kk _ _ _ ?_ (fun j j1 j2 => ?_) (fun j j1 j2 => ?_) (fun a ha => ⟨?_, ?_, ?_⟩) (fun a a1 a2 => ?_))
  · show (if n = n then _ else _) = _
    rw [if_pos rfl]
  · show (if n + j = n then _ else if n < n + j ∧ n + j < n + 11 then _ else _) = _
    rw [if_neg (by omega), if_pos (by omega)]
  · show (if n = n then (fun j : Int => if 0 ≤ j ∧ j < 10 then some (n + 1 + j.toNat) else none) else _) j = _
    rw [if_pos rfl]
    show (if 0 ≤ j ∧ j < 10 then some (n + 1 + j.toNat) else none) = _
    rw [if_pos ⟨j1, j2⟩]
  · show (if a = n then _ else if n < a ∧ a < n + 11 then _ else K a) = _
    rw [if_neg (by omega), if_neg (by omega)]
  · show (if n ≤ a ∧ a < n + 11 then _ else I a) = _
    rw [if_neg (by omega)]
  · show (if a = n then _ else if n < a ∧ a < n + 11 then _ else Q a) = _
    rw [if_neg (by omega), if_neg (by omega)]
  · show (if n ≤ a ∧ a < n + 11 then _ else I a) = _
    rw [if_pos ⟨a1, a2⟩]
end CX1
section CX2
variable {l : Launch} {G : tG} {K : Nat → Nat × Nat} {I : Nat → Int → Int} {Q : Nat → Int → Option Nat} {n : Nat} {s : Int → Int} {v : Nat}
theorem gF_use {K K' : Nat → Nat × Nat} {I J : Nat → Int → Int} {Q R : Nat → Int → Option Nat} {v m0 m : Nat} {p : (Nat → Nat × Nat) → (Nat → Int → Int) → (Nat → Int → Option Nat) → Prop} (g : gF K I Q v m0 m K' J R) (h : gF K I Q v m0 m K' J R → p K' J R) : p K' J R := h g
theorem c_P_init (hK : K v = (6, 20)) : tw_M l G 3 33 634 mP_init [vr (some v)] (K, I, Q, v + 1) (fun r h' => r = none ∧ ∃ K' J R, h' = (K', J, R, v + 34) ∧ (K' (v + 1) = (10, 20) ∧ K' (v + 1 + 1) = (13, 100) ∧ K' (v + 1 + 2) = (17, 5) ∧ K' (v + 1 + 3) = (16, 8) ∧ K' (v + 1 + 4) = (14, 8) ∧ K' (v + 1 + 5) = (14, 32) ∧ K' (v + 1 + 6) = (14, 10) ∧ K' (v + 1 + 7) = (14, 10) ∧ K' (v + 1 + 8) = (14, 10) ∧ K' (v + 1 + 9) = (14, 12) ∧ K' (v + 1 + 10) = (14, 12) ∧ K' (v + 1 + 11) = (14, 12) ∧ K' (v + 1 + 12) = (14, 12) ∧ R (v + 1) 0 = some (v + 1 + 1) ∧ R (v + 1) 2 = some (v + 1 + 2) ∧ R (v + 1) 4 = some (v + 1 + 3) ∧ R (v + 1) 6 = some (v + 1 + 4) ∧ R (v + 1) 7 = some (v + 1 + 5) ∧ R (v + 1) 8 = some (v + 1 + 6) ∧ R (v + 1) 9 = some (v + 1 + 7) ∧ R (v + 1) 10 = some (v + 1 + 8) ∧ R (v + 1) 13 = some (v + 1 + 9) ∧ R (v + 1) 14 = some (v + 1 + 10) ∧ R (v + 1) 17 = some (v + 1 + 11) ∧ R (v + 1) 18 = some (v + 1 + 12) ∧ K' (v + 14) = (18, 10) ∧ (∀ j : Nat, 1 ≤ j → j ≤ 10 → K' (v + 14 + j) = (14, 24)) ∧ K' (v + 25) = (14, 8) ∧ K' (v + 26) = (14, 8) ∧ K' (v + 27) = (14, 5) ∧ K' (v + 28) = (14, 5) ∧ K' (v + 29) = (14, 5) ∧ K' (v + 30) = (14, 32) ∧ K' (v + 31) = (14, 32) ∧ K' (v + 32) = (14, 32) ∧ K' (v + 33) = (14, 6) ∧ R v 0 = some (v + 1) ∧ R v 3 = some (v + 14) ∧ R v 4 = some (v + 25) ∧ R v 5 = some (v + 26) ∧ R v 8 = some (v + 27) ∧ R v 9 = some (v + 28) ∧ R v 10 = some (v + 29) ∧ R v 12 = some (v + 30) ∧ R v 13 = some (v + 31) ∧ R v 14 = some (v + 32) ∧ R v 18 = some (v + 33)) ∧ (∀ j : Int, 0 ≤ j → j < 10 → R (v + 14) j = some (v + 15 + j.toNat)) ∧ (∀ a, a ≤ v → K' a = K a) ∧ (∀ a, a < v → J a = I a ∧ R a = Q a) ∧ (∀ a, v + 14 ≤ a → a < v + 34 → J a = fun _ => 0)) := by
  refine tw_intro okP_init (Nat.le_of_ble_eq_true rfl) ?_
  refine ar_aloadn (k := 0) rfl rfl ?_
  refine ar_obj (k := 1) rfl lbP_3 (by decide) (Nat.le_of_ble_eq_true rfl) ?_
  refine ar_aloadn (k := 2) rfl rfl ?_
  refine br_new (k := 3) (ci := 10) (N := 20) rfl klP_9 rfl (fun j hj => by rcases (show j = 0 ∨ j = 1 ∨ j = 2 ∨ j = 3 ∨ j = 4 ∨ j = 5 ∨ j = 6 ∨ j = 7 ∨ j = 8 ∨ j = 9 ∨ j = 10 ∨ j = 11 ∨ j = 12 ∨ j = 13 ∨ j = 14 ∨ j = 15 ∨ j = 16 ∨ j = 17 ∨ j = 18 ∨ j = 19 by omega) with rfl | rfl | rfl | rfl | rfl | rfl | rfl | rfl | rfl | rfl | rfl | rfl | rfl | rfl | rfl | rfl | rfl | rfl | rfl | rfl <;> exact ⟨_, rfl, rfl⟩) ⟨by (try dsimp only); omega, by decide⟩ ?_
  have hK3 : zK K (v + 1) (10, 20) v = (6, 20) := by
    show (if v = v + 1 then _ else K v) = _
    rw [if_neg (by omega)]; exact hK
  refine ar_dup (k := 4) rfl rfl ?_
  refine ar_callI (k := 5) (as := []) rfl liP_11 (c_W_init (v := v + 1) (if_pos rfl)) rfl (by decide) (by decide) ⟨by (try dsimp only); omega, by decide⟩ (Nat.le_of_ble_eq_true rfl) (fun r5 h5 p5 => ?_)
  obtain ⟨rfl, K5, J5, R5, rfl, ⟨ka5_1, ka5_2, ka5_3, ka5_4, ka5_5, ka5_6, ka5_7, ka5_8, ka5_9, ka5_10, ka5_11, ka5_12, rb5_1, rb5_2, rb5_3, rb5_4, rb5_5, rb5_6, rb5_7, rb5_8, rb5_9, rb5_10, rb5_11, rb5_12, jc5_1, jc5_2, jc5_3, jc5_4, jc5_5, jc5_6⟩, gw5⟩ := p5
  have hK5 : K5 v = (6, 20) := (gw5.1 v (by omega)).trans hK3
  refine br_putFR (k := 6) rfl (show tK _ v (6, 20) from ⟨hK5, by (try dsimp only); omega⟩) flP_12_6 (by decide) rfl rfl (fun _ _ _ q => by cases q; exact ⟨rfl, rfl, _, rfl, rfl⟩) ?_
  refine ar_aloadn (k := 7) rfl rfl ?_
  refine ar_aloadn (k := 8) rfl rfl ?_
  refine br_getR (k := 9) rfl (show tK _ v (6, 20) from ⟨hK5, by (try dsimp only); omega⟩) flP_12_6 (by decide) rfl (show _ = some (v + 1) from by simp [uQ, upQ]) ?_
  refine br_putR (k := 10) rfl (show tK _ v (6, 20) from ⟨hK5, by (try dsimp only); omega⟩) flP_18_6 (by decide) rfl (fun _ _ _ q => by cases q; exact ⟨rfl, _, rfl, rfl⟩) ?_
  refine ar_aloadn (k := 11) rfl rfl ?_
  refine ar_bipush (k := 12) rfl (by decide) ?_
  refine br_putIz (k := 13) (z := 2) rfl (show tK _ v (6, 20) from ⟨hK5, by (try dsimp only); omega⟩) flP_23_6 (by decide) rfl (fun _ _ _ q => by cases q; exact ⟨rfl, rfl⟩) rfl ?_
  refine ar_aloadn (k := 14) rfl rfl ?_
  refine ar_bipush (k := 15) rfl (by decide) ?_
  refine ar_bipush (k := 16) rfl (by decide) ?_
  refine br_mna (k := 17) rfl ⟨klP_27, acI⟩ ⟨by (try dsimp only); omega, by decide⟩ (fun K17 J17 R17 ka17 kb17 ra17 f17 z17 => ?_)
  have Z17 := z17
  have hK17 : K17 v = (6, 20) := (f17 v (by omega)).1.trans hK5
  refine br_putFR (k := 18) rfl (show tK _ v (6, 20) from ⟨hK17, by (try dsimp only); omega⟩) flP_29_6 (by decide) rfl rfl (fun _ _ _ q => by cases q; exact ⟨rfl, rfl, _, rfl, rfl⟩) ?_
  refine ar_aloadn (k := 19) rfl rfl ?_
  refine ar_bipush (k := 20) rfl (by decide) ?_
  refine br_newai (k := 21) (N := 8) rfl acI rfl (by decide) ⟨by (try dsimp only); omega, by decide⟩ ?_
  have hK21 : (zK (K17) (v + 1 + 13 + 11) (14, 8)) v = (6, 20) := by
    show (if v = v + 1 + 13 + 11 then _ else _) = _
    rw [if_neg (by omega)]; exact hK17
  refine br_putFR (k := 22) rfl (show tK _ v (6, 20) from ⟨hK21, by (try dsimp only); omega⟩) flP_32_6 (by decide) rfl rfl (fun _ _ _ q => by cases q; exact ⟨rfl, rfl, _, rfl, rfl⟩) ?_
  refine ar_aloadn (k := 23) rfl rfl ?_
  refine ar_bipush (k := 24) rfl (by decide) ?_
  refine br_newai (k := 25) (N := 8) rfl acI rfl (by decide) ⟨by (try dsimp only); omega, by decide⟩ ?_
  have hK25 : (zK (zK (K17) (v + 1 + 13 + 11) (14, 8)) (v + 1 + 13 + 11 + 1) (14, 8)) v = (6, 20) := by
    show (if v = v + 1 + 13 + 11 + 1 then _ else _) = _
    rw [if_neg (by omega)]; exact hK21
  refine br_putFR (k := 26) rfl (show tK _ v (6, 20) from ⟨hK25, by (try dsimp only); omega⟩) flP_36_6 (by decide) rfl rfl (fun _ _ _ q => by cases q; exact ⟨rfl, rfl, _, rfl, rfl⟩) ?_
  refine ar_aloadn (k := 27) rfl rfl ?_
  refine ar_iconst (k := 28) rfl ?_
  refine br_putIz (k := 29) (z := 6) rfl (show tK _ v (6, 20) from ⟨hK25, by (try dsimp only); omega⟩) flP_39_6 (by decide) rfl (fun _ _ _ q => by cases q; exact ⟨rfl, rfl⟩) rfl ?_
  refine ar_aloadn (k := 30) rfl rfl ?_
  refine ar_iconst (k := 31) rfl ?_
  refine br_putIz (k := 32) (z := 7) rfl (show tK _ v (6, 20) from ⟨hK25, by (try dsimp only); omega⟩) flP_42_6 (by decide) rfl (fun _ _ _ q => by cases q; exact ⟨rfl, rfl⟩) rfl ?_
  refine ar_aloadn (k := 33) rfl rfl ?_
  refine ar_iconst (k := 34) rfl ?_
  refine br_newai (k := 35) (N := 5) rfl acI rfl (by decide) ⟨by (try dsimp only); omega, by decide⟩ ?_
  have hK35 : (zK (zK (zK (K17) (v + 1 + 13 + 11) (14, 8)) (v + 1 + 13 + 11 + 1) (14, 8)) (v + 1 + 13 + 11 + 1 + 1) (14, 5)) v = (6, 20) := by
    show (if v = v + 1 + 13 + 11 + 1 + 1 then _ else _) = _
    rw [if_neg (by omega)]; exact hK25
  refine br_putFR (k := 36) rfl (show tK _ v (6, 20) from ⟨hK35, by (try dsimp only); omega⟩) flP_45_6 (by decide) rfl rfl (fun _ _ _ q => by cases q; exact ⟨rfl, rfl, _, rfl, rfl⟩) ?_
  refine ar_aloadn (k := 37) rfl rfl ?_
  refine ar_iconst (k := 38) rfl ?_
  refine br_newai (k := 39) (N := 5) rfl acI rfl (by decide) ⟨by (try dsimp only); omega, by decide⟩ ?_
  have hK39 : (zK (zK (zK (zK (K17) (v + 1 + 13 + 11) (14, 8)) (v + 1 + 13 + 11 + 1) (14, 8)) (v + 1 + 13 + 11 + 1 + 1) (14, 5)) (v + 1 + 13 + 11 + 1 + 1 + 1) (14, 5)) v = (6, 20) := by
    show (if v = v + 1 + 13 + 11 + 1 + 1 + 1 then _ else _) = _
    rw [if_neg (by omega)]; exact hK35
  refine br_putFR (k := 40) rfl (show tK _ v (6, 20) from ⟨hK39, by (try dsimp only); omega⟩) flP_48_6 (by decide) rfl rfl (fun _ _ _ q => by cases q; exact ⟨rfl, rfl, _, rfl, rfl⟩) ?_
  refine ar_aloadn (k := 41) rfl rfl ?_
  refine ar_iconst (k := 42) rfl ?_
  refine br_newai (k := 43) (N := 5) rfl acI rfl (by decide) ⟨by (try dsimp only); omega, by decide⟩ ?_
  have hK43 : (zK (zK (zK (zK (zK (K17) (v + 1 + 13 + 11) (14, 8)) (v + 1 + 13 + 11 + 1) (14, 8)) (v + 1 + 13 + 11 + 1 + 1) (14, 5)) (v + 1 + 13 + 11 + 1 + 1 + 1) (14, 5)) (v + 1 + 13 + 11 + 1 + 1 + 1 + 1) (14, 5)) v = (6, 20) := by
    show (if v = v + 1 + 13 + 11 + 1 + 1 + 1 + 1 then _ else _) = _
    rw [if_neg (by omega)]; exact hK39
  refine br_putFR (k := 44) rfl (show tK _ v (6, 20) from ⟨hK43, by (try dsimp only); omega⟩) flP_51_6 (by decide) rfl rfl (fun _ _ _ q => by cases q; exact ⟨rfl, rfl, _, rfl, rfl⟩) ?_
  refine ar_aloadn (k := 45) rfl rfl ?_
  refine ar_iconst (k := 46) rfl ?_
  refine br_putIz (k := 47) (z := 11) rfl (show tK _ v (6, 20) from ⟨hK43, by (try dsimp only); omega⟩) flP_54_6 (by decide) rfl (fun _ _ _ q => by cases q; exact ⟨rfl, rfl⟩) rfl ?_
  refine ar_aloadn (k := 48) rfl rfl ?_
  refine ar_bipush (k := 49) rfl (by decide) ?_
  refine br_newai (k := 50) (N := 32) rfl acI rfl (by decide) ⟨by (try dsimp only); omega, by decide⟩ ?_
  have hK50 : (zK (zK (zK (zK (zK (zK (K17) (v + 1 + 13 + 11) (14, 8)) (v + 1 + 13 + 11 + 1) (14, 8)) (v + 1 + 13 + 11 + 1 + 1) (14, 5)) (v + 1 + 13 + 11 + 1 + 1 + 1) (14, 5)) (v + 1 + 13 + 11 + 1 + 1 + 1 + 1) (14, 5)) (v + 1 + 13 + 11 + 1 + 1 + 1 + 1 + 1) (14, 32)) v = (6, 20) := by
    show (if v = v + 1 + 13 + 11 + 1 + 1 + 1 + 1 + 1 then _ else _) = _
    rw [if_neg (by omega)]; exact hK43
  refine br_putFR (k := 51) rfl (show tK _ v (6, 20) from ⟨hK50, by (try dsimp only); omega⟩) flP_57_6 (by decide) rfl rfl (fun _ _ _ q => by cases q; exact ⟨rfl, rfl, _, rfl, rfl⟩) ?_
  refine ar_aloadn (k := 52) rfl rfl ?_
  refine ar_bipush (k := 53) rfl (by decide) ?_
  refine br_newai (k := 54) (N := 32) rfl acI rfl (by decide) ⟨by (try dsimp only); omega, by decide⟩ ?_
  have hK54 : (zK (zK (zK (zK (zK (zK (zK (K17) (v + 1 + 13 + 11) (14, 8)) (v + 1 + 13 + 11 + 1) (14, 8)) (v + 1 + 13 + 11 + 1 + 1) (14, 5)) (v + 1 + 13 + 11 + 1 + 1 + 1) (14, 5)) (v + 1 + 13 + 11 + 1 + 1 + 1 + 1) (14, 5)) (v + 1 + 13 + 11 + 1 + 1 + 1 + 1 + 1) (14, 32)) (v + 1 + 13 + 11 + 1 + 1 + 1 + 1 + 1 + 1) (14, 32)) v = (6, 20) := by
    show (if v = v + 1 + 13 + 11 + 1 + 1 + 1 + 1 + 1 + 1 then _ else _) = _
    rw [if_neg (by omega)]; exact hK50
  refine br_putFR (k := 55) rfl (show tK _ v (6, 20) from ⟨hK54, by (try dsimp only); omega⟩) flP_60_6 (by decide) rfl rfl (fun _ _ _ q => by cases q; exact ⟨rfl, rfl, _, rfl, rfl⟩) ?_
  refine ar_aloadn (k := 56) rfl rfl ?_
  refine ar_bipush (k := 57) rfl (by decide) ?_
  refine br_newai (k := 58) (N := 32) rfl acI rfl (by decide) ⟨by (try dsimp only); omega, by decide⟩ ?_
  have hK58 : (zK (zK (zK (zK (zK (zK (zK (zK (K17) (v + 1 + 13 + 11) (14, 8)) (v + 1 + 13 + 11 + 1) (14, 8)) (v + 1 + 13 + 11 + 1 + 1) (14, 5)) (v + 1 + 13 + 11 + 1 + 1 + 1) (14, 5)) (v + 1 + 13 + 11 + 1 + 1 + 1 + 1) (14, 5)) (v + 1 + 13 + 11 + 1 + 1 + 1 + 1 + 1) (14, 32)) (v + 1 + 13 + 11 + 1 + 1 + 1 + 1 + 1 + 1) (14, 32)) (v + 1 + 13 + 11 + 1 + 1 + 1 + 1 + 1 + 1 + 1) (14, 32)) v = (6, 20) := by
    show (if v = v + 1 + 13 + 11 + 1 + 1 + 1 + 1 + 1 + 1 + 1 then _ else _) = _
    rw [if_neg (by omega)]; exact hK54
  refine br_putFR (k := 59) rfl (show tK _ v (6, 20) from ⟨hK58, by (try dsimp only); omega⟩) flP_63_6 (by decide) rfl rfl (fun _ _ _ q => by cases q; exact ⟨rfl, rfl, _, rfl, rfl⟩) ?_
  refine ar_aloadn (k := 60) rfl rfl ?_
  refine ar_bipush (k := 61) rfl (by decide) ?_
  refine br_putIz (k := 62) (z := 15) rfl (show tK _ v (6, 20) from ⟨hK58, by (try dsimp only); omega⟩) flP_66_6 (by decide) rfl (fun _ _ _ q => by cases q; exact ⟨rfl, rfl⟩) rfl ?_
  refine ar_aloadn (k := 63) rfl rfl ?_
  refine ar_bipush (k := 64) rfl (by decide) ?_
  refine br_putIz (k := 65) (z := 16) rfl (show tK _ v (6, 20) from ⟨hK58, by (try dsimp only); omega⟩) flP_69_6 (by decide) rfl (fun _ _ _ q => by cases q; exact ⟨rfl, rfl⟩) rfl ?_
  refine ar_aloadn (k := 66) rfl rfl ?_
  refine ar_iconst (k := 67) rfl ?_
  refine br_putIz (k := 68) (z := 17) rfl (show tK _ v (6, 20) from ⟨hK58, by (try dsimp only); omega⟩) flP_72_6 (by decide) rfl (fun _ _ _ q => by cases q; exact ⟨rfl, rfl⟩) rfl ?_
  refine ar_aloadn (k := 69) rfl rfl ?_
  refine ar_bipush (k := 70) rfl (by decide) ?_
  refine br_newai (k := 71) (N := 6) rfl acI rfl (by decide) ⟨by (try dsimp only); omega, by decide⟩ ?_
  have hK71 : (zK (zK (zK (zK (zK (zK (zK (zK (zK (K17) (v + 1 + 13 + 11) (14, 8)) (v + 1 + 13 + 11 + 1) (14, 8)) (v + 1 + 13 + 11 + 1 + 1) (14, 5)) (v + 1 + 13 + 11 + 1 + 1 + 1) (14, 5)) (v + 1 + 13 + 11 + 1 + 1 + 1 + 1) (14, 5)) (v + 1 + 13 + 11 + 1 + 1 + 1 + 1 + 1) (14, 32)) (v + 1 + 13 + 11 + 1 + 1 + 1 + 1 + 1 + 1) (14, 32)) (v + 1 + 13 + 11 + 1 + 1 + 1 + 1 + 1 + 1 + 1) (14, 32)) (v + 1 + 13 + 11 + 1 + 1 + 1 + 1 + 1 + 1 + 1 + 1) (14, 6)) v = (6, 20) := by
    show (if v = v + 1 + 13 + 11 + 1 + 1 + 1 + 1 + 1 + 1 + 1 + 1 then _ else _) = _
    rw [if_neg (by omega)]; exact hK58
  refine br_putFR (k := 72) rfl (show tK _ v (6, 20) from ⟨hK71, by (try dsimp only); omega⟩) flP_75_6 (by decide) rfl rfl (fun _ _ _ q => by cases q; exact ⟨rfl, rfl, _, rfl, rfl⟩) ?_
  refine ar_aloadn (k := 73) rfl rfl ?_
  refine ar_iconst (k := 74) rfl ?_
  refine br_putIz (k := 75) (z := 19) rfl (show tK _ v (6, 20) from ⟨hK71, by (try dsimp only); omega⟩) flP_78_6 (by decide) rfl (fun _ _ _ q => by cases q; exact ⟨rfl, rfl⟩) rfl ?_
  refine ar_ret (k := 76) rfl rfl rfl (Nat.le_refl _) ?_
  refine ⟨rfl, _, _, _, rfl, ?_⟩
  have z17 : R17 v 0 = some (v + 1) := by rw [(f17 v (by omega)).2.2]; simp [uQ, upQ]
  have r17 : ∀ a, a < v + 1 + 13 → a ≠ v → R17 a = R5 a := fun a ha a0 => by
    rw [(f17 a ha).2.2]
    show (if a = v then _ else (if a = v then _ else R5 a)) = _
    rw [if_neg a0, if_neg a0]
  refine gF_use (K := K17) (I := J17) (Q := R17) (v := v) (m0 := v + 1 + 13 + 11) (m := v + 1 + 13 + 11 + 1 + 1 + 1 + 1 + 1 + 1 + 1 + 1 + 1) (p := (fun K' J R => (K' (v + 1) = (10, 20) ∧ K' (v + 1 + 1) = (13, 100) ∧ K' (v + 1 + 2) = (17, 5) ∧ K' (v + 1 + 3) = (16, 8) ∧ K' (v + 1 + 4) = (14, 8) ∧ K' (v + 1 + 5) = (14, 32) ∧ K' (v + 1 + 6) = (14, 10) ∧ K' (v + 1 + 7) = (14, 10) ∧ K' (v + 1 + 8) = (14, 10) ∧ K' (v + 1 + 9) = (14, 12) ∧ K' (v + 1 + 10) = (14, 12) ∧ K' (v + 1 + 11) = (14, 12) ∧ K' (v + 1 + 12) = (14, 12) ∧ R (v + 1) 0 = some (v + 1 + 1) ∧ R (v + 1) 2 = some (v + 1 + 2) ∧ R (v + 1) 4 = some (v + 1 + 3) ∧ R (v + 1) 6 = some (v + 1 + 4) ∧ R (v + 1) 7 = some (v + 1 + 5) ∧ R (v + 1) 8 = some (v + 1 + 6) ∧ R (v + 1) 9 = some (v + 1 + 7) ∧ R (v + 1) 10 = some (v + 1 + 8) ∧ R (v + 1) 13 = some (v + 1 + 9) ∧ R (v + 1) 14 = some (v + 1 + 10) ∧ R (v + 1) 17 = some (v + 1 + 11) ∧ R (v + 1) 18 = some (v + 1 + 12) ∧ K' (v + 14) = (18, 10) ∧ (∀ j : Nat, 1 ≤ j → j ≤ 10 → K' (v + 14 + j) = (14, 24)) ∧ K' (v + 25) = (14, 8) ∧ K' (v + 26) = (14, 8) ∧ K' (v + 27) = (14, 5) ∧ K' (v + 28) = (14, 5) ∧ K' (v + 29) = (14, 5) ∧ K' (v + 30) = (14, 32) ∧ K' (v + 31) = (14, 32) ∧ K' (v + 32) = (14, 32) ∧ K' (v + 33) = (14, 6) ∧ R v 0 = some (v + 1) ∧ R v 3 = some (v + 14) ∧ R v 4 = some (v + 25) ∧ R v 5 = some (v + 26) ∧ R v 8 = some (v + 27) ∧ R v 9 = some (v + 28) ∧ R v 10 = some (v + 29) ∧ R v 12 = some (v + 30) ∧ R v 13 = some (v + 31) ∧ R v 14 = some (v + 32) ∧ R v 18 = some (v + 33)) ∧ (∀ j : Int, 0 ≤ j → j < 10 → R (v + 14) j = some (v + 15 + j.toNat)) ∧ (∀ a, a ≤ v → K' a = K a) ∧ (∀ a, a < v → J a = I a ∧ R a = Q a) ∧ (∀ a, v + 14 ≤ a → a < v + 34 → J a = fun _ => 0))) ?_ (fun g => ?_)
  · repeat' (first | exact gF.rf | refine gF.pi ?_ (by omega) | refine gF.pr ?_ | refine gF.nw ?_ (by omega))
  refine ⟨⟨?_, ?_, ?_, ?_, ?_, ?_, ?_, ?_, ?_, ?_, ?_, ?_, ?_, ?_, ?_, ?_, ?_, ?_, ?_, ?_, ?_, ?_, ?_, ?_, ?_, ?_, ?_, ?_, ?_, ?_, ?_, ?_, ?_, ?_, ?_, ?_, ?_, ?_, ?_, ?_, ?_, ?_, ?_, ?_, ?_, ?_, ?_⟩, fun j j1 j2 => ?_, fun a ha => ?_, fun a ha => ⟨?_, ?_⟩, fun a a1 a2 => ?_⟩
  · rw [g.1 _ (by omega), (f17 _ (by omega)).1, gw5.1 _ (by omega)]; exact if_pos rfl
  · rw [g.1 _ (by omega), (f17 _ (by omega)).1]; exact ka5_1
  · rw [g.1 _ (by omega), (f17 _ (by omega)).1]; exact ka5_2
  · rw [g.1 _ (by omega), (f17 _ (by omega)).1]; exact ka5_3
  · rw [g.1 _ (by omega), (f17 _ (by omega)).1]; exact ka5_4
  · rw [g.1 _ (by omega), (f17 _ (by omega)).1]; exact ka5_5
  · rw [g.1 _ (by omega), (f17 _ (by omega)).1]; exact ka5_6
  · rw [g.1 _ (by omega), (f17 _ (by omega)).1]; exact ka5_7
  · rw [g.1 _ (by omega), (f17 _ (by omega)).1]; exact ka5_8
  · rw [g.1 _ (by omega), (f17 _ (by omega)).1]; exact ka5_9
  · rw [g.1 _ (by omega), (f17 _ (by omega)).1]; exact ka5_10
  · rw [g.1 _ (by omega), (f17 _ (by omega)).1]; exact ka5_11
  · rw [g.1 _ (by omega), (f17 _ (by omega)).1]; exact ka5_12
  · rw [g.2.2.1 _ (by omega) (by omega), r17 _ (by omega) (by omega)]; exact rb5_1
  · rw [g.2.2.1 _ (by omega) (by omega), r17 _ (by omega) (by omega)]; exact rb5_2
  · rw [g.2.2.1 _ (by omega) (by omega), r17 _ (by omega) (by omega)]; exact rb5_3
  · rw [g.2.2.1 _ (by omega) (by omega), r17 _ (by omega) (by omega)]; exact rb5_4
  · rw [g.2.2.1 _ (by omega) (by omega), r17 _ (by omega) (by omega)]; exact rb5_5
  · rw [g.2.2.1 _ (by omega) (by omega), r17 _ (by omega) (by omega)]; exact rb5_6
  · rw [g.2.2.1 _ (by omega) (by omega), r17 _ (by omega) (by omega)]; exact rb5_7
  · rw [g.2.2.1 _ (by omega) (by omega), r17 _ (by omega) (by omega)]; exact rb5_8
  · rw [g.2.2.1 _ (by omega) (by omega), r17 _ (by omega) (by omega)]; exact rb5_9
  · rw [g.2.2.1 _ (by omega) (by omega), r17 _ (by omega) (by omega)]; exact rb5_10
  · rw [g.2.2.1 _ (by omega) (by omega), r17 _ (by omega) (by omega)]; exact rb5_11
  · rw [g.2.2.1 _ (by omega) (by omega), r17 _ (by omega) (by omega)]; exact rb5_12
  · rw [g.1 _ (by omega)]; exact ka17
  · intro j j1 j2
    rw [g.1 _ (by omega)]; exact kb17 j j1 j2
  · simp [zK]
  · simp [zK]
  · simp [zK]
  · simp [zK]
  · simp [zK]
  · simp [zK]
  · simp [zK]
  · simp [zK]
  · simp [zK]
  · simp [uQ, zQ, upQ, show ¬ v = v + 1 + 13 + 11 by omega, show ¬ v = v + 1 + 13 + 11 + 1 by omega, show ¬ v = v + 1 + 13 + 11 + 1 + 1 by omega, show ¬ v = v + 1 + 13 + 11 + 1 + 1 + 1 by omega, show ¬ v = v + 1 + 13 + 11 + 1 + 1 + 1 + 1 by omega, show ¬ v = v + 1 + 13 + 11 + 1 + 1 + 1 + 1 + 1 by omega, show ¬ v = v + 1 + 13 + 11 + 1 + 1 + 1 + 1 + 1 + 1 by omega, show ¬ v = v + 1 + 13 + 11 + 1 + 1 + 1 + 1 + 1 + 1 + 1 by omega, show ¬ v = v + 1 + 13 + 11 + 1 + 1 + 1 + 1 + 1 + 1 + 1 + 1 by omega, z17]
  · simp [uQ, zQ, upQ, show ¬ v = v + 1 + 13 + 11 by omega, show ¬ v = v + 1 + 13 + 11 + 1 by omega, show ¬ v = v + 1 + 13 + 11 + 1 + 1 by omega, show ¬ v = v + 1 + 13 + 11 + 1 + 1 + 1 by omega, show ¬ v = v + 1 + 13 + 11 + 1 + 1 + 1 + 1 by omega, show ¬ v = v + 1 + 13 + 11 + 1 + 1 + 1 + 1 + 1 by omega, show ¬ v = v + 1 + 13 + 11 + 1 + 1 + 1 + 1 + 1 + 1 by omega, show ¬ v = v + 1 + 13 + 11 + 1 + 1 + 1 + 1 + 1 + 1 + 1 by omega, show ¬ v = v + 1 + 13 + 11 + 1 + 1 + 1 + 1 + 1 + 1 + 1 + 1 by omega]
  · simp [uQ, zQ, upQ, show ¬ v = v + 1 + 13 + 11 by omega, show ¬ v = v + 1 + 13 + 11 + 1 by omega, show ¬ v = v + 1 + 13 + 11 + 1 + 1 by omega, show ¬ v = v + 1 + 13 + 11 + 1 + 1 + 1 by omega, show ¬ v = v + 1 + 13 + 11 + 1 + 1 + 1 + 1 by omega, show ¬ v = v + 1 + 13 + 11 + 1 + 1 + 1 + 1 + 1 by omega, show ¬ v = v + 1 + 13 + 11 + 1 + 1 + 1 + 1 + 1 + 1 by omega, show ¬ v = v + 1 + 13 + 11 + 1 + 1 + 1 + 1 + 1 + 1 + 1 by omega, show ¬ v = v + 1 + 13 + 11 + 1 + 1 + 1 + 1 + 1 + 1 + 1 + 1 by omega]
  · simp [uQ, zQ, upQ, show ¬ v = v + 1 + 13 + 11 by omega, show ¬ v = v + 1 + 13 + 11 + 1 by omega, show ¬ v = v + 1 + 13 + 11 + 1 + 1 by omega, show ¬ v = v + 1 + 13 + 11 + 1 + 1 + 1 by omega, show ¬ v = v + 1 + 13 + 11 + 1 + 1 + 1 + 1 by omega, show ¬ v = v + 1 + 13 + 11 + 1 + 1 + 1 + 1 + 1 by omega, show ¬ v = v + 1 + 13 + 11 + 1 + 1 + 1 + 1 + 1 + 1 by omega, show ¬ v = v + 1 + 13 + 11 + 1 + 1 + 1 + 1 + 1 + 1 + 1 by omega, show ¬ v = v + 1 + 13 + 11 + 1 + 1 + 1 + 1 + 1 + 1 + 1 + 1 by omega]
  · simp [uQ, zQ, upQ, show ¬ v = v + 1 + 13 + 11 by omega, show ¬ v = v + 1 + 13 + 11 + 1 by omega, show ¬ v = v + 1 + 13 + 11 + 1 + 1 by omega, show ¬ v = v + 1 + 13 + 11 + 1 + 1 + 1 by omega, show ¬ v = v + 1 + 13 + 11 + 1 + 1 + 1 + 1 by omega, show ¬ v = v + 1 + 13 + 11 + 1 + 1 + 1 + 1 + 1 by omega, show ¬ v = v + 1 + 13 + 11 + 1 + 1 + 1 + 1 + 1 + 1 by omega, show ¬ v = v + 1 + 13 + 11 + 1 + 1 + 1 + 1 + 1 + 1 + 1 by omega, show ¬ v = v + 1 + 13 + 11 + 1 + 1 + 1 + 1 + 1 + 1 + 1 + 1 by omega]
  · simp [uQ, zQ, upQ, show ¬ v = v + 1 + 13 + 11 by omega, show ¬ v = v + 1 + 13 + 11 + 1 by omega, show ¬ v = v + 1 + 13 + 11 + 1 + 1 by omega, show ¬ v = v + 1 + 13 + 11 + 1 + 1 + 1 by omega, show ¬ v = v + 1 + 13 + 11 + 1 + 1 + 1 + 1 by omega, show ¬ v = v + 1 + 13 + 11 + 1 + 1 + 1 + 1 + 1 by omega, show ¬ v = v + 1 + 13 + 11 + 1 + 1 + 1 + 1 + 1 + 1 by omega, show ¬ v = v + 1 + 13 + 11 + 1 + 1 + 1 + 1 + 1 + 1 + 1 by omega, show ¬ v = v + 1 + 13 + 11 + 1 + 1 + 1 + 1 + 1 + 1 + 1 + 1 by omega]
  · simp [uQ, zQ, upQ, show ¬ v = v + 1 + 13 + 11 by omega, show ¬ v = v + 1 + 13 + 11 + 1 by omega, show ¬ v = v + 1 + 13 + 11 + 1 + 1 by omega, show ¬ v = v + 1 + 13 + 11 + 1 + 1 + 1 by omega, show ¬ v = v + 1 + 13 + 11 + 1 + 1 + 1 + 1 by omega, show ¬ v = v + 1 + 13 + 11 + 1 + 1 + 1 + 1 + 1 by omega, show ¬ v = v + 1 + 13 + 11 + 1 + 1 + 1 + 1 + 1 + 1 by omega, show ¬ v = v + 1 + 13 + 11 + 1 + 1 + 1 + 1 + 1 + 1 + 1 by omega, show ¬ v = v + 1 + 13 + 11 + 1 + 1 + 1 + 1 + 1 + 1 + 1 + 1 by omega]
  · simp [uQ, zQ, upQ, show ¬ v = v + 1 + 13 + 11 by omega, show ¬ v = v + 1 + 13 + 11 + 1 by omega, show ¬ v = v + 1 + 13 + 11 + 1 + 1 by omega, show ¬ v = v + 1 + 13 + 11 + 1 + 1 + 1 by omega, show ¬ v = v + 1 + 13 + 11 + 1 + 1 + 1 + 1 by omega, show ¬ v = v + 1 + 13 + 11 + 1 + 1 + 1 + 1 + 1 by omega, show ¬ v = v + 1 + 13 + 11 + 1 + 1 + 1 + 1 + 1 + 1 by omega, show ¬ v = v + 1 + 13 + 11 + 1 + 1 + 1 + 1 + 1 + 1 + 1 by omega, show ¬ v = v + 1 + 13 + 11 + 1 + 1 + 1 + 1 + 1 + 1 + 1 + 1 by omega]
  · simp [uQ, zQ, upQ, show ¬ v = v + 1 + 13 + 11 by omega, show ¬ v = v + 1 + 13 + 11 + 1 by omega, show ¬ v = v + 1 + 13 + 11 + 1 + 1 by omega, show ¬ v = v + 1 + 13 + 11 + 1 + 1 + 1 by omega, show ¬ v = v + 1 + 13 + 11 + 1 + 1 + 1 + 1 by omega, show ¬ v = v + 1 + 13 + 11 + 1 + 1 + 1 + 1 + 1 by omega, show ¬ v = v + 1 + 13 + 11 + 1 + 1 + 1 + 1 + 1 + 1 by omega, show ¬ v = v + 1 + 13 + 11 + 1 + 1 + 1 + 1 + 1 + 1 + 1 by omega, show ¬ v = v + 1 + 13 + 11 + 1 + 1 + 1 + 1 + 1 + 1 + 1 + 1 by omega]
  · simp [uQ, zQ, upQ, show ¬ v = v + 1 + 13 + 11 by omega, show ¬ v = v + 1 + 13 + 11 + 1 by omega, show ¬ v = v + 1 + 13 + 11 + 1 + 1 by omega, show ¬ v = v + 1 + 13 + 11 + 1 + 1 + 1 by omega, show ¬ v = v + 1 + 13 + 11 + 1 + 1 + 1 + 1 by omega, show ¬ v = v + 1 + 13 + 11 + 1 + 1 + 1 + 1 + 1 by omega, show ¬ v = v + 1 + 13 + 11 + 1 + 1 + 1 + 1 + 1 + 1 by omega, show ¬ v = v + 1 + 13 + 11 + 1 + 1 + 1 + 1 + 1 + 1 + 1 by omega, show ¬ v = v + 1 + 13 + 11 + 1 + 1 + 1 + 1 + 1 + 1 + 1 + 1 by omega]
  · simp [uQ, zQ, upQ, show ¬ v = v + 1 + 13 + 11 by omega, show ¬ v = v + 1 + 13 + 11 + 1 by omega, show ¬ v = v + 1 + 13 + 11 + 1 + 1 by omega, show ¬ v = v + 1 + 13 + 11 + 1 + 1 + 1 by omega, show ¬ v = v + 1 + 13 + 11 + 1 + 1 + 1 + 1 by omega, show ¬ v = v + 1 + 13 + 11 + 1 + 1 + 1 + 1 + 1 by omega, show ¬ v = v + 1 + 13 + 11 + 1 + 1 + 1 + 1 + 1 + 1 by omega, show ¬ v = v + 1 + 13 + 11 + 1 + 1 + 1 + 1 + 1 + 1 + 1 by omega, show ¬ v = v + 1 + 13 + 11 + 1 + 1 + 1 + 1 + 1 + 1 + 1 + 1 by omega]
  · rw [g.2.2.1 _ (by omega) (by omega)]
    exact ra17 j j1 j2
  · rw [g.1 _ (by omega), (f17 a (by omega)).1, gw5.1 a (by omega)]
    show (if a = v + 1 then _ else K a) = _
    rw [if_neg (by omega)]
  · rw [g.2.1 _ (by omega) (by omega), (f17 a (by omega)).2.1, uI_off _ _ _ (by omega), gw5.2.1 a (by omega)]
    show (if a = v + 1 then _ else I a) = _
    rw [if_neg (by omega)]
  · rw [g.2.2.1 _ (by omega) (by omega), r17 a (by omega) (by omega), gw5.2.2.1 a (by omega)]
    show (if a = v + 1 then _ else Q a) = _
    rw [if_neg (by omega)]
  · by_cases h : a < v + 1 + 13 + 11
    · rw [g.2.1 _ h (by omega)]; exact Z17 a (by omega) h
    · exact g.2.2.2 a (by omega) (by omega)
end CX2
