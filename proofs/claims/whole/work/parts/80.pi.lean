def gF (K : Nat → Nat × Nat) (I : Nat → Int → Int) (Q : Nat → Int → Option Nat) (v m0 m : Nat) (K' : Nat → Nat × Nat) (J : Nat → Int → Int) (R : Nat → Int → Option Nat) : Prop := (∀ a, a < m0 → K' a = K a) ∧ (∀ a, a < m0 → a ≠ v → J a = I a) ∧ (∀ a, a < m0 → a ≠ v → R a = Q a) ∧ (∀ a, m0 ≤ a → a < m → J a = fun _ => 0)
section GF
variable {K K' : Nat → Nat × Nat} {I J : Nat → Int → Int} {Q R : Nat → Int → Option Nat} {v m0 m : Nat}
theorem gF.rf : gF K I Q v m0 m0 K I Q := ⟨fun _ _ => rfl, fun _ _ _ => rfl, fun _ _ _ => rfl, fun a a1 a2 => by exfalso; omega⟩
theorem gF.pi {k x : Int} (h : gF K I Q v m0 m K' J R) (hv : v < m0) : gF K I Q v m0 m K' (uI J v k x) R := ⟨h.1, fun a a1 a2 => by rw [uI_off _ _ _ a2]; exact h.2.1 a a1 a2, h.2.2.1, fun a a1 a2 => by rw [uI_off _ _ _ (by omega)]; exact h.2.2.2 a a1 a2⟩
theorem gF.pr {k : Int} {x : Option Nat} (h : gF K I Q v m0 m K' J R) : gF K I Q v m0 m K' J (uQ R v k x) := ⟨h.1, h.2.1, fun a a1 a2 => by show (if a = v then _ else R a) = _; rw [if_neg a2]; exact h.2.2.1 a a1 a2, h.2.2.2⟩
theorem gF.nw {q : Nat × Nat} (h : gF K I Q v m0 m K' J R) (hm : m0 ≤ m) : gF K I Q v m0 (m + 1) (zK K' m q) (zI J m) (zQ R m) := by
  refine ⟨fun a a1 => by show (if a = m then _ else K' a) = _; rw [if_neg (by omega)]; exact h.1 a a1, fun a a1 a2 => by show (if a = m then _ else J a) = _; rw [if_neg (by omega)]; exact h.2.1 a a1 a2, fun a a1 a2 => by show (if a = m then _ else R a) = _; rw [if_neg (by omega)]; exact h.2.2.1 a a1 a2, fun a a1 a2 => ?_⟩
  show (if a = m then _ else J a) = _
  by_cases g : a = m
  · rw [if_pos g]
  · rw [if_neg g]; exact h.2.2.2 a a1 (by omega)
end GF
section CX1
variable {l : Launch} {G : tG} {M : tM} {d mc ms n0 c2 : Nat} {P : Option tV → tH → Prop} {ls : List (Nat × tV)} {st : List tV} {k pc nx tg : Nat} {K : Nat → Nat × Nat} {I : Nat → Int → Int} {Q : Nat → Int → Option Nat} {n : Nat}
theorem br_mna {i : Nat} (hd : M.2.2.2.2[k]? = some (pc, .multianewarray i 2, nx, tg)) (hw : Cond.classLink M.1.cls i "[[I" ∈ tw_tbl ∧ Cond.arrayClass .int ∈ tw_tbl) (hm : n - n0 + 11 ≤ mc ∧ c2 + 250 ≤ ms) (kk : ∀ (K' : Nat → Nat × Nat) (J : Nat → Int → Int) (R : Nat → Int → Option Nat), K' n = (18, 10) → (∀ j : Nat, 1 ≤ j → j ≤ 10 → K' (n + j) = (14, 24)) → (∀ j : Int, 0 ≤ j → j < 10 → R n j = some (n + 1 + j.toNat)) → (∀ a, a < n → K' a = K a ∧ J a = I a ∧ R a = Q a) → (∀ a, n ≤ a → a < n + 11 → J a = fun _ => 0) → tw_AW l G M d mc ms n0 (c2 + 250) P nx ls (vr (some n) :: st) (K', J, R, n + 11)) : tw_AW l G M d mc ms n0 c2 P pc ls (vi 24 :: vi 10 :: st) (K, I, Q, n) := by
  refine ar_mna hd hw hm (kk _ _ _ ?_ (fun j j1 j2 => ?_) (fun j j1 j2 => ?_) (fun a ha => ⟨?_, ?_, ?_⟩) (fun a a1 a2 => ?_))
  · show (if n = n then _ else _) = _
    rw [if_pos rfl]
  · show (if n + j = n then _ else if n < n + j ∧ n + j < n + 11 then _ else _) = _
    rw [if_neg (by omega), if_pos (by omega)]
  · show (if n = n then (fun j : Int => if 0 ≤ j ∧ j < 10 then some (n + 1 + j.toNat) else none) else _) j = _
    rw [if_pos rfl]
    show (if 0 ≤ j ∧ j < 10 then some (n + 1 + j.toNat) else none) = _
    rw [if_pos ⟨j1, j2⟩]
  · show (if a = n then _ else if n < a ∧ a < n + 11 then _ else K a) = _
    rw [if_neg (by omega), if_neg (by omega)]
  · show (if n ≤ a ∧ a < n + 11 then _ else I a) = _
    rw [if_neg (by omega)]
  · show (if a = n then _ else if n < a ∧ a < n + 11 then _ else Q a) = _
    rw [if_neg (by omega), if_neg (by omega)]
  · show (if n ≤ a ∧ a < n + 11 then _ else I a) = _
    rw [if_pos ⟨a1, a2⟩]
end CX1
section CX2
variable {l : Launch} {G : tG} {K : Nat → Nat × Nat} {I : Nat → Int → Int} {Q : Nat → Int → Option Nat} {n : Nat} {s : Int → Int} {v : Nat}
theorem gF_use {K K' : Nat → Nat × Nat} {I J : Nat → Int → Int} {Q R : Nat → Int → Option Nat} {v m0 m : Nat} {p : (Nat → Nat × Nat) → (Nat → Int → Int) → (Nat → Int → Option Nat) → Prop} (g : gF K I Q v m0 m K' J R) (h : gF K I Q v m0 m K' J R → p K' J R) : p K' J R := h g
theorem c_P_init (hK : K v = (6, 19)) : tw_M l G 2 20 383 mP_init [vr (some v), vr (some 1)] (K, I, Q, v + 1) (fun r h' => r = none ∧ ∃ K' J R, h' = (K', J, R, v + 21) ∧ (K' (v + 1) = (18, 10) ∧ (∀ j : Nat, 1 ≤ j → j ≤ 10 → K' (v + 1 + j) = (14, 24)) ∧ K' (v + 12) = (14, 8) ∧ K' (v + 13) = (14, 8) ∧ K' (v + 14) = (14, 5) ∧ K' (v + 15) = (14, 5) ∧ K' (v + 16) = (14, 5) ∧ K' (v + 17) = (14, 32) ∧ K' (v + 18) = (14, 32) ∧ K' (v + 19) = (14, 32) ∧ K' (v + 20) = (14, 6) ∧ R v 2 = some (v + 1) ∧ R v 3 = some (v + 12) ∧ R v 4 = some (v + 13) ∧ R v 7 = some (v + 14) ∧ R v 8 = some (v + 15) ∧ R v 9 = some (v + 16) ∧ R v 11 = some (v + 17) ∧ R v 12 = some (v + 18) ∧ R v 13 = some (v + 19) ∧ R v 17 = some (v + 20) ∧ R v 0 = some 1) ∧ (∀ j : Int, 0 ≤ j → j < 10 → R (v + 1) j = some (v + 2 + j.toNat)) ∧ (∀ a, a ≤ v → K' a = K a) ∧ (∀ a, a < v → J a = I a ∧ R a = Q a) ∧ (∀ a, v < a → a < v + 21 → J a = fun _ => 0)) := by
  refine tw_intro okP_init (Nat.le_of_ble_eq_true rfl) ?_
  refine ar_aloadn (k := 0) rfl rfl ?_
  refine ar_obj (k := 1) rfl lbP_3 (by decide) (Nat.le_of_ble_eq_true rfl) ?_
  refine ar_aloadn (k := 2) rfl rfl ?_
  refine ar_bipush (k := 3) rfl (by decide) ?_
  refine br_putIz (k := 4) (z := 1) rfl (show tK _ v (6, 19) from ⟨hK, by (try dsimp only); omega⟩) flP_11_6 (by decide) rfl (fun _ _ _ q => by cases q; exact ⟨rfl, rfl⟩) rfl ?_
  refine ar_aloadn (k := 5) rfl rfl ?_
  refine ar_bipush (k := 6) rfl (by decide) ?_
  refine ar_bipush (k := 7) rfl (by decide) ?_
  refine br_mna (k := 8) rfl ⟨klP_17, acI⟩ ⟨by (try dsimp only); omega, by decide⟩ (fun K8 J8 R8 ka8 kb8 ra8 f8 z8 => ?_)
  have hK8 : K8 v = (6, 19) := (f8 v (by omega)).1.trans hK
  refine br_putFR (k := 9) rfl (show tK _ v (6, 19) from ⟨hK8, by (try dsimp only); omega⟩) flP_19_6 (by decide) rfl rfl (fun _ _ _ q => by cases q; exact ⟨rfl, rfl, _, rfl, rfl⟩) ?_
  refine ar_aloadn (k := 10) rfl rfl ?_
  refine ar_bipush (k := 11) rfl (by decide) ?_
  refine br_newai (k := 12) (N := 8) rfl acI rfl (by decide) ⟨by (try dsimp only); omega, by decide⟩ ?_
  have hK12 : (zK (K8) (v + 1 + 11) (14, 8)) v = (6, 19) := by
    show (if v = v + 1 + 11 then _ else _) = _
    rw [if_neg (by omega)]; exact hK8
  refine br_putFR (k := 13) rfl (show tK _ v (6, 19) from ⟨hK12, by (try dsimp only); omega⟩) flP_22_6 (by decide) rfl rfl (fun _ _ _ q => by cases q; exact ⟨rfl, rfl, _, rfl, rfl⟩) ?_
  refine ar_aloadn (k := 14) rfl rfl ?_
  refine ar_bipush (k := 15) rfl (by decide) ?_
  refine br_newai (k := 16) (N := 8) rfl acI rfl (by decide) ⟨by (try dsimp only); omega, by decide⟩ ?_
  have hK16 : (zK (zK (K8) (v + 1 + 11) (14, 8)) (v + 1 + 11 + 1) (14, 8)) v = (6, 19) := by
    show (if v = v + 1 + 11 + 1 then _ else _) = _
    rw [if_neg (by omega)]; exact hK12
  refine br_putFR (k := 17) rfl (show tK _ v (6, 19) from ⟨hK16, by (try dsimp only); omega⟩) flP_26_6 (by decide) rfl rfl (fun _ _ _ q => by cases q; exact ⟨rfl, rfl, _, rfl, rfl⟩) ?_
  refine ar_aloadn (k := 18) rfl rfl ?_
  refine ar_iconst (k := 19) rfl ?_
  refine br_putIz (k := 20) (z := 5) rfl (show tK _ v (6, 19) from ⟨hK16, by (try dsimp only); omega⟩) flP_29_6 (by decide) rfl (fun _ _ _ q => by cases q; exact ⟨rfl, rfl⟩) rfl ?_
  refine ar_aloadn (k := 21) rfl rfl ?_
  refine ar_iconst (k := 22) rfl ?_
  refine br_putIz (k := 23) (z := 6) rfl (show tK _ v (6, 19) from ⟨hK16, by (try dsimp only); omega⟩) flP_32_6 (by decide) rfl (fun _ _ _ q => by cases q; exact ⟨rfl, rfl⟩) rfl ?_
  refine ar_aloadn (k := 24) rfl rfl ?_
  refine ar_iconst (k := 25) rfl ?_
  refine br_newai (k := 26) (N := 5) rfl acI rfl (by decide) ⟨by (try dsimp only); omega, by decide⟩ ?_
  have hK26 : (zK (zK (zK (K8) (v + 1 + 11) (14, 8)) (v + 1 + 11 + 1) (14, 8)) (v + 1 + 11 + 1 + 1) (14, 5)) v = (6, 19) := by
    show (if v = v + 1 + 11 + 1 + 1 then _ else _) = _
    rw [if_neg (by omega)]; exact hK16
  refine br_putFR (k := 27) rfl (show tK _ v (6, 19) from ⟨hK26, by (try dsimp only); omega⟩) flP_35_6 (by decide) rfl rfl (fun _ _ _ q => by cases q; exact ⟨rfl, rfl, _, rfl, rfl⟩) ?_
  refine ar_aloadn (k := 28) rfl rfl ?_
  refine ar_iconst (k := 29) rfl ?_
  refine br_newai (k := 30) (N := 5) rfl acI rfl (by decide) ⟨by (try dsimp only); omega, by decide⟩ ?_
  have hK30 : (zK (zK (zK (zK (K8) (v + 1 + 11) (14, 8)) (v + 1 + 11 + 1) (14, 8)) (v + 1 + 11 + 1 + 1) (14, 5)) (v + 1 + 11 + 1 + 1 + 1) (14, 5)) v = (6, 19) := by
    show (if v = v + 1 + 11 + 1 + 1 + 1 then _ else _) = _
    rw [if_neg (by omega)]; exact hK26
  refine br_putFR (k := 31) rfl (show tK _ v (6, 19) from ⟨hK30, by (try dsimp only); omega⟩) flP_38_6 (by decide) rfl rfl (fun _ _ _ q => by cases q; exact ⟨rfl, rfl, _, rfl, rfl⟩) ?_
  refine ar_aloadn (k := 32) rfl rfl ?_
  refine ar_iconst (k := 33) rfl ?_
  refine br_newai (k := 34) (N := 5) rfl acI rfl (by decide) ⟨by (try dsimp only); omega, by decide⟩ ?_
  have hK34 : (zK (zK (zK (zK (zK (K8) (v + 1 + 11) (14, 8)) (v + 1 + 11 + 1) (14, 8)) (v + 1 + 11 + 1 + 1) (14, 5)) (v + 1 + 11 + 1 + 1 + 1) (14, 5)) (v + 1 + 11 + 1 + 1 + 1 + 1) (14, 5)) v = (6, 19) := by
    show (if v = v + 1 + 11 + 1 + 1 + 1 + 1 then _ else _) = _
    rw [if_neg (by omega)]; exact hK30
  refine br_putFR (k := 35) rfl (show tK _ v (6, 19) from ⟨hK34, by (try dsimp only); omega⟩) flP_41_6 (by decide) rfl rfl (fun _ _ _ q => by cases q; exact ⟨rfl, rfl, _, rfl, rfl⟩) ?_
  refine ar_aloadn (k := 36) rfl rfl ?_
  refine ar_iconst (k := 37) rfl ?_
  refine br_putIz (k := 38) (z := 10) rfl (show tK _ v (6, 19) from ⟨hK34, by (try dsimp only); omega⟩) flP_44_6 (by decide) rfl (fun _ _ _ q => by cases q; exact ⟨rfl, rfl⟩) rfl ?_
  refine ar_aloadn (k := 39) rfl rfl ?_
  refine ar_bipush (k := 40) rfl (by decide) ?_
  refine br_newai (k := 41) (N := 32) rfl acI rfl (by decide) ⟨by (try dsimp only); omega, by decide⟩ ?_
  have hK41 : (zK (zK (zK (zK (zK (zK (K8) (v + 1 + 11) (14, 8)) (v + 1 + 11 + 1) (14, 8)) (v + 1 + 11 + 1 + 1) (14, 5)) (v + 1 + 11 + 1 + 1 + 1) (14, 5)) (v + 1 + 11 + 1 + 1 + 1 + 1) (14, 5)) (v + 1 + 11 + 1 + 1 + 1 + 1 + 1) (14, 32)) v = (6, 19) := by
    show (if v = v + 1 + 11 + 1 + 1 + 1 + 1 + 1 then _ else _) = _
    rw [if_neg (by omega)]; exact hK34
  refine br_putFR (k := 42) rfl (show tK _ v (6, 19) from ⟨hK41, by (try dsimp only); omega⟩) flP_47_6 (by decide) rfl rfl (fun _ _ _ q => by cases q; exact ⟨rfl, rfl, _, rfl, rfl⟩) ?_
  refine ar_aloadn (k := 43) rfl rfl ?_
  refine ar_bipush (k := 44) rfl (by decide) ?_
  refine br_newai (k := 45) (N := 32) rfl acI rfl (by decide) ⟨by (try dsimp only); omega, by decide⟩ ?_
  have hK45 : (zK (zK (zK (zK (zK (zK (zK (K8) (v + 1 + 11) (14, 8)) (v + 1 + 11 + 1) (14, 8)) (v + 1 + 11 + 1 + 1) (14, 5)) (v + 1 + 11 + 1 + 1 + 1) (14, 5)) (v + 1 + 11 + 1 + 1 + 1 + 1) (14, 5)) (v + 1 + 11 + 1 + 1 + 1 + 1 + 1) (14, 32)) (v + 1 + 11 + 1 + 1 + 1 + 1 + 1 + 1) (14, 32)) v = (6, 19) := by
    show (if v = v + 1 + 11 + 1 + 1 + 1 + 1 + 1 + 1 then _ else _) = _
    rw [if_neg (by omega)]; exact hK41
  refine br_putFR (k := 46) rfl (show tK _ v (6, 19) from ⟨hK45, by (try dsimp only); omega⟩) flP_50_6 (by decide) rfl rfl (fun _ _ _ q => by cases q; exact ⟨rfl, rfl, _, rfl, rfl⟩) ?_
  refine ar_aloadn (k := 47) rfl rfl ?_
  refine ar_bipush (k := 48) rfl (by decide) ?_
  refine br_newai (k := 49) (N := 32) rfl acI rfl (by decide) ⟨by (try dsimp only); omega, by decide⟩ ?_
  have hK49 : (zK (zK (zK (zK (zK (zK (zK (zK (K8) (v + 1 + 11) (14, 8)) (v + 1 + 11 + 1) (14, 8)) (v + 1 + 11 + 1 + 1) (14, 5)) (v + 1 + 11 + 1 + 1 + 1) (14, 5)) (v + 1 + 11 + 1 + 1 + 1 + 1) (14, 5)) (v + 1 + 11 + 1 + 1 + 1 + 1 + 1) (14, 32)) (v + 1 + 11 + 1 + 1 + 1 + 1 + 1 + 1) (14, 32)) (v + 1 + 11 + 1 + 1 + 1 + 1 + 1 + 1 + 1) (14, 32)) v = (6, 19) := by
    show (if v = v + 1 + 11 + 1 + 1 + 1 + 1 + 1 + 1 + 1 then _ else _) = _
    rw [if_neg (by omega)]; exact hK45
  refine br_putFR (k := 50) rfl (show tK _ v (6, 19) from ⟨hK49, by (try dsimp only); omega⟩) flP_53_6 (by decide) rfl rfl (fun _ _ _ q => by cases q; exact ⟨rfl, rfl, _, rfl, rfl⟩) ?_
  refine ar_aloadn (k := 51) rfl rfl ?_
  refine ar_bipush (k := 52) rfl (by decide) ?_
  refine br_putIz (k := 53) (z := 14) rfl (show tK _ v (6, 19) from ⟨hK49, by (try dsimp only); omega⟩) flP_56_6 (by decide) rfl (fun _ _ _ q => by cases q; exact ⟨rfl, rfl⟩) rfl ?_
  refine ar_aloadn (k := 54) rfl rfl ?_
  refine ar_bipush (k := 55) rfl (by decide) ?_
  refine br_putIz (k := 56) (z := 15) rfl (show tK _ v (6, 19) from ⟨hK49, by (try dsimp only); omega⟩) flP_59_6 (by decide) rfl (fun _ _ _ q => by cases q; exact ⟨rfl, rfl⟩) rfl ?_
  refine ar_aloadn (k := 57) rfl rfl ?_
  refine ar_iconst (k := 58) rfl ?_
  refine br_putIz (k := 59) (z := 16) rfl (show tK _ v (6, 19) from ⟨hK49, by (try dsimp only); omega⟩) flP_62_6 (by decide) rfl (fun _ _ _ q => by cases q; exact ⟨rfl, rfl⟩) rfl ?_
  refine ar_aloadn (k := 60) rfl rfl ?_
  refine ar_bipush (k := 61) rfl (by decide) ?_
  refine br_newai (k := 62) (N := 6) rfl acI rfl (by decide) ⟨by (try dsimp only); omega, by decide⟩ ?_
  have hK62 : (zK (zK (zK (zK (zK (zK (zK (zK (zK (K8) (v + 1 + 11) (14, 8)) (v + 1 + 11 + 1) (14, 8)) (v + 1 + 11 + 1 + 1) (14, 5)) (v + 1 + 11 + 1 + 1 + 1) (14, 5)) (v + 1 + 11 + 1 + 1 + 1 + 1) (14, 5)) (v + 1 + 11 + 1 + 1 + 1 + 1 + 1) (14, 32)) (v + 1 + 11 + 1 + 1 + 1 + 1 + 1 + 1) (14, 32)) (v + 1 + 11 + 1 + 1 + 1 + 1 + 1 + 1 + 1) (14, 32)) (v + 1 + 11 + 1 + 1 + 1 + 1 + 1 + 1 + 1 + 1) (14, 6)) v = (6, 19) := by
    show (if v = v + 1 + 11 + 1 + 1 + 1 + 1 + 1 + 1 + 1 + 1 then _ else _) = _
    rw [if_neg (by omega)]; exact hK49
  refine br_putFR (k := 63) rfl (show tK _ v (6, 19) from ⟨hK62, by (try dsimp only); omega⟩) flP_65_6 (by decide) rfl rfl (fun _ _ _ q => by cases q; exact ⟨rfl, rfl, _, rfl, rfl⟩) ?_
  refine ar_aloadn (k := 64) rfl rfl ?_
  refine ar_iconst (k := 65) rfl ?_
  refine br_putIz (k := 66) (z := 18) rfl (show tK _ v (6, 19) from ⟨hK62, by (try dsimp only); omega⟩) flP_68_6 (by decide) rfl (fun _ _ _ q => by cases q; exact ⟨rfl, rfl⟩) rfl ?_
  refine ar_aloadn (k := 67) rfl rfl ?_
  refine ar_aloadn (k := 68) rfl rfl ?_
  refine br_putR (k := 69) rfl (show tK _ v (6, 19) from ⟨hK62, by (try dsimp only); omega⟩) flP_71_6 (by decide) rfl (fun _ _ _ q => by cases q; exact ⟨rfl, _, rfl, rfl⟩) ?_
  refine ar_ret (k := 70) rfl rfl rfl (Nat.le_refl _) ?_
  refine ⟨rfl, _, _, _, rfl, ?_⟩
  refine gF_use (K := K8) (I := J8) (Q := R8) (v := v) (m0 := v + 1 + 11) (m := v + 1 + 11 + 1 + 1 + 1 + 1 + 1 + 1 + 1 + 1 + 1) (p := (fun K' J R => (K' (v + 1) = (18, 10) ∧ (∀ j : Nat, 1 ≤ j → j ≤ 10 → K' (v + 1 + j) = (14, 24)) ∧ K' (v + 12) = (14, 8) ∧ K' (v + 13) = (14, 8) ∧ K' (v + 14) = (14, 5) ∧ K' (v + 15) = (14, 5) ∧ K' (v + 16) = (14, 5) ∧ K' (v + 17) = (14, 32) ∧ K' (v + 18) = (14, 32) ∧ K' (v + 19) = (14, 32) ∧ K' (v + 20) = (14, 6) ∧ R v 2 = some (v + 1) ∧ R v 3 = some (v + 12) ∧ R v 4 = some (v + 13) ∧ R v 7 = some (v + 14) ∧ R v 8 = some (v + 15) ∧ R v 9 = some (v + 16) ∧ R v 11 = some (v + 17) ∧ R v 12 = some (v + 18) ∧ R v 13 = some (v + 19) ∧ R v 17 = some (v + 20) ∧ R v 0 = some 1) ∧ (∀ j : Int, 0 ≤ j → j < 10 → R (v + 1) j = some (v + 2 + j.toNat)) ∧ (∀ a, a ≤ v → K' a = K a) ∧ (∀ a, a < v → J a = I a ∧ R a = Q a) ∧ (∀ a, v < a → a < v + 21 → J a = fun _ => 0))) ?_ (fun g => ?_)
  · repeat' (first | exact gF.rf | refine gF.pi ?_ (by omega) | refine gF.pr ?_ | refine gF.nw ?_ (by omega))
  refine ⟨⟨?_, ?_, ?_, ?_, ?_, ?_, ?_, ?_, ?_, ?_, ?_, ?_, ?_, ?_, ?_, ?_, ?_, ?_, ?_, ?_, ?_, ?_⟩, fun j j1 j2 => ?_, fun a ha => ?_, fun a ha => ⟨?_, ?_⟩, fun a a1 a2 => ?_⟩
  · rw [g.1 _ (by omega)]; exact ka8
  · intro j j1 j2
    rw [g.1 _ (by omega)]; exact kb8 j j1 j2
  · simp [zK]
  · simp [zK]
  · simp [zK]
  · simp [zK]
  · simp [zK]
  · simp [zK]
  · simp [zK]
  · simp [zK]
  · simp [zK]
  · simp [uQ, zQ, upQ, show ¬ v = v + 1 + 11 by omega, show ¬ v = v + 1 + 11 + 1 by omega, show ¬ v = v + 1 + 11 + 1 + 1 by omega, show ¬ v = v + 1 + 11 + 1 + 1 + 1 by omega, show ¬ v = v + 1 + 11 + 1 + 1 + 1 + 1 by omega, show ¬ v = v + 1 + 11 + 1 + 1 + 1 + 1 + 1 by omega, show ¬ v = v + 1 + 11 + 1 + 1 + 1 + 1 + 1 + 1 by omega, show ¬ v = v + 1 + 11 + 1 + 1 + 1 + 1 + 1 + 1 + 1 by omega, show ¬ v = v + 1 + 11 + 1 + 1 + 1 + 1 + 1 + 1 + 1 + 1 by omega]
  · simp [uQ, zQ, upQ, show ¬ v = v + 1 + 11 by omega, show ¬ v = v + 1 + 11 + 1 by omega, show ¬ v = v + 1 + 11 + 1 + 1 by omega, show ¬ v = v + 1 + 11 + 1 + 1 + 1 by omega, show ¬ v = v + 1 + 11 + 1 + 1 + 1 + 1 by omega, show ¬ v = v + 1 + 11 + 1 + 1 + 1 + 1 + 1 by omega, show ¬ v = v + 1 + 11 + 1 + 1 + 1 + 1 + 1 + 1 by omega, show ¬ v = v + 1 + 11 + 1 + 1 + 1 + 1 + 1 + 1 + 1 by omega, show ¬ v = v + 1 + 11 + 1 + 1 + 1 + 1 + 1 + 1 + 1 + 1 by omega]
  · simp [uQ, zQ, upQ, show ¬ v = v + 1 + 11 by omega, show ¬ v = v + 1 + 11 + 1 by omega, show ¬ v = v + 1 + 11 + 1 + 1 by omega, show ¬ v = v + 1 + 11 + 1 + 1 + 1 by omega, show ¬ v = v + 1 + 11 + 1 + 1 + 1 + 1 by omega, show ¬ v = v + 1 + 11 + 1 + 1 + 1 + 1 + 1 by omega, show ¬ v = v + 1 + 11 + 1 + 1 + 1 + 1 + 1 + 1 by omega, show ¬ v = v + 1 + 11 + 1 + 1 + 1 + 1 + 1 + 1 + 1 by omega, show ¬ v = v + 1 + 11 + 1 + 1 + 1 + 1 + 1 + 1 + 1 + 1 by omega]
  · simp [uQ, zQ, upQ, show ¬ v = v + 1 + 11 by omega, show ¬ v = v + 1 + 11 + 1 by omega, show ¬ v = v + 1 + 11 + 1 + 1 by omega, show ¬ v = v + 1 + 11 + 1 + 1 + 1 by omega, show ¬ v = v + 1 + 11 + 1 + 1 + 1 + 1 by omega, show ¬ v = v + 1 + 11 + 1 + 1 + 1 + 1 + 1 by omega, show ¬ v = v + 1 + 11 + 1 + 1 + 1 + 1 + 1 + 1 by omega, show ¬ v = v + 1 + 11 + 1 + 1 + 1 + 1 + 1 + 1 + 1 by omega, show ¬ v = v + 1 + 11 + 1 + 1 + 1 + 1 + 1 + 1 + 1 + 1 by omega]
  · simp [uQ, zQ, upQ, show ¬ v = v + 1 + 11 by omega, show ¬ v = v + 1 + 11 + 1 by omega, show ¬ v = v + 1 + 11 + 1 + 1 by omega, show ¬ v = v + 1 + 11 + 1 + 1 + 1 by omega, show ¬ v = v + 1 + 11 + 1 + 1 + 1 + 1 by omega, show ¬ v = v + 1 + 11 + 1 + 1 + 1 + 1 + 1 by omega, show ¬ v = v + 1 + 11 + 1 + 1 + 1 + 1 + 1 + 1 by omega, show ¬ v = v + 1 + 11 + 1 + 1 + 1 + 1 + 1 + 1 + 1 by omega, show ¬ v = v + 1 + 11 + 1 + 1 + 1 + 1 + 1 + 1 + 1 + 1 by omega]
  · simp [uQ, zQ, upQ, show ¬ v = v + 1 + 11 by omega, show ¬ v = v + 1 + 11 + 1 by omega, show ¬ v = v + 1 + 11 + 1 + 1 by omega, show ¬ v = v + 1 + 11 + 1 + 1 + 1 by omega, show ¬ v = v + 1 + 11 + 1 + 1 + 1 + 1 by omega, show ¬ v = v + 1 + 11 + 1 + 1 + 1 + 1 + 1 by omega, show ¬ v = v + 1 + 11 + 1 + 1 + 1 + 1 + 1 + 1 by omega, show ¬ v = v + 1 + 11 + 1 + 1 + 1 + 1 + 1 + 1 + 1 by omega, show ¬ v = v + 1 + 11 + 1 + 1 + 1 + 1 + 1 + 1 + 1 + 1 by omega]
  · simp [uQ, zQ, upQ, show ¬ v = v + 1 + 11 by omega, show ¬ v = v + 1 + 11 + 1 by omega, show ¬ v = v + 1 + 11 + 1 + 1 by omega, show ¬ v = v + 1 + 11 + 1 + 1 + 1 by omega, show ¬ v = v + 1 + 11 + 1 + 1 + 1 + 1 by omega, show ¬ v = v + 1 + 11 + 1 + 1 + 1 + 1 + 1 by omega, show ¬ v = v + 1 + 11 + 1 + 1 + 1 + 1 + 1 + 1 by omega, show ¬ v = v + 1 + 11 + 1 + 1 + 1 + 1 + 1 + 1 + 1 by omega, show ¬ v = v + 1 + 11 + 1 + 1 + 1 + 1 + 1 + 1 + 1 + 1 by omega]
  · simp [uQ, zQ, upQ, show ¬ v = v + 1 + 11 by omega, show ¬ v = v + 1 + 11 + 1 by omega, show ¬ v = v + 1 + 11 + 1 + 1 by omega, show ¬ v = v + 1 + 11 + 1 + 1 + 1 by omega, show ¬ v = v + 1 + 11 + 1 + 1 + 1 + 1 by omega, show ¬ v = v + 1 + 11 + 1 + 1 + 1 + 1 + 1 by omega, show ¬ v = v + 1 + 11 + 1 + 1 + 1 + 1 + 1 + 1 by omega, show ¬ v = v + 1 + 11 + 1 + 1 + 1 + 1 + 1 + 1 + 1 by omega, show ¬ v = v + 1 + 11 + 1 + 1 + 1 + 1 + 1 + 1 + 1 + 1 by omega]
  · simp [uQ, zQ, upQ, show ¬ v = v + 1 + 11 by omega, show ¬ v = v + 1 + 11 + 1 by omega, show ¬ v = v + 1 + 11 + 1 + 1 by omega, show ¬ v = v + 1 + 11 + 1 + 1 + 1 by omega, show ¬ v = v + 1 + 11 + 1 + 1 + 1 + 1 by omega, show ¬ v = v + 1 + 11 + 1 + 1 + 1 + 1 + 1 by omega, show ¬ v = v + 1 + 11 + 1 + 1 + 1 + 1 + 1 + 1 by omega, show ¬ v = v + 1 + 11 + 1 + 1 + 1 + 1 + 1 + 1 + 1 by omega, show ¬ v = v + 1 + 11 + 1 + 1 + 1 + 1 + 1 + 1 + 1 + 1 by omega]
  · simp [uQ, zQ, upQ, show ¬ v = v + 1 + 11 by omega, show ¬ v = v + 1 + 11 + 1 by omega, show ¬ v = v + 1 + 11 + 1 + 1 by omega, show ¬ v = v + 1 + 11 + 1 + 1 + 1 by omega, show ¬ v = v + 1 + 11 + 1 + 1 + 1 + 1 by omega, show ¬ v = v + 1 + 11 + 1 + 1 + 1 + 1 + 1 by omega, show ¬ v = v + 1 + 11 + 1 + 1 + 1 + 1 + 1 + 1 by omega, show ¬ v = v + 1 + 11 + 1 + 1 + 1 + 1 + 1 + 1 + 1 by omega, show ¬ v = v + 1 + 11 + 1 + 1 + 1 + 1 + 1 + 1 + 1 + 1 by omega]
  · simp [uQ, zQ, upQ, show ¬ v = v + 1 + 11 by omega, show ¬ v = v + 1 + 11 + 1 by omega, show ¬ v = v + 1 + 11 + 1 + 1 by omega, show ¬ v = v + 1 + 11 + 1 + 1 + 1 by omega, show ¬ v = v + 1 + 11 + 1 + 1 + 1 + 1 by omega, show ¬ v = v + 1 + 11 + 1 + 1 + 1 + 1 + 1 by omega, show ¬ v = v + 1 + 11 + 1 + 1 + 1 + 1 + 1 + 1 by omega, show ¬ v = v + 1 + 11 + 1 + 1 + 1 + 1 + 1 + 1 + 1 by omega, show ¬ v = v + 1 + 11 + 1 + 1 + 1 + 1 + 1 + 1 + 1 + 1 by omega]
  · rw [g.2.2.1 _ (by omega) (by omega)]
    exact ra8 j j1 j2
  · rw [g.1 _ (by omega)]; exact (f8 a (by omega)).1
  · rw [g.2.1 _ (by omega) (by omega), (f8 a (by omega)).2.1, uI_off _ _ _ (by omega)]
  · rw [g.2.2.1 _ (by omega) (by omega)]; exact (f8 a (by omega)).2.2
  · by_cases h : a < v + 1 + 11
    · rw [g.2.1 _ h (by omega)]; exact z8 a (by omega) h
    · exact g.2.2.2 a (by omega) (by omega)
end CX2
