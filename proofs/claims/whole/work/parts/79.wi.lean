section CY1
variable {l : Launch} {G : tG} {M : tM} {d mc ms n0 c2 : Nat} {P : Option tV → tH → Prop} {ls : List (Nat × tV)} {st : List tV} {k pc nx tg : Nat} {K : Nat → Nat × Nat} {I : Nat → Int → Int} {Q : Nat → Int → Option Nat} {n : Nat}
theorem br_newh {i N : Nat} {z : Int} (hd : M.2.2.2.2[k]? = some (pc, .anewarray i, nx, tg)) (hw : Cond.classLink M.1.cls i "TwinTools$Hand" ∈ tw_tbl) (hz : z = (N : Int)) (hN : N < 10000) (hm : n - n0 + 1 ≤ mc ∧ c2 + N ≤ ms) (kk : tw_AW l G M d mc ms n0 (c2 + N) P nx ls (vr (some n) :: st) (zK K n (16, N), zI I n, zQ Q n, n + 1)) : tw_AW l G M d mc ms n0 c2 P pc ls (vi z :: st) (K, I, Q, n) := ar_anew_Hand hd hw hz hN hm kk
theorem br_newv {i N : Nat} {z : Int} (hd : M.2.2.2.2[k]? = some (pc, .anewarray i, nx, tg)) (hw : Cond.classLink M.1.cls i "TwinTools$Valley" ∈ tw_tbl) (hz : z = (N : Int)) (hN : N < 10000) (hm : n - n0 + 1 ≤ mc ∧ c2 + N ≤ ms) (kk : tw_AW l G M d mc ms n0 (c2 + N) P nx ls (vr (some n) :: st) (zK K n (17, N), zI I n, zQ Q n, n + 1)) : tw_AW l G M d mc ms n0 c2 P pc ls (vi z :: st) (K, I, Q, n) := ar_anew_Valley hd hw hz hN hm kk
end CY1
/-- what making an object changes -/
def gW (K : Nat → Nat × Nat) (I : Nat → Int → Int) (Q : Nat → Int → Option Nat) (v m : Nat) (K' : Nat → Nat × Nat) (J : Nat → Int → Int) (R : Nat → Int → Option Nat) : Prop := (∀ a, a ≤ v → K' a = K a) ∧ (∀ a, a < v → J a = I a) ∧ (∀ a, a < v → R a = Q a) ∧ (∀ a, v < a → a < m → J a = fun _ => 0) ∧ (∀ a, v < a → a < m → R a = fun _ => none)
section GW
variable {K K' : Nat → Nat × Nat} {I J : Nat → Int → Int} {Q R : Nat → Int → Option Nat} {v m : Nat}
theorem gW.rf : gW K I Q v (v + 1) K I Q := ⟨fun _ _ => rfl, fun _ _ => rfl, fun _ _ => rfl, fun a a1 a2 => by exfalso; omega, fun a a1 a2 => by exfalso; omega⟩
theorem gW.pi {k x : Int} (h : gW K I Q v m K' J R) : gW K I Q v m K' (uI J v k x) R := ⟨h.1, fun a ha => by rw [uI_off _ _ _ (by omega)]; exact h.2.1 a ha, h.2.2.1, fun a a1 a2 => by rw [uI_off _ _ _ (by omega)]; exact h.2.2.2.1 a a1 a2, h.2.2.2.2⟩
theorem gW.pr {k : Int} {x : Option Nat} (h : gW K I Q v m K' J R) : gW K I Q v m K' J (uQ R v k x) := ⟨h.1, h.2.1, fun a ha => by show (if a = v then _ else R a) = _; rw [if_neg (by omega)]; exact h.2.2.1 a ha, h.2.2.2.1, fun a a1 a2 => by show (if a = v then _ else R a) = _; rw [if_neg (by omega)]; exact h.2.2.2.2 a a1 a2⟩
theorem gW.nw {q : Nat × Nat} (h : gW K I Q v m K' J R) (hm : v < m) : gW K I Q v (m + 1) (zK K' m q) (zI J m) (zQ R m) := by
  refine ⟨fun a ha => by show (if a = m then _ else K' a) = _; rw [if_neg (by omega)]; exact h.1 a ha, fun a ha => by show (if a = m then _ else J a) = _; rw [if_neg (by omega)]; exact h.2.1 a ha, fun a ha => by show (if a = m then _ else R a) = _; rw [if_neg (by omega)]; exact h.2.2.1 a ha, fun a a1 a2 => ?_, fun a a1 a2 => ?_⟩
  · show (if a = m then _ else J a) = _
    by_cases g : a = m
    · rw [if_pos g]
    · rw [if_neg g]; exact h.2.2.2.1 a a1 (by omega)
  · show (if a = m then _ else R a) = _
    by_cases g : a = m
    · rw [if_pos g]
    · rw [if_neg g]; exact h.2.2.2.2 a a1 (by omega)
end GW
section CY2
variable {l : Launch} {G : tG} {K : Nat → Nat × Nat} {I : Nat → Int → Int} {Q : Nat → Int → Option Nat} {n : Nat} {s : Int → Int} {v : Nat}
theorem c_W_init (hK : K v = (10, 20)) : tw_M l G 2 12 231 mW_init [vr (some v)] (K, I, Q, v + 1) (fun r h' => r = none ∧ ∃ K' J R, h' = (K', J, R, v + 13) ∧ (K' (v + 1) = (13, 100) ∧ K' (v + 2) = (17, 5) ∧ K' (v + 3) = (16, 8) ∧ K' (v + 4) = (14, 8) ∧ K' (v + 5) = (14, 32) ∧ K' (v + 6) = (14, 10) ∧ K' (v + 7) = (14, 10) ∧ K' (v + 8) = (14, 10) ∧ K' (v + 9) = (14, 12) ∧ K' (v + 10) = (14, 12) ∧ K' (v + 11) = (14, 12) ∧ K' (v + 12) = (14, 12) ∧ R v 0 = some (v + 1) ∧ R v 2 = some (v + 2) ∧ R v 4 = some (v + 3) ∧ R v 6 = some (v + 4) ∧ R v 7 = some (v + 5) ∧ R v 8 = some (v + 6) ∧ R v 9 = some (v + 7) ∧ R v 10 = some (v + 8) ∧ R v 13 = some (v + 9) ∧ R v 14 = some (v + 10) ∧ R v 17 = some (v + 11) ∧ R v 18 = some (v + 12) ∧ J v 1 = 0 ∧ J v 3 = 0 ∧ J v 5 = 0 ∧ J v 12 = 0 ∧ J v 16 = 0 ∧ J v 19 = 0) ∧ gW K I Q v (v + 13) K' J R) := by
  refine tw_intro okW_init (Nat.le_of_ble_eq_true rfl) ?_
  refine ar_aloadn (k := 0) rfl rfl ?_
  refine ar_obj (k := 1) rfl lbW_3 (by decide) (Nat.le_of_ble_eq_true rfl) ?_
  refine ar_aloadn (k := 2) rfl rfl ?_
  refine ar_bipush (k := 3) rfl (by decide) ?_
  refine br_newab (k := 4) (N := 100) rfl acB rfl (by decide) ⟨by (try dsimp only); omega, by decide⟩ ?_
  have hK4 : (zK (K) (v + 1) (13, 100)) v = (10, 20) := by
    show (if v = v + 1 then _ else _) = _
    rw [if_neg (by omega)]; exact hK
  refine br_putFR (k := 5) rfl (show tK _ v (10, 20) from ⟨hK4, by (try dsimp only); omega⟩) flW_9_10 (by decide) rfl rfl (fun _ _ _ q => by cases q; exact ⟨rfl, rfl, _, rfl, rfl⟩) ?_
  refine ar_aloadn (k := 6) rfl rfl ?_
  refine ar_iconst (k := 7) rfl ?_
  refine br_putIz (k := 8) (z := 1) rfl (show tK _ v (10, 20) from ⟨hK4, by (try dsimp only); omega⟩) flW_15_10 (by decide) rfl (fun _ _ _ q => by cases q; exact ⟨rfl, rfl⟩) rfl ?_
  refine ar_aloadn (k := 9) rfl rfl ?_
  refine ar_iconst (k := 10) rfl ?_
  refine br_newv (k := 11) (N := 5) rfl klW_19 rfl (by decide) ⟨by (try dsimp only); omega, by decide⟩ ?_
  have hK11 : (zK (zK (K) (v + 1) (13, 100)) (v + 1 + 1) (17, 5)) v = (10, 20) := by
    show (if v = v + 1 + 1 then _ else _) = _
    rw [if_neg (by omega)]; exact hK4
  refine br_putFR (k := 12) rfl (show tK _ v (10, 20) from ⟨hK11, by (try dsimp only); omega⟩) flW_21_10 (by decide) rfl rfl (fun _ _ _ q => by cases q; exact ⟨rfl, rfl, _, rfl, rfl⟩) ?_
  refine ar_aloadn (k := 13) rfl rfl ?_
  refine ar_iconst (k := 14) rfl ?_
  refine br_putIz (k := 15) (z := 3) rfl (show tK _ v (10, 20) from ⟨hK11, by (try dsimp only); omega⟩) flW_25_10 (by decide) rfl (fun _ _ _ q => by cases q; exact ⟨rfl, rfl⟩) rfl ?_
  refine ar_aloadn (k := 16) rfl rfl ?_
  refine ar_bipush (k := 17) rfl (by decide) ?_
  refine br_newh (k := 18) (N := 8) rfl klW_28 rfl (by decide) ⟨by (try dsimp only); omega, by decide⟩ ?_
  have hK18 : (zK (zK (zK (K) (v + 1) (13, 100)) (v + 1 + 1) (17, 5)) (v + 1 + 1 + 1) (16, 8)) v = (10, 20) := by
    show (if v = v + 1 + 1 + 1 then _ else _) = _
    rw [if_neg (by omega)]; exact hK11
  refine br_putFR (k := 19) rfl (show tK _ v (10, 20) from ⟨hK18, by (try dsimp only); omega⟩) flW_30_10 (by decide) rfl rfl (fun _ _ _ q => by cases q; exact ⟨rfl, rfl, _, rfl, rfl⟩) ?_
  refine ar_aloadn (k := 20) rfl rfl ?_
  refine ar_iconst (k := 21) rfl ?_
  refine br_putIz (k := 22) (z := 5) rfl (show tK _ v (10, 20) from ⟨hK18, by (try dsimp only); omega⟩) flW_34_10 (by decide) rfl (fun _ _ _ q => by cases q; exact ⟨rfl, rfl⟩) rfl ?_
  refine ar_aloadn (k := 23) rfl rfl ?_
  refine ar_bipush (k := 24) rfl (by decide) ?_
  refine br_newai (k := 25) (N := 8) rfl acI rfl (by decide) ⟨by (try dsimp only); omega, by decide⟩ ?_
  have hK25 : (zK (zK (zK (zK (K) (v + 1) (13, 100)) (v + 1 + 1) (17, 5)) (v + 1 + 1 + 1) (16, 8)) (v + 1 + 1 + 1 + 1) (14, 8)) v = (10, 20) := by
    show (if v = v + 1 + 1 + 1 + 1 then _ else _) = _
    rw [if_neg (by omega)]; exact hK18
  refine br_putFR (k := 26) rfl (show tK _ v (10, 20) from ⟨hK25, by (try dsimp only); omega⟩) flW_37_10 (by decide) rfl rfl (fun _ _ _ q => by cases q; exact ⟨rfl, rfl, _, rfl, rfl⟩) ?_
  refine ar_aloadn (k := 27) rfl rfl ?_
  refine ar_bipush (k := 28) rfl (by decide) ?_
  refine br_newai (k := 29) (N := 32) rfl acI rfl (by decide) ⟨by (try dsimp only); omega, by decide⟩ ?_
  have hK29 : (zK (zK (zK (zK (zK (K) (v + 1) (13, 100)) (v + 1 + 1) (17, 5)) (v + 1 + 1 + 1) (16, 8)) (v + 1 + 1 + 1 + 1) (14, 8)) (v + 1 + 1 + 1 + 1 + 1) (14, 32)) v = (10, 20) := by
    show (if v = v + 1 + 1 + 1 + 1 + 1 then _ else _) = _
    rw [if_neg (by omega)]; exact hK25
  refine br_putFR (k := 30) rfl (show tK _ v (10, 20) from ⟨hK29, by (try dsimp only); omega⟩) flW_41_10 (by decide) rfl rfl (fun _ _ _ q => by cases q; exact ⟨rfl, rfl, _, rfl, rfl⟩) ?_
  refine ar_aloadn (k := 31) rfl rfl ?_
  refine ar_bipush (k := 32) rfl (by decide) ?_
  refine br_newai (k := 33) (N := 10) rfl acI rfl (by decide) ⟨by (try dsimp only); omega, by decide⟩ ?_
  have hK33 : (zK (zK (zK (zK (zK (zK (K) (v + 1) (13, 100)) (v + 1 + 1) (17, 5)) (v + 1 + 1 + 1) (16, 8)) (v + 1 + 1 + 1 + 1) (14, 8)) (v + 1 + 1 + 1 + 1 + 1) (14, 32)) (v + 1 + 1 + 1 + 1 + 1 + 1) (14, 10)) v = (10, 20) := by
    show (if v = v + 1 + 1 + 1 + 1 + 1 + 1 then _ else _) = _
    rw [if_neg (by omega)]; exact hK29
  refine br_putFR (k := 34) rfl (show tK _ v (10, 20) from ⟨hK33, by (try dsimp only); omega⟩) flW_44_10 (by decide) rfl rfl (fun _ _ _ q => by cases q; exact ⟨rfl, rfl, _, rfl, rfl⟩) ?_
  refine ar_aloadn (k := 35) rfl rfl ?_
  refine ar_bipush (k := 36) rfl (by decide) ?_
  refine br_newai (k := 37) (N := 10) rfl acI rfl (by decide) ⟨by (try dsimp only); omega, by decide⟩ ?_
  have hK37 : (zK (zK (zK (zK (zK (zK (zK (K) (v + 1) (13, 100)) (v + 1 + 1) (17, 5)) (v + 1 + 1 + 1) (16, 8)) (v + 1 + 1 + 1 + 1) (14, 8)) (v + 1 + 1 + 1 + 1 + 1) (14, 32)) (v + 1 + 1 + 1 + 1 + 1 + 1) (14, 10)) (v + 1 + 1 + 1 + 1 + 1 + 1 + 1) (14, 10)) v = (10, 20) := by
    show (if v = v + 1 + 1 + 1 + 1 + 1 + 1 + 1 then _ else _) = _
    rw [if_neg (by omega)]; exact hK33
  refine br_putFR (k := 38) rfl (show tK _ v (10, 20) from ⟨hK37, by (try dsimp only); omega⟩) flW_47_10 (by decide) rfl rfl (fun _ _ _ q => by cases q; exact ⟨rfl, rfl, _, rfl, rfl⟩) ?_
  refine ar_aloadn (k := 39) rfl rfl ?_
  refine ar_bipush (k := 40) rfl (by decide) ?_
  refine br_newai (k := 41) (N := 10) rfl acI rfl (by decide) ⟨by (try dsimp only); omega, by decide⟩ ?_
  have hK41 : (zK (zK (zK (zK (zK (zK (zK (zK (K) (v + 1) (13, 100)) (v + 1 + 1) (17, 5)) (v + 1 + 1 + 1) (16, 8)) (v + 1 + 1 + 1 + 1) (14, 8)) (v + 1 + 1 + 1 + 1 + 1) (14, 32)) (v + 1 + 1 + 1 + 1 + 1 + 1) (14, 10)) (v + 1 + 1 + 1 + 1 + 1 + 1 + 1) (14, 10)) (v + 1 + 1 + 1 + 1 + 1 + 1 + 1 + 1) (14, 10)) v = (10, 20) := by
    show (if v = v + 1 + 1 + 1 + 1 + 1 + 1 + 1 + 1 then _ else _) = _
    rw [if_neg (by omega)]; exact hK37
  refine br_putFR (k := 42) rfl (show tK _ v (10, 20) from ⟨hK41, by (try dsimp only); omega⟩) flW_50_10 (by decide) rfl rfl (fun _ _ _ q => by cases q; exact ⟨rfl, rfl, _, rfl, rfl⟩) ?_
  refine ar_aloadn (k := 43) rfl rfl ?_
  refine ar_iconst (k := 44) rfl ?_
  refine br_putIz (k := 45) (z := 11) rfl (show tK _ v (10, 20) from ⟨hK41, by (try dsimp only); omega⟩) flW_53_10 (by decide) rfl (fun _ _ _ q => by cases q; exact ⟨rfl, rfl⟩) rfl ?_
  refine ar_aloadn (k := 46) rfl rfl ?_
  refine ar_iconst (k := 47) rfl ?_
  refine br_putIz (k := 48) (z := 12) rfl (show tK _ v (10, 20) from ⟨hK41, by (try dsimp only); omega⟩) flW_56_10 (by decide) rfl (fun _ _ _ q => by cases q; exact ⟨rfl, rfl⟩) rfl ?_
  refine ar_aloadn (k := 49) rfl rfl ?_
  refine ar_bipush (k := 50) rfl (by decide) ?_
  refine br_newai (k := 51) (N := 12) rfl acI rfl (by decide) ⟨by (try dsimp only); omega, by decide⟩ ?_
  have hK51 : (zK (zK (zK (zK (zK (zK (zK (zK (zK (K) (v + 1) (13, 100)) (v + 1 + 1) (17, 5)) (v + 1 + 1 + 1) (16, 8)) (v + 1 + 1 + 1 + 1) (14, 8)) (v + 1 + 1 + 1 + 1 + 1) (14, 32)) (v + 1 + 1 + 1 + 1 + 1 + 1) (14, 10)) (v + 1 + 1 + 1 + 1 + 1 + 1 + 1) (14, 10)) (v + 1 + 1 + 1 + 1 + 1 + 1 + 1 + 1) (14, 10)) (v + 1 + 1 + 1 + 1 + 1 + 1 + 1 + 1 + 1) (14, 12)) v = (10, 20) := by
    show (if v = v + 1 + 1 + 1 + 1 + 1 + 1 + 1 + 1 + 1 then _ else _) = _
    rw [if_neg (by omega)]; exact hK41
  refine br_putFR (k := 52) rfl (show tK _ v (10, 20) from ⟨hK51, by (try dsimp only); omega⟩) flW_59_10 (by decide) rfl rfl (fun _ _ _ q => by cases q; exact ⟨rfl, rfl, _, rfl, rfl⟩) ?_
  refine ar_aloadn (k := 53) rfl rfl ?_
  refine ar_bipush (k := 54) rfl (by decide) ?_
  refine br_newai (k := 55) (N := 12) rfl acI rfl (by decide) ⟨by (try dsimp only); omega, by decide⟩ ?_
  have hK55 : (zK (zK (zK (zK (zK (zK (zK (zK (zK (zK (K) (v + 1) (13, 100)) (v + 1 + 1) (17, 5)) (v + 1 + 1 + 1) (16, 8)) (v + 1 + 1 + 1 + 1) (14, 8)) (v + 1 + 1 + 1 + 1 + 1) (14, 32)) (v + 1 + 1 + 1 + 1 + 1 + 1) (14, 10)) (v + 1 + 1 + 1 + 1 + 1 + 1 + 1) (14, 10)) (v + 1 + 1 + 1 + 1 + 1 + 1 + 1 + 1) (14, 10)) (v + 1 + 1 + 1 + 1 + 1 + 1 + 1 + 1 + 1) (14, 12)) (v + 1 + 1 + 1 + 1 + 1 + 1 + 1 + 1 + 1 + 1) (14, 12)) v = (10, 20) := by
    show (if v = v + 1 + 1 + 1 + 1 + 1 + 1 + 1 + 1 + 1 + 1 then _ else _) = _
    rw [if_neg (by omega)]; exact hK51
  refine br_putFR (k := 56) rfl (show tK _ v (10, 20) from ⟨hK55, by (try dsimp only); omega⟩) flW_62_10 (by decide) rfl rfl (fun _ _ _ q => by cases q; exact ⟨rfl, rfl, _, rfl, rfl⟩) ?_
  refine ar_aloadn (k := 57) rfl rfl ?_
  refine ar_iconst (k := 58) rfl ?_
  refine br_putIz (k := 59) (z := 15) rfl (show tK _ v (10, 20) from ⟨hK55, by (try dsimp only); omega⟩) flW_65_10 (by decide) rfl (fun _ _ _ q => by cases q; exact ⟨rfl, rfl⟩) rfl ?_
  refine ar_aloadn (k := 60) rfl rfl ?_
  refine ar_iconst (k := 61) rfl ?_
  refine br_putIz (k := 62) (z := 16) rfl (show tK _ v (10, 20) from ⟨hK55, by (try dsimp only); omega⟩) flW_68_10 (by decide) rfl (fun _ _ _ q => by cases q; exact ⟨rfl, rfl⟩) rfl ?_
  refine ar_aloadn (k := 63) rfl rfl ?_
  refine ar_bipush (k := 64) rfl (by decide) ?_
  refine br_newai (k := 65) (N := 12) rfl acI rfl (by decide) ⟨by (try dsimp only); omega, by decide⟩ ?_
  have hK65 : (zK (zK (zK (zK (zK (zK (zK (zK (zK (zK (zK (K) (v + 1) (13, 100)) (v + 1 + 1) (17, 5)) (v + 1 + 1 + 1) (16, 8)) (v + 1 + 1 + 1 + 1) (14, 8)) (v + 1 + 1 + 1 + 1 + 1) (14, 32)) (v + 1 + 1 + 1 + 1 + 1 + 1) (14, 10)) (v + 1 + 1 + 1 + 1 + 1 + 1 + 1) (14, 10)) (v + 1 + 1 + 1 + 1 + 1 + 1 + 1 + 1) (14, 10)) (v + 1 + 1 + 1 + 1 + 1 + 1 + 1 + 1 + 1) (14, 12)) (v + 1 + 1 + 1 + 1 + 1 + 1 + 1 + 1 + 1 + 1) (14, 12)) (v + 1 + 1 + 1 + 1 + 1 + 1 + 1 + 1 + 1 + 1 + 1) (14, 12)) v = (10, 20) := by
    show (if v = v + 1 + 1 + 1 + 1 + 1 + 1 + 1 + 1 + 1 + 1 + 1 then _ else _) = _
    rw [if_neg (by omega)]; exact hK55
  refine br_putFR (k := 66) rfl (show tK _ v (10, 20) from ⟨hK65, by (try dsimp only); omega⟩) flW_71_10 (by decide) rfl rfl (fun _ _ _ q => by cases q; exact ⟨rfl, rfl, _, rfl, rfl⟩) ?_
  refine ar_aloadn (k := 67) rfl rfl ?_
  refine ar_bipush (k := 68) rfl (by decide) ?_
  refine br_newai (k := 69) (N := 12) rfl acI rfl (by decide) ⟨by (try dsimp only); omega, by decide⟩ ?_
  have hK69 : (zK (zK (zK (zK (zK (zK (zK (zK (zK (zK (zK (zK (K) (v + 1) (13, 100)) (v + 1 + 1) (17, 5)) (v + 1 + 1 + 1) (16, 8)) (v + 1 + 1 + 1 + 1) (14, 8)) (v + 1 + 1 + 1 + 1 + 1) (14, 32)) (v + 1 + 1 + 1 + 1 + 1 + 1) (14, 10)) (v + 1 + 1 + 1 + 1 + 1 + 1 + 1) (14, 10)) (v + 1 + 1 + 1 + 1 + 1 + 1 + 1 + 1) (14, 10)) (v + 1 + 1 + 1 + 1 + 1 + 1 + 1 + 1 + 1) (14, 12)) (v + 1 + 1 + 1 + 1 + 1 + 1 + 1 + 1 + 1 + 1) (14, 12)) (v + 1 + 1 + 1 + 1 + 1 + 1 + 1 + 1 + 1 + 1 + 1) (14, 12)) (v + 1 + 1 + 1 + 1 + 1 + 1 + 1 + 1 + 1 + 1 + 1 + 1) (14, 12)) v = (10, 20) := by
    show (if v = v + 1 + 1 + 1 + 1 + 1 + 1 + 1 + 1 + 1 + 1 + 1 + 1 then _ else _) = _
    rw [if_neg (by omega)]; exact hK65
  refine br_putFR (k := 70) rfl (show tK _ v (10, 20) from ⟨hK69, by (try dsimp only); omega⟩) flW_74_10 (by decide) rfl rfl (fun _ _ _ q => by cases q; exact ⟨rfl, rfl, _, rfl, rfl⟩) ?_
  refine ar_aloadn (k := 71) rfl rfl ?_
  refine ar_iconst (k := 72) rfl ?_
  refine br_putIz (k := 73) (z := 19) rfl (show tK _ v (10, 20) from ⟨hK69, by (try dsimp only); omega⟩) flW_77_10 (by decide) rfl (fun _ _ _ q => by cases q; exact ⟨rfl, rfl⟩) rfl ?_
  refine ar_ret (k := 74) rfl rfl rfl (Nat.le_refl _) ?_
  refine ⟨rfl, _, _, _, rfl, ⟨?_, ?_, ?_, ?_, ?_, ?_, ?_, ?_, ?_, ?_, ?_, ?_, ?_, ?_, ?_, ?_, ?_, ?_, ?_, ?_, ?_, ?_, ?_, ?_, ?_, ?_, ?_, ?_, ?_, ?_⟩, ?_⟩
  · simp [zK]
  · simp [zK]
  · simp [zK]
  · simp [zK]
  · simp [zK]
  · simp [zK]
  · simp [zK]
  · simp [zK]
  · simp [zK]
  · simp [zK]
  · simp [zK]
  · simp [zK]
  · simp [uQ, zQ, upQ, show ¬ v = v + 1 by omega, show ¬ v = v + 1 + 1 by omega, show ¬ v = v + 1 + 1 + 1 by omega, show ¬ v = v + 1 + 1 + 1 + 1 by omega, show ¬ v = v + 1 + 1 + 1 + 1 + 1 by omega, show ¬ v = v + 1 + 1 + 1 + 1 + 1 + 1 by omega, show ¬ v = v + 1 + 1 + 1 + 1 + 1 + 1 + 1 by omega, show ¬ v = v + 1 + 1 + 1 + 1 + 1 + 1 + 1 + 1 by omega, show ¬ v = v + 1 + 1 + 1 + 1 + 1 + 1 + 1 + 1 + 1 by omega, show ¬ v = v + 1 + 1 + 1 + 1 + 1 + 1 + 1 + 1 + 1 + 1 by omega, show ¬ v = v + 1 + 1 + 1 + 1 + 1 + 1 + 1 + 1 + 1 + 1 + 1 by omega, show ¬ v = v + 1 + 1 + 1 + 1 + 1 + 1 + 1 + 1 + 1 + 1 + 1 + 1 by omega]
  · simp [uQ, zQ, upQ, show ¬ v = v + 1 by omega, show ¬ v = v + 1 + 1 by omega, show ¬ v = v + 1 + 1 + 1 by omega, show ¬ v = v + 1 + 1 + 1 + 1 by omega, show ¬ v = v + 1 + 1 + 1 + 1 + 1 by omega, show ¬ v = v + 1 + 1 + 1 + 1 + 1 + 1 by omega, show ¬ v = v + 1 + 1 + 1 + 1 + 1 + 1 + 1 by omega, show ¬ v = v + 1 + 1 + 1 + 1 + 1 + 1 + 1 + 1 by omega, show ¬ v = v + 1 + 1 + 1 + 1 + 1 + 1 + 1 + 1 + 1 by omega, show ¬ v = v + 1 + 1 + 1 + 1 + 1 + 1 + 1 + 1 + 1 + 1 by omega, show ¬ v = v + 1 + 1 + 1 + 1 + 1 + 1 + 1 + 1 + 1 + 1 + 1 by omega, show ¬ v = v + 1 + 1 + 1 + 1 + 1 + 1 + 1 + 1 + 1 + 1 + 1 + 1 by omega]
  · simp [uQ, zQ, upQ, show ¬ v = v + 1 by omega, show ¬ v = v + 1 + 1 by omega, show ¬ v = v + 1 + 1 + 1 by omega, show ¬ v = v + 1 + 1 + 1 + 1 by omega, show ¬ v = v + 1 + 1 + 1 + 1 + 1 by omega, show ¬ v = v + 1 + 1 + 1 + 1 + 1 + 1 by omega, show ¬ v = v + 1 + 1 + 1 + 1 + 1 + 1 + 1 by omega, show ¬ v = v + 1 + 1 + 1 + 1 + 1 + 1 + 1 + 1 by omega, show ¬ v = v + 1 + 1 + 1 + 1 + 1 + 1 + 1 + 1 + 1 by omega, show ¬ v = v + 1 + 1 + 1 + 1 + 1 + 1 + 1 + 1 + 1 + 1 by omega, show ¬ v = v + 1 + 1 + 1 + 1 + 1 + 1 + 1 + 1 + 1 + 1 + 1 by omega, show ¬ v = v + 1 + 1 + 1 + 1 + 1 + 1 + 1 + 1 + 1 + 1 + 1 + 1 by omega]
  · simp [uQ, zQ, upQ, show ¬ v = v + 1 by omega, show ¬ v = v + 1 + 1 by omega, show ¬ v = v + 1 + 1 + 1 by omega, show ¬ v = v + 1 + 1 + 1 + 1 by omega, show ¬ v = v + 1 + 1 + 1 + 1 + 1 by omega, show ¬ v = v + 1 + 1 + 1 + 1 + 1 + 1 by omega, show ¬ v = v + 1 + 1 + 1 + 1 + 1 + 1 + 1 by omega, show ¬ v = v + 1 + 1 + 1 + 1 + 1 + 1 + 1 + 1 by omega, show ¬ v = v + 1 + 1 + 1 + 1 + 1 + 1 + 1 + 1 + 1 by omega, show ¬ v = v + 1 + 1 + 1 + 1 + 1 + 1 + 1 + 1 + 1 + 1 by omega, show ¬ v = v + 1 + 1 + 1 + 1 + 1 + 1 + 1 + 1 + 1 + 1 + 1 by omega, show ¬ v = v + 1 + 1 + 1 + 1 + 1 + 1 + 1 + 1 + 1 + 1 + 1 + 1 by omega]
  · simp [uQ, zQ, upQ, show ¬ v = v + 1 by omega, show ¬ v = v + 1 + 1 by omega, show ¬ v = v + 1 + 1 + 1 by omega, show ¬ v = v + 1 + 1 + 1 + 1 by omega, show ¬ v = v + 1 + 1 + 1 + 1 + 1 by omega, show ¬ v = v + 1 + 1 + 1 + 1 + 1 + 1 by omega, show ¬ v = v + 1 + 1 + 1 + 1 + 1 + 1 + 1 by omega, show ¬ v = v + 1 + 1 + 1 + 1 + 1 + 1 + 1 + 1 by omega, show ¬ v = v + 1 + 1 + 1 + 1 + 1 + 1 + 1 + 1 + 1 by omega, show ¬ v = v + 1 + 1 + 1 + 1 + 1 + 1 + 1 + 1 + 1 + 1 by omega, show ¬ v = v + 1 + 1 + 1 + 1 + 1 + 1 + 1 + 1 + 1 + 1 + 1 by omega, show ¬ v = v + 1 + 1 + 1 + 1 + 1 + 1 + 1 + 1 + 1 + 1 + 1 + 1 by omega]
  · simp [uQ, zQ, upQ, show ¬ v = v + 1 by omega, show ¬ v = v + 1 + 1 by omega, show ¬ v = v + 1 + 1 + 1 by omega, show ¬ v = v + 1 + 1 + 1 + 1 by omega, show ¬ v = v + 1 + 1 + 1 + 1 + 1 by omega, show ¬ v = v + 1 + 1 + 1 + 1 + 1 + 1 by omega, show ¬ v = v + 1 + 1 + 1 + 1 + 1 + 1 + 1 by omega, show ¬ v = v + 1 + 1 + 1 + 1 + 1 + 1 + 1 + 1 by omega, show ¬ v = v + 1 + 1 + 1 + 1 + 1 + 1 + 1 + 1 + 1 by omega, show ¬ v = v + 1 + 1 + 1 + 1 + 1 + 1 + 1 + 1 + 1 + 1 by omega, show ¬ v = v + 1 + 1 + 1 + 1 + 1 + 1 + 1 + 1 + 1 + 1 + 1 by omega, show ¬ v = v + 1 + 1 + 1 + 1 + 1 + 1 + 1 + 1 + 1 + 1 + 1 + 1 by omega]
  · simp [uQ, zQ, upQ, show ¬ v = v + 1 by omega, show ¬ v = v + 1 + 1 by omega, show ¬ v = v + 1 + 1 + 1 by omega, show ¬ v = v + 1 + 1 + 1 + 1 by omega, show ¬ v = v + 1 + 1 + 1 + 1 + 1 by omega, show ¬ v = v + 1 + 1 + 1 + 1 + 1 + 1 by omega, show ¬ v = v + 1 + 1 + 1 + 1 + 1 + 1 + 1 by omega, show ¬ v = v + 1 + 1 + 1 + 1 + 1 + 1 + 1 + 1 by omega, show ¬ v = v + 1 + 1 + 1 + 1 + 1 + 1 + 1 + 1 + 1 by omega, show ¬ v = v + 1 + 1 + 1 + 1 + 1 + 1 + 1 + 1 + 1 + 1 by omega, show ¬ v = v + 1 + 1 + 1 + 1 + 1 + 1 + 1 + 1 + 1 + 1 + 1 by omega, show ¬ v = v + 1 + 1 + 1 + 1 + 1 + 1 + 1 + 1 + 1 + 1 + 1 + 1 by omega]
  · simp [uQ, zQ, upQ, show ¬ v = v + 1 by omega, show ¬ v = v + 1 + 1 by omega, show ¬ v = v + 1 + 1 + 1 by omega, show ¬ v = v + 1 + 1 + 1 + 1 by omega, show ¬ v = v + 1 + 1 + 1 + 1 + 1 by omega, show ¬ v = v + 1 + 1 + 1 + 1 + 1 + 1 by omega, show ¬ v = v + 1 + 1 + 1 + 1 + 1 + 1 + 1 by omega, show ¬ v = v + 1 + 1 + 1 + 1 + 1 + 1 + 1 + 1 by omega, show ¬ v = v + 1 + 1 + 1 + 1 + 1 + 1 + 1 + 1 + 1 by omega, show ¬ v = v + 1 + 1 + 1 + 1 + 1 + 1 + 1 + 1 + 1 + 1 by omega, show ¬ v = v + 1 + 1 + 1 + 1 + 1 + 1 + 1 + 1 + 1 + 1 + 1 by omega, show ¬ v = v + 1 + 1 + 1 + 1 + 1 + 1 + 1 + 1 + 1 + 1 + 1 + 1 by omega]
  · simp [uQ, zQ, upQ, show ¬ v = v + 1 by omega, show ¬ v = v + 1 + 1 by omega, show ¬ v = v + 1 + 1 + 1 by omega, show ¬ v = v + 1 + 1 + 1 + 1 by omega, show ¬ v = v + 1 + 1 + 1 + 1 + 1 by omega, show ¬ v = v + 1 + 1 + 1 + 1 + 1 + 1 by omega, show ¬ v = v + 1 + 1 + 1 + 1 + 1 + 1 + 1 by omega, show ¬ v = v + 1 + 1 + 1 + 1 + 1 + 1 + 1 + 1 by omega, show ¬ v = v + 1 + 1 + 1 + 1 + 1 + 1 + 1 + 1 + 1 by omega, show ¬ v = v + 1 + 1 + 1 + 1 + 1 + 1 + 1 + 1 + 1 + 1 by omega, show ¬ v = v + 1 + 1 + 1 + 1 + 1 + 1 + 1 + 1 + 1 + 1 + 1 by omega, show ¬ v = v + 1 + 1 + 1 + 1 + 1 + 1 + 1 + 1 + 1 + 1 + 1 + 1 by omega]
  · simp [uQ, zQ, upQ, show ¬ v = v + 1 by omega, show ¬ v = v + 1 + 1 by omega, show ¬ v = v + 1 + 1 + 1 by omega, show ¬ v = v + 1 + 1 + 1 + 1 by omega, show ¬ v = v + 1 + 1 + 1 + 1 + 1 by omega, show ¬ v = v + 1 + 1 + 1 + 1 + 1 + 1 by omega, show ¬ v = v + 1 + 1 + 1 + 1 + 1 + 1 + 1 by omega, show ¬ v = v + 1 + 1 + 1 + 1 + 1 + 1 + 1 + 1 by omega, show ¬ v = v + 1 + 1 + 1 + 1 + 1 + 1 + 1 + 1 + 1 by omega, show ¬ v = v + 1 + 1 + 1 + 1 + 1 + 1 + 1 + 1 + 1 + 1 by omega, show ¬ v = v + 1 + 1 + 1 + 1 + 1 + 1 + 1 + 1 + 1 + 1 + 1 by omega, show ¬ v = v + 1 + 1 + 1 + 1 + 1 + 1 + 1 + 1 + 1 + 1 + 1 + 1 by omega]
  · simp [uQ, zQ, upQ, show ¬ v = v + 1 by omega, show ¬ v = v + 1 + 1 by omega, show ¬ v = v + 1 + 1 + 1 by omega, show ¬ v = v + 1 + 1 + 1 + 1 by omega, show ¬ v = v + 1 + 1 + 1 + 1 + 1 by omega, show ¬ v = v + 1 + 1 + 1 + 1 + 1 + 1 by omega, show ¬ v = v + 1 + 1 + 1 + 1 + 1 + 1 + 1 by omega, show ¬ v = v + 1 + 1 + 1 + 1 + 1 + 1 + 1 + 1 by omega, show ¬ v = v + 1 + 1 + 1 + 1 + 1 + 1 + 1 + 1 + 1 by omega, show ¬ v = v + 1 + 1 + 1 + 1 + 1 + 1 + 1 + 1 + 1 + 1 by omega, show ¬ v = v + 1 + 1 + 1 + 1 + 1 + 1 + 1 + 1 + 1 + 1 + 1 by omega, show ¬ v = v + 1 + 1 + 1 + 1 + 1 + 1 + 1 + 1 + 1 + 1 + 1 + 1 by omega]
  · simp [uQ, zQ, upQ, show ¬ v = v + 1 by omega, show ¬ v = v + 1 + 1 by omega, show ¬ v = v + 1 + 1 + 1 by omega, show ¬ v = v + 1 + 1 + 1 + 1 by omega, show ¬ v = v + 1 + 1 + 1 + 1 + 1 by omega, show ¬ v = v + 1 + 1 + 1 + 1 + 1 + 1 by omega, show ¬ v = v + 1 + 1 + 1 + 1 + 1 + 1 + 1 by omega, show ¬ v = v + 1 + 1 + 1 + 1 + 1 + 1 + 1 + 1 by omega, show ¬ v = v + 1 + 1 + 1 + 1 + 1 + 1 + 1 + 1 + 1 by omega, show ¬ v = v + 1 + 1 + 1 + 1 + 1 + 1 + 1 + 1 + 1 + 1 by omega, show ¬ v = v + 1 + 1 + 1 + 1 + 1 + 1 + 1 + 1 + 1 + 1 + 1 by omega, show ¬ v = v + 1 + 1 + 1 + 1 + 1 + 1 + 1 + 1 + 1 + 1 + 1 + 1 by omega]
  · simp [uI, zI, up, show ¬ v = v + 1 by omega, show ¬ v = v + 1 + 1 by omega, show ¬ v = v + 1 + 1 + 1 by omega, show ¬ v = v + 1 + 1 + 1 + 1 by omega, show ¬ v = v + 1 + 1 + 1 + 1 + 1 by omega, show ¬ v = v + 1 + 1 + 1 + 1 + 1 + 1 by omega, show ¬ v = v + 1 + 1 + 1 + 1 + 1 + 1 + 1 by omega, show ¬ v = v + 1 + 1 + 1 + 1 + 1 + 1 + 1 + 1 by omega, show ¬ v = v + 1 + 1 + 1 + 1 + 1 + 1 + 1 + 1 + 1 by omega, show ¬ v = v + 1 + 1 + 1 + 1 + 1 + 1 + 1 + 1 + 1 + 1 by omega, show ¬ v = v + 1 + 1 + 1 + 1 + 1 + 1 + 1 + 1 + 1 + 1 + 1 by omega, show ¬ v = v + 1 + 1 + 1 + 1 + 1 + 1 + 1 + 1 + 1 + 1 + 1 + 1 by omega]
  · simp [uI, zI, up, show ¬ v = v + 1 by omega, show ¬ v = v + 1 + 1 by omega, show ¬ v = v + 1 + 1 + 1 by omega, show ¬ v = v + 1 + 1 + 1 + 1 by omega, show ¬ v = v + 1 + 1 + 1 + 1 + 1 by omega, show ¬ v = v + 1 + 1 + 1 + 1 + 1 + 1 by omega, show ¬ v = v + 1 + 1 + 1 + 1 + 1 + 1 + 1 by omega, show ¬ v = v + 1 + 1 + 1 + 1 + 1 + 1 + 1 + 1 by omega, show ¬ v = v + 1 + 1 + 1 + 1 + 1 + 1 + 1 + 1 + 1 by omega, show ¬ v = v + 1 + 1 + 1 + 1 + 1 + 1 + 1 + 1 + 1 + 1 by omega, show ¬ v = v + 1 + 1 + 1 + 1 + 1 + 1 + 1 + 1 + 1 + 1 + 1 by omega, show ¬ v = v + 1 + 1 + 1 + 1 + 1 + 1 + 1 + 1 + 1 + 1 + 1 + 1 by omega]
  · simp [uI, zI, up, show ¬ v = v + 1 by omega, show ¬ v = v + 1 + 1 by omega, show ¬ v = v + 1 + 1 + 1 by omega, show ¬ v = v + 1 + 1 + 1 + 1 by omega, show ¬ v = v + 1 + 1 + 1 + 1 + 1 by omega, show ¬ v = v + 1 + 1 + 1 + 1 + 1 + 1 by omega, show ¬ v = v + 1 + 1 + 1 + 1 + 1 + 1 + 1 by omega, show ¬ v = v + 1 + 1 + 1 + 1 + 1 + 1 + 1 + 1 by omega, show ¬ v = v + 1 + 1 + 1 + 1 + 1 + 1 + 1 + 1 + 1 by omega, show ¬ v = v + 1 + 1 + 1 + 1 + 1 + 1 + 1 + 1 + 1 + 1 by omega, show ¬ v = v + 1 + 1 + 1 + 1 + 1 + 1 + 1 + 1 + 1 + 1 + 1 by omega, show ¬ v = v + 1 + 1 + 1 + 1 + 1 + 1 + 1 + 1 + 1 + 1 + 1 + 1 by omega]
  · simp [uI, zI, up, show ¬ v = v + 1 by omega, show ¬ v = v + 1 + 1 by omega, show ¬ v = v + 1 + 1 + 1 by omega, show ¬ v = v + 1 + 1 + 1 + 1 by omega, show ¬ v = v + 1 + 1 + 1 + 1 + 1 by omega, show ¬ v = v + 1 + 1 + 1 + 1 + 1 + 1 by omega, show ¬ v = v + 1 + 1 + 1 + 1 + 1 + 1 + 1 by omega, show ¬ v = v + 1 + 1 + 1 + 1 + 1 + 1 + 1 + 1 by omega, show ¬ v = v + 1 + 1 + 1 + 1 + 1 + 1 + 1 + 1 + 1 by omega, show ¬ v = v + 1 + 1 + 1 + 1 + 1 + 1 + 1 + 1 + 1 + 1 by omega, show ¬ v = v + 1 + 1 + 1 + 1 + 1 + 1 + 1 + 1 + 1 + 1 + 1 by omega, show ¬ v = v + 1 + 1 + 1 + 1 + 1 + 1 + 1 + 1 + 1 + 1 + 1 + 1 by omega]
  · simp [uI, zI, up, show ¬ v = v + 1 by omega, show ¬ v = v + 1 + 1 by omega, show ¬ v = v + 1 + 1 + 1 by omega, show ¬ v = v + 1 + 1 + 1 + 1 by omega, show ¬ v = v + 1 + 1 + 1 + 1 + 1 by omega, show ¬ v = v + 1 + 1 + 1 + 1 + 1 + 1 by omega, show ¬ v = v + 1 + 1 + 1 + 1 + 1 + 1 + 1 by omega, show ¬ v = v + 1 + 1 + 1 + 1 + 1 + 1 + 1 + 1 by omega, show ¬ v = v + 1 + 1 + 1 + 1 + 1 + 1 + 1 + 1 + 1 by omega, show ¬ v = v + 1 + 1 + 1 + 1 + 1 + 1 + 1 + 1 + 1 + 1 by omega, show ¬ v = v + 1 + 1 + 1 + 1 + 1 + 1 + 1 + 1 + 1 + 1 + 1 by omega, show ¬ v = v + 1 + 1 + 1 + 1 + 1 + 1 + 1 + 1 + 1 + 1 + 1 + 1 by omega]
  · simp [uI, zI, up, show ¬ v = v + 1 by omega, show ¬ v = v + 1 + 1 by omega, show ¬ v = v + 1 + 1 + 1 by omega, show ¬ v = v + 1 + 1 + 1 + 1 by omega, show ¬ v = v + 1 + 1 + 1 + 1 + 1 by omega, show ¬ v = v + 1 + 1 + 1 + 1 + 1 + 1 by omega, show ¬ v = v + 1 + 1 + 1 + 1 + 1 + 1 + 1 by omega, show ¬ v = v + 1 + 1 + 1 + 1 + 1 + 1 + 1 + 1 by omega, show ¬ v = v + 1 + 1 + 1 + 1 + 1 + 1 + 1 + 1 + 1 by omega, show ¬ v = v + 1 + 1 + 1 + 1 + 1 + 1 + 1 + 1 + 1 + 1 by omega, show ¬ v = v + 1 + 1 + 1 + 1 + 1 + 1 + 1 + 1 + 1 + 1 + 1 by omega, show ¬ v = v + 1 + 1 + 1 + 1 + 1 + 1 + 1 + 1 + 1 + 1 + 1 + 1 by omega]
  · repeat' (first | exact gW.rf | refine gW.pi ?_ | refine gW.pr ?_ | refine gW.nw ?_ (by omega))
theorem c_C_init (hK : K v = (8, 2)) : tw_M l G 2 1 20 mC_init [vr (some v)] (K, I, Q, v + 1) (fun r h' => r = none ∧ ∃ K' J R, h' = (K', J, R, v + 2) ∧ (K' (v + 1) = (14, 20) ∧ R v 0 = some (v + 1) ∧ J v 1 = 0) ∧ gW K I Q v (v + 2) K' J R) := by
  refine tw_intro okC_init (Nat.le_of_ble_eq_true rfl) ?_
  refine ar_aloadn (k := 0) rfl rfl ?_
  refine ar_obj (k := 1) rfl lbC_3 (by decide) (Nat.le_of_ble_eq_true rfl) ?_
  refine ar_aloadn (k := 2) rfl rfl ?_
  refine ar_bipush (k := 3) rfl (by decide) ?_
  refine br_newai (k := 4) (N := 20) rfl acI rfl (by decide) ⟨by (try dsimp only); omega, by decide⟩ ?_
  have hK4 : (zK (K) (v + 1) (14, 20)) v = (8, 2) := by
    show (if v = v + 1 then _ else _) = _
    rw [if_neg (by omega)]; exact hK
  refine br_putFR (k := 5) rfl (show tK _ v (8, 2) from ⟨hK4, by (try dsimp only); omega⟩) flC_9_8 (by decide) rfl rfl (fun _ _ _ q => by cases q; exact ⟨rfl, rfl, _, rfl, rfl⟩) ?_
  refine ar_aloadn (k := 6) rfl rfl ?_
  refine ar_iconst (k := 7) rfl ?_
  refine br_putIz (k := 8) (z := 1) rfl (show tK _ v (8, 2) from ⟨hK4, by (try dsimp only); omega⟩) flC_15_8 (by decide) rfl (fun _ _ _ q => by cases q; exact ⟨rfl, rfl⟩) rfl ?_
  refine ar_ret (k := 9) rfl rfl rfl (Nat.le_refl _) ?_
  refine ⟨rfl, _, _, _, rfl, ⟨?_, ?_, ?_⟩, ?_⟩
  · simp [zK]
  · simp [uQ, zQ, upQ, show ¬ v = v + 1 by omega]
  · simp [uI, zI, up, show ¬ v = v + 1 by omega]
  · repeat' (first | exact gW.rf | refine gW.pi ?_ | refine gW.pr ?_ | refine gW.nw ?_ (by omega))
end CY2
