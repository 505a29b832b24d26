theorem acZ : Cond.arrayClass .boolean ∈ tw_tbl := tw_in 1238 (by decide +kernel) rfl
theorem lbR_3 : tw_LB "TwinToolsModel" 3 := ⟨tw_in 1168 (by decide +kernel) rfl, tw_in 99 (by decide +kernel) rfl, tw_in 100 (by decide +kernel) rfl⟩
section CU1
variable {l : Launch} {G : tG} {M : tM} {d mc ms n0 c2 : Nat} {P : Option tV → tH → Prop} {ls : List (Nat × tV)} {st : List tV} {k pc nx tg : Nat} {K : Nat → Nat × Nat} {I : Nat → Int → Int} {Q : Nat → Int → Option Nat} {n : Nat}
theorem br_newaz {N : Nat} {z : Int} (hd : M.2.2.2.2[k]? = some (pc, .newarray .boolean, nx, tg)) (hw : Cond.arrayClass .boolean ∈ tw_tbl) (hz : z = (N : Int)) (hN : N < 10000) (hm : n - n0 + 1 ≤ mc ∧ c2 + N ≤ ms) (kk : tw_AW l G M d mc ms n0 (c2 + N) P nx ls (vr (some n) :: st) (zK K n (15, N), zI I n, zQ Q n, n + 1)) : tw_AW l G M d mc ms n0 c2 P pc ls (vi z :: st) (K, I, Q, n) := ar_newa_boolean hd hw hz hN hm kk
end CU1
section CU2
variable {l : Launch} {G : tG} {K : Nat → Nat × Nat} {I J0 : Nat → Int → Int} {Q : Nat → Int → Option Nat} {n : Nat} {s : Int → Int} {v : Nat}
theorem l_R_init {ms c2 : Nat} (hc : c2 ≤ ms) (h0 : K v = (12, 23)) (h1 : K (v + 1) = (14, 984)) (hr : Q v ((1 : Nat) : Int) = some (v + 1)) : ∀ (k : Nat) (i : Nat) (J : Nat → Int → Int), i + k = 32 → (J (v + 1) = fun x => if x = 6 ∨ (42 ≤ x ∧ x < 42 + (i : Int)) then -1 else 0) → (∀ a, a ≠ v + 1 → J a = J0 a) → tw_AW l G mR_init 2 7 ms (v + 1) c2 (fun r h' => r = none ∧ ∃ J, h' = (K, J, Q, v + 1 + 7) ∧ J (v + 1) = rS0 ∧ ∀ a, a ≠ v + 1 → J a = J0 a) 71 [(1, vi (i : Int)), (0, vr (some v))] [] (K, J, Q, v + 1 + 7) := by
  have k0 : ∀ J, tK (K, J, Q, v + 1 + 7) v (12, 23) := fun J => ⟨h0, by show v < v + 1 + 7; omega⟩
  have k1 : ∀ J, tK (K, J, Q, v + 1 + 7) (v + 1) (14, 984) := fun J => ⟨h1, by show v + 1 < v + 1 + 7; omega⟩
  intro k
  induction k with
  | zero =>
    intro i J hi hs hf
    refine ar_iloadn (k := 37) rfl rfl ?_
    refine ar_bipush (k := 38) rfl (by decide) ?_
    refine ar_icmp_ge (k := 39) rfl (by omega) (by omega) (fun c39 => ?_) (fun c39 => ?_)
    · refine ar_ret (k := 49) rfl rfl rfl hc ?_
      refine ⟨rfl, J, rfl, ?_, hf⟩
      rw [hs]
      funext x
      unfold rS0
      rw [show i = 32 by omega]
      rfl
    · exfalso; omega
  | succ k ih =>
    intro i J hi hs hf
    refine ar_iloadn (k := 37) rfl rfl ?_
    refine ar_bipush (k := 38) rfl (by decide) ?_
    refine ar_icmp_ge (k := 39) rfl (by omega) (by omega) (fun c39 => ?_) (fun c39 => ?_)
    · exfalso; omega
    · refine ar_aloadn (k := 40) rfl rfl ?_
      refine br_getR (k := 41) rfl (k0 _) flR_9_12 (by decide) rfl hr ?_
      refine ar_bipush (k := 42) rfl (by decide) ?_
      refine ar_iloadn (k := 43) rfl rfl ?_
      refine ar_iadd (k := 44) rfl ?_
      refine ar_iconst (k := 45) rfl ?_
      refine br_iastJ (k := 46) rfl (k1 _) (by omega) (by omega) (by decide) (fun I46 e46 => ?_)
      skip
      refine ar_iinc (k := 47) (l2 := [(1, _), (0, _)]) rfl (by decide) rfl rfl ?_
      refine ar_goto (k := 48) rfl ?_
      refine ar_sub (l2 := [(1, vi ((i + 1 : Nat) : Int)), (0, vr (some v))]) (tw_s (tw_e 0 rfl (by omega)) (tw_s (tw_g 1 rfl) tw_s0)) ?_
      refine ih (i + 1) I46 (by omega) ?_ (fun a ha => by rw [e46, uI_off _ _ _ ha]; exact hf a ha)
      funext x
      rw [e46, uI_at, hs]
      by_cases g : x = 42 + (i : Int)
      · rw [if_pos g, if_pos (by omega)]
      · rw [if_neg g]
        show (if x = 6 ∨ (42 ≤ x ∧ x < 42 + (i : Int)) then (-1 : Int) else 0) = _
        by_cases g2 : x = 6 ∨ (42 ≤ x ∧ x < 42 + (i : Int))
        · rw [if_pos g2, if_pos (by omega)]
        · rw [if_neg g2, if_neg (by omega)]
theorem c_R_init (hK : K v = (12, 23)) : tw_M l G 2 7 2077 mR_init [vr (some v)] (K, I, Q, v + 1) (fun r h' => r = none ∧ ∃ K' J R, h' = (K', J, R, v + 1 + 7) ∧ (K' (v + 1) = (14, 984) ∧ K' (v + 2) = (14, 984) ∧ K' (v + 3) = (14, 5) ∧ K' (v + 4) = (15, 64) ∧ K' (v + 5) = (14, 10) ∧ K' (v + 6) = (14, 10) ∧ K' (v + 7) = (14, 20) ∧ R v 1 = some (v + 1) ∧ R v 2 = some (v + 2) ∧ R v 9 = some (v + 3) ∧ R v 10 = some (v + 4) ∧ R v 14 = some (v + 5) ∧ R v 15 = some (v + 6) ∧ R v 18 = some (v + 7)) ∧ J (v + 1) = rS0 ∧ (∀ a, v + 1 < a → a < v + 8 → J a = fun _ => 0) ∧ J v = I v ∧ (∀ a, a ≤ v → K' a = K a) ∧ (∀ a, a < v → J a = I a) ∧ (∀ a, a < v → R a = Q a)) := by
  refine tw_intro okR_init (Nat.le_of_ble_eq_true rfl) ?_
  refine ar_aloadn (k := 0) rfl rfl ?_
  refine ar_obj (k := 1) rfl lbR_3 (by decide) (Nat.le_of_ble_eq_true rfl) ?_
  refine ar_aloadn (k := 2) rfl rfl ?_
  refine ar_sipush (k := 3) rfl (by decide) ?_
  refine br_newai (k := 4) (N := 984) rfl acI rfl (by decide) ⟨by (try dsimp only); omega, by decide⟩ ?_
  have hK4 : (zK (K) (v + 1) (14, 984)) v = (12, 23) := by
    show (if v = v + 1 then _ else _) = _
    rw [if_neg (by omega)]; exact hK
  refine br_putFR (k := 5) rfl (show tK _ v (12, 23) from ⟨hK4, by (try dsimp only); omega⟩) flR_9_12 (by decide) rfl rfl (fun _ _ _ q => by cases q; exact ⟨rfl, rfl, _, rfl, rfl⟩) ?_
  refine ar_aloadn (k := 6) rfl rfl ?_
  refine ar_sipush (k := 7) rfl (by decide) ?_
  refine br_newai (k := 8) (N := 984) rfl acI rfl (by decide) ⟨by (try dsimp only); omega, by decide⟩ ?_
  have hK8 : (zK (zK (K) (v + 1) (14, 984)) (v + 1 + 1) (14, 984)) v = (12, 23) := by
    show (if v = v + 1 + 1 then _ else _) = _
    rw [if_neg (by omega)]; exact hK4
  refine br_putFR (k := 9) rfl (show tK _ v (12, 23) from ⟨hK8, by (try dsimp only); omega⟩) flR_15_12 (by decide) rfl rfl (fun _ _ _ q => by cases q; exact ⟨rfl, rfl, _, rfl, rfl⟩) ?_
  refine ar_aloadn (k := 10) rfl rfl ?_
  refine ar_iconst (k := 11) rfl ?_
  refine br_newai (k := 12) (N := 5) rfl acI rfl (by decide) ⟨by (try dsimp only); omega, by decide⟩ ?_
  have hK12 : (zK (zK (zK (K) (v + 1) (14, 984)) (v + 1 + 1) (14, 984)) (v + 1 + 1 + 1) (14, 5)) v = (12, 23) := by
    show (if v = v + 1 + 1 + 1 then _ else _) = _
    rw [if_neg (by omega)]; exact hK8
  refine br_putFR (k := 13) rfl (show tK _ v (12, 23) from ⟨hK12, by (try dsimp only); omega⟩) flR_18_12 (by decide) rfl rfl (fun _ _ _ q => by cases q; exact ⟨rfl, rfl, _, rfl, rfl⟩) ?_
  refine ar_aloadn (k := 14) rfl rfl ?_
  refine ar_bipush (k := 15) rfl (by decide) ?_
  refine br_newaz (k := 16) (N := 64) rfl acZ rfl (by decide) ⟨by (try dsimp only); omega, by decide⟩ ?_
  have hK16 : (zK (zK (zK (zK (K) (v + 1) (14, 984)) (v + 1 + 1) (14, 984)) (v + 1 + 1 + 1) (14, 5)) (v + 1 + 1 + 1 + 1) (15, 64)) v = (12, 23) := by
    show (if v = v + 1 + 1 + 1 + 1 then _ else _) = _
    rw [if_neg (by omega)]; exact hK12
  refine br_putFR (k := 17) rfl (show tK _ v (12, 23) from ⟨hK16, by (try dsimp only); omega⟩) flR_21_12 (by decide) rfl rfl (fun _ _ _ q => by cases q; exact ⟨rfl, rfl, _, rfl, rfl⟩) ?_
  refine ar_aloadn (k := 18) rfl rfl ?_
  refine ar_bipush (k := 19) rfl (by decide) ?_
  refine br_newai (k := 20) (N := 10) rfl acI rfl (by decide) ⟨by (try dsimp only); omega, by decide⟩ ?_
  have hK20 : (zK (zK (zK (zK (zK (K) (v + 1) (14, 984)) (v + 1 + 1) (14, 984)) (v + 1 + 1 + 1) (14, 5)) (v + 1 + 1 + 1 + 1) (15, 64)) (v + 1 + 1 + 1 + 1 + 1) (14, 10)) v = (12, 23) := by
    show (if v = v + 1 + 1 + 1 + 1 + 1 then _ else _) = _
    rw [if_neg (by omega)]; exact hK16
  refine br_putFR (k := 21) rfl (show tK _ v (12, 23) from ⟨hK20, by (try dsimp only); omega⟩) flR_25_12 (by decide) rfl rfl (fun _ _ _ q => by cases q; exact ⟨rfl, rfl, _, rfl, rfl⟩) ?_
  refine ar_aloadn (k := 22) rfl rfl ?_
  refine ar_bipush (k := 23) rfl (by decide) ?_
  refine br_newai (k := 24) (N := 10) rfl acI rfl (by decide) ⟨by (try dsimp only); omega, by decide⟩ ?_
  have hK24 : (zK (zK (zK (zK (zK (zK (K) (v + 1) (14, 984)) (v + 1 + 1) (14, 984)) (v + 1 + 1 + 1) (14, 5)) (v + 1 + 1 + 1 + 1) (15, 64)) (v + 1 + 1 + 1 + 1 + 1) (14, 10)) (v + 1 + 1 + 1 + 1 + 1 + 1) (14, 10)) v = (12, 23) := by
    show (if v = v + 1 + 1 + 1 + 1 + 1 + 1 then _ else _) = _
    rw [if_neg (by omega)]; exact hK20
  refine br_putFR (k := 25) rfl (show tK _ v (12, 23) from ⟨hK24, by (try dsimp only); omega⟩) flR_28_12 (by decide) rfl rfl (fun _ _ _ q => by cases q; exact ⟨rfl, rfl, _, rfl, rfl⟩) ?_
  refine ar_aloadn (k := 26) rfl rfl ?_
  refine ar_bipush (k := 27) rfl (by decide) ?_
  refine br_newai (k := 28) (N := 20) rfl acI rfl (by decide) ⟨by (try dsimp only); omega, by decide⟩ ?_
  have hK28 : (zK (zK (zK (zK (zK (zK (zK (K) (v + 1) (14, 984)) (v + 1 + 1) (14, 984)) (v + 1 + 1 + 1) (14, 5)) (v + 1 + 1 + 1 + 1) (15, 64)) (v + 1 + 1 + 1 + 1 + 1) (14, 10)) (v + 1 + 1 + 1 + 1 + 1 + 1) (14, 10)) (v + 1 + 1 + 1 + 1 + 1 + 1 + 1) (14, 20)) v = (12, 23) := by
    show (if v = v + 1 + 1 + 1 + 1 + 1 + 1 + 1 then _ else _) = _
    rw [if_neg (by omega)]; exact hK24
  refine br_putFR (k := 29) rfl (show tK _ v (12, 23) from ⟨hK28, by (try dsimp only); omega⟩) flR_31_12 (by decide) rfl rfl (fun _ _ _ q => by cases q; exact ⟨rfl, rfl, _, rfl, rfl⟩) ?_
  refine ar_aloadn (k := 30) rfl rfl ?_
  refine br_getR (k := 31) rfl (show tK _ v (12, 23) from ⟨hK28, by (try dsimp only); omega⟩) flR_9_12 (by decide) rfl (show _ = some (v + 1) from by simp [uQ, zQ, upQ, show ¬ v = v + 1 by omega, show ¬ v = v + 1 + 1 by omega, show ¬ v = v + 1 + 1 + 1 by omega, show ¬ v = v + 1 + 1 + 1 + 1 by omega, show ¬ v = v + 1 + 1 + 1 + 1 + 1 by omega, show ¬ v = v + 1 + 1 + 1 + 1 + 1 + 1 by omega, show ¬ v = v + 1 + 1 + 1 + 1 + 1 + 1 + 1 by omega]) ?_
  refine ar_bipush (k := 32) rfl (by decide) ?_
  refine ar_iconst (k := 33) rfl ?_
  refine br_iastJ (k := 34) rfl (show tK _ (v + 1) (14, 984) from ⟨by simp [zK], by (try dsimp only); omega⟩) (by omega) (by omega) (by decide) (fun I34 e34 => ?_)
  skip
  refine ar_iconst (k := 35) rfl ?_
  refine ar_istoren (k := 36) (l2 := [(1, _), (0, _)]) rfl (by decide) rfl ?_
  refine ar_sub (l2 := [(1, vi ((0 : Nat) : Int)), (0, vr (some v))]) (tw_s (tw_e 0 rfl (by rfl)) (tw_s (tw_g 1 rfl) tw_s0)) ?_
  have g : gW K I Q v (v + 1 + 1 + 1 + 1 + 1 + 1 + 1 + 1) (zK (zK (zK (zK (zK (zK (zK (K) (v + 1) (14, 984)) (v + 1 + 1) (14, 984)) (v + 1 + 1 + 1) (14, 5)) (v + 1 + 1 + 1 + 1) (15, 64)) (v + 1 + 1 + 1 + 1 + 1) (14, 10)) (v + 1 + 1 + 1 + 1 + 1 + 1) (14, 10)) (v + 1 + 1 + 1 + 1 + 1 + 1 + 1) (14, 20)) (zI (zI (zI (zI (zI (zI (zI (I) (v + 1)) (v + 1 + 1)) (v + 1 + 1 + 1)) (v + 1 + 1 + 1 + 1)) (v + 1 + 1 + 1 + 1 + 1)) (v + 1 + 1 + 1 + 1 + 1 + 1)) (v + 1 + 1 + 1 + 1 + 1 + 1 + 1)) (uQ (zQ (uQ (zQ (uQ (zQ (uQ (zQ (uQ (zQ (uQ (zQ (uQ (zQ (Q) (v + 1)) v ((1 : Nat) : Int) (some (v + 1))) (v + 1 + 1)) v ((2 : Nat) : Int) (some (v + 1 + 1))) (v + 1 + 1 + 1)) v ((9 : Nat) : Int) (some (v + 1 + 1 + 1))) (v + 1 + 1 + 1 + 1)) v ((10 : Nat) : Int) (some (v + 1 + 1 + 1 + 1))) (v + 1 + 1 + 1 + 1 + 1)) v ((14 : Nat) : Int) (some (v + 1 + 1 + 1 + 1 + 1))) (v + 1 + 1 + 1 + 1 + 1 + 1)) v ((15 : Nat) : Int) (some (v + 1 + 1 + 1 + 1 + 1 + 1))) (v + 1 + 1 + 1 + 1 + 1 + 1 + 1)) v ((18 : Nat) : Int) (some (v + 1 + 1 + 1 + 1 + 1 + 1 + 1))) := by
    repeat' (first | exact gW.rf | refine gW.pi ?_ | refine gW.pr ?_ | refine gW.nw ?_ (by omega))
  have hJ34 : I34 (v + 1) = fun x => if x = 6 ∨ (42 ≤ x ∧ x < 42 + ((0 : Nat) : Int)) then -1 else 0 := by
    rw [e34]
    funext x
    rw [uI_at, g.2.2.2.1 (v + 1) (by omega) (by omega)]
    by_cases h : x = 6
    · rw [if_pos h, if_pos (Or.inl h)]
    · rw [if_neg h, if_neg (by omega)]
  refine tw_pst (fun r h' q => ?_) (l_R_init (J0 := I34) (Nat.le_refl _) hK28 (by simp [zK]) (by simp [uQ, zQ, upQ, show ¬ v = v + 1 by omega, show ¬ v = v + 1 + 1 by omega, show ¬ v = v + 1 + 1 + 1 by omega, show ¬ v = v + 1 + 1 + 1 + 1 by omega, show ¬ v = v + 1 + 1 + 1 + 1 + 1 by omega, show ¬ v = v + 1 + 1 + 1 + 1 + 1 + 1 by omega, show ¬ v = v + 1 + 1 + 1 + 1 + 1 + 1 + 1 by omega]) 32 0 I34 rfl hJ34 (fun a ha => rfl))
  · obtain ⟨q1, L, q2, q3, q4⟩ := q
    refine ⟨q1, _, L, _, q2, ⟨?_, ?_, ?_, ?_, ?_, ?_, ?_, ?_, ?_, ?_, ?_, ?_, ?_, ?_⟩, q3, fun a a1 a2 => ?_, ?_, g.1, fun a ha => ?_, g.2.2.1⟩
    · simp [zK]
    · simp [zK]
    · simp [zK]
    · simp [zK]
    · simp [zK]
    · simp [zK]
    · simp [zK]
    · simp [uQ, zQ, upQ, show ¬ v = v + 1 by omega, show ¬ v = v + 1 + 1 by omega, show ¬ v = v + 1 + 1 + 1 by omega, show ¬ v = v + 1 + 1 + 1 + 1 by omega, show ¬ v = v + 1 + 1 + 1 + 1 + 1 by omega, show ¬ v = v + 1 + 1 + 1 + 1 + 1 + 1 by omega, show ¬ v = v + 1 + 1 + 1 + 1 + 1 + 1 + 1 by omega]
    · simp [uQ, zQ, upQ, show ¬ v = v + 1 by omega, show ¬ v = v + 1 + 1 by omega, show ¬ v = v + 1 + 1 + 1 by omega, show ¬ v = v + 1 + 1 + 1 + 1 by omega, show ¬ v = v + 1 + 1 + 1 + 1 + 1 by omega, show ¬ v = v + 1 + 1 + 1 + 1 + 1 + 1 by omega, show ¬ v = v + 1 + 1 + 1 + 1 + 1 + 1 + 1 by omega]
    · simp [uQ, zQ, upQ, show ¬ v = v + 1 by omega, show ¬ v = v + 1 + 1 by omega, show ¬ v = v + 1 + 1 + 1 by omega, show ¬ v = v + 1 + 1 + 1 + 1 by omega, show ¬ v = v + 1 + 1 + 1 + 1 + 1 by omega, show ¬ v = v + 1 + 1 + 1 + 1 + 1 + 1 by omega, show ¬ v = v + 1 + 1 + 1 + 1 + 1 + 1 + 1 by omega]
    · simp [uQ, zQ, upQ, show ¬ v = v + 1 by omega, show ¬ v = v + 1 + 1 by omega, show ¬ v = v + 1 + 1 + 1 by omega, show ¬ v = v + 1 + 1 + 1 + 1 by omega, show ¬ v = v + 1 + 1 + 1 + 1 + 1 by omega, show ¬ v = v + 1 + 1 + 1 + 1 + 1 + 1 by omega, show ¬ v = v + 1 + 1 + 1 + 1 + 1 + 1 + 1 by omega]
    · simp [uQ, zQ, upQ, show ¬ v = v + 1 by omega, show ¬ v = v + 1 + 1 by omega, show ¬ v = v + 1 + 1 + 1 by omega, show ¬ v = v + 1 + 1 + 1 + 1 by omega, show ¬ v = v + 1 + 1 + 1 + 1 + 1 by omega, show ¬ v = v + 1 + 1 + 1 + 1 + 1 + 1 by omega, show ¬ v = v + 1 + 1 + 1 + 1 + 1 + 1 + 1 by omega]
    · simp [uQ, zQ, upQ, show ¬ v = v + 1 by omega, show ¬ v = v + 1 + 1 by omega, show ¬ v = v + 1 + 1 + 1 by omega, show ¬ v = v + 1 + 1 + 1 + 1 by omega, show ¬ v = v + 1 + 1 + 1 + 1 + 1 by omega, show ¬ v = v + 1 + 1 + 1 + 1 + 1 + 1 by omega, show ¬ v = v + 1 + 1 + 1 + 1 + 1 + 1 + 1 by omega]
    · simp [uQ, zQ, upQ, show ¬ v = v + 1 by omega, show ¬ v = v + 1 + 1 by omega, show ¬ v = v + 1 + 1 + 1 by omega, show ¬ v = v + 1 + 1 + 1 + 1 by omega, show ¬ v = v + 1 + 1 + 1 + 1 + 1 by omega, show ¬ v = v + 1 + 1 + 1 + 1 + 1 + 1 by omega, show ¬ v = v + 1 + 1 + 1 + 1 + 1 + 1 + 1 by omega]
    · rw [q4 a (by omega), e34, uI_off _ _ _ (by omega)]; exact g.2.2.2.1 a (by omega) (by omega)
    · rw [q4 v (by omega), e34, uI_off _ _ _ (by omega)]
      simp [zI, show ¬ v = v + 1 by omega, show ¬ v = v + 1 + 1 by omega, show ¬ v = v + 1 + 1 + 1 by omega, show ¬ v = v + 1 + 1 + 1 + 1 by omega, show ¬ v = v + 1 + 1 + 1 + 1 + 1 by omega, show ¬ v = v + 1 + 1 + 1 + 1 + 1 + 1 by omega, show ¬ v = v + 1 + 1 + 1 + 1 + 1 + 1 + 1 by omega]
    · rw [q4 a (by omega), e34, uI_off _ _ _ (by omega)]; exact g.2.1 a ha
end CU2
