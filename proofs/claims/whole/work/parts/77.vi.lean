theorem acI : Cond.arrayClass .int ∈ tw_tbl := tw_in 199 (by decide +kernel) rfl
theorem acB : Cond.arrayClass .byte ∈ tw_tbl := tw_in 198 (by decide +kernel) rfl
section CZ1
variable {l : Launch} {G : tG} {M : tM} {d mc ms n0 c2 : Nat} {P : Option tV → tH → Prop} {ls : List (Nat × tV)} {st : List tV} {k pc nx tg : Nat} {K : Nat → Nat × Nat} {I : Nat → Int → Int} {Q : Nat → Int → Option Nat} {n : Nat}
theorem br_newai {N : Nat} {z : Int} (hd : M.2.2.2.2[k]? = some (pc, .newarray .int, nx, tg)) (hw : Cond.arrayClass .int ∈ tw_tbl) (hz : z = (N : Int)) (hN : N < 10000) (hm : n - n0 + 1 ≤ mc ∧ c2 + N ≤ ms) (kk : tw_AW l G M d mc ms n0 (c2 + N) P nx ls (vr (some n) :: st) (zK K n (14, N), zI I n, zQ Q n, n + 1)) : tw_AW l G M d mc ms n0 c2 P pc ls (vi z :: st) (K, I, Q, n) := ar_newa_int hd hw hz hN hm kk
theorem br_newab {N : Nat} {z : Int} (hd : M.2.2.2.2[k]? = some (pc, .newarray .byte, nx, tg)) (hw : Cond.arrayClass .byte ∈ tw_tbl) (hz : z = (N : Int)) (hN : N < 10000) (hm : n - n0 + 1 ≤ mc ∧ c2 + N ≤ ms) (kk : tw_AW l G M d mc ms n0 (c2 + N) P nx ls (vr (some n) :: st) (zK K n (13, N), zI I n, zQ Q n, n + 1)) : tw_AW l G M d mc ms n0 c2 P pc ls (vi z :: st) (K, I, Q, n) := ar_newa_byte hd hw hz hN hm kk
end CZ1
/-- a valley's cells as they are made -/
def VI (K : Nat → Nat × Nat) (Q : Nat → Int → Option Nat) (v : Nat) : Prop := (K v = (9, 12) ∧ K (v + 1) = (14, 10) ∧ K (v + 2) = (14, 10) ∧ K (v + 3) = (14, 100) ∧ K (v + 4) = (14, 5) ∧ K (v + 5) = (14, 13)) ∧ (Q v 1 = some (v + 1) ∧ Q v 2 = some (v + 2) ∧ Q v 4 = some (v + 3) ∧ Q v 6 = some (v + 4) ∧ Q v 7 = some (v + 5) ∧ Q v 8 = some (v + 6)) ∧ K (v + 6) = (13, 100)
theorem VI.vs {K : Nat → Nat × Nat} {Q : Nat → Int → Option Nat} {v m : Nat} (h : VI K Q v) (hv : 78 ≤ v) (hm : v + 7 ≤ m) : VS K Q m v := by
  have e : vX v = v + 6 := by unfold vX; rw [if_neg (by omega)]
  obtain ⟨h1, ⟨q1, q2, q3, q4, q5, q6⟩, h3⟩ := h
  exact ⟨⟨by omega, by omega⟩, h1, q1, q2, q3, q4, q5, by rw [e]; exact q6, by rw [e]; exact h3, by rw [e]; omega⟩
section CZ2
variable {l : Launch} {G : tG} {K : Nat → Nat × Nat} {I : Nat → Int → Int} {Q : Nat → Int → Option Nat} {n : Nat} {s : Int → Int} {v : Nat}
theorem c_V_init (hK : K v = (9, 12)) : tw_M l G 2 6 238 mV_init [vr (some v)] (K, I, Q, v + 1) (fun r h' => r = none ∧ ∃ K' J R, h' = (K', J, R, v + 7) ∧ VI K' R v ∧ (∀ a, a ≤ v → K' a = K a) ∧ (∀ a, a < v → J a = I a) ∧ (∀ a, a < v → R a = Q a)) := by
  refine tw_intro okV_init (Nat.le_of_ble_eq_true rfl) ?_
  refine ar_aloadn (k := 0) rfl rfl ?_
  refine ar_obj (k := 1) rfl lbV_3 (by decide) (Nat.le_of_ble_eq_true rfl) ?_
  refine ar_aloadn (k := 2) rfl rfl ?_
  refine ar_bipush (k := 3) rfl (by decide) ?_
  refine br_putIz (k := 4) (z := 0) rfl (show tK _ v (9, 12) from ⟨hK, by (try dsimp only); omega⟩) flV_11_9 (by decide) rfl (fun _ _ _ q => by cases q; exact ⟨rfl, rfl⟩) rfl ?_
  refine ar_aloadn (k := 5) rfl rfl ?_
  refine ar_bipush (k := 6) rfl (by decide) ?_
  refine br_newai (k := 7) (N := 10) rfl acI rfl (by decide) ⟨by (try dsimp only); omega, by decide⟩ ?_
  have hK7 : (zK (K) (v + 1) (14, 10)) v = (9, 12) := by
    show (if v = v + 1 then _ else _) = _
    rw [if_neg (by omega)]; exact hK
  refine br_putFR (k := 8) rfl (show tK _ v (9, 12) from ⟨hK7, by (try dsimp only); omega⟩) flV_15_9 (by decide) rfl rfl (fun _ _ _ q => by cases q; exact ⟨rfl, rfl, _, rfl, rfl⟩) ?_
  refine ar_aloadn (k := 9) rfl rfl ?_
  refine ar_bipush (k := 10) rfl (by decide) ?_
  refine br_newai (k := 11) (N := 10) rfl acI rfl (by decide) ⟨by (try dsimp only); omega, by decide⟩ ?_
  have hK11 : (zK (zK (K) (v + 1) (14, 10)) (v + 1 + 1) (14, 10)) v = (9, 12) := by
    show (if v = v + 1 + 1 then _ else _) = _
    rw [if_neg (by omega)]; exact hK7
  refine br_putFR (k := 12) rfl (show tK _ v (9, 12) from ⟨hK11, by (try dsimp only); omega⟩) flV_19_9 (by decide) rfl rfl (fun _ _ _ q => by cases q; exact ⟨rfl, rfl, _, rfl, rfl⟩) ?_
  refine ar_aloadn (k := 13) rfl rfl ?_
  refine ar_iconst (k := 14) rfl ?_
  refine br_putIz (k := 15) (z := 3) rfl (show tK _ v (9, 12) from ⟨hK11, by (try dsimp only); omega⟩) flV_22_9 (by decide) rfl (fun _ _ _ q => by cases q; exact ⟨rfl, rfl⟩) rfl ?_
  refine ar_aloadn (k := 16) rfl rfl ?_
  refine ar_bipush (k := 17) rfl (by decide) ?_
  refine br_newai (k := 18) (N := 100) rfl acI rfl (by decide) ⟨by (try dsimp only); omega, by decide⟩ ?_
  have hK18 : (zK (zK (zK (K) (v + 1) (14, 10)) (v + 1 + 1) (14, 10)) (v + 1 + 1 + 1) (14, 100)) v = (9, 12) := by
    show (if v = v + 1 + 1 + 1 then _ else _) = _
    rw [if_neg (by omega)]; exact hK11
  refine br_putFR (k := 19) rfl (show tK _ v (9, 12) from ⟨hK18, by (try dsimp only); omega⟩) flV_25_9 (by decide) rfl rfl (fun _ _ _ q => by cases q; exact ⟨rfl, rfl, _, rfl, rfl⟩) ?_
  refine ar_aloadn (k := 20) rfl rfl ?_
  refine ar_iconst (k := 21) rfl ?_
  refine br_putIz (k := 22) (z := 5) rfl (show tK _ v (9, 12) from ⟨hK18, by (try dsimp only); omega⟩) flV_28_9 (by decide) rfl (fun _ _ _ q => by cases q; exact ⟨rfl, rfl⟩) rfl ?_
  refine ar_aloadn (k := 23) rfl rfl ?_
  refine ar_iconst (k := 24) rfl ?_
  refine br_newai (k := 25) (N := 5) rfl acI rfl (by decide) ⟨by (try dsimp only); omega, by decide⟩ ?_
  have hK25 : (zK (zK (zK (zK (K) (v + 1) (14, 10)) (v + 1 + 1) (14, 10)) (v + 1 + 1 + 1) (14, 100)) (v + 1 + 1 + 1 + 1) (14, 5)) v = (9, 12) := by
    show (if v = v + 1 + 1 + 1 + 1 then _ else _) = _
    rw [if_neg (by omega)]; exact hK18
  refine br_putFR (k := 26) rfl (show tK _ v (9, 12) from ⟨hK25, by (try dsimp only); omega⟩) flV_31_9 (by decide) rfl rfl (fun _ _ _ q => by cases q; exact ⟨rfl, rfl, _, rfl, rfl⟩) ?_
  refine ar_aloadn (k := 27) rfl rfl ?_
  refine ar_bipush (k := 28) rfl (by decide) ?_
  refine br_newai (k := 29) (N := 13) rfl acI rfl (by decide) ⟨by (try dsimp only); omega, by decide⟩ ?_
  have hK29 : (zK (zK (zK (zK (zK (K) (v + 1) (14, 10)) (v + 1 + 1) (14, 10)) (v + 1 + 1 + 1) (14, 100)) (v + 1 + 1 + 1 + 1) (14, 5)) (v + 1 + 1 + 1 + 1 + 1) (14, 13)) v = (9, 12) := by
    show (if v = v + 1 + 1 + 1 + 1 + 1 then _ else _) = _
    rw [if_neg (by omega)]; exact hK25
  refine br_putFR (k := 30) rfl (show tK _ v (9, 12) from ⟨hK29, by (try dsimp only); omega⟩) flV_34_9 (by decide) rfl rfl (fun _ _ _ q => by cases q; exact ⟨rfl, rfl, _, rfl, rfl⟩) ?_
  refine ar_aloadn (k := 31) rfl rfl ?_
  refine ar_bipush (k := 32) rfl (by decide) ?_
  refine br_newab (k := 33) (N := 100) rfl acB rfl (by decide) ⟨by (try dsimp only); omega, by decide⟩ ?_
  have hK33 : (zK (zK (zK (zK (zK (zK (K) (v + 1) (14, 10)) (v + 1 + 1) (14, 10)) (v + 1 + 1 + 1) (14, 100)) (v + 1 + 1 + 1 + 1) (14, 5)) (v + 1 + 1 + 1 + 1 + 1) (14, 13)) (v + 1 + 1 + 1 + 1 + 1 + 1) (13, 100)) v = (9, 12) := by
    show (if v = v + 1 + 1 + 1 + 1 + 1 + 1 then _ else _) = _
    rw [if_neg (by omega)]; exact hK29
  refine br_putFR (k := 34) rfl (show tK _ v (9, 12) from ⟨hK33, by (try dsimp only); omega⟩) flV_37_9 (by decide) rfl rfl (fun _ _ _ q => by cases q; exact ⟨rfl, rfl, _, rfl, rfl⟩) ?_
  refine ar_aloadn (k := 35) rfl rfl ?_
  refine ar_iconst (k := 36) rfl ?_
  refine br_putIz (k := 37) (z := 9) rfl (show tK _ v (9, 12) from ⟨hK33, by (try dsimp only); omega⟩) flV_41_9 (by decide) rfl (fun _ _ _ q => by cases q; exact ⟨rfl, rfl⟩) rfl ?_
  refine ar_aloadn (k := 38) rfl rfl ?_
  refine ar_iconst (k := 39) rfl ?_
  refine br_putIz (k := 40) (z := 10) rfl (show tK _ v (9, 12) from ⟨hK33, by (try dsimp only); omega⟩) flV_44_9 (by decide) rfl (fun _ _ _ q => by cases q; exact ⟨rfl, rfl⟩) rfl ?_
  refine ar_aloadn (k := 41) rfl rfl ?_
  refine ar_iconst (k := 42) rfl ?_
  refine br_putIz (k := 43) (z := 11) rfl (show tK _ v (9, 12) from ⟨hK33, by (try dsimp only); omega⟩) flV_47_9 (by decide) rfl (fun _ _ _ q => by cases q; exact ⟨rfl, rfl⟩) rfl ?_
  refine ar_ret (k := 44) rfl rfl rfl (Nat.le_refl _) ?_
  refine ⟨rfl, _, _, _, rfl, ⟨⟨?_, ?_, ?_, ?_, ?_, ?_⟩, ⟨?_, ?_, ?_, ?_, ?_, ?_⟩, ?_⟩, fun a ha => ?_, fun a ha => ?_, fun a ha => ?_⟩
  · exact hK33
  · simp [zK]
  · simp [zK]
  · simp [zK]
  · simp [zK]
  · simp [zK]
  · simp [uQ, zQ, upQ, show ¬ v = v + 1 by omega, show ¬ v = v + 1 + 1 by omega, show ¬ v = v + 1 + 1 + 1 by omega, show ¬ v = v + 1 + 1 + 1 + 1 by omega, show ¬ v = v + 1 + 1 + 1 + 1 + 1 by omega, show ¬ v = v + 1 + 1 + 1 + 1 + 1 + 1 by omega]
  · simp [uQ, zQ, upQ, show ¬ v = v + 1 by omega, show ¬ v = v + 1 + 1 by omega, show ¬ v = v + 1 + 1 + 1 by omega, show ¬ v = v + 1 + 1 + 1 + 1 by omega, show ¬ v = v + 1 + 1 + 1 + 1 + 1 by omega, show ¬ v = v + 1 + 1 + 1 + 1 + 1 + 1 by omega]
  · simp [uQ, zQ, upQ, show ¬ v = v + 1 by omega, show ¬ v = v + 1 + 1 by omega, show ¬ v = v + 1 + 1 + 1 by omega, show ¬ v = v + 1 + 1 + 1 + 1 by omega, show ¬ v = v + 1 + 1 + 1 + 1 + 1 by omega, show ¬ v = v + 1 + 1 + 1 + 1 + 1 + 1 by omega]
  · simp [uQ, zQ, upQ, show ¬ v = v + 1 by omega, show ¬ v = v + 1 + 1 by omega, show ¬ v = v + 1 + 1 + 1 by omega, show ¬ v = v + 1 + 1 + 1 + 1 by omega, show ¬ v = v + 1 + 1 + 1 + 1 + 1 by omega, show ¬ v = v + 1 + 1 + 1 + 1 + 1 + 1 by omega]
  · simp [uQ, zQ, upQ, show ¬ v = v + 1 by omega, show ¬ v = v + 1 + 1 by omega, show ¬ v = v + 1 + 1 + 1 by omega, show ¬ v = v + 1 + 1 + 1 + 1 by omega, show ¬ v = v + 1 + 1 + 1 + 1 + 1 by omega, show ¬ v = v + 1 + 1 + 1 + 1 + 1 + 1 by omega]
  · simp [uQ, zQ, upQ, show ¬ v = v + 1 by omega, show ¬ v = v + 1 + 1 by omega, show ¬ v = v + 1 + 1 + 1 by omega, show ¬ v = v + 1 + 1 + 1 + 1 by omega, show ¬ v = v + 1 + 1 + 1 + 1 + 1 by omega, show ¬ v = v + 1 + 1 + 1 + 1 + 1 + 1 by omega]
  · simp [zK]
  · unfold zK
    rw [if_neg (by omega), if_neg (by omega), if_neg (by omega), if_neg (by omega), if_neg (by omega), if_neg (by omega)]
  · simp [uI, zI, show a ≠ v by omega, show a ≠ v + 1 by omega, show a ≠ v + 1 + 1 by omega, show a ≠ v + 1 + 1 + 1 by omega, show a ≠ v + 1 + 1 + 1 + 1 by omega, show a ≠ v + 1 + 1 + 1 + 1 + 1 by omega, show a ≠ v + 1 + 1 + 1 + 1 + 1 + 1 by omega, show a ≠ v + 2 by omega, show a ≠ v + 3 by omega, show a ≠ v + 4 by omega, show a ≠ v + 5 by omega, show a ≠ v + 6 by omega]
  · simp [uQ, zQ, show a ≠ v by omega, show a ≠ v + 1 by omega, show a ≠ v + 1 + 1 by omega, show a ≠ v + 1 + 1 + 1 by omega, show a ≠ v + 1 + 1 + 1 + 1 by omega, show a ≠ v + 1 + 1 + 1 + 1 + 1 by omega, show a ≠ v + 1 + 1 + 1 + 1 + 1 + 1 by omega, show a ≠ v + 2 by omega, show a ≠ v + 3 by omega, show a ≠ v + 4 by omega, show a ≠ v + 5 by omega, show a ≠ v + 6 by omega]
theorem c_T_valley0 {d : Nat} (hS : tSt (K, I, Q, n)) (hN : WN 1 I s) (h5 : s 2 = 5) : tw_F l G d 0 0 mT_valley [vr (some 0)] (K, I, Q, n) (some (vi (rValA s))) (K, I, Q, n) := by
  rw [show rValA s = -4 by unfold rValA; rw [if_pos h5]]
  refine tw_intro okT_valley (Nat.le_of_ble_eq_true rfl) ?_
  refine ar_aloadn (k := 0) rfl rfl ?_
  refine br_getR (k := 1) rfl (hS.k (by decide)) flT_14_11 (by decide) rfl (hS.r rfl) ?_
  refine br_getIz (k := 2) (z := 3) rfl (hS.k (by decide)) flT_54_10 (by decide) rfl rfl ?_
  refine tw_top (WN.vc hN) ?_
  refine ar_iconst (k := 3) rfl ?_
  refine ar_icmp_lt (k := 4) rfl (by omega) (by omega) (fun c4 => ?_) (fun c4 => ?_)
  · exfalso; omega
  · refine ar_bipush (k := 5) rfl (by decide) ?_
    refine ar_iret (k := 6) rfl rfl rfl (Nat.le_refl _) ?_
    exact ⟨rfl, rfl⟩
theorem rB_of (hR : RInv s) (h5 : s 2 < 5) : pB s (s 2) (s 5) := by
  obtain ⟨h0, h1, h2, h3, h4, h5', h6, hp, hrw, ht, hr, hb, htp, hv⟩ := hR
  exact ⟨by omega, by omega, fun i i1 i2 => by have := htp i i1 i2; omega⟩
theorem rRead_z (hB : pB s (s 2) (s 5)) : pZ (s 5) (rRead s).1 := by
  have z0 : pZ (s 5) ((0, false, []) : tP) := ⟨Int.le_refl _, hB.2.1.1, Int.le_refl _⟩
  have z1 := (pCl_ok (x := ((0, false, []), 6)) hB z0).z z0
  exact (pVal_ok hB 9 _ z1 (pCl_bell hB z0 (by decide))).1
theorem rPut_lo {j : Int} (h2 : 0 ≤ s 2) (h : j < 274) : rPut s j = up s 5 0 j := by
  unfold rPut pW
  rw [if_neg (by omega), if_neg (by omega), up_ne _ _ (by omega)]
theorem c_T_valleyB (hS : tSt (K, I, Q, n)) (hN : WN 1 I s) (hR : RInv s) (h5 : s 2 < 5) (hsp : Q 0 ((5 : Nat) : Int) = some v) (hv : VS K Q n v) (hb : (rRead s).1.2.1 = true ∨ (rRead s).1.1 ≠ s 5) : tw_M l G 34 0 0 mT_valley [vr (some 0)] (K, I, Q, n) (fun r h' => r = some (vi (rValA s)) ∧ ∃ J, h' = (K, J, Q, n) ∧ (∀ b, b ≠ 1 → b ≠ v → b ≠ v + 1 → b ≠ v + 2 → b ≠ v + 3 → b ≠ vX v → J b = I b) ∧ WN 1 J (rValS s)) := by
  have hB := rB_of hR h5
  have hz := rRead_z hB
  have hv1 := hv.1
  have hvx := vX_gt v
  obtain ⟨y1, y2, y3⟩ := hz
  rw [show rValA s = -10 - (rRead s).1.1 by unfold rValA; rw [if_neg (by omega), if_pos hb], show rValS s = rPut s by unfold rValS; rw [if_neg (by omega), if_pos hb]]
  refine tw_intro okT_valley (Nat.le_of_ble_eq_true rfl) ?_
  refine ar_aloadn (k := 0) rfl rfl ?_
  refine br_getR (k := 1) rfl (hS.k (by decide)) flT_14_11 (by decide) rfl (hS.r rfl) ?_
  refine br_getIz (k := 2) (z := 3) rfl (hS.k (by decide)) flT_54_10 (by decide) rfl rfl ?_
  refine tw_top (WN.vc hN) ?_
  refine ar_iconst (k := 3) rfl ?_
  refine ar_icmp_lt (k := 4) rfl (by omega) (by omega) (fun c4 => ?_) (fun c4 => ?_)
  · refine ar_aloadn (k := 7) rfl rfl ?_
    refine br_getR (k := 8) rfl (hS.k (by decide)) flT_42_11 (by decide) rfl hsp ?_
    refine ar_aloadn (k := 9) rfl rfl ?_
    refine br_getR (k := 10) rfl (hS.k (by decide)) flT_14_11 (by decide) rfl (hS.r rfl) ?_
    refine br_getR (k := 11) rfl (hS.k (by decide)) flT_50_10 (by decide) rfl (hS.r rfl) ?_
    refine ar_aloadn (k := 12) rfl rfl ?_
    refine br_getR (k := 13) rfl (hS.k (by decide)) flT_14_11 (by decide) rfl (hS.r rfl) ?_
    refine br_getIz (k := 14) (z := 1) rfl (hS.k (by decide)) flT_46_10 (by decide) rfl rfl ?_
    refine tw_top (WN.sg hN) ?_
    refine ar_callV (k := 15) (as := [_, _]) rfl lvT_57 hv.k0 rfl (c_V_read (a := s 2) hS hv hB (fun i i1 i2 => WN.tp hN i1 i2)) rfl (by decide) (by decide) tw_m0 (Nat.le_of_ble_eq_true rfl) (fun r15 h15 p15 => ?_)
    obtain ⟨rfl, L15, rfl, g15, w15⟩ := p15
    change ∀ _, _ at g15
    have hN15 : WN 1 L15 s := hN.fm (fun b b1 b2 => g15 b (by omega) (by omega) (by omega) (by omega) (by omega))
    refine tw_top (y := (rRead s).1.1) (by show (if (rRead s).1.2.1 = true ∨ (rRead s).1.1 ≠ s 5 then (rRead s).1.1 else -1) = _; rw [if_pos hb]) ?_
    refine ar_istoren (k := 16) (l2 := [(1, _), (0, _)]) rfl (by decide) rfl ?_
    refine ar_aloadn (k := 17) rfl rfl ?_
    refine br_getR (k := 18) rfl (hS.k (by decide)) flT_14_11 (by decide) rfl (hS.r rfl) ?_
    refine ar_iconst (k := 19) rfl ?_
    refine br_putIJ (k := 20) rfl (hS.k (by decide)) flT_46_10 (by decide) rfl (fun _ _ _ q => by cases q; exact ⟨rfl, rfl⟩) (fun I20 e20 => ?_)
    change _ = uI _ 1 1 _ at e20
    skip
    refine ar_iloadn (k := 21) rfl rfl ?_
    refine ar_iconst (k := 22) rfl ?_
    refine ar_icmp_eq (k := 23) rfl (by omega) (by omega) (fun c23 => ?_) (fun c23 => ?_)
    · exfalso; omega
    · refine ar_bipush (k := 24) rfl (by decide) ?_
      refine ar_iloadn (k := 25) rfl rfl ?_
      refine ar_isub (k := 26) rfl ?_
      refine ar_iret (k := 27) rfl rfl rfl (Nat.le_refl _) ?_
      exact ⟨rfl, I20, rfl, fun b b0 b1 b2 b3 b4 b5 => by rw [e20, uI_off _ _ _ b0]; exact g15 b b1 b2 b3 b4 b5, by rw [e20]; exact (hN15.u_sg (x := 0)).sEq (fun j j1 j2 _ => rPut_lo hB.1.1 j2)⟩
  · exfalso; omega
end CZ2
