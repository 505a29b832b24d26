section NW
variable {l : Launch} {G : tG} {M : tM} {d mc ms n0 c2 : Nat} {P : Option tV → tH → Prop} {ls : List (Nat × tV)} {st : List tV} {k pc nx tg : Nat} {K : Nat → Nat × Nat} {I : Nat → Int → Int} {Q R : Nat → Int → Option Nat} {n : Nat}
theorem br_new {i ci N : Nat} {C : String} {T : u_T} (hd : M.2.2.2.2[k]? = some (pc, .new i, nx, tg)) (hw : Cond.classLink M.1.cls i C ∈ tw_tbl) (hc : tCl[ci]? = some (C, T, N)) (hty : ∀ j, j < N → ∃ ty, parseFieldDescriptor (T j).2.2.1 = some ty ∧ defaultValue ty = (if tRef ci j = true then .null else .int 0)) (hm : n - n0 + 1 ≤ mc ∧ c2 + N ≤ ms) (kk : tw_AW l G M d mc ms n0 (c2 + N) P nx ls (vr (some n) :: st) (zK K n (ci, N), zI I n, zQ Q n, n + 1)) : tw_AW l G M d mc ms n0 c2 P pc ls st (K, I, Q, n) := ar_new hd hw hc hty hm kk
theorem tSt.nw {q : Nat × Nat} (hS : tSt (K, I, Q, n)) : tSt (zK K n q, I, zQ Q n, n + 1) := by
  have h77 : 78 ≤ n := hS.2.1
  refine ⟨fun a ha => ?_, by show 78 ≤ n + 1; omega, fun a k b h => ?_⟩
  · show (if a = n then q else K a) = shp a
    rw [if_neg (by omega)]; exact hS.1 a ha
  · have h1 := hS.2.2 a k b h
    show (if a = n then (fun _ => none) else Q a) (k : Int) = some b
    by_cases g : a = n
    · exfalso
      subst g
      have e : srf a k = none := by
        have e0 : srfL.getD a [] = [] := by rw [List.getD_eq_getElem?_getD, List.getElem?_eq_none (Nat.le_trans (by decide : srfL.length ≤ 78) h77)]; rfl
        unfold srf
        rw [e0]
        rfl
      rw [e] at h; cases h
    · rw [if_neg g]; exact h1
theorem tSt.q2 (hS : tSt (K, I, Q, n)) {b c : Nat} (hb : b = 3 ∨ b = 16 ∨ b = 29) (hc : c = b + 1) (h : ∀ x, x ≠ b → x ≠ c → R x = Q x) : tSt (K, I, R, n) := by
  refine ⟨hS.1, hS.2.1, fun a k e g => ?_⟩
  have h1 := hS.2.2 a k e g
  subst hc
  by_cases g1 : a = b
  · subst g1
    rcases hb with rfl | rfl | rfl <;> (exfalso; revert g; show ([] : List (Option Nat)).getD k none = some e → False; simp)
  · by_cases g2 : a = b + 1
    · subst g2
      rcases hb with rfl | rfl | rfl <;> (exfalso; revert g; show ([] : List (Option Nat)).getD k none = some e → False; simp)
    · show R a (k : Int) = some e
      rw [h a g1 g2]; exact h1
end NW
section CP2
variable {l : Launch} {G : tG} {K : Nat → Nat × Nat} {I : Nat → Int → Int} {Q : Nat → Int → Option Nat} {n : Nat} {s : Int → Int}
theorem c_T_image (hS : tSt (K, I, Q, n)) (hN : WN 1 I s) (hH : QH K Q n 1) (hR : RInv s) : tw_M l G 3 0 0 mT_image [vr (some 0)] (K, I, Q, n) (fun r h' => r = some (vi (s 1)) ∧ ∃ J R, h' = (K, J, R, n) ∧ FC I J 1 14 ∧ (∀ c, c ≠ 0 → c < 14 ∨ 26 < c → J c = I c) ∧ J 0 2 = 1 ∧ (∀ c, c ≠ 16 → c ≠ 17 → R c = Q c) ∧ (∀ x, 0 ≤ x → x < 8 → R 17 x = Q 4 x) ∧ (∀ x, 0 ≤ x → x < 5 → R 16 x = Q 3 x) ∧ tSt (K, J, R, n)) := by
  obtain ⟨h0, h1, h2, h3, h4, h5, h6, hp, hrw, ht, hr, hb, htp, hv⟩ := id hR
  refine tw_intro okT_image (Nat.le_of_ble_eq_true rfl) ?_
  refine ar_aloadn (k := 0) rfl rfl ?_
  refine br_getR (k := 1) rfl (hS.k (by decide)) flT_18_11 (by decide) rfl (hS.r rfl) ?_
  refine ar_aloadn (k := 2) rfl rfl ?_
  refine br_getR (k := 3) rfl (hS.k (by decide)) flT_14_11 (by decide) rfl (hS.r rfl) ?_
  refine ar_callV (k := 4) (as := [_]) rfl lvT_281 (hS.k (by decide)) rfl (c_W_copyFrom_14_1 hS hH (fun j j1 j2 => by rw [show I 2 j = _ from WN.tp hN j1 j2]; have := htp j j1 j2; omega)) rfl (by decide) (by decide) tw_m0 (Nat.le_of_ble_eq_true rfl) (fun r4 h4 p4 => ?_)
  obtain ⟨rfl, J4, R4, rfl, fc4, fo4, fq4, f84, f54⟩ := p4
  have hS := hS.q2 (b := 16) (c := 17) (R := R4) (by decide) rfl fq4
  refine ar_aloadn (k := 5) rfl rfl ?_
  refine ar_iconst (k := 6) rfl ?_
  refine br_putZJ (k := 7) rfl (hS.k (by decide)) flT_21_11 (by decide) rfl (by omega) (fun _ _ _ q => by cases q; exact ⟨rfl, rfl⟩) (fun I7 e7 => ?_)
  change _ = uI _ 0 2 _ at e7
  skip
  refine ar_aloadn (k := 8) rfl rfl ?_
  refine br_getR (k := 9) rfl (hS.k (by decide)) flT_14_11 (by decide) rfl (hS.r rfl) ?_
  refine br_getIz (k := 10) (z := 12) rfl (hS.k (by decide)) flT_100_10 (by decide) rfl rfl ?_
  refine tw_top (y := s 1) (by rw [e7, uI_off _ _ _ (by decide), fo4 1 (by omega)]; exact hN.tc) ?_
  refine ar_iret (k := 11) rfl rfl rfl (Nat.le_refl _) ?_
  refine ⟨rfl, I7, R4, rfl, ?_, fun c c1 c2 => by rw [e7, uI_off _ _ _ c1]; exact fo4 c (by omega), by rw [e7, uI_at, if_pos rfl], fq4, f84, f54, hS⟩
  have eo : ∀ x, x ≠ 0 → I7 x = J4 x := fun x hx => by rw [e7, uI_off _ _ _ hx]
  unfold FC at *
  rw [eo 14 (by decide), eo (14 + 1) (by decide), eo (14 + 4) (by decide), eo (14 + 5) (by decide), eo (14 + 6) (by decide), eo (14 + 7) (by decide), eo (14 + 8) (by decide), eo (14 + 9) (by decide), eo (14 + 10) (by decide), eo (14 + 11) (by decide), eo (14 + 12) (by decide)]
  exact fc4
theorem c_T_undo0 (hS : tSt (K, I, Q, n)) (h3 : I 0 2 = 0) : tw_F l G 1 0 0 mT_undo [vr (some 0)] (K, I, Q, n) (some (vi (-3))) (K, I, Q, n) := by
  refine tw_intro okT_undo (Nat.le_of_ble_eq_true rfl) ?_
  refine ar_aloadn (k := 0) rfl rfl ?_
  refine br_getIz (k := 1) (z := 2) rfl (hS.k (by decide)) flT_21_11 (by decide) rfl rfl ?_
  refine tw_top h3 ?_
  refine ar_if_ne (k := 2) rfl (by omega) (fun c2 => ?_) (fun c2 => ?_)
  · exfalso; exact c2 rfl
  · refine ar_bipush (k := 3) rfl (by decide) ?_
    refine ar_iret (k := 4) rfl rfl rfl (Nat.le_refl _) ?_
    exact ⟨rfl, rfl⟩
theorem c_T_undo1 (hS : tSt (K, I, Q, n)) (hN : WN 14 I s) (hH : QH K Q n 14) (hR : RInv s) (hk3 : I 0 2 = 1) : tw_M l G 3 0 0 mT_undo [vr (some 0)] (K, I, Q, n) (fun r h' => r = some (vi (s 1)) ∧ ∃ J R, h' = (K, J, R, n) ∧ FC I J 14 1 ∧ (∀ c, c < 1 ∨ 13 < c → J c = I c) ∧ (∀ c, c ≠ 3 → c ≠ 4 → R c = Q c) ∧ (∀ x, 0 ≤ x → x < 8 → R 4 x = Q 17 x) ∧ (∀ x, 0 ≤ x → x < 5 → R 3 x = Q 16 x) ∧ tSt (K, J, R, n)) := by
  obtain ⟨h0, h1, h2, h3, h4, h5, h6, hp, hrw, ht, hr, hb, htp, hv⟩ := id hR
  refine tw_intro okT_undo (Nat.le_of_ble_eq_true rfl) ?_
  refine ar_aloadn (k := 0) rfl rfl ?_
  refine br_getIz (k := 1) (z := 2) rfl (hS.k (by decide)) flT_21_11 (by decide) rfl rfl ?_
  refine tw_top hk3 ?_
  refine ar_if_ne (k := 2) rfl (by omega) (fun c2 => ?_) (fun c2 => ?_)
  · refine ar_aloadn (k := 5) rfl rfl ?_
    refine br_getR (k := 6) rfl (hS.k (by decide)) flT_14_11 (by decide) rfl (hS.r rfl) ?_
    refine ar_aloadn (k := 7) rfl rfl ?_
    refine br_getR (k := 8) rfl (hS.k (by decide)) flT_18_11 (by decide) rfl (hS.r rfl) ?_
    refine ar_callV (k := 9) (as := [_]) rfl lvT_281 (hS.k (by decide)) rfl (c_W_copyFrom_1_14 hS hH (fun j j1 j2 => by rw [show I 15 j = _ from WN.tp hN j1 j2]; have := htp j j1 j2; omega)) rfl (by decide) (by decide) tw_m0 (Nat.le_of_ble_eq_true rfl) (fun r9 h9 p9 => ?_)
    obtain ⟨rfl, J9, R9, rfl, fc9, fo9, fq9, f89, f59⟩ := p9
    have hS := hS.q2 (b := 3) (c := 4) (R := R9) (by decide) rfl fq9
    refine ar_aloadn (k := 10) rfl rfl ?_
    refine br_getR (k := 11) rfl (hS.k (by decide)) flT_14_11 (by decide) rfl (hS.r rfl) ?_
    refine br_getIz (k := 12) (z := 12) rfl (hS.k (by decide)) flT_100_10 (by decide) rfl rfl ?_
    refine tw_top (y := s 1) (by rw [fc9.1 12 (by decide)]; exact hN.tc) ?_
    refine ar_iret (k := 13) rfl rfl rfl (Nat.le_refl _) ?_
    exact ⟨rfl, J9, R9, rfl, fc9, fo9, fq9, f89, f59, hS⟩
  · exfalso; omega
theorem c_H_init_H {a : Nat} {x y z w : Int} (hKa : tK (K, I, Q, n) a (2, 4)) : tw_F l G 1 0 0 mH_init [vr (some a), vi x, vi y, vi z, vi w] (K, I, Q, n) none (K, uI (uI (uI (uI I a 0 x) a 1 y) a 2 z) a 3 w, Q, n) := by
  refine tw_intro okH_init (Nat.le_of_ble_eq_true rfl) ?_
  refine ar_aloadn (k := 0) rfl rfl ?_
  refine ar_obj (k := 1) rfl lbH_3 (by decide) (Nat.le_of_ble_eq_true rfl) ?_
  refine ar_aloadn (k := 2) rfl rfl ?_
  refine ar_iloadn (k := 3) rfl rfl ?_
  refine br_putFI (k := 4) rfl hKa flH_9_2 (by decide) rfl rfl (fun _ _ _ q => by cases q; exact ⟨rfl, rfl, rfl⟩) ?_
  refine ar_aloadn (k := 5) rfl rfl ?_
  refine ar_iloadn (k := 6) rfl rfl ?_
  refine br_putFI (k := 7) rfl hKa flH_15_2 (by decide) rfl rfl (fun _ _ _ q => by cases q; exact ⟨rfl, rfl, rfl⟩) ?_
  refine ar_aloadn (k := 8) rfl rfl ?_
  refine ar_iloadn (k := 9) rfl rfl ?_
  refine br_putFI (k := 10) rfl hKa flH_18_2 (by decide) rfl rfl (fun _ _ _ q => by cases q; exact ⟨rfl, rfl, rfl⟩) ?_
  refine ar_aloadn (k := 11) rfl rfl ?_
  refine ar_iload (k := 12) rfl rfl ?_
  refine br_putFI (k := 13) rfl hKa flH_21_2 (by decide) rfl rfl (fun _ _ _ q => by cases q; exact ⟨rfl, rfl, rfl⟩) ?_
  refine ar_ret (k := 14) rfl rfl rfl (Nat.le_refl _) ?_
  exact ⟨rfl, rfl⟩
theorem c_H_init_B {a : Nat} {x y z w : Int} (hKa : tK (K, I, Q, n) a (0, 4)) : tw_F l G 1 0 0 mH_init [vr (some a), vi x, vi y, vi z, vi w] (K, I, Q, n) none (K, uI (uI (uI (uI I a 0 x) a 1 y) a 2 z) a 3 w, Q, n) := by
  refine tw_intro okH_init (Nat.le_of_ble_eq_true rfl) ?_
  refine ar_aloadn (k := 0) rfl rfl ?_
  refine ar_obj (k := 1) rfl lbH_3 (by decide) (Nat.le_of_ble_eq_true rfl) ?_
  refine ar_aloadn (k := 2) rfl rfl ?_
  refine ar_iloadn (k := 3) rfl rfl ?_
  refine br_putFI (k := 4) rfl hKa flH_9_0 (by decide) rfl rfl (fun _ _ _ q => by cases q; exact ⟨rfl, rfl, rfl⟩) ?_
  refine ar_aloadn (k := 5) rfl rfl ?_
  refine ar_iloadn (k := 6) rfl rfl ?_
  refine br_putFI (k := 7) rfl hKa flH_15_0 (by decide) rfl rfl (fun _ _ _ q => by cases q; exact ⟨rfl, rfl, rfl⟩) ?_
  refine ar_aloadn (k := 8) rfl rfl ?_
  refine ar_iloadn (k := 9) rfl rfl ?_
  refine br_putFI (k := 10) rfl hKa flH_18_0 (by decide) rfl rfl (fun _ _ _ q => by cases q; exact ⟨rfl, rfl, rfl⟩) ?_
  refine ar_aloadn (k := 11) rfl rfl ?_
  refine ar_iload (k := 12) rfl rfl ?_
  refine br_putFI (k := 13) rfl hKa flH_21_0 (by decide) rfl rfl (fun _ _ _ q => by cases q; exact ⟨rfl, rfl, rfl⟩) ?_
  refine ar_ret (k := 14) rfl rfl rfl (Nat.le_refl _) ?_
  exact ⟨rfl, rfl⟩
theorem c_H_init_O {a : Nat} {x y z w : Int} (hKa : tK (K, I, Q, n) a (3, 4)) : tw_F l G 1 0 0 mH_init [vr (some a), vi x, vi y, vi z, vi w] (K, I, Q, n) none (K, uI (uI (uI (uI I a 0 x) a 1 y) a 2 z) a 3 w, Q, n) := by
  refine tw_intro okH_init (Nat.le_of_ble_eq_true rfl) ?_
  refine ar_aloadn (k := 0) rfl rfl ?_
  refine ar_obj (k := 1) rfl lbH_3 (by decide) (Nat.le_of_ble_eq_true rfl) ?_
  refine ar_aloadn (k := 2) rfl rfl ?_
  refine ar_iloadn (k := 3) rfl rfl ?_
  refine br_putFI (k := 4) rfl hKa flH_9_3 (by decide) rfl rfl (fun _ _ _ q => by cases q; exact ⟨rfl, rfl, rfl⟩) ?_
  refine ar_aloadn (k := 5) rfl rfl ?_
  refine ar_iloadn (k := 6) rfl rfl ?_
  refine br_putFI (k := 7) rfl hKa flH_15_3 (by decide) rfl rfl (fun _ _ _ q => by cases q; exact ⟨rfl, rfl, rfl⟩) ?_
  refine ar_aloadn (k := 8) rfl rfl ?_
  refine ar_iloadn (k := 9) rfl rfl ?_
  refine br_putFI (k := 10) rfl hKa flH_18_3 (by decide) rfl rfl (fun _ _ _ q => by cases q; exact ⟨rfl, rfl, rfl⟩) ?_
  refine ar_aloadn (k := 11) rfl rfl ?_
  refine ar_iload (k := 12) rfl rfl ?_
  refine br_putFI (k := 13) rfl hKa flH_21_3 (by decide) rfl rfl (fun _ _ _ q => by cases q; exact ⟨rfl, rfl, rfl⟩) ?_
  refine ar_ret (k := 14) rfl rfl rfl (Nat.le_refl _) ?_
  exact ⟨rfl, rfl⟩
theorem c_H_init_G {a : Nat} {x y z w : Int} (hKa : tK (K, I, Q, n) a (1, 4)) : tw_F l G 1 0 0 mH_init [vr (some a), vi x, vi y, vi z, vi w] (K, I, Q, n) none (K, uI (uI (uI (uI I a 0 x) a 1 y) a 2 z) a 3 w, Q, n) := by
  refine tw_intro okH_init (Nat.le_of_ble_eq_true rfl) ?_
  refine ar_aloadn (k := 0) rfl rfl ?_
  refine ar_obj (k := 1) rfl lbH_3 (by decide) (Nat.le_of_ble_eq_true rfl) ?_
  refine ar_aloadn (k := 2) rfl rfl ?_
  refine ar_iloadn (k := 3) rfl rfl ?_
  refine br_putFI (k := 4) rfl hKa flH_9_1 (by decide) rfl rfl (fun _ _ _ q => by cases q; exact ⟨rfl, rfl, rfl⟩) ?_
  refine ar_aloadn (k := 5) rfl rfl ?_
  refine ar_iloadn (k := 6) rfl rfl ?_
  refine br_putFI (k := 7) rfl hKa flH_15_1 (by decide) rfl rfl (fun _ _ _ q => by cases q; exact ⟨rfl, rfl, rfl⟩) ?_
  refine ar_aloadn (k := 8) rfl rfl ?_
  refine ar_iloadn (k := 9) rfl rfl ?_
  refine br_putFI (k := 10) rfl hKa flH_18_1 (by decide) rfl rfl (fun _ _ _ q => by cases q; exact ⟨rfl, rfl, rfl⟩) ?_
  refine ar_aloadn (k := 11) rfl rfl ?_
  refine ar_iload (k := 12) rfl rfl ?_
  refine br_putFI (k := 13) rfl hKa flH_21_1 (by decide) rfl rfl (fun _ _ _ q => by cases q; exact ⟨rfl, rfl, rfl⟩) ?_
  refine ar_ret (k := 14) rfl rfl rfl (Nat.le_refl _) ?_
  exact ⟨rfl, rfl⟩
theorem c_H_init_L {a : Nat} {x y z w : Int} (hKa : tK (K, I, Q, n) a (5, 4)) : tw_F l G 1 0 0 mH_init [vr (some a), vi x, vi y, vi z, vi w] (K, I, Q, n) none (K, uI (uI (uI (uI I a 0 x) a 1 y) a 2 z) a 3 w, Q, n) := by
  refine tw_intro okH_init (Nat.le_of_ble_eq_true rfl) ?_
  refine ar_aloadn (k := 0) rfl rfl ?_
  refine ar_obj (k := 1) rfl lbH_3 (by decide) (Nat.le_of_ble_eq_true rfl) ?_
  refine ar_aloadn (k := 2) rfl rfl ?_
  refine ar_iloadn (k := 3) rfl rfl ?_
  refine br_putFI (k := 4) rfl hKa flH_9_5 (by decide) rfl rfl (fun _ _ _ q => by cases q; exact ⟨rfl, rfl, rfl⟩) ?_
  refine ar_aloadn (k := 5) rfl rfl ?_
  refine ar_iloadn (k := 6) rfl rfl ?_
  refine br_putFI (k := 7) rfl hKa flH_15_5 (by decide) rfl rfl (fun _ _ _ q => by cases q; exact ⟨rfl, rfl, rfl⟩) ?_
  refine ar_aloadn (k := 8) rfl rfl ?_
  refine ar_iloadn (k := 9) rfl rfl ?_
  refine br_putFI (k := 10) rfl hKa flH_18_5 (by decide) rfl rfl (fun _ _ _ q => by cases q; exact ⟨rfl, rfl, rfl⟩) ?_
  refine ar_aloadn (k := 11) rfl rfl ?_
  refine ar_iload (k := 12) rfl rfl ?_
  refine br_putFI (k := 13) rfl hKa flH_21_5 (by decide) rfl rfl (fun _ _ _ q => by cases q; exact ⟨rfl, rfl, rfl⟩) ?_
  refine ar_ret (k := 14) rfl rfl rfl (Nat.le_refl _) ?_
  exact ⟨rfl, rfl⟩
theorem c_H_init_A {a : Nat} {x y z w : Int} (hKa : tK (K, I, Q, n) a (4, 4)) : tw_F l G 1 0 0 mH_init [vr (some a), vi x, vi y, vi z, vi w] (K, I, Q, n) none (K, uI (uI (uI (uI I a 0 x) a 1 y) a 2 z) a 3 w, Q, n) := by
  refine tw_intro okH_init (Nat.le_of_ble_eq_true rfl) ?_
  refine ar_aloadn (k := 0) rfl rfl ?_
  refine ar_obj (k := 1) rfl lbH_3 (by decide) (Nat.le_of_ble_eq_true rfl) ?_
  refine ar_aloadn (k := 2) rfl rfl ?_
  refine ar_iloadn (k := 3) rfl rfl ?_
  refine br_putFI (k := 4) rfl hKa flH_9_4 (by decide) rfl rfl (fun _ _ _ q => by cases q; exact ⟨rfl, rfl, rfl⟩) ?_
  refine ar_aloadn (k := 5) rfl rfl ?_
  refine ar_iloadn (k := 6) rfl rfl ?_
  refine br_putFI (k := 7) rfl hKa flH_15_4 (by decide) rfl rfl (fun _ _ _ q => by cases q; exact ⟨rfl, rfl, rfl⟩) ?_
  refine ar_aloadn (k := 8) rfl rfl ?_
  refine ar_iloadn (k := 9) rfl rfl ?_
  refine br_putFI (k := 10) rfl hKa flH_18_4 (by decide) rfl rfl (fun _ _ _ q => by cases q; exact ⟨rfl, rfl, rfl⟩) ?_
  refine ar_aloadn (k := 11) rfl rfl ?_
  refine ar_iload (k := 12) rfl rfl ?_
  refine br_putFI (k := 13) rfl hKa flH_21_4 (by decide) rfl rfl (fun _ _ _ q => by cases q; exact ⟨rfl, rfl, rfl⟩) ?_
  refine ar_ret (k := 14) rfl rfl rfl (Nat.le_refl _) ?_
  exact ⟨rfl, rfl⟩
theorem c_H_init_D {a : Nat} {x y z w : Int} (hKa : tK (K, I, Q, n) a (7, 4)) : tw_F l G 1 0 0 mH_init [vr (some a), vi x, vi y, vi z, vi w] (K, I, Q, n) none (K, uI (uI (uI (uI I a 0 x) a 1 y) a 2 z) a 3 w, Q, n) := by
  refine tw_intro okH_init (Nat.le_of_ble_eq_true rfl) ?_
  refine ar_aloadn (k := 0) rfl rfl ?_
  refine ar_obj (k := 1) rfl lbH_3 (by decide) (Nat.le_of_ble_eq_true rfl) ?_
  refine ar_aloadn (k := 2) rfl rfl ?_
  refine ar_iloadn (k := 3) rfl rfl ?_
  refine br_putFI (k := 4) rfl hKa flH_9_7 (by decide) rfl rfl (fun _ _ _ q => by cases q; exact ⟨rfl, rfl, rfl⟩) ?_
  refine ar_aloadn (k := 5) rfl rfl ?_
  refine ar_iloadn (k := 6) rfl rfl ?_
  refine br_putFI (k := 7) rfl hKa flH_15_7 (by decide) rfl rfl (fun _ _ _ q => by cases q; exact ⟨rfl, rfl, rfl⟩) ?_
  refine ar_aloadn (k := 8) rfl rfl ?_
  refine ar_iloadn (k := 9) rfl rfl ?_
  refine br_putFI (k := 10) rfl hKa flH_18_7 (by decide) rfl rfl (fun _ _ _ q => by cases q; exact ⟨rfl, rfl, rfl⟩) ?_
  refine ar_aloadn (k := 11) rfl rfl ?_
  refine ar_iload (k := 12) rfl rfl ?_
  refine br_putFI (k := 13) rfl hKa flH_21_7 (by decide) rfl rfl (fun _ _ _ q => by cases q; exact ⟨rfl, rfl, rfl⟩) ?_
  refine ar_ret (k := 14) rfl rfl rfl (Nat.le_refl _) ?_
  exact ⟨rfl, rfl⟩
theorem c_B_init_B {a : Nat} {x y z w : Int} (hKa : tK (K, I, Q, n) a (0, 4)) : tw_F l G 2 0 0 mB_init [vr (some a), vi x, vi y, vi z, vi w] (K, I, Q, n) none (K, uI (uI (uI (uI I a 0 x) a 1 y) a 2 z) a 3 w, Q, n) := by
  refine tw_intro okB_init (Nat.le_of_ble_eq_true rfl) ?_
  refine ar_aloadn (k := 0) rfl rfl ?_
  refine ar_iloadn (k := 1) rfl rfl ?_
  refine ar_iloadn (k := 2) rfl rfl ?_
  refine ar_iloadn (k := 3) rfl rfl ?_
  refine ar_iload (k := 4) rfl rfl ?_
  refine ar_callI (k := 5) (as := [_, _, _, _]) rfl liB_3 (c_H_init_B hKa) rfl (by decide) (by decide) tw_m0 (Nat.le_of_ble_eq_true rfl) (fun r5 h5 p5 => ?_)
  obtain ⟨rfl, rfl⟩ := p5
  refine ar_ret (k := 6) rfl rfl rfl (Nat.le_refl _) ?_
  exact ⟨rfl, rfl⟩
theorem c_B_init_L {a : Nat} {x y z w : Int} (hKa : tK (K, I, Q, n) a (5, 4)) : tw_F l G 2 0 0 mB_init [vr (some a), vi x, vi y, vi z, vi w] (K, I, Q, n) none (K, uI (uI (uI (uI I a 0 x) a 1 y) a 2 z) a 3 w, Q, n) := by
  refine tw_intro okB_init (Nat.le_of_ble_eq_true rfl) ?_
  refine ar_aloadn (k := 0) rfl rfl ?_
  refine ar_iloadn (k := 1) rfl rfl ?_
  refine ar_iloadn (k := 2) rfl rfl ?_
  refine ar_iloadn (k := 3) rfl rfl ?_
  refine ar_iload (k := 4) rfl rfl ?_
  refine ar_callI (k := 5) (as := [_, _, _, _]) rfl liB_3 (c_H_init_L hKa) rfl (by decide) (by decide) tw_m0 (Nat.le_of_ble_eq_true rfl) (fun r5 h5 p5 => ?_)
  obtain ⟨rfl, rfl⟩ := p5
  refine ar_ret (k := 6) rfl rfl rfl (Nat.le_refl _) ?_
  exact ⟨rfl, rfl⟩
theorem c_O_init_O {a : Nat} {x y z w : Int} (hKa : tK (K, I, Q, n) a (3, 4)) : tw_F l G 2 0 0 mO_init [vr (some a), vi x, vi y, vi z, vi w] (K, I, Q, n) none (K, uI (uI (uI (uI I a 0 x) a 1 y) a 2 z) a 3 w, Q, n) := by
  refine tw_intro okO_init (Nat.le_of_ble_eq_true rfl) ?_
  refine ar_aloadn (k := 0) rfl rfl ?_
  refine ar_iloadn (k := 1) rfl rfl ?_
  refine ar_iloadn (k := 2) rfl rfl ?_
  refine ar_iloadn (k := 3) rfl rfl ?_
  refine ar_iload (k := 4) rfl rfl ?_
  refine ar_callI (k := 5) (as := [_, _, _, _]) rfl liO_1 (c_H_init_O hKa) rfl (by decide) (by decide) tw_m0 (Nat.le_of_ble_eq_true rfl) (fun r5 h5 p5 => ?_)
  obtain ⟨rfl, rfl⟩ := p5
  refine ar_ret (k := 6) rfl rfl rfl (Nat.le_refl _) ?_
  exact ⟨rfl, rfl⟩
theorem c_O_init_A {a : Nat} {x y z w : Int} (hKa : tK (K, I, Q, n) a (4, 4)) : tw_F l G 2 0 0 mO_init [vr (some a), vi x, vi y, vi z, vi w] (K, I, Q, n) none (K, uI (uI (uI (uI I a 0 x) a 1 y) a 2 z) a 3 w, Q, n) := by
  refine tw_intro okO_init (Nat.le_of_ble_eq_true rfl) ?_
  refine ar_aloadn (k := 0) rfl rfl ?_
  refine ar_iloadn (k := 1) rfl rfl ?_
  refine ar_iloadn (k := 2) rfl rfl ?_
  refine ar_iloadn (k := 3) rfl rfl ?_
  refine ar_iload (k := 4) rfl rfl ?_
  refine ar_callI (k := 5) (as := [_, _, _, _]) rfl liO_1 (c_H_init_A hKa) rfl (by decide) (by decide) tw_m0 (Nat.le_of_ble_eq_true rfl) (fun r5 h5 p5 => ?_)
  obtain ⟨rfl, rfl⟩ := p5
  refine ar_ret (k := 6) rfl rfl rfl (Nat.le_refl _) ?_
  exact ⟨rfl, rfl⟩
theorem c_G_init_G {a : Nat} {x y z w : Int} (hKa : tK (K, I, Q, n) a (1, 4)) : tw_F l G 2 0 0 mG_init [vr (some a), vi x, vi y, vi z, vi w] (K, I, Q, n) none (K, uI (uI (uI (uI I a 0 x) a 1 y) a 2 z) a 3 w, Q, n) := by
  refine tw_intro okG_init (Nat.le_of_ble_eq_true rfl) ?_
  refine ar_aloadn (k := 0) rfl rfl ?_
  refine ar_iloadn (k := 1) rfl rfl ?_
  refine ar_iloadn (k := 2) rfl rfl ?_
  refine ar_iloadn (k := 3) rfl rfl ?_
  refine ar_iload (k := 4) rfl rfl ?_
  refine ar_callI (k := 5) (as := [_, _, _, _]) rfl liG_1 (c_H_init_G hKa) rfl (by decide) (by decide) tw_m0 (Nat.le_of_ble_eq_true rfl) (fun r5 h5 p5 => ?_)
  obtain ⟨rfl, rfl⟩ := p5
  refine ar_ret (k := 6) rfl rfl rfl (Nat.le_refl _) ?_
  exact ⟨rfl, rfl⟩
theorem c_G_init_D {a : Nat} {x y z w : Int} (hKa : tK (K, I, Q, n) a (7, 4)) : tw_F l G 2 0 0 mG_init [vr (some a), vi x, vi y, vi z, vi w] (K, I, Q, n) none (K, uI (uI (uI (uI I a 0 x) a 1 y) a 2 z) a 3 w, Q, n) := by
  refine tw_intro okG_init (Nat.le_of_ble_eq_true rfl) ?_
  refine ar_aloadn (k := 0) rfl rfl ?_
  refine ar_iloadn (k := 1) rfl rfl ?_
  refine ar_iloadn (k := 2) rfl rfl ?_
  refine ar_iloadn (k := 3) rfl rfl ?_
  refine ar_iload (k := 4) rfl rfl ?_
  refine ar_callI (k := 5) (as := [_, _, _, _]) rfl liG_1 (c_H_init_D hKa) rfl (by decide) (by decide) tw_m0 (Nat.le_of_ble_eq_true rfl) (fun r5 h5 p5 => ?_)
  obtain ⟨rfl, rfl⟩ := p5
  refine ar_ret (k := 6) rfl rfl rfl (Nat.le_refl _) ?_
  exact ⟨rfl, rfl⟩
theorem c_L_init_L {a : Nat} {x y z w : Int} (hKa : tK (K, I, Q, n) a (5, 4)) : tw_F l G 3 0 0 mL_init [vr (some a), vi x, vi y, vi z, vi w] (K, I, Q, n) none (K, uI (uI (uI (uI I a 0 x) a 1 y) a 2 z) a 3 w, Q, n) := by
  refine tw_intro okL_init (Nat.le_of_ble_eq_true rfl) ?_
  refine ar_aloadn (k := 0) rfl rfl ?_
  refine ar_iloadn (k := 1) rfl rfl ?_
  refine ar_iloadn (k := 2) rfl rfl ?_
  refine ar_iloadn (k := 3) rfl rfl ?_
  refine ar_iload (k := 4) rfl rfl ?_
  refine ar_callI (k := 5) (as := [_, _, _, _]) rfl liL_3 (c_B_init_L hKa) rfl (by decide) (by decide) tw_m0 (Nat.le_of_ble_eq_true rfl) (fun r5 h5 p5 => ?_)
  obtain ⟨rfl, rfl⟩ := p5
  refine ar_ret (k := 6) rfl rfl rfl (Nat.le_refl _) ?_
  exact ⟨rfl, rfl⟩
theorem c_A_init_A {a : Nat} {x y z w : Int} (hKa : tK (K, I, Q, n) a (4, 4)) : tw_F l G 3 0 0 mA_init [vr (some a), vi x, vi y, vi z, vi w] (K, I, Q, n) none (K, uI (uI (uI (uI I a 0 x) a 1 y) a 2 z) a 3 w, Q, n) := by
  refine tw_intro okA_init (Nat.le_of_ble_eq_true rfl) ?_
  refine ar_aloadn (k := 0) rfl rfl ?_
  refine ar_iloadn (k := 1) rfl rfl ?_
  refine ar_iloadn (k := 2) rfl rfl ?_
  refine ar_iloadn (k := 3) rfl rfl ?_
  refine ar_iload (k := 4) rfl rfl ?_
  refine ar_callI (k := 5) (as := [_, _, _, _]) rfl liA_3 (c_O_init_A hKa) rfl (by decide) (by decide) tw_m0 (Nat.le_of_ble_eq_true rfl) (fun r5 h5 p5 => ?_)
  obtain ⟨rfl, rfl⟩ := p5
  refine ar_ret (k := 6) rfl rfl rfl (Nat.le_refl _) ?_
  exact ⟨rfl, rfl⟩
theorem c_D_init_D {a : Nat} {x y z w : Int} (hKa : tK (K, I, Q, n) a (7, 4)) : tw_F l G 3 0 0 mD_init [vr (some a), vi x, vi y, vi z, vi w] (K, I, Q, n) none (K, uI (uI (uI (uI I a 0 x) a 1 y) a 2 z) a 3 w, Q, n) := by
  refine tw_intro okD_init (Nat.le_of_ble_eq_true rfl) ?_
  refine ar_aloadn (k := 0) rfl rfl ?_
  refine ar_iloadn (k := 1) rfl rfl ?_
  refine ar_iloadn (k := 2) rfl rfl ?_
  refine ar_iloadn (k := 3) rfl rfl ?_
  refine ar_iload (k := 4) rfl rfl ?_
  refine ar_callI (k := 5) (as := [_, _, _, _]) rfl liD_3 (c_G_init_D hKa) rfl (by decide) (by decide) tw_m0 (Nat.le_of_ble_eq_true rfl) (fun r5 h5 p5 => ?_)
  obtain ⟨rfl, rfl⟩ := p5
  refine ar_ret (k := 6) rfl rfl rfl (Nat.le_refl _) ?_
  exact ⟨rfl, rfl⟩
theorem c_T_newcomer {k p v u : Int} (k1 : 0 ≤ k ∧ k ≤ 6) : tw_F l G 4 1 4 mT_newcomer [vi k, vi p, vi v, vi u] (K, I, Q, n) (some (vr (some n))) (zK K n (kC k, 4), uI (uI (uI (uI (zI I n) n 0 k) n 1 p) n 2 v) n 3 u, zQ Q n, n + 1) := by
  refine tw_intro okT_newcomer (Nat.le_of_ble_eq_true rfl) ?_
  refine ar_iloadn (k := 0) rfl rfl ?_
  rcases (show k = 1 ∨ k = 2 ∨ k = 3 ∨ k = 4 ∨ k = 5 ∨ k = 6 ∨ (k < 1 ∨ 6 < k) by omega) with q1 | q1 | q1 | q1 | q1 | q1 | q1
  · refine ar_tswIn (k := 1) (t := 40) rfl (by omega) (by omega) (by omega) (by rw [q1]; rfl) (by decide) ?_
    refine br_new (k := 2) (ci := 0) (N := 4) rfl klT_284 rfl (fun j hj => by rcases (show j = 0 ∨ j = 1 ∨ j = 2 ∨ j = 3 by omega) with rfl | rfl | rfl | rfl <;> exact ⟨_, rfl, rfl⟩) ⟨by show n - n + 1 ≤ 1; omega, by decide⟩ ?_
    have hKn : tK (zK K n (0, 4), zI I n, zQ Q n, n + 1) n (0, 4) := ⟨if_pos rfl, Nat.lt_succ_self n⟩
    refine ar_dup (k := 3) rfl rfl ?_
    refine ar_iloadn (k := 4) rfl rfl ?_
    refine ar_iloadn (k := 5) rfl rfl ?_
    refine ar_iloadn (k := 6) rfl rfl ?_
    refine ar_iloadn (k := 7) rfl rfl ?_
    refine ar_callI (k := 8) (as := [_, _, _, _]) rfl liT_286 (c_B_init_B hKn) rfl (by decide) (by decide) ⟨by show n + 1 - n + 0 ≤ 1; omega, by decide⟩ (Nat.le_of_ble_eq_true rfl) (fun r8 h8 p8 => ?_)
    obtain ⟨rfl, rfl⟩ := p8
    refine ar_aret (k := 9) rfl rfl rfl (Nat.le_refl _) ?_
    first
      | (subst q1; exact ⟨rfl, rfl⟩)
      | (have q2 : k = 0 := by omega
         subst q2; exact ⟨rfl, rfl⟩)
  · refine ar_tswIn (k := 1) (t := 52) rfl (by omega) (by omega) (by omega) (by rw [q1]; rfl) (by decide) ?_
    refine br_new (k := 10) (ci := 3) (N := 4) rfl klT_289 rfl (fun j hj => by rcases (show j = 0 ∨ j = 1 ∨ j = 2 ∨ j = 3 by omega) with rfl | rfl | rfl | rfl <;> exact ⟨_, rfl, rfl⟩) ⟨by show n - n + 1 ≤ 1; omega, by decide⟩ ?_
    have hKn : tK (zK K n (3, 4), zI I n, zQ Q n, n + 1) n (3, 4) := ⟨if_pos rfl, Nat.lt_succ_self n⟩
    refine ar_dup (k := 11) rfl rfl ?_
    refine ar_iloadn (k := 12) rfl rfl ?_
    refine ar_iloadn (k := 13) rfl rfl ?_
    refine ar_iloadn (k := 14) rfl rfl ?_
    refine ar_iloadn (k := 15) rfl rfl ?_
    refine ar_callI (k := 16) (as := [_, _, _, _]) rfl liT_291 (c_O_init_O hKn) rfl (by decide) (by decide) ⟨by show n + 1 - n + 0 ≤ 1; omega, by decide⟩ (Nat.le_of_ble_eq_true rfl) (fun r16 h16 p16 => ?_)
    obtain ⟨rfl, rfl⟩ := p16
    refine ar_aret (k := 17) rfl rfl rfl (Nat.le_refl _) ?_
    first
      | (subst q1; exact ⟨rfl, rfl⟩)
      | (have q2 : k = 0 := by omega
         subst q2; exact ⟨rfl, rfl⟩)
  · refine ar_tswIn (k := 1) (t := 64) rfl (by omega) (by omega) (by omega) (by rw [q1]; rfl) (by decide) ?_
    refine br_new (k := 18) (ci := 1) (N := 4) rfl klT_292 rfl (fun j hj => by rcases (show j = 0 ∨ j = 1 ∨ j = 2 ∨ j = 3 by omega) with rfl | rfl | rfl | rfl <;> exact ⟨_, rfl, rfl⟩) ⟨by show n - n + 1 ≤ 1; omega, by decide⟩ ?_
    have hKn : tK (zK K n (1, 4), zI I n, zQ Q n, n + 1) n (1, 4) := ⟨if_pos rfl, Nat.lt_succ_self n⟩
    refine ar_dup (k := 19) rfl rfl ?_
    refine ar_iloadn (k := 20) rfl rfl ?_
    refine ar_iloadn (k := 21) rfl rfl ?_
    refine ar_iloadn (k := 22) rfl rfl ?_
    refine ar_iloadn (k := 23) rfl rfl ?_
    refine ar_callI (k := 24) (as := [_, _, _, _]) rfl liT_294 (c_G_init_G hKn) rfl (by decide) (by decide) ⟨by show n + 1 - n + 0 ≤ 1; omega, by decide⟩ (Nat.le_of_ble_eq_true rfl) (fun r24 h24 p24 => ?_)
    obtain ⟨rfl, rfl⟩ := p24
    refine ar_aret (k := 25) rfl rfl rfl (Nat.le_refl _) ?_
    first
      | (subst q1; exact ⟨rfl, rfl⟩)
      | (have q2 : k = 0 := by omega
         subst q2; exact ⟨rfl, rfl⟩)
  · refine ar_tswIn (k := 1) (t := 76) rfl (by omega) (by omega) (by omega) (by rw [q1]; rfl) (by decide) ?_
    refine br_new (k := 26) (ci := 5) (N := 4) rfl klT_295 rfl (fun j hj => by rcases (show j = 0 ∨ j = 1 ∨ j = 2 ∨ j = 3 by omega) with rfl | rfl | rfl | rfl <;> exact ⟨_, rfl, rfl⟩) ⟨by show n - n + 1 ≤ 1; omega, by decide⟩ ?_
    have hKn : tK (zK K n (5, 4), zI I n, zQ Q n, n + 1) n (5, 4) := ⟨if_pos rfl, Nat.lt_succ_self n⟩
    refine ar_dup (k := 27) rfl rfl ?_
    refine ar_iloadn (k := 28) rfl rfl ?_
    refine ar_iloadn (k := 29) rfl rfl ?_
    refine ar_iloadn (k := 30) rfl rfl ?_
    refine ar_iloadn (k := 31) rfl rfl ?_
    refine ar_callI (k := 32) (as := [_, _, _, _]) rfl liT_297 (c_L_init_L hKn) rfl (by decide) (by decide) ⟨by show n + 1 - n + 0 ≤ 1; omega, by decide⟩ (Nat.le_of_ble_eq_true rfl) (fun r32 h32 p32 => ?_)
    obtain ⟨rfl, rfl⟩ := p32
    refine ar_aret (k := 33) rfl rfl rfl (Nat.le_refl _) ?_
    first
      | (subst q1; exact ⟨rfl, rfl⟩)
      | (have q2 : k = 0 := by omega
         subst q2; exact ⟨rfl, rfl⟩)
  · refine ar_tswIn (k := 1) (t := 88) rfl (by omega) (by omega) (by omega) (by rw [q1]; rfl) (by decide) ?_
    refine br_new (k := 34) (ci := 4) (N := 4) rfl klT_298 rfl (fun j hj => by rcases (show j = 0 ∨ j = 1 ∨ j = 2 ∨ j = 3 by omega) with rfl | rfl | rfl | rfl <;> exact ⟨_, rfl, rfl⟩) ⟨by show n - n + 1 ≤ 1; omega, by decide⟩ ?_
    have hKn : tK (zK K n (4, 4), zI I n, zQ Q n, n + 1) n (4, 4) := ⟨if_pos rfl, Nat.lt_succ_self n⟩
    refine ar_dup (k := 35) rfl rfl ?_
    refine ar_iloadn (k := 36) rfl rfl ?_
    refine ar_iloadn (k := 37) rfl rfl ?_
    refine ar_iloadn (k := 38) rfl rfl ?_
    refine ar_iloadn (k := 39) rfl rfl ?_
    refine ar_callI (k := 40) (as := [_, _, _, _]) rfl liT_300 (c_A_init_A hKn) rfl (by decide) (by decide) ⟨by show n + 1 - n + 0 ≤ 1; omega, by decide⟩ (Nat.le_of_ble_eq_true rfl) (fun r40 h40 p40 => ?_)
    obtain ⟨rfl, rfl⟩ := p40
    refine ar_aret (k := 41) rfl rfl rfl (Nat.le_refl _) ?_
    first
      | (subst q1; exact ⟨rfl, rfl⟩)
      | (have q2 : k = 0 := by omega
         subst q2; exact ⟨rfl, rfl⟩)
  · refine ar_tswIn (k := 1) (t := 100) rfl (by omega) (by omega) (by omega) (by rw [q1]; rfl) (by decide) ?_
    refine br_new (k := 42) (ci := 7) (N := 4) rfl klT_95 rfl (fun j hj => by rcases (show j = 0 ∨ j = 1 ∨ j = 2 ∨ j = 3 by omega) with rfl | rfl | rfl | rfl <;> exact ⟨_, rfl, rfl⟩) ⟨by show n - n + 1 ≤ 1; omega, by decide⟩ ?_
    have hKn : tK (zK K n (7, 4), zI I n, zQ Q n, n + 1) n (7, 4) := ⟨if_pos rfl, Nat.lt_succ_self n⟩
    refine ar_dup (k := 43) rfl rfl ?_
    refine ar_iloadn (k := 44) rfl rfl ?_
    refine ar_iloadn (k := 45) rfl rfl ?_
    refine ar_iloadn (k := 46) rfl rfl ?_
    refine ar_iloadn (k := 47) rfl rfl ?_
    refine ar_callI (k := 48) (as := [_, _, _, _]) rfl liT_301 (c_D_init_D hKn) rfl (by decide) (by decide) ⟨by show n + 1 - n + 0 ≤ 1; omega, by decide⟩ (Nat.le_of_ble_eq_true rfl) (fun r48 h48 p48 => ?_)
    obtain ⟨rfl, rfl⟩ := p48
    refine ar_aret (k := 49) rfl rfl rfl (Nat.le_refl _) ?_
    first
      | (subst q1; exact ⟨rfl, rfl⟩)
      | (have q2 : k = 0 := by omega
         subst q2; exact ⟨rfl, rfl⟩)
  · refine ar_tswOut (k := 1) (t := 112) rfl (by omega) (by omega) (by decide) ?_
    refine br_new (k := 50) (ci := 2) (N := 4) rfl klT_141 rfl (fun j hj => by rcases (show j = 0 ∨ j = 1 ∨ j = 2 ∨ j = 3 by omega) with rfl | rfl | rfl | rfl <;> exact ⟨_, rfl, rfl⟩) ⟨by show n - n + 1 ≤ 1; omega, by decide⟩ ?_
    have hKn : tK (zK K n (2, 4), zI I n, zQ Q n, n + 1) n (2, 4) := ⟨if_pos rfl, Nat.lt_succ_self n⟩
    refine ar_dup (k := 51) rfl rfl ?_
    refine ar_iloadn (k := 52) rfl rfl ?_
    refine ar_iloadn (k := 53) rfl rfl ?_
    refine ar_iloadn (k := 54) rfl rfl ?_
    refine ar_iloadn (k := 55) rfl rfl ?_
    refine ar_callI (k := 56) (as := [_, _, _, _]) rfl liT_302 (c_H_init_H hKn) rfl (by decide) (by decide) ⟨by show n + 1 - n + 0 ≤ 1; omega, by decide⟩ (Nat.le_of_ble_eq_true rfl) (fun r56 h56 p56 => ?_)
    obtain ⟨rfl, rfl⟩ := p56
    refine ar_aret (k := 57) rfl rfl rfl (Nat.le_refl _) ?_
    first
      | (subst q1; exact ⟨rfl, rfl⟩)
      | (have q2 : k = 0 := by omega
         subst q2; exact ⟨rfl, rfl⟩)
end CP2
