theorem cSs_app (x y : tCL) : cSs (x ++ y) = cSs x ++ cSs y := by unfold cSs; rw [List.flatMap_append]
theorem cFl_app (x y : tCL) : cFl (x ++ y) = cFl x ++ cFl y := by unfold cFl; rw [List.flatMap_append]
theorem cSs_one (c : List Int × Int) : cSs [c] = c.1.map cSt := by simp [cSs]
theorem cFl_one (c : List Int × Int) : cFl [c] = c.1 ++ [c.2] := by simp [cFl]
theorem tk_s {L : tCL} {j : Nat} (hj : j < L.length) : L.take (j + 1) = L.take j ++ [L.getD j ([], 0)] := by
  rw [List.take_add_one, List.getD_eq_getElem?_getD, List.getElem?_eq_getElem hj]
  rfl
theorem cSs_len {L : tCL} {j : Nat} (hj : j < L.length) : (cSs (L.take (j + 1))).length = (cSs (L.take j)).length + (L.getD j ([], 0)).1.length := by
  rw [tk_s hj, cSs_app, cSs_one, List.length_append, List.length_map]
theorem cSs_le {L : tCL} {j : Nat} : (cSs (L.take j)).length ≤ (cSs L).length := by
  have e : cSs L = cSs (L.take j) ++ cSs (L.drop j) := by rw [← cSs_app, List.take_append_drop]
  rw [e, List.length_append]
  omega
theorem cSs_get {L : tCL} {j i : Nat} (hj : j < L.length) (hi : i < (L.getD j ([], 0)).1.length) : (cSs L).getD ((cSs (L.take j)).length + i) 0 = cSt ((L.getD j ([], 0)).1.getD i 0) := by
  have e : cSs L = (cSs (L.take j) ++ (L.getD j ([], 0)).1.map cSt) ++ cSs (L.drop (j + 1)) := by
    rw [← cSs_one, ← cSs_app, ← tk_s hj, ← cSs_app, List.take_append_drop]
  rw [e, List.getD_eq_getElem?_getD, List.getElem?_append_left (by rw [List.length_append, List.length_map]; omega), List.getElem?_append_right (by omega), show (cSs (L.take j)).length + i - (cSs (L.take j)).length = i by omega]
  clear e
  generalize (L.getD j ([], 0)).1 = c at hi ⊢
  rw [List.getElem?_map, List.getD_eq_getElem?_getD, List.getElem?_eq_getElem hi]
  rfl
theorem getD_mem {L : tCL} {j : Nat} (hj : j < L.length) : L.getD j ([], 0) ∈ L := by
  rw [List.getD_eq_getElem?_getD, List.getElem?_eq_getElem hj]
  exact List.getElem_mem hj
section CV3
variable {l : Launch} {G : tG} {K : Nat → Nat × Nat} {I : Nat → Int → Int} {Q : Nat → Int → Option Nat} {n : Nat} {s : Int → Int}
theorem li_V_reckon {v ra j : Nat} {wh am e : Int} {Pp : Option tV → tH → Prop} (hv : VS K Q n v) (hra : tK (K, I, Q, n) ra (14, 24)) (hrv : ra < 63) (hj : j < 10) (ham : I (v + 1) (j : Int) = am) (cont : ∀ (x : Int) (J : Nat → Int → Int), (∀ a, a ≠ ra → J a = I a) → (∀ u : Nat, u < 24 → J ra (u : Int) = I ra (u : Int) + (if ib wh u = true then am else 0)) → tw_AW l G mV_reckon 3 0 0 n 0 Pp 78 [(5, vi x), (0, vr (some v)), (1, vr (some ra)), (2, vi e), (3, vi (j : Int)), (4, vi wh)] [] (K, J, Q, n)) : ∀ (k : Nat) (hh : Nat) (J : Nat → Int → Int), hh + k = 24 → (∀ a, a ≠ ra → J a = I a) ∧ (∀ u : Nat, u < hh → J ra (u : Int) = I ra (u : Int) + (if ib wh u = true then am else 0)) ∧ (∀ u : Nat, hh ≤ u → J ra (u : Int) = I ra (u : Int)) → tw_AW l G mV_reckon 3 0 0 n 0 (Pp) 35 [(5, vi (hh : Int)), (0, vr (some v)), (1, vr (some ra)), (2, vi e), (3, vi (j : Int)), (4, vi wh)] [] (K, J, Q, n) := by
  intro k
  induction k with
  | zero =>
    intro hh J hk hJ
    refine ar_iload (k := 23) rfl rfl ?_
    refine ar_bipush (k := 24) rfl (by decide) ?_
    refine ar_icmp_ge (k := 25) rfl (by omega) (by omega) (fun c25 => ?_) (fun c25 => ?_)
    · exact cont _ J hJ.1 (fun u hu => hJ.2.1 u (by omega))
    · exfalso; omega
  | succ k ih =>
    intro hh J hk hJ
    refine ar_iload (k := 23) rfl rfl ?_
    refine ar_bipush (k := 24) rfl (by decide) ?_
    refine ar_icmp_ge (k := 25) rfl (by omega) (by omega) (fun c25 => ?_) (fun c25 => ?_)
    · exfalso; omega
    · refine ar_iload (k := 26) rfl rfl ?_
      refine ar_aloadn (k := 27) rfl rfl ?_
      refine br_alen (k := 28) rfl hra (by decide) (by decide) ?_
      refine ar_icmp_ge (k := 29) rfl (by omega) (by omega) (fun c29 => ?_) (fun c29 => ?_)
      · exfalso; omega
      · have hb1 := bAnd1 (bShr wh (hh : Int))
        have h0v := hv.1
        refine ar_iload (k := 30) rfl rfl ?_
        refine ar_iload (k := 31) rfl rfl ?_
        refine ar_ishr (k := 32) rfl ?_
        refine ar_iconst (k := 33) rfl ?_
        refine ar_iand (k := 34) rfl ?_
        refine ar_if_eq (k := 35) rfl (by omega) (fun c35 => ?_) (fun c35 => ?_)
        · refine ar_iinc (k := 46) (l2 := [(5, _), (0, _), (1, _), (2, _), (3, _), (4, _)]) rfl (by decide) rfl rfl ?_
          refine ar_goto (k := 47) rfl ?_
          refine ar_sub (l2 := [(5, vi ((hh + 1 : Nat) : Int)), (0, vr (some v)), (1, vr (some ra)), (2, vi e), (3, vi (j : Int)), (4, vi wh)]) (tw_s (tw_e 0 rfl (by omega)) (tw_s (tw_g 1 rfl) (tw_s (tw_g 2 rfl) (tw_s (tw_g 3 rfl) (tw_s (tw_g 4 rfl) (tw_s (tw_g 5 rfl) tw_s0)))))) ?_
          refine ih (hh + 1) J (by omega) ⟨hJ.1, fun u hu => ?_, fun u hu => hJ.2.2 u (by omega)⟩
          by_cases g : u = hh
          · subst g
            rw [if_neg (fun z => by have := (ib_bit1 wh (j := u) (by omega)).mpr z; omega), Int.add_zero]
            exact hJ.2.2 u (Nat.le_refl _)
          · exact hJ.2.1 u (by omega)
        · skip
          refine ar_aloadn (k := 36) rfl rfl ?_
          refine ar_iload (k := 37) rfl rfl ?_
          refine ar_dup2 (k := 38) rfl rfl rfl ?_
          refine br_iald (k := 39) rfl hra (by omega) (by omega) (by decide) ?_
          refine ar_aloadn (k := 40) rfl rfl ?_
          refine br_getR (k := 41) rfl hv.k0 flV_15_9 (by decide) rfl hv.q1 ?_
          refine ar_iloadn (k := 42) rfl rfl ?_
          refine br_iald (k := 43) rfl hv.k1 (by omega) (by omega) (by decide) ?_
          refine tw_top ((congrFun (hJ.1 _ (by omega)) _).trans ham) ?_
          refine ar_iadd (k := 44) rfl ?_
          refine br_iastJ (k := 45) rfl hra (by omega) (by omega) (by decide) (fun I45 e45 => ?_)
          skip
          refine ar_iinc (k := 46) (l2 := [(5, _), (0, _), (1, _), (2, _), (3, _), (4, _)]) rfl (by decide) rfl rfl ?_
          refine ar_goto (k := 47) rfl ?_
          refine ar_sub (l2 := [(5, vi ((hh + 1 : Nat) : Int)), (0, vr (some v)), (1, vr (some ra)), (2, vi e), (3, vi (j : Int)), (4, vi wh)]) (tw_s (tw_e 0 rfl (by omega)) (tw_s (tw_g 1 rfl) (tw_s (tw_g 2 rfl) (tw_s (tw_g 3 rfl) (tw_s (tw_g 4 rfl) (tw_s (tw_g 5 rfl) tw_s0)))))) ?_
          refine ih (hh + 1) I45 (by omega) ⟨fun a ha => by rw [e45, uI_off _ _ _ ha]; exact hJ.1 a ha, fun u hu => ?_, fun u hu => by rw [e45, uI_at, if_neg (by omega)]; exact hJ.2.2 u (by omega)⟩
          rw [e45, uI_at]
          by_cases g : u = hh
          · subst g
            rw [if_pos rfl, if_pos ((ib_bit1 _ (by omega)).mp (by omega)), hJ.2.2 u (Nat.le_refl _)]
          · rw [if_neg (by omega)]
            exact hJ.2.1 u (by omega)
theorem l_V_reckon {v ra : Nat} {b : Int → Int} {L : tCL} (hv : VS K Q n v) (hra : tK (K, I, Q, n) ra (14, 24)) (hrv : ra < 63) (hf : ∀ j, 1 ≤ j → j ≤ 4 → I (v + 4) j = b j) (hb : ∀ j, 1 ≤ j → j ≤ 4 → tr (b j)) (hD : VD I v L) (hdp : lDeep 0 (cFl L) = some 0) : ∀ (k : Nat) (j : Nat) (J : Nat → Int → Int), j + k = L.length → (∀ a, a ≠ ra → a ≠ v + 5 → J a = I a) ∧ (∀ u : Nat, u < 24 → J ra (u : Int) = clW (bu b (u : Int)) (L.take j) (I ra (u : Int))) → tw_AW l G mV_reckon 3 0 0 n 0 ((fun r h' => r = none ∧ ∃ J, h' = (K, J, Q, n) ∧ (∀ a, a ≠ ra → a ≠ v + 5 → J a = I a) ∧ ∀ u : Nat, u < 24 → J ra (u : Int) = clW (bu b (u : Int)) L (I ra (u : Int)))) 4 [(3, vi (j : Int)), (2, vi ((cSs (L.take j)).length : Int)), (0, vr (some v)), (1, vr (some ra))] [] (K, J, Q, n) := by
  obtain ⟨hD1, hD2, hD3, hD4, hD5, hD6, hD7⟩ := id hD
  have h0v := hv.1
  intro k
  induction k with
  | zero =>
    intro j J hk hJ
    refine ar_iloadn (k := 4) rfl rfl ?_
    refine ar_aloadn (k := 5) rfl rfl ?_
    refine br_getIz (k := 6) (z := 3) rfl hv.k0 flV_22_9 (by decide) rfl rfl ?_
    refine tw_top ((congrFun (hJ.1 _ (by omega) (by omega)) _).trans hD1) ?_
    refine ar_icmp_ge (k := 7) rfl (by omega) (by omega) (fun c7 => ?_) (fun c7 => ?_)
    · refine ar_ret (k := 50) rfl rfl rfl (Nat.le_refl _) ?_
      refine ⟨rfl, J, rfl, hJ.1, fun u hu => ?_⟩
      have := hJ.2 u hu
      rwa [List.take_of_length_le (by omega)] at this
    · exfalso; omega
  | succ k ih =>
    intro j J hk hJ
    refine ar_iloadn (k := 4) rfl rfl ?_
    refine ar_aloadn (k := 5) rfl rfl ?_
    refine br_getIz (k := 6) (z := 3) rfl hv.k0 flV_22_9 (by decide) rfl rfl ?_
    refine tw_top ((congrFun (hJ.1 _ (by omega) (by omega)) _).trans hD1) ?_
    refine ar_icmp_ge (k := 7) rfl (by omega) (by omega) (fun c7 => ?_) (fun c7 => ?_)
    · exfalso; omega
    · have hjl : j < L.length := by omega
      refine ar_aloadn (k := 8) rfl rfl ?_
      refine ar_iloadn (k := 9) rfl rfl ?_
      refine ar_aloadn (k := 10) rfl rfl ?_
      refine br_getR (k := 11) rfl hv.k0 flV_19_9 (by decide) rfl hv.q2 ?_
      refine ar_iloadn (k := 12) rfl rfl ?_
      refine br_iald (k := 13) rfl hv.k2 (by omega) (by omega) (by decide) ?_
      refine tw_top ((congrFun (hJ.1 _ (by omega) (by omega)) _).trans (hD5 j (by omega)).2) ?_
      refine ar_callV (k := 14) (as := [_, _]) rfl lvV_134 hv.k0 rfl (c_V_holdsWhen (fr := (cSs (L.take j)).length) (to := (cSs (L.take (j + 1))).length) (c := (L.getD j ([], 0)).1) hv (fun i i1 i2 => by rw [hJ.1 _ (by omega) (by omega)]; exact hf i i1 i2) hb (cSs_len hjl).symm (by have := cSs_le (L := L) (j := j + 1); omega) (fun i hi => by rw [hJ.1 _ (by omega) (by omega), hD6 _ (by have := cSs_le (L := L) (j := j + 1); have := cSs_len hjl; omega)]; exact cSs_get hjl hi) (LOK_deep L hD7 hdp _ (getD_mem hjl)) (hD7 _ (getD_mem hjl)).1) rfl (by decide) (by decide) tw_m0 (Nat.le_of_ble_eq_true rfl) (fun r14 h14 p14 => ?_)
      obtain ⟨wh, I14, rfl, rfl, hK14, hwh⟩ := p14
      have hE2 : ∀ a, a ≠ ra → a ≠ v + 5 → I14 a = I a := fun a a1 a2 => (hK14 a a2).trans (hJ.1 a a1 a2)
      refine ar_istore (k := 15) (l2 := [(4, _), (3, _), (2, _), (0, _), (1, _)]) rfl (by decide) rfl ?_
      refine ar_aloadn (k := 16) rfl rfl ?_
      refine br_getR (k := 17) rfl hv.k0 flV_19_9 (by decide) rfl hv.q2 ?_
      refine ar_iloadn (k := 18) rfl rfl ?_
      refine br_iald (k := 19) rfl hv.k2 (by omega) (by omega) (by decide) ?_
      refine tw_top ((congrFun (hE2 _ (by omega) (by omega)) _).trans (hD5 j (by omega)).2) ?_
      refine ar_istoren (k := 20) (l2 := [(2, _), (4, _), (3, _), (0, _), (1, _)]) rfl (by decide) rfl ?_
      refine ar_iconst (k := 21) rfl ?_
      refine ar_istore (k := 22) (l2 := [(5, _), (2, _), (4, _), (3, _), (0, _), (1, _)]) rfl (by decide) rfl ?_
      refine ar_sub (l2 := [(5, vi ((0 : Nat) : Int)), (0, vr (some v)), (1, vr (some ra)), (2, vi ((cSs (L.take (j + 1))).length : Int)), (3, vi (j : Int)), (4, vi wh)]) (tw_s (tw_e 0 rfl (by rfl)) (tw_s (tw_g 4 rfl) (tw_s (tw_g 5 rfl) (tw_s (tw_g 1 rfl) (tw_s (tw_g 3 rfl) (tw_s (tw_g 2 rfl) tw_s0)))))) ?_
      refine li_V_reckon (I := I14) (j := j) (am := cAm (L.getD j ([], 0)).2) hv hra hrv (by omega) ((congrFun (hE2 _ (by omega) (by omega)) _).trans (hD5 j (by omega)).1) (fun x N hN1 hN2 => ?_) 24 0 I14 (by omega) ⟨fun a ha => rfl, fun u hu => absurd hu (Nat.not_lt_zero _), fun u hu => rfl⟩
      refine ar_iinc (k := 48) (l2 := [(3, _), (5, _), (0, _), (1, _), (2, _), (4, _)]) rfl (by decide) rfl rfl ?_
      refine ar_goto (k := 49) rfl ?_
      refine ar_sub (l2 := [(3, vi ((j + 1 : Nat) : Int)), (2, vi ((cSs (L.take (j + 1))).length : Int)), (0, vr (some v)), (1, vr (some ra))]) (tw_s (tw_e 0 rfl (by omega)) (tw_s (tw_g 4 rfl) (tw_s (tw_g 2 rfl) (tw_s (tw_g 3 rfl) tw_s0)))) ?_
      refine ih (j + 1) N (by omega) ⟨fun a a1 a2 => (hN1 a a1).trans (hE2 a a1 a2), fun u hu => ?_⟩
      rw [hN2 u hu, hK14 ra (by omega), hJ.2 u hu, tk_s hjl, clW_app, clW, clW, hwh u hu]
theorem c_V_reckon {v ra : Nat} {b : Int → Int} {L : tCL} (hv : VS K Q n v) (hra : tK (K, I, Q, n) ra (14, 24)) (hrv : ra < 63) (hf : ∀ j, 1 ≤ j → j ≤ 4 → I (v + 4) j = b j) (hb : ∀ j, 1 ≤ j → j ≤ 4 → tr (b j)) (hD : VD I v L) (hdp : lDeep 0 (cFl L) = some 0) : tw_M l G 3 0 0 mV_reckon [vr (some v), vr (some ra)] (K, I, Q, n) (fun r h' => r = none ∧ ∃ J, h' = (K, J, Q, n) ∧ (∀ a, a ≠ ra → a ≠ v + 5 → J a = I a) ∧ ∀ u : Nat, u < 24 → J ra (u : Int) = clW (bu b (u : Int)) L (I ra (u : Int))) := by
  refine tw_intro okV_reckon (Nat.le_of_ble_eq_true rfl) ?_
  refine ar_iconst (k := 0) rfl ?_
  refine ar_istoren (k := 1) (l2 := [(2, _), (0, _), (1, _)]) rfl (by decide) rfl ?_
  refine ar_iconst (k := 2) rfl ?_
  refine ar_istoren (k := 3) (l2 := [(3, _), (2, _), (0, _), (1, _)]) rfl (by decide) rfl ?_
  refine ar_sub (l2 := [(3, vi ((0 : Nat) : Int)), (2, vi ((cSs (L.take 0)).length : Int)), (0, vr (some v)), (1, vr (some ra))]) (tw_s (tw_e 0 rfl (by rfl)) (tw_s (tw_e 1 rfl (by rfl)) (tw_s (tw_g 2 rfl) (tw_s (tw_g 3 rfl) tw_s0)))) ?_
  exact l_V_reckon hv hra hrv hf hb hD hdp L.length 0 I (by omega) ⟨fun a a1 a2 => rfl, fun u hu => rfl⟩
end CV3
