/-- the class while it reads -/
def vT (I : Nat → Int → Int) (s : Int → Int) (v : Nat) (e : Int) : Prop := I v 9 = e ∧ ∀ i, 0 ≤ i → i < 100 → I (vX v) i = s (174 + i)
def vH (I J : Nat → Int → Int) (v : Nat) (p : Int) (o : List Int) : Prop := J v 10 = p ∧ J v 5 = (o.length : Int) ∧ (∀ i : Nat, i < o.length → J (v + 3) (i : Int) = o.getD i 0) ∧ (∀ b, b ≠ v → b ≠ v + 3 → J b = I b) ∧ ∀ k : Int, k ≠ 5 → k ≠ 10 → k ≠ 11 → J v k = I v k
def vP (K : Nat → Nat × Nat) (I : Nat → Int → Int) (Q : Nat → Int → Option Nat) (n v : Nat) (o r : List Int) (q : tP) : Option tV → tH → Prop := fun x h' => x = some (vi (if q.2.1 = true then 0 else 1)) ∧ ∃ L o', h' = (K, L, Q, n) ∧ vH I L v q.1 o' ∧ (q.2.1 = false → ∃ z, q.2.2 = r ++ z ∧ o' = o ++ z.map cSt ∧ ∀ x ∈ z, -3 ≤ x)
theorem vH.pl {I J L : Nat → Int → Int} {v : Nat} {p x y : Int} {o : List Int} (h : vH I J v p o) (e : L = uI J v 10 x) (hx : x = y) : vH I L v y o := by
  subst e; subst hx
  obtain ⟨h1, h2, h3, h4, h5⟩ := h
  refine ⟨by rw [uI_at, if_pos rfl], by rw [uI_at, if_neg (by decide)]; exact h2, fun i hi => by rw [uI_off _ _ _ (by omega)]; exact h3 i hi, fun b b1 b2 => by rw [uI_off _ _ _ b1]; exact h4 b b1 b2, fun k k1 k2 k3 => by rw [uI_at, if_neg k2]; exact h5 k k1 k2 k3⟩
theorem vH.nb {I J L : Nat → Int → Int} {v : Nat} {p x : Int} {o : List Int} (h : vH I J v p o) (e : L = uI J v 11 x) : vH I L v p o := by
  subst e
  obtain ⟨h1, h2, h3, h4, h5⟩ := h
  refine ⟨by rw [uI_at, if_neg (by decide)]; exact h1, by rw [uI_at, if_neg (by decide)]; exact h2, fun i hi => by rw [uI_off _ _ _ (by omega)]; exact h3 i hi, fun b b1 b2 => by rw [uI_off _ _ _ b1]; exact h4 b b1 b2, fun k k1 k2 k3 => by rw [uI_at, if_neg k3]; exact h5 k k1 k2 k3⟩
theorem vH.sp {I J L M : Nat → Int → Int} {v : Nat} {p x y : Int} {o : List Int} (h : vH I J v p o) (e1 : L = uI J (v + 3) (o.length : Int) x) (e2 : M = uI L v 5 y) (hy : y = (o.length : Int) + 1) : vH I M v p (o ++ [x]) := by
  subst e2; subst e1; subst hy
  obtain ⟨h1, h2, h3, h4, h5⟩ := h
  refine ⟨by rw [uI_at, if_neg (by decide), uI_off _ _ _ (by omega)]; exact h1, by rw [uI_at, if_pos rfl, List.length_append]; rfl, fun i hi => ?_, fun b b1 b2 => by rw [uI_off _ _ _ b1, uI_off _ _ _ b2]; exact h4 b b1 b2, fun k k1 k2 k3 => by rw [uI_at, if_neg k1, uI_off _ _ _ (by omega)]; exact h5 k k1 k2 k3⟩
  rw [uI_off _ _ _ (by omega), uI_at]
  rw [List.length_append, List.length_singleton] at hi
  by_cases g : i = o.length
  · subst g
    rw [if_pos rfl]; simp
  · rw [if_neg (by omega), h3 i (by omega), List.getD_eq_getElem?_getD, List.getD_eq_getElem?_getD, List.getElem?_append_left (by omega)]
theorem vH.tp {I J : Nat → Int → Int} {s : Int → Int} {v : Nat} {e p : Int} {o : List Int} (hv : 63 ≤ v) (hT : vT I s v e) (h : vH I J v p o) (p1 : 0 ≤ p ∧ p < 100) : J (vX v) p = tpe s p := by
  have hx := vX_gt v
  rw [h.2.2.2.1 (vX v) (by omega) (by omega), hT.2 p p1.1 p1.2]
  unfold tpe
  rw [if_pos p1]
theorem vH.sz {I J : Nat → Int → Int} {s : Int → Int} {v : Nat} {e p : Int} {o : List Int} (hT : vT I s v e) (h : vH I J v p o) : J v 9 = e := (h.2.2.2.2 9 (by decide) (by decide) (by decide)).trans hT.1
theorem pHere_w {s : Int → Int} {a e p : Int} (hB : pB s a e) (hp : 0 ≤ p) : (p < e ∧ pHere (tpe s) e p = tpe s p ∧ 0 ≤ tpe s p ∧ tpe s p ≤ 127) ∨ (¬ p < e ∧ pHere (tpe s) e p = -1) := by
  unfold pHere
  by_cases h : p < e
  · left
    rw [if_pos h]
    refine ⟨h, rfl, ?_⟩
    have h1 := hB.2.1
    unfold tpe
    rw [if_pos (by omega)]
    exact hB.2.2 p hp (by omega)
  · right
    rw [if_neg h]
    exact ⟨h, rfl⟩
theorem pMust_f {t : Int → Int} {e c p : Int} {r : List Int} : pMust t e c (p, false, r) = if pHere t e p = c then (p + 1, false, r) else (p, true, r) := by
  unfold pMust
  by_cases h : pHere t e p = c
  · rw [if_neg (by simp [h]), if_pos h]
  · rw [if_pos (Or.inr h), if_neg h]
theorem pSpl_w {t : Int → Int} {e p : Int} {r : List Int} {j : Nat} : ∀ k i, pSpl t e j k i (p, true, r) = (p, true, r)
  | 0, _ => rfl
  | k + 1, i => by
    rw [pSpl, show pMust t e (sB j (i : Int)) (p, true, r) = (p, true, r) by unfold pMust; rw [if_pos (Or.inl rfl)]]
    exact pSpl_w k (i + 1)
theorem dig_all : ∀ x : Nat, x < 128 → sIx 1 (x : Int) = if 48 ≤ x ∧ x ≤ 57 then (x : Int) - 48 else -1 := by decide +kernel
theorem pAm_dig {s : Int → Int} {a e p : Int} (hB : pB s a e) (hp : 0 ≤ p) : ((48 ≤ pHere (tpe s) e p ∧ pHere (tpe s) e p ≤ 57) ∧ pAm (tpe s) e 1 p = pHere (tpe s) e p - 48) ∨ (¬ (48 ≤ pHere (tpe s) e p ∧ pHere (tpe s) e p ≤ 57) ∧ pAm (tpe s) e 1 p = -1) := by
  have h := pHere_w hB hp
  show _ ∨ (_ ∧ sIx 1 (pHere (tpe s) e p) = -1)
  have e1 : pAm (tpe s) e 1 p = sIx 1 (pHere (tpe s) e p) := rfl
  rw [e1]
  rcases h with h | h
  · have h2 := dig_all (pHere (tpe s) e p).toNat (by omega)
    rw [show (((pHere (tpe s) e p).toNat : Nat) : Int) = pHere (tpe s) e p by omega] at h2
    by_cases g : 48 ≤ (pHere (tpe s) e p).toNat ∧ (pHere (tpe s) e p).toNat ≤ 57
    · rw [if_pos g] at h2
      left; exact ⟨by omega, h2⟩
    · rw [if_neg g] at h2
      right; exact ⟨by omega, h2⟩
  · right
    refine ⟨by omega, ?_⟩
    rw [h.2]
    decide +kernel
section CQ1
variable {l : Launch} {G : tG} {M : tM} {d mc ms n0 c2 : Nat} {P : Option tV → tH → Prop} {ls : List (Nat × tV)} {st : List tV} {k pc nx tg : Nat} {h : tH}
theorem ar_callVSf {i mc' ms' d' n' j : Nat} {M' : tM} {as : List tV} {r0 : Option tV} {h1 : tH} (hd : M.2.2.2.2[k]? = some (pc, .invokevirtual i, nx, tg)) (hw : tw_LV M.1.cls i M' "java/lang/String" n') (hj : j < 6) (hM : tw_F l G d' mc' ms' M' (vr (some (1000000 + j)) :: as) h r0 h1) (hn' : as.length = n') (hdd : d' + 1 ≤ d) (hL : M'.2.2.1 ≤ 45) (hm : h.2.2.2 - n0 + mc' ≤ mc ∧ c2 + ms' ≤ ms) (hst : (st.map tw_w).sum ≤ 8) (kk : ∀ r h', (r = r0 ∧ h' = h1) → tw_AW l G M d mc ms n0 (c2 + ms') P nx ls (r.toList ++ st) h') : tw_AW l G M d mc ms n0 c2 P pc ls (as.reverse ++ vr (some (1000000 + j)) :: st) h := br_callVS hd hw hj hM hn' hdd hL hm hst (kk _ _ ⟨rfl, rfl⟩)
end CQ1
section CQ2
variable {l : Launch} {G : tG} {K : Nat → Nat × Nat} {I J : Nat → Int → Int} {Q : Nat → Int → Option Nat} {n : Nat} {s : Int → Int} {v : Nat} {a e p : Int} {o r : List Int}
theorem c_V_next (hS : tSt (K, J, Q, n)) (hv : VS K Q n v) (hT : vT I s v e) (hB : pB s a e) (hk : vH I J v p o) (p1 : 0 ≤ p ∧ p ≤ e) : tw_F l G 1 0 0 mV_next [vr (some v)] (K, J, Q, n) (some (vi (if p < e then tpe s p else 0))) (K, J, Q, n) := by
  have hw := pHere_w hB p1.1
  have he := hB.2.1
  have hv1 := hv.1
  refine tw_intro okV_next (Nat.le_of_ble_eq_true rfl) ?_
  refine ar_aloadn (k := 0) rfl rfl ?_
  refine br_getIz (k := 1) (z := 10) rfl hv.k0 flV_44_9 (by decide) rfl rfl ?_
  refine tw_top hk.1 ?_
  refine ar_aloadn (k := 2) rfl rfl ?_
  refine br_getIz (k := 3) (z := 9) rfl hv.k0 flV_41_9 (by decide) rfl rfl ?_
  refine tw_top (hk.sz hT) ?_
  refine ar_icmp_ge (k := 4) rfl (by omega) (by omega) (fun c4 => ?_) (fun c4 => ?_)
  · refine ar_iconst (k := 11) rfl ?_
    refine ar_iret (k := 12) rfl rfl rfl (Nat.le_refl _) ?_
    first
      | (rw [if_pos (by omega)]; exact ⟨rfl, rfl⟩)
      | (rw [if_neg (by omega)]; exact ⟨rfl, rfl⟩)
  · refine ar_aloadn (k := 5) rfl rfl ?_
    refine br_getR (k := 6) rfl hv.k0 flV_37_9 (by decide) rfl hv.q8 ?_
    refine ar_aloadn (k := 7) rfl rfl ?_
    refine br_getIz (k := 8) (z := 10) rfl hv.k0 flV_44_9 (by decide) rfl rfl ?_
    refine tw_top hk.1 ?_
    refine br_bald (k := 9) rfl hv.kx (by omega) (by omega) (by decide) ?_
    refine tw_top (y := tpe s p) (by exact vH.tp hv1.1 hT hk (by omega)) ?_
    refine ar_goto (k := 10) rfl ?_
    refine ar_iret (k := 12) rfl rfl rfl (Nat.le_refl _) ?_
    first
      | (rw [if_pos (by omega)]; exact ⟨rfl, rfl⟩)
      | (rw [if_neg (by omega)]; exact ⟨rfl, rfl⟩)
theorem c_V_take {c : Int} (hS : tSt (K, J, Q, n)) (hv : VS K Q n v) (hT : vT I s v e) (hB : pB s a e) (hk : vH I J v p o) (p1 : 0 ≤ p ∧ p ≤ e) (hc : 0 ≤ c ∧ c ≤ 127) : tw_M l G 1 0 0 mV_take [vr (some v), vi c] (K, J, Q, n) (fun x h' => x = some (vi (if pHere (tpe s) e p = c then 1 else 0)) ∧ ∃ L, h' = (K, L, Q, n) ∧ vH I L v (if pHere (tpe s) e p = c then p + 1 else p) o) := by
  have hw := pHere_w hB p1.1
  have he := hB.2.1
  have hv1 := hv.1
  refine tw_intro okV_take (Nat.le_of_ble_eq_true rfl) ?_
  refine ar_aloadn (k := 0) rfl rfl ?_
  refine br_getIz (k := 1) (z := 10) rfl hv.k0 flV_44_9 (by decide) rfl rfl ?_
  refine tw_top hk.1 ?_
  refine ar_aloadn (k := 2) rfl rfl ?_
  refine br_getIz (k := 3) (z := 9) rfl hv.k0 flV_41_9 (by decide) rfl rfl ?_
  refine tw_top (hk.sz hT) ?_
  refine ar_icmp_ge (k := 4) rfl (by omega) (by omega) (fun c4 => ?_) (fun c4 => ?_)
  · refine ar_iconst (k := 14) rfl ?_
    refine ar_istoren (k := 15) (l2 := [(2, _), (0, _), (1, _)]) rfl (by decide) rfl ?_
    refine ar_iloadn (k := 16) rfl rfl ?_
    refine ar_if_eq (k := 17) rfl (by omega) (fun c17 => ?_) (fun c17 => ?_)
    · refine ar_iloadn (k := 24) rfl rfl ?_
      refine ar_zret (k := 25) rfl rfl (by omega) rfl (Nat.le_refl _) ?_
      first
        | (exfalso; omega)
        | (rw [if_pos (by omega)]; rw [if_pos (by omega)]; exact ⟨rfl, J, rfl, hk⟩)
        | (rw [if_neg (by omega)]; rw [if_neg (by omega)]; exact ⟨rfl, J, rfl, hk⟩)
    · refine ar_aloadn (k := 18) rfl rfl ?_
      refine ar_dup (k := 19) rfl rfl ?_
      refine br_getIz (k := 20) (z := 10) rfl hv.k0 flV_44_9 (by decide) rfl rfl ?_
      refine tw_top hk.1 ?_
      refine ar_iconst (k := 21) rfl ?_
      refine ar_iadd (k := 22) rfl ?_
      refine br_putIJ (k := 23) rfl hv.k0 flV_44_9 (by decide) rfl (fun _ _ _ q => by cases q; exact ⟨rfl, rfl⟩) (fun I23 e23 => ?_)
      change _ = uI _ _ 10 _ at e23
      have hk23 := hk.pl e23 (y := p + 1) (by omega)
      refine ar_iloadn (k := 24) rfl rfl ?_
      refine ar_zret (k := 25) rfl rfl (by omega) rfl (Nat.le_refl _) ?_
      first
        | (exfalso; omega)
        | (rw [if_pos (by omega)]; rw [if_pos (by omega)]; exact ⟨rfl, I23, rfl, hk23⟩)
        | (rw [if_neg (by omega)]; rw [if_neg (by omega)]; exact ⟨rfl, I23, rfl, hk23⟩)
  · refine ar_aloadn (k := 5) rfl rfl ?_
    refine br_getR (k := 6) rfl hv.k0 flV_37_9 (by decide) rfl hv.q8 ?_
    refine ar_aloadn (k := 7) rfl rfl ?_
    refine br_getIz (k := 8) (z := 10) rfl hv.k0 flV_44_9 (by decide) rfl rfl ?_
    refine tw_top hk.1 ?_
    refine br_bald (k := 9) rfl hv.kx (by omega) (by omega) (by decide) ?_
    refine tw_top (y := tpe s p) (by exact vH.tp hv1.1 hT hk (by omega)) ?_
    refine ar_iloadn (k := 10) rfl rfl ?_
    refine ar_icmp_ne (k := 11) rfl (by omega) (by omega) (fun c11 => ?_) (fun c11 => ?_)
    · refine ar_iconst (k := 14) rfl ?_
      refine ar_istoren (k := 15) (l2 := [(2, _), (0, _), (1, _)]) rfl (by decide) rfl ?_
      refine ar_iloadn (k := 16) rfl rfl ?_
      refine ar_if_eq (k := 17) rfl (by omega) (fun c17 => ?_) (fun c17 => ?_)
      · refine ar_iloadn (k := 24) rfl rfl ?_
        refine ar_zret (k := 25) rfl rfl (by omega) rfl (Nat.le_refl _) ?_
        first
          | (exfalso; omega)
          | (rw [if_pos (by omega)]; rw [if_pos (by omega)]; exact ⟨rfl, J, rfl, hk⟩)
          | (rw [if_neg (by omega)]; rw [if_neg (by omega)]; exact ⟨rfl, J, rfl, hk⟩)
      · refine ar_aloadn (k := 18) rfl rfl ?_
        refine ar_dup (k := 19) rfl rfl ?_
        refine br_getIz (k := 20) (z := 10) rfl hv.k0 flV_44_9 (by decide) rfl rfl ?_
        refine tw_top hk.1 ?_
        refine ar_iconst (k := 21) rfl ?_
        refine ar_iadd (k := 22) rfl ?_
        refine br_putIJ (k := 23) rfl hv.k0 flV_44_9 (by decide) rfl (fun _ _ _ q => by cases q; exact ⟨rfl, rfl⟩) (fun I23 e23 => ?_)
        change _ = uI _ _ 10 _ at e23
        have hk23 := hk.pl e23 (y := p + 1) (by omega)
        refine ar_iloadn (k := 24) rfl rfl ?_
        refine ar_zret (k := 25) rfl rfl (by omega) rfl (Nat.le_refl _) ?_
        first
          | (exfalso; omega)
          | (rw [if_pos (by omega)]; rw [if_pos (by omega)]; exact ⟨rfl, I23, rfl, hk23⟩)
          | (rw [if_neg (by omega)]; rw [if_neg (by omega)]; exact ⟨rfl, I23, rfl, hk23⟩)
    · refine ar_iconst (k := 12) rfl ?_
      refine ar_goto (k := 13) rfl ?_
      refine ar_istoren (k := 15) (l2 := [(2, _), (0, _), (1, _)]) rfl (by decide) rfl ?_
      refine ar_iloadn (k := 16) rfl rfl ?_
      refine ar_if_eq (k := 17) rfl (by omega) (fun c17 => ?_) (fun c17 => ?_)
      · refine ar_iloadn (k := 24) rfl rfl ?_
        refine ar_zret (k := 25) rfl rfl (by omega) rfl (Nat.le_refl _) ?_
        first
          | (exfalso; omega)
          | (rw [if_pos (by omega)]; rw [if_pos (by omega)]; exact ⟨rfl, J, rfl, hk⟩)
          | (rw [if_neg (by omega)]; rw [if_neg (by omega)]; exact ⟨rfl, J, rfl, hk⟩)
      · refine ar_aloadn (k := 18) rfl rfl ?_
        refine ar_dup (k := 19) rfl rfl ?_
        refine br_getIz (k := 20) (z := 10) rfl hv.k0 flV_44_9 (by decide) rfl rfl ?_
        refine tw_top hk.1 ?_
        refine ar_iconst (k := 21) rfl ?_
        refine ar_iadd (k := 22) rfl ?_
        refine br_putIJ (k := 23) rfl hv.k0 flV_44_9 (by decide) rfl (fun _ _ _ q => by cases q; exact ⟨rfl, rfl⟩) (fun I23 e23 => ?_)
        change _ = uI _ _ 10 _ at e23
        have hk23 := hk.pl e23 (y := p + 1) (by omega)
        refine ar_iloadn (k := 24) rfl rfl ?_
        refine ar_zret (k := 25) rfl rfl (by omega) rfl (Nat.le_refl _) ?_
        first
          | (exfalso; omega)
          | (rw [if_pos (by omega)]; rw [if_pos (by omega)]; exact ⟨rfl, I23, rfl, hk23⟩)
          | (rw [if_neg (by omega)]; rw [if_neg (by omega)]; exact ⟨rfl, I23, rfl, hk23⟩)
theorem c_V_takeOneOf {j : Nat} (hj : j < 6) (hS : tSt (K, J, Q, n)) (hv : VS K Q n v) (hT : vT I s v e) (hB : pB s a e) (hk : vH I J v p o) (p1 : 0 ≤ p ∧ p ≤ e) : tw_M l G 5 0 0 mV_takeOneOf [vr (some v), vr (some (1000000 + j))] (K, J, Q, n) (fun x h' => x = some (vi (pAm (tpe s) e j p)) ∧ ∃ L, h' = (K, L, Q, n) ∧ vH I L v (if pAm (tpe s) e j p = -1 then p else p + 1) o ∧ L v 11 = J v 11) := by
  have hw := pHere_w hB p1.1
  have he := hB.2.1
  have hv1 := hv.1
  have hb := pAm_bd hj hB p1.1
  have hn := sN_all j hj
  refine tw_intro okV_takeOneOf (Nat.le_of_ble_eq_true rfl) ?_
  refine ar_aloadn (k := 0) rfl rfl ?_
  refine br_getIz (k := 1) (z := 10) rfl hv.k0 flV_44_9 (by decide) rfl rfl ?_
  refine tw_top hk.1 ?_
  refine ar_aloadn (k := 2) rfl rfl ?_
  refine br_getIz (k := 3) (z := 9) rfl hv.k0 flV_41_9 (by decide) rfl rfl ?_
  refine tw_top (hk.sz hT) ?_
  refine ar_icmp_ge (k := 4) rfl (by omega) (by omega) (fun c4 => ?_) (fun c4 => ?_)
  · refine ar_iconst (k := 14) rfl ?_
    refine tw_top (y := pAm (tpe s) e j p) (by omega) ?_
    refine ar_istoren (k := 15) (l2 := [(2, _), (0, _), (1, _)]) rfl (by decide) rfl ?_
    refine ar_iloadn (k := 16) rfl rfl ?_
    refine ar_if_lt (k := 17) rfl (by omega) (fun c17 => ?_) (fun c17 => ?_)
    · refine ar_iloadn (k := 24) rfl rfl ?_
      refine ar_iret (k := 25) rfl rfl rfl (Nat.le_refl _) ?_
      first
        | (rw [if_pos (by omega)]; exact ⟨rfl, J, rfl, hk, rfl⟩)
        | (rw [if_neg (by omega)]; exact ⟨rfl, I23, rfl, hk23, by rw [e23, uI_at, if_neg (by decide)]⟩)
    · refine ar_aloadn (k := 18) rfl rfl ?_
      refine ar_dup (k := 19) rfl rfl ?_
      refine br_getIz (k := 20) (z := 10) rfl hv.k0 flV_44_9 (by decide) rfl rfl ?_
      refine tw_top hk.1 ?_
      refine ar_iconst (k := 21) rfl ?_
      refine ar_iadd (k := 22) rfl ?_
      refine br_putIJ (k := 23) rfl hv.k0 flV_44_9 (by decide) rfl (fun _ _ _ q => by cases q; exact ⟨rfl, rfl⟩) (fun I23 e23 => ?_)
      change _ = uI _ _ 10 _ at e23
      have hk23 := hk.pl e23 (y := p + 1) (by omega)
      refine ar_iloadn (k := 24) rfl rfl ?_
      refine ar_iret (k := 25) rfl rfl rfl (Nat.le_refl _) ?_
      first
        | (rw [if_pos (by omega)]; exact ⟨rfl, J, rfl, hk, rfl⟩)
        | (rw [if_neg (by omega)]; exact ⟨rfl, I23, rfl, hk23, by rw [e23, uI_at, if_neg (by decide)]⟩)
  · refine ar_aloadn (k := 5) rfl rfl ?_
    refine ar_aloadn (k := 6) rfl rfl ?_
    refine br_getR (k := 7) rfl hv.k0 flV_37_9 (by decide) rfl hv.q8 ?_
    refine ar_aloadn (k := 8) rfl rfl ?_
    refine br_getIz (k := 9) (z := 10) rfl hv.k0 flV_44_9 (by decide) rfl rfl ?_
    refine tw_top hk.1 ?_
    refine br_bald (k := 10) rfl hv.kx (by omega) (by omega) (by decide) ?_
    refine tw_top (y := tpe s p) (by exact vH.tp hv1.1 hT hk (by omega)) ?_
    refine ar_i2c (k := 11) rfl (by omega) ?_
    refine ar_callVSf (k := 12) (as := [_]) rfl lvV_130 hj (c_J0_indexOf hj (by omega)) rfl (by decide) (by decide) tw_m0 (Nat.le_of_ble_eq_true rfl) (fun r12 h12 p12 => ?_)
    obtain ⟨rfl, rfl⟩ := p12
    refine tw_top (y := pAm (tpe s) e j p) (by show sIx j (tpe s p) = sIx j (pHere (tpe s) e p); rw [show pHere (tpe s) e p = tpe s p by omega]) ?_
    refine ar_goto (k := 13) rfl ?_
    refine ar_istoren (k := 15) (l2 := [(2, _), (0, _), (1, _)]) rfl (by decide) rfl ?_
    refine ar_iloadn (k := 16) rfl rfl ?_
    refine ar_if_lt (k := 17) rfl (by omega) (fun c17 => ?_) (fun c17 => ?_)
    · refine ar_iloadn (k := 24) rfl rfl ?_
      refine ar_iret (k := 25) rfl rfl rfl (Nat.le_refl _) ?_
      first
        | (rw [if_pos (by omega)]; exact ⟨rfl, J, rfl, hk, rfl⟩)
        | (rw [if_neg (by omega)]; exact ⟨rfl, I23, rfl, hk23, by rw [e23, uI_at, if_neg (by decide)]⟩)
    · refine ar_aloadn (k := 18) rfl rfl ?_
      refine ar_dup (k := 19) rfl rfl ?_
      refine br_getIz (k := 20) (z := 10) rfl hv.k0 flV_44_9 (by decide) rfl rfl ?_
      refine tw_top hk.1 ?_
      refine ar_iconst (k := 21) rfl ?_
      refine ar_iadd (k := 22) rfl ?_
      refine br_putIJ (k := 23) rfl hv.k0 flV_44_9 (by decide) rfl (fun _ _ _ q => by cases q; exact ⟨rfl, rfl⟩) (fun I23 e23 => ?_)
      change _ = uI _ _ 10 _ at e23
      have hk23 := hk.pl e23 (y := p + 1) (by omega)
      refine ar_iloadn (k := 24) rfl rfl ?_
      refine ar_iret (k := 25) rfl rfl rfl (Nat.le_refl _) ?_
      first
        | (rw [if_pos (by omega)]; exact ⟨rfl, J, rfl, hk, rfl⟩)
        | (rw [if_neg (by omega)]; exact ⟨rfl, I23, rfl, hk23, by rw [e23, uI_at, if_neg (by decide)]⟩)
theorem l_V_takeAll {j : Nat} (hj : j < 6) (hS : tSt (K, I, Q, n)) (hv : VS K Q n v) (hT : vT I s v e) (hB : pB s a e) : ∀ (k i : Nat) (p : Int) (J : Nat → Int → Int), i + k = sN j → vH I J v p o → (0 ≤ p ∧ p ≤ e) → tw_AW l G mV_takeAll 5 0 0 n 0 (fun x h' => x = some (vi (if (pSpl (tpe s) e j k i (p, false, r)).2.1 = true then 0 else 1)) ∧ ∃ L, h' = (K, L, Q, n) ∧ vH I L v (pSpl (tpe s) e j k i (p, false, r)).1 o) 2 [(2, vi (i : Int)), (0, vr (some v)), (1, vr (some (1000000 + j)))] [] (K, J, Q, n) := by
  have hn := sN_all j hj
  have hv1 := hv.1
  intro k
  induction k with
  | zero =>
    intro i p J hi hk p1
    have hw := pHere_w hB p1.1
    have he := hB.2.1
    refine ar_iloadn (k := 2) rfl rfl ?_
    refine ar_aloadn (k := 3) rfl rfl ?_
    refine ar_callVSf (k := 4) (as := []) rfl lvV_121 hj (c_J0_length hj) rfl (by decide) (by decide) tw_m0 (Nat.le_of_ble_eq_true rfl) (fun r4 h4 p4 => ?_)
    obtain ⟨rfl, rfl⟩ := p4
    refine ar_icmp_ge (k := 5) rfl (by omega) (by omega) (fun c5 => ?_) (fun c5 => ?_)
    · refine ar_iconst (k := 16) rfl ?_
      refine ar_zret (k := 17) rfl rfl (by omega) rfl (Nat.le_refl _) ?_
      exact ⟨rfl, J, rfl, hk⟩
    · exfalso; omega
  | succ k ih =>
    intro i p J hi hk p1
    have hw := pHere_w hB p1.1
    have he := hB.2.1
    have hsb := sB_all j hj i (by omega)
    refine ar_iloadn (k := 2) rfl rfl ?_
    refine ar_aloadn (k := 3) rfl rfl ?_
    refine ar_callVSf (k := 4) (as := []) rfl lvV_121 hj (c_J0_length hj) rfl (by decide) (by decide) tw_m0 (Nat.le_of_ble_eq_true rfl) (fun r4 h4 p4 => ?_)
    obtain ⟨rfl, rfl⟩ := p4
    refine ar_icmp_ge (k := 5) rfl (by omega) (by omega) (fun c5 => ?_) (fun c5 => ?_)
    · refine ar_iconst (k := 16) rfl ?_
      refine ar_zret (k := 17) rfl rfl (by omega) rfl (Nat.le_refl _) ?_
      exfalso; omega
    · refine ar_aloadn (k := 6) rfl rfl ?_
      refine ar_aloadn (k := 7) rfl rfl ?_
      refine ar_iloadn (k := 8) rfl rfl ?_
      refine ar_callVSf (k := 9) (as := [_]) rfl lvV_126 hj (c_J0_charAt hj (by omega) (by omega)) rfl (by decide) (by decide) tw_m0 (Nat.le_of_ble_eq_true rfl) (fun r9 h9 p9 => ?_)
      obtain ⟨rfl, rfl⟩ := p9
      refine ar_callV (k := 10) (as := [_]) rfl lvV_66 hv.k0 rfl (c_V_take hS hv hT hB hk p1 (by omega)) rfl (by decide) (by decide) tw_m0 (Nat.le_of_ble_eq_true rfl) (fun r10 h10 p10 => ?_)
      obtain ⟨rfl, L10, rfl, hk10⟩ := p10
      by_cases g : pHere (tpe s) e p = sB j (i : Int)
      · refine tw_top (y := 1) (by rw [if_pos g]) ?_
        refine ar_if_ne (k := 11) rfl (by omega) (fun c11 => ?_) (fun c11 => ?_)
        · refine ar_iinc (k := 14) (l2 := [(2, _), (0, _), (1, _)]) rfl (by decide) rfl rfl ?_
          refine ar_goto (k := 15) rfl ?_
          refine ar_sub (l2 := [(2, vi ((i + 1 : Nat) : Int)), (0, vr (some v)), (1, vr (some (1000000 + j)))]) (tw_s (tw_e 0 rfl (by omega)) (tw_s (tw_g 1 rfl) (tw_s (tw_g 2 rfl) tw_s0))) ?_
          rw [if_pos g] at hk10
          rw [pSpl, pMust_f, if_pos g]
          exact ih (i + 1) (p + 1) _ (by omega) hk10 (by omega)
        · exfalso; omega
      · refine tw_top (y := 0) (by rw [if_neg g]) ?_
        refine ar_if_ne (k := 11) rfl (by omega) (fun c11 => ?_) (fun c11 => ?_)
        · exfalso; omega
        · refine ar_iconst (k := 12) rfl ?_
          refine ar_zret (k := 13) rfl rfl (by omega) rfl (Nat.le_refl _) ?_
          rw [pSpl, pMust_f, if_neg g, pSpl_w]
          rw [if_neg g] at hk10
          exact ⟨rfl, L10, rfl, hk10⟩
theorem c_V_takeAll {j : Nat} (hj : j < 6) (hS : tSt (K, I, Q, n)) (hv : VS K Q n v) (hT : vT I s v e) (hB : pB s a e) (hk : vH I J v p o) (p1 : 0 ≤ p ∧ p ≤ e) : tw_M l G 5 0 0 mV_takeAll [vr (some v), vr (some (1000000 + j))] (K, J, Q, n) (fun x h' => x = some (vi (if (pSpl (tpe s) e j (sN j) 0 (p, false, r)).2.1 = true then 0 else 1)) ∧ ∃ L, h' = (K, L, Q, n) ∧ vH I L v (pSpl (tpe s) e j (sN j) 0 (p, false, r)).1 o) := by
  refine tw_intro okV_takeAll (Nat.le_of_ble_eq_true rfl) ?_
  refine ar_iconst (k := 0) rfl ?_
  refine ar_istoren (k := 1) (l2 := [(2, _), (0, _), (1, _)]) rfl (by decide) rfl ?_
  refine ar_sub (l2 := [(2, vi ((0 : Nat) : Int)), (0, vr (some v)), (1, vr (some (1000000 + j)))]) (tw_s (tw_e 0 rfl (by rfl)) (tw_s (tw_g 1 rfl) (tw_s (tw_g 2 rfl) tw_s0))) ?_
  exact l_V_takeAll hj hS hv hT hB (sN j) 0 p J (by omega) hk p1
theorem c_V_addStep {x : Int} (hv : VS K Q n v) (hk : vH I J v p o) (ho : o.length < 100) : tw_M l G 1 0 0 mV_addStep [vr (some v), vi x] (K, J, Q, n) (fun x' h' => x' = none ∧ ∃ L, h' = (K, L, Q, n) ∧ vH I L v p (o ++ [x])) := by
  refine tw_intro okV_addStep (Nat.le_of_ble_eq_true rfl) ?_
  refine ar_aloadn (k := 0) rfl rfl ?_
  refine br_getIz (k := 1) (z := 5) rfl hv.k0 flV_28_9 (by decide) rfl rfl ?_
  refine tw_top hk.2.1 ?_
  refine ar_bipush (k := 2) rfl (by decide) ?_
  refine ar_icmp_ge (k := 3) rfl (by omega) (by omega) (fun c3 => ?_) (fun c3 => ?_)
  · refine ar_ret (k := 16) rfl rfl rfl (Nat.le_refl _) ?_
    first
      | (exfalso; omega)
      | exact ⟨rfl, I15, rfl, hk.sp e9 e15 (by omega)⟩
  · refine ar_aloadn (k := 4) rfl rfl ?_
    refine br_getR (k := 5) rfl hv.k0 flV_25_9 (by decide) rfl hv.q4 ?_
    refine ar_aloadn (k := 6) rfl rfl ?_
    refine br_getIz (k := 7) (z := 5) rfl hv.k0 flV_28_9 (by decide) rfl rfl ?_
    refine tw_top hk.2.1 ?_
    refine ar_iloadn (k := 8) rfl rfl ?_
    refine br_iastJ (k := 9) rfl hv.k3 (by omega) (by omega) (by decide) (fun I9 e9 => ?_)
    skip
    refine ar_aloadn (k := 10) rfl rfl ?_
    refine ar_dup (k := 11) rfl rfl ?_
    refine br_getIz (k := 12) (z := 5) rfl hv.k0 flV_28_9 (by decide) rfl rfl ?_
    refine tw_top (y := (o.length : Int)) (by rw [e9, uI_off _ _ _ (by omega)]; exact hk.2.1) ?_
    refine ar_iconst (k := 13) rfl ?_
    refine ar_iadd (k := 14) rfl ?_
    refine br_putIJ (k := 15) rfl hv.k0 flV_28_9 (by decide) rfl (fun _ _ _ q => by cases q; exact ⟨rfl, rfl⟩) (fun I15 e15 => ?_)
    change _ = uI _ _ 5 _ at e15
    skip
    refine ar_ret (k := 16) rfl rfl rfl (Nat.le_refl _) ?_
    first
      | (exfalso; omega)
      | exact ⟨rfl, I15, rfl, hk.sp e9 e15 (by omega)⟩
theorem c_V_readNumber (hS : tSt (K, J, Q, n)) (hv : VS K Q n v) (hT : vT I s v e) (hB : pB s a e) (hk : vH I J v p o) (p1 : 0 ≤ p ∧ p ≤ e) : tw_M l G 6 0 0 mV_readNumber [vr (some v)] (K, J, Q, n) (fun x h' => x = some (vi (if (pFig (tpe s) e (p, false, r)).2.2.1 = true then 0 else 1)) ∧ ∃ L, h' = (K, L, Q, n) ∧ vH I L v (pFig (tpe s) e (p, false, r)).2.1 o ∧ ((pFig (tpe s) e (p, false, r)).2.2.1 = false → L v 11 = (pFig (tpe s) e (p, false, r)).1)) := by
  have hw := pHere_w hB p1.1
  have he := hB.2.1
  have hv1 := hv.1
  have d1 := pAm_dig hB p1.1
  have d2 := pAm_dig (p := p + 1) hB (by omega)
  have hw2 := pHere_w (p := p + 1) hB (by omega)
  refine tw_intro okV_readNumber (Nat.le_of_ble_eq_true rfl) ?_
  refine ar_aloadn (k := 0) rfl rfl ?_
  refine ar_ldcS (k := 1) (tx := "0123456789") (j := 1) rfl (by decide) (by decide) ?_
  refine ar_callV (k := 2) (as := [_]) rfl lvV_113 hv.k0 rfl (c_V_takeOneOf (j := 1) (p := p) (by decide) hS hv hT hB hk (by omega)) rfl (by decide) (by decide) tw_m0 (Nat.le_of_ble_eq_true rfl) (fun r2 h2 p2 => ?_)
  obtain ⟨rfl, L2, rfl, hk2, hn2⟩ := p2
  refine ar_istoren (k := 3) (l2 := [(1, _), (0, _)]) rfl (by decide) rfl ?_
  refine ar_iloadn (k := 4) rfl rfl ?_
  refine ar_if_ge (k := 5) rfl (by omega) (fun c5 => ?_) (fun c5 => ?_)
  · rw [if_neg (by omega)] at hk2
    refine ar_aloadn (k := 8) rfl rfl ?_
    refine ar_iloadn (k := 9) rfl rfl ?_
    refine br_putIJ (k := 10) rfl hv.k0 flV_47_9 (by decide) rfl (fun _ _ _ q => by cases q; exact ⟨rfl, rfl⟩) (fun I10 e10 => ?_)
    change _ = uI _ _ 11 _ at e10
    have hk10 := vH.nb hk2 e10
    refine ar_iloadn (k := 11) rfl rfl ?_
    refine ar_if_ne (k := 12) rfl (by omega) (fun c12 => ?_) (fun c12 => ?_)
    · refine ar_aloadn (k := 15) rfl rfl ?_
      refine ar_ldcS (k := 16) (tx := "0123456789") (j := 1) rfl (by decide) (by decide) ?_
      refine ar_callV (k := 17) (as := [_]) rfl lvV_113 hv.k0 rfl (c_V_takeOneOf (j := 1) (p := p + 1) (by decide) hS hv hT hB hk10 (by omega)) rfl (by decide) (by decide) tw_m0 (Nat.le_of_ble_eq_true rfl) (fun r17 h17 p17 => ?_)
      obtain ⟨rfl, L17, rfl, hk17, hn17⟩ := p17
      refine ar_istoren (k := 18) (l2 := [(2, _), (1, _), (0, _)]) rfl (by decide) rfl ?_
      refine ar_iloadn (k := 19) rfl rfl ?_
      refine ar_if_lt (k := 20) rfl (by omega) (fun c20 => ?_) (fun c20 => ?_)
      · refine ar_iconst (k := 28) rfl ?_
        refine ar_zret (k := 29) rfl rfl (by omega) rfl (Nat.le_refl _) ?_
        rw [show pFig (tpe s) e (p, false, r) = (pHere (tpe s) e p - 48, p + 1, false, r) by rw [pFig, if_neg (by simp only [pDigP, Bool.false_eq_true, false_or, Classical.not_not]; omega), if_neg (by unfold pDigP; dsimp only; omega)]]
        refine ⟨rfl, L17, rfl, ?_, fun _ => ?_⟩
        · rw [if_pos (by omega)] at hk17; exact hk17
        · rw [hn17, e10, uI_at, if_pos rfl]
          show _ = pHere (tpe s) e p - 48
          omega
      · refine ar_aloadn (k := 21) rfl rfl ?_
        refine ar_iloadn (k := 22) rfl rfl ?_
        refine ar_bipush (k := 23) rfl (by decide) ?_
        refine ar_imul (k := 24) rfl ?_
        refine ar_iloadn (k := 25) rfl rfl ?_
        refine ar_iadd (k := 26) rfl ?_
        refine br_putIJ (k := 27) rfl hv.k0 flV_47_9 (by decide) rfl (fun _ _ _ q => by cases q; exact ⟨rfl, rfl⟩) (fun I27 e27 => ?_)
        change _ = uI _ _ 11 _ at e27
        have hk27 := vH.nb hk17 e27
        refine ar_iconst (k := 28) rfl ?_
        refine ar_zret (k := 29) rfl rfl (by omega) rfl (Nat.le_refl _) ?_
        rw [show pFig (tpe s) e (p, false, r) = (10 * (pHere (tpe s) e p - 48) + pHere (tpe s) e (p + 1) - 48, p + 2, false, r) by rw [pFig, if_neg (by simp only [pDigP, Bool.false_eq_true, false_or, Classical.not_not]; omega), if_pos (by unfold pDigP; dsimp only; omega)]]
        rw [if_neg (by omega)] at hk17
        refine ⟨rfl, I27, rfl, ?_, fun _ => ?_⟩
        · have := hk17.nb e27
          rw [show p + 1 + 1 = p + 2 by omega] at this
          exact this
        · rw [e27, uI_at, if_pos rfl]
          show _ = 10 * (pHere (tpe s) e p - 48) + pHere (tpe s) e (p + 1) - 48
          omega
    · refine ar_iconst (k := 13) rfl ?_
      refine ar_goto (k := 14) rfl ?_
      refine ar_istoren (k := 18) (l2 := [(2, _), (1, _), (0, _)]) rfl (by decide) rfl ?_
      refine ar_iloadn (k := 19) rfl rfl ?_
      refine ar_if_lt (k := 20) rfl (by omega) (fun c20 => ?_) (fun c20 => ?_)
      · refine ar_iconst (k := 28) rfl ?_
        refine ar_zret (k := 29) rfl rfl (by omega) rfl (Nat.le_refl _) ?_
        rw [show pFig (tpe s) e (p, false, r) = (pHere (tpe s) e p - 48, p + 1, false, r) by rw [pFig, if_neg (by simp only [pDigP, Bool.false_eq_true, false_or, Classical.not_not]; omega), if_neg (by unfold pDigP; dsimp only; omega)]]
        refine ⟨rfl, I10, rfl, ?_, fun _ => ?_⟩
        · exact hk10
        · rw [e10, uI_at, if_pos rfl]
          show _ = pHere (tpe s) e p - 48
          omega
      · exfalso; omega
  · refine ar_iconst (k := 6) rfl ?_
    refine ar_zret (k := 7) rfl rfl (by omega) rfl (Nat.le_refl _) ?_
    rw [show pFig (tpe s) e (p, false, r) = (0, p, true, r) by rw [pFig, if_pos (Or.inr (by unfold pDigP; dsimp only; omega))]]
    rw [if_pos (by omega)] at hk2
    exact ⟨rfl, L2, rfl, hk2, fun q => by cases q⟩
end CQ2
