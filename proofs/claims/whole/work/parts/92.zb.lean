/-- both made, nothing told: all that must hold -/
theorem CI_start {K1 K2 : Nat → Nat × Nat} {J1 J2 : Nat → Int → Int} {R1 R2 : Nat → Int → Option Nat} (k1 : kOK 70 K1) (q1 : qOK 63 R1) (hvs : VI K1 R1 63) (r0 : R1 0 0 = some 1 ∧ R1 0 1 = some 14 ∧ R1 0 3 = some 27 ∧ R1 0 4 = some 61 ∧ R1 0 5 = some 63) (j03 : J1 0 2 = 0) (j1 : J1 1 1 = 0 ∧ J1 1 3 = 0 ∧ J1 1 5 = 0 ∧ J1 1 12 = 0 ∧ J1 1 16 = 0 ∧ J1 1 19 = 0) (j2 : J1 2 = fun _ => 0) (j57 : J1 57 0 = 0) (j59 : J1 59 0 = 0) (j61 : J1 61 1 = 0) (r3 : R1 3 = fun _ => none) (r4 : R1 4 = fun _ => none) (r16 : R1 16 = fun _ => none) (r17 : R1 17 = fun _ => none)
    (ka : K2 (70 + 1) = (14, 984) ∧ K2 (70 + 2) = (14, 984) ∧ K2 (70 + 3) = (14, 5) ∧ K2 (70 + 4) = (15, 64) ∧ K2 (70 + 5) = (14, 10) ∧ K2 (70 + 6) = (14, 10) ∧ K2 (70 + 7) = (14, 20)) (rb : R2 70 1 = some (70 + 1) ∧ R2 70 2 = some (70 + 2) ∧ R2 70 9 = some (70 + 3) ∧ R2 70 10 = some (70 + 4) ∧ R2 70 14 = some (70 + 5) ∧ R2 70 15 = some (70 + 6) ∧ R2 70 18 = some (70 + 7)) (h70 : J2 (70 + 1) = rS0) (h69 : J2 70 = zI J1 70 70) (f : ∀ a, a ≤ 70 → K2 a = zK K1 70 (12, 23) a) (fi : ∀ a, a < 70 → J2 a = zI J1 70 a) (fq : ∀ a, a < 70 → R2 a = zQ R1 70 a) : CI (tw_h (K2, J2, R2, 78)) := by
  obtain ⟨k2, q2⟩ := kq_start k1 q1 hvs r0 f fq ka rb
  have hS : tSt (tw_h (K2, J2, R2, 78)) := tSt_start k2 q2
  obtain ⟨J, hJ⟩ : ∃ J, J = fun a => J2 (tw_p a) := ⟨_, rfl⟩
  obtain ⟨R, hR⟩ : ∃ R : Nat → Int → Option Nat, R = fun a k => (R2 (tw_p a) k).map tw_q := ⟨_, rfl⟩
  obtain ⟨K, hK⟩ : ∃ K, K = fun a => K2 (tw_p a) := ⟨_, rfl⟩
  have hw : tw_h (K2, J2, R2, 78) = (K, J, R, 78) := by rw [hJ, hR, hK]; rfl
  rw [hw] at hS ⊢
  have tp : ∀ a, a < 27 ∨ (40 < a ∧ a < 69) → tw_p a = a := fun a ha => by
    unfold tw_p
    (repeat' split) <;> omega
  have ei : ∀ a, a < 27 ∨ (40 < a ∧ a < 69) → J a = J1 a := fun a ha => by
    rw [hJ]
    show J2 (tw_p a) = J1 a
    rw [tp a ha, fi a (by omega)]
    exact if_neg (by omega)
  have eq : ∀ a k, a < 27 ∨ (40 < a ∧ a < 69) → R a k = (R1 a k).map tw_q := fun a k ha => by
    rw [hR]
    show (R2 (tw_p a) k).map tw_q = _
    rw [tp a ha, fq a (by omega)]
    show ((if a = 70 then _ else R1 a) k).map tw_q = _
    rw [if_neg (by omega)]
  have e69 : ∀ k, J 69 k = 0 := fun k => by
    rw [hJ]
    show J2 70 k = 0
    rw [h69]; exact congrFun (if_pos rfl) k
  have e70 : J 70 = rS0 := by rw [hJ]; exact h70
  have en : ∀ (g : Int → Option Nat) (x : Int) (b : Nat), (g = fun _ => none) → (g x).map tw_q = some b → False := fun g x b hg h => by
    rw [hg] at h; cases h
  refine ⟨hS, ?_, ⟨⟨fun x _ _ b hb => ?_, fun x _ _ b hb => ?_⟩, ⟨fun x _ _ b hb => ?_, fun x _ _ b hb => ?_⟩⟩, ⟨?_, ?_⟩, ⟨63, ?_, VS_start hS, fun x _ _ => ?_⟩, ⟨?_, Or.inl ?_⟩, ⟨[], by decide, fun x hx => (by cases hx), ?_, e69 19, fun i hi => absurd hi (Nat.not_lt_zero i)⟩, ?_⟩
  · show CW 1 K J R 78 (J 70)
    rw [e70]
    refine ⟨WN_start ?_ ?_, fun p p1 p2 => ?_, fun p p1 p2 => ?_, RAll_0⟩
    · rw [ei 1 (by decide)]; exact j1
    · rw [ei 2 (by decide)]; exact j2
    · have : rS0 0 = 0 := rfl
      omega
    · have : rS0 2 = 0 := rfl
      omega
  · have hb : R 4 x = some b := hb
    rw [eq 4 x (by decide)] at hb; exact (en _ x b r4 hb).elim
  · have hb : R 3 x = some b := hb
    rw [eq 3 x (by decide)] at hb; exact (en _ x b r3 hb).elim
  · have hb : R 17 x = some b := hb
    rw [eq 17 x (by decide)] at hb; exact (en _ x b r17 hb).elim
  · have hb : R 16 x = some b := hb
    rw [eq 16 x (by decide)] at hb; exact (en _ x b r16 hb).elim
  · show J 57 0 = 0
    rw [ei 57 (by decide)]; exact j57
  · show J 59 0 = 0
    rw [ei 59 (by decide)]; exact j59
  · show R 0 5 = some 63
    rw [eq 0 5 (by decide), r0.2.2.2.2]; rfl
  · show R 3 x ≠ some 63 ∧ R 16 x ≠ some 63
    rw [eq 3 x (by decide), eq 16 x (by decide)]
    exact ⟨fun q => en _ x _ r3 q, fun q => en _ x _ r16 q⟩
  · show J 0 2 = J 69 3
    rw [ei 0 (by decide), e69]; exact j03
  · show J 0 2 = 0
    rw [ei 0 (by decide)]; exact j03
  · show J 61 1 = _
    rw [ei 61 (by decide)]; exact j61
  · show -12000000 ≤ J 69 16 ∧ J 69 16 ≤ 12000000
    rw [e69]; decide
/-- .. and the same machine in that count -/
def tw_g1 (G : tG) : tG := (G.1, G.2.1, G.2.2.1, G.2.2.2.1, G.2.2.2.2.1, true)
section ZR
variable {l : Launch} {G : tG} {p : Program} {e : Env} {s : State} {m : MethodId} {below : List Frame} {meth : Method} {c : Code} {b L : Nat} {xs : Nat → Int32} {h : tH}
theorem tw_ad_q (hf : G.2.2.2.2.2 = false) (a : Nat) : tw_ad (tw_g1 G) (tw_q a) = tw_ad G a := by
  by_cases g : a < 1000000
  · have g2 : tw_q a < 1000000 := tw_q_lt (by decide) g
    rw [tw_ad_lt g2, tw_ad_lt g]
    have e1 : tw_t (tw_g1 G) (tw_q a) = a := by
      show (if true = true then tw_p (tw_q a) else _) = a
      rw [if_pos rfl, tw_pq]
    have e2 : tw_t G a = a := by
      unfold tw_t
      rw [hf]
      exact if_neg (by decide)
    rw [e1, e2]
    rfl
  · have g2 : tw_q a = a := by
      unfold tw_q
      (repeat' split) <;> omega
    rw [g2]
    unfold tw_ad
    rw [if_neg g, if_neg g]
    rfl
theorem tw_c_ren (hf : G.2.2.2.2.2 = false) (a : Nat) : tw_c (tw_g1 G) (tw_h h) a = tw_c G h (tw_p a) := by
  have er : ∀ r : Option Nat, (r.map tw_q).map (tw_ad (tw_g1 G)) = r.map (tw_ad G) := fun r => by
    cases r with
    | none => rfl
    | some x => exact congrArg some (tw_ad_q hf x)
  have ef : tw_fv (tw_g1 G) (tw_h h) a = tw_fv G h (tw_p a) := by
    funext k
    unfold tw_fv
    show (if tRef (h.1 (tw_p a)).1 k = true then va_rf (((h.2.2.1 (tw_p a) (k : Int)).map tw_q).map (tw_ad (tw_g1 G))) else Value.int (Int32.ofInt (h.2.1 (tw_p a) (k : Int)))) = _
    rw [er]
  unfold tw_c
  rw [ef, show (fun j : Nat => ((tw_h h).2.2.1 a (j : Int)).map (tw_ad (tw_g1 G))) = (fun j : Nat => (h.2.2.1 (tw_p a) (j : Int)).map (tw_ad G)) from funext fun j => er _]
  rfl
theorem tw_P_ren {H : Heap} (hf : G.2.2.2.2.2 = false) (hn : 78 ≤ h.2.2.2) (hP : va_P G.1 tCl (tw_ws G h) H) : va_P (tw_g1 G).1 tCl (tw_ws (tw_g1 G) (tw_h h)) H := by
  intro k q hk
  obtain ⟨k1, rfl⟩ := tw_ws_inv hk
  have k2 : tw_p k < h.2.2.2 := tw_p_lt hn k1
  have h1 := hP (tw_p k) _ (tw_ws_get k2)
  have e1 : tw_ad (tw_g1 G) k = tw_ad G (tw_p k) := by rw [← tw_ad_q hf (tw_p k), tw_qp]
  rw [tw_c_ren hf, e1]
  exact h1
theorem zW_ren {c2 pc : Nat} {ls ls1 : List (Nat × tV)} (hf : G.2.2.2.2.2 = false) (hl : tw_L (tw_g1 G) ls1 = tw_L G ls) (hn : 78 ≤ h.2.2.2) (kk : zW l (tw_g1 G) p e s m below meth c b c2 pc ls1 [] (tw_h h)) : zW l G p e s m below meth c b c2 pc ls [] h :=
  fun H locs ls' hl' hP hS hh => kk H locs ls' (by rw [hl]; exact hl') (tw_P_ren hf hn hP) hS ⟨hh.1, fun _ => hn⟩
theorem zls_ren (hf : G.2.2.2.2.2 = false) : tw_L (tw_g1 G) (zls b 0) = tw_L G [(3, vi ((0 : Nat) : Int)), (2, vr (some 70)), (1, vr (some 0)), (0, vr (some (3000000 + b)))] := by
  have hv : ∀ x : Nat, tw_v (tw_g1 G) (vr (some (tw_q x))) = tw_v G (vr (some x)) := fun x => by
    show Value.ref (tw_ad (tw_g1 G) (tw_q x)) = Value.ref (tw_ad G x)
    rw [tw_ad_q hf]
  have h69 : tw_v (tw_g1 G) (vr (some 69)) = tw_v G (vr (some 70)) := hv 70
  have h0 : tw_v (tw_g1 G) (vr (some 0)) = tw_v G (vr (some 0)) := hv 0
  show [(3, tw_v (tw_g1 G) (vi ((0 : Nat) : Int))), (2, tw_v (tw_g1 G) (vr (some 69))), (1, tw_v (tw_g1 G) (vr (some 0))), (0, tw_v (tw_g1 G) (vr (some (3000000 + b))))] = [(3, tw_v G (vi ((0 : Nat) : Int))), (2, tw_v G (vr (some 70))), (1, tw_v G (vr (some 0))), (0, tw_v G (vr (some (3000000 + b))))]
  rw [h69, h0, z_adv, z_adv]
  rfl
end ZR
section ZB
variable {l : Launch} {G : tG} {p : Program} {e : Env} {s : State} {m : MethodId} {below : List Frame} {meth : Method} {c : Code} {b L : Nat} {xs : Nat → Int32}
theorem z_begin (Z : zX G p s m meth c b L xs) (hf : G.2.2.2.2.2 = false) : zW l G p e s m below meth c b 0 0 [(0, vr (some (3000000 + b)))] [] (fun _ => (0, 0), fun _ _ => 0, fun _ _ => none, 0) := by
  have hL : L ≤ 320 := Z.2.2.2
  have Z1 : zX (tw_g1 G) p s m meth c b L xs := ⟨Z.1, Z.2.1, Z.2.2.1, Z.2.2.2⟩
  refine az_new (i := 7) (ci := 11) (N := 6) (nx := 3) Z (by decide +kernel) klZ_7 rfl (fun j hj => by rcases (show j = 0 ∨ j = 1 ∨ j = 2 ∨ j = 3 ∨ j = 4 ∨ j = 5 by omega) with rfl | rfl | rfl | rfl | rfl | rfl <;> exact ⟨_, rfl, rfl⟩) ⟨by decide, by decide⟩ rfl ?_
  refine az_dup (nx := 4) Z (by decide +kernel) rfl rfl ?_
  refine az_callI (i := 9) (as := []) (st := [vr (some 0)]) (a := 0) (nx := 7) Z (by decide +kernel) liZ_9 (c_T_init (K := zK (fun _ => (0, 0)) 0 (11, 6)) (I := zI (fun _ _ => 0) 0) (Q := zQ (fun _ _ => none) 0) rfl) rfl (by decide) (by decide) ⟨by decide, by decide⟩ (Nat.le_of_ble_eq_true rfl) rfl (fun r h1 hp hn1 => ?_)
  obtain ⟨rfl, K1, J1, R1, rfl, k1, q1, hvs, r0, j03, j1, j2, j57, j59, j61, j62, r3, r4, r16, r17⟩ := hp
  refine az_astore (i := 1) (a := 0) (l2 := [(1, vr (some 0)), (0, vr (some (3000000 + b)))]) (st := []) (nx := 8) Z (by decide +kernel) rfl rfl ?_
  refine az_new (i := 10) (ci := 12) (N := 23) (nx := 11) Z (by decide +kernel) klZ_10 rfl (fun j hj => by rcases (show j = 0 ∨ j = 1 ∨ j = 2 ∨ j = 3 ∨ j = 4 ∨ j = 5 ∨ j = 6 ∨ j = 7 ∨ j = 8 ∨ j = 9 ∨ j = 10 ∨ j = 11 ∨ j = 12 ∨ j = 13 ∨ j = 14 ∨ j = 15 ∨ j = 16 ∨ j = 17 ∨ j = 18 ∨ j = 19 ∨ j = 20 ∨ j = 21 ∨ j = 22 by omega) with rfl | rfl | rfl | rfl | rfl | rfl | rfl | rfl | rfl | rfl | rfl | rfl | rfl | rfl | rfl | rfl | rfl | rfl | rfl | rfl | rfl | rfl | rfl <;> exact ⟨_, rfl, rfl⟩) ⟨by show 70 + 1 ≤ 600000; decide, by decide⟩ rfl ?_
  refine az_dup (nx := 12) Z (by decide +kernel) rfl rfl ?_
  refine az_callI (i := 12) (as := []) (st := [vr (some 70)]) (a := 70) (nx := 15) Z (by decide +kernel) liZ_12 (c_R_init (v := 70) (K := zK K1 70 (12, 23)) (I := zI J1 70) (Q := zQ R1 70) (if_pos rfl)) rfl (by decide) (by decide) ⟨by show 70 + 1 + 7 ≤ 600000; decide, by decide⟩ (Nat.le_of_ble_eq_true rfl) rfl (fun r h1 hp hn1 => ?_)
  obtain ⟨rfl, K2, J2, R2, rfl, ⟨ka1, ka2, ka3, ka4, ka5, ka6, ka7, rb⟩, h70, -, h69, f, fi, fq⟩ := hp
  refine az_astore (i := 2) (a := 70) (l2 := [(2, vr (some 70)), (1, vr (some 0)), (0, vr (some (3000000 + b)))]) (st := []) (nx := 16) Z (by decide +kernel) rfl rfl ?_
  refine az_iconst (n := 0) (nx := 17) Z (by decide +kernel) rfl ?_
  refine az_istore (i := 3) (z := 0) (l2 := [(3, vi ((0 : Nat) : Int)), (2, vr (some 70)), (1, vr (some 0)), (0, vr (some (3000000 + b)))]) (st := []) (nx := 18) Z (by decide +kernel) rfl rfl ?_
  refine zW_ren (ls1 := zls b 0) hf (zls_ren hf) (Nat.le_refl 78) ?_
  exact z_loop Z1 65 0 _ _ (CI_start k1 q1 hvs r0 j03 j1 j2 j57 j59 j61 r3 r4 r16 r17 ⟨ka1, ka2, ka3, ka4, ka5, ka6, ka7⟩ rb h70 h69 f fi fq) (by omega) (by omega) (by show 70 + 1 + 7 + 7 * 65 ≤ 600000; decide) (by decide)
end ZB
