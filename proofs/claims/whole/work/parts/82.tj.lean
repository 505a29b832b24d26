section CT
variable {l : Launch} {G : tG} {K : Nat → Nat × Nat} {I : Nat → Int → Int} {Q : Nat → Int → Option Nat} {n : Nat} {s : Int → Int}
theorem c_T_init (hK : K 0 = (11, 7)) : tw_M l G 3 68 1327 mT_init [vr (some 0)] (K, I, Q, 1) (fun r h' => r = none ∧ ∃ K' J R, h' = (K', J, R, 69) ∧ kOK 69 K' ∧ qOK 63 R ∧ VS K' R 69 63 ∧ (R 0 0 = some 1 ∧ R 0 1 = some 14 ∧ R 0 2 = some 27 ∧ R 0 4 = some 40 ∧ R 0 5 = some 61 ∧ R 0 6 = some 63) ∧ J 0 3 = 0 ∧ (J 1 1 = 0 ∧ J 1 3 = 0 ∧ J 1 5 = 0 ∧ J 1 12 = 0 ∧ J 1 16 = 0 ∧ J 1 19 = 0) ∧ (J 2 = fun _ => 0) ∧ J 57 0 = 0 ∧ J 59 0 = 0 ∧ J 61 1 = 0 ∧ (J 62 = fun _ => 0) ∧ (R 3 = fun _ => none) ∧ (R 4 = fun _ => none) ∧ (R 16 = fun _ => none) ∧ (R 17 = fun _ => none)) := by
  have k0 : kOK 1 K := fun a ha => by
    rw [show a = 0 by omega]; exact hK
  refine tw_intro okT_init (Nat.le_of_ble_eq_true rfl) ?_
  refine ar_aloadn (k := 0) rfl rfl ?_
  refine ar_obj (k := 1) rfl lbT_5 (by decide) (Nat.le_of_ble_eq_true rfl) ?_
  refine ar_aloadn (k := 2) rfl rfl ?_
  refine br_new (k := 3) (ci := 10) (N := 20) rfl klT_11 rfl (fun j hj => by rcases (show j = 0 ∨ j = 1 ∨ j = 2 ∨ j = 3 ∨ j = 4 ∨ j = 5 ∨ j = 6 ∨ j = 7 ∨ j = 8 ∨ j = 9 ∨ j = 10 ∨ j = 11 ∨ j = 12 ∨ j = 13 ∨ j = 14 ∨ j = 15 ∨ j = 16 ∨ j = 17 ∨ j = 18 ∨ j = 19 by omega) with rfl | rfl | rfl | rfl | rfl | rfl | rfl | rfl | rfl | rfl | rfl | rfl | rfl | rfl | rfl | rfl | rfl | rfl | rfl | rfl <;> exact ⟨_, rfl, rfl⟩) ⟨by (try dsimp only); omega, by decide⟩ ?_
  have kn3 := kOK.nw (m := 1) (q := (10, 20)) k0 rfl
  refine ar_dup (k := 4) rfl rfl ?_
  refine ar_callI (k := 5) (as := []) rfl liT_13 (c_W_init (v := 1) (if_pos rfl)) rfl (by decide) (by decide) ⟨by (try dsimp only); omega, by decide⟩ (Nat.le_of_ble_eq_true rfl) (fun r5 h5 p5 => ?_)
  obtain ⟨rfl, K5, J5, R5, rfl, ⟨ka5_1, ka5_2, ka5_3, ka5_4, ka5_5, ka5_6, ka5_7, ka5_8, ka5_9, ka5_10, ka5_11, ka5_12, rb5_1, rb5_2, rb5_3, rb5_4, rb5_5, rb5_6, rb5_7, rb5_8, rb5_9, rb5_10, rb5_11, rb5_12, jc5_1, jc5_2, jc5_3, jc5_4, jc5_5, jc5_6⟩, gw5⟩ := p5
  have k5 : kOK 14 K5 := kn3.to (m := 1) (m2 := 14) gw5.1 (fun j j1 j2 => by rcases (show j = 1 ∨ j = 2 ∨ j = 3 ∨ j = 4 ∨ j = 5 ∨ j = 6 ∨ j = 7 ∨ j = 8 ∨ j = 9 ∨ j = 10 ∨ j = 11 ∨ j = 12 by omega) with rfl | rfl | rfl | rfl | rfl | rfl | rfl | rfl | rfl | rfl | rfl | rfl <;> assumption)
  have r0_5 : R5 0 = Q 0 := by rw [gw5.2.2.1 0 (by decide)]; rfl
  refine br_putFR (k := 6) rfl (show tK _ 0 (11, 7) from ⟨k5 0 (by decide), by (try dsimp only); omega⟩) flT_14_11 (by decide) rfl rfl (fun _ _ _ q => by cases q; exact ⟨rfl, rfl, _, rfl, rfl⟩) ?_
  refine ar_aloadn (k := 7) rfl rfl ?_
  refine br_new (k := 8) (ci := 10) (N := 20) rfl klT_11 rfl (fun j hj => by rcases (show j = 0 ∨ j = 1 ∨ j = 2 ∨ j = 3 ∨ j = 4 ∨ j = 5 ∨ j = 6 ∨ j = 7 ∨ j = 8 ∨ j = 9 ∨ j = 10 ∨ j = 11 ∨ j = 12 ∨ j = 13 ∨ j = 14 ∨ j = 15 ∨ j = 16 ∨ j = 17 ∨ j = 18 ∨ j = 19 by omega) with rfl | rfl | rfl | rfl | rfl | rfl | rfl | rfl | rfl | rfl | rfl | rfl | rfl | rfl | rfl | rfl | rfl | rfl | rfl | rfl <;> exact ⟨_, rfl, rfl⟩) ⟨by (try dsimp only); omega, by decide⟩ ?_
  have kn8 := kOK.nw (m := 14) (q := (10, 20)) k5 rfl
  refine ar_dup (k := 9) rfl rfl ?_
  refine ar_callI (k := 10) (as := []) rfl liT_13 (c_W_init (v := 14) (if_pos rfl)) rfl (by decide) (by decide) ⟨by (try dsimp only); omega, by decide⟩ (Nat.le_of_ble_eq_true rfl) (fun r10 h10 p10 => ?_)
  obtain ⟨rfl, K10, J10, R10, rfl, ⟨ka10_1, ka10_2, ka10_3, ka10_4, ka10_5, ka10_6, ka10_7, ka10_8, ka10_9, ka10_10, ka10_11, ka10_12, rb10_1, rb10_2, rb10_3, rb10_4, rb10_5, rb10_6, rb10_7, rb10_8, rb10_9, rb10_10, rb10_11, rb10_12, jc10_1, jc10_2, jc10_3, jc10_4, jc10_5, jc10_6⟩, gw10⟩ := p10
  have k10 : kOK 27 K10 := kn8.to (m := 14) (m2 := 27) gw10.1 (fun j j1 j2 => by rcases (show j = 1 ∨ j = 2 ∨ j = 3 ∨ j = 4 ∨ j = 5 ∨ j = 6 ∨ j = 7 ∨ j = 8 ∨ j = 9 ∨ j = 10 ∨ j = 11 ∨ j = 12 by omega) with rfl | rfl | rfl | rfl | rfl | rfl | rfl | rfl | rfl | rfl | rfl | rfl <;> assumption)
  have r0_10 : R10 0 = upQ (R5 0) 0 (some 1) := by rw [gw10.2.2.1 0 (by decide)]; rfl
  refine br_putFR (k := 11) rfl (show tK _ 0 (11, 7) from ⟨k10 0 (by decide), by (try dsimp only); omega⟩) flT_18_11 (by decide) rfl rfl (fun _ _ _ q => by cases q; exact ⟨rfl, rfl, _, rfl, rfl⟩) ?_
  refine ar_aloadn (k := 12) rfl rfl ?_
  refine br_new (k := 13) (ci := 10) (N := 20) rfl klT_11 rfl (fun j hj => by rcases (show j = 0 ∨ j = 1 ∨ j = 2 ∨ j = 3 ∨ j = 4 ∨ j = 5 ∨ j = 6 ∨ j = 7 ∨ j = 8 ∨ j = 9 ∨ j = 10 ∨ j = 11 ∨ j = 12 ∨ j = 13 ∨ j = 14 ∨ j = 15 ∨ j = 16 ∨ j = 17 ∨ j = 18 ∨ j = 19 by omega) with rfl | rfl | rfl | rfl | rfl | rfl | rfl | rfl | rfl | rfl | rfl | rfl | rfl | rfl | rfl | rfl | rfl | rfl | rfl | rfl <;> exact ⟨_, rfl, rfl⟩) ⟨by (try dsimp only); omega, by decide⟩ ?_
  have kn13 := kOK.nw (m := 27) (q := (10, 20)) k10 rfl
  refine ar_dup (k := 14) rfl rfl ?_
  refine ar_callI (k := 15) (as := []) rfl liT_13 (c_W_init (v := 27) (if_pos rfl)) rfl (by decide) (by decide) ⟨by (try dsimp only); omega, by decide⟩ (Nat.le_of_ble_eq_true rfl) (fun r15 h15 p15 => ?_)
  obtain ⟨rfl, K15, J15, R15, rfl, ⟨ka15_1, ka15_2, ka15_3, ka15_4, ka15_5, ka15_6, ka15_7, ka15_8, ka15_9, ka15_10, ka15_11, ka15_12, rb15_1, rb15_2, rb15_3, rb15_4, rb15_5, rb15_6, rb15_7, rb15_8, rb15_9, rb15_10, rb15_11, rb15_12, jc15_1, jc15_2, jc15_3, jc15_4, jc15_5, jc15_6⟩, gw15⟩ := p15
  have k15 : kOK 40 K15 := kn13.to (m := 27) (m2 := 40) gw15.1 (fun j j1 j2 => by rcases (show j = 1 ∨ j = 2 ∨ j = 3 ∨ j = 4 ∨ j = 5 ∨ j = 6 ∨ j = 7 ∨ j = 8 ∨ j = 9 ∨ j = 10 ∨ j = 11 ∨ j = 12 by omega) with rfl | rfl | rfl | rfl | rfl | rfl | rfl | rfl | rfl | rfl | rfl | rfl <;> assumption)
  have r0_15 : R15 0 = upQ (R10 0) 1 (some 14) := by rw [gw15.2.2.1 0 (by decide)]; rfl
  have now15 : R15 0 ((0 : Nat) : Int) = some 1 := by rw [r0_15, r0_10]; rfl
  refine br_putFR (k := 16) rfl (show tK _ 0 (11, 7) from ⟨k15 0 (by decide), by (try dsimp only); omega⟩) flT_21_11 (by decide) rfl rfl (fun _ _ _ q => by cases q; exact ⟨rfl, rfl, _, rfl, rfl⟩) ?_
  refine ar_aloadn (k := 17) rfl rfl ?_
  refine ar_iconst (k := 18) rfl ?_
  refine br_putZJ (k := 19) rfl (show tK _ 0 (11, 7) from ⟨k15 0 (by decide), by (try dsimp only); omega⟩) flT_24_11 (by decide) rfl (by omega) (fun _ _ _ q => by cases q; exact ⟨rfl, rfl⟩) (fun I19 e19 => ?_)
  change _ = uI _ 0 3 _ at e19
  skip
  refine ar_aloadn (k := 20) rfl rfl ?_
  refine br_new (k := 21) (ci := 6) (N := 19) rfl klT_28 rfl (fun j hj => by rcases (show j = 0 ∨ j = 1 ∨ j = 2 ∨ j = 3 ∨ j = 4 ∨ j = 5 ∨ j = 6 ∨ j = 7 ∨ j = 8 ∨ j = 9 ∨ j = 10 ∨ j = 11 ∨ j = 12 ∨ j = 13 ∨ j = 14 ∨ j = 15 ∨ j = 16 ∨ j = 17 ∨ j = 18 by omega) with rfl | rfl | rfl | rfl | rfl | rfl | rfl | rfl | rfl | rfl | rfl | rfl | rfl | rfl | rfl | rfl | rfl | rfl | rfl <;> exact ⟨_, rfl, rfl⟩) ⟨by (try dsimp only); omega, by decide⟩ ?_
  have kn21 := kOK.nw (m := 40) (q := (6, 19)) k15 rfl
  refine ar_dup (k := 22) rfl rfl ?_
  refine ar_aloadn (k := 23) rfl rfl ?_
  refine br_getR (k := 24) rfl (show tK _ 0 (11, 7) from ⟨kn21 0 (by decide), by (try dsimp only); omega⟩) flT_14_11 (by decide) rfl (show _ = _ from now15) ?_
  refine ar_callI (k := 25) (as := [_]) rfl liT_30 (c_P_init (v := 40) (if_pos rfl)) rfl (by decide) (by decide) ⟨by (try dsimp only); omega, by decide⟩ (Nat.le_of_ble_eq_true rfl) (fun r25 h25 p25 => ?_)
  obtain ⟨rfl, K25, J25, R25, rfl, ⟨ka25_1, kr25, ka25_11, ka25_12, ka25_13, ka25_14, ka25_15, ka25_16, ka25_17, ka25_18, ka25_19, rb25_0, rb25_1, rb25_2, rb25_3, rb25_4, rb25_5, rb25_6, rb25_7, rb25_8, rb25_9, rb25_10⟩, rows25, fk25, fj25, fz25⟩ := p25
  have k25 : kOK 61 K25 := kn21.to (m := 40) (m2 := 61) fk25 (fun j j1 j2 => by
    by_cases g : j ≤ 11
    · by_cases g1 : j = 1
      · subst g1; exact ka25_1
      · have := kr25 (j - 1) (by omega) (by omega)
        rw [show 40 + 1 + (j - 1) = 40 + j by omega] at this
        rw [this]
        rcases (show j = 2 ∨ j = 3 ∨ j = 4 ∨ j = 5 ∨ j = 6 ∨ j = 7 ∨ j = 8 ∨ j = 9 ∨ j = 10 ∨ j = 11 by omega) with rfl | rfl | rfl | rfl | rfl | rfl | rfl | rfl | rfl | rfl <;> rfl
    · rcases (show j = 12 ∨ j = 13 ∨ j = 14 ∨ j = 15 ∨ j = 16 ∨ j = 17 ∨ j = 18 ∨ j = 19 ∨ j = 20 by omega) with rfl | rfl | rfl | rfl | rfl | rfl | rfl | rfl | rfl <;> assumption)
  have r0_25 : R25 0 = upQ (R15 0) 2 (some 27) := by rw [(fj25 0 (by decide)).2]; rfl
  refine br_putFR (k := 26) rfl (show tK _ 0 (11, 7) from ⟨k25 0 (by decide), by (try dsimp only); omega⟩) flT_33_11 (by decide) rfl rfl (fun _ _ _ q => by cases q; exact ⟨rfl, rfl, _, rfl, rfl⟩) ?_
  refine ar_aloadn (k := 27) rfl rfl ?_
  refine br_new (k := 28) (ci := 8) (N := 2) rfl klT_37 rfl (fun j hj => by rcases (show j = 0 ∨ j = 1 by omega) with rfl | rfl <;> exact ⟨_, rfl, rfl⟩) ⟨by (try dsimp only); omega, by decide⟩ ?_
  have kn28 := kOK.nw (m := 61) (q := (8, 2)) k25 rfl
  refine ar_dup (k := 29) rfl rfl ?_
  refine ar_callI (k := 30) (as := []) rfl liT_39 (c_C_init (v := 61) (if_pos rfl)) rfl (by decide) (by decide) ⟨by (try dsimp only); omega, by decide⟩ (Nat.le_of_ble_eq_true rfl) (fun r30 h30 p30 => ?_)
  obtain ⟨rfl, K30, J30, R30, rfl, ⟨ka30_1, rb30_1, jc30_1⟩, gw30⟩ := p30
  have k30 : kOK 63 K30 := kn28.to (m := 61) (m2 := 63) gw30.1 (fun j j1 j2 => by rcases (show j = 1 by omega) with rfl <;> assumption)
  have r0_30 : R30 0 = upQ (R25 0) 4 (some 40) := by rw [gw30.2.2.1 0 (by decide)]; rfl
  have now30 : R30 0 ((0 : Nat) : Int) = some 1 := by rw [r0_30, r0_25, r0_15, r0_10]; rfl
  have tape30 : R30 1 ((0 : Nat) : Int) = some 2 := by rw [gw30.2.2.1 1 (by decide)]; show R25 1 ((0 : Nat) : Int) = some 2; rw [(fj25 1 (by decide)).2]; show R15 1 ((0 : Nat) : Int) = some 2; rw [gw15.2.2.1 1 (by decide)]; show R10 1 ((0 : Nat) : Int) = some 2; rw [gw10.2.2.1 1 (by decide)]; exact rb5_1
  refine br_putFR (k := 31) rfl (show tK _ 0 (11, 7) from ⟨k30 0 (by decide), by (try dsimp only); omega⟩) flT_40_11 (by decide) rfl rfl (fun _ _ _ q => by cases q; exact ⟨rfl, rfl, _, rfl, rfl⟩) ?_
  refine ar_aloadn (k := 32) rfl rfl ?_
  refine br_new (k := 33) (ci := 9) (N := 12) rfl klT_44 rfl (fun j hj => by rcases (show j = 0 ∨ j = 1 ∨ j = 2 ∨ j = 3 ∨ j = 4 ∨ j = 5 ∨ j = 6 ∨ j = 7 ∨ j = 8 ∨ j = 9 ∨ j = 10 ∨ j = 11 by omega) with rfl | rfl | rfl | rfl | rfl | rfl | rfl | rfl | rfl | rfl | rfl | rfl <;> exact ⟨_, rfl, rfl⟩) ⟨by (try dsimp only); omega, by decide⟩ ?_
  have kn33 := kOK.nw (m := 63) (q := (9, 12)) k30 rfl
  refine ar_dup (k := 34) rfl rfl ?_
  refine ar_aloadn (k := 35) rfl rfl ?_
  refine br_getR (k := 36) rfl (show tK _ 0 (11, 7) from ⟨kn33 0 (by decide), by (try dsimp only); omega⟩) flT_14_11 (by decide) rfl (show _ = _ from now30) ?_
  refine br_getR (k := 37) rfl (show tK _ 1 (10, 20) from ⟨kn33 1 (by decide), by (try dsimp only); omega⟩) flT_46_10 (by decide) rfl (show _ = _ from tape30) ?_
  refine ar_callI (k := 38) (as := [_]) rfl liT_50 (c_V_init (v := 63) (if_pos rfl) (by decide)) rfl (by decide) (by decide) ⟨by (try dsimp only); omega, by decide⟩ (Nat.le_of_ble_eq_true rfl) (fun r38 h38 p38 => ?_)
  obtain ⟨rfl, K38, J38, R38, rfl, hvs, fk38, fi38, fq38⟩ := p38
  obtain ⟨-, ⟨ka38_0, ka38_1, ka38_2, ka38_3, ka38_4, ka38_5⟩, -⟩ := id hvs
  have k38 : kOK 69 K38 := kn33.to (m := 63) (m2 := 69) fk38 (fun j j1 j2 => by rcases (show j = 1 ∨ j = 2 ∨ j = 3 ∨ j = 4 ∨ j = 5 by omega) with rfl | rfl | rfl | rfl | rfl <;> assumption)
  have r0_38 : R38 0 = upQ (R30 0) 5 (some 61) := by rw [fq38 0 (by decide)]; rfl
  refine br_putR (k := 39) rfl (show tK _ 0 (11, 7) from ⟨k38 0 (by decide), by (try dsimp only); omega⟩) flT_53_11 (by decide) rfl (fun _ _ _ q => by cases q; exact ⟨rfl, _, rfl, rfl⟩) ?_
  refine ar_ret (k := 40) rfl rfl rfl (Nat.le_refl _) ?_
  have j1 : ∀ a, a < 14 → a ≠ 0 → J38 a = J5 a := fun a ha a0 => by
    rw [fi38 a (by omega)]; show (if a = 63 then _ else J30 a) = _; rw [if_neg (by omega), gw30.2.1 a (by omega)]; show (if a = 61 then _ else J25 a) = _; rw [if_neg (by omega), (fj25 a (by omega)).1]; show (if a = 40 then _ else I19 a) = _; rw [if_neg (by omega), e19, uI_off _ _ _ a0, gw15.2.1 a (by omega)]; show (if a = 27 then _ else J10 a) = _; rw [if_neg (by omega), gw10.2.1 a (by omega)]; show (if a = 14 then _ else J5 a) = _; rw [if_neg (by omega)]
  have j2 : ∀ a, a < 61 → 40 < a → J38 a = fun _ => 0 := fun a ha a0 => by
    rw [fi38 a (by omega)]; show (if a = 63 then _ else J30 a) = _; rw [if_neg (by omega), gw30.2.1 a (by omega)]; show (if a = 61 then _ else J25 a) = _; rw [if_neg (by omega)]; exact fz25 a a0 ha
  have j3 : ∀ a, a < 63 → J38 a = J30 a := fun a ha => by rw [fi38 a ha]; show (if a = 63 then _ else J30 a) = _; rw [if_neg (by omega)]
  have q3 : ∀ a, a < 63 → a ≠ 0 → uQ R38 0 ((6 : Nat) : Int) (some 63) a = R30 a := fun a ha a0 => by show (if a = 0 then _ else R38 a) = _; rw [if_neg a0, fq38 a ha]; show (if a = 63 then _ else (if a = 0 then _ else R30 a)) = _; rw [if_neg (by omega), if_neg a0]
  have q2 : ∀ a, a < 61 → a ≠ 0 → R30 a = R25 a := fun a ha a0 => by rw [gw30.2.2.1 a ha]; show (if a = 61 then _ else (if a = 0 then _ else R25 a)) = _; rw [if_neg (by omega), if_neg a0]
  have q1 : ∀ a, a < 40 → a ≠ 0 → R25 a = R15 a := fun a ha a0 => by rw [(fj25 a ha).2]; show (if a = 40 then _ else (if a = 0 then _ else R15 a)) = _; rw [if_neg (by omega), if_neg a0]
  have q0 : ∀ a, a < 27 → a ≠ 0 → R15 a = R10 a := fun a ha a0 => by rw [gw15.2.2.1 a ha]; show (if a = 27 then _ else (if a = 0 then _ else R10 a)) = _; rw [if_neg (by omega), if_neg a0]
  have q00 : ∀ a, a < 14 → a ≠ 0 → R10 a = R5 a := fun a ha a0 => by rw [gw10.2.2.1 a ha]; show (if a = 14 then _ else (if a = 0 then _ else R5 a)) = _; rw [if_neg (by omega), if_neg a0]
  have r5 : qOK 14 R5 := fun a k b a1 a2 e => qW_1 ⟨rb5_1, rb5_2, rb5_3, rb5_4, rb5_5, rb5_6, rb5_7, rb5_8, rb5_9, rb5_10, rb5_11, rb5_12⟩ a k b a1 a2 e
  have qq : qOK 63 (uQ R38 0 ((6 : Nat) : Int) (some 63)) := fun a k b a1 a2 e => by
    rw [q3 a a2 (by omega)]
    by_cases g61 : a < 61
    · rw [q2 a g61 (by omega)]
      by_cases g40 : a < 40
      · rw [q1 a g40 (by omega)]
        by_cases g27 : a < 27
        · rw [q0 a g27 (by omega)]
          by_cases g14 : a < 14
          · rw [q00 a g14 (by omega)]; exact r5 a k b a1 g14 e
          · exact qW_14 ⟨rb10_1, rb10_2, rb10_3, rb10_4, rb10_5, rb10_6, rb10_7, rb10_8, rb10_9, rb10_10, rb10_11, rb10_12⟩ a k b (by omega) g27 e
        · exact qW_27 ⟨rb15_1, rb15_2, rb15_3, rb15_4, rb15_5, rb15_6, rb15_7, rb15_8, rb15_9, rb15_10, rb15_11, rb15_12⟩ a k b (by omega) g40 e
      · exact qP_40 ⟨rb25_0, rb25_1, rb25_2, rb25_3, rb25_4, rb25_5, rb25_6, rb25_7, rb25_8, rb25_9⟩ rows25 a k b (by omega) g61 e
    · rcases (show a = 61 ∨ a = 62 by omega) with rfl | rfl
      · have hk := srf_19 rfl (by decide) e
        rcases (show k = 0 ∨ k = 1 ∨ k = 2 ∨ k = 3 ∨ k = 4 ∨ k = 5 ∨ k = 6 ∨ k = 7 ∨ k = 8 ∨ k = 9 ∨ k = 10 ∨ k = 11 ∨ k = 12 ∨ k = 13 ∨ k = 14 ∨ k = 15 ∨ k = 16 ∨ k = 17 ∨ k = 18 by omega) with rfl | rfl | rfl | rfl | rfl | rfl | rfl | rfl | rfl | rfl | rfl | rfl | rfl | rfl | rfl | rfl | rfl | rfl | rfl <;> first | (cases e; assumption) | cases e
      · exact (srf_n rfl e).elim
  refine ⟨rfl, K38, J38, _, rfl, k38, qq, ?_, ⟨?_, ?_, ?_, ?_, ?_, ?_⟩, ?_, ⟨?_, ?_, ?_, ?_, ?_, ?_⟩, ?_, ?_, ?_, ?_, ?_, ?_, ?_, ?_, ?_⟩
  · obtain ⟨h1, h2, h3, h4, h5, h6, h7, h8⟩ := hvs
    exact ⟨h1, h2, h3, h4, h5, h6, h7, h8⟩
  · show upQ (R38 0) 6 (some 63) 0 = _; rw [r0_38, r0_30, r0_25, r0_15, r0_10]; rfl
  · show upQ (R38 0) 6 (some 63) 1 = _; rw [r0_38, r0_30, r0_25, r0_15]; rfl
  · show upQ (R38 0) 6 (some 63) 2 = _; rw [r0_38, r0_30, r0_25]; rfl
  · show upQ (R38 0) 6 (some 63) 4 = _; rw [r0_38, r0_30]; rfl
  · show upQ (R38 0) 6 (some 63) 5 = _; rw [r0_38]; rfl
  · rfl
  · rw [j3 0 (by decide), gw30.2.1 0 (by decide)]; show J25 0 3 = 0; rw [(fj25 0 (by decide)).1]; show I19 0 3 = 0; rw [e19, uI_at, if_pos rfl]
  · rw [j1 1 (by decide) (by decide)]; exact jc5_1
  · rw [j1 1 (by decide) (by decide)]; exact jc5_2
  · rw [j1 1 (by decide) (by decide)]; exact jc5_3
  · rw [j1 1 (by decide) (by decide)]; exact jc5_4
  · rw [j1 1 (by decide) (by decide)]; exact jc5_5
  · rw [j1 1 (by decide) (by decide)]; exact jc5_6
  · rw [j1 2 (by decide) (by decide)]; exact gw5.2.2.2.1 2 (by decide) (by decide)
  · rw [j2 57 (by decide) (by decide)]
  · rw [j2 59 (by decide) (by decide)]
  · rw [j3 61 (by decide)]; exact jc30_1
  · rw [j3 62 (by decide)]; exact gw30.2.2.2.1 62 (by decide) (by decide)
  · rw [q3 3 (by decide) (by decide), q2 3 (by decide) (by decide), q1 3 (by decide) (by decide), q0 3 (by decide) (by decide), q00 3 (by decide) (by decide)]; exact gw5.2.2.2.2 3 (by decide) (by decide)
  · rw [q3 4 (by decide) (by decide), q2 4 (by decide) (by decide), q1 4 (by decide) (by decide), q0 4 (by decide) (by decide), q00 4 (by decide) (by decide)]; exact gw5.2.2.2.2 4 (by decide) (by decide)
  · rw [q3 16 (by decide) (by decide), q2 16 (by decide) (by decide), q1 16 (by decide) (by decide), q0 16 (by decide) (by decide)]; exact gw10.2.2.2.2 16 (by decide) (by decide)
  · rw [q3 17 (by decide) (by decide), q2 17 (by decide) (by decide), q1 17 (by decide) (by decide), q0 17 (by decide) (by decide)]; exact gw10.2.2.2.2 17 (by decide) (by decide)
end CT
