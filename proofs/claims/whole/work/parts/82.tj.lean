section CT
variable {l : Launch} {G : tG} {K : Nat → Nat × Nat} {I : Nat → Int → Int} {Q : Nat → Int → Option Nat} {n : Nat} {s : Int → Int}
theorem c_T_init (hK : K 0 = (11, 6)) : tw_M l G 4 69 1428 mT_init [vr (some 0)] (K, I, Q, 1) (fun r h' => r = none ∧ ∃ K' J R, h' = (K', J, R, 70) ∧ kOK 70 K' ∧ qOK 63 R ∧ VI K' R 63 ∧ (R 0 0 = some 1 ∧ R 0 1 = some 14 ∧ R 0 3 = some 27 ∧ R 0 4 = some 61 ∧ R 0 5 = some 63) ∧ J 0 2 = 0 ∧ (J 1 1 = 0 ∧ J 1 3 = 0 ∧ J 1 5 = 0 ∧ J 1 12 = 0 ∧ J 1 16 = 0 ∧ J 1 19 = 0) ∧ (J 2 = fun _ => 0) ∧ J 57 0 = 0 ∧ J 59 0 = 0 ∧ J 61 1 = 0 ∧ (J 62 = fun _ => 0) ∧ (R 3 = fun _ => none) ∧ (R 4 = fun _ => none) ∧ (R 16 = fun _ => none) ∧ (R 17 = fun _ => none)) := by
  have k0 : kOK 1 K := fun a ha => by
    rw [show a = 0 by omega]; exact hK
  refine tw_intro okT_init (Nat.le_of_ble_eq_true rfl) ?_
  refine ar_aloadn (k := 0) rfl rfl ?_
  refine ar_obj (k := 1) rfl lbT_5 (by decide) (Nat.le_of_ble_eq_true rfl) ?_
  refine ar_aloadn (k := 2) rfl rfl ?_
  refine br_new (k := 3) (ci := 10) (N := 20) rfl klT_11 rfl (fun j hj => by rcases (show j = 0 ∨ j = 1 ∨ j = 2 ∨ j = 3 ∨ j = 4 ∨ j = 5 ∨ j = 6 ∨ j = 7 ∨ j = 8 ∨ j = 9 ∨ j = 10 ∨ j = 11 ∨ j = 12 ∨ j = 13 ∨ j = 14 ∨ j = 15 ∨ j = 16 ∨ j = 17 ∨ j = 18 ∨ j = 19 by omega) with rfl | rfl | rfl | rfl | rfl | rfl | rfl | rfl | rfl | rfl | rfl | rfl | rfl | rfl | rfl | rfl | rfl | rfl | rfl | rfl <;> exact ⟨_, rfl, rfl⟩) ⟨by (try dsimp only); omega, by decide⟩ ?_
  have kn3 := kOK.nw (m := 1) (q := (10, 20)) k0 rfl
  refine ar_dup (k := 4) rfl rfl ?_
  refine ar_callI (k := 5) (as := []) rfl liT_13 (c_W_init (v := 1) (if_pos rfl)) rfl (by decide) (by decide) ⟨by (try dsimp only); omega, by decide⟩ (Nat.le_of_ble_eq_true rfl) (fun r5 h5 p5 => ?_)
  obtain ⟨rfl, K5, J5, R5, rfl, ⟨ka5_1, ka5_2, ka5_3, ka5_4, ka5_5, ka5_6, ka5_7, ka5_8, ka5_9, ka5_10, ka5_11, ka5_12, rb5_1, rb5_2, rb5_3, rb5_4, rb5_5, rb5_6, rb5_7, rb5_8, rb5_9, rb5_10, rb5_11, rb5_12, jc5_1, jc5_2, jc5_3, jc5_4, jc5_5, jc5_6⟩, gw5⟩ := p5
  have k5 : kOK 14 K5 := kn3.to (m := 1) (m2 := 14) gw5.1 (fun j j1 j2 => by rcases (show j = 1 ∨ j = 2 ∨ j = 3 ∨ j = 4 ∨ j = 5 ∨ j = 6 ∨ j = 7 ∨ j = 8 ∨ j = 9 ∨ j = 10 ∨ j = 11 ∨ j = 12 by omega) with rfl | rfl | rfl | rfl | rfl | rfl | rfl | rfl | rfl | rfl | rfl | rfl <;> assumption)
  have r0_5 : R5 0 = Q 0 := by rw [gw5.2.2.1 0 (by decide)]; rfl
  refine br_putFR (k := 6) rfl (show tK _ 0 (11, 6) from ⟨k5 0 (by decide), by (try dsimp only); omega⟩) flT_14_11 (by decide) rfl rfl (fun _ _ _ q => by cases q; exact ⟨rfl, rfl, _, rfl, rfl⟩) ?_
  refine ar_aloadn (k := 7) rfl rfl ?_
  refine br_new (k := 8) (ci := 10) (N := 20) rfl klT_11 rfl (fun j hj => by rcases (show j = 0 ∨ j = 1 ∨ j = 2 ∨ j = 3 ∨ j = 4 ∨ j = 5 ∨ j = 6 ∨ j = 7 ∨ j = 8 ∨ j = 9 ∨ j = 10 ∨ j = 11 ∨ j = 12 ∨ j = 13 ∨ j = 14 ∨ j = 15 ∨ j = 16 ∨ j = 17 ∨ j = 18 ∨ j = 19 by omega) with rfl | rfl | rfl | rfl | rfl | rfl | rfl | rfl | rfl | rfl | rfl | rfl | rfl | rfl | rfl | rfl | rfl | rfl | rfl | rfl <;> exact ⟨_, rfl, rfl⟩) ⟨by (try dsimp only); omega, by decide⟩ ?_
  have kn8 := kOK.nw (m := 14) (q := (10, 20)) k5 rfl
  refine ar_dup (k := 9) rfl rfl ?_
  refine ar_callI (k := 10) (as := []) rfl liT_13 (c_W_init (v := 14) (if_pos rfl)) rfl (by decide) (by decide) ⟨by (try dsimp only); omega, by decide⟩ (Nat.le_of_ble_eq_true rfl) (fun r10 h10 p10 => ?_)
  obtain ⟨rfl, K10, J10, R10, rfl, ⟨ka10_1, ka10_2, ka10_3, ka10_4, ka10_5, ka10_6, ka10_7, ka10_8, ka10_9, ka10_10, ka10_11, ka10_12, rb10_1, rb10_2, rb10_3, rb10_4, rb10_5, rb10_6, rb10_7, rb10_8, rb10_9, rb10_10, rb10_11, rb10_12, jc10_1, jc10_2, jc10_3, jc10_4, jc10_5, jc10_6⟩, gw10⟩ := p10
  have k10 : kOK 27 K10 := kn8.to (m := 14) (m2 := 27) gw10.1 (fun j j1 j2 => by rcases (show j = 1 ∨ j = 2 ∨ j = 3 ∨ j = 4 ∨ j = 5 ∨ j = 6 ∨ j = 7 ∨ j = 8 ∨ j = 9 ∨ j = 10 ∨ j = 11 ∨ j = 12 by omega) with rfl | rfl | rfl | rfl | rfl | rfl | rfl | rfl | rfl | rfl | rfl | rfl <;> assumption)
  have r0_10 : R10 0 = upQ (R5 0) 0 (some 1) := by rw [gw10.2.2.1 0 (by decide)]; rfl
  refine br_putFR (k := 11) rfl (show tK _ 0 (11, 6) from ⟨k10 0 (by decide), by (try dsimp only); omega⟩) flT_18_11 (by decide) rfl rfl (fun _ _ _ q => by cases q; exact ⟨rfl, rfl, _, rfl, rfl⟩) ?_
  refine ar_aloadn (k := 12) rfl rfl ?_
  refine ar_iconst (k := 13) rfl ?_
  refine br_putZJ (k := 14) rfl (show tK _ 0 (11, 6) from ⟨k10 0 (by decide), by (try dsimp only); omega⟩) flT_21_11 (by decide) rfl (by omega) (fun _ _ _ q => by cases q; exact ⟨rfl, rfl⟩) (fun I14 e14 => ?_)
  change _ = uI _ 0 2 _ at e14
  skip
  refine ar_aloadn (k := 15) rfl rfl ?_
  refine br_new (k := 16) (ci := 6) (N := 20) rfl klT_25 rfl (fun j hj => by rcases (show j = 0 ∨ j = 1 ∨ j = 2 ∨ j = 3 ∨ j = 4 ∨ j = 5 ∨ j = 6 ∨ j = 7 ∨ j = 8 ∨ j = 9 ∨ j = 10 ∨ j = 11 ∨ j = 12 ∨ j = 13 ∨ j = 14 ∨ j = 15 ∨ j = 16 ∨ j = 17 ∨ j = 18 ∨ j = 19 by omega) with rfl | rfl | rfl | rfl | rfl | rfl | rfl | rfl | rfl | rfl | rfl | rfl | rfl | rfl | rfl | rfl | rfl | rfl | rfl | rfl <;> exact ⟨_, rfl, rfl⟩) ⟨by (try dsimp only); omega, by decide⟩ ?_
  have kn16 := kOK.nw (m := 27) (q := (6, 20)) k10 rfl
  refine ar_dup (k := 17) rfl rfl ?_
  refine ar_callI (k := 18) (as := []) rfl liT_27 (c_P_init (v := 27) (if_pos rfl)) rfl (by decide) (by decide) ⟨by (try dsimp only); omega, by decide⟩ (Nat.le_of_ble_eq_true rfl) (fun r18 h18 p18 => ?_)
  obtain ⟨rfl, K18, J18, R18, rfl, ⟨ka18_1, ka18_2, ka18_3, ka18_4, ka18_5, ka18_6, ka18_7, ka18_8, ka18_9, ka18_10, ka18_11, ka18_12, ka18_13, rg18_1, rg18_2, rg18_3, rg18_4, rg18_5, rg18_6, rg18_7, rg18_8, rg18_9, rg18_10, rg18_11, rg18_12, ka18_14, kr18, ka18_25, ka18_26, ka18_27, ka18_28, ka18_29, ka18_30, ka18_31, ka18_32, ka18_33, rb18_0, rb18_1, rb18_2, rb18_3, rb18_4, rb18_5, rb18_6, rb18_7, rb18_8, rb18_9, rb18_10⟩, rows18, fk18, fj18, fz18⟩ := p18
  have k18 : kOK 61 K18 := kn16.to (m := 27) (m2 := 61) fk18 (fun j j1 j2 => by
    by_cases g : 15 ≤ j ∧ j ≤ 24
    · have := kr18 (j - 14) (by omega) (by omega)
      rw [show 27 + 14 + (j - 14) = 27 + j by omega] at this
      rw [this]
      rcases (show j = 15 ∨ j = 16 ∨ j = 17 ∨ j = 18 ∨ j = 19 ∨ j = 20 ∨ j = 21 ∨ j = 22 ∨ j = 23 ∨ j = 24 by omega) with rfl | rfl | rfl | rfl | rfl | rfl | rfl | rfl | rfl | rfl <;> rfl
    · rcases (show j = 1 ∨ j = 2 ∨ j = 3 ∨ j = 4 ∨ j = 5 ∨ j = 6 ∨ j = 7 ∨ j = 8 ∨ j = 9 ∨ j = 10 ∨ j = 11 ∨ j = 12 ∨ j = 13 ∨ j = 14 ∨ j = 25 ∨ j = 26 ∨ j = 27 ∨ j = 28 ∨ j = 29 ∨ j = 30 ∨ j = 31 ∨ j = 32 ∨ j = 33 by omega) with rfl | rfl | rfl | rfl | rfl | rfl | rfl | rfl | rfl | rfl | rfl | rfl | rfl | rfl | rfl | rfl | rfl | rfl | rfl | rfl | rfl | rfl | rfl <;> assumption)
  have r0_18 : R18 0 = upQ (R10 0) 1 (some 14) := by rw [(fj18 0 (by decide)).2]; rfl
  refine br_putFR (k := 19) rfl (show tK _ 0 (11, 6) from ⟨k18 0 (by decide), by (try dsimp only); omega⟩) flT_28_11 (by decide) rfl rfl (fun _ _ _ q => by cases q; exact ⟨rfl, rfl, _, rfl, rfl⟩) ?_
  refine ar_aloadn (k := 20) rfl rfl ?_
  refine br_new (k := 21) (ci := 8) (N := 2) rfl klT_32 rfl (fun j hj => by rcases (show j = 0 ∨ j = 1 by omega) with rfl | rfl <;> exact ⟨_, rfl, rfl⟩) ⟨by (try dsimp only); omega, by decide⟩ ?_
  have kn21 := kOK.nw (m := 61) (q := (8, 2)) k18 rfl
  refine ar_dup (k := 22) rfl rfl ?_
  refine ar_callI (k := 23) (as := []) rfl liT_34 (c_C_init (v := 61) (if_pos rfl)) rfl (by decide) (by decide) ⟨by (try dsimp only); omega, by decide⟩ (Nat.le_of_ble_eq_true rfl) (fun r23 h23 p23 => ?_)
  obtain ⟨rfl, K23, J23, R23, rfl, ⟨ka23_1, rb23_1, jc23_1⟩, gw23⟩ := p23
  have k23 : kOK 63 K23 := kn21.to (m := 61) (m2 := 63) gw23.1 (fun j j1 j2 => by rcases (show j = 1 by omega) with rfl <;> assumption)
  have r0_23 : R23 0 = upQ (R18 0) 3 (some 27) := by rw [gw23.2.2.1 0 (by decide)]; rfl
  refine br_putFR (k := 24) rfl (show tK _ 0 (11, 6) from ⟨k23 0 (by decide), by (try dsimp only); omega⟩) flT_35_11 (by decide) rfl rfl (fun _ _ _ q => by cases q; exact ⟨rfl, rfl, _, rfl, rfl⟩) ?_
  refine ar_aloadn (k := 25) rfl rfl ?_
  refine br_new (k := 26) (ci := 9) (N := 12) rfl klT_39 rfl (fun j hj => by rcases (show j = 0 ∨ j = 1 ∨ j = 2 ∨ j = 3 ∨ j = 4 ∨ j = 5 ∨ j = 6 ∨ j = 7 ∨ j = 8 ∨ j = 9 ∨ j = 10 ∨ j = 11 by omega) with rfl | rfl | rfl | rfl | rfl | rfl | rfl | rfl | rfl | rfl | rfl | rfl <;> exact ⟨_, rfl, rfl⟩) ⟨by (try dsimp only); omega, by decide⟩ ?_
  have kn26 := kOK.nw (m := 63) (q := (9, 12)) k23 rfl
  refine ar_dup (k := 27) rfl rfl ?_
  refine ar_callI (k := 28) (as := []) rfl liT_41 (c_V_init (v := 63) (if_pos rfl)) rfl (by decide) (by decide) ⟨by (try dsimp only); omega, by decide⟩ (Nat.le_of_ble_eq_true rfl) (fun r28 h28 p28 => ?_)
  obtain ⟨rfl, K28, J28, R28, rfl, hvs, fk28, fi28, fq28⟩ := p28
  obtain ⟨⟨ka28_0, ka28_1, ka28_2, ka28_3, ka28_4, ka28_5⟩, -, ka28_6⟩ := id hvs
  have k28 : kOK 70 K28 := kn26.to (m := 63) (m2 := 70) fk28 (fun j j1 j2 => by rcases (show j = 1 ∨ j = 2 ∨ j = 3 ∨ j = 4 ∨ j = 5 ∨ j = 6 by omega) with rfl | rfl | rfl | rfl | rfl | rfl <;> assumption)
  have r0_28 : R28 0 = upQ (R23 0) 4 (some 61) := by rw [fq28 0 (by decide)]; rfl
  refine br_putR (k := 29) rfl (show tK _ 0 (11, 6) from ⟨k28 0 (by decide), by (try dsimp only); omega⟩) flT_42_11 (by decide) rfl (fun _ _ _ q => by cases q; exact ⟨rfl, _, rfl, rfl⟩) ?_
  refine ar_ret (k := 30) rfl rfl rfl (Nat.le_refl _) ?_
  have j1 : ∀ a, a < 14 → a ≠ 0 → J28 a = J5 a := fun a ha a0 => by
    rw [fi28 a (by omega)]; show (if a = 63 then _ else J23 a) = _; rw [if_neg (by omega), gw23.2.1 a (by omega)]; show (if a = 61 then _ else J18 a) = _; rw [if_neg (by omega), (fj18 a (by omega)).1]; show (if a = 27 then _ else I14 a) = _; rw [if_neg (by omega), e14, uI_off _ _ _ a0, gw10.2.1 a (by omega)]; show (if a = 14 then _ else J5 a) = _; rw [if_neg (by omega)]
  have j2 : ∀ a, a < 61 → 41 ≤ a → J28 a = fun _ => 0 := fun a ha a0 => by
    rw [fi28 a (by omega)]; show (if a = 63 then _ else J23 a) = _; rw [if_neg (by omega), gw23.2.1 a (by omega)]; show (if a = 61 then _ else J18 a) = _; rw [if_neg (by omega)]; exact fz18 a a0 ha
  have j3 : ∀ a, a < 63 → J28 a = J23 a := fun a ha => by rw [fi28 a ha]; show (if a = 63 then _ else J23 a) = _; rw [if_neg (by omega)]
  have q3 : ∀ a, a < 63 → a ≠ 0 → uQ R28 0 ((5 : Nat) : Int) (some 63) a = R23 a := fun a ha a0 => by show (if a = 0 then _ else R28 a) = _; rw [if_neg a0, fq28 a ha]; show (if a = 63 then _ else (if a = 0 then _ else R23 a)) = _; rw [if_neg (by omega), if_neg a0]
  have q2 : ∀ a, a < 61 → a ≠ 0 → R23 a = R18 a := fun a ha a0 => by rw [gw23.2.2.1 a ha]; show (if a = 61 then _ else (if a = 0 then _ else R18 a)) = _; rw [if_neg (by omega), if_neg a0]
  have q0 : ∀ a, a < 27 → a ≠ 0 → R18 a = R10 a := fun a ha a0 => by rw [(fj18 a ha).2]; show (if a = 27 then _ else (if a = 0 then _ else R10 a)) = _; rw [if_neg (by omega), if_neg a0]
  have q00 : ∀ a, a < 14 → a ≠ 0 → R10 a = R5 a := fun a ha a0 => by rw [gw10.2.2.1 a ha]; show (if a = 14 then _ else (if a = 0 then _ else R5 a)) = _; rw [if_neg (by omega), if_neg a0]
  have r5 : qOK 14 R5 := fun a k b a1 a2 e => qW_1 ⟨rb5_1, rb5_2, rb5_3, rb5_4, rb5_5, rb5_6, rb5_7, rb5_8, rb5_9, rb5_10, rb5_11, rb5_12⟩ a k b a1 a2 e
  have qq : qOK 63 (uQ R28 0 ((5 : Nat) : Int) (some 63)) := fun a k b a1 a2 e => by
    rw [q3 a a2 (by omega)]
    by_cases g61 : a < 61
    · rw [q2 a g61 (by omega)]
      by_cases g41 : a < 41
      · by_cases g27 : a < 27
        · rw [q0 a g27 (by omega)]
          by_cases g14 : a < 14
          · rw [q00 a g14 (by omega)]; exact r5 a k b a1 g14 e
          · exact qW_14 ⟨rb10_1, rb10_2, rb10_3, rb10_4, rb10_5, rb10_6, rb10_7, rb10_8, rb10_9, rb10_10, rb10_11, rb10_12⟩ a k b (by omega) g27 e
        · by_cases h27 : a = 27
          · subst h27
            exact qP_27 ⟨rb18_0, rb18_1, rb18_2, rb18_3, rb18_4, rb18_5, rb18_6, rb18_7, rb18_8, rb18_9, rb18_10⟩ k b e
          · exact qW_28 ⟨rg18_1, rg18_2, rg18_3, rg18_4, rg18_5, rg18_6, rg18_7, rg18_8, rg18_9, rg18_10, rg18_11, rg18_12⟩ a k b (by omega) g41 e
      · exact qP_41 rows18 a k b (by omega) g61 e
    · rcases (show a = 61 ∨ a = 62 by omega) with rfl | rfl
      · have hk := srf_19 rfl (by decide) e
        rcases (show k = 0 ∨ k = 1 ∨ k = 2 ∨ k = 3 ∨ k = 4 ∨ k = 5 ∨ k = 6 ∨ k = 7 ∨ k = 8 ∨ k = 9 ∨ k = 10 ∨ k = 11 ∨ k = 12 ∨ k = 13 ∨ k = 14 ∨ k = 15 ∨ k = 16 ∨ k = 17 ∨ k = 18 by omega) with rfl | rfl | rfl | rfl | rfl | rfl | rfl | rfl | rfl | rfl | rfl | rfl | rfl | rfl | rfl | rfl | rfl | rfl | rfl <;> first | (cases e; assumption) | cases e
      · exact (srf_n rfl e).elim
  refine ⟨rfl, K28, J28, _, rfl, k28, qq, ?_, ⟨?_, ?_, ?_, ?_, ?_⟩, ?_, ⟨?_, ?_, ?_, ?_, ?_, ?_⟩, ?_, ?_, ?_, ?_, ?_, ?_, ?_, ?_, ?_⟩
  · exact hvs
  · show upQ (R28 0) 5 (some 63) 0 = _; rw [r0_28, r0_23, r0_18, r0_10]; rfl
  · show upQ (R28 0) 5 (some 63) 1 = _; rw [r0_28, r0_23, r0_18]; rfl
  · show upQ (R28 0) 5 (some 63) 3 = _; rw [r0_28, r0_23]; rfl
  · show upQ (R28 0) 5 (some 63) 4 = _; rw [r0_28]; rfl
  · rfl
  · rw [j3 0 (by decide), gw23.2.1 0 (by decide)]; show J18 0 2 = 0; rw [(fj18 0 (by decide)).1]; show I14 0 2 = 0; rw [e14, uI_at, if_pos rfl]
  · rw [j1 1 (by decide) (by decide)]; exact jc5_1
  · rw [j1 1 (by decide) (by decide)]; exact jc5_2
  · rw [j1 1 (by decide) (by decide)]; exact jc5_3
  · rw [j1 1 (by decide) (by decide)]; exact jc5_4
  · rw [j1 1 (by decide) (by decide)]; exact jc5_5
  · rw [j1 1 (by decide) (by decide)]; exact jc5_6
  · rw [j1 2 (by decide) (by decide)]; exact gw5.2.2.2.1 2 (by decide) (by decide)
  · rw [j2 57 (by decide) (by decide)]
  · rw [j2 59 (by decide) (by decide)]
  · rw [j3 61 (by decide)]; exact jc23_1
  · rw [j3 62 (by decide)]; exact gw23.2.2.2.1 62 (by decide) (by decide)
  · rw [q3 3 (by decide) (by decide), q2 3 (by decide) (by decide), q0 3 (by decide) (by decide), q00 3 (by decide) (by decide)]; exact gw5.2.2.2.2 3 (by decide) (by decide)
  · rw [q3 4 (by decide) (by decide), q2 4 (by decide) (by decide), q0 4 (by decide) (by decide), q00 4 (by decide) (by decide)]; exact gw5.2.2.2.2 4 (by decide) (by decide)
  · rw [q3 16 (by decide) (by decide), q2 16 (by decide) (by decide), q0 16 (by decide) (by decide)]; exact gw10.2.2.2.2 16 (by decide) (by decide)
  · rw [q3 17 (by decide) (by decide), q2 17 (by decide) (by decide), q0 17 (by decide) (by decide)]; exact gw10.2.2.2.2 17 (by decide) (by decide)
end CT
