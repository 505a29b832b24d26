/-- both made, nothing told: all that must hold -/
theorem CI_start {K1 K2 : Nat → Nat × Nat} {J1 J2 : Nat → Int → Int} {R1 R2 : Nat → Int → Option Nat} (k1 : kOK 69 K1) (q1 : qOK 63 R1) (hvs : VS K1 R1 69 63) (r0 : R1 0 0 = some 1 ∧ R1 0 1 = some 14 ∧ R1 0 2 = some 27 ∧ R1 0 4 = some 40 ∧ R1 0 5 = some 61 ∧ R1 0 6 = some 63) (j03 : J1 0 3 = 0) (j1 : J1 1 1 = 0 ∧ J1 1 3 = 0 ∧ J1 1 5 = 0 ∧ J1 1 12 = 0 ∧ J1 1 16 = 0 ∧ J1 1 19 = 0) (j2 : J1 2 = fun _ => 0) (j57 : J1 57 0 = 0) (j59 : J1 59 0 = 0) (j61 : J1 61 1 = 0) (r3 : R1 3 = fun _ => none) (r4 : R1 4 = fun _ => none) (r16 : R1 16 = fun _ => none) (r17 : R1 17 = fun _ => none)
    (ka : K2 (69 + 1) = (14, 984) ∧ K2 (69 + 2) = (14, 984) ∧ K2 (69 + 3) = (14, 5) ∧ K2 (69 + 4) = (15, 64) ∧ K2 (69 + 5) = (14, 10) ∧ K2 (69 + 6) = (14, 10) ∧ K2 (69 + 7) = (14, 20)) (rb : R2 69 1 = some (69 + 1) ∧ R2 69 2 = some (69 + 2) ∧ R2 69 9 = some (69 + 3) ∧ R2 69 10 = some (69 + 4) ∧ R2 69 14 = some (69 + 5) ∧ R2 69 15 = some (69 + 6) ∧ R2 69 18 = some (69 + 7)) (h70 : J2 (69 + 1) = rS0) (h69 : J2 69 = zI J1 69 69) (f : ∀ a, a ≤ 69 → K2 a = zK K1 69 (12, 23) a) (fi : ∀ a, a < 69 → J2 a = zI J1 69 a) (fq : ∀ a, a < 69 → R2 a = zQ R1 69 a) : CInv K2 J2 R2 77 := by
  have hS : tSt (K2, J2, R2, 77) := tSt_start k1 q1 hvs r0 f fq ka rb
  have ei : ∀ a, a < 69 → J2 a = J1 a := fun a ha => (fi a ha).trans (if_neg (by omega))
  have eq : ∀ a, a < 69 → R2 a = R1 a := fun a ha => (fq a ha).trans (if_neg (by omega))
  have ek : ∀ a, a < 69 → K2 a = K1 a := fun a ha => (f a (by omega)).trans (if_neg (by omega))
  have e69 : ∀ k, J2 69 k = 0 := fun k => by rw [h69]; exact congrFun (if_pos rfl) k
  have e70 : J2 70 = rS0 := h70
  refine ⟨hS, ?_, ⟨⟨fun x _ _ b hb => ?_, fun x _ _ b hb => ?_⟩, ⟨fun x _ _ b hb => ?_, fun x _ _ b hb => ?_⟩⟩, ⟨?_, ?_⟩, ⟨63, ?_, hvs.x ek (by decide) (eq 63 (by decide)), fun x _ _ => ?_⟩, ⟨?_, Or.inl ?_⟩, ⟨[], by decide, fun x hx => (by cases hx), ?_, e69 19, fun i hi => absurd hi (Nat.not_lt_zero i)⟩, ?_⟩
  · rw [e70]
    refine ⟨WN_start ?_ ?_, fun p p1 p2 => ?_, fun p p1 p2 => ?_, RAll_0⟩
    · rw [ei 1 (by decide)]; exact j1
    · rw [ei 2 (by decide)]; exact j2
    · have : rS0 0 = 0 := rfl
      omega
    · have : rS0 2 = 0 := rfl
      omega
  · have hb : R2 4 x = some b := hb
    rw [eq 4 (by decide), r4] at hb; cases hb
  · have hb : R2 3 x = some b := hb
    rw [eq 3 (by decide), r3] at hb; cases hb
  · have hb : R2 17 x = some b := hb
    rw [eq 17 (by decide), r17] at hb; cases hb
  · have hb : R2 16 x = some b := hb
    rw [eq 16 (by decide), r16] at hb; cases hb
  · rw [ei 57 (by decide)]; exact j57
  · rw [ei 59 (by decide)]; exact j59
  · rw [eq 0 (by decide)]; exact r0.2.2.2.2.2
  · rw [eq 3 (by decide), eq 16 (by decide), r3, r16]
    exact ⟨fun q => (by cases q), fun q => (by cases q)⟩
  · rw [ei 0 (by decide), e69]; exact j03
  · rw [ei 0 (by decide)]; exact j03
  · rw [ei 61 (by decide)]; exact j61
  · rw [e69]; decide
section ZB
variable {l : Launch} {G : tG} {p : Program} {e : Env} {s : State} {m : MethodId} {below : List Frame} {meth : Method} {c : Code} {b L : Nat} {xs : Nat → Int32}
theorem z_begin (Z : zX G p s m meth c b L xs) : zW l G p e s m below meth c b 0 0 [(0, vr (some (3000000 + b)))] [] (fun _ => (0, 0), fun _ _ => 0, fun _ _ => none, 0) := by
  have hL : L ≤ 320 := Z.2.2.2
  refine az_new (i := 7) (ci := 11) (N := 7) (nx := 3) Z (by decide +kernel) klZ_7 rfl (fun j hj => by rcases (show j = 0 ∨ j = 1 ∨ j = 2 ∨ j = 3 ∨ j = 4 ∨ j = 5 ∨ j = 6 by omega) with rfl | rfl | rfl | rfl | rfl | rfl | rfl <;> exact ⟨_, rfl, rfl⟩) ⟨by decide, by decide⟩ rfl ?_
  refine az_dup (nx := 4) Z (by decide +kernel) rfl rfl ?_
  refine az_callI (i := 9) (as := []) (st := [vr (some 0)]) (a := 0) (nx := 7) Z (by decide +kernel) liZ_9 (c_T_init (K := zK (fun _ => (0, 0)) 0 (11, 7)) (I := zI (fun _ _ => 0) 0) (Q := zQ (fun _ _ => none) 0) rfl) rfl (by decide) (by decide) ⟨by decide, by decide⟩ (Nat.le_of_ble_eq_true rfl) rfl (fun r h1 hp hn1 => ?_)
  obtain ⟨rfl, K1, J1, R1, rfl, k1, q1, hvs, r0, j03, j1, j2, j57, j59, j61, j62, r3, r4, r16, r17⟩ := hp
  refine az_astore (i := 1) (a := 0) (l2 := [(1, vr (some 0)), (0, vr (some (3000000 + b)))]) (st := []) (nx := 8) Z (by decide +kernel) rfl rfl ?_
  refine az_new (i := 10) (ci := 12) (N := 23) (nx := 11) Z (by decide +kernel) klZ_10 rfl (fun j hj => by rcases (show j = 0 ∨ j = 1 ∨ j = 2 ∨ j = 3 ∨ j = 4 ∨ j = 5 ∨ j = 6 ∨ j = 7 ∨ j = 8 ∨ j = 9 ∨ j = 10 ∨ j = 11 ∨ j = 12 ∨ j = 13 ∨ j = 14 ∨ j = 15 ∨ j = 16 ∨ j = 17 ∨ j = 18 ∨ j = 19 ∨ j = 20 ∨ j = 21 ∨ j = 22 by omega) with rfl | rfl | rfl | rfl | rfl | rfl | rfl | rfl | rfl | rfl | rfl | rfl | rfl | rfl | rfl | rfl | rfl | rfl | rfl | rfl | rfl | rfl | rfl <;> exact ⟨_, rfl, rfl⟩) ⟨by show 69 + 1 ≤ 600000; decide, by decide⟩ rfl ?_
  refine az_dup (nx := 12) Z (by decide +kernel) rfl rfl ?_
  refine az_callI (i := 12) (as := []) (st := [vr (some 69)]) (a := 69) (nx := 15) Z (by decide +kernel) liZ_12 (c_R_init (v := 69) (K := zK K1 69 (12, 23)) (I := zI J1 69) (Q := zQ R1 69) (if_pos rfl)) rfl (by decide) (by decide) ⟨by show 69 + 1 + 7 ≤ 600000; decide, by decide⟩ (Nat.le_of_ble_eq_true rfl) rfl (fun r h1 hp hn1 => ?_)
  obtain ⟨rfl, K2, J2, R2, rfl, ⟨ka1, ka2, ka3, ka4, ka5, ka6, ka7, rb⟩, h70, -, h69, f, fi, fq⟩ := hp
  refine az_astore (i := 2) (a := 69) (l2 := [(2, vr (some 69)), (1, vr (some 0)), (0, vr (some (3000000 + b)))]) (st := []) (nx := 16) Z (by decide +kernel) rfl rfl ?_
  refine az_iconst (n := 0) (nx := 17) Z (by decide +kernel) rfl ?_
  refine az_istore (i := 3) (z := 0) (l2 := zls b 0) (st := []) (nx := 18) Z (by decide +kernel) rfl rfl ?_
  exact z_loop Z 65 0 _ _ (CI_start k1 q1 hvs r0 j03 j1 j2 j57 j59 j61 r3 r4 r16 r17 ⟨ka1, ka2, ka3, ka4, ka5, ka6, ka7⟩ rb h70 h69 f fi fq) (by omega) (by omega) (by show 69 + 1 + 7 + 6 * 65 ≤ 600000; decide) (by decide)
end ZB
