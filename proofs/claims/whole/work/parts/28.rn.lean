section LC
variable {l : Launch} {G : tG} {M : tM} {d mc ms n0 c2 : Nat} {P : Option tV → tH → Prop} {ls : List (Nat × tV)} {st : List tV} {h : tH} {k pc nx tg : Nat}
def lcm3 (x y : Int) : Int := if x < y then -1 else if x = y then 0 else 1
theorem ar_lcmp {x y : Int} (hd : M.2.2.2.2[k]? = some (pc, .lcmp, nx, tg)) (hx : tr6 x) (hy : tr6 y) (kk : tw_AW l G M d mc ms n0 c2 P nx ls (vi (lcm3 x y) :: st) h) : tw_AW l G M d mc ms n0 c2 P pc ls (vl y :: vl x :: st) h := by
  intro p e s m args below meth c H locs ls' X hl hP hS h0 hn
  obtain ⟨dd, e1⟩ := tw_dec X hd rfl
  subst e1
  have K := kk p e s m args below meth c H locs ls' X hl hP hS h0 hn
  refine W.lcmp X.1 X.2.1 dd ?_
  have e : lg_cmp (Int64.ofInt x) (Int64.ofInt y) = Int32.ofInt (lcm3 x y) := by
    unfold lg_cmp lcm3
    simp only [Int64.lt_iff_toInt_lt, ← Int64.toInt_inj, tr6_id hx, tr6_id hy]
    (repeat' split) <;> first | rfl | (exfalso; omega)
  rw [e]
  exact K
end LC
/-- the greatest common divisor, as the loop goes -/
def rGcd : Nat → Int → Int → Int
  | 0, x, _ => x
  | k + 1, x, y => if y = 0 then x else rGcd k y (x.tmod y)
section RN
variable {l : Launch} {G : tG} {h : tH}
theorem l_R_divisor {a b : Int} : ∀ (k : Nat) (x y : Int), (0 ≤ x ∧ x ≤ 1000000000) → (0 ≤ y ∧ y ≤ 1000000000) → y < (k : Int) → tw_AW l G mR_divisor 1 0 0 h.2.2.2 0 (tw_fn (some (vl (rGcd k x y))) h) 6 [(6, vl y), (4, vl x), (0, vl a), (2, vl b)] [] h := by
  intro k
  induction k with
  | zero =>
    intro x y hx hy hk
    exfalso; omega
  | succ k ih =>
    intro x y hx hy hk
    refine ar_lload (k := 4) rfl rfl ?_
    refine ar_lconst (k := 5) (z := 0) rfl rfl ?_
    refine ar_lcmp (k := 6) rfl (by omega) (by omega) ?_
    have hl3 : lcm3 y 0 = 0 ↔ y = 0 := by unfold lcm3; (repeat' split) <;> omega
    have hl4 : -1 ≤ lcm3 y 0 ∧ lcm3 y 0 ≤ 1 := by unfold lcm3; (repeat' split) <;> omega
    refine ar_if_eq (k := 7) rfl (by omega) (fun c7 => ?_) (fun c7 => ?_)
    · refine ar_lload (k := 17) rfl rfl ?_
      refine ar_lret (k := 18) rfl rfl rfl (Nat.le_refl _) ?_
      refine ⟨congrArg (fun z => some (vl z)) ?_, rfl⟩
      rw [rGcd, if_pos (by omega)]
    · refine ar_lload (k := 8) rfl rfl ?_
      refine ar_lload (k := 9) rfl rfl ?_
      refine ar_lrem (k := 10) rfl (by omega) (by omega) (by omega) ?_
      refine ar_lstore (k := 11) (l2 := [(8, _), (6, _), (4, _), (0, _), (2, _)]) rfl (by decide) rfl ?_
      refine ar_lload (k := 12) rfl rfl ?_
      refine ar_lstore (k := 13) (l2 := [(4, _), (8, _), (6, _), (0, _), (2, _)]) rfl (by decide) rfl ?_
      refine ar_lload (k := 14) rfl rfl ?_
      refine ar_lstore (k := 15) (l2 := [(6, _), (4, _), (8, _), (0, _), (2, _)]) rfl (by decide) rfl ?_
      refine ar_goto (k := 16) rfl ?_
      refine ar_sub (l2 := [(6, vl (x.tmod y)), (4, vl y), (0, vl a), (2, vl b)]) (tw_s (tw_g 0 rfl) (tw_s (tw_g 1 rfl) (tw_s (tw_g 3 rfl) (tw_s (tw_g 4 rfl) tw_s0)))) ?_
      have hq : x.tmod y = x % y := Int.tmod_eq_emod_of_nonneg (by omega)
      have h1 := Int.emod_nonneg x (show y ≠ 0 by omega)
      have h2 := Int.emod_lt_of_pos x (show 0 < y by omega)
      rw [show rGcd (k + 1) x y = rGcd k y (x.tmod y) by rw [rGcd, if_neg (by omega)]]
      exact ih y (x.tmod y) hy (by omega) (by omega)
theorem c_R_divisor {a b : Int} (ha : 0 ≤ a ∧ a ≤ 1000000000) (hb : 0 ≤ b ∧ b ≤ 1000000000) : tw_F l G 1 0 0 mR_divisor [vl a, vl b] h (some (vl (rGcd 1000000001 a b))) h := by
  refine tw_intro okR_divisor (Nat.le_of_ble_eq_true rfl) ?_
  refine ar_lloadn (k := 0) rfl rfl ?_
  refine ar_lstore (k := 1) (l2 := [(4, _), (0, _), (2, _)]) rfl (by decide) rfl ?_
  refine ar_lloadn (k := 2) rfl rfl ?_
  refine ar_lstore (k := 3) (l2 := [(6, _), (4, _), (0, _), (2, _)]) rfl (by decide) rfl ?_
  refine ar_sub (l2 := [(6, vl b), (4, vl a), (0, vl a), (2, vl b)]) (tw_s (tw_g 0 rfl) (tw_s (tw_g 1 rfl) (tw_s (tw_g 2 rfl) (tw_s (tw_g 3 rfl) tw_s0)))) ?_
  exact l_R_divisor 1000000001 a b ha hb (by omega)
theorem rGcd_ne : ∀ (k : Nat) (x y : Int), (0 ≤ x ∧ x ≤ 1000000000) → (0 ≤ y ∧ y ≤ 1000000000) → y < (k : Int) → (x ≠ 0 ∨ y ≠ 0) → 1 ≤ rGcd k x y ∧ rGcd k x y ≤ 1000000000
  | 0, x, y, _, hy, hk, _ => by exfalso; omega
  | k + 1, x, y, hx, hy, hk, h => by
    rw [rGcd]
    split
    · omega
    · have hq : x.tmod y = x % y := Int.tmod_eq_emod_of_nonneg (by omega)
      have h1 := Int.emod_nonneg x (show y ≠ 0 by omega)
      have h2 := Int.emod_lt_of_pos x (show 0 < y by omega)
      exact rGcd_ne k y (x.tmod y) hy (by omega) (by omega) (Or.inl (by omega))
/-- a power, as the loop goes -/
def rPow (b : Int) : Nat → Int → Int
  | 0, a => a
  | k + 1, a => rPow b k (a * b)
def rOnce (p q m w : Int) : Int := if ¬ ((0 ≤ p ∧ p ≤ 10) ∧ (0 ≤ q ∧ q ≤ 10) ∧ (1 ≤ m ∧ m ≤ 4) ∧ (0 ≤ w ∧ w ≤ 1)) then -9223372036854775808 else
  (if w = 0 then rPow 100 m.toNat 1 - rPow (100 - p * q) m.toNat 1 else rPow 100 m.toNat 1).tdiv (rGcd 1000000001 (rPow 100 m.toNat 1 - rPow (100 - p * q) m.toNat 1) (rPow 100 m.toNat 1))
theorem cnR_225 : Cond.constantLong mR_once.1.cls 225 (-9223372036854775808) ∈ tw_tbl := tw_in 1504 (by decide +kernel) rfl
theorem cnR_227 : Cond.constantLong mR_once.1.cls 227 100 ∈ tw_tbl := tw_in 1505 (by decide +kernel) rfl
theorem mul_bd {p q : Int} (hp : 0 ≤ p ∧ p ≤ 10) (hq : 0 ≤ q ∧ q ≤ 10) : 0 ≤ p * q ∧ p * q ≤ 100 := by
  rcases (show p = 0 ∨ p = 1 ∨ p = 2 ∨ p = 3 ∨ p = 4 ∨ p = 5 ∨ p = 6 ∨ p = 7 ∨ p = 8 ∨ p = 9 ∨ p = 10 by omega) with rfl | rfl | rfl | rfl | rfl | rfl | rfl | rfl | rfl | rfl | rfl <;> omega
theorem rPow_mono {b : Int} (hb : 0 ≤ b ∧ b ≤ 100) : ∀ (k : Nat) (a c : Int), 0 ≤ a → a ≤ c → 0 ≤ rPow b k a ∧ rPow b k a ≤ rPow 100 k c
  | 0, a, c, h0, h => ⟨h0, h⟩
  | k + 1, a, c, h0, h => by
    rw [rPow, rPow]
    have h1 : 0 ≤ a * b := Int.mul_nonneg h0 hb.1
    have h2 : a * b ≤ c * 100 := Int.mul_le_mul h hb.2 hb.1 (by omega)
    exact rPow_mono hb k _ _ h1 h2
theorem rPow_100 : ∀ k : Nat, k ≤ 4 → 1 ≤ rPow 100 k 1 ∧ rPow 100 k 1 ≤ 100000000 := by decide
theorem l_R_once {p q m w : Int} (hp : 0 ≤ p ∧ p ≤ 10) (hq : 0 ≤ q ∧ q ≤ 10) (hm : 1 ≤ m ∧ m ≤ 4) (hw : 0 ≤ w ∧ w ≤ 1) : ∀ (k j : Nat) (a b : Int), j + k = m.toNat → rPow 100 k a = rPow 100 m.toNat 1 → rPow (100 - p * q) k b = rPow (100 - p * q) m.toNat 1 → tw_AW l G mR_once 2 0 0 h.2.2.2 0 (tw_fn (some (vl (rOnce p q m w))) h) 52 [(9, vi (j : Int)), (7, vl b), (5, vl a), (0, vr (some 69)), (1, vi p), (2, vi q), (3, vi m), (4, vi w)] [] h := by
  have hpq := mul_bd hp hq
  intro k
  induction k with
  | zero =>
    intro j a b hj ha hb
    refine ar_iload (k := 28) rfl rfl ?_
    refine ar_iloadn (k := 29) rfl rfl ?_
    refine ar_icmp_ge (k := 30) rfl (by omega) (by omega) (fun c30 => ?_) (fun c30 => ?_)
    · rw [rPow] at ha hb
      subst ha
      subst hb
      have g1 := rPow_100 m.toNat (by omega)
      have g2 := rPow_mono (b := 100 - p * q) (by omega) m.toNat 1 1 (by omega) (by omega)
      have g3 := rGcd_ne 1000000001 (rPow 100 m.toNat 1 - rPow (100 - p * q) m.toNat 1) (rPow 100 m.toNat 1) (by omega) (by omega) (by omega) (by omega)
      refine ar_lload (k := 46) rfl rfl ?_
      refine ar_lload (k := 47) rfl rfl ?_
      refine ar_lsub (k := 48) rfl ?_
      refine ar_lstore (k := 49) (l2 := [(9, _), (7, _), (5, _), (0, _), (1, _), (2, _), (3, _), (4, _)]) rfl (by decide) rfl ?_
      refine ar_iload (k := 50) rfl rfl ?_
      refine ar_if_ne (k := 51) rfl (by omega) (fun c51 => ?_) (fun c51 => ?_)
      · refine ar_lload (k := 54) rfl rfl ?_
        refine ar_lload (k := 55) rfl rfl ?_
        refine ar_lload (k := 56) rfl rfl ?_
        refine br_callS (k := 57) (as := [_, _]) rfl lsR_229 (c_R_divisor (by omega) (by omega)) rfl (by decide) (by decide) tw_m0 (Nat.le_of_ble_eq_true rfl) ?_
        refine ar_ldiv (k := 58) rfl (by omega) (by omega) (by omega) ?_
        refine ar_lret (k := 59) rfl rfl rfl (Nat.le_refl _) ?_
        refine ⟨congrArg (fun z => some (vl z)) ?_, rfl⟩
        rw [rOnce, if_neg (by omega)]
        (repeat' split) <;> first | rfl | (exfalso; omega)
      · refine ar_lload (k := 52) rfl rfl ?_
        refine ar_goto (k := 53) rfl ?_
        refine ar_lload (k := 55) rfl rfl ?_
        refine ar_lload (k := 56) rfl rfl ?_
        refine br_callS (k := 57) (as := [_, _]) rfl lsR_229 (c_R_divisor (by omega) (by omega)) rfl (by decide) (by decide) tw_m0 (Nat.le_of_ble_eq_true rfl) ?_
        refine ar_ldiv (k := 58) rfl (by omega) (by omega) (by omega) ?_
        refine ar_lret (k := 59) rfl rfl rfl (Nat.le_refl _) ?_
        refine ⟨congrArg (fun z => some (vl z)) ?_, rfl⟩
        rw [rOnce, if_neg (by omega)]
        (repeat' split) <;> first | rfl | (exfalso; omega)
    · exfalso; omega
  | succ k ih =>
    intro j a b hj ha hb
    refine ar_iload (k := 28) rfl rfl ?_
    refine ar_iloadn (k := 29) rfl rfl ?_
    refine ar_icmp_ge (k := 30) rfl (by omega) (by omega) (fun c30 => ?_) (fun c30 => ?_)
    · exfalso; omega
    · refine ar_lload (k := 31) rfl rfl ?_
      refine ar_ldc2 (k := 32) (z := 100) rfl cnR_227 rfl ?_
      refine ar_lmul (k := 33) rfl ?_
      refine ar_lstore (k := 34) (l2 := [(5, _), (9, _), (7, _), (0, _), (1, _), (2, _), (3, _), (4, _)]) rfl (by decide) rfl ?_
      refine ar_lload (k := 35) rfl rfl ?_
      refine ar_bipush (k := 36) rfl (by decide) ?_
      refine ar_iloadn (k := 37) rfl rfl ?_
      refine ar_iloadn (k := 38) rfl rfl ?_
      refine ar_imul (k := 39) rfl ?_
      refine ar_isub (k := 40) rfl ?_
      refine ar_i2l (k := 41) rfl (by omega) ?_
      refine ar_lmul (k := 42) rfl ?_
      refine ar_lstore (k := 43) (l2 := [(7, _), (5, _), (9, _), (0, _), (1, _), (2, _), (3, _), (4, _)]) rfl (by decide) rfl ?_
      refine ar_iinc (k := 44) (l2 := [(9, _), (7, _), (5, _), (0, _), (1, _), (2, _), (3, _), (4, _)]) rfl (by decide) rfl rfl ?_
      refine ar_goto (k := 45) rfl ?_
      refine ar_sub (l2 := [(9, vi ((j + 1 : Nat) : Int)), (7, vl (b * (100 - p * q))), (5, vl (a * 100)), (0, vr (some 69)), (1, vi p), (2, vi q), (3, vi m), (4, vi w)]) (tw_s (tw_e 0 rfl (by omega)) (tw_s (tw_g 1 rfl) (tw_s (tw_g 2 rfl) (tw_s (tw_g 3 rfl) (tw_s (tw_g 4 rfl) (tw_s (tw_g 5 rfl) (tw_s (tw_g 6 rfl) (tw_s (tw_g 7 rfl) tw_s0)))))))) ?_
      exact ih (j + 1) _ _ (by omega) ha hb
theorem c_R_once {p q m w : Int} (tp : tr p) (tq : tr q) (tm : tr m) (tw : tr w) : tw_F l G 2 0 0 mR_once [vr (some 69), vi p, vi q, vi m, vi w] h (some (vl (rOnce p q m w))) h := by
  refine tw_intro okR_once (Nat.le_of_ble_eq_true rfl) ?_
  refine ar_iloadn (k := 0) rfl rfl ?_
  refine ar_iconst (k := 1) rfl ?_
  refine ar_bipush (k := 2) rfl (by decide) ?_
  refine br_callS (k := 3) (as := [_, _, _]) rfl lsR_38 (c_R_in (by omega) (by omega) (by omega)) rfl (by decide) (by decide) tw_m0 (Nat.le_of_ble_eq_true rfl) ?_
  refine ar_if_eq (k := 4) rfl (by omega) (fun c4 => ?_) (fun c4 => ?_)
  · refine ar_ldc2 (k := 20) (z := -9223372036854775808) rfl cnR_225 rfl ?_
    refine ar_lret (k := 21) rfl rfl rfl (Nat.le_refl _) ?_
    refine ⟨congrArg (fun z => some (vl z)) ?_, rfl⟩
    rw [rOnce, if_pos (by omega)]
  · refine ar_iloadn (k := 5) rfl rfl ?_
    refine ar_iconst (k := 6) rfl ?_
    refine ar_bipush (k := 7) rfl (by decide) ?_
    refine br_callS (k := 8) (as := [_, _, _]) rfl lsR_38 (c_R_in (by omega) (by omega) (by omega)) rfl (by decide) (by decide) tw_m0 (Nat.le_of_ble_eq_true rfl) ?_
    refine ar_if_eq (k := 9) rfl (by omega) (fun c9 => ?_) (fun c9 => ?_)
    · refine ar_ldc2 (k := 20) (z := -9223372036854775808) rfl cnR_225 rfl ?_
      refine ar_lret (k := 21) rfl rfl rfl (Nat.le_refl _) ?_
      refine ⟨congrArg (fun z => some (vl z)) ?_, rfl⟩
      rw [rOnce, if_pos (by omega)]
    · refine ar_iloadn (k := 10) rfl rfl ?_
      refine ar_iconst (k := 11) rfl ?_
      refine ar_iconst (k := 12) rfl ?_
      refine br_callS (k := 13) (as := [_, _, _]) rfl lsR_38 (c_R_in (by omega) (by omega) (by omega)) rfl (by decide) (by decide) tw_m0 (Nat.le_of_ble_eq_true rfl) ?_
      refine ar_if_eq (k := 14) rfl (by omega) (fun c14 => ?_) (fun c14 => ?_)
      · refine ar_ldc2 (k := 20) (z := -9223372036854775808) rfl cnR_225 rfl ?_
        refine ar_lret (k := 21) rfl rfl rfl (Nat.le_refl _) ?_
        refine ⟨congrArg (fun z => some (vl z)) ?_, rfl⟩
        rw [rOnce, if_pos (by omega)]
      · refine ar_iload (k := 15) rfl rfl ?_
        refine ar_iconst (k := 16) rfl ?_
        refine ar_iconst (k := 17) rfl ?_
        refine br_callS (k := 18) (as := [_, _, _]) rfl lsR_38 (c_R_in (by omega) (by omega) (by omega)) rfl (by decide) (by decide) tw_m0 (Nat.le_of_ble_eq_true rfl) ?_
        refine ar_if_ne (k := 19) rfl (by omega) (fun c19 => ?_) (fun c19 => ?_)
        · refine ar_lconst (k := 22) (z := 1) rfl rfl ?_
          refine ar_lstore (k := 23) (l2 := [(5, _), (0, _), (1, _), (2, _), (3, _), (4, _)]) rfl (by decide) rfl ?_
          refine ar_lconst (k := 24) (z := 1) rfl rfl ?_
          refine ar_lstore (k := 25) (l2 := [(7, _), (5, _), (0, _), (1, _), (2, _), (3, _), (4, _)]) rfl (by decide) rfl ?_
          refine ar_iconst (k := 26) rfl ?_
          refine ar_istore (k := 27) (l2 := [(9, _), (7, _), (5, _), (0, _), (1, _), (2, _), (3, _), (4, _)]) rfl (by decide) rfl ?_
          refine ar_sub (l2 := [(9, vi ((0 : Nat) : Int)), (7, vl 1), (5, vl 1), (0, vr (some 69)), (1, vi p), (2, vi q), (3, vi m), (4, vi w)]) (tw_s (tw_e 0 rfl (by rfl)) (tw_s (tw_g 1 rfl) (tw_s (tw_g 2 rfl) (tw_s (tw_g 3 rfl) (tw_s (tw_g 4 rfl) (tw_s (tw_g 5 rfl) (tw_s (tw_g 6 rfl) (tw_s (tw_g 7 rfl) tw_s0)))))))) ?_
          exact l_R_once (by omega) (by omega) (by omega) (by omega) _ 0 1 1 (by omega) rfl rfl
        · refine ar_ldc2 (k := 20) (z := -9223372036854775808) rfl cnR_225 rfl ?_
          refine ar_lret (k := 21) rfl rfl rfl (Nat.le_refl _) ?_
          refine ⟨congrArg (fun z => some (vl z)) ?_, rfl⟩
          rw [rOnce, if_pos (by omega)]
end RN
