/-! how many bits: Integer.bitCount over 24 bits -/
theorem ib_nat {x j : Nat} (hj : j < 32) : ib (x : Int) j = x.testBit j := by
  unfold ib bt
  rw [Int32.ofInt_eq_ofNat]
  show (BitVec.ofNat 32 x).getLsbD j = _
  rw [BitVec.getLsbD_ofNat]
  simp [hj]
theorem bAnd_nat {x y : Nat} (hx : x < 2147483648) (hy : y < 2147483648) : bAnd (x : Int) (y : Int) = ((x &&& y : Nat) : Int) := by
  have hl : x &&& y ≤ x := Nat.and_le_left
  refine ib_ext (tr_toInt _) (by omega) (fun i hi => ?_)
  rw [ib_and, ib_nat hi, ib_nat hi, ib_nat hi, Nat.testBit_and]
theorem bUsh_nat {x k : Nat} (hx : x < 2147483648) (hk : k < 32) : bUsh (x : Int) (k : Int) = ((x >>> k : Nat) : Int) := by
  have hl : x >>> k ≤ x := by rw [Nat.shiftRight_eq_div_pow]; exact Nat.div_le_self _ _
  have ek : Int32.ofInt (k : Int) = nI k := Int32.ofInt_eq_ofNat
  refine ib_ext (tr_toInt _) (by generalize x >>> k = y at hl; omega) (fun i hi => ?_)
  rw [ib_nat hi, Nat.testBit_shiftRight]
  unfold ib bUsh
  rw [Int32.ofInt_toInt, ek]
  rw [b_ushr k hk]
  by_cases g : k + i < 32
  · exact ib_nat g
  · rw [b_big (by omega)]
    symm
    exact Nat.testBit_lt_two_pow (Nat.lt_of_lt_of_le hx (by rw [show (2147483648 : Nat) = 2 ^ 31 by decide]; exact Nat.pow_le_pow_right (by decide) (by omega)))
def n1 (x : Nat) : Nat := x - (x / 2 &&& 1431655765)
def n2 (x : Nat) : Nat := (x &&& 858993459) + (x / 4 &&& 858993459)
def n3 (x : Nat) : Nat := (x + x / 16) &&& 252645135
def n4 (x : Nat) : Nat := x + x / 256
def n5 (x : Nat) : Nat := x + x / 65536
def p1 (a : Nat) : Nat := a - (a / 2 &&& 85)
def p2 (a : Nat) : Nat := (a &&& 51) + (a / 4 &&& 51)
def p3 (a : Nat) : Nat := (a + a / 16) &&& 15
def pc8 (a : Nat) : Nat := a % 2 + a / 2 % 2 + a / 4 % 2 + a / 8 % 2 + a / 16 % 2 + a / 32 % 2 + a / 64 % 2 + a / 128 % 2
theorem and_sp (x y : Nat) : x &&& y = (x % 256 &&& y % 256) + 256 * (x / 256 &&& y / 256) := by
  have h1 := Nat.and_mod_two_pow (a := x) (b := y) (n := 8)
  have h2 := Nat.and_div_two_pow (a := x) (b := y) (n := 8)
  simp only [Nat.reducePow] at h1 h2
  rw [← h1, ← h2]
  omega
theorem d1 : ∀ a, a < 256 → ∀ e, e < 2 → ((a / 2 + 128 * e) &&& 85) = (a / 2 &&& 85) ∧ (a / 2 &&& 85) ≤ a := by decide +kernel
theorem d1' : ∀ c, c < 128 → (c &&& 21845) = (c &&& 85) := by decide +kernel
theorem d2 : ∀ a, a < 256 → ∀ e, e < 4 → ((a / 4 + 64 * e) &&& 51) = (a / 4 &&& 51) := by decide +kernel
theorem d2' : ∀ c, c < 256 → (c &&& 13107) = (c &&& 51) := by decide +kernel
theorem d3 : ∀ a, a < 256 → p1 a < 256 ∧ p2 (p1 a) ≤ 68 ∧ p2 (p1 a) % 16 ≤ 4 ∧ p3 (p2 (p1 a)) = pc8 a ∧ pc8 a ≤ 8 := by decide +kernel
theorem d4 : ∀ a, a < 80 → ∀ e, e < 5 → ((a + 16 * e) &&& 15) = (a &&& 15) := by decide +kernel
theorem d4' : ∀ c, c < 256 → (c &&& 3855) = (c &&& 15) := by decide +kernel
theorem d5 : ∀ a, a < 9 → ∀ b, b < 9 → ∀ c, c < 9 → (n5 (n4 (a + 256 * b + 65536 * c)) &&& 63) = a + b + c := by decide +kernel
theorem st1 {a b c : Nat} (ha : a < 256) (hb : b < 256) (hc : c < 256) : n1 (a + 256 * b + 65536 * c) = p1 a + 256 * p1 b + 65536 * p1 c := by
  have e : ((a + 256 * b + 65536 * c) / 2 &&& 1431655765) = (a / 2 &&& 85) + 256 * ((b / 2 &&& 85) + 256 * (c / 2 &&& 85)) := by
    rw [and_sp _ 1431655765, and_sp (_ / 256) (1431655765 / 256)]
    rw [show (a + 256 * b + 65536 * c) / 2 % 256 = a / 2 + 128 * (b % 2) by omega, show (a + 256 * b + 65536 * c) / 2 / 256 % 256 = b / 2 + 128 * (c % 2) by omega, show (a + 256 * b + 65536 * c) / 2 / 256 / 256 = c / 2 by omega]
    simp only [Nat.reduceMod, Nat.reduceDiv]
    rw [(d1 a ha (b % 2) (by omega)).1, (d1 b hb (c % 2) (by omega)).1, d1' (c / 2) (by omega)]
  have q1 := (d1 a ha 0 (by omega)).2
  have q2 := (d1 b hb 0 (by omega)).2
  have q3 := (d1 c hc 0 (by omega)).2
  unfold n1 p1
  rw [e]
  omega
theorem st2 {a b c : Nat} (ha : a < 256) (hb : b < 256) (hc : c < 256) : n2 (a + 256 * b + 65536 * c) = p2 a + 256 * p2 b + 65536 * p2 c := by
  have e : ((a + 256 * b + 65536 * c) / 4 &&& 858993459) = (a / 4 &&& 51) + 256 * ((b / 4 &&& 51) + 256 * (c / 4 &&& 51)) := by
    rw [and_sp _ 858993459, and_sp (_ / 256) (858993459 / 256)]
    rw [show (a + 256 * b + 65536 * c) / 4 % 256 = a / 4 + 64 * (b % 4) by omega, show (a + 256 * b + 65536 * c) / 4 / 256 % 256 = b / 4 + 64 * (c % 4) by omega, show (a + 256 * b + 65536 * c) / 4 / 256 / 256 = c / 4 by omega]
    simp only [Nat.reduceMod, Nat.reduceDiv]
    rw [d2 a ha (b % 4) (by omega), d2 b hb (c % 4) (by omega), d2' (c / 4) (by omega)]
  have e2 : ((a + 256 * b + 65536 * c) &&& 858993459) = (a &&& 51) + 256 * ((b &&& 51) + 256 * (c &&& 51)) := by
    rw [and_sp _ 858993459, and_sp (_ / 256) (858993459 / 256)]
    rw [show (a + 256 * b + 65536 * c) % 256 = a by omega, show (a + 256 * b + 65536 * c) / 256 % 256 = b by omega, show (a + 256 * b + 65536 * c) / 256 / 256 = c by omega]
    simp only [Nat.reduceMod, Nat.reduceDiv]
    rw [d2' c hc]
  unfold n2 p2
  rw [e, e2]
  omega
theorem st3 {a b c : Nat} (ha : a ≤ 68) (hb : b ≤ 68) (hc : c ≤ 68) (hb2 : b % 16 ≤ 4) (hc2 : c % 16 ≤ 4) : n3 (a + 256 * b + 65536 * c) = p3 a + 256 * p3 b + 65536 * p3 c := by
  have e : a + 256 * b + 65536 * c + (a + 256 * b + 65536 * c) / 16 = ((a + a / 16) + 16 * (b % 16)) + 256 * (((b + b / 16) + 16 * (c % 16)) + 256 * (c + c / 16)) := by
    have hk : (a + 256 * b + 65536 * c) / 16 = a / 16 + 16 * b + 4096 * c := by omega
    rw [hk]
    omega
  have r1 := d4 (a + a / 16) (by omega) (b % 16) (by omega)
  have r2 := d4 (b + b / 16) (by omega) (c % 16) (by omega)
  have r3 := d4' (c + c / 16) (by omega)
  have g1 : (a + a / 16) + 16 * (b % 16) < 256 := by omega
  have g2 : (b + b / 16) + 16 * (c % 16) < 256 := by omega
  unfold n3 p3
  rw [e]
  generalize (a + a / 16) + 16 * (b % 16) = P at *
  generalize (b + b / 16) + 16 * (c % 16) = R at *
  generalize c + c / 16 = S at *
  rw [and_sp _ 252645135, and_sp (_ / 256) (252645135 / 256)]
  rw [show (P + 256 * (R + 256 * S)) % 256 = P by omega, show (P + 256 * (R + 256 * S)) / 256 % 256 = R by omega, show (P + 256 * (R + 256 * S)) / 256 / 256 = S by omega]
  simp only [Nat.reduceMod, Nat.reduceDiv]
  rw [r1, r2, r3]
  omega
theorem bcn_nat {a b c : Nat} (ha : a < 256) (hb : b < 256) (hc : c < 256) : bcn ((a + 256 * b + 65536 * c : Nat) : Int) = ((pc8 a + pc8 b + pc8 c : Nat) : Int) := by
  have A := d3 a ha
  have B := d3 b hb
  have D := d3 c hc
  have s1 := st1 ha hb hc
  have s2 := st2 A.1 B.1 D.1
  have s3 := st3 A.2.1 B.2.1 D.2.1 B.2.2.1 D.2.2.1
  have e1 : bc1 ((a + 256 * b + 65536 * c : Nat) : Int) = ((n1 (a + 256 * b + 65536 * c) : Nat) : Int) := by
    unfold bc1 n1
    rw [show bUsh ((a + 256 * b + 65536 * c : Nat) : Int) 1 = (((a + 256 * b + 65536 * c) >>> 1 : Nat) : Int) from bUsh_nat (k := 1) (by omega) (by decide), Nat.shiftRight_eq_div_pow, show bAnd (((a + 256 * b + 65536 * c) / 2 ^ 1 : Nat) : Int) 1431655765 = _ from bAnd_nat (y := 1431655765) (by omega) (by decide)]
    have hl : ((a + 256 * b + 65536 * c) / 2 ^ 1 &&& 1431655765) ≤ (a + 256 * b + 65536 * c) / 2 ^ 1 := Nat.and_le_left
    simp only [Nat.reducePow] at hl ⊢
    omega
  have b2 : n1 (a + 256 * b + 65536 * c) < 16777216 := by rw [s1]; omega
  have e2 : bc2 ((n1 (a + 256 * b + 65536 * c) : Nat) : Int) = ((n2 (n1 (a + 256 * b + 65536 * c)) : Nat) : Int) := by
    generalize n1 (a + 256 * b + 65536 * c) = x at b2
    unfold bc2 n2
    rw [show bUsh (x : Int) 2 = ((x >>> 2 : Nat) : Int) from bUsh_nat (k := 2) (by omega) (by decide), Nat.shiftRight_eq_div_pow, show bAnd ((x / 2 ^ 2 : Nat) : Int) 858993459 = _ from bAnd_nat (y := 858993459) (by omega) (by decide), show bAnd (x : Int) 858993459 = _ from bAnd_nat (y := 858993459) (by omega) (by decide)]
    rfl
  have b3 : n2 (n1 (a + 256 * b + 65536 * c)) < 16777216 := by rw [s1, s2]; omega
  have e3 : bc3 ((n2 (n1 (a + 256 * b + 65536 * c)) : Nat) : Int) = ((n3 (n2 (n1 (a + 256 * b + 65536 * c))) : Nat) : Int) := by
    generalize n2 (n1 (a + 256 * b + 65536 * c)) = x at b3
    unfold bc3 n3
    rw [show bUsh (x : Int) 4 = ((x >>> 4 : Nat) : Int) from bUsh_nat (k := 4) (by omega) (by decide), Nat.shiftRight_eq_div_pow, show (x : Int) + ((x / 2 ^ 4 : Nat) : Int) = ((x + x / 16 : Nat) : Int) by simp only [Nat.reducePow]; omega, show bAnd ((x + x / 16 : Nat) : Int) 252645135 = _ from bAnd_nat (y := 252645135) (by omega) (by decide)]
  have v3 : n3 (n2 (n1 (a + 256 * b + 65536 * c))) = pc8 a + 256 * pc8 b + 65536 * pc8 c := by rw [s1, s2, s3, A.2.2.2.1, B.2.2.2.1, D.2.2.2.1]
  have b4 : n3 (n2 (n1 (a + 256 * b + 65536 * c))) < 1048576 := by rw [v3]; omega
  have e4 : bc4 ((n3 (n2 (n1 (a + 256 * b + 65536 * c))) : Nat) : Int) = ((n4 (n3 (n2 (n1 (a + 256 * b + 65536 * c)))) : Nat) : Int) := by
    generalize n3 (n2 (n1 (a + 256 * b + 65536 * c))) = x at b4
    unfold bc4 n4
    rw [show bUsh (x : Int) 8 = ((x >>> 8 : Nat) : Int) from bUsh_nat (k := 8) (by omega) (by decide), Nat.shiftRight_eq_div_pow]
    simp only [Nat.reducePow]
    omega
  have b5 : n4 (n3 (n2 (n1 (a + 256 * b + 65536 * c)))) < 2097152 := by unfold n4; omega
  have e5 : bc5 ((n4 (n3 (n2 (n1 (a + 256 * b + 65536 * c)))) : Nat) : Int) = ((n5 (n4 (n3 (n2 (n1 (a + 256 * b + 65536 * c))))) : Nat) : Int) := by
    generalize n4 (n3 (n2 (n1 (a + 256 * b + 65536 * c)))) = x at b5
    unfold bc5 n5
    rw [show bUsh (x : Int) 16 = ((x >>> 16 : Nat) : Int) from bUsh_nat (k := 16) (by omega) (by decide), Nat.shiftRight_eq_div_pow]
    simp only [Nat.reducePow]
    omega
  have b6 : n5 (n4 (n3 (n2 (n1 (a + 256 * b + 65536 * c))))) < 4194304 := by unfold n5; omega
  unfold bcn
  rw [e1, e2, e3, e4, e5, show bAnd ((n5 (n4 (n3 (n2 (n1 (a + 256 * b + 65536 * c))))) : Nat) : Int) 63 = _ from bAnd_nat (y := 63) (by omega) (by decide), v3, d5 _ (by omega) _ (by omega) _ (by omega)]
theorem bit_nat {x i : Nat} (hi : i < 32) : bAnd (bShr (x : Int) (i : Int)) 1 = ((x / 2 ^ i % 2 : Nat) : Int) := by
  rw [ib_bit _ hi, ib_nat hi, Nat.testBit_eq_decide_div_mod_eq]
  have h2 : x / 2 ^ i % 2 < 2 := Nat.mod_lt _ (by decide)
  generalize x / 2 ^ i % 2 = y at h2 ⊢
  rcases (show y = 0 ∨ y = 1 by omega) with rfl | rfl <;> rfl
theorem smV_cg {g g' : Nat → Int} {m : Nat} (h : ∀ i, i < m → g i = g' i) : ∀ (k j : Nat) (a : Int), j + k ≤ m → smV g k j a = smV g' k j a
  | 0, _, _, _ => rfl
  | k + 1, j, a, hk => by rw [smV, smV, h j (by omega)]; exact smV_cg h k (j + 1) _ (by omega)
theorem pc8_a (m : Nat) : pc8 (m % 256) = m % 2 + m / 2 % 2 + m / 4 % 2 + m / 8 % 2 + m / 16 % 2 + m / 32 % 2 + m / 64 % 2 + m / 128 % 2 := by
  unfold pc8
  rw [show m % 256 % 2 = m % 2 by omega, show m % 256 / 2 % 2 = m / 2 % 2 by omega, show m % 256 / 4 % 2 = m / 4 % 2 by omega, show m % 256 / 8 % 2 = m / 8 % 2 by omega, show m % 256 / 16 % 2 = m / 16 % 2 by omega, show m % 256 / 32 % 2 = m / 32 % 2 by omega, show m % 256 / 64 % 2 = m / 64 % 2 by omega, show m % 256 / 128 % 2 = m / 128 % 2 by omega]
theorem pc8_b (m : Nat) : pc8 (m / 256) = m / 256 % 2 + m / 512 % 2 + m / 1024 % 2 + m / 2048 % 2 + m / 4096 % 2 + m / 8192 % 2 + m / 16384 % 2 + m / 32768 % 2 := by
  unfold pc8
  simp only [Nat.div_div_eq_div_mul, Nat.reduceMul]
theorem pc8_c (m : Nat) : pc8 (m / 65536) = m / 65536 % 2 + m / 131072 % 2 + m / 262144 % 2 + m / 524288 % 2 + m / 1048576 % 2 + m / 2097152 % 2 + m / 4194304 % 2 + m / 8388608 % 2 := by
  unfold pc8
  simp only [Nat.div_div_eq_div_mul, Nat.reduceMul]
theorem bcn_24 {x : Int} (h : 0 ≤ x ∧ x ≤ 16777215) : bcn x = smV (fun h => bAnd (bShr x h) 1) 24 0 0 := by
  obtain ⟨m, rfl⟩ : ∃ m : Nat, x = (m : Int) := ⟨x.toNat, by omega⟩
  have e : m = m % 256 + 256 * (m / 256 % 256) + 65536 * (m / 65536) := by omega
  have q := bcn_nat (a := m % 256) (b := m / 256 % 256) (c := m / 65536) (by omega) (by omega) (by omega)
  rw [← e] at q
  rw [q, smV_cg (g' := fun i => ((m / 2 ^ i % 2 : Nat) : Int)) (m := 24) (fun i hi => bit_nat (by omega)) 24 0 0 (by omega), pc8_a m, pc8_a (m / 256), pc8_c m]
  simp only [Nat.div_div_eq_div_mul, Nat.reduceMul, smV, Nat.zero_add, Nat.reduceAdd, Nat.reducePow, Nat.div_one, Int.natCast_add, Int.add_assoc, Int.zero_add]
