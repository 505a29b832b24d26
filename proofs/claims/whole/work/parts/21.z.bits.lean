/-! the first family of kit/laws/BITS.to-paste, then rows of our own over it -/
def bt (x : Int32) (i : Nat) : Bool := x.toBitVec.getLsbD i
theorem b_ext {x y : Int32} (h : ∀ i, i < 32 → bt x i = bt y i) : x = y := Int32.toBitVec_inj.mp (BitVec.eq_of_getLsbD_eq (fun i hi => h i hi))
theorem b_or (x y : Int32) (i : Nat) : bt (x ||| y) i = (bt x i || bt y i) := by unfold bt; rw [Int32.toBitVec_or, BitVec.getLsbD_or]
theorem b_and (x y : Int32) (i : Nat) : bt (x &&& y) i = (bt x i && bt y i) := by unfold bt; rw [Int32.toBitVec_and, BitVec.getLsbD_and]
theorem b_xor (x y : Int32) (i : Nat) : bt (x ^^^ y) i = (bt x i ^^ bt y i) := by unfold bt; rw [Int32.toBitVec_xor, BitVec.getLsbD_xor]
theorem b_big {x : Int32} {i : Nat} (h : 32 ≤ i) : bt x i = false := BitVec.getLsbD_of_ge _ _ h
theorem b_255 (i : Nat) : bt 255 i = decide (i < 8) := by
  rcases Nat.lt_or_ge i 32 with h | h
  · exact (by decide +kernel : ∀ i, i < 32 → bt 255 i = decide (i < 8)) i h
  · rw [b_big h, decide_eq_false (by omega)]
theorem b_65535 (i : Nat) : bt 65535 i = decide (i < 16) := by
  rcases Nat.lt_or_ge i 32 with h | h
  · exact (by decide +kernel : ∀ i, i < 32 → bt 65535 i = decide (i < 16)) i h
  · rw [b_big h, decide_eq_false (by omega)]
theorem b_m1 : ∀ i, i < 32 → bt (-1) i = true := by decide +kernel
theorem b_0 (i : Nat) : bt 0 i = false := BitVec.getLsbD_zero
theorem s_l : ∀ n, n < 32 → ((nI n &&& 31).toBitVec.smod 32).toNat = n := by decide +kernel
theorem s_u : ∀ n, n < 32 → (((nI n).toUInt32 &&& Int32.toUInt32 31).toBitVec % 32).toNat = n := by decide +kernel
theorem b_shl (n : Nat) (hn : n < 32) (x : Int32) {i : Nat} (hi : i < 32) : bt (x <<< (nI n &&& 31)) i = (decide (n ≤ i) && bt x (i - n)) := by
  unfold bt
  rw [Int32.toBitVec_shiftLeft]
  show (x.toBitVec <<< ((nI n &&& 31).toBitVec.smod 32).toNat).getLsbD i = _
  rw [s_l n hn, BitVec.getLsbD_shiftLeft]
  rcases Nat.lt_or_ge i n with h | h
  · simp [h, Nat.not_le.mpr h]
  · simp [hi, h, Nat.not_lt.mpr h]
theorem b_ushr (n : Nat) (hn : n < 32) (x : Int32) (i : Nat) : bt ((x.toUInt32 >>> ((nI n).toUInt32 &&& Int32.toUInt32 31)).toInt32) i = bt x (n + i) := by
  show (x.toUInt32 >>> ((nI n).toUInt32 &&& Int32.toUInt32 31)).toBitVec.getLsbD i = x.toUInt32.toBitVec.getLsbD (n + i)
  rw [UInt32.toBitVec_shiftRight]
  show (x.toUInt32.toBitVec >>> (((nI n).toUInt32 &&& Int32.toUInt32 31).toBitVec % 32).toNat).getLsbD i = _
  rw [s_u n hn, BitVec.getLsbD_ushiftRight]
theorem b_sshr (n : Nat) (hn : n < 32) (x : Int32) {i : Nat} (hi : i < 32) : bt (x >>> (nI n &&& 31)) i = if n + i < 32 then bt x (n + i) else bt x 31 := by
  unfold bt
  rw [Int32.toBitVec_shiftRight]
  show (x.toBitVec.sshiftRight ((nI n &&& 31).toBitVec.smod 32).toNat).getLsbD i = _
  rw [s_l n hn, BitVec.getLsbD_sshiftRight, BitVec.msb_eq_getLsbD_last]
  simp [hi]
/-- a number's bit -/
def ib (x : Int) (j : Nat) : Bool := bt (Int32.ofInt x) j
theorem ib_or (a b : Int) (j : Nat) : ib (bOr a b) j = (ib a j || ib b j) := by
  unfold ib bOr
  rw [Int32.ofInt_toInt, b_or]
theorem ib_and (a b : Int) (j : Nat) : ib (bAnd a b) j = (ib a j && ib b j) := by
  unfold ib bAnd
  rw [Int32.ofInt_toInt, b_and]
theorem ib_xor (a b : Int) (j : Nat) : ib (bXor a b) j = (ib a j ^^ ib b j) := by
  unfold ib bXor
  rw [Int32.ofInt_toInt, b_xor]
theorem ib_0 (j : Nat) : ib 0 j = false := b_0 j
theorem ib_1 : ∀ j, j < 32 → ib 1 j = decide (j = 0) := by decide +kernel
theorem ib_shl1 : ∀ i : Nat, i < 32 → ∀ j : Nat, j < 32 → ib (bShl 1 (i : Int)) j = decide (i = j) := by
  intro i hi j hj
  unfold ib bShl
  rw [Int32.ofInt_toInt, Int32.ofInt_eq_ofNat]
  show bt (Int32.ofInt 1 <<< (nI i &&& 31)) j = _
  rw [b_shl i hi _ hj]
  by_cases h : i ≤ j
  · have e : bt (Int32.ofInt 1) (j - i) = decide (j - i = 0) := ib_1 (j - i) (by omega)
    rw [e, decide_eq_true h, Bool.true_and]
    by_cases g : i = j
    · subst g; simp
    · rw [decide_eq_false g, decide_eq_false (by omega)]
  · rw [decide_eq_false h, Bool.false_and, decide_eq_false (by omega)]
theorem ib_shr (x : Int) {i j : Nat} (h : i + j < 32) : ib (bShr x (i : Int)) j = ib x (i + j) := by
  unfold ib bShr
  rw [Int32.ofInt_toInt, Int32.ofInt_eq_ofNat]
  show bt (Int32.ofInt x >>> (nI i &&& 31)) j = _
  rw [b_sshr i (by omega) _ (by omega), if_pos h]
theorem ib_ext {x y : Int} (hx : tr x) (hy : tr y) (h : ∀ i, i < 32 → ib x i = ib y i) : x = y := (tr_eq hx hy).mp (b_ext h)
theorem ib_if (c : Prop) (hc : c ∨ ¬ c) : True := trivial
theorem ib_bit (x : Int) {j : Nat} (hj : j < 32) : bAnd (bShr x (j : Int)) 1 = if ib x j = true then 1 else 0 := by
  have hb := bAnd1 (bShr x (j : Int))
  have h0 : ib (bAnd (bShr x (j : Int)) 1) 0 = ib x j := by
    rw [ib_and, ib_1 0 (by omega), ib_shr _ (by omega)]
    simp
  rcases (show bAnd (bShr x (j : Int)) 1 = 0 ∨ bAnd (bShr x (j : Int)) 1 = 1 by omega) with e | e
  · rw [e] at h0 ⊢
    rw [← h0, ib_0]
    rfl
  · rw [e] at h0 ⊢
    rw [← h0, ib_1 0 (by omega)]
    rfl
theorem ib_bit1 (x : Int) {j : Nat} (hj : j < 32) : bAnd (bShr x (j : Int)) 1 = 1 ↔ ib x j = true := by
  rw [ib_bit x hj]
  by_cases h : ib x j = true
  · simp [h]
  · simp [h]
theorem bOr_0 {x : Int} (hx : tr x) : bOr x 0 = x := ib_ext (tr_bOr _ _) hx (fun i _ => by rw [ib_or, ib_0, Bool.or_false])
/-- the bits of a row of bits -/
theorem orV_ib {g : Nat → Int} (hg : ∀ j, g j = 0 ∨ g j = bShl 1 (j : Int)) : ∀ (k j : Nat) (a : Int) (i : Nat), j + k ≤ 32 → i < 32 → ib (orV g k j a) i = (ib a i || (decide (j ≤ i ∧ i < j + k) && !decide (g i = 0)))
  | 0, j, a, i, _, _ => by
    rw [orV, decide_eq_false (by omega), Bool.false_and, Bool.or_false]
  | k + 1, j, a, i, h, hi => by
    rw [orV, orV_ib hg k (j + 1) _ i (by omega) hi, ib_or]
    have e : ib (g j) i = (decide (j = i) && !decide (g i = 0)) := by
      by_cases hij : j = i
      · subst hij
        rcases hg j with e | e
        · rw [e, ib_0]; simp
        · by_cases h0 : g j = 0
          · rw [h0, ib_0]; simp
          · rw [decide_eq_false h0, e, ib_shl1 j (by omega) j (by omega)]; simp
      · rw [decide_eq_false hij, Bool.false_and]
        rcases hg j with e | e
        · rw [e, ib_0]
        · rw [e, ib_shl1 j (by omega) i hi, decide_eq_false hij]
    rw [e]
    by_cases h1 : j = i
    · subst h1
      rw [decide_eq_true rfl, decide_eq_false (by omega : ¬ (j + 1 ≤ j ∧ j < j + 1 + k)), decide_eq_true (by omega : j ≤ j ∧ j < j + (k + 1))]
      simp
    · rw [decide_eq_false h1, Bool.false_and, Bool.or_false]
      congr 2
      apply decide_eq_decide.mpr
      omega
theorem orV_tr {g : Nat → Int} : ∀ (k j : Nat) (a : Int), tr a → tr (orV g k j a)
  | 0, _, _, h => h
  | k + 1, j, a, _ => orV_tr k (j + 1) _ (tr_bOr _ _)
theorem rGoing_tw {s : Int → Int} (hR : RInv s) {u : Int} {t : Nat} (t1 : (t : Int) < s 1) (h : bAnd (bShr (rGoing s u) t) 1 = 1) : s (94 + (t : Int)) ≠ -1 := by
  have h1 := hR.2.1
  rw [ib_bit1 _ (by omega)] at h
  unfold rGoing at h
  rw [orV_ib (fun j => by by_cases g : rGoP s j (rWork s u) ∧ (j : Int) < s (94 + (j : Int)) <;> simp [g]) _ _ _ _ (by omega) (by omega), ib_0, Bool.false_or] at h
  simp only [Bool.and_eq_true, Bool.not_eq_true', decide_eq_false_iff_not] at h
  by_cases g : rGoP s t (rWork s u) ∧ (t : Int) < s (94 + (t : Int))
  · exact g.1.1
  · exact absurd (if_neg g) h.2
