theorem tw_s0 {ls : List (Nat × tV)} : ∀ q ∈ ([] : List (Nat × tV)), q ∈ ls := fun _ h => absurd h List.not_mem_nil
theorem tw_s {ls l2 : List (Nat × tV)} {x : Nat × tV} (h : x ∈ ls) (h2 : ∀ q ∈ l2, q ∈ ls) : ∀ q ∈ x :: l2, q ∈ ls := fun q hq => (List.mem_cons.mp hq).elim (fun e => e ▸ h) (h2 q)
theorem tw_g {ls : List (Nat × tV)} {x : Nat × tV} (p : Nat) (h : ls[p]? = some x) : x ∈ ls := List.mem_of_getElem? h
theorem tw_e {ls : List (Nat × tV)} {s : Nat} {a b : Int} (p : Nat) (h : ls[p]? = some (s, vi a)) (e : a = b) : (s, vi b) ∈ ls := by subst e; exact List.mem_of_getElem? h
theorem tw_el {ls : List (Nat × tV)} {s : Nat} {a b : Int} (p : Nat) (h : ls[p]? = some (s, vl a)) (e : a = b) : (s, vl b) ∈ ls := by subst e; exact List.mem_of_getElem? h
theorem tw_er {ls : List (Nat × tV)} {s : Nat} {a b : Option Nat} (p : Nat) (h : ls[p]? = some (s, vr a)) (e : a = b) : (s, vr b) ∈ ls := by subst e; exact List.mem_of_getElem? h
/-- another heap that is the same -/
theorem tw_hp {l : Launch} {G : tG} {M : tM} {d mc ms n0 c2 : Nat} {P : Option tV → tH → Prop} {pc : Nat} {ls : List (Nat × tV)} {st : List tV} {h h' : tH} (e : h = h') (k : tw_AW l G M d mc ms n0 c2 P pc ls st h') : tw_AW l G M d mc ms n0 c2 P pc ls st h := e ▸ k
theorem tw_st {l : Launch} {G : tG} {M : tM} {d mc ms n0 c2 : Nat} {P : Option tV → tH → Prop} {pc : Nat} {ls : List (Nat × tV)} {st st' : List tV} {h : tH} (e : st = st') (k : tw_AW l G M d mc ms n0 c2 P pc ls st' h) : tw_AW l G M d mc ms n0 c2 P pc ls st h := e ▸ k
theorem tw_top {l : Launch} {G : tG} {M : tM} {d mc ms n0 c2 : Nat} {P : Option tV → tH → Prop} {pc : Nat} {ls : List (Nat × tV)} {st : List tV} {h : tH} {x y : Int} (e : x = y) (k : tw_AW l G M d mc ms n0 c2 P pc ls (vi y :: st) h) : tw_AW l G M d mc ms n0 c2 P pc ls (vi x :: st) h := e ▸ k
def setA (I : Nat → Int → Int) (a : Nat) (f : Int → Int) : Nat → Int → Int := fun b => if b = a then f else I b
theorem setA_id (I : Nat → Int → Int) (a : Nat) : setA I a (I a) = I := by
  funext b
  by_cases h : b = a
  · subst h; simp [setA]
  · simp [setA, h]
theorem setA_setA (I : Nat → Int → Int) (a : Nat) (f g : Int → Int) : setA (setA I a f) a g = setA I a g := by
  funext b
  by_cases h : b = a <;> simp [setA, h]
theorem uI_set (I : Nat → Int → Int) (a : Nat) (i x : Int) : uI I a i x = setA I a (up (I a) i x) := rfl
theorem setA_at (I : Nat → Int → Int) (a : Nat) (f : Int → Int) : setA I a f a = f := if_pos rfl
theorem setA_ne (I : Nat → Int → Int) {a b : Nat} (f : Int → Int) (h : b ≠ a) : setA I a f b = I b := if_neg h
theorem uI_setA (I : Nat → Int → Int) (a : Nat) (f : Int → Int) (i x : Int) : uI (setA I a f) a i x = setA I a (up f i x) := by
  rw [uI_set, setA_setA, setA_at]
theorem up_at (f : Int → Int) (i x : Int) : up f i x i = x := if_pos rfl
theorem up_ne (f : Int → Int) {i j : Int} (x : Int) (h : j ≠ i) : up f i x j = f j := if_neg h
theorem up_id (f : Int → Int) (i : Int) : up f i (f i) = f := by
  funext j
  by_cases h : j = i
  · subst h; simp [up]
  · simp [up, h]
theorem up_up (f : Int → Int) (i x y : Int) : up (up f i x) i y = up f i y := by
  funext j
  by_cases h : j = i <;> simp [up, h]
theorem uI_id (I : Nat → Int → Int) (a : Nat) (i : Int) : uI I a i (I a i) = I := by
  rw [uI_set, up_id, setA_id]
theorem uI_at (I : Nat → Int → Int) (a : Nat) (i x j : Int) : uI I a i x a j = if j = i then x else I a j := by simp [uI, up]
theorem uI_off (I : Nat → Int → Int) {a b : Nat} (i x : Int) (h : b ≠ a) : uI I a i x b = I b := if_neg h
/-- what holds of the reference's numbers -/
def RInv (s : Int → Int) : Prop :=
  (0 ≤ s 0 ∧ s 0 ≤ 8) ∧ (0 ≤ s 1 ∧ s 1 ≤ 10) ∧ (0 ≤ s 2 ∧ s 2 ≤ 5) ∧ (0 ≤ s 3 ∧ s 3 ≤ 12) ∧ (0 ≤ s 4 ∧ s 4 ≤ 12) ∧ (0 ≤ s 5 ∧ s 5 ≤ 100) ∧ s 6 = s 2 - 1 ∧
  (∀ p, 0 ≤ p → p < 8 → (0 ≤ s (10 + p) ∧ s (10 + p) ≤ 6) ∧ (0 ≤ s (18 + p) ∧ s (18 + p) ≤ 9) ∧ (0 ≤ s (26 + p) ∧ s (26 + p) ≤ 3) ∧ (0 ≤ s (34 + p) ∧ s (34 + p) ≤ 16777215)) ∧
  (∀ j, 0 ≤ j → j < 32 → -1 ≤ s (42 + j) ∧ s (42 + j) ≤ 9) ∧
  (∀ t, 0 ≤ t → t < s 1 → (0 ≤ s (74 + t) ∧ s (74 + t) ≤ 3) ∧ (0 ≤ s (84 + t) ∧ s (84 + t) < s 0) ∧ (s (94 + t) = -1 ∨ (0 ≤ s (94 + t) ∧ s (94 + t) < s 1 ∧ s (94 + t) ≠ t ∧ s (94 + s (94 + t)) = t)) ∧ (0 ≤ s (104 + t) ∧ s (104 + t) ≤ 1)) ∧
  (∀ r, 0 ≤ r → r < s 3 → (0 ≤ s (114 + r) ∧ s (114 + r) < s 1) ∧ (0 ≤ s (126 + r) ∧ s (126 + r) < s 1) ∧ s (114 + r) ≠ s (126 + r) ∧ (0 ≤ s (138 + r) ∧ s (138 + r) ≤ 1)) ∧
  (∀ r, 0 ≤ r → r < s 4 → (0 ≤ s (150 + r) ∧ s (150 + r) ≤ 23) ∧ (0 ≤ s (162 + r) ∧ s (162 + r) < s 1)) ∧
  (∀ i, 0 ≤ i → i < 100 → 0 ≤ s (174 + i) ∧ s (174 + i) ≤ 127) ∧
  (∀ a, 0 ≤ a → a < 5 → (0 ≤ s (274 + a) ∧ s (274 + a) ≤ 99) ∧ (0 ≤ s (279 + a) ∧ s (279 + a) ≤ 140))
