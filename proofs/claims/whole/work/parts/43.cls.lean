/-! THE CLASS: its cells against the reference's numbers -/
/-- the numbers of a world -/
def WN (w : Nat) (I : Nat → Int → Int) (s : Int → Int) : Prop :=
  (I w 1 = s 5 ∧ I w 3 = s 2 ∧ I w 5 = s 0 ∧ I w 12 = s 1 ∧ I w 16 = s 3 ∧ I w 19 = s 4 ∧ (0 ≤ s 0 ∧ s 0 ≤ 8) ∧ (0 ≤ s 1 ∧ s 1 ≤ 10) ∧ (0 ≤ s 3 ∧ s 3 ≤ 12) ∧ (0 ≤ s 4 ∧ s 4 ≤ 12)) ∧
  (∀ i, 0 ≤ i → i < 100 → I (w + 1) i = s (174 + i)) ∧
  (∀ p, 0 ≤ p → p < s 0 → I (w + 4) p = s (34 + p)) ∧
  (∀ j, 0 ≤ j → j < 4 * s 0 → I (w + 5) j = (if s (42 + j) = -1 then -5 else s (42 + j))) ∧
  (∀ t, 0 ≤ t → t < s 1 → I (w + 6) t = s (74 + t) ∧ I (w + 7) t = s (84 + t) ∧ I (w + 8) t = (if s (94 + t) = -1 then -5 else s (94 + t)) ∧ ib (I w 11) t.toNat = decide (s (104 + t) = 1)) ∧
  (∀ r, 0 ≤ r → r < s 3 → I (w + 9) r = s (114 + r) ∧ I (w + 10) r = s (126 + r) ∧ ib (I w 15) r.toNat = decide (s (138 + r) = 1)) ∧
  (∀ r, 0 ≤ r → r < s 4 → I (w + 11) r = s (150 + r) ∧ I (w + 12) r = s (162 + r))
section WNF
variable {w : Nat} {I J : Nat → Int → Int} {s : Int → Int}
theorem WN.sg (h : WN w I s) : I w 1 = s 5 := h.1.1
theorem WN.vc (h : WN w I s) : I w 3 = s 2 := h.1.2.1
theorem WN.pc (h : WN w I s) : I w 5 = s 0 := h.1.2.2.1
theorem WN.tc (h : WN w I s) : I w 12 = s 1 := h.1.2.2.2.1
theorem WN.rc (h : WN w I s) : I w 16 = s 3 := h.1.2.2.2.2.1
theorem WN.bc (h : WN w I s) : I w 19 = s 4 := h.1.2.2.2.2.2.1
theorem WN.bd (h : WN w I s) : (0 ≤ s 0 ∧ s 0 ≤ 8) ∧ (0 ≤ s 1 ∧ s 1 ≤ 10) ∧ (0 ≤ s 3 ∧ s 3 ≤ 12) ∧ (0 ≤ s 4 ∧ s 4 ≤ 12) := h.1.2.2.2.2.2.2
theorem WN.tp (h : WN w I s) {i : Int} (h1 : 0 ≤ i) (h2 : i < 100) : I (w + 1) i = s (174 + i) := h.2.1 i h1 h2
theorem WN.fr (h : WN w I s) {p : Int} (h1 : 0 ≤ p) (h2 : p < s 0) : I (w + 4) p = s (34 + p) := h.2.2.1 p h1 h2
theorem WN.rw (h : WN w I s) {j : Int} (h1 : 0 ≤ j) (h2 : j < 4 * s 0) : I (w + 5) j = (if s (42 + j) = -1 then -5 else s (42 + j)) := h.2.2.2.1 j h1 h2
theorem WN.so (h : WN w I s) {t : Int} (h1 : 0 ≤ t) (h2 : t < s 1) : I (w + 6) t = s (74 + t) := (h.2.2.2.2.1 t h1 h2).1
theorem WN.ho (h : WN w I s) {t : Int} (h1 : 0 ≤ t) (h2 : t < s 1) : I (w + 7) t = s (84 + t) := (h.2.2.2.2.1 t h1 h2).2.1
theorem WN.tw (h : WN w I s) {t : Int} (h1 : 0 ≤ t) (h2 : t < s 1) : I (w + 8) t = (if s (94 + t) = -1 then -5 else s (94 + t)) := (h.2.2.2.2.1 t h1 h2).2.2.1
theorem WN.br (h : WN w I s) {t : Int} (h1 : 0 ≤ t) (h2 : t < s 1) : ib (I w 11) t.toNat = decide (s (104 + t) = 1) := (h.2.2.2.2.1 t h1 h2).2.2.2
theorem WN.t1 (h : WN w I s) {r : Int} (h1 : 0 ≤ r) (h2 : r < s 3) : I (w + 9) r = s (114 + r) := (h.2.2.2.2.2.1 r h1 h2).1
theorem WN.t2 (h : WN w I s) {r : Int} (h1 : 0 ≤ r) (h2 : r < s 3) : I (w + 10) r = s (126 + r) := (h.2.2.2.2.2.1 r h1 h2).2.1
theorem WN.we (h : WN w I s) {r : Int} (h1 : 0 ≤ r) (h2 : r < s 3) : ib (I w 15) r.toNat = decide (s (138 + r) = 1) := (h.2.2.2.2.2.1 r h1 h2).2.2
theorem WN.bh (h : WN w I s) {r : Int} (h1 : 0 ≤ r) (h2 : r < s 4) : I (w + 11) r = s (150 + r) := (h.2.2.2.2.2.2 r h1 h2).1
theorem WN.bo (h : WN w I s) {r : Int} (h1 : 0 ≤ r) (h2 : r < s 4) : I (w + 12) r = s (162 + r) := (h.2.2.2.2.2.2 r h1 h2).2
theorem WN.fm (h : WN w I s) (g : ∀ b, w ≤ b → b ≤ w + 12 → J b = I b) : WN w J s := by
  unfold WN at *
  rw [g w (by omega) (by omega), g (w + 1) (by omega) (by omega), g (w + 4) (by omega) (by omega), g (w + 5) (by omega) (by omega), g (w + 6) (by omega) (by omega), g (w + 7) (by omega) (by omega), g (w + 8) (by omega) (by omega), g (w + 9) (by omega) (by omega), g (w + 10) (by omega) (by omega), g (w + 11) (by omega) (by omega), g (w + 12) (by omega) (by omega)]
  exact h
end WNF
/-- the class of a kind -/
def kC (k : Int) : Nat := if k = 0 then 2 else if k = 1 then 0 else if k = 2 then 3 else if k = 3 then 1 else if k = 4 then 5 else if k = 5 then 4 else 7
/-- one of the people -/
def HN (K : Nat → Nat × Nat) (I : Nat → Int → Int) (n a : Nat) (k p v u : Int) : Prop := 78 ≤ a ∧ a < n ∧ K a = (kC k, 4) ∧ I a 0 = k ∧ I a 1 = p ∧ I a 2 = v ∧ I a 3 = u
def WP (w : Nat) (K : Nat → Nat × Nat) (I : Nat → Int → Int) (Q : Nat → Int → Option Nat) (n : Nat) (s : Int → Int) : Prop := ∀ p, 0 ≤ p → p < s 0 → ∃ a, Q (w + 3) p = some a ∧ HN K I n a (s (10 + p)) p (s (18 + p)) (s (26 + p))
/-- where a valley's text lies -/
def vX (v : Nat) : Nat := if v = 63 then 77 else v + 6
theorem vX_ge {v : Nat} (h : 63 ≤ v) : 69 ≤ vX v := by unfold vX; split <;> omega
theorem vX_gt (v : Nat) : v + 5 < vX v := by unfold vX; split <;> omega
/-- a valley's cells -/
def VS (K : Nat → Nat × Nat) (Q : Nat → Int → Option Nat) (n v : Nat) : Prop := (63 ≤ v ∧ v + 5 < n) ∧ (K v = (9, 12) ∧ K (v + 1) = (14, 10) ∧ K (v + 2) = (14, 10) ∧ K (v + 3) = (14, 100) ∧ K (v + 4) = (14, 5) ∧ K (v + 5) = (14, 13)) ∧ Q v 1 = some (v + 1) ∧ Q v 2 = some (v + 2) ∧ Q v 4 = some (v + 3) ∧ Q v 6 = some (v + 4) ∧ Q v 7 = some (v + 5) ∧ Q v 8 = some (vX v) ∧ K (vX v) = (13, 100) ∧ vX v < n
/-- its clauses: the reference's steps of each, then its end -/
abbrev tCL : Type := List (List Int × Int)
def cFl (L : tCL) : List Int := L.flatMap (fun c => c.1 ++ [c.2])
def cSt (x : Int) : Int := if 0 ≤ x then (x % 8 * 3 + x / 8 % 4) * 100 + x / 32 else if x = -1 then -3 else if x = -2 then -1 else -2
def cSs (L : tCL) : List Int := L.flatMap (fun c => c.1.map cSt)
def cAm (x : Int) : Int := if -200 < x then -10 - x else x + 200
def LOK (L : tCL) : Prop := ∀ c ∈ L, (∀ x ∈ c.1, -3 ≤ x) ∧ c.2 ≤ -10
/-- its data -/
def VD (I : Nat → Int → Int) (v : Nat) (L : tCL) : Prop := I v 3 = (L.length : Int) ∧ L.length ≤ 10 ∧ I v 5 = ((cSs L).length : Int) ∧ (cSs L).length ≤ 100 ∧ (∀ c : Nat, c < L.length → I (v + 1) (c : Int) = cAm (L.getD c ([], 0)).2 ∧ I (v + 2) (c : Int) = ((cSs (L.take (c + 1))).length : Int)) ∧ (∀ i : Nat, i < (cSs L).length → I (v + 3) (i : Int) = (cSs L).getD i 0) ∧ LOK L
def rOut (s : Int → Int) (x : Int) : List Int := (List.range (s (279 + x)).toNat).map (fun i : Nat => s (284 + 140 * x + (i : Int)))
def WV (w : Nat) (K : Nat → Nat × Nat) (I : Nat → Int → Int) (Q : Nat → Int → Option Nat) (n : Nat) (s : Int → Int) : Prop := ∀ x, 0 ≤ x → x < s 2 → ∃ v L, Q (w + 2) x = some v ∧ VS K Q n v ∧ I v 0 = (if s (274 + x) < 1 then 1 else s (274 + x)) ∧ VD I v L ∧ rOut s x = cFl L
/-- a world -/
def WA (w : Nat) (K : Nat → Nat × Nat) (I : Nat → Int → Int) (Q : Nat → Int → Option Nat) (n : Nat) (s : Int → Int) : Prop := WN w I s ∧ WP w K I Q n s ∧ WV w K I Q n s
/-- what a question may change: the plan, a valley's facts and parts -/
def cq (K : Nat → Nat × Nat) (I J : Nat → Int → Int) : Prop := (∀ b, b < 40 ∨ 60 < b → K b ≠ (14, 5) → K b ≠ (14, 13) → J b = I b) ∧ J 57 0 = I 57 0 ∧ J 59 0 = I 59 0 ∧ (∀ k : Int, 15 ≤ k → J 40 k = I 40 k) ∧ J 60 = I 60
/-- .. and the guess -/
def cg (K : Nat → Nat × Nat) (I J : Nat → Int → Int) : Prop := (∀ b, b < 27 ∨ 60 < b → K b ≠ (14, 5) → K b ≠ (14, 13) → J b = I b) ∧ J 57 0 = I 57 0 ∧ J 59 0 = I 59 0
section CQ
variable {K : Nat → Nat × Nat} {I J L : Nat → Int → Int} {Q Q' : Nat → Int → Option Nat} {n : Nat} {s : Int → Int}
theorem cq.rf : cq K I I := ⟨fun _ _ _ _ => rfl, rfl, rfl, fun _ _ => rfl, rfl⟩
theorem cg.rf : cg K I I := ⟨fun _ _ _ _ => rfl, rfl, rfl⟩
theorem cq.trans (h : cq K I J) (g : cq K J L) : cq K I L := ⟨fun b a1 a2 a3 => (g.1 b a1 a2 a3).trans (h.1 b a1 a2 a3), g.2.1.trans h.2.1, g.2.2.1.trans h.2.2.1, fun k hk => (g.2.2.2.1 k hk).trans (h.2.2.2.1 k hk), g.2.2.2.2.trans h.2.2.2.2⟩
theorem cg.trans (h : cg K I J) (g : cg K J L) : cg K I L := ⟨fun b a1 a2 a3 => (g.1 b a1 a2 a3).trans (h.1 b a1 a2 a3), g.2.1.trans h.2.1, g.2.2.trans h.2.2⟩
theorem cq.g (h : cq K I J) : cg K I J := ⟨fun b a1 a2 a3 => h.1 b (by omega) a2 a3, h.2.1, h.2.2.1⟩
/-- only one cell, a scratch one, is another -/
theorem cq.f {a : Nat} (h : cq K I J) (ha : 40 ≤ a ∧ a ≤ 60) (h57 : a ≠ 57 ∧ a ≠ 59 ∧ a ≠ 40 ∧ a ≠ 60) (e : ∀ b, b ≠ a → L b = J b) : cq K I L := h.trans ⟨fun b a1 _ _ => e b (by omega), by rw [e 57 (fun q => h57.1 q.symm)], by rw [e 59 (fun q => h57.2.1 q.symm)], fun k _ => by rw [e 40 (fun q => h57.2.2.1 q.symm)], e 60 (fun q => h57.2.2.2 q.symm)⟩
theorem cq.fv {a : Nat} (h : cq K I J) (ha : K a = (14, 5) ∨ K a = (14, 13)) (h57 : a ≠ 57 ∧ a ≠ 59 ∧ a ≠ 40 ∧ a ≠ 60) (e : ∀ b, b ≠ a → L b = J b) : cq K I L := h.trans ⟨fun b _ a2 a3 => e b (fun q => by subst q; rcases ha with g | g; exact a2 g; exact a3 g), by rw [e 57 (fun q => h57.1 q.symm)], by rw [e 59 (fun q => h57.2.1 q.symm)], fun k _ => by rw [e 40 (fun q => h57.2.2.1 q.symm)], e 60 (fun q => h57.2.2.2 q.symm)⟩
/-- a write into the plan -/
theorem cq.w {a : Nat} {i x : Int} (h : cq K I J) (ha : 40 ≤ a ∧ a ≤ 60) (h57 : (a = 57 ∨ a = 59 → i ≠ 0) ∧ (a = 40 → i < 15) ∧ a ≠ 60) (e : L = uI J a i x) : cq K I L := by
  subst e
  refine h.trans ⟨fun b a1 _ _ => uI_off _ _ _ (by omega), ?_, ?_, fun k hk => ?_, uI_off _ _ _ (fun q => h57.2.2 q.symm)⟩
  · by_cases g : a = 57
    · subst g
      rw [uI_at, if_neg (fun q => h57.1 (Or.inl rfl) q.symm)]
    · rw [uI_off _ _ _ (fun q => g q.symm)]
  · by_cases g : a = 59
    · subst g
      rw [uI_at, if_neg (fun q => h57.1 (Or.inr rfl) q.symm)]
    · rw [uI_off _ _ _ (fun q => g q.symm)]
  · by_cases g : a = 40
    · subst g
      rw [uI_at, if_neg (by have := h57.2.1 rfl; omega)]
    · rw [uI_off _ _ _ (fun q => g q.symm)]
theorem tSt.ne (hS : tSt (K, I, Q, n)) {b : Nat} (hb : b < 40 ∨ (60 < b ∧ b < 63) ∨ b = 69 ∨ b = 70 ∨ b = 71) : K b ≠ (14, 5) ∧ K b ≠ (14, 13) := by
  have h := hS.1 b (by omega)
  have h2 : K b = shp b := h
  rw [h2]
  have g : ∀ b, b < 78 → (b < 40 ∨ (60 < b ∧ b < 63) ∨ b = 69 ∨ b = 70 ∨ b = 71) → shp b ≠ (14, 5) ∧ shp b ≠ (14, 13) := by decide +kernel
  exact g b (by omega) hb
theorem cq.at (h : cq K I J) (hS : tSt (K, I, Q, n)) {b : Nat} (hb : b < 40 ∨ (60 < b ∧ b < 63) ∨ b = 69 ∨ b = 70 ∨ b = 71) : J b = I b := h.1 b (by omega) (hS.ne hb).1 (hS.ne hb).2
theorem cg.at (h : cg K I J) (hS : tSt (K, I, Q, n)) {b : Nat} (hb : b < 27 ∨ (60 < b ∧ b < 63) ∨ b = 69 ∨ b = 70 ∨ b = 71) : J b = I b := h.1 b (by omega) (hS.ne (by omega)).1 (hS.ne (by omega)).2
theorem WN.q1 (h : WN 1 I s) (hS : tSt (K, I, Q, n)) (g : cq K I J) : WN 1 J s := h.fm (fun b b1 b2 => g.at hS (by omega))
theorem WN.q27 (h : WN 27 I s) (hS : tSt (K, I, Q, n)) (g : cq K I J) : WN 27 J s := h.fm (fun b b1 b2 => g.at hS (by omega))
theorem WN.g1 (h : WN 1 I s) (hS : tSt (K, I, Q, n)) (g : cg K I J) : WN 1 J s := h.fm (fun b b1 b2 => g.at hS (by omega))
theorem WN.g14 (h : WN 14 I s) (hS : tSt (K, I, Q, n)) (g : cg K I J) : WN 14 J s := h.fm (fun b b1 b2 => g.at hS (by omega))
theorem kC_lt (k : Int) : kC k < 8 := by unfold kC; (repeat' split) <;> omega
theorem HN.g {a : Nat} {k p v u : Int} (h : HN K I n a k p v u) (g : cg K I J) : HN K J n a k p v u := by
  obtain ⟨h1, h2, h3, h4⟩ := h
  have hl := kC_lt k
  have e : J a = I a := g.1 a (by omega) (by rw [h3]; intro q; have := congrArg Prod.fst q; simp only at this; omega) (by rw [h3]; intro q; have := congrArg Prod.fst q; simp only at this; omega)
  exact ⟨h1, h2, h3, by rw [e]; exact h4⟩
theorem VS.ne {v : Nat} (h : VS K Q n v) : (K v ≠ (14, 5) ∧ K v ≠ (14, 13)) ∧ (K (v + 1) ≠ (14, 5) ∧ K (v + 1) ≠ (14, 13)) ∧ (K (v + 2) ≠ (14, 5) ∧ K (v + 2) ≠ (14, 13)) ∧ (K (v + 3) ≠ (14, 5) ∧ K (v + 3) ≠ (14, 13)) := by
  obtain ⟨-, ⟨h1, h2, h3, h4, -⟩, -⟩ := h
  rw [h1, h2, h3, h4]
  decide
theorem VS.g {v : Nat} (h : VS K Q n v) (g : cg K I J) : J v = I v ∧ J (v + 1) = I (v + 1) ∧ J (v + 2) = I (v + 2) ∧ J (v + 3) = I (v + 3) := by
  have h0 := h.1
  have hn := h.ne
  exact ⟨g.1 _ (by omega) hn.1.1 hn.1.2, g.1 _ (by omega) hn.2.1.1 hn.2.1.2, g.1 _ (by omega) hn.2.2.1.1 hn.2.2.1.2, g.1 _ (by omega) hn.2.2.2.1 hn.2.2.2.2⟩
theorem VD.g {v : Nat} {x : tCL} (h : VD I v x) (g : J v = I v ∧ J (v + 1) = I (v + 1) ∧ J (v + 2) = I (v + 2) ∧ J (v + 3) = I (v + 3)) : VD J v x := by
  unfold VD at *
  rw [g.1, g.2.1, g.2.2.1, g.2.2.2]
  exact h
/-- references that stay: all but the guess's and the plan's -/
def qg (Q Q' : Nat → Int → Option Nat) : Prop := ∀ a, a < 27 ∨ 40 < a → Q' a = Q a
theorem qg.rf : qg Q Q := fun _ _ => rfl
theorem VS.qg {v : Nat} (h : VS K Q n v) (g : qg Q Q') : VS K Q' n v := by
  obtain ⟨h1, h2, h3⟩ := h
  refine ⟨h1, h2, ?_⟩
  rw [g v (by omega)]
  exact h3
theorem WP.g1 (h : WP 1 K I Q n s) (g : cg K I J) (gq : qg Q Q') : WP 1 K J Q' n s := fun p p1 p2 => by
  obtain ⟨a, h1, h2⟩ := h p p1 p2
  exact ⟨a, by rw [gq _ (by omega)]; exact h1, h2.g g⟩
theorem WP.g14 (h : WP 14 K I Q n s) (g : cg K I J) (gq : qg Q Q') : WP 14 K J Q' n s := fun p p1 p2 => by
  obtain ⟨a, h1, h2⟩ := h p p1 p2
  exact ⟨a, by rw [gq _ (by omega)]; exact h1, h2.g g⟩
theorem WP.q {w : Nat} (h : WP w K I Q n s) (g : cq K I J) : WP w K J Q n s := fun p p1 p2 => by
  obtain ⟨a, h1, h2⟩ := h p p1 p2
  exact ⟨a, h1, h2.g g.g⟩
theorem WV.g1 (h : WV 1 K I Q n s) (g : cg K I J) (gq : qg Q Q') : WV 1 K J Q' n s := fun p p1 p2 => by
  obtain ⟨v, x, h1, h2, h3, h4, h5⟩ := h p p1 p2
  have e := h2.g g
  exact ⟨v, x, by rw [gq _ (by omega)]; exact h1, h2.qg gq, by rw [e.1]; exact h3, h4.g e, h5⟩
theorem WV.g14 (h : WV 14 K I Q n s) (g : cg K I J) (gq : qg Q Q') : WV 14 K J Q' n s := fun p p1 p2 => by
  obtain ⟨v, x, h1, h2, h3, h4, h5⟩ := h p p1 p2
  have e := h2.g g
  exact ⟨v, x, by rw [gq _ (by omega)]; exact h1, h2.qg gq, by rw [e.1]; exact h3, h4.g e, h5⟩
theorem WV.q {w : Nat} (h : WV w K I Q n s) (g : cq K I J) : WV w K J Q n s := fun p p1 p2 => by
  obtain ⟨v, x, h1, h2, h3, h4, h5⟩ := h p p1 p2
  have e := h2.g g.g
  exact ⟨v, x, h1, h2, by rw [e.1]; exact h3, h4.g e, h5⟩
theorem tSt.q40 (hS : tSt (K, I, Q, n)) (x : Option Nat) : tSt (K, I, uQ Q 40 1 x, n) := by
  refine ⟨hS.1, hS.2.1, fun a k b h => ?_⟩
  have h1 := hS.2.2 a k b h
  show uQ Q 40 1 x a (k : Int) = some b
  unfold uQ upQ
  by_cases ha : a = 40
  · subst ha
    rw [if_pos rfl]
    by_cases hk : k = 1
    · subst hk
      have e : srf 40 1 = none := by decide
      rw [e] at h
      cases h
    · rw [if_neg (by omega)]
      exact h1
  · rw [if_neg ha]
    exact h1
theorem qg.q40 (x : Option Nat) : qg Q (uQ Q 40 1 x) := fun a ha => by
  unfold uQ
  rw [if_neg (by omega)]
theorem q40_at (x : Option Nat) : uQ Q 40 1 x 40 1 = x := by unfold uQ upQ; simp
theorem q40_ne {a : Nat} (x : Option Nat) (ha : a ≠ 40) : uQ Q 40 1 x a = Q a := by unfold uQ; rw [if_neg ha]
theorem tSt.row (hS : tSt (K, I, Q, n)) {t : Int} (t1 : 0 ≤ t) (t2 : t < 10) : Q 41 t = some (42 + t.toNat) ∧ tK (K, I, Q, n) (42 + t.toNat) (14, 24) := by
  obtain ⟨m, rfl⟩ : ∃ m : Nat, t = (m : Int) := ⟨t.toNat, by omega⟩
  have hm : m < 10 := by omega
  have e1 : ∀ m : Nat, m < 10 → srf 41 m = some (42 + m) ∧ shp (42 + m) = (14, 24) := by decide +kernel
  refine ⟨hS.2.2 41 m _ (by rw [(e1 m hm).1]; simp), ?_⟩
  rw [Int.toNat_natCast]
  refine ⟨(hS.1 (42 + m) (by omega)).trans (e1 m hm).2, ?_⟩
  have := hS.2.1
  show 42 + m < n
  have h3 : 78 ≤ n := this
  omega
end CQ
section BZ
variable {l : Launch} {G : tG} {M : tM} {d mc ms n0 c2 : Nat} {P : Option tV → tH → Prop} {ls : List (Nat × tV)} {st : List tV} {k pc nx tg : Nat} {K : Nat → Nat × Nat} {I : Nat → Int → Int} {Q : Nat → Int → Option Nat} {n : Nat}
theorem br_getIz {i ci N a kf : Nat} {z : Int} (hd : M.2.2.2.2[k]? = some (pc, .getfield i, nx, tg)) (hk : tK (K, I, Q, n) a (ci, N)) (hF : tw_FL M.1.cls i ci kf) (hN : kf < N) (hr : tRef ci kf = false) (hz : (kf : Int) = z) (kk : tw_AW l G M d mc ms n0 c2 P nx ls (vi (I a z) :: st) (K, I, Q, n)) : tw_AW l G M d mc ms n0 c2 P pc ls (vr (some a) :: st) (K, I, Q, n) := by subst hz; exact br_getI hd hk hF hN hr kk
theorem br_putIz {i ci N a kf : Nat} {x z : Int} (hd : M.2.2.2.2[k]? = some (pc, .putfield i, nx, tg)) (hk : tK (K, I, Q, n) a (ci, N)) (hF : tw_FL M.1.cls i ci kf) (hN : kf < N) (hr : tRef ci kf = false) (hf : ∀ C T N, tCl[ci]? = some (C, T, N) → (T kf).2.2.2 = false ∧ parseFieldDescriptor (T kf).2.2.1 = some .int) (hz : (kf : Int) = z) (kk : tw_AW l G M d mc ms n0 c2 P nx ls st (K, uI I a z x, Q, n)) : tw_AW l G M d mc ms n0 c2 P pc ls (vi x :: vr (some a) :: st) (K, I, Q, n) := by subst hz; exact br_putI hd hk hF hN hr hf kk
theorem br_putZz {i ci N a kf : Nat} {x z : Int} (hd : M.2.2.2.2[k]? = some (pc, .putfield i, nx, tg)) (hk : tK (K, I, Q, n) a (ci, N)) (hF : tw_FL M.1.cls i ci kf) (hN : kf < N) (hr : tRef ci kf = false) (hx : 0 ≤ x ∧ x ≤ 1) (hf : ∀ C T N, tCl[ci]? = some (C, T, N) → (T kf).2.2.2 = false ∧ parseFieldDescriptor (T kf).2.2.1 = some .boolean) (hz : (kf : Int) = z) (kk : tw_AW l G M d mc ms n0 c2 P nx ls st (K, uI I a z x, Q, n)) : tw_AW l G M d mc ms n0 c2 P pc ls (vi x :: vr (some a) :: st) (K, I, Q, n) := by subst hz; exact br_putZ hd hk hF hN hr hx hf kk
theorem tw_pst {P' : Option tV → tH → Prop} {h : tH} (hp : ∀ r h', P r h' → P' r h') (k : tw_AW l G M d mc ms n0 c2 P pc ls st h) : tw_AW l G M d mc ms n0 c2 P' pc ls st h := by
  intro p e s m args below meth c H locs ls' X hl hP hS h0 hn T hT Y
  obtain ⟨t, a, o, b1, b2, ⟨r, h', e1, e2, e3⟩, b4⟩ := k p e s m args below meth c H locs ls' X hl hP hS h0 hn T hT Y
  exact ⟨t, a, o, b1, b2, ⟨r, h', e1, hp r h' e2, e3⟩, b4⟩
end BZ
