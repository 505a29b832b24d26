section CY
variable {l : Launch} {G : tG} {M : tM} {d mc ms n0 c2 : Nat} {P : Option tV → tH → Prop} {ls : List (Nat × tV)} {st : List tV} {k pc nx tg : Nat} {K : Nat → Nat × Nat} {I : Nat → Int → Int} {Q Q' : Nat → Int → Option Nat} {nn : Nat}
theorem ar_copybJ {i a b N N' n : Nat} {z : Int} (hd : M.2.2.2.2[k]? = some (pc, .invokestatic i, nx, tg)) (hw : Cond.methodLink M.1.cls i arraycopyName ∈ tw_tbl ∧ Cond.native arraycopyName ∈ tw_tbl ∧ Cond.static arraycopyName ∈ tw_tbl ∧ Cond.initialized "java/lang/System" ∈ tw_tbl) (hka : tK (K, I, Q, nn) a (13, N)) (hkb : tK (K, I, Q, nn) b (13, N')) (hz : z = (n : Int)) (hN : n ≤ N ∧ n ≤ N' ∧ n < 10000) (hf : ∀ j : Int, 0 ≤ j → j < n → -128 ≤ I a j ∧ I a j ≤ 127) (hdd : 1 ≤ d) (hst : (st.map tw_w).sum ≤ 8) (kk : ∀ J, (∀ x, x ≠ b → J x = I x) → (∀ j : Int, J b j = if 0 ≤ j ∧ j < n then I a j else I b j) → tw_AW l G M d mc ms n0 c2 P nx ls st (K, J, Q, nn)) : tw_AW l G M d mc ms n0 c2 P pc ls (vi z :: vi 0 :: vr (some b) :: vi 0 :: vr (some a) :: st) (K, I, Q, nn) := by
  refine ar_copyb hd hw hka hkb hz hN hf hdd hst ?_
  exact kk _ (fun x hx => if_neg hx) (fun j => by show (if b = b then tcpy (I a) (I b) n else I b) j = _; rw [if_pos rfl]; rfl)
/-- references copied, the first N -/
def qc (Q Q' : Nat → Int → Option Nat) (a b : Nat) (N : Int) : Prop := (∀ c, c ≠ b → Q' c = Q c) ∧ ∀ x, Q' b x = if 0 ≤ x ∧ x < N then Q a x else Q b x
theorem qc.rf {a b : Nat} : qc Q Q a b 0 := ⟨fun _ _ => rfl, fun x => by rw [if_neg (by omega)]⟩
theorem qc.s {a b i : Nat} (h : qc Q Q' a b (i : Int)) (hab : a ≠ b) : qc Q (uQ Q' b (i : Int) (Q' a (i : Int))) a b ((i + 1 : Nat) : Int) := by
  refine ⟨fun c hc => ?_, fun x => ?_⟩
  · show (if c = b then _ else Q' c) = Q c
    rw [if_neg hc]; exact h.1 c hc
  · show (if b = b then upQ (Q' b) (i : Int) (Q' a (i : Int)) else Q' b) x = _
    rw [if_pos rfl]
    unfold upQ
    rw [h.1 a hab, h.2 x]
    by_cases g : x = (i : Int)
    · rw [if_pos g, if_pos (by omega), g]
    · rw [if_neg g]
      by_cases g2 : 0 ≤ x ∧ x < (i : Int)
      · rw [if_pos g2, if_pos (by omega)]
      · rw [if_neg g2, if_neg (by omega)]
theorem tSt.qc (hS : tSt (K, I, Q, nn)) {b : Nat} (hb : b = 3 ∨ b = 4 ∨ b = 16 ∨ b = 17 ∨ b = 29 ∨ b = 30) (h : ∀ c, c ≠ b → Q' c = Q c) : tSt (K, I, Q', nn) := by
  refine ⟨hS.1, hS.2.1, fun a k c e => ?_⟩
  have h1 := hS.2.2 a k c e
  by_cases g : a = b
  · subst g
    rcases hb with rfl | rfl | rfl | rfl | rfl | rfl <;> (exfalso; revert e; show ([] : List (Option Nat)).getD k none = some c → False; simp)
  · show Q' a (k : Int) = some c
    rw [h a g]; exact h1
/-- the people and valleys that a world's rows name are such -/
def QH (K : Nat → Nat × Nat) (Q : Nat → Int → Option Nat) (n w : Nat) : Prop := (∀ x : Int, 0 ≤ x → x < 8 → ∀ b, Q (w + 3) x = some b → b < n ∧ ∃ q, K b = (kC q, 4)) ∧ (∀ x : Int, 0 ≤ x → x < 5 → ∀ b, Q (w + 2) x = some b → b < n ∧ K b = (9, 12))
theorem QH.h {w : Nat} (h : QH K Q nn w) {x : Int} (h1 : 0 ≤ x) (h2 : x < 8) {r : Option Nat} (e : Q (w + 3) x = r) : ∀ b, r = some b → ∃ cb Nb C T, tK (K, I, Q', nn) b (cb, Nb) ∧ tCl[cb]? = some (C, T, Nb) ∧ (C = "TwinTools$Hand" ∨ (C, "TwinTools$Hand") ∈ castL) := by
  intro b hb
  subst e
  obtain ⟨b1, q, b2⟩ := h.1 x h1 h2 b hb
  have hc := hcl_k q
  refine ⟨kC q, 4, ?_⟩
  have hk : tK (K, I, Q', nn) b (kC q, 4) := ⟨b2, b1⟩
  generalize kC q = c at hc hk
  rcases hc with rfl | rfl | rfl | rfl | rfl | rfl | rfl
  all_goals exact ⟨_, _, hk, rfl, by decide⟩
theorem QH.v {w : Nat} (h : QH K Q nn w) {x : Int} (h1 : 0 ≤ x) (h2 : x < 5) {r : Option Nat} (e : Q (w + 2) x = r) : ∀ b, r = some b → ∃ cb Nb C T, tK (K, I, Q', nn) b (cb, Nb) ∧ tCl[cb]? = some (C, T, Nb) ∧ (C = "TwinTools$Valley" ∨ (C, "TwinTools$Valley") ∈ castL) := by
  intro b hb
  subst e
  obtain ⟨b1, b2⟩ := h.2 x h1 h2 b hb
  exact ⟨9, 12, _, _, ⟨b2, b1⟩, rfl, by decide⟩
end CY
/-- all of a world's numbers copied -/
def FC (I J : Nat → Int → Int) (a b : Nat) : Prop := (∀ k : Int, k = 1 ∨ k = 3 ∨ k = 5 ∨ k = 11 ∨ k = 12 ∨ k = 15 ∨ k = 16 ∨ k = 19 → J b k = I a k) ∧ (∀ j, 0 ≤ j → j < 100 → J (b + 1) j = I (a + 1) j) ∧ (∀ j, 0 ≤ j → j < 8 → J (b + 4) j = I (a + 4) j) ∧ (∀ j, 0 ≤ j → j < 32 → J (b + 5) j = I (a + 5) j) ∧ (∀ j, 0 ≤ j → j < 10 → J (b + 6) j = I (a + 6) j ∧ J (b + 7) j = I (a + 7) j ∧ J (b + 8) j = I (a + 8) j) ∧ (∀ j, 0 ≤ j → j < 12 → J (b + 9) j = I (a + 9) j ∧ J (b + 10) j = I (a + 10) j ∧ J (b + 11) j = I (a + 11) j ∧ J (b + 12) j = I (a + 12) j)
theorem FC.wn {I J : Nat → Int → Int} {a b : Nat} {s : Int → Int} (h : FC I J a b) (g : WN a I s) : WN b J s := by
  have hb := g.bd
  obtain ⟨f0, f1, f4, f5, f6, f9⟩ := h
  refine ⟨⟨?_, ?_, ?_, ?_, ?_, ?_, hb⟩, fun i i1 i2 => ?_, fun p p1 p2 => ?_, fun j j1 j2 => ?_, fun t t1 t2 => ⟨?_, ?_, ?_, ?_⟩, fun r r1 r2 => ⟨?_, ?_, ?_⟩, fun r r1 r2 => ⟨?_, ?_⟩⟩
  · rw [f0 1 (by omega)]; exact g.sg
  · rw [f0 3 (by omega)]; exact g.vc
  · rw [f0 5 (by omega)]; exact g.pc
  · rw [f0 12 (by omega)]; exact g.tc
  · rw [f0 16 (by omega)]; exact g.rc
  · rw [f0 19 (by omega)]; exact g.bc
  · rw [f1 i i1 i2]; exact g.tp i1 i2
  · rw [f4 p p1 (by omega)]; exact g.fr p1 p2
  · rw [f5 j j1 (by omega)]; exact g.rw j1 j2
  · rw [(f6 t t1 (by omega)).1]; exact g.so t1 t2
  · rw [(f6 t t1 (by omega)).2.1]; exact g.ho t1 t2
  · rw [(f6 t t1 (by omega)).2.2]; exact g.tw t1 t2
  · rw [f0 11 (by omega)]; exact g.br t1 t2
  · rw [(f9 r r1 (by omega)).1]; exact g.t1 r1 r2
  · rw [(f9 r r1 (by omega)).2.1]; exact g.t2 r1 r2
  · rw [f0 15 (by omega)]; exact g.we r1 r2
  · rw [(f9 r r1 (by omega)).2.2.1]; exact g.bh r1 r2
  · rw [(f9 r r1 (by omega)).2.2.2]; exact g.bo r1 r2
section CZ
variable {l : Launch} {G : tG} {K : Nat → Nat × Nat} {I : Nat → Int → Int} {Q : Nat → Int → Option Nat} {n : Nat} {s : Int → Int}
theorem c_W_copyTools_27_1 (hS : tSt (K, I, Q, n)) : tw_M l G 1 0 0 mW_copyTools [vr (some 27), vr (some 1)] (K, I, Q, n) (fun r h' => r = none ∧ ∃ J, h' = (K, J, Q, n) ∧ (∀ c, c ≠ 27 → c ≠ 33 → c ≠ 34 → c ≠ 35 → J c = I c) ∧ (∀ k, k ≠ 11 → k ≠ 12 → J 27 k = I 27 k) ∧ J 27 11 = I 1 11 ∧ J 27 12 = I 1 12 ∧ ∀ j, 0 ≤ j → j < 10 → J 33 j = I 7 j ∧ J 34 j = I 8 j ∧ J 35 j = I 9 j) := by
  refine tw_intro okW_copyTools (Nat.le_of_ble_eq_true rfl) ?_
  refine ar_aloadn (k := 0) rfl rfl ?_
  refine br_getR (k := 1) rfl (hS.k (by decide)) flW_44_10 (by decide) rfl (hS.r rfl) ?_
  refine ar_iconst (k := 2) rfl ?_
  refine ar_aloadn (k := 3) rfl rfl ?_
  refine br_getR (k := 4) rfl (hS.k (by decide)) flW_44_10 (by decide) rfl (hS.r rfl) ?_
  refine ar_iconst (k := 5) rfl ?_
  refine ar_bipush (k := 6) rfl (by decide) ?_
  refine ar_copyiJ (k := 7) (n := 10) rfl lcW_80 (hS.k (by decide)) (hS.k (by decide)) rfl (by decide) (by decide) (Nat.le_of_ble_eq_true rfl) (fun I7 e7 f7 => ?_)
  refine ar_aloadn (k := 8) rfl rfl ?_
  refine br_getR (k := 9) rfl (hS.k (by decide)) flW_47_10 (by decide) rfl (hS.r rfl) ?_
  refine ar_iconst (k := 10) rfl ?_
  refine ar_aloadn (k := 11) rfl rfl ?_
  refine br_getR (k := 12) rfl (hS.k (by decide)) flW_47_10 (by decide) rfl (hS.r rfl) ?_
  refine ar_iconst (k := 13) rfl ?_
  refine ar_bipush (k := 14) rfl (by decide) ?_
  refine ar_copyiJ (k := 15) (n := 10) rfl lcW_80 (hS.k (by decide)) (hS.k (by decide)) rfl (by decide) (by decide) (Nat.le_of_ble_eq_true rfl) (fun I15 e15 f15 => ?_)
  refine ar_aloadn (k := 16) rfl rfl ?_
  refine br_getR (k := 17) rfl (hS.k (by decide)) flW_50_10 (by decide) rfl (hS.r rfl) ?_
  refine ar_iconst (k := 18) rfl ?_
  refine ar_aloadn (k := 19) rfl rfl ?_
  refine br_getR (k := 20) rfl (hS.k (by decide)) flW_50_10 (by decide) rfl (hS.r rfl) ?_
  refine ar_iconst (k := 21) rfl ?_
  refine ar_bipush (k := 22) rfl (by decide) ?_
  refine ar_copyiJ (k := 23) (n := 10) rfl lcW_80 (hS.k (by decide)) (hS.k (by decide)) rfl (by decide) (by decide) (Nat.le_of_ble_eq_true rfl) (fun I23 e23 f23 => ?_)
  refine ar_aloadn (k := 24) rfl rfl ?_
  refine ar_aloadn (k := 25) rfl rfl ?_
  refine br_getIz (k := 26) (z := 11) rfl (hS.k (by decide)) flW_53_10 (by decide) rfl rfl ?_
  refine br_putIJ (k := 27) rfl (hS.k (by decide)) flW_53_10 (by decide) rfl (fun _ _ _ q => by cases q; exact ⟨rfl, rfl⟩) (fun I27 e27 => ?_)
  change _ = uI _ 27 11 _ at e27
  skip
  refine ar_aloadn (k := 28) rfl rfl ?_
  refine ar_aloadn (k := 29) rfl rfl ?_
  refine br_getIz (k := 30) (z := 12) rfl (hS.k (by decide)) flW_56_10 (by decide) rfl rfl ?_
  refine br_putIJ (k := 31) rfl (hS.k (by decide)) flW_56_10 (by decide) rfl (fun _ _ _ q => by cases q; exact ⟨rfl, rfl⟩) (fun I31 e31 => ?_)
  change _ = uI _ 27 12 _ at e31
  skip
  refine ar_ret (k := 32) rfl rfl rfl (Nat.le_refl _) ?_
  refine ⟨rfl, I31, rfl, fun c c1 c2 c3 c4 => ?_, fun k k1 k2 => ?_, ?_, ?_, fun j j1 j2 => ⟨?_, ?_, ?_⟩⟩
  · rw [e31, uI_off _ _ _ c1, e27, uI_off _ _ _ c1, e23 c c4, e15 c c3, e7 c c2]
  · rw [e31, uI_at, if_neg k2, e27, uI_at, if_neg k1, e23 _ (by decide), e15 _ (by decide), e7 _ (by decide)]
  · rw [e31, uI_at, if_neg (by decide), e27, uI_at, if_pos rfl, e23 _ (by decide), e15 _ (by decide), e7 _ (by decide)]
  · rw [e31, uI_at, if_pos rfl, e27, uI_off _ _ _ (by decide), e23 _ (by decide), e15 _ (by decide), e7 _ (by decide)]
  · rw [e31, uI_off _ _ _ (by decide), e27, uI_off _ _ _ (by decide), e23 _ (by decide), e15 _ (by decide), f7, if_pos ⟨j1, by omega⟩]
  · rw [e31, uI_off _ _ _ (by decide), e27, uI_off _ _ _ (by decide), e23 _ (by decide), f15, if_pos ⟨j1, by omega⟩, e7 _ (by decide)]
  · rw [e31, uI_off _ _ _ (by decide), e27, uI_off _ _ _ (by decide), f23, if_pos ⟨j1, by omega⟩, e15 _ (by decide), e7 _ (by decide)]
theorem c_W_copyRows_27_1 (hS : tSt (K, I, Q, n)) : tw_M l G 1 0 0 mW_copyRows [vr (some 27), vr (some 1)] (K, I, Q, n) (fun r h' => r = none ∧ ∃ J, h' = (K, J, Q, n) ∧ (∀ c, c ≠ 27 → c ≠ 36 → c ≠ 37 → c ≠ 38 → c ≠ 39 → J c = I c) ∧ (∀ k, k ≠ 15 → k ≠ 16 → k ≠ 19 → J 27 k = I 27 k) ∧ J 27 15 = I 1 15 ∧ J 27 16 = I 1 16 ∧ J 27 19 = I 1 19 ∧ ∀ j, 0 ≤ j → j < 12 → J 36 j = I 10 j ∧ J 37 j = I 11 j ∧ J 38 j = I 12 j ∧ J 39 j = I 13 j) := by
  refine tw_intro okW_copyRows (Nat.le_of_ble_eq_true rfl) ?_
  refine ar_aloadn (k := 0) rfl rfl ?_
  refine br_getR (k := 1) rfl (hS.k (by decide)) flW_59_10 (by decide) rfl (hS.r rfl) ?_
  refine ar_iconst (k := 2) rfl ?_
  refine ar_aloadn (k := 3) rfl rfl ?_
  refine br_getR (k := 4) rfl (hS.k (by decide)) flW_59_10 (by decide) rfl (hS.r rfl) ?_
  refine ar_iconst (k := 5) rfl ?_
  refine ar_bipush (k := 6) rfl (by decide) ?_
  refine ar_copyiJ (k := 7) (n := 12) rfl lcW_80 (hS.k (by decide)) (hS.k (by decide)) rfl (by decide) (by decide) (Nat.le_of_ble_eq_true rfl) (fun I7 e7 f7 => ?_)
  refine ar_aloadn (k := 8) rfl rfl ?_
  refine br_getR (k := 9) rfl (hS.k (by decide)) flW_62_10 (by decide) rfl (hS.r rfl) ?_
  refine ar_iconst (k := 10) rfl ?_
  refine ar_aloadn (k := 11) rfl rfl ?_
  refine br_getR (k := 12) rfl (hS.k (by decide)) flW_62_10 (by decide) rfl (hS.r rfl) ?_
  refine ar_iconst (k := 13) rfl ?_
  refine ar_bipush (k := 14) rfl (by decide) ?_
  refine ar_copyiJ (k := 15) (n := 12) rfl lcW_80 (hS.k (by decide)) (hS.k (by decide)) rfl (by decide) (by decide) (Nat.le_of_ble_eq_true rfl) (fun I15 e15 f15 => ?_)
  refine ar_aloadn (k := 16) rfl rfl ?_
  refine ar_aloadn (k := 17) rfl rfl ?_
  refine br_getIz (k := 18) (z := 15) rfl (hS.k (by decide)) flW_65_10 (by decide) rfl rfl ?_
  refine br_putIJ (k := 19) rfl (hS.k (by decide)) flW_65_10 (by decide) rfl (fun _ _ _ q => by cases q; exact ⟨rfl, rfl⟩) (fun I19 e19 => ?_)
  change _ = uI _ 27 15 _ at e19
  skip
  refine ar_aloadn (k := 20) rfl rfl ?_
  refine ar_aloadn (k := 21) rfl rfl ?_
  refine br_getIz (k := 22) (z := 16) rfl (hS.k (by decide)) flW_68_10 (by decide) rfl rfl ?_
  refine br_putIJ (k := 23) rfl (hS.k (by decide)) flW_68_10 (by decide) rfl (fun _ _ _ q => by cases q; exact ⟨rfl, rfl⟩) (fun I23 e23 => ?_)
  change _ = uI _ 27 16 _ at e23
  skip
  refine ar_aloadn (k := 24) rfl rfl ?_
  refine br_getR (k := 25) rfl (hS.k (by decide)) flW_71_10 (by decide) rfl (hS.r rfl) ?_
  refine ar_iconst (k := 26) rfl ?_
  refine ar_aloadn (k := 27) rfl rfl ?_
  refine br_getR (k := 28) rfl (hS.k (by decide)) flW_71_10 (by decide) rfl (hS.r rfl) ?_
  refine ar_iconst (k := 29) rfl ?_
  refine ar_bipush (k := 30) rfl (by decide) ?_
  refine ar_copyiJ (k := 31) (n := 12) rfl lcW_80 (hS.k (by decide)) (hS.k (by decide)) rfl (by decide) (by decide) (Nat.le_of_ble_eq_true rfl) (fun I31 e31 f31 => ?_)
  refine ar_aloadn (k := 32) rfl rfl ?_
  refine br_getR (k := 33) rfl (hS.k (by decide)) flW_74_10 (by decide) rfl (hS.r rfl) ?_
  refine ar_iconst (k := 34) rfl ?_
  refine ar_aloadn (k := 35) rfl rfl ?_
  refine br_getR (k := 36) rfl (hS.k (by decide)) flW_74_10 (by decide) rfl (hS.r rfl) ?_
  refine ar_iconst (k := 37) rfl ?_
  refine ar_bipush (k := 38) rfl (by decide) ?_
  refine ar_copyiJ (k := 39) (n := 12) rfl lcW_80 (hS.k (by decide)) (hS.k (by decide)) rfl (by decide) (by decide) (Nat.le_of_ble_eq_true rfl) (fun I39 e39 f39 => ?_)
  refine ar_aloadn (k := 40) rfl rfl ?_
  refine ar_aloadn (k := 41) rfl rfl ?_
  refine br_getIz (k := 42) (z := 19) rfl (hS.k (by decide)) flW_77_10 (by decide) rfl rfl ?_
  refine br_putIJ (k := 43) rfl (hS.k (by decide)) flW_77_10 (by decide) rfl (fun _ _ _ q => by cases q; exact ⟨rfl, rfl⟩) (fun I43 e43 => ?_)
  change _ = uI _ 27 19 _ at e43
  skip
  refine ar_ret (k := 44) rfl rfl rfl (Nat.le_refl _) ?_
  refine ⟨rfl, I43, rfl, fun c c1 c2 c3 c4 c5 => ?_, fun k k1 k2 k3 => ?_, ?_, ?_, ?_, fun j j1 j2 => ⟨?_, ?_, ?_, ?_⟩⟩
  · rw [e43, uI_off _ _ _ c1, e39 c c5, e31 c c4, e23, uI_off _ _ _ c1, e19, uI_off _ _ _ c1, e15 c c3, e7 c c2]
  · rw [e43, uI_at, if_neg k3, e39 _ (by decide), e31 _ (by decide), e23, uI_at, if_neg k2, e19, uI_at, if_neg k1, e15 _ (by decide), e7 _ (by decide)]
  · rw [e43, uI_at, if_neg (by decide), e39 _ (by decide), e31 _ (by decide), e23, uI_at, if_neg (by decide), e19, uI_at, if_pos rfl, e15 _ (by decide), e7 _ (by decide)]
  · rw [e43, uI_at, if_neg (by decide), e39 _ (by decide), e31 _ (by decide), e23, uI_at, if_pos rfl, e19, uI_off _ _ _ (by decide), e15 _ (by decide), e7 _ (by decide)]
  · rw [e43, uI_at, if_pos rfl, e39 _ (by decide), e31 _ (by decide), e23, uI_off _ _ _ (by decide), e19, uI_off _ _ _ (by decide), e15 _ (by decide), e7 _ (by decide)]
  · rw [e43, uI_off _ _ _ (by decide), e39 _ (by decide), e31 _ (by decide), e23, uI_off _ _ _ (by decide), e19, uI_off _ _ _ (by decide), e15 _ (by decide), f7, if_pos ⟨j1, by omega⟩]
  · rw [e43, uI_off _ _ _ (by decide), e39 _ (by decide), e31 _ (by decide), e23, uI_off _ _ _ (by decide), e19, uI_off _ _ _ (by decide), f15, if_pos ⟨j1, by omega⟩, e7 _ (by decide)]
  · rw [e43, uI_off _ _ _ (by decide), e39 _ (by decide), f31, if_pos ⟨j1, by omega⟩, e23, uI_off _ _ _ (by decide), e19, uI_off _ _ _ (by decide), e15 _ (by decide), e7 _ (by decide)]
  · rw [e43, uI_off _ _ _ (by decide), f39, if_pos ⟨j1, by omega⟩, e31 _ (by decide), e23, uI_off _ _ _ (by decide), e19, uI_off _ _ _ (by decide), e15 _ (by decide), e7 _ (by decide)]
theorem l_W_copyPeople_27_1 (hS : tSt (K, I, Q, n)) (hH : QH K Q n 1) : ∀ (k : Nat) (i : Nat) (R : Nat → Int → Option Nat), i + k = 8 → qc Q R 4 30 (i : Int) → tw_AW l G mW_copyPeople 1 0 0 n 0 ((fun r h' => r = none ∧ ∃ J R, h' = (K, J, R, n) ∧ qc Q R 4 30 8 ∧ (∀ c, c ≠ 27 → c ≠ 31 → c ≠ 32 → J c = I c) ∧ (∀ k, k ≠ 5 → J 27 k = I 27 k) ∧ J 27 5 = I 1 5 ∧ (∀ j, 0 ≤ j → j < 8 → J 31 j = I 5 j) ∧ ∀ j, 0 ≤ j → j < 32 → J 32 j = I 6 j)) 2 [(2, vi (i : Int)), (0, vr (some 27)), (1, vr (some 1))] [] (K, I, R, n) := by
  intro k
  induction k with
  | zero =>
    intro i R hi hQr
    have hS := hS.qc (Q' := R) (b := 30) (by decide) hQr.1
    refine ar_iloadn (k := 2) rfl rfl ?_
    refine ar_bipush (k := 3) rfl (by decide) ?_
    refine ar_icmp_ge (k := 4) rfl (by omega) (by omega) (fun c4 => ?_) (fun c4 => ?_)
    · refine ar_aloadn (k := 15) rfl rfl ?_
      refine ar_aloadn (k := 16) rfl rfl ?_
      refine br_getIz (k := 17) (z := 5) rfl (hS.k (by decide)) flW_34_10 (by decide) rfl rfl ?_
      refine br_putIJ (k := 18) rfl (hS.k (by decide)) flW_34_10 (by decide) rfl (fun _ _ _ q => by cases q; exact ⟨rfl, rfl⟩) (fun I18 e18 => ?_)
      change _ = uI _ 27 5 _ at e18
      skip
      refine ar_aloadn (k := 19) rfl rfl ?_
      refine br_getR (k := 20) rfl (hS.k (by decide)) flW_37_10 (by decide) rfl (hS.r rfl) ?_
      refine ar_iconst (k := 21) rfl ?_
      refine ar_aloadn (k := 22) rfl rfl ?_
      refine br_getR (k := 23) rfl (hS.k (by decide)) flW_37_10 (by decide) rfl (hS.r rfl) ?_
      refine ar_iconst (k := 24) rfl ?_
      refine ar_bipush (k := 25) rfl (by decide) ?_
      refine ar_copyiJ (k := 26) (n := 8) rfl lcW_80 (hS.k (by decide)) (hS.k (by decide)) rfl (by decide) (by decide) (Nat.le_of_ble_eq_true rfl) (fun I26 e26 f26 => ?_)
      refine ar_aloadn (k := 27) rfl rfl ?_
      refine br_getR (k := 28) rfl (hS.k (by decide)) flW_41_10 (by decide) rfl (hS.r rfl) ?_
      refine ar_iconst (k := 29) rfl ?_
      refine ar_aloadn (k := 30) rfl rfl ?_
      refine br_getR (k := 31) rfl (hS.k (by decide)) flW_41_10 (by decide) rfl (hS.r rfl) ?_
      refine ar_iconst (k := 32) rfl ?_
      refine ar_bipush (k := 33) rfl (by decide) ?_
      refine ar_copyiJ (k := 34) (n := 32) rfl lcW_80 (hS.k (by decide)) (hS.k (by decide)) rfl (by decide) (by decide) (Nat.le_of_ble_eq_true rfl) (fun I34 e34 f34 => ?_)
      refine ar_ret (k := 35) rfl rfl rfl (Nat.le_refl _) ?_
      refine ⟨rfl, I34, R, rfl, by rw [show (8 : Int) = (i : Int) by omega]; exact hQr, fun c c1 c2 c3 => ?_, fun k k1 => ?_, ?_, fun j j1 j2 => ?_, fun j j1 j2 => ?_⟩
      · rw [e34 c c3, e26 c c2, e18, uI_off _ _ _ c1]
      · rw [e34 _ (by decide), e26 _ (by decide), e18, uI_at, if_neg k1]
      · rw [e34 _ (by decide), e26 _ (by decide), e18, uI_at, if_pos rfl]
      · rw [e34 _ (by decide), f26, if_pos ⟨j1, by omega⟩, e18, uI_off _ _ _ (by decide)]
      · rw [f34, if_pos ⟨j1, by omega⟩, e26 _ (by decide), e18, uI_off _ _ _ (by decide)]
    · exfalso; omega
  | succ k ih =>
    intro i R hi hQr
    have hS := hS.qc (Q' := R) (b := 30) (by decide) hQr.1
    refine ar_iloadn (k := 2) rfl rfl ?_
    refine ar_bipush (k := 3) rfl (by decide) ?_
    refine ar_icmp_ge (k := 4) rfl (by omega) (by omega) (fun c4 => ?_) (fun c4 => ?_)
    · exfalso; omega
    · refine ar_aloadn (k := 5) rfl rfl ?_
      refine br_getR (k := 6) rfl (hS.k (by decide)) flW_30_10 (by decide) rfl (hS.r rfl) ?_
      refine ar_iloadn (k := 7) rfl rfl ?_
      refine ar_aloadn (k := 8) rfl rfl ?_
      refine br_getR (k := 9) rfl (hS.k (by decide)) flW_30_10 (by decide) rfl (hS.r rfl) ?_
      refine ar_iloadn (k := 10) rfl rfl ?_
      refine br_aald16 (k := 11) rfl (hS.k (by decide)) (by omega) (by omega) (by decide) rfl ?_
      refine br_aast16 (k := 12) rfl (hS.k (by decide)) (by omega) (by omega) (by decide) (hH.h (x := (i : Int)) (by omega) (by omega) (by show Q 4 (i : Int) = _; rw [hQr.1 4 (by decide)])) ?_
      refine ar_iinc (k := 13) (l2 := [(2, _), (0, _), (1, _)]) rfl (by decide) rfl rfl ?_
      refine ar_goto (k := 14) rfl ?_
      refine ar_sub (l2 := [(2, vi ((i + 1 : Nat) : Int)), (0, vr (some 27)), (1, vr (some 1))]) (tw_s (tw_e 0 rfl (by omega)) (tw_s (tw_g 1 rfl) (tw_s (tw_g 2 rfl) tw_s0))) ?_
      exact ih (i + 1) _ (by omega) (hQr.s (by decide))
theorem c_W_copyPeople_27_1 (hS : tSt (K, I, Q, n)) (hH : QH K Q n 1) : tw_M l G 1 0 0 mW_copyPeople [vr (some 27), vr (some 1)] (K, I, Q, n) (fun r h' => r = none ∧ ∃ J R, h' = (K, J, R, n) ∧ qc Q R 4 30 8 ∧ (∀ c, c ≠ 27 → c ≠ 31 → c ≠ 32 → J c = I c) ∧ (∀ k, k ≠ 5 → J 27 k = I 27 k) ∧ J 27 5 = I 1 5 ∧ (∀ j, 0 ≤ j → j < 8 → J 31 j = I 5 j) ∧ ∀ j, 0 ≤ j → j < 32 → J 32 j = I 6 j) := by
  refine tw_intro okW_copyPeople (Nat.le_of_ble_eq_true rfl) ?_
  refine ar_iconst (k := 0) rfl ?_
  refine ar_istoren (k := 1) (l2 := [(2, _), (0, _), (1, _)]) rfl (by decide) rfl ?_
  refine ar_sub (l2 := [(2, vi ((0 : Nat) : Int)), (0, vr (some 27)), (1, vr (some 1))]) (tw_s (tw_e 0 rfl (by rfl)) (tw_s (tw_g 1 rfl) (tw_s (tw_g 2 rfl) tw_s0))) ?_
  exact l_W_copyPeople_27_1 hS hH 8 0 Q (by omega) qc.rf
theorem l_W_copyFrom_27_1 {J : Nat → Int → Int} (hS : tSt (K, I, Q, n)) (hH : QH K Q n 1) (hJ : (∀ c, c ≠ 27 → c ≠ 28 → J c = I c) ∧ J 27 1 = I 1 1 ∧ ∀ j, 0 ≤ j → j < 100 → J 28 j = I 2 j) : ∀ (k : Nat) (i : Nat) (R : Nat → Int → Option Nat), i + k = 5 → qc Q R 3 29 (i : Int) → tw_AW l G mW_copyFrom 2 0 0 n 0 ((fun r h' => r = none ∧ ∃ J R, h' = (K, J, R, n) ∧ FC I J 1 27 ∧ (∀ c, c < 27 ∨ 39 < c → J c = I c) ∧ (∀ c, c ≠ 29 → c ≠ 30 → R c = Q c) ∧ (∀ x, 0 ≤ x → x < 8 → R 30 x = Q 4 x) ∧ (∀ x, 0 ≤ x → x < 5 → R 29 x = Q 3 x))) 25 [(2, vi (i : Int)), (0, vr (some 27)), (1, vr (some 1))] [] (K, J, R, n) := by
  intro k
  induction k with
  | zero =>
    intro i R hi hQr
    have hS := hS.qc (Q' := R) (b := 29) (by decide) hQr.1
    refine ar_iloadn (k := 14) rfl rfl ?_
    refine ar_iconst (k := 15) rfl ?_
    refine ar_icmp_ge (k := 16) rfl (by omega) (by omega) (fun c16 => ?_) (fun c16 => ?_)
    · refine ar_aloadn (k := 27) rfl rfl ?_
      refine ar_aloadn (k := 28) rfl rfl ?_
      refine br_getIz (k := 29) (z := 3) rfl (hS.k (by decide)) flW_25_10 (by decide) rfl rfl ?_
      refine br_putIJ (k := 30) rfl (hS.k (by decide)) flW_25_10 (by decide) rfl (fun _ _ _ q => by cases q; exact ⟨rfl, rfl⟩) (fun I30 e30 => ?_)
      change _ = uI _ 27 3 _ at e30
      skip
      refine ar_aloadn (k := 31) rfl rfl ?_
      refine ar_aloadn (k := 32) rfl rfl ?_
      refine ar_callV (k := 33) (as := [_]) rfl lvW_86 (hS.k (by decide)) rfl (c_W_copyPeople_27_1 hS (by refine ⟨fun x x1 x2 b hb => ?_, fun x x1 x2 b hb => ?_⟩; exact hH.1 x x1 x2 b (by rw [← hQr.1 4 (by decide)]; exact hb); exact hH.2 x x1 x2 b (by rw [← hQr.1 3 (by decide)]; exact hb))) rfl (by decide) (by decide) tw_m0 (Nat.le_of_ble_eq_true rfl) (fun r33 h33 p33 => ?_)
      obtain ⟨rfl, I33, R33, rfl, hR33, p33⟩ := p33
      have hS : tSt (K, I33, R33, n) := hS.qc (b := 30) (by decide) hR33.1
      refine ar_aloadn (k := 34) rfl rfl ?_
      refine ar_aloadn (k := 35) rfl rfl ?_
      refine ar_callV (k := 36) (as := [_]) rfl lvW_90 (hS.k (by decide)) rfl (c_W_copyTools_27_1 hS) rfl (by decide) (by decide) tw_m0 (Nat.le_of_ble_eq_true rfl) (fun r36 h36 p36 => ?_)
      obtain ⟨rfl, I36, rfl, p36⟩ := p36
      refine ar_aloadn (k := 37) rfl rfl ?_
      refine ar_aloadn (k := 38) rfl rfl ?_
      refine ar_callV (k := 39) (as := [_]) rfl lvW_93 (hS.k (by decide)) rfl (c_W_copyRows_27_1 hS) rfl (by decide) (by decide) tw_m0 (Nat.le_of_ble_eq_true rfl) (fun r39 h39 p39 => ?_)
      obtain ⟨rfl, I39, rfl, p39⟩ := p39
      refine ar_ret (k := 40) rfl rfl rfl (Nat.le_refl _) ?_
      obtain ⟨x1, x2, x3, x4, x5⟩ := p33
      obtain ⟨y1, y2, y3, y4, y5⟩ := p36
      obtain ⟨z1, z2, z3, z4, z5, z6⟩ := p39
      refine ⟨rfl, I39, R33, rfl, ⟨fun k hk => ?_, fun j j1 j2 => ?_, fun j j1 j2 => ?_, fun j j1 j2 => ?_, fun j j1 j2 => ⟨?_, ?_, ?_⟩, fun j j1 j2 => ⟨?_, ?_, ?_, ?_⟩⟩, fun c hc => ?_, fun c c1 c2 => ?_, fun x h1 h2 => ?_, fun x h1 h2 => ?_⟩
      · have u30 : ∀ k, I30 27 k = if k = 3 then I 1 3 else J 27 k := fun k => by
          rw [e30, uI_at]; by_cases g : k = 3
          · rw [if_pos g, if_pos g]; exact congrFun (hJ.1 1 (by decide) (by decide)) _
          · rw [if_neg g, if_neg g]
        rcases hk with rfl | rfl | rfl | rfl | rfl | rfl | rfl | rfl
        · rw [z2 _ (by decide) (by decide) (by decide), y2 _ (by decide) (by decide), x2 _ (by decide), u30, if_neg (by decide)]; exact hJ.2.1
        · rw [z2 _ (by decide) (by decide) (by decide), y2 _ (by decide) (by decide), x2 _ (by decide), u30, if_pos rfl]
        · rw [z2 _ (by decide) (by decide) (by decide), y2 _ (by decide) (by decide), x3, e30, uI_off _ _ _ (by decide)]; exact congrFun (hJ.1 1 (by decide) (by decide)) _
        · rw [z2 _ (by decide) (by decide) (by decide), y3, x1 1 (by decide) (by decide) (by decide), e30, uI_off _ _ _ (by decide)]; exact congrFun (hJ.1 1 (by decide) (by decide)) _
        · rw [z2 _ (by decide) (by decide) (by decide), y4, x1 1 (by decide) (by decide) (by decide), e30, uI_off _ _ _ (by decide)]; exact congrFun (hJ.1 1 (by decide) (by decide)) _
        · rw [z3, y1 1 (by decide) (by decide) (by decide) (by decide), x1 1 (by decide) (by decide) (by decide), e30, uI_off _ _ _ (by decide)]; exact congrFun (hJ.1 1 (by decide) (by decide)) _
        · rw [z4, y1 1 (by decide) (by decide) (by decide) (by decide), x1 1 (by decide) (by decide) (by decide), e30, uI_off _ _ _ (by decide)]; exact congrFun (hJ.1 1 (by decide) (by decide)) _
        · rw [z5, y1 1 (by decide) (by decide) (by decide) (by decide), x1 1 (by decide) (by decide) (by decide), e30, uI_off _ _ _ (by decide)]; exact congrFun (hJ.1 1 (by decide) (by decide)) _
      · rw [z1 28 (by decide) (by decide) (by decide) (by decide) (by decide), y1 28 (by decide) (by decide) (by decide) (by decide), x1 28 (by decide) (by decide) (by decide), e30, uI_off _ _ _ (by decide)]; exact hJ.2.2 j j1 j2
      · rw [z1 31 (by decide) (by decide) (by decide) (by decide) (by decide), y1 31 (by decide) (by decide) (by decide) (by decide), x4 j j1 j2, e30, uI_off _ _ _ (by decide), hJ.1 5 (by decide) (by decide)]
      · rw [z1 32 (by decide) (by decide) (by decide) (by decide) (by decide), y1 32 (by decide) (by decide) (by decide) (by decide), x5 j j1 j2, e30, uI_off _ _ _ (by decide), hJ.1 6 (by decide) (by decide)]
      · rw [z1 33 (by decide) (by decide) (by decide) (by decide) (by decide), (y5 j j1 j2).1, x1 7 (by decide) (by decide) (by decide), e30, uI_off _ _ _ (by decide), hJ.1 7 (by decide) (by decide)]
      · rw [z1 34 (by decide) (by decide) (by decide) (by decide) (by decide), (y5 j j1 j2).2.1, x1 8 (by decide) (by decide) (by decide), e30, uI_off _ _ _ (by decide), hJ.1 8 (by decide) (by decide)]
      · rw [z1 35 (by decide) (by decide) (by decide) (by decide) (by decide), (y5 j j1 j2).2.2, x1 9 (by decide) (by decide) (by decide), e30, uI_off _ _ _ (by decide), hJ.1 9 (by decide) (by decide)]
      · rw [(z6 j j1 j2).1, y1 10 (by decide) (by decide) (by decide) (by decide), x1 10 (by decide) (by decide) (by decide), e30, uI_off _ _ _ (by decide), hJ.1 10 (by decide) (by decide)]
      · rw [(z6 j j1 j2).2.1, y1 11 (by decide) (by decide) (by decide) (by decide), x1 11 (by decide) (by decide) (by decide), e30, uI_off _ _ _ (by decide), hJ.1 11 (by decide) (by decide)]
      · rw [(z6 j j1 j2).2.2.1, y1 12 (by decide) (by decide) (by decide) (by decide), x1 12 (by decide) (by decide) (by decide), e30, uI_off _ _ _ (by decide), hJ.1 12 (by decide) (by decide)]
      · rw [(z6 j j1 j2).2.2.2, y1 13 (by decide) (by decide) (by decide) (by decide), x1 13 (by decide) (by decide) (by decide), e30, uI_off _ _ _ (by decide), hJ.1 13 (by decide) (by decide)]
      · rw [z1 c (by omega) (by omega) (by omega) (by omega) (by omega), y1 c (by omega) (by omega) (by omega) (by omega), x1 c (by omega) (by omega) (by omega), e30, uI_off _ _ _ (by omega)]; exact hJ.1 c (by omega) (by omega)
      · rw [hR33.1 c c2]; exact hQr.1 c c1
      · rw [hR33.2 x, if_pos ⟨h1, h2⟩]; exact congrFun (hQr.1 4 (by decide)) _
      · rw [hR33.1 29 (by decide), hQr.2 x, if_pos ⟨h1, by omega⟩]
    · exfalso; omega
  | succ k ih =>
    intro i R hi hQr
    have hS := hS.qc (Q' := R) (b := 29) (by decide) hQr.1
    refine ar_iloadn (k := 14) rfl rfl ?_
    refine ar_iconst (k := 15) rfl ?_
    refine ar_icmp_ge (k := 16) rfl (by omega) (by omega) (fun c16 => ?_) (fun c16 => ?_)
    · exfalso; omega
    · refine ar_aloadn (k := 17) rfl rfl ?_
      refine br_getR (k := 18) rfl (hS.k (by decide)) flW_21_10 (by decide) rfl (hS.r rfl) ?_
      refine ar_iloadn (k := 19) rfl rfl ?_
      refine ar_aloadn (k := 20) rfl rfl ?_
      refine br_getR (k := 21) rfl (hS.k (by decide)) flW_21_10 (by decide) rfl (hS.r rfl) ?_
      refine ar_iloadn (k := 22) rfl rfl ?_
      refine br_aald17 (k := 23) rfl (hS.k (by decide)) (by omega) (by omega) (by decide) rfl ?_
      refine br_aast17 (k := 24) rfl (hS.k (by decide)) (by omega) (by omega) (by decide) (hH.v (x := (i : Int)) (by omega) (by omega) (by show Q 3 (i : Int) = _; rw [hQr.1 3 (by decide)])) ?_
      refine ar_iinc (k := 25) (l2 := [(2, _), (0, _), (1, _)]) rfl (by decide) rfl rfl ?_
      refine ar_goto (k := 26) rfl ?_
      refine ar_sub (l2 := [(2, vi ((i + 1 : Nat) : Int)), (0, vr (some 27)), (1, vr (some 1))]) (tw_s (tw_e 0 rfl (by omega)) (tw_s (tw_g 1 rfl) (tw_s (tw_g 2 rfl) tw_s0))) ?_
      exact ih (i + 1) _ (by omega) (hQr.s (by decide))
theorem c_W_copyFrom_27_1 (hS : tSt (K, I, Q, n)) (hH : QH K Q n 1) (htb : ∀ j : Int, 0 ≤ j → j < 100 → -128 ≤ I 2 j ∧ I 2 j ≤ 127) : tw_M l G 2 0 0 mW_copyFrom [vr (some 27), vr (some 1)] (K, I, Q, n) (fun r h' => r = none ∧ ∃ J R, h' = (K, J, R, n) ∧ FC I J 1 27 ∧ (∀ c, c < 27 ∨ 39 < c → J c = I c) ∧ (∀ c, c ≠ 29 → c ≠ 30 → R c = Q c) ∧ (∀ x, 0 ≤ x → x < 8 → R 30 x = Q 4 x) ∧ (∀ x, 0 ≤ x → x < 5 → R 29 x = Q 3 x)) := by
  refine tw_intro okW_copyFrom (Nat.le_of_ble_eq_true rfl) ?_
  refine ar_aloadn (k := 0) rfl rfl ?_
  refine br_getR (k := 1) rfl (hS.k (by decide)) flW_9_10 (by decide) rfl (hS.r rfl) ?_
  refine ar_iconst (k := 2) rfl ?_
  refine ar_aloadn (k := 3) rfl rfl ?_
  refine br_getR (k := 4) rfl (hS.k (by decide)) flW_9_10 (by decide) rfl (hS.r rfl) ?_
  refine ar_iconst (k := 5) rfl ?_
  refine ar_bipush (k := 6) rfl (by decide) ?_
  refine ar_copybJ (k := 7) (n := 100) rfl lcW_80 (hS.k (by decide)) (hS.k (by decide)) rfl (by decide) (fun j j1 j2 => htb j j1 (by omega)) (by decide) (Nat.le_of_ble_eq_true rfl) (fun I7 e7 f7 => ?_)
  refine ar_aloadn (k := 8) rfl rfl ?_
  refine ar_aloadn (k := 9) rfl rfl ?_
  refine br_getIz (k := 10) (z := 1) rfl (hS.k (by decide)) flW_15_10 (by decide) rfl rfl ?_
  refine br_putIJ (k := 11) rfl (hS.k (by decide)) flW_15_10 (by decide) rfl (fun _ _ _ q => by cases q; exact ⟨rfl, rfl⟩) (fun I11 e11 => ?_)
  change _ = uI _ 27 1 _ at e11
  skip
  refine ar_iconst (k := 12) rfl ?_
  refine ar_istoren (k := 13) (l2 := [(2, _), (0, _), (1, _)]) rfl (by decide) rfl ?_
  refine ar_sub (l2 := [(2, vi ((0 : Nat) : Int)), (0, vr (some 27)), (1, vr (some 1))]) (tw_s (tw_e 0 rfl (by rfl)) (tw_s (tw_g 1 rfl) (tw_s (tw_g 2 rfl) tw_s0))) ?_
  exact l_W_copyFrom_27_1 hS hH ⟨fun c c1 c2 => by rw [e11, uI_off _ _ _ c1, e7 c c2], by rw [e11, uI_at, if_pos rfl, e7 1 (by decide)], fun j j1 j2 => by rw [e11, uI_off _ _ _ (by decide), f7, if_pos ⟨j1, by omega⟩]⟩ 5 0 Q (by omega) qc.rf
theorem c_W_copyTools_14_1 (hS : tSt (K, I, Q, n)) : tw_M l G 1 0 0 mW_copyTools [vr (some 14), vr (some 1)] (K, I, Q, n) (fun r h' => r = none ∧ ∃ J, h' = (K, J, Q, n) ∧ (∀ c, c ≠ 14 → c ≠ 20 → c ≠ 21 → c ≠ 22 → J c = I c) ∧ (∀ k, k ≠ 11 → k ≠ 12 → J 14 k = I 14 k) ∧ J 14 11 = I 1 11 ∧ J 14 12 = I 1 12 ∧ ∀ j, 0 ≤ j → j < 10 → J 20 j = I 7 j ∧ J 21 j = I 8 j ∧ J 22 j = I 9 j) := by
  refine tw_intro okW_copyTools (Nat.le_of_ble_eq_true rfl) ?_
  refine ar_aloadn (k := 0) rfl rfl ?_
  refine br_getR (k := 1) rfl (hS.k (by decide)) flW_44_10 (by decide) rfl (hS.r rfl) ?_
  refine ar_iconst (k := 2) rfl ?_
  refine ar_aloadn (k := 3) rfl rfl ?_
  refine br_getR (k := 4) rfl (hS.k (by decide)) flW_44_10 (by decide) rfl (hS.r rfl) ?_
  refine ar_iconst (k := 5) rfl ?_
  refine ar_bipush (k := 6) rfl (by decide) ?_
  refine ar_copyiJ (k := 7) (n := 10) rfl lcW_80 (hS.k (by decide)) (hS.k (by decide)) rfl (by decide) (by decide) (Nat.le_of_ble_eq_true rfl) (fun I7 e7 f7 => ?_)
  refine ar_aloadn (k := 8) rfl rfl ?_
  refine br_getR (k := 9) rfl (hS.k (by decide)) flW_47_10 (by decide) rfl (hS.r rfl) ?_
  refine ar_iconst (k := 10) rfl ?_
  refine ar_aloadn (k := 11) rfl rfl ?_
  refine br_getR (k := 12) rfl (hS.k (by decide)) flW_47_10 (by decide) rfl (hS.r rfl) ?_
  refine ar_iconst (k := 13) rfl ?_
  refine ar_bipush (k := 14) rfl (by decide) ?_
  refine ar_copyiJ (k := 15) (n := 10) rfl lcW_80 (hS.k (by decide)) (hS.k (by decide)) rfl (by decide) (by decide) (Nat.le_of_ble_eq_true rfl) (fun I15 e15 f15 => ?_)
  refine ar_aloadn (k := 16) rfl rfl ?_
  refine br_getR (k := 17) rfl (hS.k (by decide)) flW_50_10 (by decide) rfl (hS.r rfl) ?_
  refine ar_iconst (k := 18) rfl ?_
  refine ar_aloadn (k := 19) rfl rfl ?_
  refine br_getR (k := 20) rfl (hS.k (by decide)) flW_50_10 (by decide) rfl (hS.r rfl) ?_
  refine ar_iconst (k := 21) rfl ?_
  refine ar_bipush (k := 22) rfl (by decide) ?_
  refine ar_copyiJ (k := 23) (n := 10) rfl lcW_80 (hS.k (by decide)) (hS.k (by decide)) rfl (by decide) (by decide) (Nat.le_of_ble_eq_true rfl) (fun I23 e23 f23 => ?_)
  refine ar_aloadn (k := 24) rfl rfl ?_
  refine ar_aloadn (k := 25) rfl rfl ?_
  refine br_getIz (k := 26) (z := 11) rfl (hS.k (by decide)) flW_53_10 (by decide) rfl rfl ?_
  refine br_putIJ (k := 27) rfl (hS.k (by decide)) flW_53_10 (by decide) rfl (fun _ _ _ q => by cases q; exact ⟨rfl, rfl⟩) (fun I27 e27 => ?_)
  change _ = uI _ 14 11 _ at e27
  skip
  refine ar_aloadn (k := 28) rfl rfl ?_
  refine ar_aloadn (k := 29) rfl rfl ?_
  refine br_getIz (k := 30) (z := 12) rfl (hS.k (by decide)) flW_56_10 (by decide) rfl rfl ?_
  refine br_putIJ (k := 31) rfl (hS.k (by decide)) flW_56_10 (by decide) rfl (fun _ _ _ q => by cases q; exact ⟨rfl, rfl⟩) (fun I31 e31 => ?_)
  change _ = uI _ 14 12 _ at e31
  skip
  refine ar_ret (k := 32) rfl rfl rfl (Nat.le_refl _) ?_
  refine ⟨rfl, I31, rfl, fun c c1 c2 c3 c4 => ?_, fun k k1 k2 => ?_, ?_, ?_, fun j j1 j2 => ⟨?_, ?_, ?_⟩⟩
  · rw [e31, uI_off _ _ _ c1, e27, uI_off _ _ _ c1, e23 c c4, e15 c c3, e7 c c2]
  · rw [e31, uI_at, if_neg k2, e27, uI_at, if_neg k1, e23 _ (by decide), e15 _ (by decide), e7 _ (by decide)]
  · rw [e31, uI_at, if_neg (by decide), e27, uI_at, if_pos rfl, e23 _ (by decide), e15 _ (by decide), e7 _ (by decide)]
  · rw [e31, uI_at, if_pos rfl, e27, uI_off _ _ _ (by decide), e23 _ (by decide), e15 _ (by decide), e7 _ (by decide)]
  · rw [e31, uI_off _ _ _ (by decide), e27, uI_off _ _ _ (by decide), e23 _ (by decide), e15 _ (by decide), f7, if_pos ⟨j1, by omega⟩]
  · rw [e31, uI_off _ _ _ (by decide), e27, uI_off _ _ _ (by decide), e23 _ (by decide), f15, if_pos ⟨j1, by omega⟩, e7 _ (by decide)]
  · rw [e31, uI_off _ _ _ (by decide), e27, uI_off _ _ _ (by decide), f23, if_pos ⟨j1, by omega⟩, e15 _ (by decide), e7 _ (by decide)]
theorem c_W_copyRows_14_1 (hS : tSt (K, I, Q, n)) : tw_M l G 1 0 0 mW_copyRows [vr (some 14), vr (some 1)] (K, I, Q, n) (fun r h' => r = none ∧ ∃ J, h' = (K, J, Q, n) ∧ (∀ c, c ≠ 14 → c ≠ 23 → c ≠ 24 → c ≠ 25 → c ≠ 26 → J c = I c) ∧ (∀ k, k ≠ 15 → k ≠ 16 → k ≠ 19 → J 14 k = I 14 k) ∧ J 14 15 = I 1 15 ∧ J 14 16 = I 1 16 ∧ J 14 19 = I 1 19 ∧ ∀ j, 0 ≤ j → j < 12 → J 23 j = I 10 j ∧ J 24 j = I 11 j ∧ J 25 j = I 12 j ∧ J 26 j = I 13 j) := by
  refine tw_intro okW_copyRows (Nat.le_of_ble_eq_true rfl) ?_
  refine ar_aloadn (k := 0) rfl rfl ?_
  refine br_getR (k := 1) rfl (hS.k (by decide)) flW_59_10 (by decide) rfl (hS.r rfl) ?_
  refine ar_iconst (k := 2) rfl ?_
  refine ar_aloadn (k := 3) rfl rfl ?_
  refine br_getR (k := 4) rfl (hS.k (by decide)) flW_59_10 (by decide) rfl (hS.r rfl) ?_
  refine ar_iconst (k := 5) rfl ?_
  refine ar_bipush (k := 6) rfl (by decide) ?_
  refine ar_copyiJ (k := 7) (n := 12) rfl lcW_80 (hS.k (by decide)) (hS.k (by decide)) rfl (by decide) (by decide) (Nat.le_of_ble_eq_true rfl) (fun I7 e7 f7 => ?_)
  refine ar_aloadn (k := 8) rfl rfl ?_
  refine br_getR (k := 9) rfl (hS.k (by decide)) flW_62_10 (by decide) rfl (hS.r rfl) ?_
  refine ar_iconst (k := 10) rfl ?_
  refine ar_aloadn (k := 11) rfl rfl ?_
  refine br_getR (k := 12) rfl (hS.k (by decide)) flW_62_10 (by decide) rfl (hS.r rfl) ?_
  refine ar_iconst (k := 13) rfl ?_
  refine ar_bipush (k := 14) rfl (by decide) ?_
  refine ar_copyiJ (k := 15) (n := 12) rfl lcW_80 (hS.k (by decide)) (hS.k (by decide)) rfl (by decide) (by decide) (Nat.le_of_ble_eq_true rfl) (fun I15 e15 f15 => ?_)
  refine ar_aloadn (k := 16) rfl rfl ?_
  refine ar_aloadn (k := 17) rfl rfl ?_
  refine br_getIz (k := 18) (z := 15) rfl (hS.k (by decide)) flW_65_10 (by decide) rfl rfl ?_
  refine br_putIJ (k := 19) rfl (hS.k (by decide)) flW_65_10 (by decide) rfl (fun _ _ _ q => by cases q; exact ⟨rfl, rfl⟩) (fun I19 e19 => ?_)
  change _ = uI _ 14 15 _ at e19
  skip
  refine ar_aloadn (k := 20) rfl rfl ?_
  refine ar_aloadn (k := 21) rfl rfl ?_
  refine br_getIz (k := 22) (z := 16) rfl (hS.k (by decide)) flW_68_10 (by decide) rfl rfl ?_
  refine br_putIJ (k := 23) rfl (hS.k (by decide)) flW_68_10 (by decide) rfl (fun _ _ _ q => by cases q; exact ⟨rfl, rfl⟩) (fun I23 e23 => ?_)
  change _ = uI _ 14 16 _ at e23
  skip
  refine ar_aloadn (k := 24) rfl rfl ?_
  refine br_getR (k := 25) rfl (hS.k (by decide)) flW_71_10 (by decide) rfl (hS.r rfl) ?_
  refine ar_iconst (k := 26) rfl ?_
  refine ar_aloadn (k := 27) rfl rfl ?_
  refine br_getR (k := 28) rfl (hS.k (by decide)) flW_71_10 (by decide) rfl (hS.r rfl) ?_
  refine ar_iconst (k := 29) rfl ?_
  refine ar_bipush (k := 30) rfl (by decide) ?_
  refine ar_copyiJ (k := 31) (n := 12) rfl lcW_80 (hS.k (by decide)) (hS.k (by decide)) rfl (by decide) (by decide) (Nat.le_of_ble_eq_true rfl) (fun I31 e31 f31 => ?_)
  refine ar_aloadn (k := 32) rfl rfl ?_
  refine br_getR (k := 33) rfl (hS.k (by decide)) flW_74_10 (by decide) rfl (hS.r rfl) ?_
  refine ar_iconst (k := 34) rfl ?_
  refine ar_aloadn (k := 35) rfl rfl ?_
  refine br_getR (k := 36) rfl (hS.k (by decide)) flW_74_10 (by decide) rfl (hS.r rfl) ?_
  refine ar_iconst (k := 37) rfl ?_
  refine ar_bipush (k := 38) rfl (by decide) ?_
  refine ar_copyiJ (k := 39) (n := 12) rfl lcW_80 (hS.k (by decide)) (hS.k (by decide)) rfl (by decide) (by decide) (Nat.le_of_ble_eq_true rfl) (fun I39 e39 f39 => ?_)
  refine ar_aloadn (k := 40) rfl rfl ?_
  refine ar_aloadn (k := 41) rfl rfl ?_
  refine br_getIz (k := 42) (z := 19) rfl (hS.k (by decide)) flW_77_10 (by decide) rfl rfl ?_
  refine br_putIJ (k := 43) rfl (hS.k (by decide)) flW_77_10 (by decide) rfl (fun _ _ _ q => by cases q; exact ⟨rfl, rfl⟩) (fun I43 e43 => ?_)
  change _ = uI _ 14 19 _ at e43
  skip
  refine ar_ret (k := 44) rfl rfl rfl (Nat.le_refl _) ?_
  refine ⟨rfl, I43, rfl, fun c c1 c2 c3 c4 c5 => ?_, fun k k1 k2 k3 => ?_, ?_, ?_, ?_, fun j j1 j2 => ⟨?_, ?_, ?_, ?_⟩⟩
  · rw [e43, uI_off _ _ _ c1, e39 c c5, e31 c c4, e23, uI_off _ _ _ c1, e19, uI_off _ _ _ c1, e15 c c3, e7 c c2]
  · rw [e43, uI_at, if_neg k3, e39 _ (by decide), e31 _ (by decide), e23, uI_at, if_neg k2, e19, uI_at, if_neg k1, e15 _ (by decide), e7 _ (by decide)]
  · rw [e43, uI_at, if_neg (by decide), e39 _ (by decide), e31 _ (by decide), e23, uI_at, if_neg (by decide), e19, uI_at, if_pos rfl, e15 _ (by decide), e7 _ (by decide)]
  · rw [e43, uI_at, if_neg (by decide), e39 _ (by decide), e31 _ (by decide), e23, uI_at, if_pos rfl, e19, uI_off _ _ _ (by decide), e15 _ (by decide), e7 _ (by decide)]
  · rw [e43, uI_at, if_pos rfl, e39 _ (by decide), e31 _ (by decide), e23, uI_off _ _ _ (by decide), e19, uI_off _ _ _ (by decide), e15 _ (by decide), e7 _ (by decide)]
  · rw [e43, uI_off _ _ _ (by decide), e39 _ (by decide), e31 _ (by decide), e23, uI_off _ _ _ (by decide), e19, uI_off _ _ _ (by decide), e15 _ (by decide), f7, if_pos ⟨j1, by omega⟩]
  · rw [e43, uI_off _ _ _ (by decide), e39 _ (by decide), e31 _ (by decide), e23, uI_off _ _ _ (by decide), e19, uI_off _ _ _ (by decide), f15, if_pos ⟨j1, by omega⟩, e7 _ (by decide)]
  · rw [e43, uI_off _ _ _ (by decide), e39 _ (by decide), f31, if_pos ⟨j1, by omega⟩, e23, uI_off _ _ _ (by decide), e19, uI_off _ _ _ (by decide), e15 _ (by decide), e7 _ (by decide)]
  · rw [e43, uI_off _ _ _ (by decide), f39, if_pos ⟨j1, by omega⟩, e31 _ (by decide), e23, uI_off _ _ _ (by decide), e19, uI_off _ _ _ (by decide), e15 _ (by decide), e7 _ (by decide)]
theorem l_W_copyPeople_14_1 (hS : tSt (K, I, Q, n)) (hH : QH K Q n 1) : ∀ (k : Nat) (i : Nat) (R : Nat → Int → Option Nat), i + k = 8 → qc Q R 4 17 (i : Int) → tw_AW l G mW_copyPeople 1 0 0 n 0 ((fun r h' => r = none ∧ ∃ J R, h' = (K, J, R, n) ∧ qc Q R 4 17 8 ∧ (∀ c, c ≠ 14 → c ≠ 18 → c ≠ 19 → J c = I c) ∧ (∀ k, k ≠ 5 → J 14 k = I 14 k) ∧ J 14 5 = I 1 5 ∧ (∀ j, 0 ≤ j → j < 8 → J 18 j = I 5 j) ∧ ∀ j, 0 ≤ j → j < 32 → J 19 j = I 6 j)) 2 [(2, vi (i : Int)), (0, vr (some 14)), (1, vr (some 1))] [] (K, I, R, n) := by
  intro k
  induction k with
  | zero =>
    intro i R hi hQr
    have hS := hS.qc (Q' := R) (b := 17) (by decide) hQr.1
    refine ar_iloadn (k := 2) rfl rfl ?_
    refine ar_bipush (k := 3) rfl (by decide) ?_
    refine ar_icmp_ge (k := 4) rfl (by omega) (by omega) (fun c4 => ?_) (fun c4 => ?_)
    · refine ar_aloadn (k := 15) rfl rfl ?_
      refine ar_aloadn (k := 16) rfl rfl ?_
      refine br_getIz (k := 17) (z := 5) rfl (hS.k (by decide)) flW_34_10 (by decide) rfl rfl ?_
      refine br_putIJ (k := 18) rfl (hS.k (by decide)) flW_34_10 (by decide) rfl (fun _ _ _ q => by cases q; exact ⟨rfl, rfl⟩) (fun I18 e18 => ?_)
      change _ = uI _ 14 5 _ at e18
      skip
      refine ar_aloadn (k := 19) rfl rfl ?_
      refine br_getR (k := 20) rfl (hS.k (by decide)) flW_37_10 (by decide) rfl (hS.r rfl) ?_
      refine ar_iconst (k := 21) rfl ?_
      refine ar_aloadn (k := 22) rfl rfl ?_
      refine br_getR (k := 23) rfl (hS.k (by decide)) flW_37_10 (by decide) rfl (hS.r rfl) ?_
      refine ar_iconst (k := 24) rfl ?_
      refine ar_bipush (k := 25) rfl (by decide) ?_
      refine ar_copyiJ (k := 26) (n := 8) rfl lcW_80 (hS.k (by decide)) (hS.k (by decide)) rfl (by decide) (by decide) (Nat.le_of_ble_eq_true rfl) (fun I26 e26 f26 => ?_)
      refine ar_aloadn (k := 27) rfl rfl ?_
      refine br_getR (k := 28) rfl (hS.k (by decide)) flW_41_10 (by decide) rfl (hS.r rfl) ?_
      refine ar_iconst (k := 29) rfl ?_
      refine ar_aloadn (k := 30) rfl rfl ?_
      refine br_getR (k := 31) rfl (hS.k (by decide)) flW_41_10 (by decide) rfl (hS.r rfl) ?_
      refine ar_iconst (k := 32) rfl ?_
      refine ar_bipush (k := 33) rfl (by decide) ?_
      refine ar_copyiJ (k := 34) (n := 32) rfl lcW_80 (hS.k (by decide)) (hS.k (by decide)) rfl (by decide) (by decide) (Nat.le_of_ble_eq_true rfl) (fun I34 e34 f34 => ?_)
      refine ar_ret (k := 35) rfl rfl rfl (Nat.le_refl _) ?_
      refine ⟨rfl, I34, R, rfl, by rw [show (8 : Int) = (i : Int) by omega]; exact hQr, fun c c1 c2 c3 => ?_, fun k k1 => ?_, ?_, fun j j1 j2 => ?_, fun j j1 j2 => ?_⟩
      · rw [e34 c c3, e26 c c2, e18, uI_off _ _ _ c1]
      · rw [e34 _ (by decide), e26 _ (by decide), e18, uI_at, if_neg k1]
      · rw [e34 _ (by decide), e26 _ (by decide), e18, uI_at, if_pos rfl]
      · rw [e34 _ (by decide), f26, if_pos ⟨j1, by omega⟩, e18, uI_off _ _ _ (by decide)]
      · rw [f34, if_pos ⟨j1, by omega⟩, e26 _ (by decide), e18, uI_off _ _ _ (by decide)]
    · exfalso; omega
  | succ k ih =>
    intro i R hi hQr
    have hS := hS.qc (Q' := R) (b := 17) (by decide) hQr.1
    refine ar_iloadn (k := 2) rfl rfl ?_
    refine ar_bipush (k := 3) rfl (by decide) ?_
    refine ar_icmp_ge (k := 4) rfl (by omega) (by omega) (fun c4 => ?_) (fun c4 => ?_)
    · exfalso; omega
    · refine ar_aloadn (k := 5) rfl rfl ?_
      refine br_getR (k := 6) rfl (hS.k (by decide)) flW_30_10 (by decide) rfl (hS.r rfl) ?_
      refine ar_iloadn (k := 7) rfl rfl ?_
      refine ar_aloadn (k := 8) rfl rfl ?_
      refine br_getR (k := 9) rfl (hS.k (by decide)) flW_30_10 (by decide) rfl (hS.r rfl) ?_
      refine ar_iloadn (k := 10) rfl rfl ?_
      refine br_aald16 (k := 11) rfl (hS.k (by decide)) (by omega) (by omega) (by decide) rfl ?_
      refine br_aast16 (k := 12) rfl (hS.k (by decide)) (by omega) (by omega) (by decide) (hH.h (x := (i : Int)) (by omega) (by omega) (by show Q 4 (i : Int) = _; rw [hQr.1 4 (by decide)])) ?_
      refine ar_iinc (k := 13) (l2 := [(2, _), (0, _), (1, _)]) rfl (by decide) rfl rfl ?_
      refine ar_goto (k := 14) rfl ?_
      refine ar_sub (l2 := [(2, vi ((i + 1 : Nat) : Int)), (0, vr (some 14)), (1, vr (some 1))]) (tw_s (tw_e 0 rfl (by omega)) (tw_s (tw_g 1 rfl) (tw_s (tw_g 2 rfl) tw_s0))) ?_
      exact ih (i + 1) _ (by omega) (hQr.s (by decide))
theorem c_W_copyPeople_14_1 (hS : tSt (K, I, Q, n)) (hH : QH K Q n 1) : tw_M l G 1 0 0 mW_copyPeople [vr (some 14), vr (some 1)] (K, I, Q, n) (fun r h' => r = none ∧ ∃ J R, h' = (K, J, R, n) ∧ qc Q R 4 17 8 ∧ (∀ c, c ≠ 14 → c ≠ 18 → c ≠ 19 → J c = I c) ∧ (∀ k, k ≠ 5 → J 14 k = I 14 k) ∧ J 14 5 = I 1 5 ∧ (∀ j, 0 ≤ j → j < 8 → J 18 j = I 5 j) ∧ ∀ j, 0 ≤ j → j < 32 → J 19 j = I 6 j) := by
  refine tw_intro okW_copyPeople (Nat.le_of_ble_eq_true rfl) ?_
  refine ar_iconst (k := 0) rfl ?_
  refine ar_istoren (k := 1) (l2 := [(2, _), (0, _), (1, _)]) rfl (by decide) rfl ?_
  refine ar_sub (l2 := [(2, vi ((0 : Nat) : Int)), (0, vr (some 14)), (1, vr (some 1))]) (tw_s (tw_e 0 rfl (by rfl)) (tw_s (tw_g 1 rfl) (tw_s (tw_g 2 rfl) tw_s0))) ?_
  exact l_W_copyPeople_14_1 hS hH 8 0 Q (by omega) qc.rf
theorem l_W_copyFrom_14_1 {J : Nat → Int → Int} (hS : tSt (K, I, Q, n)) (hH : QH K Q n 1) (hJ : (∀ c, c ≠ 14 → c ≠ 15 → J c = I c) ∧ J 14 1 = I 1 1 ∧ ∀ j, 0 ≤ j → j < 100 → J 15 j = I 2 j) : ∀ (k : Nat) (i : Nat) (R : Nat → Int → Option Nat), i + k = 5 → qc Q R 3 16 (i : Int) → tw_AW l G mW_copyFrom 2 0 0 n 0 ((fun r h' => r = none ∧ ∃ J R, h' = (K, J, R, n) ∧ FC I J 1 14 ∧ (∀ c, c < 14 ∨ 26 < c → J c = I c) ∧ (∀ c, c ≠ 16 → c ≠ 17 → R c = Q c) ∧ (∀ x, 0 ≤ x → x < 8 → R 17 x = Q 4 x) ∧ (∀ x, 0 ≤ x → x < 5 → R 16 x = Q 3 x))) 25 [(2, vi (i : Int)), (0, vr (some 14)), (1, vr (some 1))] [] (K, J, R, n) := by
  intro k
  induction k with
  | zero =>
    intro i R hi hQr
    have hS := hS.qc (Q' := R) (b := 16) (by decide) hQr.1
    refine ar_iloadn (k := 14) rfl rfl ?_
    refine ar_iconst (k := 15) rfl ?_
    refine ar_icmp_ge (k := 16) rfl (by omega) (by omega) (fun c16 => ?_) (fun c16 => ?_)
    · refine ar_aloadn (k := 27) rfl rfl ?_
      refine ar_aloadn (k := 28) rfl rfl ?_
      refine br_getIz (k := 29) (z := 3) rfl (hS.k (by decide)) flW_25_10 (by decide) rfl rfl ?_
      refine br_putIJ (k := 30) rfl (hS.k (by decide)) flW_25_10 (by decide) rfl (fun _ _ _ q => by cases q; exact ⟨rfl, rfl⟩) (fun I30 e30 => ?_)
      change _ = uI _ 14 3 _ at e30
      skip
      refine ar_aloadn (k := 31) rfl rfl ?_
      refine ar_aloadn (k := 32) rfl rfl ?_
      refine ar_callV (k := 33) (as := [_]) rfl lvW_86 (hS.k (by decide)) rfl (c_W_copyPeople_14_1 hS (by refine ⟨fun x x1 x2 b hb => ?_, fun x x1 x2 b hb => ?_⟩; exact hH.1 x x1 x2 b (by rw [← hQr.1 4 (by decide)]; exact hb); exact hH.2 x x1 x2 b (by rw [← hQr.1 3 (by decide)]; exact hb))) rfl (by decide) (by decide) tw_m0 (Nat.le_of_ble_eq_true rfl) (fun r33 h33 p33 => ?_)
      obtain ⟨rfl, I33, R33, rfl, hR33, p33⟩ := p33
      have hS : tSt (K, I33, R33, n) := hS.qc (b := 17) (by decide) hR33.1
      refine ar_aloadn (k := 34) rfl rfl ?_
      refine ar_aloadn (k := 35) rfl rfl ?_
      refine ar_callV (k := 36) (as := [_]) rfl lvW_90 (hS.k (by decide)) rfl (c_W_copyTools_14_1 hS) rfl (by decide) (by decide) tw_m0 (Nat.le_of_ble_eq_true rfl) (fun r36 h36 p36 => ?_)
      obtain ⟨rfl, I36, rfl, p36⟩ := p36
      refine ar_aloadn (k := 37) rfl rfl ?_
      refine ar_aloadn (k := 38) rfl rfl ?_
      refine ar_callV (k := 39) (as := [_]) rfl lvW_93 (hS.k (by decide)) rfl (c_W_copyRows_14_1 hS) rfl (by decide) (by decide) tw_m0 (Nat.le_of_ble_eq_true rfl) (fun r39 h39 p39 => ?_)
      obtain ⟨rfl, I39, rfl, p39⟩ := p39
      refine ar_ret (k := 40) rfl rfl rfl (Nat.le_refl _) ?_
      obtain ⟨x1, x2, x3, x4, x5⟩ := p33
      obtain ⟨y1, y2, y3, y4, y5⟩ := p36
      obtain ⟨z1, z2, z3, z4, z5, z6⟩ := p39
      refine ⟨rfl, I39, R33, rfl, ⟨fun k hk => ?_, fun j j1 j2 => ?_, fun j j1 j2 => ?_, fun j j1 j2 => ?_, fun j j1 j2 => ⟨?_, ?_, ?_⟩, fun j j1 j2 => ⟨?_, ?_, ?_, ?_⟩⟩, fun c hc => ?_, fun c c1 c2 => ?_, fun x h1 h2 => ?_, fun x h1 h2 => ?_⟩
      · have u30 : ∀ k, I30 14 k = if k = 3 then I 1 3 else J 14 k := fun k => by
          rw [e30, uI_at]; by_cases g : k = 3
          · rw [if_pos g, if_pos g]; exact congrFun (hJ.1 1 (by decide) (by decide)) _
          · rw [if_neg g, if_neg g]
        rcases hk with rfl | rfl | rfl | rfl | rfl | rfl | rfl | rfl
        · rw [z2 _ (by decide) (by decide) (by decide), y2 _ (by decide) (by decide), x2 _ (by decide), u30, if_neg (by decide)]; exact hJ.2.1
        · rw [z2 _ (by decide) (by decide) (by decide), y2 _ (by decide) (by decide), x2 _ (by decide), u30, if_pos rfl]
        · rw [z2 _ (by decide) (by decide) (by decide), y2 _ (by decide) (by decide), x3, e30, uI_off _ _ _ (by decide)]; exact congrFun (hJ.1 1 (by decide) (by decide)) _
        · rw [z2 _ (by decide) (by decide) (by decide), y3, x1 1 (by decide) (by decide) (by decide), e30, uI_off _ _ _ (by decide)]; exact congrFun (hJ.1 1 (by decide) (by decide)) _
        · rw [z2 _ (by decide) (by decide) (by decide), y4, x1 1 (by decide) (by decide) (by decide), e30, uI_off _ _ _ (by decide)]; exact congrFun (hJ.1 1 (by decide) (by decide)) _
        · rw [z3, y1 1 (by decide) (by decide) (by decide) (by decide), x1 1 (by decide) (by decide) (by decide), e30, uI_off _ _ _ (by decide)]; exact congrFun (hJ.1 1 (by decide) (by decide)) _
        · rw [z4, y1 1 (by decide) (by decide) (by decide) (by decide), x1 1 (by decide) (by decide) (by decide), e30, uI_off _ _ _ (by decide)]; exact congrFun (hJ.1 1 (by decide) (by decide)) _
        · rw [z5, y1 1 (by decide) (by decide) (by decide) (by decide), x1 1 (by decide) (by decide) (by decide), e30, uI_off _ _ _ (by decide)]; exact congrFun (hJ.1 1 (by decide) (by decide)) _
      · rw [z1 15 (by decide) (by decide) (by decide) (by decide) (by decide), y1 15 (by decide) (by decide) (by decide) (by decide), x1 15 (by decide) (by decide) (by decide), e30, uI_off _ _ _ (by decide)]; exact hJ.2.2 j j1 j2
      · rw [z1 18 (by decide) (by decide) (by decide) (by decide) (by decide), y1 18 (by decide) (by decide) (by decide) (by decide), x4 j j1 j2, e30, uI_off _ _ _ (by decide), hJ.1 5 (by decide) (by decide)]
      · rw [z1 19 (by decide) (by decide) (by decide) (by decide) (by decide), y1 19 (by decide) (by decide) (by decide) (by decide), x5 j j1 j2, e30, uI_off _ _ _ (by decide), hJ.1 6 (by decide) (by decide)]
      · rw [z1 20 (by decide) (by decide) (by decide) (by decide) (by decide), (y5 j j1 j2).1, x1 7 (by decide) (by decide) (by decide), e30, uI_off _ _ _ (by decide), hJ.1 7 (by decide) (by decide)]
      · rw [z1 21 (by decide) (by decide) (by decide) (by decide) (by decide), (y5 j j1 j2).2.1, x1 8 (by decide) (by decide) (by decide), e30, uI_off _ _ _ (by decide), hJ.1 8 (by decide) (by decide)]
      · rw [z1 22 (by decide) (by decide) (by decide) (by decide) (by decide), (y5 j j1 j2).2.2, x1 9 (by decide) (by decide) (by decide), e30, uI_off _ _ _ (by decide), hJ.1 9 (by decide) (by decide)]
      · rw [(z6 j j1 j2).1, y1 10 (by decide) (by decide) (by decide) (by decide), x1 10 (by decide) (by decide) (by decide), e30, uI_off _ _ _ (by decide), hJ.1 10 (by decide) (by decide)]
      · rw [(z6 j j1 j2).2.1, y1 11 (by decide) (by decide) (by decide) (by decide), x1 11 (by decide) (by decide) (by decide), e30, uI_off _ _ _ (by decide), hJ.1 11 (by decide) (by decide)]
      · rw [(z6 j j1 j2).2.2.1, y1 12 (by decide) (by decide) (by decide) (by decide), x1 12 (by decide) (by decide) (by decide), e30, uI_off _ _ _ (by decide), hJ.1 12 (by decide) (by decide)]
      · rw [(z6 j j1 j2).2.2.2, y1 13 (by decide) (by decide) (by decide) (by decide), x1 13 (by decide) (by decide) (by decide), e30, uI_off _ _ _ (by decide), hJ.1 13 (by decide) (by decide)]
      · rw [z1 c (by omega) (by omega) (by omega) (by omega) (by omega), y1 c (by omega) (by omega) (by omega) (by omega), x1 c (by omega) (by omega) (by omega), e30, uI_off _ _ _ (by omega)]; exact hJ.1 c (by omega) (by omega)
      · rw [hR33.1 c c2]; exact hQr.1 c c1
      · rw [hR33.2 x, if_pos ⟨h1, h2⟩]; exact congrFun (hQr.1 4 (by decide)) _
      · rw [hR33.1 16 (by decide), hQr.2 x, if_pos ⟨h1, by omega⟩]
    · exfalso; omega
  | succ k ih =>
    intro i R hi hQr
    have hS := hS.qc (Q' := R) (b := 16) (by decide) hQr.1
    refine ar_iloadn (k := 14) rfl rfl ?_
    refine ar_iconst (k := 15) rfl ?_
    refine ar_icmp_ge (k := 16) rfl (by omega) (by omega) (fun c16 => ?_) (fun c16 => ?_)
    · exfalso; omega
    · refine ar_aloadn (k := 17) rfl rfl ?_
      refine br_getR (k := 18) rfl (hS.k (by decide)) flW_21_10 (by decide) rfl (hS.r rfl) ?_
      refine ar_iloadn (k := 19) rfl rfl ?_
      refine ar_aloadn (k := 20) rfl rfl ?_
      refine br_getR (k := 21) rfl (hS.k (by decide)) flW_21_10 (by decide) rfl (hS.r rfl) ?_
      refine ar_iloadn (k := 22) rfl rfl ?_
      refine br_aald17 (k := 23) rfl (hS.k (by decide)) (by omega) (by omega) (by decide) rfl ?_
      refine br_aast17 (k := 24) rfl (hS.k (by decide)) (by omega) (by omega) (by decide) (hH.v (x := (i : Int)) (by omega) (by omega) (by show Q 3 (i : Int) = _; rw [hQr.1 3 (by decide)])) ?_
      refine ar_iinc (k := 25) (l2 := [(2, _), (0, _), (1, _)]) rfl (by decide) rfl rfl ?_
      refine ar_goto (k := 26) rfl ?_
      refine ar_sub (l2 := [(2, vi ((i + 1 : Nat) : Int)), (0, vr (some 14)), (1, vr (some 1))]) (tw_s (tw_e 0 rfl (by omega)) (tw_s (tw_g 1 rfl) (tw_s (tw_g 2 rfl) tw_s0))) ?_
      exact ih (i + 1) _ (by omega) (hQr.s (by decide))
theorem c_W_copyFrom_14_1 (hS : tSt (K, I, Q, n)) (hH : QH K Q n 1) (htb : ∀ j : Int, 0 ≤ j → j < 100 → -128 ≤ I 2 j ∧ I 2 j ≤ 127) : tw_M l G 2 0 0 mW_copyFrom [vr (some 14), vr (some 1)] (K, I, Q, n) (fun r h' => r = none ∧ ∃ J R, h' = (K, J, R, n) ∧ FC I J 1 14 ∧ (∀ c, c < 14 ∨ 26 < c → J c = I c) ∧ (∀ c, c ≠ 16 → c ≠ 17 → R c = Q c) ∧ (∀ x, 0 ≤ x → x < 8 → R 17 x = Q 4 x) ∧ (∀ x, 0 ≤ x → x < 5 → R 16 x = Q 3 x)) := by
  refine tw_intro okW_copyFrom (Nat.le_of_ble_eq_true rfl) ?_
  refine ar_aloadn (k := 0) rfl rfl ?_
  refine br_getR (k := 1) rfl (hS.k (by decide)) flW_9_10 (by decide) rfl (hS.r rfl) ?_
  refine ar_iconst (k := 2) rfl ?_
  refine ar_aloadn (k := 3) rfl rfl ?_
  refine br_getR (k := 4) rfl (hS.k (by decide)) flW_9_10 (by decide) rfl (hS.r rfl) ?_
  refine ar_iconst (k := 5) rfl ?_
  refine ar_bipush (k := 6) rfl (by decide) ?_
  refine ar_copybJ (k := 7) (n := 100) rfl lcW_80 (hS.k (by decide)) (hS.k (by decide)) rfl (by decide) (fun j j1 j2 => htb j j1 (by omega)) (by decide) (Nat.le_of_ble_eq_true rfl) (fun I7 e7 f7 => ?_)
  refine ar_aloadn (k := 8) rfl rfl ?_
  refine ar_aloadn (k := 9) rfl rfl ?_
  refine br_getIz (k := 10) (z := 1) rfl (hS.k (by decide)) flW_15_10 (by decide) rfl rfl ?_
  refine br_putIJ (k := 11) rfl (hS.k (by decide)) flW_15_10 (by decide) rfl (fun _ _ _ q => by cases q; exact ⟨rfl, rfl⟩) (fun I11 e11 => ?_)
  change _ = uI _ 14 1 _ at e11
  skip
  refine ar_iconst (k := 12) rfl ?_
  refine ar_istoren (k := 13) (l2 := [(2, _), (0, _), (1, _)]) rfl (by decide) rfl ?_
  refine ar_sub (l2 := [(2, vi ((0 : Nat) : Int)), (0, vr (some 14)), (1, vr (some 1))]) (tw_s (tw_e 0 rfl (by rfl)) (tw_s (tw_g 1 rfl) (tw_s (tw_g 2 rfl) tw_s0))) ?_
  exact l_W_copyFrom_14_1 hS hH ⟨fun c c1 c2 => by rw [e11, uI_off _ _ _ c1, e7 c c2], by rw [e11, uI_at, if_pos rfl, e7 1 (by decide)], fun j j1 j2 => by rw [e11, uI_off _ _ _ (by decide), f7, if_pos ⟨j1, by omega⟩]⟩ 5 0 Q (by omega) qc.rf
theorem c_W_copyTools_1_14 (hS : tSt (K, I, Q, n)) : tw_M l G 1 0 0 mW_copyTools [vr (some 1), vr (some 14)] (K, I, Q, n) (fun r h' => r = none ∧ ∃ J, h' = (K, J, Q, n) ∧ (∀ c, c ≠ 1 → c ≠ 7 → c ≠ 8 → c ≠ 9 → J c = I c) ∧ (∀ k, k ≠ 11 → k ≠ 12 → J 1 k = I 1 k) ∧ J 1 11 = I 14 11 ∧ J 1 12 = I 14 12 ∧ ∀ j, 0 ≤ j → j < 10 → J 7 j = I 20 j ∧ J 8 j = I 21 j ∧ J 9 j = I 22 j) := by
  refine tw_intro okW_copyTools (Nat.le_of_ble_eq_true rfl) ?_
  refine ar_aloadn (k := 0) rfl rfl ?_
  refine br_getR (k := 1) rfl (hS.k (by decide)) flW_44_10 (by decide) rfl (hS.r rfl) ?_
  refine ar_iconst (k := 2) rfl ?_
  refine ar_aloadn (k := 3) rfl rfl ?_
  refine br_getR (k := 4) rfl (hS.k (by decide)) flW_44_10 (by decide) rfl (hS.r rfl) ?_
  refine ar_iconst (k := 5) rfl ?_
  refine ar_bipush (k := 6) rfl (by decide) ?_
  refine ar_copyiJ (k := 7) (n := 10) rfl lcW_80 (hS.k (by decide)) (hS.k (by decide)) rfl (by decide) (by decide) (Nat.le_of_ble_eq_true rfl) (fun I7 e7 f7 => ?_)
  refine ar_aloadn (k := 8) rfl rfl ?_
  refine br_getR (k := 9) rfl (hS.k (by decide)) flW_47_10 (by decide) rfl (hS.r rfl) ?_
  refine ar_iconst (k := 10) rfl ?_
  refine ar_aloadn (k := 11) rfl rfl ?_
  refine br_getR (k := 12) rfl (hS.k (by decide)) flW_47_10 (by decide) rfl (hS.r rfl) ?_
  refine ar_iconst (k := 13) rfl ?_
  refine ar_bipush (k := 14) rfl (by decide) ?_
  refine ar_copyiJ (k := 15) (n := 10) rfl lcW_80 (hS.k (by decide)) (hS.k (by decide)) rfl (by decide) (by decide) (Nat.le_of_ble_eq_true rfl) (fun I15 e15 f15 => ?_)
  refine ar_aloadn (k := 16) rfl rfl ?_
  refine br_getR (k := 17) rfl (hS.k (by decide)) flW_50_10 (by decide) rfl (hS.r rfl) ?_
  refine ar_iconst (k := 18) rfl ?_
  refine ar_aloadn (k := 19) rfl rfl ?_
  refine br_getR (k := 20) rfl (hS.k (by decide)) flW_50_10 (by decide) rfl (hS.r rfl) ?_
  refine ar_iconst (k := 21) rfl ?_
  refine ar_bipush (k := 22) rfl (by decide) ?_
  refine ar_copyiJ (k := 23) (n := 10) rfl lcW_80 (hS.k (by decide)) (hS.k (by decide)) rfl (by decide) (by decide) (Nat.le_of_ble_eq_true rfl) (fun I23 e23 f23 => ?_)
  refine ar_aloadn (k := 24) rfl rfl ?_
  refine ar_aloadn (k := 25) rfl rfl ?_
  refine br_getIz (k := 26) (z := 11) rfl (hS.k (by decide)) flW_53_10 (by decide) rfl rfl ?_
  refine br_putIJ (k := 27) rfl (hS.k (by decide)) flW_53_10 (by decide) rfl (fun _ _ _ q => by cases q; exact ⟨rfl, rfl⟩) (fun I27 e27 => ?_)
  change _ = uI _ 1 11 _ at e27
  skip
  refine ar_aloadn (k := 28) rfl rfl ?_
  refine ar_aloadn (k := 29) rfl rfl ?_
  refine br_getIz (k := 30) (z := 12) rfl (hS.k (by decide)) flW_56_10 (by decide) rfl rfl ?_
  refine br_putIJ (k := 31) rfl (hS.k (by decide)) flW_56_10 (by decide) rfl (fun _ _ _ q => by cases q; exact ⟨rfl, rfl⟩) (fun I31 e31 => ?_)
  change _ = uI _ 1 12 _ at e31
  skip
  refine ar_ret (k := 32) rfl rfl rfl (Nat.le_refl _) ?_
  refine ⟨rfl, I31, rfl, fun c c1 c2 c3 c4 => ?_, fun k k1 k2 => ?_, ?_, ?_, fun j j1 j2 => ⟨?_, ?_, ?_⟩⟩
  · rw [e31, uI_off _ _ _ c1, e27, uI_off _ _ _ c1, e23 c c4, e15 c c3, e7 c c2]
  · rw [e31, uI_at, if_neg k2, e27, uI_at, if_neg k1, e23 _ (by decide), e15 _ (by decide), e7 _ (by decide)]
  · rw [e31, uI_at, if_neg (by decide), e27, uI_at, if_pos rfl, e23 _ (by decide), e15 _ (by decide), e7 _ (by decide)]
  · rw [e31, uI_at, if_pos rfl, e27, uI_off _ _ _ (by decide), e23 _ (by decide), e15 _ (by decide), e7 _ (by decide)]
  · rw [e31, uI_off _ _ _ (by decide), e27, uI_off _ _ _ (by decide), e23 _ (by decide), e15 _ (by decide), f7, if_pos ⟨j1, by omega⟩]
  · rw [e31, uI_off _ _ _ (by decide), e27, uI_off _ _ _ (by decide), e23 _ (by decide), f15, if_pos ⟨j1, by omega⟩, e7 _ (by decide)]
  · rw [e31, uI_off _ _ _ (by decide), e27, uI_off _ _ _ (by decide), f23, if_pos ⟨j1, by omega⟩, e15 _ (by decide), e7 _ (by decide)]
theorem c_W_copyRows_1_14 (hS : tSt (K, I, Q, n)) : tw_M l G 1 0 0 mW_copyRows [vr (some 1), vr (some 14)] (K, I, Q, n) (fun r h' => r = none ∧ ∃ J, h' = (K, J, Q, n) ∧ (∀ c, c ≠ 1 → c ≠ 10 → c ≠ 11 → c ≠ 12 → c ≠ 13 → J c = I c) ∧ (∀ k, k ≠ 15 → k ≠ 16 → k ≠ 19 → J 1 k = I 1 k) ∧ J 1 15 = I 14 15 ∧ J 1 16 = I 14 16 ∧ J 1 19 = I 14 19 ∧ ∀ j, 0 ≤ j → j < 12 → J 10 j = I 23 j ∧ J 11 j = I 24 j ∧ J 12 j = I 25 j ∧ J 13 j = I 26 j) := by
  refine tw_intro okW_copyRows (Nat.le_of_ble_eq_true rfl) ?_
  refine ar_aloadn (k := 0) rfl rfl ?_
  refine br_getR (k := 1) rfl (hS.k (by decide)) flW_59_10 (by decide) rfl (hS.r rfl) ?_
  refine ar_iconst (k := 2) rfl ?_
  refine ar_aloadn (k := 3) rfl rfl ?_
  refine br_getR (k := 4) rfl (hS.k (by decide)) flW_59_10 (by decide) rfl (hS.r rfl) ?_
  refine ar_iconst (k := 5) rfl ?_
  refine ar_bipush (k := 6) rfl (by decide) ?_
  refine ar_copyiJ (k := 7) (n := 12) rfl lcW_80 (hS.k (by decide)) (hS.k (by decide)) rfl (by decide) (by decide) (Nat.le_of_ble_eq_true rfl) (fun I7 e7 f7 => ?_)
  refine ar_aloadn (k := 8) rfl rfl ?_
  refine br_getR (k := 9) rfl (hS.k (by decide)) flW_62_10 (by decide) rfl (hS.r rfl) ?_
  refine ar_iconst (k := 10) rfl ?_
  refine ar_aloadn (k := 11) rfl rfl ?_
  refine br_getR (k := 12) rfl (hS.k (by decide)) flW_62_10 (by decide) rfl (hS.r rfl) ?_
  refine ar_iconst (k := 13) rfl ?_
  refine ar_bipush (k := 14) rfl (by decide) ?_
  refine ar_copyiJ (k := 15) (n := 12) rfl lcW_80 (hS.k (by decide)) (hS.k (by decide)) rfl (by decide) (by decide) (Nat.le_of_ble_eq_true rfl) (fun I15 e15 f15 => ?_)
  refine ar_aloadn (k := 16) rfl rfl ?_
  refine ar_aloadn (k := 17) rfl rfl ?_
  refine br_getIz (k := 18) (z := 15) rfl (hS.k (by decide)) flW_65_10 (by decide) rfl rfl ?_
  refine br_putIJ (k := 19) rfl (hS.k (by decide)) flW_65_10 (by decide) rfl (fun _ _ _ q => by cases q; exact ⟨rfl, rfl⟩) (fun I19 e19 => ?_)
  change _ = uI _ 1 15 _ at e19
  skip
  refine ar_aloadn (k := 20) rfl rfl ?_
  refine ar_aloadn (k := 21) rfl rfl ?_
  refine br_getIz (k := 22) (z := 16) rfl (hS.k (by decide)) flW_68_10 (by decide) rfl rfl ?_
  refine br_putIJ (k := 23) rfl (hS.k (by decide)) flW_68_10 (by decide) rfl (fun _ _ _ q => by cases q; exact ⟨rfl, rfl⟩) (fun I23 e23 => ?_)
  change _ = uI _ 1 16 _ at e23
  skip
  refine ar_aloadn (k := 24) rfl rfl ?_
  refine br_getR (k := 25) rfl (hS.k (by decide)) flW_71_10 (by decide) rfl (hS.r rfl) ?_
  refine ar_iconst (k := 26) rfl ?_
  refine ar_aloadn (k := 27) rfl rfl ?_
  refine br_getR (k := 28) rfl (hS.k (by decide)) flW_71_10 (by decide) rfl (hS.r rfl) ?_
  refine ar_iconst (k := 29) rfl ?_
  refine ar_bipush (k := 30) rfl (by decide) ?_
  refine ar_copyiJ (k := 31) (n := 12) rfl lcW_80 (hS.k (by decide)) (hS.k (by decide)) rfl (by decide) (by decide) (Nat.le_of_ble_eq_true rfl) (fun I31 e31 f31 => ?_)
  refine ar_aloadn (k := 32) rfl rfl ?_
  refine br_getR (k := 33) rfl (hS.k (by decide)) flW_74_10 (by decide) rfl (hS.r rfl) ?_
  refine ar_iconst (k := 34) rfl ?_
  refine ar_aloadn (k := 35) rfl rfl ?_
  refine br_getR (k := 36) rfl (hS.k (by decide)) flW_74_10 (by decide) rfl (hS.r rfl) ?_
  refine ar_iconst (k := 37) rfl ?_
  refine ar_bipush (k := 38) rfl (by decide) ?_
  refine ar_copyiJ (k := 39) (n := 12) rfl lcW_80 (hS.k (by decide)) (hS.k (by decide)) rfl (by decide) (by decide) (Nat.le_of_ble_eq_true rfl) (fun I39 e39 f39 => ?_)
  refine ar_aloadn (k := 40) rfl rfl ?_
  refine ar_aloadn (k := 41) rfl rfl ?_
  refine br_getIz (k := 42) (z := 19) rfl (hS.k (by decide)) flW_77_10 (by decide) rfl rfl ?_
  refine br_putIJ (k := 43) rfl (hS.k (by decide)) flW_77_10 (by decide) rfl (fun _ _ _ q => by cases q; exact ⟨rfl, rfl⟩) (fun I43 e43 => ?_)
  change _ = uI _ 1 19 _ at e43
  skip
  refine ar_ret (k := 44) rfl rfl rfl (Nat.le_refl _) ?_
  refine ⟨rfl, I43, rfl, fun c c1 c2 c3 c4 c5 => ?_, fun k k1 k2 k3 => ?_, ?_, ?_, ?_, fun j j1 j2 => ⟨?_, ?_, ?_, ?_⟩⟩
  · rw [e43, uI_off _ _ _ c1, e39 c c5, e31 c c4, e23, uI_off _ _ _ c1, e19, uI_off _ _ _ c1, e15 c c3, e7 c c2]
  · rw [e43, uI_at, if_neg k3, e39 _ (by decide), e31 _ (by decide), e23, uI_at, if_neg k2, e19, uI_at, if_neg k1, e15 _ (by decide), e7 _ (by decide)]
  · rw [e43, uI_at, if_neg (by decide), e39 _ (by decide), e31 _ (by decide), e23, uI_at, if_neg (by decide), e19, uI_at, if_pos rfl, e15 _ (by decide), e7 _ (by decide)]
  · rw [e43, uI_at, if_neg (by decide), e39 _ (by decide), e31 _ (by decide), e23, uI_at, if_pos rfl, e19, uI_off _ _ _ (by decide), e15 _ (by decide), e7 _ (by decide)]
  · rw [e43, uI_at, if_pos rfl, e39 _ (by decide), e31 _ (by decide), e23, uI_off _ _ _ (by decide), e19, uI_off _ _ _ (by decide), e15 _ (by decide), e7 _ (by decide)]
  · rw [e43, uI_off _ _ _ (by decide), e39 _ (by decide), e31 _ (by decide), e23, uI_off _ _ _ (by decide), e19, uI_off _ _ _ (by decide), e15 _ (by decide), f7, if_pos ⟨j1, by omega⟩]
  · rw [e43, uI_off _ _ _ (by decide), e39 _ (by decide), e31 _ (by decide), e23, uI_off _ _ _ (by decide), e19, uI_off _ _ _ (by decide), f15, if_pos ⟨j1, by omega⟩, e7 _ (by decide)]
  · rw [e43, uI_off _ _ _ (by decide), e39 _ (by decide), f31, if_pos ⟨j1, by omega⟩, e23, uI_off _ _ _ (by decide), e19, uI_off _ _ _ (by decide), e15 _ (by decide), e7 _ (by decide)]
  · rw [e43, uI_off _ _ _ (by decide), f39, if_pos ⟨j1, by omega⟩, e31 _ (by decide), e23, uI_off _ _ _ (by decide), e19, uI_off _ _ _ (by decide), e15 _ (by decide), e7 _ (by decide)]
theorem l_W_copyPeople_1_14 (hS : tSt (K, I, Q, n)) (hH : QH K Q n 14) : ∀ (k : Nat) (i : Nat) (R : Nat → Int → Option Nat), i + k = 8 → qc Q R 17 4 (i : Int) → tw_AW l G mW_copyPeople 1 0 0 n 0 ((fun r h' => r = none ∧ ∃ J R, h' = (K, J, R, n) ∧ qc Q R 17 4 8 ∧ (∀ c, c ≠ 1 → c ≠ 5 → c ≠ 6 → J c = I c) ∧ (∀ k, k ≠ 5 → J 1 k = I 1 k) ∧ J 1 5 = I 14 5 ∧ (∀ j, 0 ≤ j → j < 8 → J 5 j = I 18 j) ∧ ∀ j, 0 ≤ j → j < 32 → J 6 j = I 19 j)) 2 [(2, vi (i : Int)), (0, vr (some 1)), (1, vr (some 14))] [] (K, I, R, n) := by
  intro k
  induction k with
  | zero =>
    intro i R hi hQr
    have hS := hS.qc (Q' := R) (b := 4) (by decide) hQr.1
    refine ar_iloadn (k := 2) rfl rfl ?_
    refine ar_bipush (k := 3) rfl (by decide) ?_
    refine ar_icmp_ge (k := 4) rfl (by omega) (by omega) (fun c4 => ?_) (fun c4 => ?_)
    · refine ar_aloadn (k := 15) rfl rfl ?_
      refine ar_aloadn (k := 16) rfl rfl ?_
      refine br_getIz (k := 17) (z := 5) rfl (hS.k (by decide)) flW_34_10 (by decide) rfl rfl ?_
      refine br_putIJ (k := 18) rfl (hS.k (by decide)) flW_34_10 (by decide) rfl (fun _ _ _ q => by cases q; exact ⟨rfl, rfl⟩) (fun I18 e18 => ?_)
      change _ = uI _ 1 5 _ at e18
      skip
      refine ar_aloadn (k := 19) rfl rfl ?_
      refine br_getR (k := 20) rfl (hS.k (by decide)) flW_37_10 (by decide) rfl (hS.r rfl) ?_
      refine ar_iconst (k := 21) rfl ?_
      refine ar_aloadn (k := 22) rfl rfl ?_
      refine br_getR (k := 23) rfl (hS.k (by decide)) flW_37_10 (by decide) rfl (hS.r rfl) ?_
      refine ar_iconst (k := 24) rfl ?_
      refine ar_bipush (k := 25) rfl (by decide) ?_
      refine ar_copyiJ (k := 26) (n := 8) rfl lcW_80 (hS.k (by decide)) (hS.k (by decide)) rfl (by decide) (by decide) (Nat.le_of_ble_eq_true rfl) (fun I26 e26 f26 => ?_)
      refine ar_aloadn (k := 27) rfl rfl ?_
      refine br_getR (k := 28) rfl (hS.k (by decide)) flW_41_10 (by decide) rfl (hS.r rfl) ?_
      refine ar_iconst (k := 29) rfl ?_
      refine ar_aloadn (k := 30) rfl rfl ?_
      refine br_getR (k := 31) rfl (hS.k (by decide)) flW_41_10 (by decide) rfl (hS.r rfl) ?_
      refine ar_iconst (k := 32) rfl ?_
      refine ar_bipush (k := 33) rfl (by decide) ?_
      refine ar_copyiJ (k := 34) (n := 32) rfl lcW_80 (hS.k (by decide)) (hS.k (by decide)) rfl (by decide) (by decide) (Nat.le_of_ble_eq_true rfl) (fun I34 e34 f34 => ?_)
      refine ar_ret (k := 35) rfl rfl rfl (Nat.le_refl _) ?_
      refine ⟨rfl, I34, R, rfl, by rw [show (8 : Int) = (i : Int) by omega]; exact hQr, fun c c1 c2 c3 => ?_, fun k k1 => ?_, ?_, fun j j1 j2 => ?_, fun j j1 j2 => ?_⟩
      · rw [e34 c c3, e26 c c2, e18, uI_off _ _ _ c1]
      · rw [e34 _ (by decide), e26 _ (by decide), e18, uI_at, if_neg k1]
      · rw [e34 _ (by decide), e26 _ (by decide), e18, uI_at, if_pos rfl]
      · rw [e34 _ (by decide), f26, if_pos ⟨j1, by omega⟩, e18, uI_off _ _ _ (by decide)]
      · rw [f34, if_pos ⟨j1, by omega⟩, e26 _ (by decide), e18, uI_off _ _ _ (by decide)]
    · exfalso; omega
  | succ k ih =>
    intro i R hi hQr
    have hS := hS.qc (Q' := R) (b := 4) (by decide) hQr.1
    refine ar_iloadn (k := 2) rfl rfl ?_
    refine ar_bipush (k := 3) rfl (by decide) ?_
    refine ar_icmp_ge (k := 4) rfl (by omega) (by omega) (fun c4 => ?_) (fun c4 => ?_)
    · exfalso; omega
    · refine ar_aloadn (k := 5) rfl rfl ?_
      refine br_getR (k := 6) rfl (hS.k (by decide)) flW_30_10 (by decide) rfl (hS.r rfl) ?_
      refine ar_iloadn (k := 7) rfl rfl ?_
      refine ar_aloadn (k := 8) rfl rfl ?_
      refine br_getR (k := 9) rfl (hS.k (by decide)) flW_30_10 (by decide) rfl (hS.r rfl) ?_
      refine ar_iloadn (k := 10) rfl rfl ?_
      refine br_aald16 (k := 11) rfl (hS.k (by decide)) (by omega) (by omega) (by decide) rfl ?_
      refine br_aast16 (k := 12) rfl (hS.k (by decide)) (by omega) (by omega) (by decide) (hH.h (x := (i : Int)) (by omega) (by omega) (by show Q 17 (i : Int) = _; rw [hQr.1 17 (by decide)])) ?_
      refine ar_iinc (k := 13) (l2 := [(2, _), (0, _), (1, _)]) rfl (by decide) rfl rfl ?_
      refine ar_goto (k := 14) rfl ?_
      refine ar_sub (l2 := [(2, vi ((i + 1 : Nat) : Int)), (0, vr (some 1)), (1, vr (some 14))]) (tw_s (tw_e 0 rfl (by omega)) (tw_s (tw_g 1 rfl) (tw_s (tw_g 2 rfl) tw_s0))) ?_
      exact ih (i + 1) _ (by omega) (hQr.s (by decide))
theorem c_W_copyPeople_1_14 (hS : tSt (K, I, Q, n)) (hH : QH K Q n 14) : tw_M l G 1 0 0 mW_copyPeople [vr (some 1), vr (some 14)] (K, I, Q, n) (fun r h' => r = none ∧ ∃ J R, h' = (K, J, R, n) ∧ qc Q R 17 4 8 ∧ (∀ c, c ≠ 1 → c ≠ 5 → c ≠ 6 → J c = I c) ∧ (∀ k, k ≠ 5 → J 1 k = I 1 k) ∧ J 1 5 = I 14 5 ∧ (∀ j, 0 ≤ j → j < 8 → J 5 j = I 18 j) ∧ ∀ j, 0 ≤ j → j < 32 → J 6 j = I 19 j) := by
  refine tw_intro okW_copyPeople (Nat.le_of_ble_eq_true rfl) ?_
  refine ar_iconst (k := 0) rfl ?_
  refine ar_istoren (k := 1) (l2 := [(2, _), (0, _), (1, _)]) rfl (by decide) rfl ?_
  refine ar_sub (l2 := [(2, vi ((0 : Nat) : Int)), (0, vr (some 1)), (1, vr (some 14))]) (tw_s (tw_e 0 rfl (by rfl)) (tw_s (tw_g 1 rfl) (tw_s (tw_g 2 rfl) tw_s0))) ?_
  exact l_W_copyPeople_1_14 hS hH 8 0 Q (by omega) qc.rf
theorem l_W_copyFrom_1_14 {J : Nat → Int → Int} (hS : tSt (K, I, Q, n)) (hH : QH K Q n 14) (hJ : (∀ c, c ≠ 1 → c ≠ 2 → J c = I c) ∧ J 1 1 = I 14 1 ∧ ∀ j, 0 ≤ j → j < 100 → J 2 j = I 15 j) : ∀ (k : Nat) (i : Nat) (R : Nat → Int → Option Nat), i + k = 5 → qc Q R 16 3 (i : Int) → tw_AW l G mW_copyFrom 2 0 0 n 0 ((fun r h' => r = none ∧ ∃ J R, h' = (K, J, R, n) ∧ FC I J 14 1 ∧ (∀ c, c < 1 ∨ 13 < c → J c = I c) ∧ (∀ c, c ≠ 3 → c ≠ 4 → R c = Q c) ∧ (∀ x, 0 ≤ x → x < 8 → R 4 x = Q 17 x) ∧ (∀ x, 0 ≤ x → x < 5 → R 3 x = Q 16 x))) 25 [(2, vi (i : Int)), (0, vr (some 1)), (1, vr (some 14))] [] (K, J, R, n) := by
  intro k
  induction k with
  | zero =>
    intro i R hi hQr
    have hS := hS.qc (Q' := R) (b := 3) (by decide) hQr.1
    refine ar_iloadn (k := 14) rfl rfl ?_
    refine ar_iconst (k := 15) rfl ?_
    refine ar_icmp_ge (k := 16) rfl (by omega) (by omega) (fun c16 => ?_) (fun c16 => ?_)
    · refine ar_aloadn (k := 27) rfl rfl ?_
      refine ar_aloadn (k := 28) rfl rfl ?_
      refine br_getIz (k := 29) (z := 3) rfl (hS.k (by decide)) flW_25_10 (by decide) rfl rfl ?_
      refine br_putIJ (k := 30) rfl (hS.k (by decide)) flW_25_10 (by decide) rfl (fun _ _ _ q => by cases q; exact ⟨rfl, rfl⟩) (fun I30 e30 => ?_)
      change _ = uI _ 1 3 _ at e30
      skip
      refine ar_aloadn (k := 31) rfl rfl ?_
      refine ar_aloadn (k := 32) rfl rfl ?_
      refine ar_callV (k := 33) (as := [_]) rfl lvW_86 (hS.k (by decide)) rfl (c_W_copyPeople_1_14 hS (by refine ⟨fun x x1 x2 b hb => ?_, fun x x1 x2 b hb => ?_⟩; exact hH.1 x x1 x2 b (by rw [← hQr.1 17 (by decide)]; exact hb); exact hH.2 x x1 x2 b (by rw [← hQr.1 16 (by decide)]; exact hb))) rfl (by decide) (by decide) tw_m0 (Nat.le_of_ble_eq_true rfl) (fun r33 h33 p33 => ?_)
      obtain ⟨rfl, I33, R33, rfl, hR33, p33⟩ := p33
      have hS : tSt (K, I33, R33, n) := hS.qc (b := 4) (by decide) hR33.1
      refine ar_aloadn (k := 34) rfl rfl ?_
      refine ar_aloadn (k := 35) rfl rfl ?_
      refine ar_callV (k := 36) (as := [_]) rfl lvW_90 (hS.k (by decide)) rfl (c_W_copyTools_1_14 hS) rfl (by decide) (by decide) tw_m0 (Nat.le_of_ble_eq_true rfl) (fun r36 h36 p36 => ?_)
      obtain ⟨rfl, I36, rfl, p36⟩ := p36
      refine ar_aloadn (k := 37) rfl rfl ?_
      refine ar_aloadn (k := 38) rfl rfl ?_
      refine ar_callV (k := 39) (as := [_]) rfl lvW_93 (hS.k (by decide)) rfl (c_W_copyRows_1_14 hS) rfl (by decide) (by decide) tw_m0 (Nat.le_of_ble_eq_true rfl) (fun r39 h39 p39 => ?_)
      obtain ⟨rfl, I39, rfl, p39⟩ := p39
      refine ar_ret (k := 40) rfl rfl rfl (Nat.le_refl _) ?_
      obtain ⟨x1, x2, x3, x4, x5⟩ := p33
      obtain ⟨y1, y2, y3, y4, y5⟩ := p36
      obtain ⟨z1, z2, z3, z4, z5, z6⟩ := p39
      refine ⟨rfl, I39, R33, rfl, ⟨fun k hk => ?_, fun j j1 j2 => ?_, fun j j1 j2 => ?_, fun j j1 j2 => ?_, fun j j1 j2 => ⟨?_, ?_, ?_⟩, fun j j1 j2 => ⟨?_, ?_, ?_, ?_⟩⟩, fun c hc => ?_, fun c c1 c2 => ?_, fun x h1 h2 => ?_, fun x h1 h2 => ?_⟩
      · have u30 : ∀ k, I30 1 k = if k = 3 then I 14 3 else J 1 k := fun k => by
          rw [e30, uI_at]; by_cases g : k = 3
          · rw [if_pos g, if_pos g]; exact congrFun (hJ.1 14 (by decide) (by decide)) _
          · rw [if_neg g, if_neg g]
        rcases hk with rfl | rfl | rfl | rfl | rfl | rfl | rfl | rfl
        · rw [z2 _ (by decide) (by decide) (by decide), y2 _ (by decide) (by decide), x2 _ (by decide), u30, if_neg (by decide)]; exact hJ.2.1
        · rw [z2 _ (by decide) (by decide) (by decide), y2 _ (by decide) (by decide), x2 _ (by decide), u30, if_pos rfl]
        · rw [z2 _ (by decide) (by decide) (by decide), y2 _ (by decide) (by decide), x3, e30, uI_off _ _ _ (by decide)]; exact congrFun (hJ.1 14 (by decide) (by decide)) _
        · rw [z2 _ (by decide) (by decide) (by decide), y3, x1 14 (by decide) (by decide) (by decide), e30, uI_off _ _ _ (by decide)]; exact congrFun (hJ.1 14 (by decide) (by decide)) _
        · rw [z2 _ (by decide) (by decide) (by decide), y4, x1 14 (by decide) (by decide) (by decide), e30, uI_off _ _ _ (by decide)]; exact congrFun (hJ.1 14 (by decide) (by decide)) _
        · rw [z3, y1 14 (by decide) (by decide) (by decide) (by decide), x1 14 (by decide) (by decide) (by decide), e30, uI_off _ _ _ (by decide)]; exact congrFun (hJ.1 14 (by decide) (by decide)) _
        · rw [z4, y1 14 (by decide) (by decide) (by decide) (by decide), x1 14 (by decide) (by decide) (by decide), e30, uI_off _ _ _ (by decide)]; exact congrFun (hJ.1 14 (by decide) (by decide)) _
        · rw [z5, y1 14 (by decide) (by decide) (by decide) (by decide), x1 14 (by decide) (by decide) (by decide), e30, uI_off _ _ _ (by decide)]; exact congrFun (hJ.1 14 (by decide) (by decide)) _
      · rw [z1 2 (by decide) (by decide) (by decide) (by decide) (by decide), y1 2 (by decide) (by decide) (by decide) (by decide), x1 2 (by decide) (by decide) (by decide), e30, uI_off _ _ _ (by decide)]; exact hJ.2.2 j j1 j2
      · rw [z1 5 (by decide) (by decide) (by decide) (by decide) (by decide), y1 5 (by decide) (by decide) (by decide) (by decide), x4 j j1 j2, e30, uI_off _ _ _ (by decide), hJ.1 18 (by decide) (by decide)]
      · rw [z1 6 (by decide) (by decide) (by decide) (by decide) (by decide), y1 6 (by decide) (by decide) (by decide) (by decide), x5 j j1 j2, e30, uI_off _ _ _ (by decide), hJ.1 19 (by decide) (by decide)]
      · rw [z1 7 (by decide) (by decide) (by decide) (by decide) (by decide), (y5 j j1 j2).1, x1 20 (by decide) (by decide) (by decide), e30, uI_off _ _ _ (by decide), hJ.1 20 (by decide) (by decide)]
      · rw [z1 8 (by decide) (by decide) (by decide) (by decide) (by decide), (y5 j j1 j2).2.1, x1 21 (by decide) (by decide) (by decide), e30, uI_off _ _ _ (by decide), hJ.1 21 (by decide) (by decide)]
      · rw [z1 9 (by decide) (by decide) (by decide) (by decide) (by decide), (y5 j j1 j2).2.2, x1 22 (by decide) (by decide) (by decide), e30, uI_off _ _ _ (by decide), hJ.1 22 (by decide) (by decide)]
      · rw [(z6 j j1 j2).1, y1 23 (by decide) (by decide) (by decide) (by decide), x1 23 (by decide) (by decide) (by decide), e30, uI_off _ _ _ (by decide), hJ.1 23 (by decide) (by decide)]
      · rw [(z6 j j1 j2).2.1, y1 24 (by decide) (by decide) (by decide) (by decide), x1 24 (by decide) (by decide) (by decide), e30, uI_off _ _ _ (by decide), hJ.1 24 (by decide) (by decide)]
      · rw [(z6 j j1 j2).2.2.1, y1 25 (by decide) (by decide) (by decide) (by decide), x1 25 (by decide) (by decide) (by decide), e30, uI_off _ _ _ (by decide), hJ.1 25 (by decide) (by decide)]
      · rw [(z6 j j1 j2).2.2.2, y1 26 (by decide) (by decide) (by decide) (by decide), x1 26 (by decide) (by decide) (by decide), e30, uI_off _ _ _ (by decide), hJ.1 26 (by decide) (by decide)]
      · rw [z1 c (by omega) (by omega) (by omega) (by omega) (by omega), y1 c (by omega) (by omega) (by omega) (by omega), x1 c (by omega) (by omega) (by omega), e30, uI_off _ _ _ (by omega)]; exact hJ.1 c (by omega) (by omega)
      · rw [hR33.1 c c2]; exact hQr.1 c c1
      · rw [hR33.2 x, if_pos ⟨h1, h2⟩]; exact congrFun (hQr.1 17 (by decide)) _
      · rw [hR33.1 3 (by decide), hQr.2 x, if_pos ⟨h1, by omega⟩]
    · exfalso; omega
  | succ k ih =>
    intro i R hi hQr
    have hS := hS.qc (Q' := R) (b := 3) (by decide) hQr.1
    refine ar_iloadn (k := 14) rfl rfl ?_
    refine ar_iconst (k := 15) rfl ?_
    refine ar_icmp_ge (k := 16) rfl (by omega) (by omega) (fun c16 => ?_) (fun c16 => ?_)
    · exfalso; omega
    · refine ar_aloadn (k := 17) rfl rfl ?_
      refine br_getR (k := 18) rfl (hS.k (by decide)) flW_21_10 (by decide) rfl (hS.r rfl) ?_
      refine ar_iloadn (k := 19) rfl rfl ?_
      refine ar_aloadn (k := 20) rfl rfl ?_
      refine br_getR (k := 21) rfl (hS.k (by decide)) flW_21_10 (by decide) rfl (hS.r rfl) ?_
      refine ar_iloadn (k := 22) rfl rfl ?_
      refine br_aald17 (k := 23) rfl (hS.k (by decide)) (by omega) (by omega) (by decide) rfl ?_
      refine br_aast17 (k := 24) rfl (hS.k (by decide)) (by omega) (by omega) (by decide) (hH.v (x := (i : Int)) (by omega) (by omega) (by show Q 16 (i : Int) = _; rw [hQr.1 16 (by decide)])) ?_
      refine ar_iinc (k := 25) (l2 := [(2, _), (0, _), (1, _)]) rfl (by decide) rfl rfl ?_
      refine ar_goto (k := 26) rfl ?_
      refine ar_sub (l2 := [(2, vi ((i + 1 : Nat) : Int)), (0, vr (some 1)), (1, vr (some 14))]) (tw_s (tw_e 0 rfl (by omega)) (tw_s (tw_g 1 rfl) (tw_s (tw_g 2 rfl) tw_s0))) ?_
      exact ih (i + 1) _ (by omega) (hQr.s (by decide))
theorem c_W_copyFrom_1_14 (hS : tSt (K, I, Q, n)) (hH : QH K Q n 14) (htb : ∀ j : Int, 0 ≤ j → j < 100 → -128 ≤ I 15 j ∧ I 15 j ≤ 127) : tw_M l G 2 0 0 mW_copyFrom [vr (some 1), vr (some 14)] (K, I, Q, n) (fun r h' => r = none ∧ ∃ J R, h' = (K, J, R, n) ∧ FC I J 14 1 ∧ (∀ c, c < 1 ∨ 13 < c → J c = I c) ∧ (∀ c, c ≠ 3 → c ≠ 4 → R c = Q c) ∧ (∀ x, 0 ≤ x → x < 8 → R 4 x = Q 17 x) ∧ (∀ x, 0 ≤ x → x < 5 → R 3 x = Q 16 x)) := by
  refine tw_intro okW_copyFrom (Nat.le_of_ble_eq_true rfl) ?_
  refine ar_aloadn (k := 0) rfl rfl ?_
  refine br_getR (k := 1) rfl (hS.k (by decide)) flW_9_10 (by decide) rfl (hS.r rfl) ?_
  refine ar_iconst (k := 2) rfl ?_
  refine ar_aloadn (k := 3) rfl rfl ?_
  refine br_getR (k := 4) rfl (hS.k (by decide)) flW_9_10 (by decide) rfl (hS.r rfl) ?_
  refine ar_iconst (k := 5) rfl ?_
  refine ar_bipush (k := 6) rfl (by decide) ?_
  refine ar_copybJ (k := 7) (n := 100) rfl lcW_80 (hS.k (by decide)) (hS.k (by decide)) rfl (by decide) (fun j j1 j2 => htb j j1 (by omega)) (by decide) (Nat.le_of_ble_eq_true rfl) (fun I7 e7 f7 => ?_)
  refine ar_aloadn (k := 8) rfl rfl ?_
  refine ar_aloadn (k := 9) rfl rfl ?_
  refine br_getIz (k := 10) (z := 1) rfl (hS.k (by decide)) flW_15_10 (by decide) rfl rfl ?_
  refine br_putIJ (k := 11) rfl (hS.k (by decide)) flW_15_10 (by decide) rfl (fun _ _ _ q => by cases q; exact ⟨rfl, rfl⟩) (fun I11 e11 => ?_)
  change _ = uI _ 1 1 _ at e11
  skip
  refine ar_iconst (k := 12) rfl ?_
  refine ar_istoren (k := 13) (l2 := [(2, _), (0, _), (1, _)]) rfl (by decide) rfl ?_
  refine ar_sub (l2 := [(2, vi ((0 : Nat) : Int)), (0, vr (some 1)), (1, vr (some 14))]) (tw_s (tw_e 0 rfl (by rfl)) (tw_s (tw_g 1 rfl) (tw_s (tw_g 2 rfl) tw_s0))) ?_
  exact l_W_copyFrom_1_14 hS hH ⟨fun c c1 c2 => by rw [e11, uI_off _ _ _ c1, e7 c c2], by rw [e11, uI_at, if_pos rfl, e7 14 (by decide)], fun j j1 j2 => by rw [e11, uI_off _ _ _ (by decide), f7, if_pos ⟨j1, by omega⟩]⟩ 5 0 Q (by omega) qc.rf
end CZ
