theorem tw_post {l : Launch} {G : tG} {d mc ms : Nat} {M : tM} {av : List tV} {h : tH} {P P' : Option tV → tH → Prop} (hM : tw_M l G d mc ms M av h P) (hp : ∀ r h', P r h' → P' r h') : tw_M l G d mc ms M av h P' := by
  unfold tw_M Met at *
  refine MetFree.mono hM (fun _ _ q => q) (fun _ _ _ _ _ q => q) (fun a st o t _ q => ?_)
  obtain ⟨⟨r, h', q1, q2, q3⟩, q4⟩ := q
  exact ⟨⟨r, h', q1, hp r h' q2, q3⟩, q4⟩
/-- the reference's scratch for the worth of a pair: all else stays -/
def rk (I J : Nat → Int → Int) : Prop := ∀ b, b ≠ 72 → b ≠ 73 → J b = I b
theorem rk.rf {I : Nat → Int → Int} : rk I I := fun _ _ _ => rfl
theorem rk.trans {I J L : Nat → Int → Int} (h : rk I J) (g : rk J L) : rk I L := fun b a1 a2 => (g b a1 a2).trans (h b a1 a2)
theorem rk.s {I J : Nat → Int → Int} (h : rk I J) : J 70 = I 70 := h 70 (by decide) (by decide)
theorem rk.w {I J L : Nat → Int → Int} {a : Nat} {i x : Int} (h : rk I J) (ha : a = 72 ∨ a = 73) (e : L = uI J a i x) : rk I L := by
  subst e
  exact h.trans (fun b a1 a2 => uI_off _ _ _ (by omega))
/-- its scratch for the most of an hour -/
def rq (I J : Nat → Int → Int) : Prop := (∀ b, b ≠ 69 → b ≠ 72 → b ≠ 73 → J b = I b) ∧ ∀ k, k ≠ 11 → k ≠ 12 → k ≠ 13 → J 69 k = I 69 k
theorem rq.rf {I : Nat → Int → Int} : rq I I := ⟨fun _ _ _ _ => rfl, fun _ _ _ _ => rfl⟩
theorem rq.trans {I J L : Nat → Int → Int} (h : rq I J) (g : rq J L) : rq I L := ⟨fun b a1 a2 a3 => (g.1 b a1 a2 a3).trans (h.1 b a1 a2 a3), fun k a1 a2 a3 => (g.2 k a1 a2 a3).trans (h.2 k a1 a2 a3)⟩
theorem rq.s {I J : Nat → Int → Int} (h : rq I J) : J 70 = I 70 := h.1 70 (by decide) (by decide) (by decide)
theorem rk.q {I J : Nat → Int → Int} (h : rk I J) : rq I J := ⟨fun b _ a2 a3 => h b a2 a3, fun k _ _ _ => by rw [h 69 (by decide) (by decide)]⟩
theorem rq.w {I J L : Nat → Int → Int} {a : Nat} {i x : Int} (h : rq I J) (ha : a = 72 ∨ a = 73) (e : L = uI J a i x) : rq I L := by
  subst e
  exact h.trans ⟨fun b a1 a2 a3 => uI_off _ _ _ (by omega), fun k _ _ _ => by rw [uI_off _ _ _ (by omega)]⟩
theorem rq.f {I J L : Nat → Int → Int} {i x : Int} (h : rq I J) (hi : i = 11 ∨ i = 12 ∨ i = 13) (e : L = uI J 69 i x) : rq I L := by
  subst e
  exact h.trans ⟨fun b a1 a2 a3 => uI_off _ _ _ (by omega), fun k _ _ _ => by rw [uI_at, if_neg (by omega)]⟩
abbrev tw_R (l : Launch) (G : tG) (d : Nat) (M : tM) (av : List tV) (K : Nat → Nat × Nat) (I : Nat → Int → Int) (Q : Nat → Int → Option Nat) (n : Nat) (r0 : Option tV) : Prop := tw_M l G d 0 0 M av (K, I, Q, n) (fun r h' => r = r0 ∧ ∃ J, h' = (K, J, Q, n) ∧ rk I J)
abbrev tw_K (l : Launch) (G : tG) (d : Nat) (M : tM) (av : List tV) (K : Nat → Nat × Nat) (I : Nat → Int → Int) (Q : Nat → Int → Option Nat) (n : Nat) (r0 : Option tV) : Prop := tw_M l G d 0 0 M av (K, I, Q, n) (fun r h' => r = r0 ∧ ∃ J, h' = (K, J, Q, n) ∧ rq I J)
theorem tw_R.q {l : Launch} {G : tG} {d : Nat} {M : tM} {av : List tV} {K : Nat → Nat × Nat} {I : Nat → Int → Int} {Q : Nat → Int → Option Nat} {n : Nat} {r0 : Option tV} (h : tw_R l G d M av K I Q n r0) : tw_K l G d M av K I Q n r0 := tw_post h (fun r h' q => ⟨q.1, q.2.choose, q.2.choose_spec.1, q.2.choose_spec.2.q⟩)
section CR
variable {l : Launch} {G : tG} {M : tM} {d mc ms n0 c2 : Nat} {P : Option tV → tH → Prop} {ls : List (Nat × tV)} {st : List tV} {k pc nx tg : Nat} {K : Nat → Nat × Nat} {I : Nat → Int → Int} {Q : Nat → Int → Option Nat} {n : Nat}
theorem br_iads {a N : Nat} {i : Int} {s : Int → Int} (hd : M.2.2.2.2[k]? = some (pc, .iaload, nx, tg)) (hk : tK (K, I, Q, n) a (14, N)) (h1 : 0 ≤ i) (h2 : i < N) (hN : N < 2147483648) (hs : I a = s) (kk : tw_AW l G M d mc ms n0 c2 P nx ls (vi (s i) :: st) (K, I, Q, n)) : tw_AW l G M d mc ms n0 c2 P pc ls (vi i :: vr (some a) :: st) (K, I, Q, n) := br_iald hd hk h1 h2 hN (by subst hs; exact kk)
theorem br_iastJ {a N : Nat} {i x : Int} (hd : M.2.2.2.2[k]? = some (pc, .iastore, nx, tg)) (hk : tK (K, I, Q, n) a (14, N)) (h1 : 0 ≤ i) (h2 : i < N) (hN : N < 2147483648) (kk : ∀ J, J = uI I a i x → tw_AW l G M d mc ms n0 c2 P nx ls st (K, J, Q, n)) : tw_AW l G M d mc ms n0 c2 P pc ls (vi x :: vi i :: vr (some a) :: st) (K, I, Q, n) := br_iast hd hk h1 h2 hN (kk _ rfl)
theorem br_zastJ {a N : Nat} {i x : Int} (hd : M.2.2.2.2[k]? = some (pc, .bastore, nx, tg)) (hk : tK (K, I, Q, n) a (15, N)) (h1 : 0 ≤ i) (h2 : i < N) (hN : N < 2147483648) (hx : 0 ≤ x ∧ x ≤ 1) (kk : ∀ J, J = uI I a i x → tw_AW l G M d mc ms n0 c2 P nx ls st (K, J, Q, n)) : tw_AW l G M d mc ms n0 c2 P pc ls (vi x :: vi i :: vr (some a) :: st) (K, I, Q, n) := br_zast hd hk h1 h2 hN hx (kk _ rfl)
theorem br_putIJ {i ci N a kf : Nat} {x : Int} (hd : M.2.2.2.2[k]? = some (pc, .putfield i, nx, tg)) (hk : tK (K, I, Q, n) a (ci, N)) (hF : tw_FL M.1.cls i ci kf) (hN : kf < N) (hr : tRef ci kf = false) (hf : ∀ C T N, tCl[ci]? = some (C, T, N) → (T kf).2.2.2 = false ∧ parseFieldDescriptor (T kf).2.2.1 = some .int) (kk : ∀ J, J = uI I a kf x → tw_AW l G M d mc ms n0 c2 P nx ls st (K, J, Q, n)) : tw_AW l G M d mc ms n0 c2 P pc ls (vi x :: vr (some a) :: st) (K, I, Q, n) := br_putI hd hk hF hN hr hf (kk _ rfl)
theorem br_putZJ {i ci N a kf : Nat} {x : Int} (hd : M.2.2.2.2[k]? = some (pc, .putfield i, nx, tg)) (hk : tK (K, I, Q, n) a (ci, N)) (hF : tw_FL M.1.cls i ci kf) (hN : kf < N) (hr : tRef ci kf = false) (hx : 0 ≤ x ∧ x ≤ 1) (hf : ∀ C T N, tCl[ci]? = some (C, T, N) → (T kf).2.2.2 = false ∧ parseFieldDescriptor (T kf).2.2.1 = some .boolean) (kk : ∀ J, J = uI I a kf x → tw_AW l G M d mc ms n0 c2 P nx ls st (K, J, Q, n)) : tw_AW l G M d mc ms n0 c2 P pc ls (vi x :: vr (some a) :: st) (K, I, Q, n) := br_putZ hd hk hF hN hr hx hf (kk _ rfl)
theorem br_callVR {i d' n' : Nat} {M' : tM} {as : List tV} {r0 : Option tV} {a ci N : Nat} {C : String} {T : u_T} (hd : M.2.2.2.2[k]? = some (pc, .invokevirtual i, nx, tg)) (hw : tw_LV M.1.cls i M' C n') (hk : tK (K, I, Q, n) a (ci, N)) (hc : tCl[ci]? = some (C, T, N)) (hM : tw_R l G d' M' (vr (some a) :: as) K I Q n r0) (hn' : as.length = n') (hdd : d' + 1 ≤ d) (hL : M'.2.2.1 ≤ 45) (hm : n - n0 + 0 ≤ mc ∧ c2 + 0 ≤ ms) (hst : (st.map tw_w).sum ≤ 8) (kk : ∀ J, rk I J → tw_AW l G M d mc ms n0 c2 P nx ls (r0.toList ++ st) (K, J, Q, n)) : tw_AW l G M d mc ms n0 c2 P pc ls (as.reverse ++ vr (some a) :: st) (K, I, Q, n) := ar_callV hd hw hk hc hM hn' hdd hL hm hst (fun r h' hp => by obtain ⟨rfl, J, rfl, hJ⟩ := hp; exact kk J hJ)
theorem br_callVK {i d' n' : Nat} {M' : tM} {as : List tV} {r0 : Option tV} {a ci N : Nat} {C : String} {T : u_T} (hd : M.2.2.2.2[k]? = some (pc, .invokevirtual i, nx, tg)) (hw : tw_LV M.1.cls i M' C n') (hk : tK (K, I, Q, n) a (ci, N)) (hc : tCl[ci]? = some (C, T, N)) (hM : tw_K l G d' M' (vr (some a) :: as) K I Q n r0) (hn' : as.length = n') (hdd : d' + 1 ≤ d) (hL : M'.2.2.1 ≤ 45) (hm : n - n0 + 0 ≤ mc ∧ c2 + 0 ≤ ms) (hst : (st.map tw_w).sum ≤ 8) (kk : ∀ J, rq I J → tw_AW l G M d mc ms n0 c2 P nx ls (r0.toList ++ st) (K, J, Q, n)) : tw_AW l G M d mc ms n0 c2 P pc ls (as.reverse ++ vr (some a) :: st) (K, I, Q, n) := ar_callV hd hw hk hc hM hn' hdd hL hm hst (fun r h' hp => by obtain ⟨rfl, J, rfl, hJ⟩ := hp; exact kk J hJ)
theorem c_S_isPerson {s : Int → Int} {p : Int} (hS : tSt (K, I, Q, n)) (hs : I 70 = s) (hp : tr p) (h0 : 0 ≤ s 0 ∧ s 0 ≤ 8) : tw_F l G 2 0 0 mR_isPerson [vr (some 69), vi p] (K, I, Q, n) (some (vi (if 0 ≤ p ∧ p ≤ s 0 - 1 then 1 else 0))) (K, I, Q, n) := by subst hs; exact c_R_isPerson hS hp h0
theorem c_S_isTool {s : Int → Int} {p : Int} (hS : tSt (K, I, Q, n)) (hs : I 70 = s) (hp : tr p) (h1 : 0 ≤ s 1 ∧ s 1 ≤ 10) : tw_F l G 2 0 0 mR_isTool [vr (some 69), vi p] (K, I, Q, n) (some (vi (if 0 ≤ p ∧ p ≤ s 1 - 1 then 1 else 0))) (K, I, Q, n) := by subst hs; exact c_R_isTool hS hp h1
end CR
/-! the words of the questions, over the reference's numbers -/
def rBell (s : Int → Int) : Int := if (if s 6 = -1 then 6 else s (274 + s 6)) < 1 then 1 else (if s 6 = -1 then 6 else s (274 + s 6))
def rLess (s : Int → Int) (t : Int) : Int := if s (94 + t) < t then s (94 + t) else t
def rFree (s : Int → Int) (p u : Int) : Prop := bAnd (bShr (s (34 + p)) u) 1 = 1
def rFit (s : Int → Int) (p t : Int) : Prop := s (84 + t) = p ∧ s (104 + t) = 0 ∧ s (94 + t) ≠ -1
/-- what is tested -/
def rTst (b : Int → Int) (x : Int) : Bool := if x / 8 % 4 = 0 then decide (b (x % 8) < x / 32) else if x / 8 % 4 = 1 then decide (b (x % 8) = x / 32) else decide (b (x % 8) > x / 32)
/-- a step of a valley: a row of truths, a sum -/
def rStep (b : Int → Int) (x : Int) (q : List Bool × Int) : List Bool × Int :=
  if 0 ≤ x then (rTst b x :: q.1, q.2)
  else if x = -1 then (match q.1 with | y :: r => (!y) :: r | [] => [], q.2)
  else if -10 < x then (match q.1 with | z :: y :: r => (if x = -2 then y && z else y || z) :: r | r => r, q.2)
  else ([], q.2 + (if q.1.headD false = true then (if -200 < x then -10 - x else x + 200) else 0))
def rRun (b s : Int → Int) (f : Int) : Nat → List Bool × Int
  | 0 => ([], 0)
  | k + 1 => rStep b (s (f + (k : Int))) (rRun b s f k)
/-- how deep the row is behind a step; none: no step that can stand there -/
def rDeep (d : Nat) (x : Int) : Option Nat :=
  if 0 ≤ x then (if x % 8 ≤ 4 ∧ x / 8 % 4 ≤ 2 ∧ x ≤ 3188 ∧ d < 13 then some (d + 1) else none)
  else if x = -1 then (if 1 ≤ d then some d else none)
  else if x = -2 ∨ x = -3 then (if 2 ≤ d then some (d - 1) else none)
  else if (-109 ≤ x ∧ x ≤ -10) ∨ (-299 ≤ x ∧ x ≤ -200) then (if d = 1 then some 0 else none) else none
def rDeeps (s : Int → Int) (f : Int) : Nat → Option Nat
  | 0 => some 0
  | k + 1 => (rDeeps s f k).bind fun d => rDeep d (s (f + (k : Int)))
/-- the valleys are such that they can be gone through -/
def RVal (s : Int → Int) : Prop := ∀ a, 0 ≤ a → a < s 2 → rDeeps s (284 + 140 * a) (s (279 + a)).toNat = some 0
/-- the facts of a pair in an hour -/
def rBy (s : Int → Int) (t u : Int) : Int → Int := fun j => if j = 0 then u else if j = 1 then s (74 + rLess s t) else if j = 2 then rLess s t else if j = 3 then s (10 + s (84 + rLess s t)) else (if s (26 + s (84 + rLess s t)) = s (26 + s (84 + s (94 + rLess s t))) then 1 else 0)
def rWorth (s : Int → Int) (t u : Int) : Int := if s 6 = -1 then 0 else (rRun (rBy s t u) s (284 + 140 * s 6) (s (279 + s 6)).toNat).2
