section WU
variable {w : Nat} {I : Nat → Int → Int} {s : Int → Int}
theorem WN.u_tp (h : WN w I s) {i0 x : Int} (q0 : 0 ≤ i0 ∧ i0 < 100) : WN w (uI I (w + 1) i0 x) (up s (174 + i0) x) := by
  have hb := h.bd
  refine ⟨⟨?_, ?_, ?_, ?_, ?_, ?_, by simp only [up]; refine ⟨?_, ?_, ?_, ?_⟩ <;> (repeat' split) <;> omega⟩, fun i i1 i2 => ?_, fun p p1 p2 => ?_, fun j j1 j2 => ?_, fun t t1 t2 => ⟨?_, ?_, ?_, ?_⟩, fun r r1 r2 => ⟨?_, ?_, ?_⟩, fun r r1 r2 => ⟨?_, ?_⟩⟩
  · rw [uI_off _ _ _ (by omega), up_ne _ _ (by omega)]; exact h.sg
  · rw [uI_off _ _ _ (by omega), up_ne _ _ (by omega)]; exact h.vc
  · rw [uI_off _ _ _ (by omega), up_ne _ _ (by omega)]; exact h.pc
  · rw [uI_off _ _ _ (by omega), up_ne _ _ (by omega)]; exact h.tc
  · rw [uI_off _ _ _ (by omega), up_ne _ _ (by omega)]; exact h.rc
  · rw [uI_off _ _ _ (by omega), up_ne _ _ (by omega)]; exact h.bc
  · rw [uI_at]; by_cases q : i = i0; subst q; rw [if_pos rfl, up_at]; rw [if_neg q, up_ne _ _ (by omega)]; exact h.tp i1 i2
  · rw [up_ne _ _ (by omega)] at p2; rw [uI_off _ _ _ (by omega), up_ne _ _ (by omega)]; exact h.fr p1 p2
  · rw [up_ne _ _ (by omega)] at j2; rw [uI_off _ _ _ (by omega), up_ne _ _ (by omega)]; exact h.rw j1 j2
  · rw [up_ne _ _ (by omega)] at t2; rw [uI_off _ _ _ (by omega), up_ne _ _ (by omega)]; exact h.so t1 t2
  · rw [up_ne _ _ (by omega)] at t2; rw [uI_off _ _ _ (by omega), up_ne _ _ (by omega)]; exact h.ho t1 t2
  · rw [up_ne _ _ (by omega)] at t2; rw [uI_off _ _ _ (by omega), up_ne _ _ (by omega)]; exact h.tw t1 t2
  · rw [up_ne _ _ (by omega)] at t2; rw [uI_off _ _ _ (by omega), up_ne _ _ (by omega)]; exact h.br t1 t2
  · rw [up_ne _ _ (by omega)] at r2; rw [uI_off _ _ _ (by omega), up_ne _ _ (by omega)]; exact h.t1 r1 r2
  · rw [up_ne _ _ (by omega)] at r2; rw [uI_off _ _ _ (by omega), up_ne _ _ (by omega)]; exact h.t2 r1 r2
  · rw [up_ne _ _ (by omega)] at r2; rw [uI_off _ _ _ (by omega), up_ne _ _ (by omega)]; exact h.we r1 r2
  · rw [up_ne _ _ (by omega)] at r2; rw [uI_off _ _ _ (by omega), up_ne _ _ (by omega)]; exact h.bh r1 r2
  · rw [up_ne _ _ (by omega)] at r2; rw [uI_off _ _ _ (by omega), up_ne _ _ (by omega)]; exact h.bo r1 r2
theorem WN.u_sg (h : WN w I s) {x : Int} : WN w (uI I w 1 x) (up s 5 x) := by
  have hb := h.bd
  refine ⟨⟨?_, ?_, ?_, ?_, ?_, ?_, by simp only [up]; refine ⟨?_, ?_, ?_, ?_⟩ <;> (repeat' split) <;> omega⟩, fun i i1 i2 => ?_, fun p p1 p2 => ?_, fun j j1 j2 => ?_, fun t t1 t2 => ⟨?_, ?_, ?_, ?_⟩, fun r r1 r2 => ⟨?_, ?_, ?_⟩, fun r r1 r2 => ⟨?_, ?_⟩⟩
  · rw [uI_at, if_pos rfl, up_at]
  · rw [uI_at, if_neg (by decide), up_ne _ _ (by omega)]; exact h.vc
  · rw [uI_at, if_neg (by decide), up_ne _ _ (by omega)]; exact h.pc
  · rw [uI_at, if_neg (by decide), up_ne _ _ (by omega)]; exact h.tc
  · rw [uI_at, if_neg (by decide), up_ne _ _ (by omega)]; exact h.rc
  · rw [uI_at, if_neg (by decide), up_ne _ _ (by omega)]; exact h.bc
  · rw [uI_off _ _ _ (by omega), up_ne _ _ (by omega)]; exact h.tp i1 i2
  · rw [up_ne _ _ (by omega)] at p2; rw [uI_off _ _ _ (by omega), up_ne _ _ (by omega)]; exact h.fr p1 p2
  · rw [up_ne _ _ (by omega)] at j2; rw [uI_off _ _ _ (by omega), up_ne _ _ (by omega)]; exact h.rw j1 j2
  · rw [up_ne _ _ (by omega)] at t2; rw [uI_off _ _ _ (by omega), up_ne _ _ (by omega)]; exact h.so t1 t2
  · rw [up_ne _ _ (by omega)] at t2; rw [uI_off _ _ _ (by omega), up_ne _ _ (by omega)]; exact h.ho t1 t2
  · rw [up_ne _ _ (by omega)] at t2; rw [uI_off _ _ _ (by omega), up_ne _ _ (by omega)]; exact h.tw t1 t2
  · rw [up_ne _ _ (by omega)] at t2; rw [uI_at, if_neg (by decide), up_ne _ _ (by omega)]; exact h.br t1 t2
  · rw [up_ne _ _ (by omega)] at r2; rw [uI_off _ _ _ (by omega), up_ne _ _ (by omega)]; exact h.t1 r1 r2
  · rw [up_ne _ _ (by omega)] at r2; rw [uI_off _ _ _ (by omega), up_ne _ _ (by omega)]; exact h.t2 r1 r2
  · rw [up_ne _ _ (by omega)] at r2; rw [uI_at, if_neg (by decide), up_ne _ _ (by omega)]; exact h.we r1 r2
  · rw [up_ne _ _ (by omega)] at r2; rw [uI_off _ _ _ (by omega), up_ne _ _ (by omega)]; exact h.bh r1 r2
  · rw [up_ne _ _ (by omega)] at r2; rw [uI_off _ _ _ (by omega), up_ne _ _ (by omega)]; exact h.bo r1 r2
theorem WN.u_fr (h : WN w I s) {p0 x : Int} (q0 : 0 ≤ p0 ∧ p0 < 8) : WN w (uI I (w + 4) p0 x) (up s (34 + p0) x) := by
  have hb := h.bd
  refine ⟨⟨?_, ?_, ?_, ?_, ?_, ?_, by simp only [up]; refine ⟨?_, ?_, ?_, ?_⟩ <;> (repeat' split) <;> omega⟩, fun i i1 i2 => ?_, fun p p1 p2 => ?_, fun j j1 j2 => ?_, fun t t1 t2 => ⟨?_, ?_, ?_, ?_⟩, fun r r1 r2 => ⟨?_, ?_, ?_⟩, fun r r1 r2 => ⟨?_, ?_⟩⟩
  · rw [uI_off _ _ _ (by omega), up_ne _ _ (by omega)]; exact h.sg
  · rw [uI_off _ _ _ (by omega), up_ne _ _ (by omega)]; exact h.vc
  · rw [uI_off _ _ _ (by omega), up_ne _ _ (by omega)]; exact h.pc
  · rw [uI_off _ _ _ (by omega), up_ne _ _ (by omega)]; exact h.tc
  · rw [uI_off _ _ _ (by omega), up_ne _ _ (by omega)]; exact h.rc
  · rw [uI_off _ _ _ (by omega), up_ne _ _ (by omega)]; exact h.bc
  · rw [uI_off _ _ _ (by omega), up_ne _ _ (by omega)]; exact h.tp i1 i2
  · rw [up_ne _ _ (by omega)] at p2; rw [uI_at]; by_cases q : p = p0; subst q; rw [if_pos rfl, up_at]; rw [if_neg q, up_ne _ _ (by omega)]; exact h.fr p1 p2
  · rw [up_ne _ _ (by omega)] at j2; rw [uI_off _ _ _ (by omega), up_ne _ _ (by omega)]; exact h.rw j1 j2
  · rw [up_ne _ _ (by omega)] at t2; rw [uI_off _ _ _ (by omega), up_ne _ _ (by omega)]; exact h.so t1 t2
  · rw [up_ne _ _ (by omega)] at t2; rw [uI_off _ _ _ (by omega), up_ne _ _ (by omega)]; exact h.ho t1 t2
  · rw [up_ne _ _ (by omega)] at t2; rw [uI_off _ _ _ (by omega), up_ne _ _ (by omega)]; exact h.tw t1 t2
  · rw [up_ne _ _ (by omega)] at t2; rw [uI_off _ _ _ (by omega), up_ne _ _ (by omega)]; exact h.br t1 t2
  · rw [up_ne _ _ (by omega)] at r2; rw [uI_off _ _ _ (by omega), up_ne _ _ (by omega)]; exact h.t1 r1 r2
  · rw [up_ne _ _ (by omega)] at r2; rw [uI_off _ _ _ (by omega), up_ne _ _ (by omega)]; exact h.t2 r1 r2
  · rw [up_ne _ _ (by omega)] at r2; rw [uI_off _ _ _ (by omega), up_ne _ _ (by omega)]; exact h.we r1 r2
  · rw [up_ne _ _ (by omega)] at r2; rw [uI_off _ _ _ (by omega), up_ne _ _ (by omega)]; exact h.bh r1 r2
  · rw [up_ne _ _ (by omega)] at r2; rw [uI_off _ _ _ (by omega), up_ne _ _ (by omega)]; exact h.bo r1 r2
theorem WN.u_rw (h : WN w I s) {j0 x : Int} (q0 : 0 ≤ j0 ∧ j0 < 32) : WN w (uI I (w + 5) j0 (if x = -1 then -5 else x)) (up s (42 + j0) x) := by
  have hb := h.bd
  refine ⟨⟨?_, ?_, ?_, ?_, ?_, ?_, by simp only [up]; refine ⟨?_, ?_, ?_, ?_⟩ <;> (repeat' split) <;> omega⟩, fun i i1 i2 => ?_, fun p p1 p2 => ?_, fun j j1 j2 => ?_, fun t t1 t2 => ⟨?_, ?_, ?_, ?_⟩, fun r r1 r2 => ⟨?_, ?_, ?_⟩, fun r r1 r2 => ⟨?_, ?_⟩⟩
  · rw [uI_off _ _ _ (by omega), up_ne _ _ (by omega)]; exact h.sg
  · rw [uI_off _ _ _ (by omega), up_ne _ _ (by omega)]; exact h.vc
  · rw [uI_off _ _ _ (by omega), up_ne _ _ (by omega)]; exact h.pc
  · rw [uI_off _ _ _ (by omega), up_ne _ _ (by omega)]; exact h.tc
  · rw [uI_off _ _ _ (by omega), up_ne _ _ (by omega)]; exact h.rc
  · rw [uI_off _ _ _ (by omega), up_ne _ _ (by omega)]; exact h.bc
  · rw [uI_off _ _ _ (by omega), up_ne _ _ (by omega)]; exact h.tp i1 i2
  · rw [up_ne _ _ (by omega)] at p2; rw [uI_off _ _ _ (by omega), up_ne _ _ (by omega)]; exact h.fr p1 p2
  · rw [up_ne _ _ (by omega)] at j2; rw [uI_at]; by_cases q : j = j0; subst q; rw [if_pos rfl, up_at]; rw [if_neg q, up_ne _ _ (by omega)]; exact h.rw j1 j2
  · rw [up_ne _ _ (by omega)] at t2; rw [uI_off _ _ _ (by omega), up_ne _ _ (by omega)]; exact h.so t1 t2
  · rw [up_ne _ _ (by omega)] at t2; rw [uI_off _ _ _ (by omega), up_ne _ _ (by omega)]; exact h.ho t1 t2
  · rw [up_ne _ _ (by omega)] at t2; rw [uI_off _ _ _ (by omega), up_ne _ _ (by omega)]; exact h.tw t1 t2
  · rw [up_ne _ _ (by omega)] at t2; rw [uI_off _ _ _ (by omega), up_ne _ _ (by omega)]; exact h.br t1 t2
  · rw [up_ne _ _ (by omega)] at r2; rw [uI_off _ _ _ (by omega), up_ne _ _ (by omega)]; exact h.t1 r1 r2
  · rw [up_ne _ _ (by omega)] at r2; rw [uI_off _ _ _ (by omega), up_ne _ _ (by omega)]; exact h.t2 r1 r2
  · rw [up_ne _ _ (by omega)] at r2; rw [uI_off _ _ _ (by omega), up_ne _ _ (by omega)]; exact h.we r1 r2
  · rw [up_ne _ _ (by omega)] at r2; rw [uI_off _ _ _ (by omega), up_ne _ _ (by omega)]; exact h.bh r1 r2
  · rw [up_ne _ _ (by omega)] at r2; rw [uI_off _ _ _ (by omega), up_ne _ _ (by omega)]; exact h.bo r1 r2
theorem WN.u_so (h : WN w I s) {t0 x : Int} (q0 : 0 ≤ t0 ∧ t0 < 10) : WN w (uI I (w + 6) t0 x) (up s (74 + t0) x) := by
  have hb := h.bd
  refine ⟨⟨?_, ?_, ?_, ?_, ?_, ?_, by simp only [up]; refine ⟨?_, ?_, ?_, ?_⟩ <;> (repeat' split) <;> omega⟩, fun i i1 i2 => ?_, fun p p1 p2 => ?_, fun j j1 j2 => ?_, fun t t1 t2 => ⟨?_, ?_, ?_, ?_⟩, fun r r1 r2 => ⟨?_, ?_, ?_⟩, fun r r1 r2 => ⟨?_, ?_⟩⟩
  · rw [uI_off _ _ _ (by omega), up_ne _ _ (by omega)]; exact h.sg
  · rw [uI_off _ _ _ (by omega), up_ne _ _ (by omega)]; exact h.vc
  · rw [uI_off _ _ _ (by omega), up_ne _ _ (by omega)]; exact h.pc
  · rw [uI_off _ _ _ (by omega), up_ne _ _ (by omega)]; exact h.tc
  · rw [uI_off _ _ _ (by omega), up_ne _ _ (by omega)]; exact h.rc
  · rw [uI_off _ _ _ (by omega), up_ne _ _ (by omega)]; exact h.bc
  · rw [uI_off _ _ _ (by omega), up_ne _ _ (by omega)]; exact h.tp i1 i2
  · rw [up_ne _ _ (by omega)] at p2; rw [uI_off _ _ _ (by omega), up_ne _ _ (by omega)]; exact h.fr p1 p2
  · rw [up_ne _ _ (by omega)] at j2; rw [uI_off _ _ _ (by omega), up_ne _ _ (by omega)]; exact h.rw j1 j2
  · rw [up_ne _ _ (by omega)] at t2; rw [uI_at]; by_cases q : t = t0; subst q; rw [if_pos rfl, up_at]; rw [if_neg q, up_ne _ _ (by omega)]; exact h.so t1 t2
  · rw [up_ne _ _ (by omega)] at t2; rw [uI_off _ _ _ (by omega), up_ne _ _ (by omega)]; exact h.ho t1 t2
  · rw [up_ne _ _ (by omega)] at t2; rw [uI_off _ _ _ (by omega), up_ne _ _ (by omega)]; exact h.tw t1 t2
  · rw [up_ne _ _ (by omega)] at t2; rw [uI_off _ _ _ (by omega), up_ne _ _ (by omega)]; exact h.br t1 t2
  · rw [up_ne _ _ (by omega)] at r2; rw [uI_off _ _ _ (by omega), up_ne _ _ (by omega)]; exact h.t1 r1 r2
  · rw [up_ne _ _ (by omega)] at r2; rw [uI_off _ _ _ (by omega), up_ne _ _ (by omega)]; exact h.t2 r1 r2
  · rw [up_ne _ _ (by omega)] at r2; rw [uI_off _ _ _ (by omega), up_ne _ _ (by omega)]; exact h.we r1 r2
  · rw [up_ne _ _ (by omega)] at r2; rw [uI_off _ _ _ (by omega), up_ne _ _ (by omega)]; exact h.bh r1 r2
  · rw [up_ne _ _ (by omega)] at r2; rw [uI_off _ _ _ (by omega), up_ne _ _ (by omega)]; exact h.bo r1 r2
theorem WN.u_ho (h : WN w I s) {t0 x : Int} (q0 : 0 ≤ t0 ∧ t0 < 10) : WN w (uI I (w + 7) t0 x) (up s (84 + t0) x) := by
  have hb := h.bd
  refine ⟨⟨?_, ?_, ?_, ?_, ?_, ?_, by simp only [up]; refine ⟨?_, ?_, ?_, ?_⟩ <;> (repeat' split) <;> omega⟩, fun i i1 i2 => ?_, fun p p1 p2 => ?_, fun j j1 j2 => ?_, fun t t1 t2 => ⟨?_, ?_, ?_, ?_⟩, fun r r1 r2 => ⟨?_, ?_, ?_⟩, fun r r1 r2 => ⟨?_, ?_⟩⟩
  · rw [uI_off _ _ _ (by omega), up_ne _ _ (by omega)]; exact h.sg
  · rw [uI_off _ _ _ (by omega), up_ne _ _ (by omega)]; exact h.vc
  · rw [uI_off _ _ _ (by omega), up_ne _ _ (by omega)]; exact h.pc
  · rw [uI_off _ _ _ (by omega), up_ne _ _ (by omega)]; exact h.tc
  · rw [uI_off _ _ _ (by omega), up_ne _ _ (by omega)]; exact h.rc
  · rw [uI_off _ _ _ (by omega), up_ne _ _ (by omega)]; exact h.bc
  · rw [uI_off _ _ _ (by omega), up_ne _ _ (by omega)]; exact h.tp i1 i2
  · rw [up_ne _ _ (by omega)] at p2; rw [uI_off _ _ _ (by omega), up_ne _ _ (by omega)]; exact h.fr p1 p2
  · rw [up_ne _ _ (by omega)] at j2; rw [uI_off _ _ _ (by omega), up_ne _ _ (by omega)]; exact h.rw j1 j2
  · rw [up_ne _ _ (by omega)] at t2; rw [uI_off _ _ _ (by omega), up_ne _ _ (by omega)]; exact h.so t1 t2
  · rw [up_ne _ _ (by omega)] at t2; rw [uI_at]; by_cases q : t = t0; subst q; rw [if_pos rfl, up_at]; rw [if_neg q, up_ne _ _ (by omega)]; exact h.ho t1 t2
  · rw [up_ne _ _ (by omega)] at t2; rw [uI_off _ _ _ (by omega), up_ne _ _ (by omega)]; exact h.tw t1 t2
  · rw [up_ne _ _ (by omega)] at t2; rw [uI_off _ _ _ (by omega), up_ne _ _ (by omega)]; exact h.br t1 t2
  · rw [up_ne _ _ (by omega)] at r2; rw [uI_off _ _ _ (by omega), up_ne _ _ (by omega)]; exact h.t1 r1 r2
  · rw [up_ne _ _ (by omega)] at r2; rw [uI_off _ _ _ (by omega), up_ne _ _ (by omega)]; exact h.t2 r1 r2
  · rw [up_ne _ _ (by omega)] at r2; rw [uI_off _ _ _ (by omega), up_ne _ _ (by omega)]; exact h.we r1 r2
  · rw [up_ne _ _ (by omega)] at r2; rw [uI_off _ _ _ (by omega), up_ne _ _ (by omega)]; exact h.bh r1 r2
  · rw [up_ne _ _ (by omega)] at r2; rw [uI_off _ _ _ (by omega), up_ne _ _ (by omega)]; exact h.bo r1 r2
theorem WN.u_tw (h : WN w I s) {t0 x : Int} (q0 : 0 ≤ t0 ∧ t0 < 10) : WN w (uI I (w + 8) t0 (if x = -1 then -5 else x)) (up s (94 + t0) x) := by
  have hb := h.bd
  refine ⟨⟨?_, ?_, ?_, ?_, ?_, ?_, by simp only [up]; refine ⟨?_, ?_, ?_, ?_⟩ <;> (repeat' split) <;> omega⟩, fun i i1 i2 => ?_, fun p p1 p2 => ?_, fun j j1 j2 => ?_, fun t t1 t2 => ⟨?_, ?_, ?_, ?_⟩, fun r r1 r2 => ⟨?_, ?_, ?_⟩, fun r r1 r2 => ⟨?_, ?_⟩⟩
  · rw [uI_off _ _ _ (by omega), up_ne _ _ (by omega)]; exact h.sg
  · rw [uI_off _ _ _ (by omega), up_ne _ _ (by omega)]; exact h.vc
  · rw [uI_off _ _ _ (by omega), up_ne _ _ (by omega)]; exact h.pc
  · rw [uI_off _ _ _ (by omega), up_ne _ _ (by omega)]; exact h.tc
  · rw [uI_off _ _ _ (by omega), up_ne _ _ (by omega)]; exact h.rc
  · rw [uI_off _ _ _ (by omega), up_ne _ _ (by omega)]; exact h.bc
  · rw [uI_off _ _ _ (by omega), up_ne _ _ (by omega)]; exact h.tp i1 i2
  · rw [up_ne _ _ (by omega)] at p2; rw [uI_off _ _ _ (by omega), up_ne _ _ (by omega)]; exact h.fr p1 p2
  · rw [up_ne _ _ (by omega)] at j2; rw [uI_off _ _ _ (by omega), up_ne _ _ (by omega)]; exact h.rw j1 j2
  · rw [up_ne _ _ (by omega)] at t2; rw [uI_off _ _ _ (by omega), up_ne _ _ (by omega)]; exact h.so t1 t2
  · rw [up_ne _ _ (by omega)] at t2; rw [uI_off _ _ _ (by omega), up_ne _ _ (by omega)]; exact h.ho t1 t2
  · rw [up_ne _ _ (by omega)] at t2; rw [uI_at]; by_cases q : t = t0; subst q; rw [if_pos rfl, up_at]; rw [if_neg q, up_ne _ _ (by omega)]; exact h.tw t1 t2
  · rw [up_ne _ _ (by omega)] at t2; rw [uI_off _ _ _ (by omega), up_ne _ _ (by omega)]; exact h.br t1 t2
  · rw [up_ne _ _ (by omega)] at r2; rw [uI_off _ _ _ (by omega), up_ne _ _ (by omega)]; exact h.t1 r1 r2
  · rw [up_ne _ _ (by omega)] at r2; rw [uI_off _ _ _ (by omega), up_ne _ _ (by omega)]; exact h.t2 r1 r2
  · rw [up_ne _ _ (by omega)] at r2; rw [uI_off _ _ _ (by omega), up_ne _ _ (by omega)]; exact h.we r1 r2
  · rw [up_ne _ _ (by omega)] at r2; rw [uI_off _ _ _ (by omega), up_ne _ _ (by omega)]; exact h.bh r1 r2
  · rw [up_ne _ _ (by omega)] at r2; rw [uI_off _ _ _ (by omega), up_ne _ _ (by omega)]; exact h.bo r1 r2
theorem WN.u_br (h : WN w I s) {t0 x z : Int} (q0 : 0 ≤ t0 ∧ t0 < 10) (hz : ∀ j : Nat, j < 10 → ib z j = if j = t0.toNat then decide (x = 1) else ib (I w 11) j) : WN w (uI I w 11 z) (up s (104 + t0) x) := by
  have hb := h.bd
  refine ⟨⟨?_, ?_, ?_, ?_, ?_, ?_, by simp only [up]; refine ⟨?_, ?_, ?_, ?_⟩ <;> (repeat' split) <;> omega⟩, fun i i1 i2 => ?_, fun p p1 p2 => ?_, fun j j1 j2 => ?_, fun t t1 t2 => ⟨?_, ?_, ?_, ?_⟩, fun r r1 r2 => ⟨?_, ?_, ?_⟩, fun r r1 r2 => ⟨?_, ?_⟩⟩
  · rw [uI_at, if_neg (by decide), up_ne _ _ (by omega)]; exact h.sg
  · rw [uI_at, if_neg (by decide), up_ne _ _ (by omega)]; exact h.vc
  · rw [uI_at, if_neg (by decide), up_ne _ _ (by omega)]; exact h.pc
  · rw [uI_at, if_neg (by decide), up_ne _ _ (by omega)]; exact h.tc
  · rw [uI_at, if_neg (by decide), up_ne _ _ (by omega)]; exact h.rc
  · rw [uI_at, if_neg (by decide), up_ne _ _ (by omega)]; exact h.bc
  · rw [uI_off _ _ _ (by omega), up_ne _ _ (by omega)]; exact h.tp i1 i2
  · rw [up_ne _ _ (by omega)] at p2; rw [uI_off _ _ _ (by omega), up_ne _ _ (by omega)]; exact h.fr p1 p2
  · rw [up_ne _ _ (by omega)] at j2; rw [uI_off _ _ _ (by omega), up_ne _ _ (by omega)]; exact h.rw j1 j2
  · rw [up_ne _ _ (by omega)] at t2; rw [uI_off _ _ _ (by omega), up_ne _ _ (by omega)]; exact h.so t1 t2
  · rw [up_ne _ _ (by omega)] at t2; rw [uI_off _ _ _ (by omega), up_ne _ _ (by omega)]; exact h.ho t1 t2
  · rw [up_ne _ _ (by omega)] at t2; rw [uI_off _ _ _ (by omega), up_ne _ _ (by omega)]; exact h.tw t1 t2
  · rw [up_ne _ _ (by omega)] at t2; rw [uI_at, if_pos rfl, hz t.toNat (by omega)]; by_cases q : t = t0; subst q; rw [if_pos rfl, up_at]; rw [if_neg (by omega), up_ne _ _ (by omega)]; exact h.br t1 t2
  · rw [up_ne _ _ (by omega)] at r2; rw [uI_off _ _ _ (by omega), up_ne _ _ (by omega)]; exact h.t1 r1 r2
  · rw [up_ne _ _ (by omega)] at r2; rw [uI_off _ _ _ (by omega), up_ne _ _ (by omega)]; exact h.t2 r1 r2
  · rw [up_ne _ _ (by omega)] at r2; rw [uI_at, if_neg (by decide), up_ne _ _ (by omega)]; exact h.we r1 r2
  · rw [up_ne _ _ (by omega)] at r2; rw [uI_off _ _ _ (by omega), up_ne _ _ (by omega)]; exact h.bh r1 r2
  · rw [up_ne _ _ (by omega)] at r2; rw [uI_off _ _ _ (by omega), up_ne _ _ (by omega)]; exact h.bo r1 r2
theorem WN.u_t1 (h : WN w I s) {r0 x : Int} (q0 : 0 ≤ r0 ∧ r0 < 12) : WN w (uI I (w + 9) r0 x) (up s (114 + r0) x) := by
  have hb := h.bd
  refine ⟨⟨?_, ?_, ?_, ?_, ?_, ?_, by simp only [up]; refine ⟨?_, ?_, ?_, ?_⟩ <;> (repeat' split) <;> omega⟩, fun i i1 i2 => ?_, fun p p1 p2 => ?_, fun j j1 j2 => ?_, fun t t1 t2 => ⟨?_, ?_, ?_, ?_⟩, fun r r1 r2 => ⟨?_, ?_, ?_⟩, fun r r1 r2 => ⟨?_, ?_⟩⟩
  · rw [uI_off _ _ _ (by omega), up_ne _ _ (by omega)]; exact h.sg
  · rw [uI_off _ _ _ (by omega), up_ne _ _ (by omega)]; exact h.vc
  · rw [uI_off _ _ _ (by omega), up_ne _ _ (by omega)]; exact h.pc
  · rw [uI_off _ _ _ (by omega), up_ne _ _ (by omega)]; exact h.tc
  · rw [uI_off _ _ _ (by omega), up_ne _ _ (by omega)]; exact h.rc
  · rw [uI_off _ _ _ (by omega), up_ne _ _ (by omega)]; exact h.bc
  · rw [uI_off _ _ _ (by omega), up_ne _ _ (by omega)]; exact h.tp i1 i2
  · rw [up_ne _ _ (by omega)] at p2; rw [uI_off _ _ _ (by omega), up_ne _ _ (by omega)]; exact h.fr p1 p2
  · rw [up_ne _ _ (by omega)] at j2; rw [uI_off _ _ _ (by omega), up_ne _ _ (by omega)]; exact h.rw j1 j2
  · rw [up_ne _ _ (by omega)] at t2; rw [uI_off _ _ _ (by omega), up_ne _ _ (by omega)]; exact h.so t1 t2
  · rw [up_ne _ _ (by omega)] at t2; rw [uI_off _ _ _ (by omega), up_ne _ _ (by omega)]; exact h.ho t1 t2
  · rw [up_ne _ _ (by omega)] at t2; rw [uI_off _ _ _ (by omega), up_ne _ _ (by omega)]; exact h.tw t1 t2
  · rw [up_ne _ _ (by omega)] at t2; rw [uI_off _ _ _ (by omega), up_ne _ _ (by omega)]; exact h.br t1 t2
  · rw [up_ne _ _ (by omega)] at r2; rw [uI_at]; by_cases q : r = r0; subst q; rw [if_pos rfl, up_at]; rw [if_neg q, up_ne _ _ (by omega)]; exact h.t1 r1 r2
  · rw [up_ne _ _ (by omega)] at r2; rw [uI_off _ _ _ (by omega), up_ne _ _ (by omega)]; exact h.t2 r1 r2
  · rw [up_ne _ _ (by omega)] at r2; rw [uI_off _ _ _ (by omega), up_ne _ _ (by omega)]; exact h.we r1 r2
  · rw [up_ne _ _ (by omega)] at r2; rw [uI_off _ _ _ (by omega), up_ne _ _ (by omega)]; exact h.bh r1 r2
  · rw [up_ne _ _ (by omega)] at r2; rw [uI_off _ _ _ (by omega), up_ne _ _ (by omega)]; exact h.bo r1 r2
theorem WN.u_t2 (h : WN w I s) {r0 x : Int} (q0 : 0 ≤ r0 ∧ r0 < 12) : WN w (uI I (w + 10) r0 x) (up s (126 + r0) x) := by
  have hb := h.bd
  refine ⟨⟨?_, ?_, ?_, ?_, ?_, ?_, by simp only [up]; refine ⟨?_, ?_, ?_, ?_⟩ <;> (repeat' split) <;> omega⟩, fun i i1 i2 => ?_, fun p p1 p2 => ?_, fun j j1 j2 => ?_, fun t t1 t2 => ⟨?_, ?_, ?_, ?_⟩, fun r r1 r2 => ⟨?_, ?_, ?_⟩, fun r r1 r2 => ⟨?_, ?_⟩⟩
  · rw [uI_off _ _ _ (by omega), up_ne _ _ (by omega)]; exact h.sg
  · rw [uI_off _ _ _ (by omega), up_ne _ _ (by omega)]; exact h.vc
  · rw [uI_off _ _ _ (by omega), up_ne _ _ (by omega)]; exact h.pc
  · rw [uI_off _ _ _ (by omega), up_ne _ _ (by omega)]; exact h.tc
  · rw [uI_off _ _ _ (by omega), up_ne _ _ (by omega)]; exact h.rc
  · rw [uI_off _ _ _ (by omega), up_ne _ _ (by omega)]; exact h.bc
  · rw [uI_off _ _ _ (by omega), up_ne _ _ (by omega)]; exact h.tp i1 i2
  · rw [up_ne _ _ (by omega)] at p2; rw [uI_off _ _ _ (by omega), up_ne _ _ (by omega)]; exact h.fr p1 p2
  · rw [up_ne _ _ (by omega)] at j2; rw [uI_off _ _ _ (by omega), up_ne _ _ (by omega)]; exact h.rw j1 j2
  · rw [up_ne _ _ (by omega)] at t2; rw [uI_off _ _ _ (by omega), up_ne _ _ (by omega)]; exact h.so t1 t2
  · rw [up_ne _ _ (by omega)] at t2; rw [uI_off _ _ _ (by omega), up_ne _ _ (by omega)]; exact h.ho t1 t2
  · rw [up_ne _ _ (by omega)] at t2; rw [uI_off _ _ _ (by omega), up_ne _ _ (by omega)]; exact h.tw t1 t2
  · rw [up_ne _ _ (by omega)] at t2; rw [uI_off _ _ _ (by omega), up_ne _ _ (by omega)]; exact h.br t1 t2
  · rw [up_ne _ _ (by omega)] at r2; rw [uI_off _ _ _ (by omega), up_ne _ _ (by omega)]; exact h.t1 r1 r2
  · rw [up_ne _ _ (by omega)] at r2; rw [uI_at]; by_cases q : r = r0; subst q; rw [if_pos rfl, up_at]; rw [if_neg q, up_ne _ _ (by omega)]; exact h.t2 r1 r2
  · rw [up_ne _ _ (by omega)] at r2; rw [uI_off _ _ _ (by omega), up_ne _ _ (by omega)]; exact h.we r1 r2
  · rw [up_ne _ _ (by omega)] at r2; rw [uI_off _ _ _ (by omega), up_ne _ _ (by omega)]; exact h.bh r1 r2
  · rw [up_ne _ _ (by omega)] at r2; rw [uI_off _ _ _ (by omega), up_ne _ _ (by omega)]; exact h.bo r1 r2
theorem WN.u_we (h : WN w I s) {r0 x z : Int} (q0 : 0 ≤ r0 ∧ r0 < 12) (hz : ∀ j : Nat, j < 12 → ib z j = if j = r0.toNat then decide (x = 1) else ib (I w 15) j) : WN w (uI I w 15 z) (up s (138 + r0) x) := by
  have hb := h.bd
  refine ⟨⟨?_, ?_, ?_, ?_, ?_, ?_, by simp only [up]; refine ⟨?_, ?_, ?_, ?_⟩ <;> (repeat' split) <;> omega⟩, fun i i1 i2 => ?_, fun p p1 p2 => ?_, fun j j1 j2 => ?_, fun t t1 t2 => ⟨?_, ?_, ?_, ?_⟩, fun r r1 r2 => ⟨?_, ?_, ?_⟩, fun r r1 r2 => ⟨?_, ?_⟩⟩
  · rw [uI_at, if_neg (by decide), up_ne _ _ (by omega)]; exact h.sg
  · rw [uI_at, if_neg (by decide), up_ne _ _ (by omega)]; exact h.vc
  · rw [uI_at, if_neg (by decide), up_ne _ _ (by omega)]; exact h.pc
  · rw [uI_at, if_neg (by decide), up_ne _ _ (by omega)]; exact h.tc
  · rw [uI_at, if_neg (by decide), up_ne _ _ (by omega)]; exact h.rc
  · rw [uI_at, if_neg (by decide), up_ne _ _ (by omega)]; exact h.bc
  · rw [uI_off _ _ _ (by omega), up_ne _ _ (by omega)]; exact h.tp i1 i2
  · rw [up_ne _ _ (by omega)] at p2; rw [uI_off _ _ _ (by omega), up_ne _ _ (by omega)]; exact h.fr p1 p2
  · rw [up_ne _ _ (by omega)] at j2; rw [uI_off _ _ _ (by omega), up_ne _ _ (by omega)]; exact h.rw j1 j2
  · rw [up_ne _ _ (by omega)] at t2; rw [uI_off _ _ _ (by omega), up_ne _ _ (by omega)]; exact h.so t1 t2
  · rw [up_ne _ _ (by omega)] at t2; rw [uI_off _ _ _ (by omega), up_ne _ _ (by omega)]; exact h.ho t1 t2
  · rw [up_ne _ _ (by omega)] at t2; rw [uI_off _ _ _ (by omega), up_ne _ _ (by omega)]; exact h.tw t1 t2
  · rw [up_ne _ _ (by omega)] at t2; rw [uI_at, if_neg (by decide), up_ne _ _ (by omega)]; exact h.br t1 t2
  · rw [up_ne _ _ (by omega)] at r2; rw [uI_off _ _ _ (by omega), up_ne _ _ (by omega)]; exact h.t1 r1 r2
  · rw [up_ne _ _ (by omega)] at r2; rw [uI_off _ _ _ (by omega), up_ne _ _ (by omega)]; exact h.t2 r1 r2
  · rw [up_ne _ _ (by omega)] at r2; rw [uI_at, if_pos rfl, hz r.toNat (by omega)]; by_cases q : r = r0; subst q; rw [if_pos rfl, up_at]; rw [if_neg (by omega), up_ne _ _ (by omega)]; exact h.we r1 r2
  · rw [up_ne _ _ (by omega)] at r2; rw [uI_off _ _ _ (by omega), up_ne _ _ (by omega)]; exact h.bh r1 r2
  · rw [up_ne _ _ (by omega)] at r2; rw [uI_off _ _ _ (by omega), up_ne _ _ (by omega)]; exact h.bo r1 r2
theorem WN.u_bh (h : WN w I s) {r0 x : Int} (q0 : 0 ≤ r0 ∧ r0 < 12) : WN w (uI I (w + 11) r0 x) (up s (150 + r0) x) := by
  have hb := h.bd
  refine ⟨⟨?_, ?_, ?_, ?_, ?_, ?_, by simp only [up]; refine ⟨?_, ?_, ?_, ?_⟩ <;> (repeat' split) <;> omega⟩, fun i i1 i2 => ?_, fun p p1 p2 => ?_, fun j j1 j2 => ?_, fun t t1 t2 => ⟨?_, ?_, ?_, ?_⟩, fun r r1 r2 => ⟨?_, ?_, ?_⟩, fun r r1 r2 => ⟨?_, ?_⟩⟩
  · rw [uI_off _ _ _ (by omega), up_ne _ _ (by omega)]; exact h.sg
  · rw [uI_off _ _ _ (by omega), up_ne _ _ (by omega)]; exact h.vc
  · rw [uI_off _ _ _ (by omega), up_ne _ _ (by omega)]; exact h.pc
  · rw [uI_off _ _ _ (by omega), up_ne _ _ (by omega)]; exact h.tc
  · rw [uI_off _ _ _ (by omega), up_ne _ _ (by omega)]; exact h.rc
  · rw [uI_off _ _ _ (by omega), up_ne _ _ (by omega)]; exact h.bc
  · rw [uI_off _ _ _ (by omega), up_ne _ _ (by omega)]; exact h.tp i1 i2
  · rw [up_ne _ _ (by omega)] at p2; rw [uI_off _ _ _ (by omega), up_ne _ _ (by omega)]; exact h.fr p1 p2
  · rw [up_ne _ _ (by omega)] at j2; rw [uI_off _ _ _ (by omega), up_ne _ _ (by omega)]; exact h.rw j1 j2
  · rw [up_ne _ _ (by omega)] at t2; rw [uI_off _ _ _ (by omega), up_ne _ _ (by omega)]; exact h.so t1 t2
  · rw [up_ne _ _ (by omega)] at t2; rw [uI_off _ _ _ (by omega), up_ne _ _ (by omega)]; exact h.ho t1 t2
  · rw [up_ne _ _ (by omega)] at t2; rw [uI_off _ _ _ (by omega), up_ne _ _ (by omega)]; exact h.tw t1 t2
  · rw [up_ne _ _ (by omega)] at t2; rw [uI_off _ _ _ (by omega), up_ne _ _ (by omega)]; exact h.br t1 t2
  · rw [up_ne _ _ (by omega)] at r2; rw [uI_off _ _ _ (by omega), up_ne _ _ (by omega)]; exact h.t1 r1 r2
  · rw [up_ne _ _ (by omega)] at r2; rw [uI_off _ _ _ (by omega), up_ne _ _ (by omega)]; exact h.t2 r1 r2
  · rw [up_ne _ _ (by omega)] at r2; rw [uI_off _ _ _ (by omega), up_ne _ _ (by omega)]; exact h.we r1 r2
  · rw [up_ne _ _ (by omega)] at r2; rw [uI_at]; by_cases q : r = r0; subst q; rw [if_pos rfl, up_at]; rw [if_neg q, up_ne _ _ (by omega)]; exact h.bh r1 r2
  · rw [up_ne _ _ (by omega)] at r2; rw [uI_off _ _ _ (by omega), up_ne _ _ (by omega)]; exact h.bo r1 r2
theorem WN.u_bo (h : WN w I s) {r0 x : Int} (q0 : 0 ≤ r0 ∧ r0 < 12) : WN w (uI I (w + 12) r0 x) (up s (162 + r0) x) := by
  have hb := h.bd
  refine ⟨⟨?_, ?_, ?_, ?_, ?_, ?_, by simp only [up]; refine ⟨?_, ?_, ?_, ?_⟩ <;> (repeat' split) <;> omega⟩, fun i i1 i2 => ?_, fun p p1 p2 => ?_, fun j j1 j2 => ?_, fun t t1 t2 => ⟨?_, ?_, ?_, ?_⟩, fun r r1 r2 => ⟨?_, ?_, ?_⟩, fun r r1 r2 => ⟨?_, ?_⟩⟩
  · rw [uI_off _ _ _ (by omega), up_ne _ _ (by omega)]; exact h.sg
  · rw [uI_off _ _ _ (by omega), up_ne _ _ (by omega)]; exact h.vc
  · rw [uI_off _ _ _ (by omega), up_ne _ _ (by omega)]; exact h.pc
  · rw [uI_off _ _ _ (by omega), up_ne _ _ (by omega)]; exact h.tc
  · rw [uI_off _ _ _ (by omega), up_ne _ _ (by omega)]; exact h.rc
  · rw [uI_off _ _ _ (by omega), up_ne _ _ (by omega)]; exact h.bc
  · rw [uI_off _ _ _ (by omega), up_ne _ _ (by omega)]; exact h.tp i1 i2
  · rw [up_ne _ _ (by omega)] at p2; rw [uI_off _ _ _ (by omega), up_ne _ _ (by omega)]; exact h.fr p1 p2
  · rw [up_ne _ _ (by omega)] at j2; rw [uI_off _ _ _ (by omega), up_ne _ _ (by omega)]; exact h.rw j1 j2
  · rw [up_ne _ _ (by omega)] at t2; rw [uI_off _ _ _ (by omega), up_ne _ _ (by omega)]; exact h.so t1 t2
  · rw [up_ne _ _ (by omega)] at t2; rw [uI_off _ _ _ (by omega), up_ne _ _ (by omega)]; exact h.ho t1 t2
  · rw [up_ne _ _ (by omega)] at t2; rw [uI_off _ _ _ (by omega), up_ne _ _ (by omega)]; exact h.tw t1 t2
  · rw [up_ne _ _ (by omega)] at t2; rw [uI_off _ _ _ (by omega), up_ne _ _ (by omega)]; exact h.br t1 t2
  · rw [up_ne _ _ (by omega)] at r2; rw [uI_off _ _ _ (by omega), up_ne _ _ (by omega)]; exact h.t1 r1 r2
  · rw [up_ne _ _ (by omega)] at r2; rw [uI_off _ _ _ (by omega), up_ne _ _ (by omega)]; exact h.t2 r1 r2
  · rw [up_ne _ _ (by omega)] at r2; rw [uI_off _ _ _ (by omega), up_ne _ _ (by omega)]; exact h.we r1 r2
  · rw [up_ne _ _ (by omega)] at r2; rw [uI_off _ _ _ (by omega), up_ne _ _ (by omega)]; exact h.bh r1 r2
  · rw [up_ne _ _ (by omega)] at r2; rw [uI_at]; by_cases q : r = r0; subst q; rw [if_pos rfl, up_at]; rw [if_neg q, up_ne _ _ (by omega)]; exact h.bo r1 r2
theorem WN.u_vc (h : WN w I s) {x : Int} : WN w (uI I w 3 x) (up s 2 x) := by
  have hb := h.bd
  refine ⟨⟨?_, ?_, ?_, ?_, ?_, ?_, by simp only [up]; refine ⟨?_, ?_, ?_, ?_⟩ <;> (repeat' split) <;> omega⟩, fun i i1 i2 => ?_, fun p p1 p2 => ?_, fun j j1 j2 => ?_, fun t t1 t2 => ⟨?_, ?_, ?_, ?_⟩, fun r r1 r2 => ⟨?_, ?_, ?_⟩, fun r r1 r2 => ⟨?_, ?_⟩⟩
  · rw [uI_at, if_neg (by decide), up_ne _ _ (by omega)]; exact h.sg
  · rw [uI_at, if_pos rfl, up_at]
  · rw [uI_at, if_neg (by decide), up_ne _ _ (by omega)]; exact h.pc
  · rw [uI_at, if_neg (by decide), up_ne _ _ (by omega)]; exact h.tc
  · rw [uI_at, if_neg (by decide), up_ne _ _ (by omega)]; exact h.rc
  · rw [uI_at, if_neg (by decide), up_ne _ _ (by omega)]; exact h.bc
  · rw [uI_off _ _ _ (by omega), up_ne _ _ (by omega)]; exact h.tp i1 i2
  · rw [up_ne _ _ (by omega)] at p2; rw [uI_off _ _ _ (by omega), up_ne _ _ (by omega)]; exact h.fr p1 p2
  · rw [up_ne _ _ (by omega)] at j2; rw [uI_off _ _ _ (by omega), up_ne _ _ (by omega)]; exact h.rw j1 j2
  · rw [up_ne _ _ (by omega)] at t2; rw [uI_off _ _ _ (by omega), up_ne _ _ (by omega)]; exact h.so t1 t2
  · rw [up_ne _ _ (by omega)] at t2; rw [uI_off _ _ _ (by omega), up_ne _ _ (by omega)]; exact h.ho t1 t2
  · rw [up_ne _ _ (by omega)] at t2; rw [uI_off _ _ _ (by omega), up_ne _ _ (by omega)]; exact h.tw t1 t2
  · rw [up_ne _ _ (by omega)] at t2; rw [uI_at, if_neg (by decide), up_ne _ _ (by omega)]; exact h.br t1 t2
  · rw [up_ne _ _ (by omega)] at r2; rw [uI_off _ _ _ (by omega), up_ne _ _ (by omega)]; exact h.t1 r1 r2
  · rw [up_ne _ _ (by omega)] at r2; rw [uI_off _ _ _ (by omega), up_ne _ _ (by omega)]; exact h.t2 r1 r2
  · rw [up_ne _ _ (by omega)] at r2; rw [uI_at, if_neg (by decide), up_ne _ _ (by omega)]; exact h.we r1 r2
  · rw [up_ne _ _ (by omega)] at r2; rw [uI_off _ _ _ (by omega), up_ne _ _ (by omega)]; exact h.bh r1 r2
  · rw [up_ne _ _ (by omega)] at r2; rw [uI_off _ _ _ (by omega), up_ne _ _ (by omega)]; exact h.bo r1 r2
theorem WN.u_bc (h : WN w I s) (g0 : 0 ≤ s 4 ∧ s 4 < 12) (g1 : I (w + 11) (s 4) = s (150 + s 4)) (g2 : I (w + 12) (s 4) = s (162 + s 4)) : WN w (uI I w 19 (s 4 + 1)) (up s 4 (s 4 + 1)) := by
  have hb := h.bd
  refine ⟨⟨?_, ?_, ?_, ?_, ?_, ?_, by simp only [up]; refine ⟨?_, ?_, ?_, ?_⟩ <;> (repeat' split) <;> omega⟩, fun i i1 i2 => ?_, fun p p1 p2 => ?_, fun j j1 j2 => ?_, fun t t1 t2 => ⟨?_, ?_, ?_, ?_⟩, fun r r1 r2 => ⟨?_, ?_, ?_⟩, fun r r1 r2 => ⟨?_, ?_⟩⟩
  · rw [uI_at, if_neg (by decide), up_ne _ _ (by omega)]; exact h.sg
  · rw [uI_at, if_neg (by decide), up_ne _ _ (by omega)]; exact h.vc
  · rw [uI_at, if_neg (by decide), up_ne _ _ (by omega)]; exact h.pc
  · rw [uI_at, if_neg (by decide), up_ne _ _ (by omega)]; exact h.tc
  · rw [uI_at, if_neg (by decide), up_ne _ _ (by omega)]; exact h.rc
  · rw [uI_at, if_pos rfl, up_at]
  · rw [uI_off _ _ _ (by omega), up_ne _ _ (by omega)]; exact h.tp i1 i2
  · rw [up_ne _ _ (by omega)] at p2; rw [uI_off _ _ _ (by omega), up_ne _ _ (by omega)]; exact h.fr p1 p2
  · rw [up_ne _ _ (by omega)] at j2; rw [uI_off _ _ _ (by omega), up_ne _ _ (by omega)]; exact h.rw j1 j2
  · rw [up_ne _ _ (by omega)] at t2; rw [uI_off _ _ _ (by omega), up_ne _ _ (by omega)]; exact h.so t1 t2
  · rw [up_ne _ _ (by omega)] at t2; rw [uI_off _ _ _ (by omega), up_ne _ _ (by omega)]; exact h.ho t1 t2
  · rw [up_ne _ _ (by omega)] at t2; rw [uI_off _ _ _ (by omega), up_ne _ _ (by omega)]; exact h.tw t1 t2
  · rw [up_ne _ _ (by omega)] at t2; rw [uI_at, if_neg (by decide), up_ne _ _ (by omega)]; exact h.br t1 t2
  · rw [up_ne _ _ (by omega)] at r2; rw [uI_off _ _ _ (by omega), up_ne _ _ (by omega)]; exact h.t1 r1 r2
  · rw [up_ne _ _ (by omega)] at r2; rw [uI_off _ _ _ (by omega), up_ne _ _ (by omega)]; exact h.t2 r1 r2
  · rw [up_ne _ _ (by omega)] at r2; rw [uI_at, if_neg (by decide), up_ne _ _ (by omega)]; exact h.we r1 r2
  · rw [up_at] at r2; rw [uI_off _ _ _ (by omega), up_ne _ _ (by omega)]; rcases (show r < s 4 ∨ r = s 4 by omega) with q | q; exact h.bh r1 q; subst q; exact g1
  · rw [up_at] at r2; rw [uI_off _ _ _ (by omega), up_ne _ _ (by omega)]; rcases (show r < s 4 ∨ r = s 4 by omega) with q | q; exact h.bo r1 q; subst q; exact g2
theorem WN.u_rc (h : WN w I s) (g0 : 0 ≤ s 3 ∧ s 3 < 12) (g1 : I (w + 9) (s 3) = s (114 + s 3)) (g2 : I (w + 10) (s 3) = s (126 + s 3)) (g3 : ib (I w 15) (s 3).toNat = decide (s (138 + s 3) = 1)) : WN w (uI I w 16 (s 3 + 1)) (up s 3 (s 3 + 1)) := by
  have hb := h.bd
  refine ⟨⟨?_, ?_, ?_, ?_, ?_, ?_, by simp only [up]; refine ⟨?_, ?_, ?_, ?_⟩ <;> (repeat' split) <;> omega⟩, fun i i1 i2 => ?_, fun p p1 p2 => ?_, fun j j1 j2 => ?_, fun t t1 t2 => ⟨?_, ?_, ?_, ?_⟩, fun r r1 r2 => ⟨?_, ?_, ?_⟩, fun r r1 r2 => ⟨?_, ?_⟩⟩
  · rw [uI_at, if_neg (by decide), up_ne _ _ (by omega)]; exact h.sg
  · rw [uI_at, if_neg (by decide), up_ne _ _ (by omega)]; exact h.vc
  · rw [uI_at, if_neg (by decide), up_ne _ _ (by omega)]; exact h.pc
  · rw [uI_at, if_neg (by decide), up_ne _ _ (by omega)]; exact h.tc
  · rw [uI_at, if_pos rfl, up_at]
  · rw [uI_at, if_neg (by decide), up_ne _ _ (by omega)]; exact h.bc
  · rw [uI_off _ _ _ (by omega), up_ne _ _ (by omega)]; exact h.tp i1 i2
  · rw [up_ne _ _ (by omega)] at p2; rw [uI_off _ _ _ (by omega), up_ne _ _ (by omega)]; exact h.fr p1 p2
  · rw [up_ne _ _ (by omega)] at j2; rw [uI_off _ _ _ (by omega), up_ne _ _ (by omega)]; exact h.rw j1 j2
  · rw [up_ne _ _ (by omega)] at t2; rw [uI_off _ _ _ (by omega), up_ne _ _ (by omega)]; exact h.so t1 t2
  · rw [up_ne _ _ (by omega)] at t2; rw [uI_off _ _ _ (by omega), up_ne _ _ (by omega)]; exact h.ho t1 t2
  · rw [up_ne _ _ (by omega)] at t2; rw [uI_off _ _ _ (by omega), up_ne _ _ (by omega)]; exact h.tw t1 t2
  · rw [up_ne _ _ (by omega)] at t2; rw [uI_at, if_neg (by decide), up_ne _ _ (by omega)]; exact h.br t1 t2
  · rw [up_at] at r2; rw [uI_off _ _ _ (by omega), up_ne _ _ (by omega)]; rcases (show r < s 3 ∨ r = s 3 by omega) with q | q; exact h.t1 r1 q; subst q; exact g1
  · rw [up_at] at r2; rw [uI_off _ _ _ (by omega), up_ne _ _ (by omega)]; rcases (show r < s 3 ∨ r = s 3 by omega) with q | q; exact h.t2 r1 q; subst q; exact g2
  · rw [up_at] at r2; rw [uI_at, if_neg (by decide), up_ne _ _ (by omega)]; rcases (show r < s 3 ∨ r = s 3 by omega) with q | q; exact h.we r1 q; subst q; exact g3
  · rw [up_ne _ _ (by omega)] at r2; rw [uI_off _ _ _ (by omega), up_ne _ _ (by omega)]; exact h.bh r1 r2
  · rw [up_ne _ _ (by omega)] at r2; rw [uI_off _ _ _ (by omega), up_ne _ _ (by omega)]; exact h.bo r1 r2
theorem WN.u_cl (h : WN w I s)  : WN w (uI I w 16 0) (up s 3 0) := by
  have hb := h.bd
  refine ⟨⟨?_, ?_, ?_, ?_, ?_, ?_, by simp only [up]; refine ⟨?_, ?_, ?_, ?_⟩ <;> (repeat' split) <;> omega⟩, fun i i1 i2 => ?_, fun p p1 p2 => ?_, fun j j1 j2 => ?_, fun t t1 t2 => ⟨?_, ?_, ?_, ?_⟩, fun r r1 r2 => ⟨?_, ?_, ?_⟩, fun r r1 r2 => ⟨?_, ?_⟩⟩
  · rw [uI_at, if_neg (by decide), up_ne _ _ (by omega)]; exact h.sg
  · rw [uI_at, if_neg (by decide), up_ne _ _ (by omega)]; exact h.vc
  · rw [uI_at, if_neg (by decide), up_ne _ _ (by omega)]; exact h.pc
  · rw [uI_at, if_neg (by decide), up_ne _ _ (by omega)]; exact h.tc
  · rw [uI_at, if_pos rfl, up_at]
  · rw [uI_at, if_neg (by decide), up_ne _ _ (by omega)]; exact h.bc
  · rw [uI_off _ _ _ (by omega), up_ne _ _ (by omega)]; exact h.tp i1 i2
  · rw [up_ne _ _ (by omega)] at p2; rw [uI_off _ _ _ (by omega), up_ne _ _ (by omega)]; exact h.fr p1 p2
  · rw [up_ne _ _ (by omega)] at j2; rw [uI_off _ _ _ (by omega), up_ne _ _ (by omega)]; exact h.rw j1 j2
  · rw [up_ne _ _ (by omega)] at t2; rw [uI_off _ _ _ (by omega), up_ne _ _ (by omega)]; exact h.so t1 t2
  · rw [up_ne _ _ (by omega)] at t2; rw [uI_off _ _ _ (by omega), up_ne _ _ (by omega)]; exact h.ho t1 t2
  · rw [up_ne _ _ (by omega)] at t2; rw [uI_off _ _ _ (by omega), up_ne _ _ (by omega)]; exact h.tw t1 t2
  · rw [up_ne _ _ (by omega)] at t2; rw [uI_at, if_neg (by decide), up_ne _ _ (by omega)]; exact h.br t1 t2
  · rw [up_at] at r2; omega
  · rw [up_at] at r2; omega
  · rw [up_at] at r2; omega
  · rw [up_ne _ _ (by omega)] at r2; rw [uI_off _ _ _ (by omega), up_ne _ _ (by omega)]; exact h.bh r1 r2
  · rw [up_ne _ _ (by omega)] at r2; rw [uI_off _ _ _ (by omega), up_ne _ _ (by omega)]; exact h.bo r1 r2
theorem WN.u_tc (h : WN w I s) (g0 : 0 ≤ s 1 ∧ s 1 < 10) (g1 : I (w + 6) (s 1) = s (74 + s 1)) (g2 : I (w + 7) (s 1) = s (84 + s 1)) (g3 : I (w + 8) (s 1) = (if s (94 + s 1) = -1 then -5 else s (94 + s 1))) (g4 : ib (I w 11) (s 1).toNat = decide (s (104 + s 1) = 1)) : WN w (uI I w 12 (s 1 + 1)) (up s 1 (s 1 + 1)) := by
  have hb := h.bd
  refine ⟨⟨?_, ?_, ?_, ?_, ?_, ?_, by simp only [up]; refine ⟨?_, ?_, ?_, ?_⟩ <;> (repeat' split) <;> omega⟩, fun i i1 i2 => ?_, fun p p1 p2 => ?_, fun j j1 j2 => ?_, fun t t1 t2 => ⟨?_, ?_, ?_, ?_⟩, fun r r1 r2 => ⟨?_, ?_, ?_⟩, fun r r1 r2 => ⟨?_, ?_⟩⟩
  · rw [uI_at, if_neg (by decide), up_ne _ _ (by omega)]; exact h.sg
  · rw [uI_at, if_neg (by decide), up_ne _ _ (by omega)]; exact h.vc
  · rw [uI_at, if_neg (by decide), up_ne _ _ (by omega)]; exact h.pc
  · rw [uI_at, if_pos rfl, up_at]
  · rw [uI_at, if_neg (by decide), up_ne _ _ (by omega)]; exact h.rc
  · rw [uI_at, if_neg (by decide), up_ne _ _ (by omega)]; exact h.bc
  · rw [uI_off _ _ _ (by omega), up_ne _ _ (by omega)]; exact h.tp i1 i2
  · rw [up_ne _ _ (by omega)] at p2; rw [uI_off _ _ _ (by omega), up_ne _ _ (by omega)]; exact h.fr p1 p2
  · rw [up_ne _ _ (by omega)] at j2; rw [uI_off _ _ _ (by omega), up_ne _ _ (by omega)]; exact h.rw j1 j2
  · rw [up_at] at t2; rw [uI_off _ _ _ (by omega), up_ne _ _ (by omega)]; rcases (show t < s 1 ∨ t = s 1 by omega) with q | q; exact h.so t1 q; subst q; exact g1
  · rw [up_at] at t2; rw [uI_off _ _ _ (by omega), up_ne _ _ (by omega)]; rcases (show t < s 1 ∨ t = s 1 by omega) with q | q; exact h.ho t1 q; subst q; exact g2
  · rw [up_at] at t2; rw [uI_off _ _ _ (by omega), up_ne _ _ (by omega)]; rcases (show t < s 1 ∨ t = s 1 by omega) with q | q; exact h.tw t1 q; subst q; exact g3
  · rw [up_at] at t2; rw [uI_at, if_neg (by decide), up_ne _ _ (by omega)]; rcases (show t < s 1 ∨ t = s 1 by omega) with q | q; exact h.br t1 q; subst q; exact g4
  · rw [up_ne _ _ (by omega)] at r2; rw [uI_off _ _ _ (by omega), up_ne _ _ (by omega)]; exact h.t1 r1 r2
  · rw [up_ne _ _ (by omega)] at r2; rw [uI_off _ _ _ (by omega), up_ne _ _ (by omega)]; exact h.t2 r1 r2
  · rw [up_ne _ _ (by omega)] at r2; rw [uI_at, if_neg (by decide), up_ne _ _ (by omega)]; exact h.we r1 r2
  · rw [up_ne _ _ (by omega)] at r2; rw [uI_off _ _ _ (by omega), up_ne _ _ (by omega)]; exact h.bh r1 r2
  · rw [up_ne _ _ (by omega)] at r2; rw [uI_off _ _ _ (by omega), up_ne _ _ (by omega)]; exact h.bo r1 r2
theorem WN.u_pc (h : WN w I s) (g0 : 0 ≤ s 0 ∧ s 0 < 8) (g1 : I (w + 4) (s 0) = s (34 + s 0)) (g2 : ∀ j, 4 * s 0 ≤ j → j < 4 * s 0 + 4 → I (w + 5) j = (if s (42 + j) = -1 then -5 else s (42 + j))) : WN w (uI I w 5 (s 0 + 1)) (up s 0 (s 0 + 1)) := by
  have hb := h.bd
  refine ⟨⟨?_, ?_, ?_, ?_, ?_, ?_, by simp only [up]; refine ⟨?_, ?_, ?_, ?_⟩ <;> (repeat' split) <;> omega⟩, fun i i1 i2 => ?_, fun p p1 p2 => ?_, fun j j1 j2 => ?_, fun t t1 t2 => ⟨?_, ?_, ?_, ?_⟩, fun r r1 r2 => ⟨?_, ?_, ?_⟩, fun r r1 r2 => ⟨?_, ?_⟩⟩
  · rw [uI_at, if_neg (by decide), up_ne _ _ (by omega)]; exact h.sg
  · rw [uI_at, if_neg (by decide), up_ne _ _ (by omega)]; exact h.vc
  · rw [uI_at, if_pos rfl, up_at]
  · rw [uI_at, if_neg (by decide), up_ne _ _ (by omega)]; exact h.tc
  · rw [uI_at, if_neg (by decide), up_ne _ _ (by omega)]; exact h.rc
  · rw [uI_at, if_neg (by decide), up_ne _ _ (by omega)]; exact h.bc
  · rw [uI_off _ _ _ (by omega), up_ne _ _ (by omega)]; exact h.tp i1 i2
  · rw [up_at] at p2; rw [uI_off _ _ _ (by omega), up_ne _ _ (by omega)]; rcases (show p < s 0 ∨ p = s 0 by omega) with q | q; exact h.fr p1 q; subst q; exact g1
  · rw [up_at] at j2; rw [uI_off _ _ _ (by omega), up_ne _ _ (by omega)]; rcases (show j < 4 * s 0 ∨ 4 * s 0 ≤ j by omega) with q | q; exact h.rw j1 q; exact g2 j q (by omega)
  · rw [up_ne _ _ (by omega)] at t2; rw [uI_off _ _ _ (by omega), up_ne _ _ (by omega)]; exact h.so t1 t2
  · rw [up_ne _ _ (by omega)] at t2; rw [uI_off _ _ _ (by omega), up_ne _ _ (by omega)]; exact h.ho t1 t2
  · rw [up_ne _ _ (by omega)] at t2; rw [uI_off _ _ _ (by omega), up_ne _ _ (by omega)]; exact h.tw t1 t2
  · rw [up_ne _ _ (by omega)] at t2; rw [uI_at, if_neg (by decide), up_ne _ _ (by omega)]; exact h.br t1 t2
  · rw [up_ne _ _ (by omega)] at r2; rw [uI_off _ _ _ (by omega), up_ne _ _ (by omega)]; exact h.t1 r1 r2
  · rw [up_ne _ _ (by omega)] at r2; rw [uI_off _ _ _ (by omega), up_ne _ _ (by omega)]; exact h.t2 r1 r2
  · rw [up_ne _ _ (by omega)] at r2; rw [uI_at, if_neg (by decide), up_ne _ _ (by omega)]; exact h.we r1 r2
  · rw [up_ne _ _ (by omega)] at r2; rw [uI_off _ _ _ (by omega), up_ne _ _ (by omega)]; exact h.bh r1 r2
  · rw [up_ne _ _ (by omega)] at r2; rw [uI_off _ _ _ (by omega), up_ne _ _ (by omega)]; exact h.bo r1 r2
/-- the kind, v and house of one of the people stand elsewhere -/
theorem WN.s_hd (h : WN w I s) {k x : Int} (hk : (10 ≤ k ∧ k < 34) ∨ (274 ≤ k)) : WN w I (up s k x) := by
  have hb := h.bd
  refine ⟨⟨?_, ?_, ?_, ?_, ?_, ?_, by simp only [up]; refine ⟨?_, ?_, ?_, ?_⟩ <;> (repeat' split) <;> omega⟩, fun i i1 i2 => ?_, fun p p1 p2 => ?_, fun j j1 j2 => ?_, fun t t1 t2 => ⟨?_, ?_, ?_, ?_⟩, fun r r1 r2 => ⟨?_, ?_, ?_⟩, fun r r1 r2 => ⟨?_, ?_⟩⟩
  · rw [up_ne _ _ (by omega)]; exact h.sg
  · rw [up_ne _ _ (by omega)]; exact h.vc
  · rw [up_ne _ _ (by omega)]; exact h.pc
  · rw [up_ne _ _ (by omega)]; exact h.tc
  · rw [up_ne _ _ (by omega)]; exact h.rc
  · rw [up_ne _ _ (by omega)]; exact h.bc
  · rw [up_ne _ _ (by omega)]; exact h.tp i1 i2
  · rw [up_ne _ _ (by omega)] at p2; rw [up_ne _ _ (by omega)]; exact h.fr p1 p2
  · rw [up_ne _ _ (by omega)] at j2; rw [up_ne _ _ (by omega)]; exact h.rw j1 j2
  · rw [up_ne _ _ (by omega)] at t2; rw [up_ne _ _ (by omega)]; exact h.so t1 t2
  · rw [up_ne _ _ (by omega)] at t2; rw [up_ne _ _ (by omega)]; exact h.ho t1 t2
  · rw [up_ne _ _ (by omega)] at t2; rw [up_ne _ _ (by omega)]; exact h.tw t1 t2
  · rw [up_ne _ _ (by omega)] at t2; rw [up_ne _ _ (by omega)]; exact h.br t1 t2
  · rw [up_ne _ _ (by omega)] at r2; rw [up_ne _ _ (by omega)]; exact h.t1 r1 r2
  · rw [up_ne _ _ (by omega)] at r2; rw [up_ne _ _ (by omega)]; exact h.t2 r1 r2
  · rw [up_ne _ _ (by omega)] at r2; rw [up_ne _ _ (by omega)]; exact h.we r1 r2
  · rw [up_ne _ _ (by omega)] at r2; rw [up_ne _ _ (by omega)]; exact h.bh r1 r2
  · rw [up_ne _ _ (by omega)] at r2; rw [up_ne _ _ (by omega)]; exact h.bo r1 r2
/-- the numbers of a world, by those that count -/
theorem WN.sEq {s' : Int → Int} (h : WN w I s) (hs : ∀ j, 0 ≤ j → j < 274 → j ≠ 6 → s' j = s j) : WN w I s' := by
  have e0 := hs 0 (by omega) (by omega) (by omega)
  have e1 := hs 1 (by omega) (by omega) (by omega)
  have e3 := hs 3 (by omega) (by omega) (by omega)
  have e4 := hs 4 (by omega) (by omega) (by omega)
  have hb := h.bd
  refine ⟨⟨?_, ?_, ?_, ?_, ?_, ?_, by omega⟩, fun i i1 i2 => ?_, fun p p1 p2 => ?_, fun j j1 j2 => ?_, fun t t1 t2 => ⟨?_, ?_, ?_, ?_⟩, fun r r1 r2 => ⟨?_, ?_, ?_⟩, fun r r1 r2 => ⟨?_, ?_⟩⟩
  · rw [hs _ (by omega) (by omega) (by omega)]; exact h.sg
  · rw [hs _ (by omega) (by omega) (by omega)]; exact h.vc
  · rw [hs _ (by omega) (by omega) (by omega)]; exact h.pc
  · rw [hs _ (by omega) (by omega) (by omega)]; exact h.tc
  · rw [hs _ (by omega) (by omega) (by omega)]; exact h.rc
  · rw [hs _ (by omega) (by omega) (by omega)]; exact h.bc
  · rw [hs (174 + i) (by omega) (by omega) (by omega)]; exact h.tp i1 (by omega)
  · rw [hs (34 + p) (by omega) (by omega) (by omega)]; exact h.fr p1 (by omega)
  · rw [hs (42 + j) (by omega) (by omega) (by omega)]; exact h.rw j1 (by omega)
  · rw [hs (74 + t) (by omega) (by omega) (by omega)]; exact h.so t1 (by omega)
  · rw [hs (84 + t) (by omega) (by omega) (by omega)]; exact h.ho t1 (by omega)
  · rw [hs (94 + t) (by omega) (by omega) (by omega)]; exact h.tw t1 (by omega)
  · rw [hs (104 + t) (by omega) (by omega) (by omega)]; exact h.br t1 (by omega)
  · rw [hs (114 + r) (by omega) (by omega) (by omega)]; exact h.t1 r1 (by omega)
  · rw [hs (126 + r) (by omega) (by omega) (by omega)]; exact h.t2 r1 (by omega)
  · rw [hs (138 + r) (by omega) (by omega) (by omega)]; exact h.we r1 (by omega)
  · rw [hs (150 + r) (by omega) (by omega) (by omega)]; exact h.bh r1 (by omega)
  · rw [hs (162 + r) (by omega) (by omega) (by omega)]; exact h.bo r1 (by omega)
end WU
/-- only the world that is changed -/
def wo (I J : Nat → Int → Int) : Prop := ∀ b, b < 1 ∨ 13 < b → J b = I b
theorem wo.rf {I : Nat → Int → Int} : wo I I := fun _ _ => rfl
theorem wo.u {I J : Nat → Int → Int} {a : Nat} {i x : Int} (h : wo I J) (ha : 1 ≤ a ∧ a ≤ 13) : wo I (uI J a i x) := fun b hb => (uI_off _ _ _ (by omega)).trans (h b hb)
