/-- the row of truths, as the array holds it -/
def trs (g : Int → Int) : List Bool → Prop
  | [] => True
  | y :: r => g (r.length : Int) = (if y = true then 1 else 0) ∧ trs g r
theorem trs_up {g : Int → Int} {i v : Int} : ∀ {r : List Bool}, trs g r → (r.length : Int) ≤ i → trs (up g i v) r
  | [], _, _ => trivial
  | y :: r, h, hi => ⟨by rw [up_ne _ _ (by simp only [List.length_cons] at hi; omega)]; exact h.1, trs_up h.2 (by simp only [List.length_cons] at hi; omega)⟩
theorem rDeep_t {d d' : Nat} {x : Int} (h : rDeep d x = some d') (hx : 0 ≤ x) : x % 8 ≤ 4 ∧ x / 8 % 4 ≤ 2 ∧ x ≤ 3188 ∧ d < 13 ∧ d' = d + 1 := by
  rw [rDeep, if_pos hx] at h
  split at h
  · cases h; omega
  · cases h
theorem rDeep_n {d d' : Nat} {x : Int} (h : rDeep d x = some d') (hx : x = -1) : 1 ≤ d ∧ d' = d := by
  rw [rDeep, if_neg (by omega), if_pos hx] at h
  split at h
  · cases h; omega
  · cases h
theorem rDeep_b {d d' : Nat} {x : Int} (h : rDeep d x = some d') (hx : x < 0) (h1 : x ≠ -1) (h2 : -10 < x) : (x = -2 ∨ x = -3) ∧ 2 ≤ d ∧ d' = d - 1 := by
  rw [rDeep, if_neg (by omega), if_neg h1] at h
  split at h
  · split at h
    · cases h; omega
    · cases h
  · split at h
    · omega
    · cases h
theorem rDeep_c {d d' : Nat} {x : Int} (h : rDeep d x = some d') (h2 : x ≤ -10) : d = 1 ∧ d' = 0 ∧ -299 ≤ x ∧ (-109 ≤ x ∨ x ≤ -200) := by
  rw [rDeep, if_neg (by omega), if_neg (by omega), if_neg (by omega)] at h
  split at h
  · split at h
    · cases h; omega
    · cases h
  · cases h
theorem rDeeps_lt {s : Int → Int} {f : Int} {j : Nat} : ∀ (m : Nat) {d : Nat}, rDeeps s f (j + 1 + m) = some d → ∃ d0 d1, rDeeps s f j = some d0 ∧ rDeep d0 (s (f + (j : Int))) = some d1
  | 0, d, h => by
    rw [Nat.add_zero, rDeeps] at h
    cases h0 : rDeeps s f j with
    | none => rw [h0] at h; cases h
    | some d0 => rw [h0] at h; exact ⟨d0, d, rfl, h⟩
  | m + 1, d, h => by
    rw [show j + 1 + (m + 1) = (j + 1 + m) + 1 by omega, rDeeps] at h
    cases h0 : rDeeps s f (j + 1 + m) with
    | none => rw [h0] at h; cases h
    | some d0 => exact rDeeps_lt m h0
theorem trs_1 {J L : Nat → Int → Int} {stk : List Bool} {i v : Int} (h : trs (J 73) stk) (e : L = uI J 73 i v) (hi : (stk.length : Int) ≤ i) : trs (L 73) stk := by
  subst e
  rw [uI_set, setA_at]
  exact trs_up h hi
theorem ot_1 {J L : Nat → Int → Int} {i v : Int} {a : Nat} (e : L = uI J a i v) {b : Nat} (hb : b ≠ a) : L b = J b := by rw [e, uI_off _ _ _ hb]
section RD
variable {l : Launch} {G : tG} {K : Nat → Nat × Nat} {I : Nat → Int → Int} {Q : Nat → Int → Option Nat} {n : Nat} {s : Int → Int}
theorem l_R_worthOf {b : Int → Int} {f t u a2 b2 : Int} {many : Nat} (hS : tSt (K, I, Q, n)) (hR : RInv s) (hf : (many ≠ 0 → 284 ≤ f) ∧ -1000 ≤ f ∧ f ≤ 1000 ∧ f + many ≤ 984) (hW : rDeeps s f many = some 0) (hb5 : ∀ i, 0 ≤ i → i ≤ 4 → -1000 ≤ b i ∧ b i ≤ 1000) : ∀ (k : Nat) (j : Nat) (J : Nat → Int → Int) (stk : List Bool) (sm : Int), j + k = many → J 70 = s → rk I J → (∀ i, 0 ≤ i → i ≤ 4 → J 72 i = b i) → rRun b s f j = (stk, sm) → rDeeps s f j = some stk.length → trs (J 73) stk → (-300 * (j : Int) ≤ sm ∧ sm ≤ 300 * (j : Int)) → stk.length ≤ 13 → tw_AW l G mR_worthOf 2 0 0 n 0 (fun r h' => r = some (vi (rRun b s f many).2) ∧ ∃ L, h' = (K, L, Q, n) ∧ rk I L) 178 [(9, vi (f + (j : Int))), (8, vi (stk.length : Int)), (7, vi f), (6, vi (many : Int)), (5, vi sm), (4, vi b2), (3, vi a2), (0, vr (some 69)), (1, vi t), (2, vi u)] [] (K, J, Q, n) := by
  obtain ⟨h0, h1, h2, h3, h4, h5, h6, hp, hrw, ht, hr, hb, htp, hv⟩ := id hR
  intro k
  induction k with
  | zero =>
    intro j J stk sm hj hs hk hby hrun hdep htr hsm hln
    refine ar_iload (k := 109) rfl rfl ?_
    refine ar_iload (k := 110) rfl rfl ?_
    refine ar_iload (k := 111) rfl rfl ?_
    refine ar_iadd (k := 112) rfl ?_
    refine ar_icmp_ge (k := 113) rfl (by omega) (by omega) (fun c113 => ?_) (fun c113 => ?_)
    · refine ar_iload (k := 258) rfl rfl ?_
      refine ar_iret (k := 259) rfl rfl rfl (Nat.le_refl _) ?_
      rw [show many = j by omega, hrun]
      exact ⟨rfl, J, rfl, hk⟩
    · exfalso; omega
  | succ k ih =>
    intro j J stk sm hj hs hk hby hrun hdep htr hsm hln
    refine ar_iload (k := 109) rfl rfl ?_
    refine ar_iload (k := 110) rfl rfl ?_
    refine ar_iload (k := 111) rfl rfl ?_
    refine ar_iadd (k := 112) rfl ?_
    refine ar_icmp_ge (k := 113) rfl (by omega) (by omega) (fun c113 => ?_) (fun c113 => ?_)
    · exfalso; omega
    · obtain ⟨d0, d1, hd0, hD⟩ := rDeeps_lt (s := s) (f := f) (j := j) k (d := 0) (by rw [show j + 1 + k = many by omega]; exact hW)
      obtain ⟨x, hx⟩ : ∃ x, s (f + (j : Int)) = x := ⟨_, rfl⟩
      rw [hdep] at hd0
      obtain rfl := Option.some.inj hd0
      rw [hx] at hD
      have hxr : -299 ≤ x ∧ x ≤ 3188 := by
        by_cases g1 : 0 ≤ x
        · have := rDeep_t hD g1; omega
        · by_cases g2 : x ≤ -10
          · have := rDeep_c hD g2; omega
          · omega
      refine ar_aloadn (k := 114) rfl rfl ?_
      refine br_getR (k := 115) rfl (hS.k (by decide)) flR_9_12 (by decide) rfl (hS.r rfl) ?_
      refine ar_iload (k := 116) rfl rfl ?_
      refine br_iads (k := 117) rfl (hS.k (by decide)) (by omega) (by omega) (by decide) hs ?_
      refine tw_top (y := x) (by exact hx) ?_
      refine ar_istore (k := 118) (l2 := [(10, _), (9, _), (8, _), (7, _), (6, _), (5, _), (4, _), (3, _), (0, _), (1, _), (2, _)]) rfl (by decide) rfl ?_
      refine ar_iload (k := 119) rfl rfl ?_
      refine ar_if_lt (k := 120) rfl (by omega) (fun c120 => ?_) (fun c120 => ?_)
      · refine ar_iload (k := 169) rfl rfl ?_
        refine ar_iconst (k := 170) rfl ?_
        refine ar_icmp_ne (k := 171) rfl (by omega) (by omega) (fun c171 => ?_) (fun c171 => ?_)
        · refine ar_iload (k := 189) rfl rfl ?_
          refine ar_bipush (k := 190) rfl (by decide) ?_
          refine ar_icmp_le (k := 191) rfl (by omega) (by omega) (fun c191 => ?_) (fun c191 => ?_)
          · have hT := rDeep_c hD (by omega)
            obtain ⟨y, rfl⟩ : ∃ y, stk = [y] := by
              rcases stk with _ | ⟨y, _ | ⟨z, r⟩⟩
              · simp only [List.length_nil] at hT; omega
              · exact ⟨y, rfl⟩
              · simp only [List.length_cons] at hT; omega
            refine ar_iconst (k := 234) rfl ?_
            refine ar_istore (k := 235) (l2 := [(8, _), (10, _), (9, _), (7, _), (6, _), (5, _), (4, _), (3, _), (0, _), (1, _), (2, _)]) rfl (by decide) rfl ?_
            refine ar_iload (k := 236) rfl rfl ?_
            refine ar_aloadn (k := 237) rfl rfl ?_
            refine br_getR (k := 238) rfl (hS.k (by decide)) flR_21_12 (by decide) rfl (hS.r rfl) ?_
            refine ar_iconst (k := 239) rfl ?_
            refine br_zald (k := 240) rfl (hS.k (by decide)) (by omega) (by omega) (by decide) ?_
            refine tw_top (y := if y = true then 1 else 0) (by exact htr.1) ?_
            refine ar_if_ne (k := 241) rfl (by omega) (fun c241 => ?_) (fun c241 => ?_)
            · refine ar_iload (k := 244) rfl rfl ?_
              refine ar_sipush (k := 245) rfl (by decide) ?_
              refine ar_icmp_le (k := 246) rfl (by omega) (by omega) (fun c246 => ?_) (fun c246 => ?_)
              · refine ar_iload (k := 251) rfl rfl ?_
                refine ar_sipush (k := 252) rfl (by decide) ?_
                refine ar_isub (k := 253) rfl ?_
                refine tw_top (y := if y = true then (if -200 < x then -10 - x else x + 200) else 0) (by cases y <;> simp_all <;> omega) ?_
                refine ar_iadd (k := 254) rfl ?_
                refine ar_istore (k := 255) (l2 := [(5, _), (8, _), (10, _), (9, _), (7, _), (6, _), (4, _), (3, _), (0, _), (1, _), (2, _)]) rfl (by decide) rfl ?_
                refine ar_iinc (k := 256) (l2 := [(9, _), (5, _), (8, _), (10, _), (7, _), (6, _), (4, _), (3, _), (0, _), (1, _), (2, _)]) rfl (by decide) rfl rfl ?_
                refine ar_goto (k := 257) rfl ?_
                refine ar_sub (l2 := [(9, vi (f + ((j + 1 : Nat) : Int))), (8, vi ((([] : List Bool)).length : Int)), (7, vi f), (6, vi (many : Int)), (5, vi (sm + (if y = true then (if -200 < x then -10 - x else x + 200) else 0))), (4, vi b2), (3, vi a2), (0, vr (some 69)), (1, vi t), (2, vi u)]) (tw_s (tw_e 0 rfl (by omega)) (tw_s (tw_e 2 rfl (by simp only [List.length_cons, List.length_nil] <;> omega)) (tw_s (tw_g 4 rfl) (tw_s (tw_g 5 rfl) (tw_s (tw_e 1 rfl (by rfl)) (tw_s (tw_g 6 rfl) (tw_s (tw_g 7 rfl) (tw_s (tw_g 8 rfl) (tw_s (tw_g 9 rfl) (tw_s (tw_g 10 rfl) tw_s0)))))))))) ?_
                exact ih (j + 1) J (([] : List Bool)) (sm + (if y = true then (if -200 < x then -10 - x else x + 200) else 0)) (by omega) hs hk hby (by rw [rRun, hrun, hx]; rw [rStep, if_neg (by omega), if_neg (by omega), if_neg (by omega)]; rfl) (by rw [rDeeps, hdep]; show rDeep _ (s (f + (j : Int))) = _; rw [hx, hD]; rw [hT.2.1]; rfl) trivial (by omega) (by simp only [List.length_cons, List.length_nil]; omega)
              · refine ar_bipush (k := 247) rfl (by decide) ?_
                refine ar_iload (k := 248) rfl rfl ?_
                refine ar_isub (k := 249) rfl ?_
                refine ar_goto (k := 250) rfl ?_
                refine tw_top (y := if y = true then (if -200 < x then -10 - x else x + 200) else 0) (by cases y <;> simp_all <;> omega) ?_
                refine ar_iadd (k := 254) rfl ?_
                refine ar_istore (k := 255) (l2 := [(5, _), (8, _), (10, _), (9, _), (7, _), (6, _), (4, _), (3, _), (0, _), (1, _), (2, _)]) rfl (by decide) rfl ?_
                refine ar_iinc (k := 256) (l2 := [(9, _), (5, _), (8, _), (10, _), (7, _), (6, _), (4, _), (3, _), (0, _), (1, _), (2, _)]) rfl (by decide) rfl rfl ?_
                refine ar_goto (k := 257) rfl ?_
                refine ar_sub (l2 := [(9, vi (f + ((j + 1 : Nat) : Int))), (8, vi ((([] : List Bool)).length : Int)), (7, vi f), (6, vi (many : Int)), (5, vi (sm + (if y = true then (if -200 < x then -10 - x else x + 200) else 0))), (4, vi b2), (3, vi a2), (0, vr (some 69)), (1, vi t), (2, vi u)]) (tw_s (tw_e 0 rfl (by omega)) (tw_s (tw_e 2 rfl (by simp only [List.length_cons, List.length_nil] <;> omega)) (tw_s (tw_g 4 rfl) (tw_s (tw_g 5 rfl) (tw_s (tw_e 1 rfl (by rfl)) (tw_s (tw_g 6 rfl) (tw_s (tw_g 7 rfl) (tw_s (tw_g 8 rfl) (tw_s (tw_g 9 rfl) (tw_s (tw_g 10 rfl) tw_s0)))))))))) ?_
                exact ih (j + 1) J (([] : List Bool)) (sm + (if y = true then (if -200 < x then -10 - x else x + 200) else 0)) (by omega) hs hk hby (by rw [rRun, hrun, hx]; rw [rStep, if_neg (by omega), if_neg (by omega), if_neg (by omega)]; rfl) (by rw [rDeeps, hdep]; show rDeep _ (s (f + (j : Int))) = _; rw [hx, hD]; rw [hT.2.1]; rfl) trivial (by omega) (by simp only [List.length_cons, List.length_nil]; omega)
            · refine ar_iconst (k := 242) rfl ?_
              refine ar_goto (k := 243) rfl ?_
              refine tw_top (y := if y = true then (if -200 < x then -10 - x else x + 200) else 0) (by cases y <;> simp_all <;> omega) ?_
              refine ar_iadd (k := 254) rfl ?_
              refine ar_istore (k := 255) (l2 := [(5, _), (8, _), (10, _), (9, _), (7, _), (6, _), (4, _), (3, _), (0, _), (1, _), (2, _)]) rfl (by decide) rfl ?_
              refine ar_iinc (k := 256) (l2 := [(9, _), (5, _), (8, _), (10, _), (7, _), (6, _), (4, _), (3, _), (0, _), (1, _), (2, _)]) rfl (by decide) rfl rfl ?_
              refine ar_goto (k := 257) rfl ?_
              refine ar_sub (l2 := [(9, vi (f + ((j + 1 : Nat) : Int))), (8, vi ((([] : List Bool)).length : Int)), (7, vi f), (6, vi (many : Int)), (5, vi (sm + (if y = true then (if -200 < x then -10 - x else x + 200) else 0))), (4, vi b2), (3, vi a2), (0, vr (some 69)), (1, vi t), (2, vi u)]) (tw_s (tw_e 0 rfl (by omega)) (tw_s (tw_e 2 rfl (by simp only [List.length_cons, List.length_nil] <;> omega)) (tw_s (tw_g 4 rfl) (tw_s (tw_g 5 rfl) (tw_s (tw_e 1 rfl (by rfl)) (tw_s (tw_g 6 rfl) (tw_s (tw_g 7 rfl) (tw_s (tw_g 8 rfl) (tw_s (tw_g 9 rfl) (tw_s (tw_g 10 rfl) tw_s0)))))))))) ?_
              exact ih (j + 1) J (([] : List Bool)) (sm + (if y = true then (if -200 < x then -10 - x else x + 200) else 0)) (by omega) hs hk hby (by rw [rRun, hrun, hx]; rw [rStep, if_neg (by omega), if_neg (by omega), if_neg (by omega)]; rfl) (by rw [rDeeps, hdep]; show rDeep _ (s (f + (j : Int))) = _; rw [hx, hD]; rw [hT.2.1]; rfl) trivial (by omega) (by simp only [List.length_cons, List.length_nil]; omega)
          · have hT := rDeep_b hD (by omega) (by omega) (by omega)
            obtain ⟨z, y, r, rfl⟩ : ∃ z y r, stk = z :: y :: r := by
              rcases stk with _ | ⟨z, _ | ⟨y, r⟩⟩
              · simp only [List.length_nil] at hT; omega
              · simp only [List.length_cons, List.length_nil] at hT; omega
              · exact ⟨z, y, r, rfl⟩
            simp only [List.length_cons] at *
            refine ar_iinc (k := 192) (l2 := [(8, _), (10, _), (9, _), (7, _), (6, _), (5, _), (4, _), (3, _), (0, _), (1, _), (2, _)]) rfl (by decide) rfl rfl ?_
            refine ar_aloadn (k := 193) rfl rfl ?_
            refine br_getR (k := 194) rfl (hS.k (by decide)) flR_21_12 (by decide) rfl (hS.r rfl) ?_
            refine ar_iload (k := 195) rfl rfl ?_
            refine ar_iconst (k := 196) rfl ?_
            refine ar_isub (k := 197) rfl ?_
            refine ar_iload (k := 198) rfl rfl ?_
            refine ar_bipush (k := 199) rfl (by decide) ?_
            refine ar_icmp_ne (k := 200) rfl (by omega) (by omega) (fun c200 => ?_) (fun c200 => ?_)
            · refine ar_aloadn (k := 217) rfl rfl ?_
              refine br_getR (k := 218) rfl (hS.k (by decide)) flR_21_12 (by decide) rfl (hS.r rfl) ?_
              refine ar_iload (k := 219) rfl rfl ?_
              refine ar_iconst (k := 220) rfl ?_
              refine ar_isub (k := 221) rfl ?_
              refine br_zald (k := 222) rfl (hS.k (by decide)) (by omega) (by omega) (by decide) ?_
              refine tw_top (y := if y = true then 1 else 0) (by rw [show ((r.length + 1 + 1 : Nat) : Int) + -1 - 1 = (r.length : Int) by omega]; exact htr.2.1) ?_
              refine ar_if_ne (k := 223) rfl (by omega) (fun c223 => ?_) (fun c223 => ?_)
              · refine ar_iconst (k := 229) rfl ?_
                refine ar_goto (k := 230) rfl ?_
                refine tw_top (y := if (if x = -2 then y && z else y || z) = true then 1 else 0) (by cases y <;> cases z <;> simp_all) ?_
                refine br_zastJ (k := 232) rfl (hS.k (by decide)) (by omega) (by omega) (by decide) (by omega) (fun I232 e232 => ?_)
                have hs232 : I232 70 = s := by rw [e232]; exact hs
                have hk232 := rk.w hk (by decide) e232
                refine ar_goto (k := 233) rfl ?_
                refine ar_iinc (k := 256) (l2 := [(9, _), (8, _), (10, _), (7, _), (6, _), (5, _), (4, _), (3, _), (0, _), (1, _), (2, _)]) rfl (by decide) rfl rfl ?_
                refine ar_goto (k := 257) rfl ?_
                refine ar_sub (l2 := [(9, vi (f + ((j + 1 : Nat) : Int))), (8, vi (((if x = -2 then y && z else y || z) :: r).length : Int)), (7, vi f), (6, vi (many : Int)), (5, vi (sm)), (4, vi b2), (3, vi a2), (0, vr (some 69)), (1, vi t), (2, vi u)]) (tw_s (tw_e 0 rfl (by omega)) (tw_s (tw_e 1 rfl (by simp only [List.length_cons, List.length_nil] <;> omega)) (tw_s (tw_g 3 rfl) (tw_s (tw_g 4 rfl) (tw_s (tw_g 5 rfl) (tw_s (tw_g 6 rfl) (tw_s (tw_g 7 rfl) (tw_s (tw_g 8 rfl) (tw_s (tw_g 9 rfl) (tw_s (tw_g 10 rfl) tw_s0)))))))))) ?_
                exact ih (j + 1) I232 ((if x = -2 then y && z else y || z) :: r) (sm) (by omega) hs232 hk232 (fun i a1 a2 => by rw [ot_1 e232 (by decide)]; exact hby i a1 a2) (by rw [rRun, hrun, hx]; rw [rStep, if_neg (by omega), if_neg (by omega), if_pos (by omega)]) (by rw [rDeeps, hdep]; show rDeep _ (s (f + (j : Int))) = _; rw [hx, hD]; rw [hT.2.2]; rfl) ⟨by rw [e232, uI_at, if_pos (by omega)], trs_1 htr.2.2 e232 (by omega)⟩ (by omega) (by simp only [List.length_cons, List.length_nil]; omega)
              · refine ar_aloadn (k := 224) rfl rfl ?_
                refine br_getR (k := 225) rfl (hS.k (by decide)) flR_21_12 (by decide) rfl (hS.r rfl) ?_
                refine ar_iload (k := 226) rfl rfl ?_
                refine br_zald (k := 227) rfl (hS.k (by decide)) (by omega) (by omega) (by decide) ?_
                refine tw_top (y := if z = true then 1 else 0) (by rw [show ((r.length + 1 + 1 : Nat) : Int) + -1 = ((r.length + 1 : Nat) : Int) by omega]; exact htr.1) ?_
                refine ar_if_eq (k := 228) rfl (by omega) (fun c228 => ?_) (fun c228 => ?_)
                · refine ar_iconst (k := 231) rfl ?_
                  refine tw_top (y := if (if x = -2 then y && z else y || z) = true then 1 else 0) (by cases y <;> cases z <;> simp_all) ?_
                  refine br_zastJ (k := 232) rfl (hS.k (by decide)) (by omega) (by omega) (by decide) (by omega) (fun I232 e232 => ?_)
                  have hs232 : I232 70 = s := by rw [e232]; exact hs
                  have hk232 := rk.w hk (by decide) e232
                  refine ar_goto (k := 233) rfl ?_
                  refine ar_iinc (k := 256) (l2 := [(9, _), (8, _), (10, _), (7, _), (6, _), (5, _), (4, _), (3, _), (0, _), (1, _), (2, _)]) rfl (by decide) rfl rfl ?_
                  refine ar_goto (k := 257) rfl ?_
                  refine ar_sub (l2 := [(9, vi (f + ((j + 1 : Nat) : Int))), (8, vi (((if x = -2 then y && z else y || z) :: r).length : Int)), (7, vi f), (6, vi (many : Int)), (5, vi (sm)), (4, vi b2), (3, vi a2), (0, vr (some 69)), (1, vi t), (2, vi u)]) (tw_s (tw_e 0 rfl (by omega)) (tw_s (tw_e 1 rfl (by simp only [List.length_cons, List.length_nil] <;> omega)) (tw_s (tw_g 3 rfl) (tw_s (tw_g 4 rfl) (tw_s (tw_g 5 rfl) (tw_s (tw_g 6 rfl) (tw_s (tw_g 7 rfl) (tw_s (tw_g 8 rfl) (tw_s (tw_g 9 rfl) (tw_s (tw_g 10 rfl) tw_s0)))))))))) ?_
                  exact ih (j + 1) I232 ((if x = -2 then y && z else y || z) :: r) (sm) (by omega) hs232 hk232 (fun i a1 a2 => by rw [ot_1 e232 (by decide)]; exact hby i a1 a2) (by rw [rRun, hrun, hx]; rw [rStep, if_neg (by omega), if_neg (by omega), if_pos (by omega)]) (by rw [rDeeps, hdep]; show rDeep _ (s (f + (j : Int))) = _; rw [hx, hD]; rw [hT.2.2]; rfl) ⟨by rw [e232, uI_at, if_pos (by omega)], trs_1 htr.2.2 e232 (by omega)⟩ (by omega) (by simp only [List.length_cons, List.length_nil]; omega)
                · refine ar_iconst (k := 229) rfl ?_
                  refine ar_goto (k := 230) rfl ?_
                  refine tw_top (y := if (if x = -2 then y && z else y || z) = true then 1 else 0) (by cases y <;> cases z <;> simp_all) ?_
                  refine br_zastJ (k := 232) rfl (hS.k (by decide)) (by omega) (by omega) (by decide) (by omega) (fun I232 e232 => ?_)
                  have hs232 : I232 70 = s := by rw [e232]; exact hs
                  have hk232 := rk.w hk (by decide) e232
                  refine ar_goto (k := 233) rfl ?_
                  refine ar_iinc (k := 256) (l2 := [(9, _), (8, _), (10, _), (7, _), (6, _), (5, _), (4, _), (3, _), (0, _), (1, _), (2, _)]) rfl (by decide) rfl rfl ?_
                  refine ar_goto (k := 257) rfl ?_
                  refine ar_sub (l2 := [(9, vi (f + ((j + 1 : Nat) : Int))), (8, vi (((if x = -2 then y && z else y || z) :: r).length : Int)), (7, vi f), (6, vi (many : Int)), (5, vi (sm)), (4, vi b2), (3, vi a2), (0, vr (some 69)), (1, vi t), (2, vi u)]) (tw_s (tw_e 0 rfl (by omega)) (tw_s (tw_e 1 rfl (by simp only [List.length_cons, List.length_nil] <;> omega)) (tw_s (tw_g 3 rfl) (tw_s (tw_g 4 rfl) (tw_s (tw_g 5 rfl) (tw_s (tw_g 6 rfl) (tw_s (tw_g 7 rfl) (tw_s (tw_g 8 rfl) (tw_s (tw_g 9 rfl) (tw_s (tw_g 10 rfl) tw_s0)))))))))) ?_
                  exact ih (j + 1) I232 ((if x = -2 then y && z else y || z) :: r) (sm) (by omega) hs232 hk232 (fun i a1 a2 => by rw [ot_1 e232 (by decide)]; exact hby i a1 a2) (by rw [rRun, hrun, hx]; rw [rStep, if_neg (by omega), if_neg (by omega), if_pos (by omega)]) (by rw [rDeeps, hdep]; show rDeep _ (s (f + (j : Int))) = _; rw [hx, hD]; rw [hT.2.2]; rfl) ⟨by rw [e232, uI_at, if_pos (by omega)], trs_1 htr.2.2 e232 (by omega)⟩ (by omega) (by simp only [List.length_cons, List.length_nil]; omega)
            · refine ar_aloadn (k := 201) rfl rfl ?_
              refine br_getR (k := 202) rfl (hS.k (by decide)) flR_21_12 (by decide) rfl (hS.r rfl) ?_
              refine ar_iload (k := 203) rfl rfl ?_
              refine ar_iconst (k := 204) rfl ?_
              refine ar_isub (k := 205) rfl ?_
              refine br_zald (k := 206) rfl (hS.k (by decide)) (by omega) (by omega) (by decide) ?_
              refine tw_top (y := if y = true then 1 else 0) (by rw [show ((r.length + 1 + 1 : Nat) : Int) + -1 - 1 = (r.length : Int) by omega]; exact htr.2.1) ?_
              refine ar_if_eq (k := 207) rfl (by omega) (fun c207 => ?_) (fun c207 => ?_)
              · refine ar_iconst (k := 215) rfl ?_
                refine ar_goto (k := 216) rfl ?_
                refine tw_top (y := if (if x = -2 then y && z else y || z) = true then 1 else 0) (by cases y <;> cases z <;> simp_all) ?_
                refine br_zastJ (k := 232) rfl (hS.k (by decide)) (by omega) (by omega) (by decide) (by omega) (fun I232 e232 => ?_)
                have hs232 : I232 70 = s := by rw [e232]; exact hs
                have hk232 := rk.w hk (by decide) e232
                refine ar_goto (k := 233) rfl ?_
                refine ar_iinc (k := 256) (l2 := [(9, _), (8, _), (10, _), (7, _), (6, _), (5, _), (4, _), (3, _), (0, _), (1, _), (2, _)]) rfl (by decide) rfl rfl ?_
                refine ar_goto (k := 257) rfl ?_
                refine ar_sub (l2 := [(9, vi (f + ((j + 1 : Nat) : Int))), (8, vi (((if x = -2 then y && z else y || z) :: r).length : Int)), (7, vi f), (6, vi (many : Int)), (5, vi (sm)), (4, vi b2), (3, vi a2), (0, vr (some 69)), (1, vi t), (2, vi u)]) (tw_s (tw_e 0 rfl (by omega)) (tw_s (tw_e 1 rfl (by simp only [List.length_cons, List.length_nil] <;> omega)) (tw_s (tw_g 3 rfl) (tw_s (tw_g 4 rfl) (tw_s (tw_g 5 rfl) (tw_s (tw_g 6 rfl) (tw_s (tw_g 7 rfl) (tw_s (tw_g 8 rfl) (tw_s (tw_g 9 rfl) (tw_s (tw_g 10 rfl) tw_s0)))))))))) ?_
                exact ih (j + 1) I232 ((if x = -2 then y && z else y || z) :: r) (sm) (by omega) hs232 hk232 (fun i a1 a2 => by rw [ot_1 e232 (by decide)]; exact hby i a1 a2) (by rw [rRun, hrun, hx]; rw [rStep, if_neg (by omega), if_neg (by omega), if_pos (by omega)]) (by rw [rDeeps, hdep]; show rDeep _ (s (f + (j : Int))) = _; rw [hx, hD]; rw [hT.2.2]; rfl) ⟨by rw [e232, uI_at, if_pos (by omega)], trs_1 htr.2.2 e232 (by omega)⟩ (by omega) (by simp only [List.length_cons, List.length_nil]; omega)
              · refine ar_aloadn (k := 208) rfl rfl ?_
                refine br_getR (k := 209) rfl (hS.k (by decide)) flR_21_12 (by decide) rfl (hS.r rfl) ?_
                refine ar_iload (k := 210) rfl rfl ?_
                refine br_zald (k := 211) rfl (hS.k (by decide)) (by omega) (by omega) (by decide) ?_
                refine tw_top (y := if z = true then 1 else 0) (by rw [show ((r.length + 1 + 1 : Nat) : Int) + -1 = ((r.length + 1 : Nat) : Int) by omega]; exact htr.1) ?_
                refine ar_if_eq (k := 212) rfl (by omega) (fun c212 => ?_) (fun c212 => ?_)
                · refine ar_iconst (k := 215) rfl ?_
                  refine ar_goto (k := 216) rfl ?_
                  refine tw_top (y := if (if x = -2 then y && z else y || z) = true then 1 else 0) (by cases y <;> cases z <;> simp_all) ?_
                  refine br_zastJ (k := 232) rfl (hS.k (by decide)) (by omega) (by omega) (by decide) (by omega) (fun I232 e232 => ?_)
                  have hs232 : I232 70 = s := by rw [e232]; exact hs
                  have hk232 := rk.w hk (by decide) e232
                  refine ar_goto (k := 233) rfl ?_
                  refine ar_iinc (k := 256) (l2 := [(9, _), (8, _), (10, _), (7, _), (6, _), (5, _), (4, _), (3, _), (0, _), (1, _), (2, _)]) rfl (by decide) rfl rfl ?_
                  refine ar_goto (k := 257) rfl ?_
                  refine ar_sub (l2 := [(9, vi (f + ((j + 1 : Nat) : Int))), (8, vi (((if x = -2 then y && z else y || z) :: r).length : Int)), (7, vi f), (6, vi (many : Int)), (5, vi (sm)), (4, vi b2), (3, vi a2), (0, vr (some 69)), (1, vi t), (2, vi u)]) (tw_s (tw_e 0 rfl (by omega)) (tw_s (tw_e 1 rfl (by simp only [List.length_cons, List.length_nil] <;> omega)) (tw_s (tw_g 3 rfl) (tw_s (tw_g 4 rfl) (tw_s (tw_g 5 rfl) (tw_s (tw_g 6 rfl) (tw_s (tw_g 7 rfl) (tw_s (tw_g 8 rfl) (tw_s (tw_g 9 rfl) (tw_s (tw_g 10 rfl) tw_s0)))))))))) ?_
                  exact ih (j + 1) I232 ((if x = -2 then y && z else y || z) :: r) (sm) (by omega) hs232 hk232 (fun i a1 a2 => by rw [ot_1 e232 (by decide)]; exact hby i a1 a2) (by rw [rRun, hrun, hx]; rw [rStep, if_neg (by omega), if_neg (by omega), if_pos (by omega)]) (by rw [rDeeps, hdep]; show rDeep _ (s (f + (j : Int))) = _; rw [hx, hD]; rw [hT.2.2]; rfl) ⟨by rw [e232, uI_at, if_pos (by omega)], trs_1 htr.2.2 e232 (by omega)⟩ (by omega) (by simp only [List.length_cons, List.length_nil]; omega)
                · refine ar_iconst (k := 213) rfl ?_
                  refine ar_goto (k := 214) rfl ?_
                  refine tw_top (y := if (if x = -2 then y && z else y || z) = true then 1 else 0) (by cases y <;> cases z <;> simp_all) ?_
                  refine br_zastJ (k := 232) rfl (hS.k (by decide)) (by omega) (by omega) (by decide) (by omega) (fun I232 e232 => ?_)
                  have hs232 : I232 70 = s := by rw [e232]; exact hs
                  have hk232 := rk.w hk (by decide) e232
                  refine ar_goto (k := 233) rfl ?_
                  refine ar_iinc (k := 256) (l2 := [(9, _), (8, _), (10, _), (7, _), (6, _), (5, _), (4, _), (3, _), (0, _), (1, _), (2, _)]) rfl (by decide) rfl rfl ?_
                  refine ar_goto (k := 257) rfl ?_
                  refine ar_sub (l2 := [(9, vi (f + ((j + 1 : Nat) : Int))), (8, vi (((if x = -2 then y && z else y || z) :: r).length : Int)), (7, vi f), (6, vi (many : Int)), (5, vi (sm)), (4, vi b2), (3, vi a2), (0, vr (some 69)), (1, vi t), (2, vi u)]) (tw_s (tw_e 0 rfl (by omega)) (tw_s (tw_e 1 rfl (by simp only [List.length_cons, List.length_nil] <;> omega)) (tw_s (tw_g 3 rfl) (tw_s (tw_g 4 rfl) (tw_s (tw_g 5 rfl) (tw_s (tw_g 6 rfl) (tw_s (tw_g 7 rfl) (tw_s (tw_g 8 rfl) (tw_s (tw_g 9 rfl) (tw_s (tw_g 10 rfl) tw_s0)))))))))) ?_
                  exact ih (j + 1) I232 ((if x = -2 then y && z else y || z) :: r) (sm) (by omega) hs232 hk232 (fun i a1 a2 => by rw [ot_1 e232 (by decide)]; exact hby i a1 a2) (by rw [rRun, hrun, hx]; rw [rStep, if_neg (by omega), if_neg (by omega), if_pos (by omega)]) (by rw [rDeeps, hdep]; show rDeep _ (s (f + (j : Int))) = _; rw [hx, hD]; rw [hT.2.2]; rfl) ⟨by rw [e232, uI_at, if_pos (by omega)], trs_1 htr.2.2 e232 (by omega)⟩ (by omega) (by simp only [List.length_cons, List.length_nil]; omega)
        · have hT := rDeep_n hD (by omega)
          obtain ⟨y, r, rfl⟩ : ∃ y r, stk = y :: r := by
            cases stk with
            | nil => simp only [List.length_nil] at hT; omega
            | cons y r => exact ⟨y, r, rfl⟩
          simp only [List.length_cons] at *
          refine ar_aloadn (k := 172) rfl rfl ?_
          refine br_getR (k := 173) rfl (hS.k (by decide)) flR_21_12 (by decide) rfl (hS.r rfl) ?_
          refine ar_iload (k := 174) rfl rfl ?_
          refine ar_iconst (k := 175) rfl ?_
          refine ar_isub (k := 176) rfl ?_
          refine ar_aloadn (k := 177) rfl rfl ?_
          refine br_getR (k := 178) rfl (hS.k (by decide)) flR_21_12 (by decide) rfl (hS.r rfl) ?_
          refine ar_iload (k := 179) rfl rfl ?_
          refine ar_iconst (k := 180) rfl ?_
          refine ar_isub (k := 181) rfl ?_
          refine br_zald (k := 182) rfl (hS.k (by decide)) (by omega) (by omega) (by decide) ?_
          refine tw_top (y := if y = true then 1 else 0) (by rw [show ((r.length + 1 : Nat) : Int) - 1 = (r.length : Int) by omega]; exact htr.1) ?_
          refine ar_if_ne (k := 183) rfl (by omega) (fun c183 => ?_) (fun c183 => ?_)
          · refine ar_iconst (k := 186) rfl ?_
            refine tw_top (y := if (!y) = true then 1 else 0) (by cases y <;> simp_all) ?_
            refine br_zastJ (k := 187) rfl (hS.k (by decide)) (by omega) (by omega) (by decide) (by omega) (fun I187 e187 => ?_)
            have hs187 : I187 70 = s := by rw [e187]; exact hs
            have hk187 := rk.w hk (by decide) e187
            refine ar_goto (k := 188) rfl ?_
            refine ar_iinc (k := 256) (l2 := [(9, _), (10, _), (8, _), (7, _), (6, _), (5, _), (4, _), (3, _), (0, _), (1, _), (2, _)]) rfl (by decide) rfl rfl ?_
            refine ar_goto (k := 257) rfl ?_
            refine ar_sub (l2 := [(9, vi (f + ((j + 1 : Nat) : Int))), (8, vi (((!y) :: r).length : Int)), (7, vi f), (6, vi (many : Int)), (5, vi (sm)), (4, vi b2), (3, vi a2), (0, vr (some 69)), (1, vi t), (2, vi u)]) (tw_s (tw_e 0 rfl (by omega)) (tw_s (tw_e 2 rfl (by simp only [List.length_cons, List.length_nil] <;> omega)) (tw_s (tw_g 3 rfl) (tw_s (tw_g 4 rfl) (tw_s (tw_g 5 rfl) (tw_s (tw_g 6 rfl) (tw_s (tw_g 7 rfl) (tw_s (tw_g 8 rfl) (tw_s (tw_g 9 rfl) (tw_s (tw_g 10 rfl) tw_s0)))))))))) ?_
            exact ih (j + 1) I187 ((!y) :: r) (sm) (by omega) hs187 hk187 (fun i a1 a2 => by rw [ot_1 e187 (by decide)]; exact hby i a1 a2) (by rw [rRun, hrun, hx]; rw [rStep, if_neg (by omega), if_pos (by omega)]) (by rw [rDeeps, hdep]; show rDeep _ (s (f + (j : Int))) = _; rw [hx, hD]; rw [hT.2]; rfl) ⟨by rw [e187, uI_at, if_pos (by omega)], trs_1 htr.2 e187 (by omega)⟩ (by omega) (by simp only [List.length_cons, List.length_nil]; omega)
          · refine ar_iconst (k := 184) rfl ?_
            refine ar_goto (k := 185) rfl ?_
            refine tw_top (y := if (!y) = true then 1 else 0) (by cases y <;> simp_all) ?_
            refine br_zastJ (k := 187) rfl (hS.k (by decide)) (by omega) (by omega) (by decide) (by omega) (fun I187 e187 => ?_)
            have hs187 : I187 70 = s := by rw [e187]; exact hs
            have hk187 := rk.w hk (by decide) e187
            refine ar_goto (k := 188) rfl ?_
            refine ar_iinc (k := 256) (l2 := [(9, _), (10, _), (8, _), (7, _), (6, _), (5, _), (4, _), (3, _), (0, _), (1, _), (2, _)]) rfl (by decide) rfl rfl ?_
            refine ar_goto (k := 257) rfl ?_
            refine ar_sub (l2 := [(9, vi (f + ((j + 1 : Nat) : Int))), (8, vi (((!y) :: r).length : Int)), (7, vi f), (6, vi (many : Int)), (5, vi (sm)), (4, vi b2), (3, vi a2), (0, vr (some 69)), (1, vi t), (2, vi u)]) (tw_s (tw_e 0 rfl (by omega)) (tw_s (tw_e 2 rfl (by simp only [List.length_cons, List.length_nil] <;> omega)) (tw_s (tw_g 3 rfl) (tw_s (tw_g 4 rfl) (tw_s (tw_g 5 rfl) (tw_s (tw_g 6 rfl) (tw_s (tw_g 7 rfl) (tw_s (tw_g 8 rfl) (tw_s (tw_g 9 rfl) (tw_s (tw_g 10 rfl) tw_s0)))))))))) ?_
            exact ih (j + 1) I187 ((!y) :: r) (sm) (by omega) hs187 hk187 (fun i a1 a2 => by rw [ot_1 e187 (by decide)]; exact hby i a1 a2) (by rw [rRun, hrun, hx]; rw [rStep, if_neg (by omega), if_pos (by omega)]) (by rw [rDeeps, hdep]; show rDeep _ (s (f + (j : Int))) = _; rw [hx, hD]; rw [hT.2]; rfl) ⟨by rw [e187, uI_at, if_pos (by omega)], trs_1 htr.2 e187 (by omega)⟩ (by omega) (by simp only [List.length_cons, List.length_nil]; omega)
      · have hT := rDeep_t hD (by omega)
        have hbx := hb5 (x % 8) (by omega) (by omega)
        refine ar_aloadn (k := 121) rfl rfl ?_
        refine br_getR (k := 122) rfl (hS.k (by decide)) flR_18_12 (by decide) rfl (hS.r rfl) ?_
        refine ar_iload (k := 123) rfl rfl ?_
        refine ar_bipush (k := 124) rfl (by decide) ?_
        refine ar_irem (k := 125) rfl (by omega) (by omega) (by omega) ?_
        refine tw_top (y := x % 8) (by exact Int.tmod_eq_emod_of_nonneg (by omega)) ?_
        refine br_iald (k := 126) rfl (hS.k (by decide)) (by omega) (by omega) (by decide) ?_
        refine tw_top (y := b (x % 8)) (by exact hby _ (by omega) (by omega)) ?_
        refine ar_istore (k := 127) (l2 := [(11, _), (10, _), (9, _), (8, _), (7, _), (6, _), (5, _), (4, _), (3, _), (0, _), (1, _), (2, _)]) rfl (by decide) rfl ?_
        refine ar_iload (k := 128) rfl rfl ?_
        refine ar_bipush (k := 129) rfl (by decide) ?_
        refine ar_idiv (k := 130) rfl (by omega) (by omega) (by omega) ?_
        refine tw_top (y := x / 8) (by exact Int.tdiv_eq_ediv_of_nonneg (by omega)) ?_
        refine ar_iconst (k := 131) rfl ?_
        refine ar_irem (k := 132) rfl (by omega) (by omega) (by omega) ?_
        refine tw_top (y := x / 8 % 4) (by exact Int.tmod_eq_emod_of_nonneg (by omega)) ?_
        refine ar_istore (k := 133) (l2 := [(12, _), (11, _), (10, _), (9, _), (8, _), (7, _), (6, _), (5, _), (4, _), (3, _), (0, _), (1, _), (2, _)]) rfl (by decide) rfl ?_
        refine ar_iload (k := 134) rfl rfl ?_
        refine ar_bipush (k := 135) rfl (by decide) ?_
        refine ar_idiv (k := 136) rfl (by omega) (by omega) (by omega) ?_
        refine tw_top (y := x / 32) (by exact Int.tdiv_eq_ediv_of_nonneg (by omega)) ?_
        refine ar_istore (k := 137) (l2 := [(13, _), (12, _), (11, _), (10, _), (9, _), (8, _), (7, _), (6, _), (5, _), (4, _), (3, _), (0, _), (1, _), (2, _)]) rfl (by decide) rfl ?_
        refine ar_aloadn (k := 138) rfl rfl ?_
        refine br_getR (k := 139) rfl (hS.k (by decide)) flR_21_12 (by decide) rfl (hS.r rfl) ?_
        refine ar_iload (k := 140) rfl rfl ?_
        refine ar_iload (k := 141) rfl rfl ?_
        refine ar_if_ne (k := 142) rfl (by omega) (fun c142 => ?_) (fun c142 => ?_)
        · refine ar_iload (k := 150) rfl rfl ?_
          refine ar_iconst (k := 151) rfl ?_
          refine ar_icmp_ne (k := 152) rfl (by omega) (by omega) (fun c152 => ?_) (fun c152 => ?_)
          · refine ar_iload (k := 160) rfl rfl ?_
            refine ar_iload (k := 161) rfl rfl ?_
            refine ar_icmp_le (k := 162) rfl (by omega) (by omega) (fun c162 => ?_) (fun c162 => ?_)
            · refine ar_iconst (k := 165) rfl ?_
              refine tw_top (y := if rTst b x = true then 1 else 0) (by simp only [rTst]; (repeat' split) <;> simp_all <;> omega) ?_
              refine br_zastJ (k := 166) rfl (hS.k (by decide)) (by omega) (by omega) (by decide) (by omega) (fun I166 e166 => ?_)
              have hs166 : I166 70 = s := by rw [e166]; exact hs
              have hk166 := rk.w hk (by decide) e166
              refine ar_iinc (k := 167) (l2 := [(8, _), (13, _), (12, _), (11, _), (10, _), (9, _), (7, _), (6, _), (5, _), (4, _), (3, _), (0, _), (1, _), (2, _)]) rfl (by decide) rfl rfl ?_
              refine ar_goto (k := 168) rfl ?_
              refine ar_iinc (k := 256) (l2 := [(9, _), (8, _), (13, _), (12, _), (11, _), (10, _), (7, _), (6, _), (5, _), (4, _), (3, _), (0, _), (1, _), (2, _)]) rfl (by decide) rfl rfl ?_
              refine ar_goto (k := 257) rfl ?_
              refine ar_sub (l2 := [(9, vi (f + ((j + 1 : Nat) : Int))), (8, vi ((rTst b x :: stk).length : Int)), (7, vi f), (6, vi (many : Int)), (5, vi (sm)), (4, vi b2), (3, vi a2), (0, vr (some 69)), (1, vi t), (2, vi u)]) (tw_s (tw_e 0 rfl (by omega)) (tw_s (tw_e 1 rfl (by simp only [List.length_cons, List.length_nil] <;> omega)) (tw_s (tw_g 6 rfl) (tw_s (tw_g 7 rfl) (tw_s (tw_g 8 rfl) (tw_s (tw_g 9 rfl) (tw_s (tw_g 10 rfl) (tw_s (tw_g 11 rfl) (tw_s (tw_g 12 rfl) (tw_s (tw_g 13 rfl) tw_s0)))))))))) ?_
              exact ih (j + 1) I166 (rTst b x :: stk) (sm) (by omega) hs166 hk166 (fun i a1 a2 => by rw [ot_1 e166 (by decide)]; exact hby i a1 a2) (by rw [rRun, hrun, hx]; rw [rStep, if_pos (by omega)]) (by rw [rDeeps, hdep]; show rDeep _ (s (f + (j : Int))) = _; rw [hx, hD]; rw [hT.2.2.2.2]; rfl) ⟨by rw [e166, uI_at, if_pos rfl], trs_1 htr e166 (by omega)⟩ (by omega) (by simp only [List.length_cons, List.length_nil]; omega)
            · refine ar_iconst (k := 163) rfl ?_
              refine ar_goto (k := 164) rfl ?_
              refine tw_top (y := if rTst b x = true then 1 else 0) (by simp only [rTst]; (repeat' split) <;> simp_all <;> omega) ?_
              refine br_zastJ (k := 166) rfl (hS.k (by decide)) (by omega) (by omega) (by decide) (by omega) (fun I166 e166 => ?_)
              have hs166 : I166 70 = s := by rw [e166]; exact hs
              have hk166 := rk.w hk (by decide) e166
              refine ar_iinc (k := 167) (l2 := [(8, _), (13, _), (12, _), (11, _), (10, _), (9, _), (7, _), (6, _), (5, _), (4, _), (3, _), (0, _), (1, _), (2, _)]) rfl (by decide) rfl rfl ?_
              refine ar_goto (k := 168) rfl ?_
              refine ar_iinc (k := 256) (l2 := [(9, _), (8, _), (13, _), (12, _), (11, _), (10, _), (7, _), (6, _), (5, _), (4, _), (3, _), (0, _), (1, _), (2, _)]) rfl (by decide) rfl rfl ?_
              refine ar_goto (k := 257) rfl ?_
              refine ar_sub (l2 := [(9, vi (f + ((j + 1 : Nat) : Int))), (8, vi ((rTst b x :: stk).length : Int)), (7, vi f), (6, vi (many : Int)), (5, vi (sm)), (4, vi b2), (3, vi a2), (0, vr (some 69)), (1, vi t), (2, vi u)]) (tw_s (tw_e 0 rfl (by omega)) (tw_s (tw_e 1 rfl (by simp only [List.length_cons, List.length_nil] <;> omega)) (tw_s (tw_g 6 rfl) (tw_s (tw_g 7 rfl) (tw_s (tw_g 8 rfl) (tw_s (tw_g 9 rfl) (tw_s (tw_g 10 rfl) (tw_s (tw_g 11 rfl) (tw_s (tw_g 12 rfl) (tw_s (tw_g 13 rfl) tw_s0)))))))))) ?_
              exact ih (j + 1) I166 (rTst b x :: stk) (sm) (by omega) hs166 hk166 (fun i a1 a2 => by rw [ot_1 e166 (by decide)]; exact hby i a1 a2) (by rw [rRun, hrun, hx]; rw [rStep, if_pos (by omega)]) (by rw [rDeeps, hdep]; show rDeep _ (s (f + (j : Int))) = _; rw [hx, hD]; rw [hT.2.2.2.2]; rfl) ⟨by rw [e166, uI_at, if_pos rfl], trs_1 htr e166 (by omega)⟩ (by omega) (by simp only [List.length_cons, List.length_nil]; omega)
          · refine ar_iload (k := 153) rfl rfl ?_
            refine ar_iload (k := 154) rfl rfl ?_
            refine ar_icmp_ne (k := 155) rfl (by omega) (by omega) (fun c155 => ?_) (fun c155 => ?_)
            · refine ar_iconst (k := 158) rfl ?_
              refine ar_goto (k := 159) rfl ?_
              refine tw_top (y := if rTst b x = true then 1 else 0) (by simp only [rTst]; (repeat' split) <;> simp_all <;> omega) ?_
              refine br_zastJ (k := 166) rfl (hS.k (by decide)) (by omega) (by omega) (by decide) (by omega) (fun I166 e166 => ?_)
              have hs166 : I166 70 = s := by rw [e166]; exact hs
              have hk166 := rk.w hk (by decide) e166
              refine ar_iinc (k := 167) (l2 := [(8, _), (13, _), (12, _), (11, _), (10, _), (9, _), (7, _), (6, _), (5, _), (4, _), (3, _), (0, _), (1, _), (2, _)]) rfl (by decide) rfl rfl ?_
              refine ar_goto (k := 168) rfl ?_
              refine ar_iinc (k := 256) (l2 := [(9, _), (8, _), (13, _), (12, _), (11, _), (10, _), (7, _), (6, _), (5, _), (4, _), (3, _), (0, _), (1, _), (2, _)]) rfl (by decide) rfl rfl ?_
              refine ar_goto (k := 257) rfl ?_
              refine ar_sub (l2 := [(9, vi (f + ((j + 1 : Nat) : Int))), (8, vi ((rTst b x :: stk).length : Int)), (7, vi f), (6, vi (many : Int)), (5, vi (sm)), (4, vi b2), (3, vi a2), (0, vr (some 69)), (1, vi t), (2, vi u)]) (tw_s (tw_e 0 rfl (by omega)) (tw_s (tw_e 1 rfl (by simp only [List.length_cons, List.length_nil] <;> omega)) (tw_s (tw_g 6 rfl) (tw_s (tw_g 7 rfl) (tw_s (tw_g 8 rfl) (tw_s (tw_g 9 rfl) (tw_s (tw_g 10 rfl) (tw_s (tw_g 11 rfl) (tw_s (tw_g 12 rfl) (tw_s (tw_g 13 rfl) tw_s0)))))))))) ?_
              exact ih (j + 1) I166 (rTst b x :: stk) (sm) (by omega) hs166 hk166 (fun i a1 a2 => by rw [ot_1 e166 (by decide)]; exact hby i a1 a2) (by rw [rRun, hrun, hx]; rw [rStep, if_pos (by omega)]) (by rw [rDeeps, hdep]; show rDeep _ (s (f + (j : Int))) = _; rw [hx, hD]; rw [hT.2.2.2.2]; rfl) ⟨by rw [e166, uI_at, if_pos rfl], trs_1 htr e166 (by omega)⟩ (by omega) (by simp only [List.length_cons, List.length_nil]; omega)
            · refine ar_iconst (k := 156) rfl ?_
              refine ar_goto (k := 157) rfl ?_
              refine tw_top (y := if rTst b x = true then 1 else 0) (by simp only [rTst]; (repeat' split) <;> simp_all <;> omega) ?_
              refine br_zastJ (k := 166) rfl (hS.k (by decide)) (by omega) (by omega) (by decide) (by omega) (fun I166 e166 => ?_)
              have hs166 : I166 70 = s := by rw [e166]; exact hs
              have hk166 := rk.w hk (by decide) e166
              refine ar_iinc (k := 167) (l2 := [(8, _), (13, _), (12, _), (11, _), (10, _), (9, _), (7, _), (6, _), (5, _), (4, _), (3, _), (0, _), (1, _), (2, _)]) rfl (by decide) rfl rfl ?_
              refine ar_goto (k := 168) rfl ?_
              refine ar_iinc (k := 256) (l2 := [(9, _), (8, _), (13, _), (12, _), (11, _), (10, _), (7, _), (6, _), (5, _), (4, _), (3, _), (0, _), (1, _), (2, _)]) rfl (by decide) rfl rfl ?_
              refine ar_goto (k := 257) rfl ?_
              refine ar_sub (l2 := [(9, vi (f + ((j + 1 : Nat) : Int))), (8, vi ((rTst b x :: stk).length : Int)), (7, vi f), (6, vi (many : Int)), (5, vi (sm)), (4, vi b2), (3, vi a2), (0, vr (some 69)), (1, vi t), (2, vi u)]) (tw_s (tw_e 0 rfl (by omega)) (tw_s (tw_e 1 rfl (by simp only [List.length_cons, List.length_nil] <;> omega)) (tw_s (tw_g 6 rfl) (tw_s (tw_g 7 rfl) (tw_s (tw_g 8 rfl) (tw_s (tw_g 9 rfl) (tw_s (tw_g 10 rfl) (tw_s (tw_g 11 rfl) (tw_s (tw_g 12 rfl) (tw_s (tw_g 13 rfl) tw_s0)))))))))) ?_
              exact ih (j + 1) I166 (rTst b x :: stk) (sm) (by omega) hs166 hk166 (fun i a1 a2 => by rw [ot_1 e166 (by decide)]; exact hby i a1 a2) (by rw [rRun, hrun, hx]; rw [rStep, if_pos (by omega)]) (by rw [rDeeps, hdep]; show rDeep _ (s (f + (j : Int))) = _; rw [hx, hD]; rw [hT.2.2.2.2]; rfl) ⟨by rw [e166, uI_at, if_pos rfl], trs_1 htr e166 (by omega)⟩ (by omega) (by simp only [List.length_cons, List.length_nil]; omega)
        · refine ar_iload (k := 143) rfl rfl ?_
          refine ar_iload (k := 144) rfl rfl ?_
          refine ar_icmp_ge (k := 145) rfl (by omega) (by omega) (fun c145 => ?_) (fun c145 => ?_)
          · refine ar_iconst (k := 148) rfl ?_
            refine ar_goto (k := 149) rfl ?_
            refine tw_top (y := if rTst b x = true then 1 else 0) (by simp only [rTst]; (repeat' split) <;> simp_all <;> omega) ?_
            refine br_zastJ (k := 166) rfl (hS.k (by decide)) (by omega) (by omega) (by decide) (by omega) (fun I166 e166 => ?_)
            have hs166 : I166 70 = s := by rw [e166]; exact hs
            have hk166 := rk.w hk (by decide) e166
            refine ar_iinc (k := 167) (l2 := [(8, _), (13, _), (12, _), (11, _), (10, _), (9, _), (7, _), (6, _), (5, _), (4, _), (3, _), (0, _), (1, _), (2, _)]) rfl (by decide) rfl rfl ?_
            refine ar_goto (k := 168) rfl ?_
            refine ar_iinc (k := 256) (l2 := [(9, _), (8, _), (13, _), (12, _), (11, _), (10, _), (7, _), (6, _), (5, _), (4, _), (3, _), (0, _), (1, _), (2, _)]) rfl (by decide) rfl rfl ?_
            refine ar_goto (k := 257) rfl ?_
            refine ar_sub (l2 := [(9, vi (f + ((j + 1 : Nat) : Int))), (8, vi ((rTst b x :: stk).length : Int)), (7, vi f), (6, vi (many : Int)), (5, vi (sm)), (4, vi b2), (3, vi a2), (0, vr (some 69)), (1, vi t), (2, vi u)]) (tw_s (tw_e 0 rfl (by omega)) (tw_s (tw_e 1 rfl (by simp only [List.length_cons, List.length_nil] <;> omega)) (tw_s (tw_g 6 rfl) (tw_s (tw_g 7 rfl) (tw_s (tw_g 8 rfl) (tw_s (tw_g 9 rfl) (tw_s (tw_g 10 rfl) (tw_s (tw_g 11 rfl) (tw_s (tw_g 12 rfl) (tw_s (tw_g 13 rfl) tw_s0)))))))))) ?_
            exact ih (j + 1) I166 (rTst b x :: stk) (sm) (by omega) hs166 hk166 (fun i a1 a2 => by rw [ot_1 e166 (by decide)]; exact hby i a1 a2) (by rw [rRun, hrun, hx]; rw [rStep, if_pos (by omega)]) (by rw [rDeeps, hdep]; show rDeep _ (s (f + (j : Int))) = _; rw [hx, hD]; rw [hT.2.2.2.2]; rfl) ⟨by rw [e166, uI_at, if_pos rfl], trs_1 htr e166 (by omega)⟩ (by omega) (by simp only [List.length_cons, List.length_nil]; omega)
          · refine ar_iconst (k := 146) rfl ?_
            refine ar_goto (k := 147) rfl ?_
            refine tw_top (y := if rTst b x = true then 1 else 0) (by simp only [rTst]; (repeat' split) <;> simp_all <;> omega) ?_
            refine br_zastJ (k := 166) rfl (hS.k (by decide)) (by omega) (by omega) (by decide) (by omega) (fun I166 e166 => ?_)
            have hs166 : I166 70 = s := by rw [e166]; exact hs
            have hk166 := rk.w hk (by decide) e166
            refine ar_iinc (k := 167) (l2 := [(8, _), (13, _), (12, _), (11, _), (10, _), (9, _), (7, _), (6, _), (5, _), (4, _), (3, _), (0, _), (1, _), (2, _)]) rfl (by decide) rfl rfl ?_
            refine ar_goto (k := 168) rfl ?_
            refine ar_iinc (k := 256) (l2 := [(9, _), (8, _), (13, _), (12, _), (11, _), (10, _), (7, _), (6, _), (5, _), (4, _), (3, _), (0, _), (1, _), (2, _)]) rfl (by decide) rfl rfl ?_
            refine ar_goto (k := 257) rfl ?_
            refine ar_sub (l2 := [(9, vi (f + ((j + 1 : Nat) : Int))), (8, vi ((rTst b x :: stk).length : Int)), (7, vi f), (6, vi (many : Int)), (5, vi (sm)), (4, vi b2), (3, vi a2), (0, vr (some 69)), (1, vi t), (2, vi u)]) (tw_s (tw_e 0 rfl (by omega)) (tw_s (tw_e 1 rfl (by simp only [List.length_cons, List.length_nil] <;> omega)) (tw_s (tw_g 6 rfl) (tw_s (tw_g 7 rfl) (tw_s (tw_g 8 rfl) (tw_s (tw_g 9 rfl) (tw_s (tw_g 10 rfl) (tw_s (tw_g 11 rfl) (tw_s (tw_g 12 rfl) (tw_s (tw_g 13 rfl) tw_s0)))))))))) ?_
            exact ih (j + 1) I166 (rTst b x :: stk) (sm) (by omega) hs166 hk166 (fun i a1 a2 => by rw [ot_1 e166 (by decide)]; exact hby i a1 a2) (by rw [rRun, hrun, hx]; rw [rStep, if_pos (by omega)]) (by rw [rDeeps, hdep]; show rDeep _ (s (f + (j : Int))) = _; rw [hx, hD]; rw [hT.2.2.2.2]; rfl) ⟨by rw [e166, uI_at, if_pos rfl], trs_1 htr e166 (by omega)⟩ (by omega) (by simp only [List.length_cons, List.length_nil]; omega)
theorem c_R_worthOf {t u : Int} (hS : tSt (K, I, Q, n)) (hs : I 70 = s) (hR : RInv s) (hV : RVal s) (t1 : 0 ≤ t ∧ t < s 1) (t2 : s (94 + t) ≠ -1) (u1 : 0 ≤ u ∧ u ≤ 23) : tw_R l G 2 mR_worthOf [vr (some 69), vi t, vi u] K I Q n (some (vi (rWorth s t u))) := by
  obtain ⟨h0, h1, h2, h3, h4, h5, h6, hp, hrw, ht, hr, hb, htp, hv⟩ := id hR
  have hw := ht t (by omega) (by omega)
  have hk : rk I I := rk.rf
  refine tw_intro okR_worthOf (Nat.le_of_ble_eq_true rfl) ?_
  refine ar_aloadn (k := 0) rfl rfl ?_
  refine ar_iloadn (k := 1) rfl rfl ?_
  refine br_callV (k := 2) (as := [_]) rfl lvR_126 (hS.k (by decide)) rfl (c_R_lesser hS hs hR (by omega)) rfl (by decide) (by decide) tw_m0 (Nat.le_of_ble_eq_true rfl) ?_
  have hL : 0 ≤ rLess s t ∧ rLess s t < s 1 ∧ 0 ≤ s (94 + rLess s t) ∧ s (94 + rLess s t) < s 1 := by
    unfold rLess
    split
    · rcases hw.2.2.1 with g | g
      · omega
      · rw [g.2.2.2]; omega
    · omega
  have w1 := ht (rLess s t) (by omega) (by omega)
  have w2 := ht (s (94 + rLess s t)) (by omega) (by omega)
  have w3 := hp (s (84 + rLess s t)) (by omega) (by omega)
  have w4 := hp (s (84 + s (94 + rLess s t))) (by omega) (by omega)
  have hb5 : ∀ i, 0 ≤ i → i ≤ 4 → -1000 ≤ rBy s t u i ∧ rBy s t u i ≤ 1000 := by
    intro i g1 g2
    unfold rBy
    split
    · omega
    · split
      · omega
      · split
        · omega
        · split <;> omega
  refine ar_istoren (k := 3) (l2 := [(3, _), (0, _), (1, _), (2, _)]) rfl (by decide) rfl ?_
  refine ar_aloadn (k := 4) rfl rfl ?_
  refine br_getR (k := 5) rfl (hS.k (by decide)) flR_9_12 (by decide) rfl (hS.r rfl) ?_
  refine ar_bipush (k := 6) rfl (by decide) ?_
  refine ar_iloadn (k := 7) rfl rfl ?_
  refine ar_iadd (k := 8) rfl ?_
  refine br_iads (k := 9) rfl (hS.k (by decide)) (by omega) (by omega) (by decide) hs ?_
  refine ar_istore (k := 10) (l2 := [(4, _), (3, _), (0, _), (1, _), (2, _)]) rfl (by decide) rfl ?_
  refine ar_aloadn (k := 11) rfl rfl ?_
  refine br_getR (k := 12) rfl (hS.k (by decide)) flR_18_12 (by decide) rfl (hS.r rfl) ?_
  refine ar_iconst (k := 13) rfl ?_
  refine ar_iloadn (k := 14) rfl rfl ?_
  refine br_iastJ (k := 15) rfl (hS.k (by decide)) (by omega) (by omega) (by decide) (fun I15 e15 => ?_)
  have hs15 : I15 70 = s := by rw [e15]; exact hs
  have hk15 := rk.w hk (by decide) e15
  refine ar_aloadn (k := 16) rfl rfl ?_
  refine br_getR (k := 17) rfl (hS.k (by decide)) flR_18_12 (by decide) rfl (hS.r rfl) ?_
  refine ar_iconst (k := 18) rfl ?_
  refine ar_aloadn (k := 19) rfl rfl ?_
  refine br_getR (k := 20) rfl (hS.k (by decide)) flR_9_12 (by decide) rfl (hS.r rfl) ?_
  refine ar_bipush (k := 21) rfl (by decide) ?_
  refine ar_iloadn (k := 22) rfl rfl ?_
  refine ar_iadd (k := 23) rfl ?_
  refine br_iads (k := 24) rfl (hS.k (by decide)) (by omega) (by omega) (by decide) hs15 ?_
  refine br_iastJ (k := 25) rfl (hS.k (by decide)) (by omega) (by omega) (by decide) (fun I25 e25 => ?_)
  have hs25 : I25 70 = s := by rw [e25]; exact hs15
  have hk25 := rk.w hk15 (by decide) e25
  refine ar_aloadn (k := 26) rfl rfl ?_
  refine br_getR (k := 27) rfl (hS.k (by decide)) flR_18_12 (by decide) rfl (hS.r rfl) ?_
  refine ar_iconst (k := 28) rfl ?_
  refine ar_iloadn (k := 29) rfl rfl ?_
  refine br_iastJ (k := 30) rfl (hS.k (by decide)) (by omega) (by omega) (by decide) (fun I30 e30 => ?_)
  have hs30 : I30 70 = s := by rw [e30]; exact hs25
  have hk30 := rk.w hk25 (by decide) e30
  refine ar_aloadn (k := 31) rfl rfl ?_
  refine br_getR (k := 32) rfl (hS.k (by decide)) flR_18_12 (by decide) rfl (hS.r rfl) ?_
  refine ar_iconst (k := 33) rfl ?_
  refine ar_aloadn (k := 34) rfl rfl ?_
  refine br_getR (k := 35) rfl (hS.k (by decide)) flR_9_12 (by decide) rfl (hS.r rfl) ?_
  refine ar_bipush (k := 36) rfl (by decide) ?_
  refine ar_aloadn (k := 37) rfl rfl ?_
  refine br_getR (k := 38) rfl (hS.k (by decide)) flR_9_12 (by decide) rfl (hS.r rfl) ?_
  refine ar_bipush (k := 39) rfl (by decide) ?_
  refine ar_iloadn (k := 40) rfl rfl ?_
  refine ar_iadd (k := 41) rfl ?_
  refine br_iads (k := 42) rfl (hS.k (by decide)) (by omega) (by omega) (by decide) hs30 ?_
  refine ar_iadd (k := 43) rfl ?_
  refine br_iads (k := 44) rfl (hS.k (by decide)) (by omega) (by omega) (by decide) hs30 ?_
  refine br_iastJ (k := 45) rfl (hS.k (by decide)) (by omega) (by omega) (by decide) (fun I45 e45 => ?_)
  have hs45 : I45 70 = s := by rw [e45]; exact hs30
  have hk45 := rk.w hk30 (by decide) e45
  refine ar_aloadn (k := 46) rfl rfl ?_
  refine br_getR (k := 47) rfl (hS.k (by decide)) flR_18_12 (by decide) rfl (hS.r rfl) ?_
  refine ar_iconst (k := 48) rfl ?_
  refine ar_aloadn (k := 49) rfl rfl ?_
  refine br_getR (k := 50) rfl (hS.k (by decide)) flR_9_12 (by decide) rfl (hS.r rfl) ?_
  refine ar_bipush (k := 51) rfl (by decide) ?_
  refine ar_aloadn (k := 52) rfl rfl ?_
  refine br_getR (k := 53) rfl (hS.k (by decide)) flR_9_12 (by decide) rfl (hS.r rfl) ?_
  refine ar_bipush (k := 54) rfl (by decide) ?_
  refine ar_iloadn (k := 55) rfl rfl ?_
  refine ar_iadd (k := 56) rfl ?_
  refine br_iads (k := 57) rfl (hS.k (by decide)) (by omega) (by omega) (by decide) hs45 ?_
  refine ar_iadd (k := 58) rfl ?_
  refine br_iads (k := 59) rfl (hS.k (by decide)) (by omega) (by omega) (by decide) hs45 ?_
  refine ar_aloadn (k := 60) rfl rfl ?_
  refine br_getR (k := 61) rfl (hS.k (by decide)) flR_9_12 (by decide) rfl (hS.r rfl) ?_
  refine ar_bipush (k := 62) rfl (by decide) ?_
  refine ar_aloadn (k := 63) rfl rfl ?_
  refine br_getR (k := 64) rfl (hS.k (by decide)) flR_9_12 (by decide) rfl (hS.r rfl) ?_
  refine ar_bipush (k := 65) rfl (by decide) ?_
  refine ar_iload (k := 66) rfl rfl ?_
  refine ar_iadd (k := 67) rfl ?_
  refine br_iads (k := 68) rfl (hS.k (by decide)) (by omega) (by omega) (by decide) hs45 ?_
  refine ar_iadd (k := 69) rfl ?_
  refine br_iads (k := 70) rfl (hS.k (by decide)) (by omega) (by omega) (by decide) hs45 ?_
  refine ar_icmp_ne (k := 71) rfl (by omega) (by omega) (fun c71 => ?_) (fun c71 => ?_)
  · refine ar_iconst (k := 74) rfl ?_
    refine tw_top (y := if s (26 + s (84 + rLess s t)) = s (26 + s (84 + s (94 + rLess s t))) then 1 else 0) (by omega) ?_
    refine br_iastJ (k := 75) rfl (hS.k (by decide)) (by omega) (by omega) (by decide) (fun I75 e75 => ?_)
    have hs75 : I75 70 = s := by rw [e75]; exact hs45
    have hk75 := rk.w hk45 (by decide) e75
    refine ar_iconst (k := 76) rfl ?_
    refine ar_istore (k := 77) (l2 := [(5, _), (4, _), (3, _), (0, _), (1, _), (2, _)]) rfl (by decide) rfl ?_
    refine ar_aloadn (k := 78) rfl rfl ?_
    refine br_getR (k := 79) rfl (hS.k (by decide)) flR_9_12 (by decide) rfl (hS.r rfl) ?_
    refine ar_bipush (k := 80) rfl (by decide) ?_
    refine br_iads (k := 81) rfl (hS.k (by decide)) (by omega) (by omega) (by decide) hs75 ?_
    refine ar_iconst (k := 82) rfl ?_
    refine ar_icmp_ne (k := 83) rfl (by omega) (by omega) (fun c83 => ?_) (fun c83 => ?_)
    · have hw6 := hv (s 6) (by omega) (by omega)
      refine ar_aloadn (k := 86) rfl rfl ?_
      refine br_getR (k := 87) rfl (hS.k (by decide)) flR_9_12 (by decide) rfl (hS.r rfl) ?_
      refine ar_sipush (k := 88) rfl (by decide) ?_
      refine ar_aloadn (k := 89) rfl rfl ?_
      refine br_getR (k := 90) rfl (hS.k (by decide)) flR_9_12 (by decide) rfl (hS.r rfl) ?_
      refine ar_bipush (k := 91) rfl (by decide) ?_
      refine br_iads (k := 92) rfl (hS.k (by decide)) (by omega) (by omega) (by decide) hs75 ?_
      refine ar_iadd (k := 93) rfl ?_
      refine br_iads (k := 94) rfl (hS.k (by decide)) (by omega) (by omega) (by decide) hs75 ?_
      refine ar_istore (k := 95) (l2 := [(6, _), (5, _), (4, _), (3, _), (0, _), (1, _), (2, _)]) rfl (by decide) rfl ?_
      refine ar_sipush (k := 96) rfl (by decide) ?_
      refine ar_sipush (k := 97) rfl (by decide) ?_
      refine ar_aloadn (k := 98) rfl rfl ?_
      refine br_getR (k := 99) rfl (hS.k (by decide)) flR_9_12 (by decide) rfl (hS.r rfl) ?_
      refine ar_bipush (k := 100) rfl (by decide) ?_
      refine br_iads (k := 101) rfl (hS.k (by decide)) (by omega) (by omega) (by decide) hs75 ?_
      refine ar_imul (k := 102) rfl ?_
      refine ar_iadd (k := 103) rfl ?_
      refine ar_istore (k := 104) (l2 := [(7, _), (6, _), (5, _), (4, _), (3, _), (0, _), (1, _), (2, _)]) rfl (by decide) rfl ?_
      refine ar_iconst (k := 105) rfl ?_
      refine ar_istore (k := 106) (l2 := [(8, _), (7, _), (6, _), (5, _), (4, _), (3, _), (0, _), (1, _), (2, _)]) rfl (by decide) rfl ?_
      refine ar_iload (k := 107) rfl rfl ?_
      refine ar_istore (k := 108) (l2 := [(9, _), (8, _), (7, _), (6, _), (5, _), (4, _), (3, _), (0, _), (1, _), (2, _)]) rfl (by decide) rfl ?_
      refine ar_sub (l2 := [(9, vi (284 + 140 * s 6 + ((0 : Nat) : Int))), (8, vi ((([] : List Bool).length : Nat) : Int)), (7, vi (284 + 140 * s 6)), (6, vi (((s (279 + s 6)).toNat : Nat) : Int)), (5, vi 0), (4, vi (s (94 + rLess s t))), (3, vi (rLess s t)), (0, vr (some 69)), (1, vi t), (2, vi u)]) (tw_s (tw_e 0 rfl (by omega)) (tw_s (tw_e 1 rfl (by rfl)) (tw_s (tw_g 2 rfl) (tw_s (tw_e 3 rfl (by omega)) (tw_s (tw_g 4 rfl) (tw_s (tw_g 5 rfl) (tw_s (tw_g 6 rfl) (tw_s (tw_g 7 rfl) (tw_s (tw_g 8 rfl) (tw_s (tw_g 9 rfl) tw_s0)))))))))) ?_
      rw [rWorth, if_neg (by omega)]
      exact l_R_worthOf (I := I) hS hR (by omega) (hV (s 6) (by omega) (by omega)) hb5 (s (279 + s 6)).toNat 0 I75 [] 0 (by omega) hs75 hk75 (by
        intro i g1 g2
        rcases (show i = 0 ∨ i = 1 ∨ i = 2 ∨ i = 3 ∨ i = 4 by omega) with rfl | rfl | rfl | rfl | rfl <;> simp [e75, e45, e30, e25, e15, uI_at, rBy]) rfl rfl trivial (by omega) (by decide)
    · refine ar_iconst (k := 84) rfl ?_
      refine ar_goto (k := 85) rfl ?_
      refine ar_istore (k := 95) (l2 := [(6, _), (5, _), (4, _), (3, _), (0, _), (1, _), (2, _)]) rfl (by decide) rfl ?_
      refine ar_sipush (k := 96) rfl (by decide) ?_
      refine ar_sipush (k := 97) rfl (by decide) ?_
      refine ar_aloadn (k := 98) rfl rfl ?_
      refine br_getR (k := 99) rfl (hS.k (by decide)) flR_9_12 (by decide) rfl (hS.r rfl) ?_
      refine ar_bipush (k := 100) rfl (by decide) ?_
      refine br_iads (k := 101) rfl (hS.k (by decide)) (by omega) (by omega) (by decide) hs75 ?_
      refine ar_imul (k := 102) rfl ?_
      refine ar_iadd (k := 103) rfl ?_
      refine ar_istore (k := 104) (l2 := [(7, _), (6, _), (5, _), (4, _), (3, _), (0, _), (1, _), (2, _)]) rfl (by decide) rfl ?_
      refine ar_iconst (k := 105) rfl ?_
      refine ar_istore (k := 106) (l2 := [(8, _), (7, _), (6, _), (5, _), (4, _), (3, _), (0, _), (1, _), (2, _)]) rfl (by decide) rfl ?_
      refine ar_iload (k := 107) rfl rfl ?_
      refine ar_istore (k := 108) (l2 := [(9, _), (8, _), (7, _), (6, _), (5, _), (4, _), (3, _), (0, _), (1, _), (2, _)]) rfl (by decide) rfl ?_
      refine ar_sub (l2 := [(9, vi (284 + 140 * s 6 + ((0 : Nat) : Int))), (8, vi ((([] : List Bool).length : Nat) : Int)), (7, vi (284 + 140 * s 6)), (6, vi ((0 : Nat) : Int)), (5, vi 0), (4, vi (s (94 + rLess s t))), (3, vi (rLess s t)), (0, vr (some 69)), (1, vi t), (2, vi u)]) (tw_s (tw_e 0 rfl (by omega)) (tw_s (tw_e 1 rfl (by rfl)) (tw_s (tw_g 2 rfl) (tw_s (tw_e 3 rfl (by rfl)) (tw_s (tw_g 4 rfl) (tw_s (tw_g 5 rfl) (tw_s (tw_g 6 rfl) (tw_s (tw_g 7 rfl) (tw_s (tw_g 8 rfl) (tw_s (tw_g 9 rfl) tw_s0)))))))))) ?_
      rw [rWorth, if_pos (by omega)]
      have e0 : (0 : Int) = (rRun (rBy s t u) s (284 + 140 * s 6) 0).2 := rfl
      rw [e0]
      exact l_R_worthOf (I := I) hS hR (by omega) rfl hb5 0 0 I75 [] 0 (by omega) hs75 hk75 (by
        intro i g1 g2
        rcases (show i = 0 ∨ i = 1 ∨ i = 2 ∨ i = 3 ∨ i = 4 by omega) with rfl | rfl | rfl | rfl | rfl <;> simp [e75, e45, e30, e25, e15, uI_at, rBy]) rfl rfl trivial (by omega) (by decide)
  · refine ar_iconst (k := 72) rfl ?_
    refine ar_goto (k := 73) rfl ?_
    refine tw_top (y := if s (26 + s (84 + rLess s t)) = s (26 + s (84 + s (94 + rLess s t))) then 1 else 0) (by omega) ?_
    refine br_iastJ (k := 75) rfl (hS.k (by decide)) (by omega) (by omega) (by decide) (fun I75 e75 => ?_)
    have hs75 : I75 70 = s := by rw [e75]; exact hs45
    have hk75 := rk.w hk45 (by decide) e75
    refine ar_iconst (k := 76) rfl ?_
    refine ar_istore (k := 77) (l2 := [(5, _), (4, _), (3, _), (0, _), (1, _), (2, _)]) rfl (by decide) rfl ?_
    refine ar_aloadn (k := 78) rfl rfl ?_
    refine br_getR (k := 79) rfl (hS.k (by decide)) flR_9_12 (by decide) rfl (hS.r rfl) ?_
    refine ar_bipush (k := 80) rfl (by decide) ?_
    refine br_iads (k := 81) rfl (hS.k (by decide)) (by omega) (by omega) (by decide) hs75 ?_
    refine ar_iconst (k := 82) rfl ?_
    refine ar_icmp_ne (k := 83) rfl (by omega) (by omega) (fun c83 => ?_) (fun c83 => ?_)
    · have hw6 := hv (s 6) (by omega) (by omega)
      refine ar_aloadn (k := 86) rfl rfl ?_
      refine br_getR (k := 87) rfl (hS.k (by decide)) flR_9_12 (by decide) rfl (hS.r rfl) ?_
      refine ar_sipush (k := 88) rfl (by decide) ?_
      refine ar_aloadn (k := 89) rfl rfl ?_
      refine br_getR (k := 90) rfl (hS.k (by decide)) flR_9_12 (by decide) rfl (hS.r rfl) ?_
      refine ar_bipush (k := 91) rfl (by decide) ?_
      refine br_iads (k := 92) rfl (hS.k (by decide)) (by omega) (by omega) (by decide) hs75 ?_
      refine ar_iadd (k := 93) rfl ?_
      refine br_iads (k := 94) rfl (hS.k (by decide)) (by omega) (by omega) (by decide) hs75 ?_
      refine ar_istore (k := 95) (l2 := [(6, _), (5, _), (4, _), (3, _), (0, _), (1, _), (2, _)]) rfl (by decide) rfl ?_
      refine ar_sipush (k := 96) rfl (by decide) ?_
      refine ar_sipush (k := 97) rfl (by decide) ?_
      refine ar_aloadn (k := 98) rfl rfl ?_
      refine br_getR (k := 99) rfl (hS.k (by decide)) flR_9_12 (by decide) rfl (hS.r rfl) ?_
      refine ar_bipush (k := 100) rfl (by decide) ?_
      refine br_iads (k := 101) rfl (hS.k (by decide)) (by omega) (by omega) (by decide) hs75 ?_
      refine ar_imul (k := 102) rfl ?_
      refine ar_iadd (k := 103) rfl ?_
      refine ar_istore (k := 104) (l2 := [(7, _), (6, _), (5, _), (4, _), (3, _), (0, _), (1, _), (2, _)]) rfl (by decide) rfl ?_
      refine ar_iconst (k := 105) rfl ?_
      refine ar_istore (k := 106) (l2 := [(8, _), (7, _), (6, _), (5, _), (4, _), (3, _), (0, _), (1, _), (2, _)]) rfl (by decide) rfl ?_
      refine ar_iload (k := 107) rfl rfl ?_
      refine ar_istore (k := 108) (l2 := [(9, _), (8, _), (7, _), (6, _), (5, _), (4, _), (3, _), (0, _), (1, _), (2, _)]) rfl (by decide) rfl ?_
      refine ar_sub (l2 := [(9, vi (284 + 140 * s 6 + ((0 : Nat) : Int))), (8, vi ((([] : List Bool).length : Nat) : Int)), (7, vi (284 + 140 * s 6)), (6, vi (((s (279 + s 6)).toNat : Nat) : Int)), (5, vi 0), (4, vi (s (94 + rLess s t))), (3, vi (rLess s t)), (0, vr (some 69)), (1, vi t), (2, vi u)]) (tw_s (tw_e 0 rfl (by omega)) (tw_s (tw_e 1 rfl (by rfl)) (tw_s (tw_g 2 rfl) (tw_s (tw_e 3 rfl (by omega)) (tw_s (tw_g 4 rfl) (tw_s (tw_g 5 rfl) (tw_s (tw_g 6 rfl) (tw_s (tw_g 7 rfl) (tw_s (tw_g 8 rfl) (tw_s (tw_g 9 rfl) tw_s0)))))))))) ?_
      rw [rWorth, if_neg (by omega)]
      exact l_R_worthOf (I := I) hS hR (by omega) (hV (s 6) (by omega) (by omega)) hb5 (s (279 + s 6)).toNat 0 I75 [] 0 (by omega) hs75 hk75 (by
        intro i g1 g2
        rcases (show i = 0 ∨ i = 1 ∨ i = 2 ∨ i = 3 ∨ i = 4 by omega) with rfl | rfl | rfl | rfl | rfl <;> simp [e75, e45, e30, e25, e15, uI_at, rBy]) rfl rfl trivial (by omega) (by decide)
    · refine ar_iconst (k := 84) rfl ?_
      refine ar_goto (k := 85) rfl ?_
      refine ar_istore (k := 95) (l2 := [(6, _), (5, _), (4, _), (3, _), (0, _), (1, _), (2, _)]) rfl (by decide) rfl ?_
      refine ar_sipush (k := 96) rfl (by decide) ?_
      refine ar_sipush (k := 97) rfl (by decide) ?_
      refine ar_aloadn (k := 98) rfl rfl ?_
      refine br_getR (k := 99) rfl (hS.k (by decide)) flR_9_12 (by decide) rfl (hS.r rfl) ?_
      refine ar_bipush (k := 100) rfl (by decide) ?_
      refine br_iads (k := 101) rfl (hS.k (by decide)) (by omega) (by omega) (by decide) hs75 ?_
      refine ar_imul (k := 102) rfl ?_
      refine ar_iadd (k := 103) rfl ?_
      refine ar_istore (k := 104) (l2 := [(7, _), (6, _), (5, _), (4, _), (3, _), (0, _), (1, _), (2, _)]) rfl (by decide) rfl ?_
      refine ar_iconst (k := 105) rfl ?_
      refine ar_istore (k := 106) (l2 := [(8, _), (7, _), (6, _), (5, _), (4, _), (3, _), (0, _), (1, _), (2, _)]) rfl (by decide) rfl ?_
      refine ar_iload (k := 107) rfl rfl ?_
      refine ar_istore (k := 108) (l2 := [(9, _), (8, _), (7, _), (6, _), (5, _), (4, _), (3, _), (0, _), (1, _), (2, _)]) rfl (by decide) rfl ?_
      refine ar_sub (l2 := [(9, vi (284 + 140 * s 6 + ((0 : Nat) : Int))), (8, vi ((([] : List Bool).length : Nat) : Int)), (7, vi (284 + 140 * s 6)), (6, vi ((0 : Nat) : Int)), (5, vi 0), (4, vi (s (94 + rLess s t))), (3, vi (rLess s t)), (0, vr (some 69)), (1, vi t), (2, vi u)]) (tw_s (tw_e 0 rfl (by omega)) (tw_s (tw_e 1 rfl (by rfl)) (tw_s (tw_g 2 rfl) (tw_s (tw_e 3 rfl (by rfl)) (tw_s (tw_g 4 rfl) (tw_s (tw_g 5 rfl) (tw_s (tw_g 6 rfl) (tw_s (tw_g 7 rfl) (tw_s (tw_g 8 rfl) (tw_s (tw_g 9 rfl) tw_s0)))))))))) ?_
      rw [rWorth, if_pos (by omega)]
      have e0 : (0 : Int) = (rRun (rBy s t u) s (284 + 140 * s 6) 0).2 := rfl
      rw [e0]
      exact l_R_worthOf (I := I) hS hR (by omega) rfl hb5 0 0 I75 [] 0 (by omega) hs75 hk75 (by
        intro i g1 g2
        rcases (show i = 0 ∨ i = 1 ∨ i = 2 ∨ i = 3 ∨ i = 4 by omega) with rfl | rfl | rfl | rfl | rfl <;> simp [e75, e45, e30, e25, e15, uI_at, rBy]) rfl rfl trivial (by omega) (by decide)
end RD
