theorem shl_pw : ∀ i : Nat, i < 10 → bShl 1 (i : Int) = ((2 ^ i : Nat) : Int) := by decide +kernel
theorem or_pw : ∀ i : Nat, i < 5 → ∀ r : Nat, r < 2 ^ i → bOr (r : Int) ((2 ^ i : Nat) : Int) = ((r + 2 ^ i : Nat) : Int) := by decide +kernel
theorem pw_16 {i : Nat} (h : i < 5) : 1 ≤ 2 ^ i ∧ 2 ^ i ≤ 16 := ⟨Nat.one_le_two_pow, Nat.pow_le_pow_right (by decide) (show i ≤ 4 by omega)⟩
theorem pw_s (i : Nat) : 2 ^ (i + 1) = 2 ^ i + 2 ^ i := by rw [Nat.pow_succ]; omega
abbrev PW (I : Nat → Int → Int) (s : Int → Int) : Prop := ∀ t : Int, 0 ≤ t → t < s 1 → s (94 + t) ≠ -1 → ∀ u : Int, 0 ≤ u → u < 24 → I (42 + t.toNat) u = rWorth s t u
/-- only what the sets are worth changes -/
def bs (I J : Nat → Int → Int) : Prop := (∀ a, a ≠ 59 → J a = I a) ∧ J 59 0 = I 59 0
theorem bs.rf {I : Nat → Int → Int} : bs I I := ⟨fun _ _ => rfl, rfl⟩
theorem bs.trans {I J L : Nat → Int → Int} (h : bs I J) (g : bs J L) : bs I L := ⟨fun a ha => (g.1 a ha).trans (h.1 a ha), g.2.trans h.2⟩
theorem bs.q {K : Nat → Nat × Nat} {I J : Nat → Int → Int} (h : bs I J) : cq K I J := ⟨fun b hb _ _ => h.1 b (by omega), by rw [h.1 57 (by decide)], h.2, fun k _ => by rw [h.1 40 (by decide)], h.1 60 (by decide)⟩
theorem PT.fm {I J : Nat → Int → Int} {s : Int → Int} (h : PT I s) (g : ∀ a, a = 40 ∨ (54 ≤ a ∧ a ≤ 58) → J a = I a) : PT J s := by
  unfold PT PR at *
  rw [g 40 (by omega), g 54 (by omega), g 55 (by omega), g 56 (by omega), g 57 (by omega), g 58 (by omega)]
  exact h
theorem bs.T {I J : Nat → Int → Int} {s : Int → Int} (h : bs I J) (g : PT I s) : PT J s := g.fm (fun a ha => h.1 a (by omega))
theorem bs.W {I J : Nat → Int → Int} {s : Int → Int} (h : bs I J) (hs : s 1 ≤ 10) (g : PW I s) : PW J s := fun t t1 t2 t3 u u1 u2 => by rw [h.1 _ (by omega)]; exact g t t1 t2 t3 u u1 u2
theorem SI_wb {s : Int → Int} {u : Int} {L : List Nat} (hR : RInv s) (hV : RVal s) : ∀ (i x : Nat), -42000 * (i : Int) ≤ (SI s u L i x).2.2.1 ∧ (SI s u L i x).2.2.1 ≤ 42000 * (i : Int)
  | 0, x => by show -42000 * ((0 : Nat) : Int) ≤ 0 ∧ (0 : Int) ≤ 42000 * ((0 : Nat) : Int); omega
  | i + 1, x => by
    rw [SI]
    split
    · have := SI_wb (u := u) (L := L) hR hV i x; omega
    · have h1 := SI_wb (u := u) (L := L) hR hV i (x - 2 ^ i)
      have h2 := rWorth_bd (t := ((L.getD i 0 : Nat) : Int)) (u := u) hR hV
      show -42000 * ((i + 1 : Nat) : Int) ≤ (SI s u L i (x - 2 ^ i)).2.2.1 + rWorth s ((L.getD i 0 : Nat) : Int) u ∧ (SI s u L i (x - 2 ^ i)).2.2.1 + rWorth s ((L.getD i 0 : Nat) : Int) u ≤ 42000 * ((i + 1 : Nat) : Int)
      omega
theorem sW_bd {s : Int → Int} {u : Int} {x : Nat} (hR : RInv s) (hV : RVal s) (h5 : (prs s).length ≤ 5) : -210000 ≤ sW s u x ∧ sW s u x ≤ 210000 := by
  have := SI_wb (u := u) (L := prs s) hR hV (prs s).length x
  unfold sW
  omega
/-- so far gone through -/
def bI (I J : Nat → Int → Int) (s : Int → Int) (u N b : Nat) : Prop := bs I J ∧ b < N ∧ ib (I 58 (b : Int)) u = true ∧ ∀ x : Nat, x < N → ib (I 58 (x : Int)) u = true → J 59 (x : Int) = sW s u x ∧ (sW s u x < sW s u b ∨ (sW s u x = sW s u b ∧ b ≤ x))
theorem bI.skip {I J : Nat → Int → Int} {s : Int → Int} {u N b : Nat} (h : bI I J s u N b) (hf : ib (I 58 (N : Int)) u = false) : bI I J s u (N + 1) b := by
  refine ⟨h.1, by have := h.2.1; omega, h.2.2.1, fun x hx hx2 => ?_⟩
  rcases (show x < N ∨ x = N by omega) with q | q
  · exact h.2.2.2 x q hx2
  · subst q; rw [hf] at hx2; cases hx2
theorem bI.take {I J L : Nat → Int → Int} {s : Int → Int} {u N b c : Nat} (h : bI I J s u N b) (hN : 1 ≤ N) (hf : ib (I 58 (N : Int)) u = true) (e : L = uI J 59 (N : Int) (sW s u N)) (hc : (c = N ∧ sW s u b < sW s u N) ∨ (c = b ∧ sW s u N ≤ sW s u b)) : bI I L s u (N + 1) c := by
  subst e
  obtain ⟨h1, h2, h3, h4⟩ := h
  refine ⟨⟨fun a ha => (uI_off _ _ _ ha).trans (h1.1 a ha), by rw [uI_at, if_neg (by omega)]; exact h1.2⟩, by omega, by rcases hc with ⟨rfl, _⟩ | ⟨rfl, _⟩; exact hf; exact h3, fun x hx hx2 => ?_⟩
  rw [uI_at]
  rcases (show x < N ∨ x = N by omega) with q | q
  · rw [if_neg (by omega)]
    have := h4 x q hx2
    refine ⟨this.1, ?_⟩
    rcases hc with ⟨rfl, _⟩ | ⟨rfl, _⟩ <;> omega
  · subst q
    rw [if_pos rfl]
    refine ⟨rfl, ?_⟩
    rcases hc with ⟨rfl, _⟩ | ⟨rfl, _⟩ <;> omega
section CS
variable {l : Launch} {G : tG} {K : Nat → Nat × Nat} {I : Nat → Int → Int} {Q : Nat → Int → Option Nat} {n : Nat} {s : Int → Int}
theorem li_P_bestSet {u i : Nat} {P : Option tV → tH → Prop} (hS : tSt (K, I, Q, n)) (hR : RInv s) (hV : RVal s) (hT : PT I s) (hW : PW I s) (h59 : I 59 0 = 0) (u1 : u < 24) (hi5 : i < (prs s).length) (cont : ∀ (x : Int) (b : Nat) (J : Nat → Int → Int), bI I J s u (2 ^ (i + 1)) b → tw_AW l G mP_bestSet 1 0 0 n 0 P 102 [(4, vi x), (2, vi (b : Int)), (0, vr (some 40)), (1, vi (u : Int)), (3, vi (i : Int))] [] (K, J, Q, n)) : ∀ (k : Nat) (r b : Nat) (J : Nat → Int → Int), r + k = 2 ^ i → bI I J s u (2 ^ i + r) b → tw_AW l G mP_bestSet 1 0 0 n 0 (P) 15 [(4, vi (r : Int)), (2, vi (b : Int)), (0, vr (some 40)), (1, vi (u : Int)), (3, vi (i : Int))] [] (K, J, Q, n) := by
  obtain ⟨h0, h1, h2, h3, h4, h5, h6, hp, hrw, ht, hr, hb, htp, hv⟩ := id hR
  obtain ⟨⟨hc0, hc5, hcp⟩, hpq, h570, h580, hst⟩ := id hT
  intro k
  induction k with
  | zero =>
    intro r b J hj hI
    have hpw := pw_16 (i := i) (by omega)
    refine ar_iload (k := 10) rfl rfl ?_
    refine ar_iconst (k := 11) rfl ?_
    refine ar_iloadn (k := 12) rfl rfl ?_
    refine ar_ishl (k := 13) rfl ?_
    refine tw_top (y := ((2 ^ i : Nat) : Int)) (by exact shl_pw i (by omega)) ?_
    refine ar_icmp_ge (k := 14) rfl (by omega) (by omega) (fun c14 => ?_) (fun c14 => ?_)
    · have e9 : r = 2 ^ i := by omega
      subst e9
      exact cont _ b J (by rw [pw_s]; exact hI)
    · exfalso; omega
  | succ k ih =>
    intro r b J hj hI
    have hpw := pw_16 (i := i) (by omega)
    refine ar_iload (k := 10) rfl rfl ?_
    refine ar_iconst (k := 11) rfl ?_
    refine ar_iloadn (k := 12) rfl rfl ?_
    refine ar_ishl (k := 13) rfl ?_
    refine tw_top (y := ((2 ^ i : Nat) : Int)) (by exact shl_pw i (by omega)) ?_
    refine ar_icmp_ge (k := 14) rfl (by omega) (by omega) (fun c14 => ?_) (fun c14 => ?_)
    · exfalso; omega
    · have hpw := pw_16 (i := i) (by omega)
      have hb1 := bAnd1 (bShr (I 58 ((r + 2 ^ i : Nat) : Int)) (u : Int))
      have hg5 := prs_get (s := s) h1.1 hi5
      have hbN := hI.2.1
      have hk : bs I J := hI.1
      refine ar_iload (k := 15) rfl rfl ?_
      refine ar_iconst (k := 16) rfl ?_
      refine ar_iloadn (k := 17) rfl rfl ?_
      refine ar_ishl (k := 18) rfl ?_
      refine tw_top (y := ((2 ^ i : Nat) : Int)) (by exact shl_pw i (by omega)) ?_
      refine ar_ior (k := 19) rfl ?_
      refine tw_top (y := ((r + 2 ^ i : Nat) : Int)) (by exact or_pw i (by omega) r (by omega)) ?_
      refine ar_istore (k := 20) (l2 := [(5, _), (4, _), (2, _), (0, _), (1, _), (3, _)]) rfl (by decide) rfl ?_
      refine ar_aloadn (k := 21) rfl rfl ?_
      refine br_getR (k := 22) rfl (hS.k (by decide)) flP_60_6 (by decide) rfl (hS.r rfl) ?_
      refine ar_iload (k := 23) rfl rfl ?_
      refine br_iald (k := 24) rfl (hS.k (by decide)) (by omega) (by omega) (by decide) ?_
      refine tw_top (congrFun (hk.1 58 (by decide)) _) ?_
      refine ar_iloadn (k := 25) rfl rfl ?_
      refine ar_ishr (k := 26) rfl ?_
      refine ar_iconst (k := 27) rfl ?_
      refine ar_iand (k := 28) rfl ?_
      refine ar_if_eq (k := 29) rfl (by omega) (fun c29 => ?_) (fun c29 => ?_)
      · refine ar_iinc (k := 61) (l2 := [(4, _), (5, _), (2, _), (0, _), (1, _), (3, _)]) rfl (by decide) rfl rfl ?_
        refine ar_goto (k := 62) rfl ?_
        refine ar_sub (l2 := [(4, vi ((r + 1 : Nat) : Int)), (2, vi (b : Int)), (0, vr (some 40)), (1, vi (u : Int)), (3, vi (i : Int))]) (tw_s (tw_e 0 rfl (by omega)) (tw_s (tw_g 2 rfl) (tw_s (tw_g 3 rfl) (tw_s (tw_g 4 rfl) (tw_s (tw_g 5 rfl) tw_s0))))) ?_
        have hf0 : ib (I 58 ((r + 2 ^ i : Nat) : Int)) u = false := by rw [Bool.eq_false_iff]; intro z; have := (ib_bit1 _ (by omega)).mpr z; omega
        have hn := hI.skip (N := 2 ^ i + r) (by rw [Nat.add_comm (2 ^ i) r]; exact hf0)
        exact ih (r + 1) b J (by omega) (by rw [show 2 ^ i + (r + 1) = 2 ^ i + r + 1 by omega]; exact hn)
      · have hf1 : ib (I 58 ((2 ^ i + r : Nat) : Int)) u = true := by rw [Nat.add_comm (2 ^ i) r]; exact (ib_bit1 _ (by omega)).mp (by omega)
        refine ar_aloadn (k := 30) rfl rfl ?_
        refine br_getR (k := 31) rfl (hS.k (by decide)) flP_63_6 (by decide) rfl (hS.r rfl) ?_
        refine ar_iload (k := 32) rfl rfl ?_
        refine ar_aloadn (k := 33) rfl rfl ?_
        refine br_getR (k := 34) rfl (hS.k (by decide)) flP_63_6 (by decide) rfl (hS.r rfl) ?_
        refine ar_iload (k := 35) rfl rfl ?_
        refine br_iald (k := 36) rfl (hS.k (by decide)) (by omega) (by omega) (by decide) ?_
        refine tw_top (y := sW s u r) (by exact (hI.2.2.2 r (by omega) (SI_sub hT hi5 (by omega) (by rw [Nat.add_comm r]; exact hf1))).1) ?_
        refine ar_aloadn (k := 37) rfl rfl ?_
        refine br_getR (k := 38) rfl (hS.k (by decide)) flP_29_6 (by decide) rfl (hS.r rfl) ?_
        refine ar_aloadn (k := 39) rfl rfl ?_
        refine br_getR (k := 40) rfl (hS.k (by decide)) flP_45_6 (by decide) rfl (hS.r rfl) ?_
        refine ar_iloadn (k := 41) rfl rfl ?_
        refine br_iald (k := 42) rfl (hS.k (by decide)) (by omega) (by omega) (by decide) ?_
        refine tw_top ((congrFun (hk.1 54 (by decide)) _).trans (hcp i (by omega))) ?_
        refine br_aald18 (k := 43) rfl (hS.k (by decide)) (by omega) (by omega) (by decide) (hS.row (by omega) (by omega)).1 ?_
        refine ar_iloadn (k := 44) rfl rfl ?_
        refine br_iald (k := 45) rfl (hS.row (by omega) (by omega)).2 (by omega) (by omega) (by decide) ?_
        refine tw_top ((congrFun (hk.1 _ (by omega)) _).trans (hW _ (by omega) (by omega) (by omega) _ (by omega) (by omega))) ?_
        refine ar_iadd (k := 46) rfl ?_
        refine tw_top (y := sW s u (r + 2 ^ i)) (by exact (sW_hi hi5 (by omega)).symm) ?_
        refine br_iastJ (k := 47) rfl (hS.k (by decide)) (by omega) (by omega) (by decide) (fun I47 e47 => ?_)
        skip
        refine ar_aloadn (k := 48) rfl rfl ?_
        refine br_getR (k := 49) rfl (hS.k (by decide)) flP_63_6 (by decide) rfl (hS.r rfl) ?_
        refine ar_iload (k := 50) rfl rfl ?_
        refine br_iald (k := 51) rfl (hS.k (by decide)) (by omega) (by omega) (by decide) ?_
        refine tw_top (y := sW s u (r + 2 ^ i)) (by rw [e47, uI_at, if_pos rfl]) ?_
        refine ar_aloadn (k := 52) rfl rfl ?_
        refine br_getR (k := 53) rfl (hS.k (by decide)) flP_63_6 (by decide) rfl (hS.r rfl) ?_
        refine ar_iloadn (k := 54) rfl rfl ?_
        refine br_iald (k := 55) rfl (hS.k (by decide)) (by omega) (by omega) (by decide) ?_
        refine tw_top (y := sW s u b) (by rw [e47, uI_at, if_neg (by omega)]; exact (hI.2.2.2 b hI.2.1 hI.2.2.1).1) ?_
        have w1 := sW_bd (u := (u : Int)) (x := r + 2 ^ i) hR hV hc5
        have w2 := sW_bd (u := (u : Int)) (x := b) hR hV hc5
        refine ar_icmp_le (k := 56) rfl (by omega) (by omega) (fun c56 => ?_) (fun c56 => ?_)
        · skip
          refine ar_iloadn (k := 59) rfl rfl ?_
          refine ar_istoren (k := 60) (l2 := [(2, _), (5, _), (4, _), (0, _), (1, _), (3, _)]) rfl (by decide) rfl ?_
          refine ar_iinc (k := 61) (l2 := [(4, _), (2, _), (5, _), (0, _), (1, _), (3, _)]) rfl (by decide) rfl rfl ?_
          refine ar_goto (k := 62) rfl ?_
          refine ar_sub (l2 := [(4, vi ((r + 1 : Nat) : Int)), (2, vi (b : Int)), (0, vr (some 40)), (1, vi (u : Int)), (3, vi (i : Int))]) (tw_s (tw_e 0 rfl (by omega)) (tw_s (tw_g 1 rfl) (tw_s (tw_g 3 rfl) (tw_s (tw_g 4 rfl) (tw_s (tw_g 5 rfl) tw_s0))))) ?_
          have hn := hI.take (c := b) (L := I47) (by omega) hf1 (by rw [Nat.add_comm (2 ^ i) r]; exact e47) (Or.inr ⟨rfl, by rw [Nat.add_comm (2 ^ i) r]; omega⟩)
          exact ih (r + 1) b I47 (by omega) (by rw [show 2 ^ i + (r + 1) = 2 ^ i + r + 1 by omega]; exact hn)
        · skip
          refine ar_iload (k := 57) rfl rfl ?_
          refine ar_goto (k := 58) rfl ?_
          refine ar_istoren (k := 60) (l2 := [(2, _), (5, _), (4, _), (0, _), (1, _), (3, _)]) rfl (by decide) rfl ?_
          refine ar_iinc (k := 61) (l2 := [(4, _), (2, _), (5, _), (0, _), (1, _), (3, _)]) rfl (by decide) rfl rfl ?_
          refine ar_goto (k := 62) rfl ?_
          refine ar_sub (l2 := [(4, vi ((r + 1 : Nat) : Int)), (2, vi ((r + 2 ^ i : Nat) : Int)), (0, vr (some 40)), (1, vi (u : Int)), (3, vi (i : Int))]) (tw_s (tw_e 0 rfl (by omega)) (tw_s (tw_g 1 rfl) (tw_s (tw_g 3 rfl) (tw_s (tw_g 4 rfl) (tw_s (tw_g 5 rfl) tw_s0))))) ?_
          have hn := hI.take (c := 2 ^ i + r) (L := I47) (by omega) hf1 (by rw [Nat.add_comm (2 ^ i) r]; exact e47) (Or.inl ⟨rfl, by rw [Nat.add_comm (2 ^ i) r]; omega⟩)
          rw [Nat.add_comm (2 ^ i) r] at hn
          exact ih (r + 1) (r + 2 ^ i) I47 (by omega) (by rw [show 2 ^ i + (r + 1) = r + 2 ^ i + 1 by omega]; exact hn)
theorem l_P_bestSet {u : Nat} (hS : tSt (K, I, Q, n)) (hR : RInv s) (hV : RVal s) (hT : PT I s) (hW : PW I s) (h59 : I 59 0 = 0) (u1 : u < 24) : ∀ (k : Nat) (i b : Nat) (J : Nat → Int → Int), i + k = (prs s).length → bI I J s u (2 ^ i) b → tw_AW l G mP_bestSet 1 0 0 n 0 ((fun r h' => ∃ (b : Nat) (J : Nat → Int → Int), r = some (vi (b : Int)) ∧ h' = (K, J, Q, n) ∧ bI I J s u (2 ^ (prs s).length) b)) 4 [(3, vi (i : Int)), (2, vi (b : Int)), (0, vr (some 40)), (1, vi (u : Int))] [] (K, J, Q, n) := by
  obtain ⟨h0, h1, h2, h3, h4, h5, h6, hp, hrw, ht, hr, hb, htp, hv⟩ := id hR
  obtain ⟨⟨hc0, hc5, hcp⟩, hpq, h570, h580, hst⟩ := id hT
  intro k
  induction k with
  | zero =>
    intro i b J hj hI
    refine ar_iloadn (k := 4) rfl rfl ?_
    refine ar_aloadn (k := 5) rfl rfl ?_
    refine br_getIz (k := 6) (z := 11) rfl (hS.k (by decide)) flP_54_6 (by decide) rfl rfl ?_
    refine tw_top ((congrFun (hI.1.1 40 (by decide)) _).trans hc0) ?_
    refine ar_icmp_ge (k := 7) rfl (by omega) (by omega) (fun c7 => ?_) (fun c7 => ?_)
    · refine ar_iloadn (k := 65) rfl rfl ?_
      refine ar_iret (k := 66) rfl rfl rfl (Nat.le_refl _) ?_
      have e9 : i = (prs s).length := by omega
      subst e9
      exact ⟨b, J, rfl, rfl, hI⟩
    · exfalso; omega
  | succ k ih =>
    intro i b J hj hI
    refine ar_iloadn (k := 4) rfl rfl ?_
    refine ar_aloadn (k := 5) rfl rfl ?_
    refine br_getIz (k := 6) (z := 11) rfl (hS.k (by decide)) flP_54_6 (by decide) rfl rfl ?_
    refine tw_top ((congrFun (hI.1.1 40 (by decide)) _).trans hc0) ?_
    refine ar_icmp_ge (k := 7) rfl (by omega) (by omega) (fun c7 => ?_) (fun c7 => ?_)
    · exfalso; omega
    · refine ar_iconst (k := 8) rfl ?_
      refine ar_istore (k := 9) (l2 := [(4, _), (3, _), (2, _), (0, _), (1, _)]) rfl (by decide) rfl ?_
      refine ar_sub (l2 := [(4, vi ((0 : Nat) : Int)), (2, vi (b : Int)), (0, vr (some 40)), (1, vi (u : Int)), (3, vi (i : Int))]) (tw_s (tw_e 0 rfl (by rfl)) (tw_s (tw_g 2 rfl) (tw_s (tw_g 3 rfl) (tw_s (tw_g 4 rfl) (tw_s (tw_g 1 rfl) tw_s0))))) ?_
      refine li_P_bestSet (i := i) hS hR hV hT hW h59 u1 (by omega) (fun x c L hL => ?_) (2 ^ i) 0 b J (by omega) hI
      refine ar_iinc (k := 63) (l2 := [(3, _), (4, _), (2, _), (0, _), (1, _)]) rfl (by decide) rfl rfl ?_
      refine ar_goto (k := 64) rfl ?_
      refine ar_sub (l2 := [(3, vi ((i + 1 : Nat) : Int)), (2, vi (c : Int)), (0, vr (some 40)), (1, vi (u : Int))]) (tw_s (tw_e 0 rfl (by omega)) (tw_s (tw_g 2 rfl) (tw_s (tw_g 3 rfl) (tw_s (tw_g 4 rfl) tw_s0)))) ?_
      exact ih (i + 1) c L (by omega) hL
theorem c_P_bestSet {u : Nat} (hS : tSt (K, I, Q, n)) (hR : RInv s) (hV : RVal s) (hT : PT I s) (hW : PW I s) (h59 : I 59 0 = 0) (u1 : u < 24) : tw_M l G 1 0 0 mP_bestSet [vr (some 40), vi (u : Int)] (K, I, Q, n) (fun r h' => ∃ (b : Nat) (J : Nat → Int → Int), r = some (vi (b : Int)) ∧ h' = (K, J, Q, n) ∧ bI I J s u (2 ^ (prs s).length) b) := by
  obtain ⟨h0, h1, h2, h3, h4, h5, h6, hp, hrw, ht, hr, hb, htp, hv⟩ := id hR
  obtain ⟨⟨hc0, hc5, hcp⟩, hpq, h570, h580, hst⟩ := id hT
  refine tw_intro okP_bestSet (Nat.le_of_ble_eq_true rfl) ?_
  refine ar_iconst (k := 0) rfl ?_
  refine ar_istoren (k := 1) (l2 := [(2, _), (0, _), (1, _)]) rfl (by decide) rfl ?_
  refine ar_iconst (k := 2) rfl ?_
  refine ar_istoren (k := 3) (l2 := [(3, _), (2, _), (0, _), (1, _)]) rfl (by decide) rfl ?_
  refine ar_sub (l2 := [(3, vi ((0 : Nat) : Int)), (2, vi ((0 : Nat) : Int)), (0, vr (some 40)), (1, vi (u : Int))]) (tw_s (tw_e 0 rfl (by rfl)) (tw_s (tw_e 1 rfl (by rfl)) (tw_s (tw_g 2 rfl) (tw_s (tw_g 3 rfl) tw_s0)))) ?_
  exact l_P_bestSet hS hR hV hT hW h59 u1 (prs s).length 0 0 I (by omega) ⟨bs.rf, by decide, by rw [show I 58 ((0 : Nat) : Int) = 16777215 from h580]; exact ib_all u u1, fun x hx _ => by
    have e : x = 0 := by omega
    subst e
    exact ⟨by rw [sW_0]; exact h59, Or.inr ⟨rfl, Nat.le_refl _⟩⟩⟩
theorem c_P_mostIn {u : Nat} (hS : tSt (K, I, Q, n)) (hR : RInv s) (hV : RVal s) (hT : PT I s) (hW : PW I s) (h59 : I 59 0 = 0) (u1 : u < 24) : tw_M l G 2 0 0 mP_mostIn [vr (some 40), vi (u : Int)] (K, I, Q, n) (fun r h' => r = some (vi (rMost s (u : Int)).1) ∧ ∃ J, h' = (K, J, Q, n) ∧ bs I J) := by
  obtain ⟨h0, h1, h2, h3, h4, h5, h6, hp, hrw, ht, hr, hb, htp, hv⟩ := id hR
  obtain ⟨⟨hc0, hc5, hcp⟩, hpq, h570, h580, hst⟩ := id hT
  refine tw_intro okP_mostIn (Nat.le_of_ble_eq_true rfl) ?_
  refine ar_aloadn (k := 0) rfl rfl ?_
  refine br_getR (k := 1) rfl (hS.k (by decide)) flP_63_6 (by decide) rfl (hS.r rfl) ?_
  refine ar_aloadn (k := 2) rfl rfl ?_
  refine ar_iloadn (k := 3) rfl rfl ?_
  refine ar_callV (k := 4) (as := [_]) rfl lvP_170 (hS.k (by decide)) rfl (c_P_bestSet hS hR hV hT hW h59 u1) rfl (by decide) (by decide) tw_m0 (Nat.le_of_ble_eq_true rfl) (fun r4 h4 p4 => ?_)
  obtain ⟨b, I4, rfl, rfl, hI4⟩ := p4
  have hB9 := best_is hR hT u1 hI4.2.1 hI4.2.2.1 (fun x x1 x2 => (hI4.2.2.2 x x1 x2).2)
  have hl9 : 2 ^ (prs s).length ≤ 32 := Nat.pow_le_pow_right (by decide) hc5
  have hb9 := hI4.2.1
  refine br_iald (k := 5) rfl (hS.k (by decide)) (by omega) (by omega) (by decide) ?_
  refine tw_top (y := (rMost s (u : Int)).1) (by rw [hB9.1]; exact (hI4.2.2.2 b hI4.2.1 hI4.2.2.1).1) ?_
  refine ar_iret (k := 6) rfl rfl rfl (Nat.le_refl _) ?_
  exact ⟨rfl, _, rfl, hI4.1⟩
theorem l_P_mostSetIn {u b : Nat} {J : Nat → Int → Int} (hS : tSt (K, I, Q, n)) (hR : RInv s) (hV : RVal s) (hT : PT I s) (hW : PW I s) (h59 : I 59 0 = 0) (hk : bs I J) (hb9 : b < 2 ^ (prs s).length) : ∀ (k : Nat) (j : Nat), j + k = (prs s).length → tw_AW l G mP_mostSetIn 2 0 0 n 0 ((fun r h' => r = some (vi (SI s (u : Int) (prs s) (prs s).length b).1) ∧ h' = (K, J, Q, n))) 11 [(4, vi (j : Int)), (3, vi (SI s (u : Int) (prs s) j (b % 2 ^ j)).1), (0, vr (some 40)), (2, vi (b : Int))] [] (K, J, Q, n) := by
  obtain ⟨h0, h1, h2, h3, h4, h5, h6, hp, hrw, ht, hr, hb, htp, hv⟩ := id hR
  obtain ⟨⟨hc0, hc5, hcp⟩, hpq, h570, h580, hst⟩ := id hT
  intro k
  induction k with
  | zero =>
    intro j hj
    refine ar_iload (k := 8) rfl rfl ?_
    refine ar_aloadn (k := 9) rfl rfl ?_
    refine br_getIz (k := 10) (z := 11) rfl (hS.k (by decide)) flP_54_6 (by decide) rfl rfl ?_
    refine tw_top ((congrFun (hk.1 40 (by decide)) _).trans hc0) ?_
    refine ar_icmp_ge (k := 11) rfl (by omega) (by omega) (fun c11 => ?_) (fun c11 => ?_)
    · refine ar_iloadn (k := 29) rfl rfl ?_
      refine ar_iret (k := 30) rfl rfl rfl (Nat.le_refl _) ?_
      have e9 : j = (prs s).length := by omega
      subst e9
      rw [Nat.mod_eq_of_lt hb9]
      exact ⟨rfl, rfl⟩
    · exfalso; omega
  | succ k ih =>
    intro j hj
    refine ar_iload (k := 8) rfl rfl ?_
    refine ar_aloadn (k := 9) rfl rfl ?_
    refine br_getIz (k := 10) (z := 11) rfl (hS.k (by decide)) flP_54_6 (by decide) rfl rfl ?_
    refine tw_top ((congrFun (hk.1 40 (by decide)) _).trans hc0) ?_
    refine ar_icmp_ge (k := 11) rfl (by omega) (by omega) (fun c11 => ?_) (fun c11 => ?_)
    · exfalso; omega
    · have hmd : b % 2 ^ (j + 1) = b % 2 ^ j + 2 ^ j * (b / 2 ^ j % 2) := Nat.mod_pow_succ
      have hlt : b % 2 ^ j < 2 ^ j := Nat.mod_lt _ (Nat.two_pow_pos _)
      have hbt : bAnd (bShr (b : Int) (j : Int)) 1 = ((b / 2 ^ j % 2 : Nat) : Int) := bit_nat (by omega)
      have hb2 : b / 2 ^ j % 2 < 2 := Nat.mod_lt _ (by decide)
      refine ar_iloadn (k := 12) rfl rfl ?_
      refine ar_iload (k := 13) rfl rfl ?_
      refine ar_ishr (k := 14) rfl ?_
      refine ar_iconst (k := 15) rfl ?_
      refine ar_iand (k := 16) rfl ?_
      refine ar_if_eq (k := 17) rfl (by omega) (fun c17 => ?_) (fun c17 => ?_)
      · refine ar_iinc (k := 27) (l2 := [(4, _), (3, _), (0, _), (2, _)]) rfl (by decide) rfl rfl ?_
        refine ar_goto (k := 28) rfl ?_
        refine ar_sub (l2 := [(4, vi ((j + 1 : Nat) : Int)), (3, vi (SI s (u : Int) (prs s) (j + 1) (b % 2 ^ (j + 1))).1), (0, vr (some 40)), (2, vi (b : Int))]) (tw_s (tw_e 0 rfl (by omega)) (tw_s (tw_e 1 rfl (by rw [show b % 2 ^ (j + 1) = b % 2 ^ j by rw [hmd, show b / 2 ^ j % 2 = 0 by omega]; rfl, SI_lo hlt])) (tw_s (tw_g 2 rfl) (tw_s (tw_g 3 rfl) tw_s0)))) ?_
        exact ih (j + 1) (by omega)
      · skip
        refine ar_iloadn (k := 18) rfl rfl ?_
        refine ar_iconst (k := 19) rfl ?_
        refine ar_aloadn (k := 20) rfl rfl ?_
        refine br_getR (k := 21) rfl (hS.k (by decide)) flP_45_6 (by decide) rfl (hS.r rfl) ?_
        refine ar_iload (k := 22) rfl rfl ?_
        refine br_iald (k := 23) rfl (hS.k (by decide)) (by omega) (by omega) (by decide) ?_
        refine tw_top ((congrFun (hk.1 54 (by decide)) _).trans (hcp j (by omega))) ?_
        refine ar_ishl (k := 24) rfl ?_
        refine ar_ior (k := 25) rfl ?_
        refine ar_istoren (k := 26) (l2 := [(3, _), (4, _), (0, _), (2, _)]) rfl (by decide) rfl ?_
        refine ar_iinc (k := 27) (l2 := [(4, _), (3, _), (0, _), (2, _)]) rfl (by decide) rfl rfl ?_
        refine ar_goto (k := 28) rfl ?_
        refine ar_sub (l2 := [(4, vi ((j + 1 : Nat) : Int)), (3, vi (SI s (u : Int) (prs s) (j + 1) (b % 2 ^ (j + 1))).1), (0, vr (some 40)), (2, vi (b : Int))]) (tw_s (tw_e 0 rfl (by omega)) (tw_s (tw_e 1 rfl (by rw [hmd, show b / 2 ^ j % 2 = 1 by omega, Nat.mul_one, SI_hi]; rfl)) (tw_s (tw_g 2 rfl) (tw_s (tw_g 3 rfl) tw_s0)))) ?_
        exact ih (j + 1) (by omega)
theorem c_P_mostSetIn {u : Nat} (hS : tSt (K, I, Q, n)) (hR : RInv s) (hV : RVal s) (hT : PT I s) (hW : PW I s) (h59 : I 59 0 = 0) (u1 : u < 24) : tw_M l G 2 0 0 mP_mostSetIn [vr (some 40), vi (u : Int)] (K, I, Q, n) (fun r h' => r = some (vi (rMost s (u : Int)).2.1) ∧ ∃ J, h' = (K, J, Q, n) ∧ bs I J) := by
  obtain ⟨h0, h1, h2, h3, h4, h5, h6, hp, hrw, ht, hr, hb, htp, hv⟩ := id hR
  obtain ⟨⟨hc0, hc5, hcp⟩, hpq, h570, h580, hst⟩ := id hT
  refine tw_intro okP_mostSetIn (Nat.le_of_ble_eq_true rfl) ?_
  refine ar_aloadn (k := 0) rfl rfl ?_
  refine ar_iloadn (k := 1) rfl rfl ?_
  refine ar_callV (k := 2) (as := [_]) rfl lvP_170 (hS.k (by decide)) rfl (c_P_bestSet hS hR hV hT hW h59 u1) rfl (by decide) (by decide) tw_m0 (Nat.le_of_ble_eq_true rfl) (fun r2 h2 p2 => ?_)
  obtain ⟨b, I2, rfl, rfl, hI2⟩ := p2
  have hB9 := best_is hR hT u1 hI2.2.1 hI2.2.2.1 (fun x x1 x2 => (hI2.2.2.2 x x1 x2).2)
  have hl9 : 2 ^ (prs s).length ≤ 32 := Nat.pow_le_pow_right (by decide) hc5
  have hb9 := hI2.2.1
  refine ar_istoren (k := 3) (l2 := [(2, _), (0, _), (1, _)]) rfl (by decide) rfl ?_
  refine ar_iconst (k := 4) rfl ?_
  refine ar_istoren (k := 5) (l2 := [(3, _), (2, _), (0, _), (1, _)]) rfl (by decide) rfl ?_
  refine ar_iconst (k := 6) rfl ?_
  refine ar_istore (k := 7) (l2 := [(4, _), (3, _), (2, _), (0, _), (1, _)]) rfl (by decide) rfl ?_
  refine ar_sub (l2 := [(4, vi ((0 : Nat) : Int)), (3, vi (SI s (u : Int) (prs s) 0 (b % 2 ^ 0)).1), (0, vr (some 40)), (2, vi (b : Int))]) (tw_s (tw_e 0 rfl (by rfl)) (tw_s (tw_e 1 rfl (by rfl)) (tw_s (tw_g 3 rfl) (tw_s (tw_g 2 rfl) tw_s0)))) ?_
  refine tw_pst ?_ (l_P_mostSetIn (u := u) hS hR hV hT hW h59 hI2.1 hb9 (prs s).length 0 (by omega))
  intro r h' q
  exact ⟨by rw [q.1, hB9.2], _, q.2, hI2.1⟩
theorem l_P_manyIn {u : Nat} (hS : tSt (K, I, Q, n)) (hR : RInv s) (hV : RVal s) (hT : PT I s) (hW : PW I s) (h59 : I 59 0 = 0) (u1 : u < 24) : ∀ (k : Nat) (j : Nat) (m : Int), j + k = 2 ^ (prs s).length → 0 ≤ m ∧ m ≤ 10 → (∀ x : Nat, x < j → ib (I 58 (x : Int)) u = true → rCnt (x : Int) ≤ m) → (m = 0 ∨ ∃ x : Nat, x < j ∧ ib (I 58 (x : Int)) u = true ∧ rCnt (x : Int) = m) → tw_AW l G mP_manyIn 2 0 0 n 0 ((fun r h' => r = some (vi (rMost s (u : Int)).2.2) ∧ h' = (K, I, Q, n))) 4 [(3, vi (j : Int)), (2, vi m), (0, vr (some 40)), (1, vi (u : Int))] [] (K, I, Q, n) := by
  obtain ⟨h0, h1, h2, h3, h4, h5, h6, hp, hrw, ht, hr, hb, htp, hv⟩ := id hR
  obtain ⟨⟨hc0, hc5, hcp⟩, hpq, h570, h580, hst⟩ := id hT
  intro k
  induction k with
  | zero =>
    intro j m hj hm0 hm1 hm2
    have hl9 : 2 ^ (prs s).length ≤ 32 := Nat.pow_le_pow_right (by decide) hc5
    refine ar_iloadn (k := 4) rfl rfl ?_
    refine ar_iconst (k := 5) rfl ?_
    refine ar_aloadn (k := 6) rfl rfl ?_
    refine br_getIz (k := 7) (z := 11) rfl (hS.k (by decide)) flP_54_6 (by decide) rfl rfl ?_
    refine tw_top hc0 ?_
    refine ar_ishl (k := 8) rfl ?_
    refine tw_top (y := ((2 ^ (prs s).length : Nat) : Int)) (by exact shl_pw _ (by omega)) ?_
    refine ar_icmp_ge (k := 9) rfl (by omega) (by omega) (fun c9 => ?_) (fun c9 => ?_)
    · refine ar_iloadn (k := 26) rfl rfl ?_
      refine ar_iret (k := 27) rfl rfl rfl (Nat.le_refl _) ?_
      have e9 : j = 2 ^ (prs s).length := by omega
      subst e9
      refine ⟨congrArg (fun z => some (vi z)) (many_is hR hT u1 ?_ hm1).symm, rfl⟩
      rcases hm2 with q | q
      · exact ⟨0, Nat.two_pow_pos _, by rw [show I 58 ((0 : Nat) : Int) = 16777215 from h580]; exact ib_all u u1, by rw [q]; exact (by decide +kernel : rCnt ((0 : Nat) : Int) = 0)⟩
      · exact q
    · exfalso; omega
  | succ k ih =>
    intro j m hj hm0 hm1 hm2
    have hl9 : 2 ^ (prs s).length ≤ 32 := Nat.pow_le_pow_right (by decide) hc5
    refine ar_iloadn (k := 4) rfl rfl ?_
    refine ar_iconst (k := 5) rfl ?_
    refine ar_aloadn (k := 6) rfl rfl ?_
    refine br_getIz (k := 7) (z := 11) rfl (hS.k (by decide)) flP_54_6 (by decide) rfl rfl ?_
    refine tw_top hc0 ?_
    refine ar_ishl (k := 8) rfl ?_
    refine tw_top (y := ((2 ^ (prs s).length : Nat) : Int)) (by exact shl_pw _ (by omega)) ?_
    refine ar_icmp_ge (k := 9) rfl (by omega) (by omega) (fun c9 => ?_) (fun c9 => ?_)
    · exfalso; omega
    · have hb1 := bAnd1 (bShr (I 58 (j : Int)) (u : Int))
      have hr1 := rCnt_bd (j : Int)
      refine ar_aloadn (k := 10) rfl rfl ?_
      refine br_getR (k := 11) rfl (hS.k (by decide)) flP_60_6 (by decide) rfl (hS.r rfl) ?_
      refine ar_iloadn (k := 12) rfl rfl ?_
      refine br_iald (k := 13) rfl (hS.k (by decide)) (by omega) (by omega) (by decide) ?_
      refine ar_iloadn (k := 14) rfl rfl ?_
      refine ar_ishr (k := 15) rfl ?_
      refine ar_iconst (k := 16) rfl ?_
      refine ar_iand (k := 17) rfl ?_
      refine ar_if_eq (k := 18) rfl (by omega) (fun c18 => ?_) (fun c18 => ?_)
      · refine ar_iinc (k := 24) (l2 := [(3, _), (2, _), (0, _), (1, _)]) rfl (by decide) rfl rfl ?_
        refine ar_goto (k := 25) rfl ?_
        refine ar_sub (l2 := [(3, vi ((j + 1 : Nat) : Int)), (2, vi m), (0, vr (some 40)), (1, vi (u : Int))]) (tw_s (tw_e 0 rfl (by omega)) (tw_s (tw_g 1 rfl) (tw_s (tw_g 2 rfl) (tw_s (tw_g 3 rfl) tw_s0)))) ?_
        refine ih (j + 1) _ (by omega) hm0 (fun x x1 x2 => ?_) (hm2.elim Or.inl (fun ⟨x, x1, x2⟩ => Or.inr ⟨x, by omega, x2⟩))
        rcases (show x < j ∨ x = j by omega) with q | q
        · exact hm1 x q x2
        · subst q
          have := (ib_bit1 _ (by omega)).mpr x2
          omega
      · have hf1 : ib (I 58 (j : Int)) u = true := (ib_bit1 _ (by omega)).mp (by omega)
        refine ar_iloadn (k := 19) rfl rfl ?_
        refine ar_iloadn (k := 20) rfl rfl ?_
        refine ar_callS (k := 21) (as := [_]) rfl lsP_165 c_J6_bitCount rfl (by decide) (by decide) tw_m0 (Nat.le_of_ble_eq_true rfl) (fun r21 h21 p21 => ?_)
        obtain ⟨rfl, rfl⟩ := p21
        refine tw_top (bcn_10 (by omega)) ?_
        refine ar_callS (k := 22) (as := [_, _]) rfl lsP_173 (c_J9_max (by omega) (by omega)) rfl (by decide) (by decide) tw_m0 (Nat.le_of_ble_eq_true rfl) (fun r22 h22 p22 => ?_)
        obtain ⟨rfl, rfl⟩ := p22
        refine ar_istoren (k := 23) (l2 := [(2, _), (3, _), (0, _), (1, _)]) rfl (by decide) rfl ?_
        refine ar_iinc (k := 24) (l2 := [(3, _), (2, _), (0, _), (1, _)]) rfl (by decide) rfl rfl ?_
        refine ar_goto (k := 25) rfl ?_
        refine ar_sub (l2 := [(3, vi ((j + 1 : Nat) : Int)), (2, vi (max m (rCnt (j : Int)))), (0, vr (some 40)), (1, vi (u : Int))]) (tw_s (tw_e 0 rfl (by omega)) (tw_s (tw_g 1 rfl) (tw_s (tw_g 2 rfl) (tw_s (tw_g 3 rfl) tw_s0)))) ?_
        refine ih (j + 1) _ (by omega) (by omega) (fun x x1 x2 => ?_) ?_
        · rcases (show x < j ∨ x = j by omega) with q | q
          · have := hm1 x q x2; omega
          · subst q; omega
        · rcases (show max m (rCnt (j : Int)) = m ∨ max m (rCnt (j : Int)) = rCnt (j : Int) by omega) with q | q
          · rw [q]
            exact hm2.elim Or.inl (fun ⟨x, x1, x2⟩ => Or.inr ⟨x, by omega, x2⟩)
          · exact Or.inr ⟨j, by omega, hf1, q.symm⟩
theorem c_P_manyIn {u : Nat} (hS : tSt (K, I, Q, n)) (hR : RInv s) (hV : RVal s) (hT : PT I s) (hW : PW I s) (h59 : I 59 0 = 0) (u1 : u < 24) : tw_M l G 2 0 0 mP_manyIn [vr (some 40), vi (u : Int)] (K, I, Q, n) (fun r h' => r = some (vi (rMost s (u : Int)).2.2) ∧ h' = (K, I, Q, n)) := by
  obtain ⟨h0, h1, h2, h3, h4, h5, h6, hp, hrw, ht, hr, hb, htp, hv⟩ := id hR
  obtain ⟨⟨hc0, hc5, hcp⟩, hpq, h570, h580, hst⟩ := id hT
  refine tw_intro okP_manyIn (Nat.le_of_ble_eq_true rfl) ?_
  refine ar_iconst (k := 0) rfl ?_
  refine ar_istoren (k := 1) (l2 := [(2, _), (0, _), (1, _)]) rfl (by decide) rfl ?_
  refine ar_iconst (k := 2) rfl ?_
  refine ar_istoren (k := 3) (l2 := [(3, _), (2, _), (0, _), (1, _)]) rfl (by decide) rfl ?_
  refine ar_sub (l2 := [(3, vi ((0 : Nat) : Int)), (2, vi 0), (0, vr (some 40)), (1, vi (u : Int))]) (tw_s (tw_e 0 rfl (by rfl)) (tw_s (tw_g 1 rfl) (tw_s (tw_g 2 rfl) (tw_s (tw_g 3 rfl) tw_s0)))) ?_
  exact l_P_manyIn hS hR hV hT hW h59 u1 (2 ^ (prs s).length) 0 0 (by omega) (by omega) (fun x x1 => absurd x1 (Nat.not_lt_zero _)) (Or.inl rfl)
theorem l_P_bestDay (hS : tSt (K, I, Q, n)) (hR : RInv s) (hV : RVal s) (hT : PT I s) (hW : PW I s) (h59 : I 59 0 = 0) : ∀ (k : Nat) (j : Nat) (a : Int) (J : Nat → Int → Int), j + k = 24 → bs I J → tw_AW l G mP_bestDay 3 0 0 n 0 ((fun r h' => r = some (vi (smV (fun u => (rMost s u).1) k j a)) ∧ ∃ L, h' = (K, L, Q, n) ∧ bs I L)) 4 [(2, vi (j : Int)), (1, vi a), (0, vr (some 40))] [] (K, J, Q, n) := by
  obtain ⟨h0, h1, h2, h3, h4, h5, h6, hp, hrw, ht, hr, hb, htp, hv⟩ := id hR
  obtain ⟨⟨hc0, hc5, hcp⟩, hpq, h570, h580, hst⟩ := id hT
  intro k
  induction k with
  | zero =>
    intro j a J hj hk
    refine ar_iloadn (k := 4) rfl rfl ?_
    refine ar_bipush (k := 5) rfl (by decide) ?_
    refine ar_icmp_ge (k := 6) rfl (by omega) (by omega) (fun c6 => ?_) (fun c6 => ?_)
    · refine ar_iloadn (k := 15) rfl rfl ?_
      refine ar_iret (k := 16) rfl rfl rfl (Nat.le_refl _) ?_
      exact ⟨rfl, J, rfl, hk⟩
    · exfalso; omega
  | succ k ih =>
    intro j a J hj hk
    refine ar_iloadn (k := 4) rfl rfl ?_
    refine ar_bipush (k := 5) rfl (by decide) ?_
    refine ar_icmp_ge (k := 6) rfl (by omega) (by omega) (fun c6 => ?_) (fun c6 => ?_)
    · exfalso; omega
    · refine ar_iloadn (k := 7) rfl rfl ?_
      refine ar_aloadn (k := 8) rfl rfl ?_
      refine ar_iloadn (k := 9) rfl rfl ?_
      refine ar_callV (k := 10) (as := [_]) rfl lvP_179 (hS.k (by decide)) rfl (c_P_mostIn (u := j) hS hR hV (hk.T hT) (hk.W h1.2 hW) (hk.2.trans h59) (by omega)) rfl (by decide) (by decide) tw_m0 (Nat.le_of_ble_eq_true rfl) (fun r10 h10 p10 => ?_)
      obtain ⟨rfl, I10, rfl, hk10⟩ := p10
      refine ar_iadd (k := 11) rfl ?_
      refine ar_istoren (k := 12) (l2 := [(1, _), (2, _), (0, _)]) rfl (by decide) rfl ?_
      refine ar_iinc (k := 13) (l2 := [(2, _), (1, _), (0, _)]) rfl (by decide) rfl rfl ?_
      refine ar_goto (k := 14) rfl ?_
      refine ar_sub (l2 := [(2, vi ((j + 1 : Nat) : Int)), (1, vi (a + (rMost s (j : Int)).1)), (0, vr (some 40))]) (tw_s (tw_e 0 rfl (by omega)) (tw_s (tw_g 1 rfl) (tw_s (tw_g 2 rfl) tw_s0))) ?_
      exact ih (j + 1) _ I10 (by omega) (hk.trans hk10)
theorem c_P_bestDay (hS : tSt (K, I, Q, n)) (hR : RInv s) (hV : RVal s) (hT : PT I s) (hW : PW I s) (h59 : I 59 0 = 0) : tw_M l G 3 0 0 mP_bestDay [vr (some 40)] (K, I, Q, n) (fun r h' => r = some (vi (rBestDay s)) ∧ ∃ J, h' = (K, J, Q, n) ∧ bs I J) := by
  obtain ⟨h0, h1, h2, h3, h4, h5, h6, hp, hrw, ht, hr, hb, htp, hv⟩ := id hR
  obtain ⟨⟨hc0, hc5, hcp⟩, hpq, h570, h580, hst⟩ := id hT
  refine tw_intro okP_bestDay (Nat.le_of_ble_eq_true rfl) ?_
  refine ar_iconst (k := 0) rfl ?_
  refine ar_istoren (k := 1) (l2 := [(1, _), (0, _)]) rfl (by decide) rfl ?_
  refine ar_iconst (k := 2) rfl ?_
  refine ar_istoren (k := 3) (l2 := [(2, _), (1, _), (0, _)]) rfl (by decide) rfl ?_
  refine ar_sub (l2 := [(2, vi ((0 : Nat) : Int)), (1, vi 0), (0, vr (some 40))]) (tw_s (tw_e 0 rfl (by rfl)) (tw_s (tw_g 1 rfl) (tw_s (tw_g 2 rfl) tw_s0))) ?_
  exact l_P_bestDay hS hR hV hT hW h59 24 0 0 I (by omega) bs.rf
end CS
