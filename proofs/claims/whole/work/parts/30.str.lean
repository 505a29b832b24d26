def sB (j : Nat) (i : Int) : Int := ((sByt.getD j []).getD i.toNat 0).toInt
def sN (j : Nat) : Nat := sLen.getD j 0
theorem tr_ch : ∀ {x : Int}, 0 ≤ x ∧ x ≤ 255 → narrow .char (.int (Int32.ofInt x)) = .int (Int32.ofInt x) := by
  intro x hx
  obtain ⟨n, rfl⟩ : ∃ n : Nat, x = n := ⟨x.toNat, by omega⟩
  have hn : n < 256 := by omega
  exact (by decide +kernel : ∀ n : Nat, n < 256 → narrow .char (.int (Int32.ofInt (n : Int))) = .int (Int32.ofInt (n : Int))) n hn
section SR
variable {l : Launch} {G : tG} {M : tM} {d mc ms n0 c2 : Nat} {P : Option tV → tH → Prop} {ls : List (Nat × tV)} {st : List tV} {h : tH} {k pc nx tg : Nat}
theorem tw_vS {j : Nat} (hj : j < 6) : tw_v G (vr (some (1000000 + j))) = .ref (G.2.2.2.1 j) := by
  show Value.ref (tw_ad G (1000000 + j)) = _
  rw [tw_ad, if_neg (by omega), if_pos (by omega), Nat.add_sub_cancel_left]
theorem tw_vV {j : Nat} (hj : j < 6) : tw_v G (vr (some (2000000 + j))) = .ref (G.2.2.2.2.1 j) := by
  show Value.ref (tw_ad G (2000000 + j)) = _
  rw [tw_ad, if_neg (by omega), if_neg (by omega), if_pos (by omega), Nat.add_sub_cancel_left]
theorem ar_sgetV {i j : Nat} (hd : M.2.2.2.2[k]? = some (pc, .getfield i, nx, tg)) (hw : Cond.fieldLink M.1.cls i "java/lang/String" "value" "[B" ∈ tw_tbl) (hj : j < 6) (kk : tw_AW l G M d mc ms n0 c2 P nx ls (vr (some (2000000 + j)) :: st) h) : tw_AW l G M d mc ms n0 c2 P pc ls (vr (some (1000000 + j)) :: st) h := by
  intro p e s m args below meth c H locs ls' X hl hP hS h0 hn
  obtain ⟨dd, e1⟩ := tw_dec X hd rfl
  subst e1
  have K := kk p e s m args below meth c H locs ls' X hl hP hS h0 hn
  rw [List.map_cons, tw_vV hj] at K
  rw [List.map_cons, tw_vS hj]
  exact vk_getf X.1 X.2.1 (X.2.2.2.2.2.2.1.2.1.1.1 j hj).2.2.1 hS X.2.2.2.2.1 (X.2.2.2.2.2.1 _ (List.mem_cons_of_mem _ hw)) (fun x hx => hx) dd K
theorem ar_sgetC {i j : Nat} (hd : M.2.2.2.2[k]? = some (pc, .getfield i, nx, tg)) (hw : Cond.fieldLink M.1.cls i "java/lang/String" "coder" "B" ∈ tw_tbl) (hj : j < 6) (kk : tw_AW l G M d mc ms n0 c2 P nx ls (vi 0 :: st) h) : tw_AW l G M d mc ms n0 c2 P pc ls (vr (some (1000000 + j)) :: st) h := by
  intro p e s m args below meth c H locs ls' X hl hP hS h0 hn
  obtain ⟨dd, e1⟩ := tw_dec X hd rfl
  subst e1
  have K := kk p e s m args below meth c H locs ls' X hl hP hS h0 hn
  rw [List.map_cons, tw_vS hj]
  exact vk_getf X.1 X.2.1 (X.2.2.2.2.2.2.1.2.1.1.1 j hj).2.1 hS X.2.2.2.2.1 (X.2.2.2.2.2.1 _ (List.mem_cons_of_mem _ hw)) (fun x hx => hx) dd K
theorem sN_all : ∀ j, j < 6 → sN j < 100 := by decide
theorem ar_sld {j : Nat} {i : Int} (hd : M.2.2.2.2[k]? = some (pc, .baload, nx, tg)) (hj : j < 6) (h1 : 0 ≤ i) (h2 : i < sN j) (kk : tw_AW l G M d mc ms n0 c2 P nx ls (vi (sB j i) :: st) h) : tw_AW l G M d mc ms n0 c2 P pc ls (vi i :: vr (some (2000000 + j)) :: st) h := by
  intro p e s m args below meth c H locs ls' X hl hP hS h0 hn
  obtain ⟨dd, e1⟩ := tw_dec X hd rfl
  subst e1
  have K := kk p e s m args below meth c H locs ls' X hl hP hS h0 hn
  have hl6 := sN_all j hj
  obtain ⟨x1, x2, x3⟩ := tw_ix (n := sN j) h1 h2 (by omega)
  rw [List.map_cons, List.map_cons, tw_vV hj]
  refine va_tb X.1 X.2.1 (X.2.2.2.2.2.2.1.2.1.1.1 j hj).2.2.2 hS x2 ?_ dd K
  rw [x1]
  show Value.int _ = Value.int (Int32.ofInt (sB j i))
  rw [sB, Int32.ofInt_toInt]
theorem ar_slen {j : Nat} (hd : M.2.2.2.2[k]? = some (pc, .arraylength, nx, tg)) (hj : j < 6) (kk : tw_AW l G M d mc ms n0 c2 P nx ls (vi (sN j) :: st) h) : tw_AW l G M d mc ms n0 c2 P pc ls (vr (some (2000000 + j)) :: st) h := by
  intro p e s m args below meth c H locs ls' X hl hP hS h0 hn
  obtain ⟨dd, e1⟩ := tw_dec X hd rfl
  subst e1
  have K := kk p e s m args below meth c H locs ls' X hl hP hS h0 hn
  rw [List.map_cons, tw_vV hj]
  exact va_tlen X.1 X.2.1 (X.2.2.2.2.2.2.1.2.1.1.1 j hj).2.2.2 hS (v := Int32.ofInt ((sN j : Nat) : Int)) (Int32.ofInt_eq_ofNat).symm dd K
theorem ar_gsC {i : Nat} (hd : M.2.2.2.2[k]? = some (pc, .getstatic i, nx, tg)) (hw : Cond.fieldLink M.1.cls i "java/lang/String" "COMPACT_STRINGS" "Z" ∈ tw_tbl) (kk : tw_AW l G M d mc ms n0 c2 P nx ls (vi 1 :: st) h) : tw_AW l G M d mc ms n0 c2 P pc ls st h := by
  intro p e s m args below meth c H locs ls' X hl hP hS h0 hn
  obtain ⟨dd, e1⟩ := tw_dec X hd rfl
  subst e1
  have K := kk p e s m args below meth c H locs ls' X hl hP hS h0 hn
  exact va_gets X.1 X.2.1 X.2.2.2.2.2.2.1.2.1.2.2.1 hS X.2.2.2.2.1 (X.2.2.2.2.2.1 _ (List.mem_cons_of_mem _ hw)) (fun x hx => hx) dd K
theorem ar_gsF {i : Nat} (hd : M.2.2.2.2[k]? = some (pc, .getstatic i, nx, tg)) (hw : Cond.fieldLink M.1.cls i "jdk/internal/util/Preconditions" "SIOOBE_FORMATTER" "Ljava/util/function/BiFunction;" ∈ tw_tbl) (kk : ∀ r, tw_AW l G M d mc ms n0 c2 P nx ls (vr r :: st) h) : tw_AW l G M d mc ms n0 c2 P pc ls st h := by
  intro p e s m args below meth c H locs ls' X hl hP hS h0 hn
  obtain ⟨dd, e1⟩ := tw_dec X hd rfl
  subst e1
  obtain ⟨r, hr⟩ := X.2.2.2.2.2.2.1.2.1.2.2.2
  have K := kk (r.map (fun q => 3000000 + q)) p e s m args below meth c H locs ls' X hl hP hS h0 hn
  have e2 : tw_v G (vr (r.map (fun q => 3000000 + q))) = va_rf r := by
    cases r with
    | none => rfl
    | some q =>
      show Value.ref (tw_ad G (3000000 + q)) = _
      rw [tw_ad, if_neg (by omega), if_neg (by omega), if_neg (by omega), Nat.add_sub_cancel_left]
      rfl
  rw [List.map_cons, e2] at K
  exact va_gets X.1 X.2.1 hr hS X.2.2.2.2.1 (X.2.2.2.2.2.1 _ (List.mem_cons_of_mem _ hw)) (fun x hx => hx) dd K
theorem ar_bret {x : Int} (hd : M.2.2.2.2[k]? = some (pc, .ireturn, nx, tg)) (hr : M.2.2.2.1 = some .byte) (hx : -128 ≤ x ∧ x ≤ 127) (hc : h.2.2.2 = n0 + mc) (hs : c2 ≤ ms) (hp : P (some (vi x)) h) : tw_AW l G M d mc ms n0 c2 P pc ls [vi x] h := by
  intro p e s m args below meth c H locs ls' X hl hP hS h0 hn
  obtain ⟨dd, e1⟩ := tw_dec X hd rfl
  subst e1
  have ec : h.2.2.2 - n0 = mc := by omega
  rw [ec]
  refine W.widen (k := mc) (n := ms) (Nat.le_refl _) hs ?_
  exact W.zret X.1 X.2.1 (X.2.2.1.trans hr) (congrArg Value.int (tr_b hx)) (tw_end X hP hS hc (some (vi x)) hp) hS.2.2 dd X.2.2.2.2.2.2.2.1
theorem ar_cret {x : Int} (hd : M.2.2.2.2[k]? = some (pc, .ireturn, nx, tg)) (hr : M.2.2.2.1 = some .char) (hx : 0 ≤ x ∧ x ≤ 255) (hc : h.2.2.2 = n0 + mc) (hs : c2 ≤ ms) (hp : P (some (vi x)) h) : tw_AW l G M d mc ms n0 c2 P pc ls [vi x] h := by
  intro p e s m args below meth c H locs ls' X hl hP hS h0 hn
  obtain ⟨dd, e1⟩ := tw_dec X hd rfl
  subst e1
  have ec : h.2.2.2 - n0 = mc := by omega
  rw [ec]
  refine W.widen (k := mc) (n := ms) (Nat.le_refl _) hs ?_
  exact W.zret X.1 X.2.1 (X.2.2.1.trans hr) (tr_ch hx) (tw_end X hP hS hc (some (vi x)) hp) hS.2.2 dd X.2.2.2.2.2.2.2.1
theorem br_callVS {i mc' ms' d' n' j : Nat} {M' : tM} {as : List tV} {r0 : Option tV} {h1 : tH} (hd : M.2.2.2.2[k]? = some (pc, .invokevirtual i, nx, tg)) (hw : tw_LV M.1.cls i M' "java/lang/String" n') (hj : j < 6) (hM : tw_F l G d' mc' ms' M' (vr (some (1000000 + j)) :: as) h r0 h1) (hn' : as.length = n') (hdd : d' + 1 ≤ d) (hL : M'.2.2.1 ≤ 45) (hm : h.2.2.2 - n0 + mc' ≤ mc ∧ c2 + ms' ≤ ms) (hst : (st.map tw_w).sum ≤ 8) (kk : tw_AW l G M d mc ms n0 (c2 + ms') P nx ls (r0.toList ++ st) h1) : tw_AW l G M d mc ms n0 c2 P pc ls (as.reverse ++ vr (some (1000000 + j)) :: st) h := by
  intro p e s m args below meth c H locs ls' X hl hP hS h0 hn
  obtain ⟨dd, e1⟩ := tw_dec X hd rfl
  subst e1
  have hB : h.2.2.2 + mc' < 1000000 := by have := X.2.2.2.2.2.2.2.2.2.1.1; omega
  have hws : ∀ w ∈ tw_wds M, w.before args s = true := X.2.2.2.2.2.1
  refine tw_run (mc' := mc') (ms' := ms') (P' := tw_fn r0 h1) (av := ((vr (some (1000000 + j)) :: as).map (tw_v G)).toArray) X hl hP hS h0 hn hB (fun hz => ?_) (fun r h' hp => by obtain ⟨rfl, rfl⟩ := hp; exact kk)
  obtain ⟨⟨w1, w2, w3, w4, w5⟩, hC, w6⟩ := hw
  have hg : GoodIn (tw_wds M) (wsV M.1.cls i "java/lang/String" M'.1 (tw_wds M')) := tw_goodIn (by
    intro w hw
    rcases List.mem_append.mp hw with hw | hw
    · simp only [List.mem_cons, List.not_mem_nil, or_false] at hw
      rcases hw with rfl | rfl | rfl | rfl <;> assumption
    · exact tw_wds_in w5 w hw)
  have er := tw_vS (G := G) hj
  exact va_runV (b := G.2.2.2.1 j) (As := as.map (tw_v G)) ⟨X.1, X.2.1, X.2.2.2.1, X.2.2.2.2.1, hws⟩ hM (cwV n' hws hg rfl rfl rfl ⟨hC, w6⟩ ⟨hdd, by show 8 + (M'.2.2.1 + 11) + 64 * d' ≤ 64 * d; omega⟩) ⟨tw_blind, vk_recv X.2.2.2.2.2.2.1.2.1.1 hj hS, fun U hU hW => by rw [← er]; exact tw_pre (av := vr (some (1000000 + j)) :: as) X h0 hP hS hB hz U hU hW⟩ rfl (by rw [List.length_map]; exact hn') hl.1 (by simp only [List.map_append, List.map_reverse, List.map_cons, er]) (tw_lvroom hst) dd ⟨hm.1, hm.2⟩
end SR
def mJ0_length : tM := (⟨"java/lang/String", "length", "()I"⟩, prog_18_method_54_code, 1, (some .int), [(0, .aload_n 0, 1, 0), (1, .getfield 9, 4, 0), (4, .arraylength, 5, 0), (5, .aload_n 0, 6, 0), (6, .invokevirtual 335, 9, 0), (9, .ishr, 10, 0), (10, .ireturn, 11, 0)])
theorem okJ0_length : tw_ok mJ0_length := ⟨by decide, by decide +kernel⟩
def mJ0_coder : tM := (⟨"java/lang/String", "coder", "()B"⟩, prog_18_method_152_code, 1, (some .byte), [(0, .getstatic 38, 3, 0), (3, .ifCond .eq 10, 6, 13), (6, .aload_n 0, 7, 0), (7, .getfield 15, 10, 0), (10, .goto 4, 13, 14), (13, .iconst 1, 14, 0), (14, .ireturn, 15, 0)])
theorem okJ0_coder : tw_ok mJ0_coder := ⟨by decide, by decide +kernel⟩
def mJ0_charAt : tM := (⟨"java/lang/String", "charAt", "(I)C"⟩, prog_18_method_56_code, 2, (some .char), [(0, .aload_n 0, 1, 0), (1, .invokevirtual 492, 4, 0), (4, .ifCond .eq 12, 7, 16), (7, .aload_n 0, 8, 0), (8, .getfield 9, 11, 0), (11, .iload_n 1, 12, 0), (12, .invokestatic 495, 15, 0), (15, .ireturn, 16, 0), (16, .aload_n 0, 17, 0), (17, .getfield 9, 20, 0), (20, .iload_n 1, 21, 0), (21, .invokestatic 498, 24, 0), (24, .ireturn, 25, 0)])
theorem okJ0_charAt : tw_ok mJ0_charAt := ⟨by decide, by decide +kernel⟩
def mJ0_isLatin1 : tM := (⟨"java/lang/String", "isLatin1", "()Z"⟩, prog_18_method_154_code, 1, (some .boolean), [(0, .getstatic 38, 3, 0), (3, .ifCond .eq 14, 6, 17), (6, .aload_n 0, 7, 0), (7, .getfield 15, 10, 0), (10, .ifCond .ne 7, 13, 17), (13, .iconst 1, 14, 0), (14, .goto 4, 17, 18), (17, .iconst 0, 18, 0), (18, .ireturn, 19, 0)])
theorem okJ0_isLatin1 : tw_ok mJ0_isLatin1 := ⟨by decide, by decide +kernel⟩
def mJ1_charAt : tM := (⟨"java/lang/StringLatin1", "charAt", "([BI)C"⟩, prog_19_method_2_code, 2, (some .char), [(0, .iload_n 1, 1, 0), (1, .aload_n 0, 2, 0), (2, .arraylength, 3, 0), (3, .invokestatic 9, 6, 0), (6, .aload_n 0, 7, 0), (7, .iload_n 1, 8, 0), (8, .baload, 9, 0), (9, .sipush 255, 12, 0), (12, .iand, 13, 0), (13, .i2c, 14, 0), (14, .ireturn, 15, 0)])
theorem okJ1_charAt : tw_ok mJ1_charAt := ⟨by decide, by decide +kernel⟩
def mJ0_checkIndex : tM := (⟨"java/lang/String", "checkIndex", "(II)V"⟩, prog_18_method_155_code, 2, none, [(0, .iload_n 0, 1, 0), (1, .iload_n 1, 2, 0), (2, .getstatic 1053, 5, 0), (5, .invokestatic 1059, 8, 0), (8, .pop, 9, 0), (9, .return_, 10, 0)])
theorem okJ0_checkIndex : tw_ok mJ0_checkIndex := ⟨by decide, by decide +kernel⟩
def mJ3_checkIndex : tM := (⟨"jdk/internal/util/Preconditions", "checkIndex", "(IILjava/util/function/BiFunction;)I"⟩, prog_23_method_11_code, 3, (some .int), [(0, .iload_n 0, 1, 0), (1, .ifCond .lt 8, 4, 9), (4, .iload_n 0, 5, 0), (5, .iload_n 1, 6, 0), (6, .if_icmp .lt 10, 9, 16), (9, .aload_n 2, 10, 0), (10, .iload_n 0, 11, 0), (11, .iload_n 1, 12, 0), (12, .invokestatic 95, 15, 0), (15, .athrow, 16, 0), (16, .iload_n 0, 17, 0), (17, .ireturn, 18, 0)])
theorem okJ3_checkIndex : tw_ok mJ3_checkIndex := ⟨by decide, by decide +kernel⟩
theorem jf_9 : Cond.fieldLink "java/lang/String" 9 "java/lang/String" "value" "[B" ∈ tw_tbl := tw_in 1582 (by decide +kernel) rfl
theorem jf_15 : Cond.fieldLink "java/lang/String" 15 "java/lang/String" "coder" "B" ∈ tw_tbl := tw_in 1583 (by decide +kernel) rfl
theorem jf_38 : Cond.fieldLink "java/lang/String" 38 "java/lang/String" "COMPACT_STRINGS" "Z" ∈ tw_tbl := tw_in 400 (by decide +kernel) rfl
theorem jf_1053 : Cond.fieldLink "java/lang/String" 1053 "jdk/internal/util/Preconditions" "SIOOBE_FORMATTER" "Ljava/util/function/BiFunction;" ∈ tw_tbl := tw_in 416 (by decide +kernel) rfl
theorem lvJ0_335 : tw_LV "java/lang/String" 335 mJ0_coder "java/lang/String" 0 := ⟨⟨tw_in 396 (by decide +kernel) rfl, tw_in 397 (by decide +kernel) rfl, tw_in 398 (by decide +kernel) rfl, tw_in 79 (by decide +kernel) rfl, tw_in 399 (by decide +kernel) rfl⟩, rfl, ⟨by decide, by decide, by decide⟩⟩
theorem lvJ0_492 : tw_LV "java/lang/String" 492 mJ0_isLatin1 "java/lang/String" 0 := ⟨⟨tw_in 406 (by decide +kernel) rfl, tw_in 407 (by decide +kernel) rfl, tw_in 408 (by decide +kernel) rfl, tw_in 79 (by decide +kernel) rfl, tw_in 409 (by decide +kernel) rfl⟩, rfl, ⟨by decide, by decide, by decide⟩⟩
theorem lsJ0_495 : tw_LS "java/lang/String" 495 mJ1_charAt 2 := ⟨⟨tw_in 410 (by decide +kernel) rfl, tw_in 411 (by decide +kernel) rfl, tw_in 80 (by decide +kernel) rfl, tw_in 412 (by decide +kernel) rfl⟩, ⟨by decide, by decide, by decide⟩⟩
theorem lsJ1_9 : tw_LS "java/lang/StringLatin1" 9 mJ0_checkIndex 2 := ⟨⟨tw_in 413 (by decide +kernel) rfl, tw_in 414 (by decide +kernel) rfl, tw_in 79 (by decide +kernel) rfl, tw_in 415 (by decide +kernel) rfl⟩, ⟨by decide, by decide, by decide⟩⟩
theorem lsJ0_1059 : tw_LS "java/lang/String" 1059 mJ3_checkIndex 3 := ⟨⟨tw_in 418 (by decide +kernel) rfl, tw_in 419 (by decide +kernel) rfl, tw_in 81 (by decide +kernel) rfl, tw_in 420 (by decide +kernel) rfl⟩, ⟨by decide, by decide, by decide⟩⟩
theorem lvR_56 : tw_LV "TwinToolsModel" 56 mJ0_length "java/lang/String" 0 := ⟨⟨tw_in 1267 (by decide +kernel) rfl, tw_in 393 (by decide +kernel) rfl, tw_in 394 (by decide +kernel) rfl, tw_in 79 (by decide +kernel) rfl, tw_in 395 (by decide +kernel) rfl⟩, rfl, ⟨by decide, by decide, by decide⟩⟩
theorem lvR_61 : tw_LV "TwinToolsModel" 61 mJ0_charAt "java/lang/String" 1 := ⟨⟨tw_in 1268 (by decide +kernel) rfl, tw_in 403 (by decide +kernel) rfl, tw_in 404 (by decide +kernel) rfl, tw_in 79 (by decide +kernel) rfl, tw_in 405 (by decide +kernel) rfl⟩, rfl, ⟨by decide, by decide, by decide⟩⟩
section SC
variable {l : Launch} {G : tG} {h : tH}
theorem sB_all : ∀ j, j < 6 → ∀ i : Nat, i < sN j → 0 ≤ sB j (i : Int) ∧ sB j (i : Int) ≤ 127 ∧ bAnd (sB j (i : Int)) 255 = sB j (i : Int) := by decide +kernel
theorem c_J0_coder {j : Nat} (hj : j < 6) : tw_F l G 1 0 0 mJ0_coder [vr (some (1000000 + j))] h (some (vi 0)) h := by
  refine tw_intro okJ0_coder (Nat.le_of_ble_eq_true rfl) ?_
  refine ar_gsC (k := 0) rfl jf_38 ?_
  refine ar_if_eq (k := 1) rfl (by omega) (fun c => absurd c (by decide)) (fun _ => ?_)
  refine ar_aloadn (k := 2) rfl rfl ?_
  refine ar_sgetC (k := 3) rfl jf_15 hj ?_
  refine ar_goto (k := 4) rfl ?_
  refine ar_bret (k := 6) rfl rfl (by omega) rfl (Nat.le_refl _) ?_
  exact ⟨rfl, rfl⟩
theorem c_J0_length {j : Nat} (hj : j < 6) : tw_F l G 2 0 0 mJ0_length [vr (some (1000000 + j))] h (some (vi (sN j))) h := by
  refine tw_intro okJ0_length (Nat.le_of_ble_eq_true rfl) ?_
  refine ar_aloadn (k := 0) rfl rfl ?_
  refine ar_sgetV (k := 1) rfl jf_9 hj ?_
  refine ar_slen (k := 2) rfl hj ?_
  refine ar_aloadn (k := 3) rfl rfl ?_
  refine br_callVS (k := 4) (as := []) rfl lvJ0_335 hj (c_J0_coder hj) rfl (by decide) (by decide) tw_m0 (Nat.le_of_ble_eq_true rfl) ?_
  refine ar_ishr (k := 5) rfl ?_
  refine tw_top (y := ((sN j : Nat) : Int)) ((by decide +kernel : ∀ j, j < 6 → bShr ((sN j : Nat) : Int) 0 = ((sN j : Nat) : Int)) j hj) ?_
  refine ar_iret (k := 6) rfl rfl rfl (Nat.le_refl _) ?_
  exact ⟨rfl, rfl⟩
theorem c_J0_isLatin1 {j : Nat} (hj : j < 6) : tw_F l G 1 0 0 mJ0_isLatin1 [vr (some (1000000 + j))] h (some (vi 1)) h := by
  refine tw_intro okJ0_isLatin1 (Nat.le_of_ble_eq_true rfl) ?_
  refine ar_gsC (k := 0) rfl jf_38 ?_
  refine ar_if_eq (k := 1) rfl (by omega) (fun c => absurd c (by decide)) (fun _ => ?_)
  refine ar_aloadn (k := 2) rfl rfl ?_
  refine ar_sgetC (k := 3) rfl jf_15 hj ?_
  refine ar_if_ne (k := 4) rfl (by omega) (fun c => absurd rfl c) (fun _ => ?_)
  refine ar_iconst (k := 5) rfl ?_
  refine ar_goto (k := 6) rfl ?_
  refine ar_zret (k := 8) rfl rfl (by omega) rfl (Nat.le_refl _) ?_
  exact ⟨rfl, rfl⟩
theorem c_J3_checkIndex {i n : Int} {r : Option Nat} (h1 : 0 ≤ i) (h2 : i < n) (hn : n < 1000000) : tw_F l G 1 0 0 mJ3_checkIndex [vi i, vi n, vr r] h (some (vi i)) h := by
  refine tw_intro okJ3_checkIndex (Nat.le_of_ble_eq_true rfl) ?_
  refine ar_iloadn (k := 0) rfl rfl ?_
  refine ar_if_lt (k := 1) rfl (by omega) (fun c => absurd c (by omega)) (fun _ => ?_)
  refine ar_iloadn (k := 2) rfl rfl ?_
  refine ar_iloadn (k := 3) rfl rfl ?_
  refine ar_icmp_lt (k := 4) rfl (by omega) (by omega) (fun _ => ?_) (fun c => absurd h2 c)
  refine ar_iloadn (k := 10) rfl rfl ?_
  refine ar_iret (k := 11) rfl rfl rfl (Nat.le_refl _) ?_
  exact ⟨rfl, rfl⟩
theorem c_J0_checkIndex {i n : Int} (h1 : 0 ≤ i) (h2 : i < n) (hn : n < 1000000) : tw_F l G 2 0 0 mJ0_checkIndex [vi i, vi n] h none h := by
  refine tw_intro okJ0_checkIndex (Nat.le_of_ble_eq_true rfl) ?_
  refine ar_iloadn (k := 0) rfl rfl ?_
  refine ar_iloadn (k := 1) rfl rfl ?_
  refine ar_gsF (k := 2) rfl jf_1053 (fun r => ?_)
  refine br_callS (k := 3) (as := [_, _, _]) rfl lsJ0_1059 (c_J3_checkIndex h1 h2 hn) rfl (by decide) (by decide) tw_m0 (Nat.le_of_ble_eq_true rfl) ?_
  refine ar_pop (k := 4) rfl rfl ?_
  refine ar_ret (k := 5) rfl rfl rfl (Nat.le_refl _) ?_
  exact ⟨rfl, rfl⟩
theorem c_J1_charAt {j : Nat} {i : Int} (hj : j < 6) (h1 : 0 ≤ i) (h2 : i < sN j) : tw_F l G 3 0 0 mJ1_charAt [vr (some (2000000 + j)), vi i] h (some (vi (sB j i))) h := by
  have hb := sB_all j hj i.toNat (by omega)
  rw [show ((i.toNat : Nat) : Int) = i by omega] at hb
  have hl6 := sN_all j hj
  refine tw_intro okJ1_charAt (Nat.le_of_ble_eq_true rfl) ?_
  refine ar_iloadn (k := 0) rfl rfl ?_
  refine ar_aloadn (k := 1) rfl rfl ?_
  refine ar_slen (k := 2) rfl hj ?_
  refine br_callS (k := 3) (as := [_, _]) rfl lsJ1_9 (c_J0_checkIndex h1 h2 (by omega)) rfl (by decide) (by decide) tw_m0 (Nat.le_of_ble_eq_true rfl) ?_
  refine ar_aloadn (k := 4) rfl rfl ?_
  refine ar_iloadn (k := 5) rfl rfl ?_
  refine ar_sld (k := 6) rfl hj h1 h2 ?_
  refine ar_sipush (k := 7) rfl (by decide) ?_
  refine ar_iand (k := 8) rfl ?_
  refine tw_top (y := sB j i) hb.2.2 ?_
  refine ar_i2c (k := 9) rfl (by omega) ?_
  refine ar_cret (k := 10) rfl rfl (by omega) rfl (Nat.le_refl _) ?_
  exact ⟨rfl, rfl⟩
theorem c_J0_charAt {j : Nat} {i : Int} (hj : j < 6) (h1 : 0 ≤ i) (h2 : i < sN j) : tw_F l G 4 0 0 mJ0_charAt [vr (some (1000000 + j)), vi i] h (some (vi (sB j i))) h := by
  have hb := sB_all j hj i.toNat (by omega)
  rw [show ((i.toNat : Nat) : Int) = i by omega] at hb
  refine tw_intro okJ0_charAt (Nat.le_of_ble_eq_true rfl) ?_
  refine ar_aloadn (k := 0) rfl rfl ?_
  refine br_callVS (k := 1) (as := []) rfl lvJ0_492 hj (c_J0_isLatin1 hj) rfl (by decide) (by decide) tw_m0 (Nat.le_of_ble_eq_true rfl) ?_
  refine ar_if_eq (k := 2) rfl (by omega) (fun c => absurd c (by decide)) (fun _ => ?_)
  refine ar_aloadn (k := 3) rfl rfl ?_
  refine ar_sgetV (k := 4) rfl jf_9 hj ?_
  refine ar_iloadn (k := 5) rfl rfl ?_
  refine br_callS (k := 6) (as := [_, _]) rfl lsJ0_495 (c_J1_charAt hj h1 h2) rfl (by decide) (by decide) tw_m0 (Nat.le_of_ble_eq_true rfl) ?_
  refine ar_cret (k := 7) rfl rfl (by omega) rfl (Nat.le_refl _) ?_
  exact ⟨rfl, rfl⟩
end SC
