/-- the law's run: what holds throughout -/
def zX (G : tG) (p : Program) (s : State) (m : MethodId) (meth : Method) (c : Code) (b L : Nat) (xs : Nat → Int32) : Prop := lw_At p s m meth c b L xs ∧ tw_U G s ∧ s.heap.size = G.2.2.1 ∧ L ≤ 320
def zW (l : Launch) (G : tG) (p : Program) (e : Env) (s : State) (m : MethodId) (below : List Frame) (meth : Method) (c : Code) (b : Nat) (c2 pc : Nat) (ls : List (Nat × tV)) (st : List tV) (h : tH) : Prop :=
  ∀ (H : Heap) (locs : List Loc) (ls' : Array Slot), lv_has ls' 4 (tw_L G ls) → va_P G.1 tCl (tw_ws G h) H → va_S (tw_A G) s.heap H locs → (h.2.2.2 < 1000000 ∧ tw_fg G h.2.2.2) →
    W p l e room_1 s m #[Value.ref b] below meth c H locs h.2.2.2 c2 (lw_Z below #[Value.ref b] s) (F0 m pc ls' (st.map (tw_v G)))
section ZW
variable {l : Launch} {G : tG} {p : Program} {e : Env} {s : State} {m : MethodId} {below : List Frame} {meth : Method} {c : Code} {b L : Nat} {xs : Nat → Int32} {c2 pc nx : Nat} {ls : List (Nat × tV)} {st : List tV} {h : tH}
theorem zX.ws (Z : zX G p s m meth c b L xs) : ∀ w ∈ tw_tbl, w.before #[Value.ref b] s = true := fun w h => Z.1.2.2.2.2.2.1 w (List.mem_filter.mp h).1
theorem zX.own (Z : zX G p s m meth c b L xs) : s.vm.findClass "TwinToolsLaw" = some m.cls := Z.1.2.2.2.2.1
theorem az_iconst {n : Int} (Z : zX G p s m meth c b L xs) (dd : decode code pc = .ok (.iconst n, 1)) (hx : nx = pc + 1) (kk : zW l G p e s m below meth c b c2 nx ls (vi n :: st) h) : zW l G p e s m below meth c b c2 pc ls st h := by
  subst hx
  intro H locs ls' hl hP hS hn
  exact lv_iconst Z.1.1 Z.1.2.1 dd rfl (kk H locs ls' hl hP hS hn)
theorem az_aload {i : Fin 4} {a : Nat} (Z : zX G p s m meth c b L xs) (dd : decode code pc = .ok (.aload_n i, 1)) (hx : nx = pc + 1) (hi : ls.lookup (i : Nat) = some (vr (some a))) (kk : zW l G p e s m below meth c b c2 nx ls (vr (some a) :: st) h) : zW l G p e s m below meth c b c2 pc ls st h := by
  subst hx
  intro H locs ls' hl hP hS hn
  exact lv_aload_n Z.1.1 Z.1.2.1 dd rfl (tw_lk hl hi) (kk H locs ls' hl hP hS hn)
theorem az_iload {i : Fin 4} {z : Int} (Z : zX G p s m meth c b L xs) (dd : decode code pc = .ok (.iload_n i, 1)) (hx : nx = pc + 1) (hi : ls.lookup (i : Nat) = some (vi z)) (kk : zW l G p e s m below meth c b c2 nx ls (vi z :: st) h) : zW l G p e s m below meth c b c2 pc ls st h := by
  subst hx
  intro H locs ls' hl hP hS hn
  exact lv_iload_n Z.1.1 Z.1.2.1 dd rfl (tw_lk hl hi) (kk H locs ls' hl hP hS hn)
theorem az_iadd {x y : Int} (Z : zX G p s m meth c b L xs) (dd : decode code pc = .ok (.iadd, 1)) (hx : nx = pc + 1) (kk : zW l G p e s m below meth c b c2 nx ls (vi (x + y) :: st) h) : zW l G p e s m below meth c b c2 pc ls (vi y :: vi x :: st) h := by
  subst hx
  intro H locs ls' hl hP hS hn
  refine lv_iadd Z.1.1 Z.1.2.1 dd ?_
  rw [← Int32.ofInt_add]
  exact kk H locs ls' hl hP hS hn
theorem az_isub {x y : Int} (Z : zX G p s m meth c b L xs) (dd : decode code pc = .ok (.isub, 1)) (hx : nx = pc + 1) (kk : zW l G p e s m below meth c b c2 nx ls (vi (x - y) :: st) h) : zW l G p e s m below meth c b c2 pc ls (vi y :: vi x :: st) h := by
  subst hx
  intro H locs ls' hl hP hS hn
  refine lv_isub Z.1.1 Z.1.2.1 dd ?_
  rw [← Int32.ofInt_sub]
  exact kk H locs ls' hl hP hS hn
theorem az_iand {x y : Int} (Z : zX G p s m meth c b L xs) (dd : decode code pc = .ok (.iand, 1)) (hx : nx = pc + 1) (kk : zW l G p e s m below meth c b c2 nx ls (vi (bAnd x y) :: st) h) : zW l G p e s m below meth c b c2 pc ls (vi y :: vi x :: st) h := by
  subst hx
  intro H locs ls' hl hP hS hn
  have K := kk H locs ls' hl hP hS hn
  refine lv_iand Z.1.1 Z.1.2.1 dd ?_
  have e : tw_v G (vi (bAnd x y)) = .int _ := congrArg Value.int (Int32.ofInt_toInt _)
  rw [List.map_cons, e] at K
  exact K
theorem az_bipush {n : Int} (Z : zX G p s m meth c b L xs) (dd : decode code pc = .ok (.bipush n, 2)) (hv : (Int8.ofInt n).toInt32 = Int32.ofInt n) (hx : nx = pc + 2) (kk : zW l G p e s m below meth c b c2 nx ls (vi n :: st) h) : zW l G p e s m below meth c b c2 pc ls st h := by
  subst hx
  intro H locs ls' hl hP hS hn
  exact lv_bipush Z.1.1 Z.1.2.1 dd hv (kk H locs ls' hl hP hS hn)
theorem az_dup {v : tV} (Z : zX G p s m meth c b L xs) (dd : decode code pc = .ok (.dup, 1)) (hv : tw_w v = 1) (hx : nx = pc + 1) (kk : zW l G p e s m below meth c b c2 nx ls (v :: v :: st) h) : zW l G p e s m below meth c b c2 pc ls (v :: st) h := by
  subst hx
  intro H locs ls' hl hP hS hn
  exact lv_dup Z.1.1 Z.1.2.1 dd ((tw_v_cat G v).trans hv) (kk H locs ls' hl hP hS hn)
theorem az_astore {i : Fin 4} {a : Nat} {l2 : List (Nat × tV)} (Z : zX G p s m meth c b L xs) (dd : decode code pc = .ok (.astore_n i, 1)) (h2 : tw_set (i : Nat) (vr (some a)) ls = l2) (hx : nx = pc + 1) (kk : zW l G p e s m below meth c b c2 nx l2 st h) : zW l G p e s m below meth c b c2 pc ls (vr (some a) :: st) h := by
  subst hx
  subst h2
  intro H locs ls' hl hP hS hn
  exact lv_astore_n Z.1.1 Z.1.2.1 dd rfl hl i.2 (tw_set_L (G := G) _ (vr (some a)) _) (fun ls2 hl2 => kk H locs ls2 hl2 hP hS hn)
theorem az_istore {i : Fin 4} {z : Int} {l2 : List (Nat × tV)} (Z : zX G p s m meth c b L xs) (dd : decode code pc = .ok (.istore_n i, 1)) (h2 : tw_set (i : Nat) (vi z) ls = l2) (hx : nx = pc + 1) (kk : zW l G p e s m below meth c b c2 nx l2 st h) : zW l G p e s m below meth c b c2 pc ls (vi z :: st) h := by
  subst hx
  subst h2
  intro H locs ls' hl hP hS hn
  exact lv_istore_n Z.1.1 Z.1.2.1 dd rfl hl i.2 (tw_set_L _ (vi z) _) (fun ls2 hl2 => kk H locs ls2 hl2 hP hS hn)
theorem az_iinc {i : Nat} {z n : Int} {l2 : List (Nat × tV)} (Z : zX G p s m meth c b L xs) (dd : decode code pc = .ok (.iinc i n, 3)) (hi : i < 4) (hz : ls.lookup i = some (vi z)) (h2 : tw_set i (vi (z + n)) ls = l2) (hx : nx = pc + 3) (kk : zW l G p e s m below meth c b c2 nx l2 st h) : zW l G p e s m below meth c b c2 pc ls st h := by
  subst hx
  subst h2
  intro H locs ls' hl hP hS hn
  have hk := tw_lk hl hz
  obtain ⟨ls2, e2, hl2⟩ := lv_store1 (v := .int (Int32.ofInt (z + n))) hl hi rfl
  have hl2 : lv_has ls2 4 (tw_L G (tw_set i (vi (z + n)) ls)) := by rw [← tw_set_L]; exact hl2
  intro T hT Y
  obtain ⟨t, a, b⟩ := kk H locs ls2 hl2 hP hS hn T hT Y
  refine ⟨t, ?_, b⟩
  have hk' : ls'[i]? = some (.val (.int (Int32.ofInt z))) := hk
  rw [Int32.ofInt_add] at e2
  have hb : c.code = code := Z.1.2.1
  have hexec := Z.1.1
  jvm_step Y.here [Y.here.top, ↓top_set Y.here.top, hexec, hb, dd, hk', e2]
  exact a
theorem az_goto {off : Int} {tg : Nat} (Z : zX G p s m meth c b L xs) (dd : decode code pc = .ok (.goto off, 3)) (ht : (pc : Int) + off = (tg : Int)) (kk : zW l G p e s m below meth c b c2 tg ls st h) : zW l G p e s m below meth c b c2 pc ls st h := by
  intro H locs ls' hl hP hS hn
  exact lv_goto Z.1.1 Z.1.2.1 dd ht (kk H locs ls' hl hP hS hn)
/-- two equal answers -/
theorem az_same {off x : Int} {tg : Nat} (Z : zX G p s m meth c b L xs) (dd : decode code pc = .ok (.if_icmp .eq off, 3)) (ht : (pc : Int) + off = (tg : Int)) (kk : zW l G p e s m below meth c b c2 tg ls st h) : zW l G p e s m below meth c b c2 pc ls (vi x :: vi x :: st) h := by
  intro H locs ls' hl hP hS hn
  exact lv_icmp_eq Z.1.1 Z.1.2.1 dd ht (fun _ => kk H locs ls' hl hP hS hn) (fun q => absurd rfl q)
theorem az_gt {off x y : Int} {tg : Nat} (Z : zX G p s m meth c b L xs) (dd : decode code pc = .ok (.if_icmp .gt off, 3)) (hx : nx = pc + 3) (ht : (pc : Int) + off = (tg : Int)) (tx : tr x) (ty : tr y) (kt : y < x → zW l G p e s m below meth c b c2 tg ls st h) (kf : ¬ y < x → zW l G p e s m below meth c b c2 nx ls st h) : zW l G p e s m below meth c b c2 pc ls (vi y :: vi x :: st) h := by
  subst hx
  intro H locs ls' hl hP hS hn
  exact lv_icmp_gt Z.1.1 Z.1.2.1 dd ht (fun q => kt ((tr_lt ty tx).mp q) H locs ls' hl hP hS hn) (fun q => kf (fun z => q ((tr_lt ty tx).mpr z)) H locs ls' hl hP hS hn)
theorem az_ifeq {off x : Int} {tg : Nat} (Z : zX G p s m meth c b L xs) (dd : decode code pc = .ok (.ifCond .eq off, 3)) (hx : nx = pc + 3) (ht : (pc : Int) + off = (tg : Int)) (tx : tr x) (kt : x = 0 → zW l G p e s m below meth c b c2 tg ls st h) (kf : ¬ x = 0 → zW l G p e s m below meth c b c2 nx ls st h) : zW l G p e s m below meth c b c2 pc ls (vi x :: st) h := by
  subst hx
  intro H locs ls' hl hP hS hn
  have hy : tr 0 := by decide
  exact lv_if_eq Z.1.1 Z.1.2.1 dd ht (fun q => kt ((tr_eq tx hy).mp q) H locs ls' hl hP hS hn) (fun q => kf (fun z => q ((tr_eq tx hy).mpr z)) H locs ls' hl hP hS hn)
theorem az_lcmp {x : Int} (Z : zX G p s m meth c b L xs) (dd : decode code pc = .ok (.lcmp, 1)) (hx : nx = pc + 1) (kk : zW l G p e s m below meth c b c2 nx ls (vi 0 :: st) h) : zW l G p e s m below meth c b c2 pc ls (vl x :: vl x :: st) h := by
  subst hx
  intro H locs ls' hl hP hS hn
  refine W.lcmp Z.1.1 Z.1.2.1 dd ?_
  have e : lg_cmp (Int64.ofInt x) (Int64.ofInt x) = Int32.ofInt 0 := by
    unfold lg_cmp
    rw [if_neg (show ¬ (Int64.ofInt x > Int64.ofInt x) from Int64.lt_irrefl), if_pos rfl]
    rfl
  rw [e]
  exact kk H locs ls' hl hP hS hn
theorem az_tsw {dflt lo hi off : Int} {offs : Array Int} {z : Int} {t n : Nat} (Z : zX G p s m meth c b L xs) (dd : decode code pc = .ok (.tableswitch dflt lo hi offs, n)) (hz : tr z) (h1 : lo ≤ z) (h2 : z ≤ hi) (ho : offs[(z - lo).toNat]? = some off) (ht : (pc : Int) + off = (t : Int)) (kk : zW l G p e s m below meth c b c2 t ls st h) : zW l G p e s m below meth c b c2 pc ls (vi z :: st) h := by
  intro H locs ls' hl hP hS hn
  exact lv_tableIn Z.1.1 Z.1.2.1 dd (by rw [tr_id hz]; omega) (by rw [tr_id hz]; omega) (by rw [tr_id hz]; exact ho) ht (kk H locs ls' hl hP hS hn)
/-- the script -/
theorem zX.nA (Z : zX G p s m meth c b L xs) : ¬ tw_A G b := fun q => by
  have h1 : b < s.heap.size := Z.1.2.2.2.2.2.2.2.1
  have h2 : G.2.2.1 ≤ b := q
  rw [← Z.2.2.1] at h2
  omega
theorem z_ad : tw_ad G (3000000 + b) = b := by
  unfold tw_ad
  rw [if_neg (by omega), if_neg (by omega), if_neg (by omega)]
  omega
theorem z_adv : tw_v G (vr (some (3000000 + b))) = .ref b := by
  show va_rf (some (tw_ad G (3000000 + b))) = _
  rw [z_ad]
  rfl
def zx (xs : Nat → Int32) (k : Nat) : Int := (xs k).toInt
theorem z_xv {k : Nat} : Int32.ofInt (zx xs k) = xs k := Int32.ofInt_toInt _
theorem az_len (Z : zX G p s m meth c b L xs) (dd : decode code pc = .ok (.arraylength, 1)) (hx : nx = pc + 1) (kk : zW l G p e s m below meth c b c2 nx ls (vi (L : Int) :: st) h) : zW l G p e s m below meth c b c2 pc ls (vr (some (3000000 + b)) :: st) h := by
  subst hx
  intro H locs ls' hl hP hS hn
  rw [List.map_cons, z_adv]
  exact va_slen Z.1.1 Z.1.2.1 Z.1.2.2.2.2.2.2.1 Z.1.2.2.2.2.2.2.2.1 Z.nA hS dd (kk H locs ls' hl hP hS hn)
theorem az_ld {k : Nat} (Z : zX G p s m meth c b L xs) (dd : decode code pc = .ok (.iaload, 1)) (hx : nx = pc + 1) (hk : k < L) (kk : zW l G p e s m below meth c b c2 nx ls (vi (zx xs k) :: st) h) : zW l G p e s m below meth c b c2 pc ls (vi (k : Int) :: vr (some (3000000 + b)) :: st) h := by
  subst hx
  intro H locs ls' hl hP hS hn
  rw [List.map_cons, List.map_cons, z_adv]
  have hL : L ≤ 320 := Z.2.2.2
  have K := kk H locs ls' hl hP hS hn
  have e : (nI k).toNatClampNeg = k := by
    have h1 := Int32.toInt_ofNat_of_lt (n := k) (by omega)
    have h2 : (nI k).toNatClampNeg = ((nI k).toInt).toNat := rfl
    rw [h2]
    unfold nI
    omega
  refine va_sld (i := nI k) Z.1.1 Z.1.2.1 Z.1.2.2.2.2.2.2.1 Z.1.2.2.2.2.2.2.2.1 Z.nA hS (vp_in_nI hk (by omega)) dd ?_
  rw [e]
  rw [List.map_cons] at K
  have e2 : tw_v G (vi (zx xs k)) = .int (xs k) := congrArg Value.int z_xv
  rw [e2] at K
  exact K
/-- one of the script's numbers behind the place i -/
abbrev zD (pc : Nat) (j : Int) : Prop := decode code pc = .ok (.aload_n 0, 1) ∧ decode code (pc + 1) = .ok (.iload_n 3, 1) ∧ decode code (pc + 2) = .ok (.iconst j, 1) ∧ decode code (pc + 3) = .ok (.iadd, 1) ∧ decode code (pc + 4) = .ok (.iaload, 1)
theorem az_arg {i j : Nat} (Z : zX G p s m meth c b L xs) (dd : zD pc (j : Int)) (hx : nx = pc + 5) (hb : ls.lookup 0 = some (vr (some (3000000 + b)))) (hi : ls.lookup 3 = some (vi (i : Int))) (hij : i + j < L) (kk : zW l G p e s m below meth c b c2 nx ls (vi (zx xs (i + j)) :: st) h) : zW l G p e s m below meth c b c2 pc ls st h := by
  obtain ⟨d0, d1, d2, d3, d4⟩ := dd
  refine az_aload Z d0 rfl hb ?_
  refine az_iload Z d1 rfl hi ?_
  refine az_iconst Z d2 rfl ?_
  refine az_iadd Z d3 rfl ?_
  have e : ((i : Int) + (j : Int)) = ((i + j : Nat) : Int) := by omega
  rw [e]
  exact az_ld Z d4 (by omega) hij kk
/-- behind a call -/
theorem az_run {H : Heap} {locs : List Loc} {ls' : Array Slot} {mc' ms' : Nat} {P' : Option tV → tH → Prop} {st0 : List Value} {av : Array Value}
    (Z : zX G p s m meth c b L xs) (hl : lv_has ls' 4 (tw_L G ls)) (hP : va_P G.1 tCl (tw_ws G h) H) (hS : va_S (tw_A G) s.heap H locs) (hn : h.2.2.2 < 1000000 ∧ tw_fg G h.2.2.2) (hb : h.2.2.2 + mc' < 1000000)
    (hr : H.size = G.2.2.1 + h.2.2.2 → va_Run p l e room_1 s m #[Value.ref b] below meth c H locs h.2.2.2 c2 mc' ms' (F0 m pc ls' st0) (st.map (tw_v G)) (tw_Q G P' mc' av) (tw_A G))
    (kk : ∀ r h', P' r h' → h'.2.2.2 = h.2.2.2 + mc' → zW l G p e s m below meth c b (c2 + ms') (pc + 3) ls (r.toList ++ st) h') :
    W p l e room_1 s m #[Value.ref b] below meth c H locs h.2.2.2 c2 (lw_Z below #[Value.ref b] s) (F0 m pc ls' st0) := by
  intro T hT Y
  have hz : H.size = G.2.2.1 + h.2.2.2 := by
    rw [← hT]
    exact tw_size (n0 := 0) (h := h) Y Z.2.2.1 (Nat.zero_le _) hn.2 hn.1 (by rw [hT]; exact hP) (by rw [hT]; exact hS.1)
  obtain ⟨v, st₀, t, T', L, z0, Y', hL, e1, e2, ⟨r, h', hv, hp, hP', hsz, hF⟩, stp⟩ := hr hz T hT Y
  have hn' : h'.2.2.2 = h.2.2.2 + mc' := by rw [z0] at hsz; omega
  have hS' : va_S (tw_A G) s.heap T'.heap (locs ++ L) := by
    rw [e1]
    refine ⟨Nat.le_trans hS.1 (by rw [← z0]; exact hF.1), fun q h1 h2 => ?_, fun q hq => ?_⟩
    · rw [hF.2 q (by rw [z0]; exact Nat.lt_of_lt_of_le h1 hS.1) h2, z0]
      exact hS.2.1 q h1 h2
    · rcases List.mem_append.mp hq with h | h
      · exact hS.2.2 q h
      · exact hL q h
  have ec : h.2.2.2 + mc' = h'.2.2.2 := by omega
  rw [ec] at Y'
  obtain ⟨t2, a1, b1⟩ := kk r h' hp hn' T'.heap (locs ++ L) ls' hl (by rw [e1]; exact hP') hS' ⟨by omega, fun q => by have := hn.2 q; omega⟩ T' rfl Y'
  refine ⟨t2, stp t2 ?_, b1⟩
  have ev : v = r.map (tw_v G) := by simpa using hv
  have es : v.toList ++ st.map (tw_v G) = (r.toList ++ st).map (tw_v G) := by
    rw [ev, List.map_append]
    cases r <;> rfl
  show Steps p.tables e below (T'.setTop (F0 m (pc + 3) ls' (v.toList ++ st.map (tw_v G)))) t2
  rw [es]
  exact a1
theorem az_pre {H : Heap} {locs : List Loc} {av : List tV} {mc' : Nat} (Z : zX G p s m meth c b L xs) (hP : va_P G.1 tCl (tw_ws G h) H) (hS : va_S (tw_A G) s.heap H locs) (hb : h.2.2.2 + mc' < 1000000) (hg : tw_fg G h.2.2.2) (hz : H.size = G.2.2.1 + h.2.2.2) :
    ∀ U : State, U.heap = H → s.WarmedH U.vm → va_Pc (av.map (tw_v G)) (fun U => va_P G.1 tCl (tw_ws G h) U.heap ∧ U.heap.size = G.2.2.1 + h.2.2.2 ∧ tw_U G U ∧ h.2.2.2 + mc' < 1000000 ∧ tw_fg G h.2.2.2) ((av.map (tw_v G)).toArray) U := by
  intro U hU hW
  refine ⟨rfl, by rw [hU]; exact hP, by rw [hU]; exact hz, tw_U_warm hW (by rw [hU]; exact hS.1) (fun a h1 h2 => by rw [hU]; exact hS.2.1 a h1 h2) Z.2.1, hb, hg⟩
theorem z_good {ws : List Cond} (h : ∀ w ∈ ws, w ∈ tw_tbl) : GoodIn tw_tbl ws := fun w hw => ⟨h w hw, good_of_word (List.mem_filter.mp (h w hw)).2⟩
theorem az_callV {i mc' ms' d' n : Nat} {M' : tM} {as : List tV} {P' : Option tV → tH → Prop} {a ci N : Nat} {C : String} {T : u_T} (Z : zX G p s m meth c b L xs) (dd : decode code pc = .ok (.invokevirtual i, 3)) (hw : tw_LV "TwinToolsLaw" i M' C n) (hk : tK h a (ci, N)) (hc : tCl[ci]? = some (C, T, N)) (hM : tw_M l G d' mc' ms' M' (vr (some a) :: as) h P') (hn' : as.length = n) (hdd : d' ≤ 1000) (hL : M'.2.2.1 ≤ 45) (hm : h.2.2.2 + mc' ≤ 600000 ∧ c2 + ms' ≤ 7302250) (hst : (st.map tw_w).sum ≤ 8) (hx : nx = pc + 3) (kk : ∀ r h', P' r h' → h'.2.2.2 = h.2.2.2 + mc' → zW l G p e s m below meth c b (c2 + ms') nx ls (r.toList ++ st) h') : zW l G p e s m below meth c b c2 pc ls (as.reverse ++ vr (some a) :: st) h := by
  subst hx
  intro H locs ls' hl hP hS hn
  have hB : h.2.2.2 + mc' < 1000000 := by omega
  have hws := Z.ws
  refine az_run (mc' := mc') (ms' := ms') (P' := P') (av := ((vr (some a) :: as).map (tw_v G)).toArray) Z hl hP hS hn hB (fun hz => ?_) kk
  obtain ⟨⟨w1, w2, w3, w4, w5⟩, hC, w6⟩ := hw
  have hg : GoodIn tw_tbl (wsV "TwinToolsLaw" i C M'.1 (tw_wds M')) := z_good (by
    intro w hw
    rcases List.mem_append.mp hw with hw | hw
    · simp only [List.mem_cons, List.not_mem_nil, or_false] at hw
      rcases hw with rfl | rfl | rfl | rfl <;> assumption
    · exact tw_wds_in w5 w hw)
  exact va_runV (As := as.map (tw_v G)) ⟨Z.1.1, Z.1.2.1, Z.1.2.2.2.1, Z.own, hws⟩ hM (cwV n hws hg rfl rfl rfl ⟨hC, w6⟩ ⟨by show d' + 1 ≤ 2048; omega, by show 8 + (M'.2.2.1 + 11) + 64 * d' ≤ 84000; omega⟩) ⟨tw_blind, tw_recv Z.2.1.1 hP hk hc, fun U hU hW => az_pre (av := vr (some a) :: as) Z hP hS hB hn.2 hz U hU hW⟩ rfl (by rw [List.length_map]; exact hn') hl.1 (by simp [List.map_append, List.map_reverse, tw_v, va_rf]) (tw_lvroom hst) dd ⟨hm.1, hm.2⟩
theorem az_callI {i mc' ms' d' n : Nat} {M' : tM} {as : List tV} {P' : Option tV → tH → Prop} {a : Nat} (Z : zX G p s m meth c b L xs) (dd : decode code pc = .ok (.invokespecial i, 3)) (hw : tw_LI "TwinToolsLaw" i M' n) (hM : tw_M l G d' mc' ms' M' (vr (some a) :: as) h P') (hn' : as.length = n) (hdd : d' ≤ 1000) (hL : M'.2.2.1 ≤ 45) (hm : h.2.2.2 + mc' ≤ 600000 ∧ c2 + ms' ≤ 7302250) (hst : (st.map tw_w).sum ≤ 8) (hx : nx = pc + 3) (kk : ∀ r h', P' r h' → h'.2.2.2 = h.2.2.2 + mc' → zW l G p e s m below meth c b (c2 + ms') nx ls (r.toList ++ st) h') : zW l G p e s m below meth c b c2 pc ls (as.reverse ++ vr (some a) :: st) h := by
  subst hx
  intro H locs ls' hl hP hS hn
  have hB : h.2.2.2 + mc' < 1000000 := by omega
  have hws := Z.ws
  refine az_run (mc' := mc') (ms' := ms') (P' := P') (av := ((vr (some a) :: as).map (tw_v G)).toArray) Z hl hP hS hn hB (fun hz => ?_) kk
  obtain ⟨⟨w1, w2, w3, w4⟩, ⟨hC, hC2⟩, w6⟩ := hw
  have hg : GoodIn tw_tbl (tw_wds M') := z_good (tw_wds_in w4)
  have hw' : tw_wds M' = Cond.code M'.1 M'.2.1 M'.2.2.1 none :: tw_tbl := by rw [← hC2]; rfl
  exact va_runI (As := as.map (tw_v G)) ⟨Z.1.1, Z.1.2.1, Z.1.2.2.2.1, Z.own, hws⟩ hM (cwI n hws hg hw' rfl rfl (hws _ w3) (hws _ w1) (hws _ w2) hC w6 ⟨by show d' + 1 ≤ 2048; omega, by show 8 + (M'.2.2.1 + 11) + 64 * d' ≤ 84000; omega⟩) ⟨tw_blind, fun U hU hW => az_pre (av := vr (some a) :: as) Z hP hS hB hn.2 hz U hU hW⟩ rfl (by rw [List.length_map]; exact hn') hl.1 (by simp [List.map_append, List.map_reverse, tw_v, va_rf]) (tw_lvroom hst) dd ⟨hm.1, hm.2⟩
theorem az_new {i ci N : Nat} {C : String} {T : u_T} (Z : zX G p s m meth c b L xs) (dd : decode code pc = .ok (.new i, 3)) (hw : Cond.classLink "TwinToolsLaw" i C ∈ tw_tbl) (hc : tCl[ci]? = some (C, T, N)) (hty : ∀ j, j < N → ∃ ty, parseFieldDescriptor (T j).2.2.1 = some ty ∧ defaultValue ty = (if tRef ci j = true then .null else .int 0)) (hm : h.2.2.2 + 1 ≤ 600000 ∧ c2 + N ≤ 7302250) (hx : nx = pc + 3) (kk : zW l G p e s m below meth c b (c2 + N) nx ls (vr (some h.2.2.2) :: st) (hNw h (ci, N))) : zW l G p e s m below meth c b c2 pc ls st h := by
  subst hx
  intro H locs ls' hl hP hS hn
  have hws := Z.ws
  obtain ⟨z1, ⟨ty, z2⟩, z3, z4, z5⟩ := tw_cls hc
  have hA : ∀ q, s.heap.size ≤ q → tw_A G q := fun q hq => by show G.2.2.1 ≤ q; rw [Z.2.2.1] at hq; omega
  refine va_new (ci := ci) (fs := (List.range N).map (tw_fv G (hNw h (ci, N)) h.2.2.2)) Z.1.1 Z.1.2.1 hws z1 ty z2 Z.own (hws _ hw) (hws _ z4) (hws _ z5) Z.2.1.1 hP (tw_ws_D hn.1) hS hA hc ?_ hm.1 hm.2 dd (fun q H1 hP1 hD1 hS1 => ?_)
  · intro j hj
    obtain ⟨t1, y1, y2⟩ := hty j hj
    have : ty j = t1 := Option.some.inj ((z2 j hj).symm.trans y1)
    rw [this, y2]
    have e1 : zK h.1 h.2.2.2 (ci, N) h.2.2.2 = (ci, N) := if_pos rfl
    have e2 : zI h.2.1 h.2.2.2 h.2.2.2 = fun _ => 0 := if_pos rfl
    have e3 : zQ h.2.2.1 h.2.2.2 h.2.2.2 = fun _ => none := if_pos rfl
    simp only [vp_V, List.getD_eq_getElem?_getD, List.getElem?_map, List.getElem?_range hj, Option.map_some, Option.getD_some, tw_fv, e1, e2, e3]
    rfl
  · intro T' hT Y
    have hq := tw_fresh (n0 := 0) Z.2.2.1 (Nat.zero_le _) hn.2 hn.1 hP1 hD1 hT Y
    subst hq
    have e2 : tw_ws G h ++ [(tw_ad G h.2.2.2, .inr (ci, (List.range N).map (tw_fv G (hNw h (ci, N)) h.2.2.2)))] = tw_ws G (hNw h (ci, N)) :=
      tw_ws_push rfl (tw_c_obj (h := hNw h (ci, N)) (if_pos rfl) (tw_tcl_len hc)) (fun b hb => tw_c_hNw hb)
    rw [e2] at hP1
    exact kk H1 locs ls' hl hP1 hS1 ⟨by show h.2.2.2 + 1 < 1000000; omega, fun q => by have := hn.2 q; show 78 ≤ h.2.2.2 + 1; omega⟩ T' hT Y
/-- the end -/
theorem az_end (Z : zX G p s m meth c b L xs) (d0 : decode code pc = .ok (.iconst 1, 1)) (d1 : decode code (pc + 1) = .ok (.ireturn, 1)) (h1 : h.2.2.2 ≤ 600000) (h2 : c2 ≤ 7302250) : zW l G p e s m below meth c b c2 pc ls [] h := by
  refine az_iconst Z d0 rfl ?_
  intro H locs ls' hl hP hS hn
  refine va_forget (fun q hq => by rw [Z.2.2.1]; exact hS.2.2 q hq) ?_
  refine W.widen (k := 600000) (n := 7302250) h1 h2 ?_
  exact lw_ret Z.1.1 Z.1.2.1 Z.1.2.2.1 Z.1.2.2.2.2.2.2.2.2.1 d1
theorem az_sub {l2 : List (Nat × tV)} (hs : ∀ q ∈ l2, q ∈ ls) (kk : zW l G p e s m below meth c b c2 pc l2 st h) : zW l G p e s m below meth c b c2 pc ls st h := fun H locs ls' hl hP hS hn => kk H locs ls' (tw_sub_has hl hs) hP hS hn
end ZW
