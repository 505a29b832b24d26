section ZK
variable {l : Launch} {G : tG} {p : Program} {e : Env} {s : State} {m : MethodId} {below : List Frame} {meth : Method} {c : Code} {b L : Nat} {xs : Nat → Int32} {c2 : Nat}
theorem zx_tr {k : Nat} : tr (zx xs k) := ⟨Int32.le_toInt _, by have := Int32.toInt_lt (xs k); unfold zx; omega⟩
theorem az_bool {x : Int} {pc nx : Nat} {ls : List (Nat × tV)} {st : List tV} {h : tH} (Z : zX G p s m meth c b L xs) (dd : decode code pc = .ok (.ifCond .eq 7, 3) ∧ decode code (pc + 3) = .ok (.iconst 1, 1) ∧ decode code (pc + 4) = .ok (.goto 4, 3) ∧ decode code (pc + 7) = .ok (.iconst 0, 1)) (hx : nx = pc + 8) (tx : tr x) (kk : zW l G p e s m below meth c b c2 nx ls (vi (if x = 0 then 0 else 1) :: st) h) : zW l G p e s m below meth c b c2 pc ls (vi x :: st) h := by
  subst hx
  obtain ⟨d0, d1, d2, d3⟩ := dd
  refine az_ifeq (nx := pc + 3) (tg := pc + 7) Z d0 rfl (by omega) tx (fun g => ?_) (fun g => ?_)
  · rw [if_pos g] at kk
    exact az_iconst (nx := pc + 8) Z d3 rfl kk
  · rw [if_neg g] at kk
    refine az_iconst (nx := pc + 4) Z d1 rfl ?_
    exact az_goto (tg := pc + 8) Z d2 (by omega) kk
def zls (b i : Nat) : List (Nat × tV) := [(3, vi (i : Int)), (2, vr (some 69)), (1, vr (some 0)), (0, vr (some (3000000 + b)))]
/-- behind the case: the next one -/
def zN (l : Launch) (G : tG) (p : Program) (e : Env) (s : State) (m : MethodId) (below : List Frame) (meth : Method) (c : Code) (b c2 i : Nat) (h : tH) : Prop := ∀ c2' h', c2' ≤ c2 + 250 → h'.2.2.2 ≤ h.2.2.2 + 7 → CI h' → zW l G p e s m below meth c b c2' 1115 (zls b i) [] h'
theorem zk_feed {i : Nat} {h : tH} (Z : zX G p s m meth c b L xs) (hi : i + 5 ≤ L) (hop : zOp l G mT_feed mR_feed [vi (zx xs (i + 1))] vi h) (hS : tSt h) (hm : h.2.2.2 + 7 ≤ 600000 ∧ c2 + 250 ≤ 7302250) (kk : zN l G p e s m below meth c b c2 i h) : zW l G p e s m below meth c b c2 176 (zls b i) [] h := by
  obtain ⟨d1, mc1, ms1, P1, c1, ⟨b1, b2, b3⟩, hh⟩ := hop
  refine az_aload (i := 1) (nx := 177) Z (by decide +kernel) rfl rfl ?_
  refine az_arg (i := i) (j := 1) (nx := 182) Z (by decide +kernel) rfl rfl rfl (by omega) ?_
  refine az_callV (i := 13) (as := [_]) (st := []) (nx := 185) Z (by decide +kernel) lvZ_13 (hS.k (a := 0) (by decide)) rfl c1 rfl b1 (by decide) ⟨by omega, by omega⟩ (Nat.le_of_ble_eq_true rfl) rfl (fun r h1 hp hn1 => ?_)
  obtain ⟨hS1, x, rfl, d2, P2, c3, b4, hh2⟩ := hh r h1 hp
  refine az_aload (i := 2) (nx := 186) (st := [vi x]) Z (by decide +kernel) rfl rfl ?_
  refine az_arg (i := i) (j := 1) (nx := 191) Z (by decide +kernel) rfl rfl rfl (by omega) ?_
  refine az_callV (i := 17) (as := [_]) (st := [vi x]) (nx := 194) Z (by decide +kernel) lvZ_17 (hS1.k (a := 69) (by decide)) rfl c3 rfl b4 (by decide) ⟨by omega, by omega⟩ (Nat.le_of_ble_eq_true rfl) rfl (fun r2 h2 hp2 hn2 => ?_)
  obtain ⟨rfl, hC2⟩ := hh2 r2 h2 hp2
  refine az_same (x := x) (off := 921) (tg := 1115) (st := []) Z (by decide +kernel) (by decide) ?_
  exact kk _ _ (by omega) (by omega) hC2
theorem zk_valley {i : Nat} {h : tH} (Z : zX G p s m meth c b L xs) (hi : i + 5 ≤ L) (hop : zOp l G mT_valley mR_valley [] vi h) (hS : tSt h) (hm : h.2.2.2 + 7 ≤ 600000 ∧ c2 + 250 ≤ 7302250) (kk : zN l G p e s m below meth c b c2 i h) : zW l G p e s m below meth c b c2 199 (zls b i) [] h := by
  obtain ⟨d1, mc1, ms1, P1, c1, ⟨b1, b2, b3⟩, hh⟩ := hop
  refine az_aload (i := 1) (nx := 200) Z (by decide +kernel) rfl rfl ?_
  refine az_callV (i := 18) (as := []) (st := []) (nx := 203) Z (by decide +kernel) lvZ_18 (hS.k (a := 0) (by decide)) rfl c1 rfl b1 (by decide) ⟨by omega, by omega⟩ (Nat.le_of_ble_eq_true rfl) rfl (fun r h1 hp hn1 => ?_)
  obtain ⟨hS1, x, rfl, d2, P2, c3, b4, hh2⟩ := hh r h1 hp
  refine az_aload (i := 2) (nx := 204) (st := [vi x]) Z (by decide +kernel) rfl rfl ?_
  refine az_callV (i := 22) (as := []) (st := [vi x]) (nx := 207) Z (by decide +kernel) lvZ_22 (hS1.k (a := 69) (by decide)) rfl c3 rfl b4 (by decide) ⟨by omega, by omega⟩ (Nat.le_of_ble_eq_true rfl) rfl (fun r2 h2 hp2 hn2 => ?_)
  obtain ⟨rfl, hC2⟩ := hh2 r2 h2 hp2
  refine az_same (x := x) (off := 908) (tg := 1115) (st := []) Z (by decide +kernel) (by decide) ?_
  exact kk _ _ (by omega) (by omega) hC2
theorem zk_person {i : Nat} {h : tH} (Z : zX G p s m meth c b L xs) (hi : i + 5 ≤ L) (hop : zOp l G mT_person mR_person [vi (zx xs (i + 1)), vi (zx xs (i + 2)), vi (zx xs (i + 3))] vi h) (hS : tSt h) (hm : h.2.2.2 + 7 ≤ 600000 ∧ c2 + 250 ≤ 7302250) (kk : zN l G p e s m below meth c b c2 i h) : zW l G p e s m below meth c b c2 212 (zls b i) [] h := by
  obtain ⟨d1, mc1, ms1, P1, c1, ⟨b1, b2, b3⟩, hh⟩ := hop
  refine az_aload (i := 1) (nx := 213) Z (by decide +kernel) rfl rfl ?_
  refine az_arg (i := i) (j := 1) (nx := 218) Z (by decide +kernel) rfl rfl rfl (by omega) ?_
  refine az_arg (i := i) (j := 2) (nx := 223) Z (by decide +kernel) rfl rfl rfl (by omega) ?_
  refine az_arg (i := i) (j := 3) (nx := 228) Z (by decide +kernel) rfl rfl rfl (by omega) ?_
  refine az_callV (i := 23) (as := [_, _, _]) (st := []) (nx := 231) Z (by decide +kernel) lvZ_23 (hS.k (a := 0) (by decide)) rfl c1 rfl b1 (by decide) ⟨by omega, by omega⟩ (Nat.le_of_ble_eq_true rfl) rfl (fun r h1 hp hn1 => ?_)
  obtain ⟨hS1, x, rfl, d2, P2, c3, b4, hh2⟩ := hh r h1 hp
  refine az_aload (i := 2) (nx := 232) (st := [vi x]) Z (by decide +kernel) rfl rfl ?_
  refine az_arg (i := i) (j := 1) (nx := 237) Z (by decide +kernel) rfl rfl rfl (by omega) ?_
  refine az_arg (i := i) (j := 2) (nx := 242) Z (by decide +kernel) rfl rfl rfl (by omega) ?_
  refine az_arg (i := i) (j := 3) (nx := 247) Z (by decide +kernel) rfl rfl rfl (by omega) ?_
  refine az_callV (i := 27) (as := [_, _, _]) (st := [vi x]) (nx := 250) Z (by decide +kernel) lvZ_27 (hS1.k (a := 69) (by decide)) rfl c3 rfl b4 (by decide) ⟨by omega, by omega⟩ (Nat.le_of_ble_eq_true rfl) rfl (fun r2 h2 hp2 hn2 => ?_)
  obtain ⟨rfl, hC2⟩ := hh2 r2 h2 hp2
  refine az_same (x := x) (off := 865) (tg := 1115) (st := []) Z (by decide +kernel) (by decide) ?_
  exact kk _ _ (by omega) (by omega) hC2
theorem zk_free {i : Nat} {h : tH} (Z : zX G p s m meth c b L xs) (hi : i + 5 ≤ L) (hop : zOp l G mT_free mR_free [vi (zx xs (i + 1)), vi (zx xs (i + 2))] vi h) (hS : tSt h) (hm : h.2.2.2 + 7 ≤ 600000 ∧ c2 + 250 ≤ 7302250) (kk : zN l G p e s m below meth c b c2 i h) : zW l G p e s m below meth c b c2 255 (zls b i) [] h := by
  obtain ⟨d1, mc1, ms1, P1, c1, ⟨b1, b2, b3⟩, hh⟩ := hop
  refine az_aload (i := 1) (nx := 256) Z (by decide +kernel) rfl rfl ?_
  refine az_arg (i := i) (j := 1) (nx := 261) Z (by decide +kernel) rfl rfl rfl (by omega) ?_
  refine az_arg (i := i) (j := 2) (nx := 266) Z (by decide +kernel) rfl rfl rfl (by omega) ?_
  refine az_callV (i := 28) (as := [_, _]) (st := []) (nx := 269) Z (by decide +kernel) lvZ_28 (hS.k (a := 0) (by decide)) rfl c1 rfl b1 (by decide) ⟨by omega, by omega⟩ (Nat.le_of_ble_eq_true rfl) rfl (fun r h1 hp hn1 => ?_)
  obtain ⟨hS1, x, rfl, d2, P2, c3, b4, hh2⟩ := hh r h1 hp
  refine az_aload (i := 2) (nx := 270) (st := [vi x]) Z (by decide +kernel) rfl rfl ?_
  refine az_arg (i := i) (j := 1) (nx := 275) Z (by decide +kernel) rfl rfl rfl (by omega) ?_
  refine az_arg (i := i) (j := 2) (nx := 280) Z (by decide +kernel) rfl rfl rfl (by omega) ?_
  refine az_callV (i := 32) (as := [_, _]) (st := [vi x]) (nx := 283) Z (by decide +kernel) lvZ_32 (hS1.k (a := 69) (by decide)) rfl c3 rfl b4 (by decide) ⟨by omega, by omega⟩ (Nat.le_of_ble_eq_true rfl) rfl (fun r2 h2 hp2 hn2 => ?_)
  obtain ⟨rfl, hC2⟩ := hh2 r2 h2 hp2
  refine az_same (x := x) (off := 832) (tg := 1115) (st := []) Z (by decide +kernel) (by decide) ?_
  exact kk _ _ (by omega) (by omega) hC2
theorem zk_row {i : Nat} {h : tH} (Z : zX G p s m meth c b L xs) (hi : i + 5 ≤ L) (hop : zOp l G mT_row mR_row [vi (zx xs (i + 1)), vi (zx xs (i + 2)), vi (zx xs (i + 3))] vi h) (hS : tSt h) (hm : h.2.2.2 + 7 ≤ 600000 ∧ c2 + 250 ≤ 7302250) (kk : zN l G p e s m below meth c b c2 i h) : zW l G p e s m below meth c b c2 288 (zls b i) [] h := by
  obtain ⟨d1, mc1, ms1, P1, c1, ⟨b1, b2, b3⟩, hh⟩ := hop
  refine az_aload (i := 1) (nx := 289) Z (by decide +kernel) rfl rfl ?_
  refine az_arg (i := i) (j := 1) (nx := 294) Z (by decide +kernel) rfl rfl rfl (by omega) ?_
  refine az_arg (i := i) (j := 2) (nx := 299) Z (by decide +kernel) rfl rfl rfl (by omega) ?_
  refine az_arg (i := i) (j := 3) (nx := 304) Z (by decide +kernel) rfl rfl rfl (by omega) ?_
  refine az_callV (i := 33) (as := [_, _, _]) (st := []) (nx := 307) Z (by decide +kernel) lvZ_33 (hS.k (a := 0) (by decide)) rfl c1 rfl b1 (by decide) ⟨by omega, by omega⟩ (Nat.le_of_ble_eq_true rfl) rfl (fun r h1 hp hn1 => ?_)
  obtain ⟨hS1, x, rfl, d2, P2, c3, b4, hh2⟩ := hh r h1 hp
  refine az_aload (i := 2) (nx := 308) (st := [vi x]) Z (by decide +kernel) rfl rfl ?_
  refine az_arg (i := i) (j := 1) (nx := 313) Z (by decide +kernel) rfl rfl rfl (by omega) ?_
  refine az_arg (i := i) (j := 2) (nx := 318) Z (by decide +kernel) rfl rfl rfl (by omega) ?_
  refine az_arg (i := i) (j := 3) (nx := 323) Z (by decide +kernel) rfl rfl rfl (by omega) ?_
  refine az_callV (i := 36) (as := [_, _, _]) (st := [vi x]) (nx := 326) Z (by decide +kernel) lvZ_36 (hS1.k (a := 69) (by decide)) rfl c3 rfl b4 (by decide) ⟨by omega, by omega⟩ (Nat.le_of_ble_eq_true rfl) rfl (fun r2 h2 hp2 hn2 => ?_)
  obtain ⟨rfl, hC2⟩ := hh2 r2 h2 hp2
  refine az_same (x := x) (off := 789) (tg := 1115) (st := []) Z (by decide +kernel) (by decide) ?_
  exact kk _ _ (by omega) (by omega) hC2
theorem zk_tool {i : Nat} {h : tH} (Z : zX G p s m meth c b L xs) (hi : i + 5 ≤ L) (hop : zOp l G mT_tool mR_tool [vi (zx xs (i + 1)), vi (zx xs (i + 2))] vi h) (hS : tSt h) (hm : h.2.2.2 + 7 ≤ 600000 ∧ c2 + 250 ≤ 7302250) (kk : zN l G p e s m below meth c b c2 i h) : zW l G p e s m below meth c b c2 331 (zls b i) [] h := by
  obtain ⟨d1, mc1, ms1, P1, c1, ⟨b1, b2, b3⟩, hh⟩ := hop
  refine az_aload (i := 1) (nx := 332) Z (by decide +kernel) rfl rfl ?_
  refine az_arg (i := i) (j := 1) (nx := 337) Z (by decide +kernel) rfl rfl rfl (by omega) ?_
  refine az_arg (i := i) (j := 2) (nx := 342) Z (by decide +kernel) rfl rfl rfl (by omega) ?_
  refine az_callV (i := 37) (as := [_, _]) (st := []) (nx := 345) Z (by decide +kernel) lvZ_37 (hS.k (a := 0) (by decide)) rfl c1 rfl b1 (by decide) ⟨by omega, by omega⟩ (Nat.le_of_ble_eq_true rfl) rfl (fun r h1 hp hn1 => ?_)
  obtain ⟨hS1, x, rfl, d2, P2, c3, b4, hh2⟩ := hh r h1 hp
  refine az_aload (i := 2) (nx := 346) (st := [vi x]) Z (by decide +kernel) rfl rfl ?_
  refine az_arg (i := i) (j := 1) (nx := 351) Z (by decide +kernel) rfl rfl rfl (by omega) ?_
  refine az_arg (i := i) (j := 2) (nx := 356) Z (by decide +kernel) rfl rfl rfl (by omega) ?_
  refine az_callV (i := 40) (as := [_, _]) (st := [vi x]) (nx := 359) Z (by decide +kernel) lvZ_40 (hS1.k (a := 69) (by decide)) rfl c3 rfl b4 (by decide) ⟨by omega, by omega⟩ (Nat.le_of_ble_eq_true rfl) rfl (fun r2 h2 hp2 hn2 => ?_)
  obtain ⟨rfl, hC2⟩ := hh2 r2 h2 hp2
  refine az_same (x := x) (off := 756) (tg := 1115) (st := []) Z (by decide +kernel) (by decide) ?_
  exact kk _ _ (by omega) (by omega) hC2
theorem zk_twin {i : Nat} {h : tH} (Z : zX G p s m meth c b L xs) (hi : i + 5 ≤ L) (hop : zOp l G mT_twin mR_twin [vi (zx xs (i + 1)), vi (zx xs (i + 2))] vi h) (hS : tSt h) (hm : h.2.2.2 + 7 ≤ 600000 ∧ c2 + 250 ≤ 7302250) (kk : zN l G p e s m below meth c b c2 i h) : zW l G p e s m below meth c b c2 364 (zls b i) [] h := by
  obtain ⟨d1, mc1, ms1, P1, c1, ⟨b1, b2, b3⟩, hh⟩ := hop
  refine az_aload (i := 1) (nx := 365) Z (by decide +kernel) rfl rfl ?_
  refine az_arg (i := i) (j := 1) (nx := 370) Z (by decide +kernel) rfl rfl rfl (by omega) ?_
  refine az_arg (i := i) (j := 2) (nx := 375) Z (by decide +kernel) rfl rfl rfl (by omega) ?_
  refine az_callV (i := 41) (as := [_, _]) (st := []) (nx := 378) Z (by decide +kernel) lvZ_41 (hS.k (a := 0) (by decide)) rfl c1 rfl b1 (by decide) ⟨by omega, by omega⟩ (Nat.le_of_ble_eq_true rfl) rfl (fun r h1 hp hn1 => ?_)
  obtain ⟨hS1, x, rfl, d2, P2, c3, b4, hh2⟩ := hh r h1 hp
  refine az_aload (i := 2) (nx := 379) (st := [vi x]) Z (by decide +kernel) rfl rfl ?_
  refine az_arg (i := i) (j := 1) (nx := 384) Z (by decide +kernel) rfl rfl rfl (by omega) ?_
  refine az_arg (i := i) (j := 2) (nx := 389) Z (by decide +kernel) rfl rfl rfl (by omega) ?_
  refine az_callV (i := 44) (as := [_, _]) (st := [vi x]) (nx := 392) Z (by decide +kernel) lvZ_44 (hS1.k (a := 69) (by decide)) rfl c3 rfl b4 (by decide) ⟨by omega, by omega⟩ (Nat.le_of_ble_eq_true rfl) rfl (fun r2 h2 hp2 hn2 => ?_)
  obtain ⟨rfl, hC2⟩ := hh2 r2 h2 hp2
  refine az_same (x := x) (off := 723) (tg := 1115) (st := []) Z (by decide +kernel) (by decide) ?_
  exact kk _ _ (by omega) (by omega) hC2
theorem zk_broken {i : Nat} {h : tH} (Z : zX G p s m meth c b L xs) (hi : i + 5 ≤ L) (hop : zOp l G mT_broken mR_broken [vi (zx xs (i + 1)), vi (if zx xs (i + 2) = 0 then 0 else 1)] vi h) (hS : tSt h) (hm : h.2.2.2 + 7 ≤ 600000 ∧ c2 + 250 ≤ 7302250) (kk : zN l G p e s m below meth c b c2 i h) : zW l G p e s m below meth c b c2 397 (zls b i) [] h := by
  obtain ⟨d1, mc1, ms1, P1, c1, ⟨b1, b2, b3⟩, hh⟩ := hop
  refine az_aload (i := 1) (nx := 398) Z (by decide +kernel) rfl rfl ?_
  refine az_arg (i := i) (j := 1) (nx := 403) Z (by decide +kernel) rfl rfl rfl (by omega) ?_
  refine az_arg (i := i) (j := 2) (nx := 408) Z (by decide +kernel) rfl rfl rfl (by omega) ?_
  refine az_bool (nx := 416) Z ⟨(by decide +kernel), (by decide +kernel), (by decide +kernel), (by decide +kernel)⟩ rfl zx_tr ?_
  refine az_callV (i := 45) (as := [_, _]) (st := []) (nx := 419) Z (by decide +kernel) lvZ_45 (hS.k (a := 0) (by decide)) rfl c1 rfl b1 (by decide) ⟨by omega, by omega⟩ (Nat.le_of_ble_eq_true rfl) rfl (fun r h1 hp hn1 => ?_)
  obtain ⟨hS1, x, rfl, d2, P2, c3, b4, hh2⟩ := hh r h1 hp
  refine az_aload (i := 2) (nx := 420) (st := [vi x]) Z (by decide +kernel) rfl rfl ?_
  refine az_arg (i := i) (j := 1) (nx := 425) Z (by decide +kernel) rfl rfl rfl (by omega) ?_
  refine az_arg (i := i) (j := 2) (nx := 430) Z (by decide +kernel) rfl rfl rfl (by omega) ?_
  refine az_bool (nx := 438) Z ⟨(by decide +kernel), (by decide +kernel), (by decide +kernel), (by decide +kernel)⟩ rfl zx_tr ?_
  refine az_callV (i := 49) (as := [_, _]) (st := [vi x]) (nx := 441) Z (by decide +kernel) lvZ_49 (hS1.k (a := 69) (by decide)) rfl c3 rfl b4 (by decide) ⟨by omega, by omega⟩ (Nat.le_of_ble_eq_true rfl) rfl (fun r2 h2 hp2 hn2 => ?_)
  obtain ⟨rfl, hC2⟩ := hh2 r2 h2 hp2
  refine az_same (x := x) (off := 674) (tg := 1115) (st := []) Z (by decide +kernel) (by decide) ?_
  exact kk _ _ (by omega) (by omega) hC2
theorem zk_give {i : Nat} {h : tH} (Z : zX G p s m meth c b L xs) (hi : i + 5 ≤ L) (hop : zOp l G mT_give mR_give [vi (zx xs (i + 1)), vi (zx xs (i + 2))] vi h) (hS : tSt h) (hm : h.2.2.2 + 7 ≤ 600000 ∧ c2 + 250 ≤ 7302250) (kk : zN l G p e s m below meth c b c2 i h) : zW l G p e s m below meth c b c2 446 (zls b i) [] h := by
  obtain ⟨d1, mc1, ms1, P1, c1, ⟨b1, b2, b3⟩, hh⟩ := hop
  refine az_aload (i := 1) (nx := 447) Z (by decide +kernel) rfl rfl ?_
  refine az_arg (i := i) (j := 1) (nx := 452) Z (by decide +kernel) rfl rfl rfl (by omega) ?_
  refine az_arg (i := i) (j := 2) (nx := 457) Z (by decide +kernel) rfl rfl rfl (by omega) ?_
  refine az_callV (i := 50) (as := [_, _]) (st := []) (nx := 460) Z (by decide +kernel) lvZ_50 (hS.k (a := 0) (by decide)) rfl c1 rfl b1 (by decide) ⟨by omega, by omega⟩ (Nat.le_of_ble_eq_true rfl) rfl (fun r h1 hp hn1 => ?_)
  obtain ⟨hS1, x, rfl, d2, P2, c3, b4, hh2⟩ := hh r h1 hp
  refine az_aload (i := 2) (nx := 461) (st := [vi x]) Z (by decide +kernel) rfl rfl ?_
  refine az_arg (i := i) (j := 1) (nx := 466) Z (by decide +kernel) rfl rfl rfl (by omega) ?_
  refine az_arg (i := i) (j := 2) (nx := 471) Z (by decide +kernel) rfl rfl rfl (by omega) ?_
  refine az_callV (i := 53) (as := [_, _]) (st := [vi x]) (nx := 474) Z (by decide +kernel) lvZ_53 (hS1.k (a := 69) (by decide)) rfl c3 rfl b4 (by decide) ⟨by omega, by omega⟩ (Nat.le_of_ble_eq_true rfl) rfl (fun r2 h2 hp2 hn2 => ?_)
  obtain ⟨rfl, hC2⟩ := hh2 r2 h2 hp2
  refine az_same (x := x) (off := 641) (tg := 1115) (st := []) Z (by decide +kernel) (by decide) ?_
  exact kk _ _ (by omega) (by omega) hC2
theorem zk_of {i : Nat} {h : tH} (Z : zX G p s m meth c b L xs) (hi : i + 5 ≤ L) (hop : zOp l G mT_of mR_of [vi (zx xs (i + 1)), vi (zx xs (i + 2))] vi h) (hS : tSt h) (hm : h.2.2.2 + 7 ≤ 600000 ∧ c2 + 250 ≤ 7302250) (kk : zN l G p e s m below meth c b c2 i h) : zW l G p e s m below meth c b c2 479 (zls b i) [] h := by
  obtain ⟨d1, mc1, ms1, P1, c1, ⟨b1, b2, b3⟩, hh⟩ := hop
  refine az_aload (i := 1) (nx := 480) Z (by decide +kernel) rfl rfl ?_
  refine az_arg (i := i) (j := 1) (nx := 485) Z (by decide +kernel) rfl rfl rfl (by omega) ?_
  refine az_arg (i := i) (j := 2) (nx := 490) Z (by decide +kernel) rfl rfl rfl (by omega) ?_
  refine az_callV (i := 54) (as := [_, _]) (st := []) (nx := 493) Z (by decide +kernel) lvZ_54 (hS.k (a := 0) (by decide)) rfl c1 rfl b1 (by decide) ⟨by omega, by omega⟩ (Nat.le_of_ble_eq_true rfl) rfl (fun r h1 hp hn1 => ?_)
  obtain ⟨hS1, x, rfl, d2, P2, c3, b4, hh2⟩ := hh r h1 hp
  refine az_aload (i := 2) (nx := 494) (st := [vi x]) Z (by decide +kernel) rfl rfl ?_
  refine az_arg (i := i) (j := 1) (nx := 499) Z (by decide +kernel) rfl rfl rfl (by omega) ?_
  refine az_arg (i := i) (j := 2) (nx := 504) Z (by decide +kernel) rfl rfl rfl (by omega) ?_
  refine az_callV (i := 57) (as := [_, _]) (st := [vi x]) (nx := 507) Z (by decide +kernel) lvZ_57 (hS1.k (a := 69) (by decide)) rfl c3 rfl b4 (by decide) ⟨by omega, by omega⟩ (Nat.le_of_ble_eq_true rfl) rfl (fun r2 h2 hp2 hn2 => ?_)
  obtain ⟨rfl, hC2⟩ := hh2 r2 h2 hp2
  refine az_same (x := x) (off := 608) (tg := 1115) (st := []) Z (by decide +kernel) (by decide) ?_
  exact kk _ _ (by omega) (by omega) hC2
theorem zk_who {i : Nat} {h : tH} (Z : zX G p s m meth c b L xs) (hi : i + 5 ≤ L) (hop : zOp l G mT_who mR_who [vi (zx xs (i + 1)), vi (zx xs (i + 2))] vi h) (hS : tSt h) (hm : h.2.2.2 + 7 ≤ 600000 ∧ c2 + 250 ≤ 7302250) (kk : zN l G p e s m below meth c b c2 i h) : zW l G p e s m below meth c b c2 512 (zls b i) [] h := by
  obtain ⟨d1, mc1, ms1, P1, c1, ⟨b1, b2, b3⟩, hh⟩ := hop
  refine az_aload (i := 1) (nx := 513) Z (by decide +kernel) rfl rfl ?_
  refine az_arg (i := i) (j := 1) (nx := 518) Z (by decide +kernel) rfl rfl rfl (by omega) ?_
  refine az_arg (i := i) (j := 2) (nx := 523) Z (by decide +kernel) rfl rfl rfl (by omega) ?_
  refine az_callV (i := 58) (as := [_, _]) (st := []) (nx := 526) Z (by decide +kernel) lvZ_58 (hS.k (a := 0) (by decide)) rfl c1 rfl b1 (by decide) ⟨by omega, by omega⟩ (Nat.le_of_ble_eq_true rfl) rfl (fun r h1 hp hn1 => ?_)
  obtain ⟨hS1, x, rfl, d2, P2, c3, b4, hh2⟩ := hh r h1 hp
  refine az_aload (i := 2) (nx := 527) (st := [vi x]) Z (by decide +kernel) rfl rfl ?_
  refine az_arg (i := i) (j := 1) (nx := 532) Z (by decide +kernel) rfl rfl rfl (by omega) ?_
  refine az_arg (i := i) (j := 2) (nx := 537) Z (by decide +kernel) rfl rfl rfl (by omega) ?_
  refine az_callV (i := 61) (as := [_, _]) (st := [vi x]) (nx := 540) Z (by decide +kernel) lvZ_61 (hS1.k (a := 69) (by decide)) rfl c3 rfl b4 (by decide) ⟨by omega, by omega⟩ (Nat.le_of_ble_eq_true rfl) rfl (fun r2 h2 hp2 hn2 => ?_)
  obtain ⟨rfl, hC2⟩ := hh2 r2 h2 hp2
  refine az_same (x := x) (off := 575) (tg := 1115) (st := []) Z (by decide +kernel) (by decide) ?_
  exact kk _ _ (by omega) (by omega) hC2
theorem zk_at {i : Nat} {h : tH} (Z : zX G p s m meth c b L xs) (hi : i + 5 ≤ L) (hop : zOp l G mT_at mR_at [vi (zx xs (i + 1)), vi (zx xs (i + 2))] vi h) (hS : tSt h) (hm : h.2.2.2 + 7 ≤ 600000 ∧ c2 + 250 ≤ 7302250) (kk : zN l G p e s m below meth c b c2 i h) : zW l G p e s m below meth c b c2 545 (zls b i) [] h := by
  obtain ⟨d1, mc1, ms1, P1, c1, ⟨b1, b2, b3⟩, hh⟩ := hop
  refine az_aload (i := 1) (nx := 546) Z (by decide +kernel) rfl rfl ?_
  refine az_arg (i := i) (j := 1) (nx := 551) Z (by decide +kernel) rfl rfl rfl (by omega) ?_
  refine az_arg (i := i) (j := 2) (nx := 556) Z (by decide +kernel) rfl rfl rfl (by omega) ?_
  refine az_callV (i := 62) (as := [_, _]) (st := []) (nx := 559) Z (by decide +kernel) lvZ_62 (hS.k (a := 0) (by decide)) rfl c1 rfl b1 (by decide) ⟨by omega, by omega⟩ (Nat.le_of_ble_eq_true rfl) rfl (fun r h1 hp hn1 => ?_)
  obtain ⟨hS1, x, rfl, d2, P2, c3, b4, hh2⟩ := hh r h1 hp
  refine az_aload (i := 2) (nx := 560) (st := [vi x]) Z (by decide +kernel) rfl rfl ?_
  refine az_arg (i := i) (j := 1) (nx := 565) Z (by decide +kernel) rfl rfl rfl (by omega) ?_
  refine az_arg (i := i) (j := 2) (nx := 570) Z (by decide +kernel) rfl rfl rfl (by omega) ?_
  refine az_callV (i := 65) (as := [_, _]) (st := [vi x]) (nx := 573) Z (by decide +kernel) lvZ_65 (hS1.k (a := 69) (by decide)) rfl c3 rfl b4 (by decide) ⟨by omega, by omega⟩ (Nat.le_of_ble_eq_true rfl) rfl (fun r2 h2 hp2 hn2 => ?_)
  obtain ⟨rfl, hC2⟩ := hh2 r2 h2 hp2
  refine az_same (x := x) (off := 542) (tg := 1115) (st := []) Z (by decide +kernel) (by decide) ?_
  exact kk _ _ (by omega) (by omega) hC2
theorem zk_worth {i : Nat} {h : tH} (Z : zX G p s m meth c b L xs) (hi : i + 5 ≤ L) (hop : zOp l G mT_worth mR_worth [vi (zx xs (i + 1)), vi (zx xs (i + 2))] vi h) (hS : tSt h) (hm : h.2.2.2 + 7 ≤ 600000 ∧ c2 + 250 ≤ 7302250) (kk : zN l G p e s m below meth c b c2 i h) : zW l G p e s m below meth c b c2 578 (zls b i) [] h := by
  obtain ⟨d1, mc1, ms1, P1, c1, ⟨b1, b2, b3⟩, hh⟩ := hop
  refine az_aload (i := 1) (nx := 579) Z (by decide +kernel) rfl rfl ?_
  refine az_arg (i := i) (j := 1) (nx := 584) Z (by decide +kernel) rfl rfl rfl (by omega) ?_
  refine az_arg (i := i) (j := 2) (nx := 589) Z (by decide +kernel) rfl rfl rfl (by omega) ?_
  refine az_callV (i := 66) (as := [_, _]) (st := []) (nx := 592) Z (by decide +kernel) lvZ_66 (hS.k (a := 0) (by decide)) rfl c1 rfl b1 (by decide) ⟨by omega, by omega⟩ (Nat.le_of_ble_eq_true rfl) rfl (fun r h1 hp hn1 => ?_)
  obtain ⟨hS1, x, rfl, d2, P2, c3, b4, hh2⟩ := hh r h1 hp
  refine az_aload (i := 2) (nx := 593) (st := [vi x]) Z (by decide +kernel) rfl rfl ?_
  refine az_arg (i := i) (j := 1) (nx := 598) Z (by decide +kernel) rfl rfl rfl (by omega) ?_
  refine az_arg (i := i) (j := 2) (nx := 603) Z (by decide +kernel) rfl rfl rfl (by omega) ?_
  refine az_callV (i := 69) (as := [_, _]) (st := [vi x]) (nx := 606) Z (by decide +kernel) lvZ_69 (hS1.k (a := 69) (by decide)) rfl c3 rfl b4 (by decide) ⟨by omega, by omega⟩ (Nat.le_of_ble_eq_true rfl) rfl (fun r2 h2 hp2 hn2 => ?_)
  obtain ⟨rfl, hC2⟩ := hh2 r2 h2 hp2
  refine az_same (x := x) (off := 509) (tg := 1115) (st := []) Z (by decide +kernel) (by decide) ?_
  exact kk _ _ (by omega) (by omega) hC2
theorem zk_hour {i : Nat} {h : tH} (Z : zX G p s m meth c b L xs) (hi : i + 5 ≤ L) (hop : zOp l G mT_hour mR_hour [vi (zx xs (i + 1)), vi (zx xs (i + 2))] vi h) (hS : tSt h) (hm : h.2.2.2 + 7 ≤ 600000 ∧ c2 + 250 ≤ 7302250) (kk : zN l G p e s m below meth c b c2 i h) : zW l G p e s m below meth c b c2 611 (zls b i) [] h := by
  obtain ⟨d1, mc1, ms1, P1, c1, ⟨b1, b2, b3⟩, hh⟩ := hop
  refine az_aload (i := 1) (nx := 612) Z (by decide +kernel) rfl rfl ?_
  refine az_arg (i := i) (j := 1) (nx := 617) Z (by decide +kernel) rfl rfl rfl (by omega) ?_
  refine az_arg (i := i) (j := 2) (nx := 622) Z (by decide +kernel) rfl rfl rfl (by omega) ?_
  refine az_callV (i := 70) (as := [_, _]) (st := []) (nx := 625) Z (by decide +kernel) lvZ_70 (hS.k (a := 0) (by decide)) rfl c1 rfl b1 (by decide) ⟨by omega, by omega⟩ (Nat.le_of_ble_eq_true rfl) rfl (fun r h1 hp hn1 => ?_)
  obtain ⟨hS1, x, rfl, d2, P2, c3, b4, hh2⟩ := hh r h1 hp
  refine az_aload (i := 2) (nx := 626) (st := [vi x]) Z (by decide +kernel) rfl rfl ?_
  refine az_arg (i := i) (j := 1) (nx := 631) Z (by decide +kernel) rfl rfl rfl (by omega) ?_
  refine az_arg (i := i) (j := 2) (nx := 636) Z (by decide +kernel) rfl rfl rfl (by omega) ?_
  refine az_callV (i := 73) (as := [_, _]) (st := [vi x]) (nx := 639) Z (by decide +kernel) lvZ_73 (hS1.k (a := 69) (by decide)) rfl c3 rfl b4 (by decide) ⟨by omega, by omega⟩ (Nat.le_of_ble_eq_true rfl) rfl (fun r2 h2 hp2 hn2 => ?_)
  obtain ⟨rfl, hC2⟩ := hh2 r2 h2 hp2
  refine az_same (x := x) (off := 476) (tg := 1115) (st := []) Z (by decide +kernel) (by decide) ?_
  exact kk _ _ (by omega) (by omega) hC2
theorem zk_day {i : Nat} {h : tH} (Z : zX G p s m meth c b L xs) (hi : i + 5 ≤ L) (hop : zOp l G mT_day mR_day [vi (zx xs (i + 1))] vi h) (hS : tSt h) (hm : h.2.2.2 + 7 ≤ 600000 ∧ c2 + 250 ≤ 7302250) (kk : zN l G p e s m below meth c b c2 i h) : zW l G p e s m below meth c b c2 644 (zls b i) [] h := by
  obtain ⟨d1, mc1, ms1, P1, c1, ⟨b1, b2, b3⟩, hh⟩ := hop
  refine az_aload (i := 1) (nx := 645) Z (by decide +kernel) rfl rfl ?_
  refine az_arg (i := i) (j := 1) (nx := 650) Z (by decide +kernel) rfl rfl rfl (by omega) ?_
  refine az_callV (i := 74) (as := [_]) (st := []) (nx := 653) Z (by decide +kernel) lvZ_74 (hS.k (a := 0) (by decide)) rfl c1 rfl b1 (by decide) ⟨by omega, by omega⟩ (Nat.le_of_ble_eq_true rfl) rfl (fun r h1 hp hn1 => ?_)
  obtain ⟨hS1, x, rfl, d2, P2, c3, b4, hh2⟩ := hh r h1 hp
  refine az_aload (i := 2) (nx := 654) (st := [vi x]) Z (by decide +kernel) rfl rfl ?_
  refine az_arg (i := i) (j := 1) (nx := 659) Z (by decide +kernel) rfl rfl rfl (by omega) ?_
  refine az_callV (i := 77) (as := [_]) (st := [vi x]) (nx := 662) Z (by decide +kernel) lvZ_77 (hS1.k (a := 69) (by decide)) rfl c3 rfl b4 (by decide) ⟨by omega, by omega⟩ (Nat.le_of_ble_eq_true rfl) rfl (fun r2 h2 hp2 hn2 => ?_)
  obtain ⟨rfl, hC2⟩ := hh2 r2 h2 hp2
  refine az_same (x := x) (off := 453) (tg := 1115) (st := []) Z (by decide +kernel) (by decide) ?_
  exact kk _ _ (by omega) (by omega) hC2
theorem zk_change {i : Nat} {h : tH} (Z : zX G p s m meth c b L xs) (hi : i + 5 ≤ L) (hop : zOp l G mT_change mR_change [vi (zx xs (i + 1))] vi h) (hS : tSt h) (hm : h.2.2.2 + 7 ≤ 600000 ∧ c2 + 250 ≤ 7302250) (kk : zN l G p e s m below meth c b c2 i h) : zW l G p e s m below meth c b c2 667 (zls b i) [] h := by
  obtain ⟨d1, mc1, ms1, P1, c1, ⟨b1, b2, b3⟩, hh⟩ := hop
  refine az_aload (i := 1) (nx := 668) Z (by decide +kernel) rfl rfl ?_
  refine az_arg (i := i) (j := 1) (nx := 673) Z (by decide +kernel) rfl rfl rfl (by omega) ?_
  refine az_callV (i := 78) (as := [_]) (st := []) (nx := 676) Z (by decide +kernel) lvZ_78 (hS.k (a := 0) (by decide)) rfl c1 rfl b1 (by decide) ⟨by omega, by omega⟩ (Nat.le_of_ble_eq_true rfl) rfl (fun r h1 hp hn1 => ?_)
  obtain ⟨hS1, x, rfl, d2, P2, c3, b4, hh2⟩ := hh r h1 hp
  refine az_aload (i := 2) (nx := 677) (st := [vi x]) Z (by decide +kernel) rfl rfl ?_
  refine az_arg (i := i) (j := 1) (nx := 682) Z (by decide +kernel) rfl rfl rfl (by omega) ?_
  refine az_callV (i := 81) (as := [_]) (st := [vi x]) (nx := 685) Z (by decide +kernel) lvZ_81 (hS1.k (a := 69) (by decide)) rfl c3 rfl b4 (by decide) ⟨by omega, by omega⟩ (Nat.le_of_ble_eq_true rfl) rfl (fun r2 h2 hp2 hn2 => ?_)
  obtain ⟨rfl, hC2⟩ := hh2 r2 h2 hp2
  refine az_same (x := x) (off := 430) (tg := 1115) (st := []) Z (by decide +kernel) (by decide) ?_
  exact kk _ _ (by omega) (by omega) hC2
theorem zk_away {i : Nat} {h : tH} (Z : zX G p s m meth c b L xs) (hi : i + 5 ≤ L) (hop : zOp l G mT_away mR_away [vi (zx xs (i + 1))] vi h) (hS : tSt h) (hm : h.2.2.2 + 7 ≤ 600000 ∧ c2 + 250 ≤ 7302250) (kk : zN l G p e s m below meth c b c2 i h) : zW l G p e s m below meth c b c2 690 (zls b i) [] h := by
  obtain ⟨d1, mc1, ms1, P1, c1, ⟨b1, b2, b3⟩, hh⟩ := hop
  refine az_aload (i := 1) (nx := 691) Z (by decide +kernel) rfl rfl ?_
  refine az_arg (i := i) (j := 1) (nx := 696) Z (by decide +kernel) rfl rfl rfl (by omega) ?_
  refine az_callV (i := 82) (as := [_]) (st := []) (nx := 699) Z (by decide +kernel) lvZ_82 (hS.k (a := 0) (by decide)) rfl c1 rfl b1 (by decide) ⟨by omega, by omega⟩ (Nat.le_of_ble_eq_true rfl) rfl (fun r h1 hp hn1 => ?_)
  obtain ⟨hS1, x, rfl, d2, P2, c3, b4, hh2⟩ := hh r h1 hp
  refine az_aload (i := 2) (nx := 700) (st := [vi x]) Z (by decide +kernel) rfl rfl ?_
  refine az_arg (i := i) (j := 1) (nx := 705) Z (by decide +kernel) rfl rfl rfl (by omega) ?_
  refine az_callV (i := 85) (as := [_]) (st := [vi x]) (nx := 708) Z (by decide +kernel) lvZ_85 (hS1.k (a := 69) (by decide)) rfl c3 rfl b4 (by decide) ⟨by omega, by omega⟩ (Nat.le_of_ble_eq_true rfl) rfl (fun r2 h2 hp2 hn2 => ?_)
  obtain ⟨rfl, hC2⟩ := hh2 r2 h2 hp2
  refine az_same (x := x) (off := 407) (tg := 1115) (st := []) Z (by decide +kernel) (by decide) ?_
  exact kk _ _ (by omega) (by omega) hC2
theorem zk_worst {i : Nat} {h : tH} (Z : zX G p s m meth c b L xs) (hi : i + 5 ≤ L) (hop : zOp l G mT_worst mR_worst [] vi h) (hS : tSt h) (hm : h.2.2.2 + 7 ≤ 600000 ∧ c2 + 250 ≤ 7302250) (kk : zN l G p e s m below meth c b c2 i h) : zW l G p e s m below meth c b c2 713 (zls b i) [] h := by
  obtain ⟨d1, mc1, ms1, P1, c1, ⟨b1, b2, b3⟩, hh⟩ := hop
  refine az_aload (i := 1) (nx := 714) Z (by decide +kernel) rfl rfl ?_
  refine az_callV (i := 86) (as := []) (st := []) (nx := 717) Z (by decide +kernel) lvZ_86 (hS.k (a := 0) (by decide)) rfl c1 rfl b1 (by decide) ⟨by omega, by omega⟩ (Nat.le_of_ble_eq_true rfl) rfl (fun r h1 hp hn1 => ?_)
  obtain ⟨hS1, x, rfl, d2, P2, c3, b4, hh2⟩ := hh r h1 hp
  refine az_aload (i := 2) (nx := 718) (st := [vi x]) Z (by decide +kernel) rfl rfl ?_
  refine az_callV (i := 89) (as := []) (st := [vi x]) (nx := 721) Z (by decide +kernel) lvZ_89 (hS1.k (a := 69) (by decide)) rfl c3 rfl b4 (by decide) ⟨by omega, by omega⟩ (Nat.le_of_ble_eq_true rfl) rfl (fun r2 h2 hp2 hn2 => ?_)
  obtain ⟨rfl, hC2⟩ := hh2 r2 h2 hp2
  refine az_same (x := x) (off := 394) (tg := 1115) (st := []) Z (by decide +kernel) (by decide) ?_
  exact kk _ _ (by omega) (by omega) hC2
theorem zk_join {i : Nat} {h : tH} (Z : zX G p s m meth c b L xs) (hi : i + 5 ≤ L) (hop : zOp l G mT_join mR_join [vi (zx xs (i + 1))] vi h) (hS : tSt h) (hm : h.2.2.2 + 7 ≤ 600000 ∧ c2 + 250 ≤ 7302250) (kk : zN l G p e s m below meth c b c2 i h) : zW l G p e s m below meth c b c2 726 (zls b i) [] h := by
  obtain ⟨d1, mc1, ms1, P1, c1, ⟨b1, b2, b3⟩, hh⟩ := hop
  refine az_aload (i := 1) (nx := 727) Z (by decide +kernel) rfl rfl ?_
  refine az_arg (i := i) (j := 1) (nx := 732) Z (by decide +kernel) rfl rfl rfl (by omega) ?_
  refine az_callV (i := 90) (as := [_]) (st := []) (nx := 735) Z (by decide +kernel) lvZ_90 (hS.k (a := 0) (by decide)) rfl c1 rfl b1 (by decide) ⟨by omega, by omega⟩ (Nat.le_of_ble_eq_true rfl) rfl (fun r h1 hp hn1 => ?_)
  obtain ⟨hS1, x, rfl, d2, P2, c3, b4, hh2⟩ := hh r h1 hp
  refine az_aload (i := 2) (nx := 736) (st := [vi x]) Z (by decide +kernel) rfl rfl ?_
  refine az_arg (i := i) (j := 1) (nx := 741) Z (by decide +kernel) rfl rfl rfl (by omega) ?_
  refine az_callV (i := 93) (as := [_]) (st := [vi x]) (nx := 744) Z (by decide +kernel) lvZ_93 (hS1.k (a := 69) (by decide)) rfl c3 rfl b4 (by decide) ⟨by omega, by omega⟩ (Nat.le_of_ble_eq_true rfl) rfl (fun r2 h2 hp2 hn2 => ?_)
  obtain ⟨rfl, hC2⟩ := hh2 r2 h2 hp2
  refine az_same (x := x) (off := 371) (tg := 1115) (st := []) Z (by decide +kernel) (by decide) ?_
  exact kk _ _ (by omega) (by omega) hC2
theorem zk_trial {i : Nat} {h : tH} (Z : zX G p s m meth c b L xs) (hi : i + 5 ≤ L) (hop : zOp l G mT_trial mR_trial [vi (zx xs (i + 1)), vi (zx xs (i + 2)), vi (if zx xs (i + 3) = 0 then 0 else 1)] vi h) (hS : tSt h) (hm : h.2.2.2 + 7 ≤ 600000 ∧ c2 + 250 ≤ 7302250) (kk : zN l G p e s m below meth c b c2 i h) : zW l G p e s m below meth c b c2 749 (zls b i) [] h := by
  obtain ⟨d1, mc1, ms1, P1, c1, ⟨b1, b2, b3⟩, hh⟩ := hop
  refine az_aload (i := 1) (nx := 750) Z (by decide +kernel) rfl rfl ?_
  refine az_arg (i := i) (j := 1) (nx := 755) Z (by decide +kernel) rfl rfl rfl (by omega) ?_
  refine az_arg (i := i) (j := 2) (nx := 760) Z (by decide +kernel) rfl rfl rfl (by omega) ?_
  refine az_arg (i := i) (j := 3) (nx := 765) Z (by decide +kernel) rfl rfl rfl (by omega) ?_
  refine az_bool (nx := 773) Z ⟨(by decide +kernel), (by decide +kernel), (by decide +kernel), (by decide +kernel)⟩ rfl zx_tr ?_
  refine az_callV (i := 94) (as := [_, _, _]) (st := []) (nx := 776) Z (by decide +kernel) lvZ_94 (hS.k (a := 0) (by decide)) rfl c1 rfl b1 (by decide) ⟨by omega, by omega⟩ (Nat.le_of_ble_eq_true rfl) rfl (fun r h1 hp hn1 => ?_)
  obtain ⟨hS1, x, rfl, d2, P2, c3, b4, hh2⟩ := hh r h1 hp
  refine az_aload (i := 2) (nx := 777) (st := [vi x]) Z (by decide +kernel) rfl rfl ?_
  refine az_arg (i := i) (j := 1) (nx := 782) Z (by decide +kernel) rfl rfl rfl (by omega) ?_
  refine az_arg (i := i) (j := 2) (nx := 787) Z (by decide +kernel) rfl rfl rfl (by omega) ?_
  refine az_arg (i := i) (j := 3) (nx := 792) Z (by decide +kernel) rfl rfl rfl (by omega) ?_
  refine az_bool (nx := 800) Z ⟨(by decide +kernel), (by decide +kernel), (by decide +kernel), (by decide +kernel)⟩ rfl zx_tr ?_
  refine az_callV (i := 98) (as := [_, _, _]) (st := [vi x]) (nx := 803) Z (by decide +kernel) lvZ_98 (hS1.k (a := 69) (by decide)) rfl c3 rfl b4 (by decide) ⟨by omega, by omega⟩ (Nat.le_of_ble_eq_true rfl) rfl (fun r2 h2 hp2 hn2 => ?_)
  obtain ⟨rfl, hC2⟩ := hh2 r2 h2 hp2
  refine az_same (x := x) (off := 312) (tg := 1115) (st := []) Z (by decide +kernel) (by decide) ?_
  exact kk _ _ (by omega) (by omega) hC2
theorem zk_clear {i : Nat} {h : tH} (Z : zX G p s m meth c b L xs) (hi : i + 5 ≤ L) (hop : zOp l G mT_clear mR_clear [] vi h) (hS : tSt h) (hm : h.2.2.2 + 7 ≤ 600000 ∧ c2 + 250 ≤ 7302250) (kk : zN l G p e s m below meth c b c2 i h) : zW l G p e s m below meth c b c2 808 (zls b i) [] h := by
  obtain ⟨d1, mc1, ms1, P1, c1, ⟨b1, b2, b3⟩, hh⟩ := hop
  refine az_aload (i := 1) (nx := 809) Z (by decide +kernel) rfl rfl ?_
  refine az_callV (i := 99) (as := []) (st := []) (nx := 812) Z (by decide +kernel) lvZ_99 (hS.k (a := 0) (by decide)) rfl c1 rfl b1 (by decide) ⟨by omega, by omega⟩ (Nat.le_of_ble_eq_true rfl) rfl (fun r h1 hp hn1 => ?_)
  obtain ⟨hS1, x, rfl, d2, P2, c3, b4, hh2⟩ := hh r h1 hp
  refine az_aload (i := 2) (nx := 813) (st := [vi x]) Z (by decide +kernel) rfl rfl ?_
  refine az_callV (i := 102) (as := []) (st := [vi x]) (nx := 816) Z (by decide +kernel) lvZ_102 (hS1.k (a := 69) (by decide)) rfl c3 rfl b4 (by decide) ⟨by omega, by omega⟩ (Nat.le_of_ble_eq_true rfl) rfl (fun r2 h2 hp2 hn2 => ?_)
  obtain ⟨rfl, hC2⟩ := hh2 r2 h2 hp2
  refine az_same (x := x) (off := 299) (tg := 1115) (st := []) Z (by decide +kernel) (by decide) ?_
  exact kk _ _ (by omega) (by omega) hC2
theorem zk_find {i : Nat} {h : tH} (Z : zX G p s m meth c b L xs) (hi : i + 5 ≤ L) (hop : zOp l G mT_find mR_find [vi (zx xs (i + 1))] vi h) (hS : tSt h) (hm : h.2.2.2 + 7 ≤ 600000 ∧ c2 + 250 ≤ 7302250) (kk : zN l G p e s m below meth c b c2 i h) : zW l G p e s m below meth c b c2 821 (zls b i) [] h := by
  obtain ⟨d1, mc1, ms1, P1, c1, ⟨b1, b2, b3⟩, hh⟩ := hop
  refine az_aload (i := 1) (nx := 822) Z (by decide +kernel) rfl rfl ?_
  refine az_arg (i := i) (j := 1) (nx := 827) Z (by decide +kernel) rfl rfl rfl (by omega) ?_
  refine az_callV (i := 103) (as := [_]) (st := []) (nx := 830) Z (by decide +kernel) lvZ_103 (hS.k (a := 0) (by decide)) rfl c1 rfl b1 (by decide) ⟨by omega, by omega⟩ (Nat.le_of_ble_eq_true rfl) rfl (fun r h1 hp hn1 => ?_)
  obtain ⟨hS1, x, rfl, d2, P2, c3, b4, hh2⟩ := hh r h1 hp
  refine az_aload (i := 2) (nx := 831) (st := [vi x]) Z (by decide +kernel) rfl rfl ?_
  refine az_arg (i := i) (j := 1) (nx := 836) Z (by decide +kernel) rfl rfl rfl (by omega) ?_
  refine az_callV (i := 106) (as := [_]) (st := [vi x]) (nx := 839) Z (by decide +kernel) lvZ_106 (hS1.k (a := 69) (by decide)) rfl c3 rfl b4 (by decide) ⟨by omega, by omega⟩ (Nat.le_of_ble_eq_true rfl) rfl (fun r2 h2 hp2 hn2 => ?_)
  obtain ⟨rfl, hC2⟩ := hh2 r2 h2 hp2
  refine az_same (x := x) (off := 276) (tg := 1115) (st := []) Z (by decide +kernel) (by decide) ?_
  exact kk _ _ (by omega) (by omega) hC2
theorem zk_fits {i : Nat} {h : tH} (Z : zX G p s m meth c b L xs) (hi : i + 5 ≤ L) (hop : zOp l G mT_fits mR_fits [vi (zx xs (i + 1))] vi h) (hS : tSt h) (hm : h.2.2.2 + 7 ≤ 600000 ∧ c2 + 250 ≤ 7302250) (kk : zN l G p e s m below meth c b c2 i h) : zW l G p e s m below meth c b c2 844 (zls b i) [] h := by
  obtain ⟨d1, mc1, ms1, P1, c1, ⟨b1, b2, b3⟩, hh⟩ := hop
  refine az_aload (i := 1) (nx := 845) Z (by decide +kernel) rfl rfl ?_
  refine az_arg (i := i) (j := 1) (nx := 850) Z (by decide +kernel) rfl rfl rfl (by omega) ?_
  refine az_callV (i := 107) (as := [_]) (st := []) (nx := 853) Z (by decide +kernel) lvZ_107 (hS.k (a := 0) (by decide)) rfl c1 rfl b1 (by decide) ⟨by omega, by omega⟩ (Nat.le_of_ble_eq_true rfl) rfl (fun r h1 hp hn1 => ?_)
  obtain ⟨hS1, x, rfl, d2, P2, c3, b4, hh2⟩ := hh r h1 hp
  refine az_aload (i := 2) (nx := 854) (st := [vi x]) Z (by decide +kernel) rfl rfl ?_
  refine az_arg (i := i) (j := 1) (nx := 859) Z (by decide +kernel) rfl rfl rfl (by omega) ?_
  refine az_callV (i := 110) (as := [_]) (st := [vi x]) (nx := 862) Z (by decide +kernel) lvZ_110 (hS1.k (a := 69) (by decide)) rfl c3 rfl b4 (by decide) ⟨by omega, by omega⟩ (Nat.le_of_ble_eq_true rfl) rfl (fun r2 h2 hp2 hn2 => ?_)
  obtain ⟨rfl, hC2⟩ := hh2 r2 h2 hp2
  refine az_same (x := x) (off := 253) (tg := 1115) (st := []) Z (by decide +kernel) (by decide) ?_
  exact kk _ _ (by omega) (by omega) hC2
theorem zk_once {i : Nat} {h : tH} (Z : zX G p s m meth c b L xs) (hi : i + 5 ≤ L) (hop : zOp l G mT_once mR_once [vi (zx xs (i + 1)), vi (zx xs (i + 2)), vi (zx xs (i + 3)), vi (zx xs (i + 4))] vl h) (hS : tSt h) (hm : h.2.2.2 + 7 ≤ 600000 ∧ c2 + 250 ≤ 7302250) (kk : zN l G p e s m below meth c b c2 i h) : zW l G p e s m below meth c b c2 867 (zls b i) [] h := by
  obtain ⟨d1, mc1, ms1, P1, c1, ⟨b1, b2, b3⟩, hh⟩ := hop
  refine az_aload (i := 1) (nx := 868) Z (by decide +kernel) rfl rfl ?_
  refine az_arg (i := i) (j := 1) (nx := 873) Z (by decide +kernel) rfl rfl rfl (by omega) ?_
  refine az_arg (i := i) (j := 2) (nx := 878) Z (by decide +kernel) rfl rfl rfl (by omega) ?_
  refine az_arg (i := i) (j := 3) (nx := 883) Z (by decide +kernel) rfl rfl rfl (by omega) ?_
  refine az_arg (i := i) (j := 4) (nx := 888) Z (by decide +kernel) rfl rfl rfl (by omega) ?_
  refine az_callV (i := 111) (as := [_, _, _, _]) (st := []) (nx := 891) Z (by decide +kernel) lvZ_111 (hS.k (a := 0) (by decide)) rfl c1 rfl b1 (by decide) ⟨by omega, by omega⟩ (Nat.le_of_ble_eq_true rfl) rfl (fun r h1 hp hn1 => ?_)
  obtain ⟨hS1, x, rfl, d2, P2, c3, b4, hh2⟩ := hh r h1 hp
  refine az_aload (i := 2) (nx := 892) (st := [vl x]) Z (by decide +kernel) rfl rfl ?_
  refine az_arg (i := i) (j := 1) (nx := 897) Z (by decide +kernel) rfl rfl rfl (by omega) ?_
  refine az_arg (i := i) (j := 2) (nx := 902) Z (by decide +kernel) rfl rfl rfl (by omega) ?_
  refine az_arg (i := i) (j := 3) (nx := 907) Z (by decide +kernel) rfl rfl rfl (by omega) ?_
  refine az_arg (i := i) (j := 4) (nx := 912) Z (by decide +kernel) rfl rfl rfl (by omega) ?_
  refine az_callV (i := 115) (as := [_, _, _, _]) (st := [vl x]) (nx := 915) Z (by decide +kernel) lvZ_115 (hS1.k (a := 69) (by decide)) rfl c3 rfl b4 (by decide) ⟨by omega, by omega⟩ (Nat.le_of_ble_eq_true rfl) rfl (fun r2 h2 hp2 hn2 => ?_)
  obtain ⟨rfl, hC2⟩ := hh2 r2 h2 hp2
  refine az_lcmp (x := x) (st := []) (nx := 916) Z (by decide +kernel) rfl ?_
  refine az_ifeq (x := 0) (off := 199) (tg := 1115) (nx := 919) (st := []) Z (by decide +kernel) rfl (by decide) (by decide) (fun _ => ?_) (fun q => absurd rfl q)
  exact kk _ _ (by omega) (by omega) hC2
theorem zk_book {i : Nat} {h : tH} (Z : zX G p s m meth c b L xs) (hi : i + 5 ≤ L) (hop : zOp l G mT_book mR_book [vi (zx xs (i + 1)), vi (zx xs (i + 2))] vi h) (hS : tSt h) (hm : h.2.2.2 + 7 ≤ 600000 ∧ c2 + 250 ≤ 7302250) (kk : zN l G p e s m below meth c b c2 i h) : zW l G p e s m below meth c b c2 921 (zls b i) [] h := by
  obtain ⟨d1, mc1, ms1, P1, c1, ⟨b1, b2, b3⟩, hh⟩ := hop
  refine az_aload (i := 1) (nx := 922) Z (by decide +kernel) rfl rfl ?_
  refine az_arg (i := i) (j := 1) (nx := 927) Z (by decide +kernel) rfl rfl rfl (by omega) ?_
  refine az_arg (i := i) (j := 2) (nx := 932) Z (by decide +kernel) rfl rfl rfl (by omega) ?_
  refine az_callV (i := 116) (as := [_, _]) (st := []) (nx := 935) Z (by decide +kernel) lvZ_116 (hS.k (a := 0) (by decide)) rfl c1 rfl b1 (by decide) ⟨by omega, by omega⟩ (Nat.le_of_ble_eq_true rfl) rfl (fun r h1 hp hn1 => ?_)
  obtain ⟨hS1, x, rfl, d2, P2, c3, b4, hh2⟩ := hh r h1 hp
  refine az_aload (i := 2) (nx := 936) (st := [vi x]) Z (by decide +kernel) rfl rfl ?_
  refine az_arg (i := i) (j := 1) (nx := 941) Z (by decide +kernel) rfl rfl rfl (by omega) ?_
  refine az_arg (i := i) (j := 2) (nx := 946) Z (by decide +kernel) rfl rfl rfl (by omega) ?_
  refine az_callV (i := 119) (as := [_, _]) (st := [vi x]) (nx := 949) Z (by decide +kernel) lvZ_119 (hS1.k (a := 69) (by decide)) rfl c3 rfl b4 (by decide) ⟨by omega, by omega⟩ (Nat.le_of_ble_eq_true rfl) rfl (fun r2 h2 hp2 hn2 => ?_)
  obtain ⟨rfl, hC2⟩ := hh2 r2 h2 hp2
  refine az_same (x := x) (off := 166) (tg := 1115) (st := []) Z (by decide +kernel) (by decide) ?_
  exact kk _ _ (by omega) (by omega) hC2
theorem zk_looked {i : Nat} {h : tH} (Z : zX G p s m meth c b L xs) (hi : i + 5 ≤ L) (hop : zOp l G mT_looked mR_looked [] vi h) (hS : tSt h) (hm : h.2.2.2 + 7 ≤ 600000 ∧ c2 + 250 ≤ 7302250) (kk : zN l G p e s m below meth c b c2 i h) : zW l G p e s m below meth c b c2 954 (zls b i) [] h := by
  obtain ⟨d1, mc1, ms1, P1, c1, ⟨b1, b2, b3⟩, hh⟩ := hop
  refine az_aload (i := 1) (nx := 955) Z (by decide +kernel) rfl rfl ?_
  refine az_callV (i := 120) (as := []) (st := []) (nx := 958) Z (by decide +kernel) lvZ_120 (hS.k (a := 0) (by decide)) rfl c1 rfl b1 (by decide) ⟨by omega, by omega⟩ (Nat.le_of_ble_eq_true rfl) rfl (fun r h1 hp hn1 => ?_)
  obtain ⟨hS1, x, rfl, d2, P2, c3, b4, hh2⟩ := hh r h1 hp
  refine az_aload (i := 2) (nx := 959) (st := [vi x]) Z (by decide +kernel) rfl rfl ?_
  refine az_callV (i := 123) (as := []) (st := [vi x]) (nx := 962) Z (by decide +kernel) lvZ_123 (hS1.k (a := 69) (by decide)) rfl c3 rfl b4 (by decide) ⟨by omega, by omega⟩ (Nat.le_of_ble_eq_true rfl) rfl (fun r2 h2 hp2 hn2 => ?_)
  obtain ⟨rfl, hC2⟩ := hh2 r2 h2 hp2
  refine az_same (x := x) (off := 153) (tg := 1115) (st := []) Z (by decide +kernel) (by decide) ?_
  exact kk _ _ (by omega) (by omega) hC2
theorem zk_act {i : Nat} {h : tH} (Z : zX G p s m meth c b L xs) (hi : i + 5 ≤ L) (hop : zOp l G mT_act mR_act [vi (zx xs (i + 1)), vi (zx xs (i + 2)), vi (zx xs (i + 3))] vi h) (hS : tSt h) (hm : h.2.2.2 + 7 ≤ 600000 ∧ c2 + 250 ≤ 7302250) (kk : zN l G p e s m below meth c b c2 i h) : zW l G p e s m below meth c b c2 967 (zls b i) [] h := by
  obtain ⟨d1, mc1, ms1, P1, c1, ⟨b1, b2, b3⟩, hh⟩ := hop
  refine az_aload (i := 1) (nx := 968) Z (by decide +kernel) rfl rfl ?_
  refine az_arg (i := i) (j := 1) (nx := 973) Z (by decide +kernel) rfl rfl rfl (by omega) ?_
  refine az_arg (i := i) (j := 2) (nx := 978) Z (by decide +kernel) rfl rfl rfl (by omega) ?_
  refine az_arg (i := i) (j := 3) (nx := 983) Z (by decide +kernel) rfl rfl rfl (by omega) ?_
  refine az_callV (i := 124) (as := [_, _, _]) (st := []) (nx := 986) Z (by decide +kernel) lvZ_124 (hS.k (a := 0) (by decide)) rfl c1 rfl b1 (by decide) ⟨by omega, by omega⟩ (Nat.le_of_ble_eq_true rfl) rfl (fun r h1 hp hn1 => ?_)
  obtain ⟨hS1, x, rfl, d2, P2, c3, b4, hh2⟩ := hh r h1 hp
  refine az_aload (i := 2) (nx := 987) (st := [vi x]) Z (by decide +kernel) rfl rfl ?_
  refine az_arg (i := i) (j := 1) (nx := 992) Z (by decide +kernel) rfl rfl rfl (by omega) ?_
  refine az_arg (i := i) (j := 2) (nx := 997) Z (by decide +kernel) rfl rfl rfl (by omega) ?_
  refine az_arg (i := i) (j := 3) (nx := 1002) Z (by decide +kernel) rfl rfl rfl (by omega) ?_
  refine az_callV (i := 127) (as := [_, _, _]) (st := [vi x]) (nx := 1005) Z (by decide +kernel) lvZ_127 (hS1.k (a := 69) (by decide)) rfl c3 rfl b4 (by decide) ⟨by omega, by omega⟩ (Nat.le_of_ble_eq_true rfl) rfl (fun r2 h2 hp2 hn2 => ?_)
  obtain ⟨rfl, hC2⟩ := hh2 r2 h2 hp2
  refine az_same (x := x) (off := 110) (tg := 1115) (st := []) Z (by decide +kernel) (by decide) ?_
  exact kk _ _ (by omega) (by omega) hC2
theorem zk_trace {i : Nat} {h : tH} (Z : zX G p s m meth c b L xs) (hi : i + 5 ≤ L) (hop : zOp l G mT_trace mR_trace [vi (zx xs (i + 1))] vi h) (hS : tSt h) (hm : h.2.2.2 + 7 ≤ 600000 ∧ c2 + 250 ≤ 7302250) (kk : zN l G p e s m below meth c b c2 i h) : zW l G p e s m below meth c b c2 1010 (zls b i) [] h := by
  obtain ⟨d1, mc1, ms1, P1, c1, ⟨b1, b2, b3⟩, hh⟩ := hop
  refine az_aload (i := 1) (nx := 1011) Z (by decide +kernel) rfl rfl ?_
  refine az_arg (i := i) (j := 1) (nx := 1016) Z (by decide +kernel) rfl rfl rfl (by omega) ?_
  refine az_callV (i := 128) (as := [_]) (st := []) (nx := 1019) Z (by decide +kernel) lvZ_128 (hS.k (a := 0) (by decide)) rfl c1 rfl b1 (by decide) ⟨by omega, by omega⟩ (Nat.le_of_ble_eq_true rfl) rfl (fun r h1 hp hn1 => ?_)
  obtain ⟨hS1, x, rfl, d2, P2, c3, b4, hh2⟩ := hh r h1 hp
  refine az_aload (i := 2) (nx := 1020) (st := [vi x]) Z (by decide +kernel) rfl rfl ?_
  refine az_arg (i := i) (j := 1) (nx := 1025) Z (by decide +kernel) rfl rfl rfl (by omega) ?_
  refine az_callV (i := 131) (as := [_]) (st := [vi x]) (nx := 1028) Z (by decide +kernel) lvZ_131 (hS1.k (a := 69) (by decide)) rfl c3 rfl b4 (by decide) ⟨by omega, by omega⟩ (Nat.le_of_ble_eq_true rfl) rfl (fun r2 h2 hp2 hn2 => ?_)
  obtain ⟨rfl, hC2⟩ := hh2 r2 h2 hp2
  refine az_same (x := x) (off := 87) (tg := 1115) (st := []) Z (by decide +kernel) (by decide) ?_
  exact kk _ _ (by omega) (by omega) hC2
theorem zk_as {i : Nat} {h : tH} (Z : zX G p s m meth c b L xs) (hi : i + 5 ≤ L) (hop : zOp l G mT_as mR_as [vi (zx xs (i + 1)), vi (zx xs (i + 2))] vi h) (hS : tSt h) (hm : h.2.2.2 + 7 ≤ 600000 ∧ c2 + 250 ≤ 7302250) (kk : zN l G p e s m below meth c b c2 i h) : zW l G p e s m below meth c b c2 1033 (zls b i) [] h := by
  obtain ⟨d1, mc1, ms1, P1, c1, ⟨b1, b2, b3⟩, hh⟩ := hop
  refine az_aload (i := 1) (nx := 1034) Z (by decide +kernel) rfl rfl ?_
  refine az_arg (i := i) (j := 1) (nx := 1039) Z (by decide +kernel) rfl rfl rfl (by omega) ?_
  refine az_arg (i := i) (j := 2) (nx := 1044) Z (by decide +kernel) rfl rfl rfl (by omega) ?_
  refine az_callV (i := 132) (as := [_, _]) (st := []) (nx := 1047) Z (by decide +kernel) lvZ_132 (hS.k (a := 0) (by decide)) rfl c1 rfl b1 (by decide) ⟨by omega, by omega⟩ (Nat.le_of_ble_eq_true rfl) rfl (fun r h1 hp hn1 => ?_)
  obtain ⟨hS1, x, rfl, d2, P2, c3, b4, hh2⟩ := hh r h1 hp
  refine az_aload (i := 2) (nx := 1048) (st := [vi x]) Z (by decide +kernel) rfl rfl ?_
  refine az_arg (i := i) (j := 1) (nx := 1053) Z (by decide +kernel) rfl rfl rfl (by omega) ?_
  refine az_arg (i := i) (j := 2) (nx := 1058) Z (by decide +kernel) rfl rfl rfl (by omega) ?_
  refine az_callV (i := 135) (as := [_, _]) (st := [vi x]) (nx := 1061) Z (by decide +kernel) lvZ_135 (hS1.k (a := 69) (by decide)) rfl c3 rfl b4 (by decide) ⟨by omega, by omega⟩ (Nat.le_of_ble_eq_true rfl) rfl (fun r2 h2 hp2 hn2 => ?_)
  obtain ⟨rfl, hC2⟩ := hh2 r2 h2 hp2
  refine az_same (x := x) (off := 54) (tg := 1115) (st := []) Z (by decide +kernel) (by decide) ?_
  exact kk _ _ (by omega) (by omega) hC2
theorem zk_image {i : Nat} {h : tH} (Z : zX G p s m meth c b L xs) (hi : i + 5 ≤ L) (hop : zOp l G mT_image mR_image [] vi h) (hS : tSt h) (hm : h.2.2.2 + 7 ≤ 600000 ∧ c2 + 250 ≤ 7302250) (kk : zN l G p e s m below meth c b c2 i h) : zW l G p e s m below meth c b c2 1066 (zls b i) [] h := by
  obtain ⟨d1, mc1, ms1, P1, c1, ⟨b1, b2, b3⟩, hh⟩ := hop
  refine az_aload (i := 1) (nx := 1067) Z (by decide +kernel) rfl rfl ?_
  refine az_callV (i := 136) (as := []) (st := []) (nx := 1070) Z (by decide +kernel) lvZ_136 (hS.k (a := 0) (by decide)) rfl c1 rfl b1 (by decide) ⟨by omega, by omega⟩ (Nat.le_of_ble_eq_true rfl) rfl (fun r h1 hp hn1 => ?_)
  obtain ⟨hS1, x, rfl, d2, P2, c3, b4, hh2⟩ := hh r h1 hp
  refine az_aload (i := 2) (nx := 1071) (st := [vi x]) Z (by decide +kernel) rfl rfl ?_
  refine az_callV (i := 139) (as := []) (st := [vi x]) (nx := 1074) Z (by decide +kernel) lvZ_139 (hS1.k (a := 69) (by decide)) rfl c3 rfl b4 (by decide) ⟨by omega, by omega⟩ (Nat.le_of_ble_eq_true rfl) rfl (fun r2 h2 hp2 hn2 => ?_)
  obtain ⟨rfl, hC2⟩ := hh2 r2 h2 hp2
  refine az_same (x := x) (off := 41) (tg := 1115) (st := []) Z (by decide +kernel) (by decide) ?_
  exact kk _ _ (by omega) (by omega) hC2
theorem zk_undo {i : Nat} {h : tH} (Z : zX G p s m meth c b L xs) (hi : i + 5 ≤ L) (hop : zOp l G mT_undo mR_undo [] vi h) (hS : tSt h) (hm : h.2.2.2 + 7 ≤ 600000 ∧ c2 + 250 ≤ 7302250) (kk : zN l G p e s m below meth c b c2 i h) : zW l G p e s m below meth c b c2 1079 (zls b i) [] h := by
  obtain ⟨d1, mc1, ms1, P1, c1, ⟨b1, b2, b3⟩, hh⟩ := hop
  refine az_aload (i := 1) (nx := 1080) Z (by decide +kernel) rfl rfl ?_
  refine az_callV (i := 140) (as := []) (st := []) (nx := 1083) Z (by decide +kernel) lvZ_140 (hS.k (a := 0) (by decide)) rfl c1 rfl b1 (by decide) ⟨by omega, by omega⟩ (Nat.le_of_ble_eq_true rfl) rfl (fun r h1 hp hn1 => ?_)
  obtain ⟨hS1, x, rfl, d2, P2, c3, b4, hh2⟩ := hh r h1 hp
  refine az_aload (i := 2) (nx := 1084) (st := [vi x]) Z (by decide +kernel) rfl rfl ?_
  refine az_callV (i := 143) (as := []) (st := [vi x]) (nx := 1087) Z (by decide +kernel) lvZ_143 (hS1.k (a := 69) (by decide)) rfl c3 rfl b4 (by decide) ⟨by omega, by omega⟩ (Nat.le_of_ble_eq_true rfl) rfl (fun r2 h2 hp2 hn2 => ?_)
  obtain ⟨rfl, hC2⟩ := hh2 r2 h2 hp2
  refine az_same (x := x) (off := 28) (tg := 1115) (st := []) Z (by decide +kernel) (by decide) ?_
  exact kk _ _ (by omega) (by omega) hC2
theorem zk_count {i : Nat} {h : tH} (Z : zX G p s m meth c b L xs) (hi : i + 5 ≤ L) (hop : zOp l G mT_count mR_count [vi (zx xs (i + 1))] vi h) (hS : tSt h) (hm : h.2.2.2 + 7 ≤ 600000 ∧ c2 + 250 ≤ 7302250) (kk : zN l G p e s m below meth c b c2 i h) : zW l G p e s m below meth c b c2 1092 (zls b i) [] h := by
  obtain ⟨d1, mc1, ms1, P1, c1, ⟨b1, b2, b3⟩, hh⟩ := hop
  refine az_aload (i := 1) (nx := 1093) Z (by decide +kernel) rfl rfl ?_
  refine az_arg (i := i) (j := 1) (nx := 1098) Z (by decide +kernel) rfl rfl rfl (by omega) ?_
  refine az_callV (i := 144) (as := [_]) (st := []) (nx := 1101) Z (by decide +kernel) lvZ_144 (hS.k (a := 0) (by decide)) rfl c1 rfl b1 (by decide) ⟨by omega, by omega⟩ (Nat.le_of_ble_eq_true rfl) rfl (fun r h1 hp hn1 => ?_)
  obtain ⟨hS1, x, rfl, d2, P2, c3, b4, hh2⟩ := hh r h1 hp
  refine az_aload (i := 2) (nx := 1102) (st := [vi x]) Z (by decide +kernel) rfl rfl ?_
  refine az_arg (i := i) (j := 1) (nx := 1107) Z (by decide +kernel) rfl rfl rfl (by omega) ?_
  refine az_callV (i := 147) (as := [_]) (st := [vi x]) (nx := 1110) Z (by decide +kernel) lvZ_147 (hS1.k (a := 69) (by decide)) rfl c3 rfl b4 (by decide) ⟨by omega, by omega⟩ (Nat.le_of_ble_eq_true rfl) rfl (fun r2 h2 hp2 hn2 => ?_)
  obtain ⟨rfl, hC2⟩ := hh2 r2 h2 hp2
  refine az_same (x := x) (off := 5) (tg := 1115) (st := []) Z (by decide +kernel) (by decide) ?_
  exact kk _ _ (by omega) (by omega) hC2
theorem zd_sw : decode code 32 = .ok (.tableswitch 1083 0 31 #[144, 167, 180, 223, 256, 299, 332, 365, 414, 447, 480, 513, 546, 579, 612, 635, 658, 681, 694, 717, 776, 789, 812, 835, 889, 922, 935, 978, 1001, 1034, 1047, 1060], 144) := by decide +kernel
theorem z_loop (Z : zX G p s m meth c b L xs) : ∀ (k i c2 : Nat) (h : tH), CI h → L < i + 5 * k → i ≤ L + 5 → h.2.2.2 + 7 * k ≤ 600000 → c2 + 250 * k ≤ 7302250 → zW l G p e s m below meth c b c2 18 (zls b i) [] h := by
  have hL : L ≤ 320 := Z.2.2.2
  intro k
  induction k with
  | zero =>
    intro i c2 h hC hi hi2 m1 m2
    refine az_iload (i := 3) (z := (i : Int)) (nx := 19) Z (by decide +kernel) rfl rfl ?_
    refine az_aload (i := 0) (nx := 20) Z (by decide +kernel) rfl rfl ?_
    refine az_len (nx := 21) Z (by decide +kernel) rfl ?_
    refine az_iconst (n := 5) (nx := 22) Z (by decide +kernel) rfl ?_
    refine az_isub (nx := 23) Z (by decide +kernel) rfl ?_
    refine az_gt (off := 1098) (tg := 1121) (nx := 26) (st := []) Z (by decide +kernel) rfl (by decide) (by omega) (by omega) (fun g => ?_) (fun g => ?_)
    · exact az_end Z (by decide +kernel) (by decide +kernel) (by omega) (by omega)
    · exfalso; omega
  | succ k ih =>
    intro i c2 h hC hi hi2 m1 m2
    refine az_iload (i := 3) (z := (i : Int)) (nx := 19) Z (by decide +kernel) rfl rfl ?_
    refine az_aload (i := 0) (nx := 20) Z (by decide +kernel) rfl rfl ?_
    refine az_len (nx := 21) Z (by decide +kernel) rfl ?_
    refine az_iconst (n := 5) (nx := 22) Z (by decide +kernel) rfl ?_
    refine az_isub (nx := 23) Z (by decide +kernel) rfl ?_
    refine az_gt (off := 1098) (tg := 1121) (nx := 26) (st := []) Z (by decide +kernel) rfl (by decide) (by omega) (by omega) (fun g => ?_) (fun g => ?_)
    · exact az_end Z (by decide +kernel) (by decide +kernel) (by omega) (by omega)
    have hi5 : i + 5 ≤ L := by omega
    refine az_aload (i := 0) (nx := 27) Z (by decide +kernel) rfl rfl ?_
    refine az_iload (i := 3) (z := (i : Int)) (nx := 28) Z (by decide +kernel) rfl rfl ?_
    refine az_ld (k := i) (nx := 29) Z (by decide +kernel) rfl (by omega) ?_
    refine az_bipush (n := 31) (nx := 31) Z (by decide +kernel) (by decide) rfl ?_
    refine az_iand (nx := 32) Z (by decide +kernel) rfl ?_
    have hz : 0 ≤ bAnd (zx xs i) 31 ∧ bAnd (zx xs i) 31 ≤ 31 := bAnd_pos (m := 31) (by decide) (zx xs i)
    generalize bAnd (zx xs i) 31 = z at hz ⊢
    have hK : zN l G p e s m below meth c b c2 i h := by
      intro c2' h' a1 a2 a3
      refine az_iinc (i := 3) (z := (i : Int)) (n := 5) (l2 := zls b (i + 5)) (nx := 1118) Z (by decide +kernel) (by decide) rfl rfl rfl ?_
      refine az_goto (off := -1100) (tg := 18) Z (by decide +kernel) (by decide) ?_
      exact ih (i + 5) c2' h' a3 (by omega) (by omega) (by omega) (by omega)
    have hS : tSt h := hC.1
    have hm : h.2.2.2 + 7 ≤ 600000 ∧ c2 + 250 ≤ 7302250 := ⟨by omega, Nat.le_trans (Nat.add_le_add_left (Nat.le_mul_of_pos_right 250 (Nat.succ_pos k)) c2) m2⟩
    rcases (show z = 0 ∨ z = 1 ∨ z = 2 ∨ z = 3 ∨ z = 4 ∨ z = 5 ∨ z = 6 ∨ z = 7 ∨ z = 8 ∨ z = 9 ∨ z = 10 ∨ z = 11 ∨ z = 12 ∨ z = 13 ∨ z = 14 ∨ z = 15 ∨ z = 16 ∨ z = 17 ∨ z = 18 ∨ z = 19 ∨ z = 20 ∨ z = 21 ∨ z = 22 ∨ z = 23 ∨ z = 24 ∨ z = 25 ∨ z = 26 ∨ z = 27 ∨ z = 28 ∨ z = 29 ∨ z = 30 ∨ z = 31 by omega) with rfl | rfl | rfl | rfl | rfl | rfl | rfl | rfl | rfl | rfl | rfl | rfl | rfl | rfl | rfl | rfl | rfl | rfl | rfl | rfl | rfl | rfl | rfl | rfl | rfl | rfl | rfl | rfl | rfl | rfl | rfl | rfl
    · exact az_tsw (off := 144) (t := 176) (st := []) Z zd_sw (by decide) (by decide) (by decide) rfl (by decide) (zk_feed Z hi5 (zo_feed (K := h.1) (I := h.2.1) (Q := h.2.2.1) (n := h.2.2.2) hC zx_tr) hS hm hK)
    · exact az_tsw (off := 167) (t := 199) (st := []) Z zd_sw (by decide) (by decide) (by decide) rfl (by decide) (zk_valley Z hi5 (zo_valley (K := h.1) (I := h.2.1) (Q := h.2.2.1) (n := h.2.2.2) hC ) hS hm hK)
    · exact az_tsw (off := 180) (t := 212) (st := []) Z zd_sw (by decide) (by decide) (by decide) rfl (by decide) (zk_person Z hi5 (zo_person (K := h.1) (I := h.2.1) (Q := h.2.2.1) (n := h.2.2.2) hC zx_tr zx_tr zx_tr) hS hm hK)
    · exact az_tsw (off := 223) (t := 255) (st := []) Z zd_sw (by decide) (by decide) (by decide) rfl (by decide) (zk_free Z hi5 (zo_free (K := h.1) (I := h.2.1) (Q := h.2.2.1) (n := h.2.2.2) hC zx_tr zx_tr) hS hm hK)
    · exact az_tsw (off := 256) (t := 288) (st := []) Z zd_sw (by decide) (by decide) (by decide) rfl (by decide) (zk_row Z hi5 (zo_row (K := h.1) (I := h.2.1) (Q := h.2.2.1) (n := h.2.2.2) hC zx_tr zx_tr zx_tr) hS hm hK)
    · exact az_tsw (off := 299) (t := 331) (st := []) Z zd_sw (by decide) (by decide) (by decide) rfl (by decide) (zk_tool Z hi5 (zo_tool (K := h.1) (I := h.2.1) (Q := h.2.2.1) (n := h.2.2.2) hC zx_tr zx_tr) hS hm hK)
    · exact az_tsw (off := 332) (t := 364) (st := []) Z zd_sw (by decide) (by decide) (by decide) rfl (by decide) (zk_twin Z hi5 (zo_twin (K := h.1) (I := h.2.1) (Q := h.2.2.1) (n := h.2.2.2) hC zx_tr zx_tr) hS hm hK)
    · exact az_tsw (off := 365) (t := 397) (st := []) Z zd_sw (by decide) (by decide) (by decide) rfl (by decide) (zk_broken Z hi5 (zo_broken (K := h.1) (I := h.2.1) (Q := h.2.2.1) (n := h.2.2.2) hC zx_tr (by split <;> simp)) hS hm hK)
    · exact az_tsw (off := 414) (t := 446) (st := []) Z zd_sw (by decide) (by decide) (by decide) rfl (by decide) (zk_give Z hi5 (zo_give (K := h.1) (I := h.2.1) (Q := h.2.2.1) (n := h.2.2.2) hC zx_tr zx_tr) hS hm hK)
    · exact az_tsw (off := 447) (t := 479) (st := []) Z zd_sw (by decide) (by decide) (by decide) rfl (by decide) (zk_of Z hi5 (zo_of (K := h.1) (I := h.2.1) (Q := h.2.2.1) (n := h.2.2.2) hC zx_tr zx_tr) hS hm hK)
    · exact az_tsw (off := 480) (t := 512) (st := []) Z zd_sw (by decide) (by decide) (by decide) rfl (by decide) (zk_who Z hi5 (zo_who (K := h.1) (I := h.2.1) (Q := h.2.2.1) (n := h.2.2.2) hC zx_tr zx_tr) hS hm hK)
    · exact az_tsw (off := 513) (t := 545) (st := []) Z zd_sw (by decide) (by decide) (by decide) rfl (by decide) (zk_at Z hi5 (zo_at (K := h.1) (I := h.2.1) (Q := h.2.2.1) (n := h.2.2.2) hC zx_tr zx_tr) hS hm hK)
    · exact az_tsw (off := 546) (t := 578) (st := []) Z zd_sw (by decide) (by decide) (by decide) rfl (by decide) (zk_worth Z hi5 (zo_worth (K := h.1) (I := h.2.1) (Q := h.2.2.1) (n := h.2.2.2) hC zx_tr zx_tr) hS hm hK)
    · exact az_tsw (off := 579) (t := 611) (st := []) Z zd_sw (by decide) (by decide) (by decide) rfl (by decide) (zk_hour Z hi5 (zo_hour (K := h.1) (I := h.2.1) (Q := h.2.2.1) (n := h.2.2.2) hC zx_tr zx_tr) hS hm hK)
    · exact az_tsw (off := 612) (t := 644) (st := []) Z zd_sw (by decide) (by decide) (by decide) rfl (by decide) (zk_day Z hi5 (zo_day (K := h.1) (I := h.2.1) (Q := h.2.2.1) (n := h.2.2.2) hC zx_tr) hS hm hK)
    · exact az_tsw (off := 635) (t := 667) (st := []) Z zd_sw (by decide) (by decide) (by decide) rfl (by decide) (zk_change Z hi5 (zo_change (K := h.1) (I := h.2.1) (Q := h.2.2.1) (n := h.2.2.2) hC zx_tr) hS hm hK)
    · exact az_tsw (off := 658) (t := 690) (st := []) Z zd_sw (by decide) (by decide) (by decide) rfl (by decide) (zk_away Z hi5 (zo_away (K := h.1) (I := h.2.1) (Q := h.2.2.1) (n := h.2.2.2) hC zx_tr) hS hm hK)
    · exact az_tsw (off := 681) (t := 713) (st := []) Z zd_sw (by decide) (by decide) (by decide) rfl (by decide) (zk_worst Z hi5 (zo_worst (K := h.1) (I := h.2.1) (Q := h.2.2.1) (n := h.2.2.2) hC ) hS hm hK)
    · exact az_tsw (off := 694) (t := 726) (st := []) Z zd_sw (by decide) (by decide) (by decide) rfl (by decide) (zk_join Z hi5 (zo_join (K := h.1) (I := h.2.1) (Q := h.2.2.1) (n := h.2.2.2) hC zx_tr) hS hm hK)
    · exact az_tsw (off := 717) (t := 749) (st := []) Z zd_sw (by decide) (by decide) (by decide) rfl (by decide) (zk_trial Z hi5 (zo_trial (K := h.1) (I := h.2.1) (Q := h.2.2.1) (n := h.2.2.2) hC zx_tr zx_tr (by split <;> simp)) hS hm hK)
    · exact az_tsw (off := 776) (t := 808) (st := []) Z zd_sw (by decide) (by decide) (by decide) rfl (by decide) (zk_clear Z hi5 (zo_clear (K := h.1) (I := h.2.1) (Q := h.2.2.1) (n := h.2.2.2) hC ) hS hm hK)
    · exact az_tsw (off := 789) (t := 821) (st := []) Z zd_sw (by decide) (by decide) (by decide) rfl (by decide) (zk_find Z hi5 (zo_find (K := h.1) (I := h.2.1) (Q := h.2.2.1) (n := h.2.2.2) hC zx_tr) hS hm hK)
    · exact az_tsw (off := 812) (t := 844) (st := []) Z zd_sw (by decide) (by decide) (by decide) rfl (by decide) (zk_fits Z hi5 (zo_fits (K := h.1) (I := h.2.1) (Q := h.2.2.1) (n := h.2.2.2) hC zx_tr) hS hm hK)
    · exact az_tsw (off := 835) (t := 867) (st := []) Z zd_sw (by decide) (by decide) (by decide) rfl (by decide) (zk_once Z hi5 (zo_once (K := h.1) (I := h.2.1) (Q := h.2.2.1) (n := h.2.2.2) hC zx_tr zx_tr zx_tr zx_tr) hS hm hK)
    · exact az_tsw (off := 889) (t := 921) (st := []) Z zd_sw (by decide) (by decide) (by decide) rfl (by decide) (zk_book Z hi5 (zo_book (K := h.1) (I := h.2.1) (Q := h.2.2.1) (n := h.2.2.2) hC zx_tr zx_tr) hS hm hK)
    · exact az_tsw (off := 922) (t := 954) (st := []) Z zd_sw (by decide) (by decide) (by decide) rfl (by decide) (zk_looked Z hi5 (zo_looked (K := h.1) (I := h.2.1) (Q := h.2.2.1) (n := h.2.2.2) hC ) hS hm hK)
    · exact az_tsw (off := 935) (t := 967) (st := []) Z zd_sw (by decide) (by decide) (by decide) rfl (by decide) (zk_act Z hi5 (zo_act (K := h.1) (I := h.2.1) (Q := h.2.2.1) (n := h.2.2.2) hC zx_tr zx_tr) hS hm hK)
    · exact az_tsw (off := 978) (t := 1010) (st := []) Z zd_sw (by decide) (by decide) (by decide) rfl (by decide) (zk_trace Z hi5 (zo_trace (K := h.1) (I := h.2.1) (Q := h.2.2.1) (n := h.2.2.2) hC zx_tr) hS hm hK)
    · exact az_tsw (off := 1001) (t := 1033) (st := []) Z zd_sw (by decide) (by decide) (by decide) rfl (by decide) (zk_as Z hi5 (zo_as (K := h.1) (I := h.2.1) (Q := h.2.2.1) (n := h.2.2.2) hC zx_tr zx_tr) hS hm hK)
    · exact az_tsw (off := 1034) (t := 1066) (st := []) Z zd_sw (by decide) (by decide) (by decide) rfl (by decide) (zk_image Z hi5 (zo_image (K := h.1) (I := h.2.1) (Q := h.2.2.1) (n := h.2.2.2) hC ) hS hm hK)
    · exact az_tsw (off := 1047) (t := 1079) (st := []) Z zd_sw (by decide) (by decide) (by decide) rfl (by decide) (zk_undo Z hi5 (zo_undo (K := h.1) (I := h.2.1) (Q := h.2.2.1) (n := h.2.2.2) hC ) hS hm hK)
    · exact az_tsw (off := 1060) (t := 1092) (st := []) Z zd_sw (by decide) (by decide) (by decide) rfl (by decide) (zk_count Z hi5 (zo_count (K := h.1) (I := h.2.1) (Q := h.2.2.1) (n := h.2.2.2) hC zx_tr) hS hm hK)
end ZK
