set_option maxHeartbeats 400000
/-! A NEW VALLEY, A NEW CUSTOMER, from end to end -/
theorem ff_none {p : Nat → Bool} : ∀ {d i : Nat}, (∀ j, i ≤ j → j < i + d → p j = false) → ff p d i = -1
  | 0, _, _ => rfl
  | d + 1, i, h => by
    unfold ff
    rw [if_neg (by rw [h i (Nat.le_refl _) (by omega)]; decide)]
    exact ff_none (d := d) (i := i + 1) (fun j h1 h2 => h j (by omega) (by omega))
theorem nm_diff {a x y : Nat} (ha : 1 ≤ a ∧ a ≤ 26) (hx : x < 8) (hy : y < 8) (hne : x ≠ y) {q : Int64} {A B : Int32} (h : NmR q A B) (hA : A = nI (pk5 [a, x + 1] / 1048576)) (hB : B = nI (pk5 [a, x + 1] % 1048576)) : ¬ q = lN (pk8 [a, y + 1]) := by
  obtain ⟨ls, h1, h2, h3, h4⟩ := h
  have k1 : okName [a, x + 1] := nm_ok ha hx
  have k2 : okName [a, y + 1] := nm_ok ha hy
  have b1 := pk5_bd h1
  have b2 := pk5_bd k1
  have e1 : pk5 ls / 1048576 = pk5 [a, x + 1] / 1048576 := (nI_eq (by omega) (by omega)).mp (h3.symm.trans hA)
  have e2 : pk5 ls % 1048576 = pk5 [a, x + 1] % 1048576 := (nI_eq (by omega) (by omega)).mp (h4.symm.trans hB)
  have e3 : pk5 ls = pk5 [a, x + 1] := by omega
  have e4 : ls = [a, x + 1] := (nm_eq5 h1 k1).mp (by rw [e3])
  intro z
  have hq : q = lN (pk8 ls) := h2
  rw [hq] at z
  have e5 : ls = [a, y + 1] := (nm_eq8 h1 k2).mp z
  rw [e4] at e5
  have e6 : x + 1 = y + 1 := (List.cons.inj (List.cons.inj e5).2).1
  omega
section NEWNAMES
variable {n : Nat}
theorem new_v (hn : 100 ≤ n) {M : MM} {r : Nat → Int32} {nv nc ns : Nat} {bk : Nat → Nat} (hm : RelM M r nv nc ns bk) (hN : NM r nv nc) (hnv : nv < 8) : FX6_valleyNamed n M (v8 (some [22, nv + 1])) = some (-1) := by
  have e : ff (fun i => decide (M.2 (4 + i) 0 = v8 (some [22, nv + 1]))) nv 0 = -1 := ff_none (fun j _ hj => decide_eq_false (nm_diff (x := j) (by decide) (by omega) hnv (by omega) (hm.vs j (by omega)).name (hN.1 j (by omega)).1 (hN.1 j (by omega)).2))
  rw [← e]
  unfold FX6_valleyNamed
  refine loopX (L := fun k i => FX6_valleyNamed_L2 n k M (v8 (some [22, nv + 1])) i) (fun k => ?_) (fun k i hi => ?_) (by omega)
  · simp only [FX6_valleyNamed_L2]
    rw [hm.v1, if_pos (Int32.le_refl _)]
  · simp only [FX6_valleyNamed_L2]
    rw [hm.v1, if_neg (le_nI hi (by omega)), gd_t (inI (by omega) (by omega)), nI_c (by omega), nI_1]
    by_cases z : M.2 (4 + i) 0 = v8 (some [22, nv + 1])
    · rw [if_pos ((lg_cmp_eq _ _).mpr z), if_pos (decide_eq_true z)]
    · rw [if_neg (fun y => z ((lg_cmp_eq _ _).mp y)), if_neg (by rw [decide_eq_false z]; decide)]
theorem new_c (hn : 100 ≤ n) {M : MM} {r : Nat → Int32} {nv nc ns : Nat} {bk : Nat → Nat} (hm : RelM M r nv nc ns bk) (hN : NM r nv nc) (hnc : nc < 8) : FX6_customerNamed n M (v8 (some [3, nc + 1])) = some (-1) := by
  have e : ff (fun i => decide (M.2 (12 + i) 0 = v8 (some [3, nc + 1]))) nc 0 = -1 := ff_none (fun j _ hj => decide_eq_false (nm_diff (x := j) (by decide) (by omega) hnc (by omega) (hm.cs j (by omega)).name (hN.2 j (by omega)).1 (hN.2 j (by omega)).2))
  rw [← e]
  unfold FX6_customerNamed
  refine loopX (L := fun k i => FX6_customerNamed_L2 n k M (v8 (some [3, nc + 1])) i) (fun k => ?_) (fun k i hi => ?_) (by omega)
  · simp only [FX6_customerNamed_L2]
    rw [hm.c1, if_pos (Int32.le_refl _)]
  · simp only [FX6_customerNamed_L2]
    rw [hm.c1, if_neg (le_nI hi (by omega)), gd_t (inI (by omega) (by omega)), nI_c (by omega), nI_1]
    by_cases z : M.2 (12 + i) 0 = v8 (some [3, nc + 1])
    · rw [if_pos ((lg_cmp_eq _ _).mpr z), if_pos (decide_eq_true z)]
    · rw [if_neg (fun y => z ((lg_cmp_eq _ _).mp y)), if_neg (by rw [decide_eq_false z]; decide)]
theorem st_addV {nv nc ns : Nat} {w : Wd} {V : MM} (hn : 2500 ≤ n) (h : Good w) (hT : TW V w nv nc ns) (hnv : nv < 8) (o2 : FX9_wholeName n w = some (v8 (some [22, nv + 1]))) (o3 : FX13_bufferName n w = some (v5 (some [22, nv + 1]))) {wd wl pr : Nat} (w1 : 1 ≤ wd) (w2 : wd ≤ 60) (l1 : 1 ≤ wl) (l2 : wl ≤ 4) (p1 : 1 ≤ pr) (p2 : pr ≤ 99) : ∃ w' w9 V', FX12_addValley n w (nI wd) (nI wl) (nI pr) = some (.ok (nI nv, w')) ∧ FLc_50 n w (nI wd) (nI wl) (nI pr) 0 0 = some w9 ∧ AG w9 w' ∧ (Good w9 ∧ (w9 10).1 0 6 = 0) ∧ FW_addValley V (nI wd) (nI wl) (nI pr) = some (nI nv, V') ∧ TW V' w9 (nv + 1) nc ns ∧ row w9 3 = row w 3 := by
  obtain ⟨bk, hm⟩ := tw_nums h hT
  have hbv := hm.bv
  have hok : okName [22, nv + 1] := nm_ok (by decide) hnv
  have ho : ∀ ls, some [22, nv + 1] = some ls → okName ls := fun ls e => by cases e; exact hok
  obtain ⟨q, q1, q2, -⟩ := found_v (n := n) (by omega) hm.bv hm.v0 hm.v1 (fun v hv => (hm.vs v hv).name) ho
  have hq : q = -1 := Option.some.inj (q1.symm.trans (new_v (by omega) hm hT.2.2.2.1 hnv))
  subst hq
  have hz : newI (some [22, nv + 1]) (-1) nv = true := decide_eq_true ⟨(fun e => by cases e), rfl, hnv⟩
  have z : some [22, nv + 1] ≠ none := fun e => by cases e
  have hd1 : FX12_isWithin (nI wd) 1 60 = true := wi_iff.mpr ⟨nI_nlt (a := wd) (b := 1) w1 (by omega), nI_nlt (a := 60) (b := wd) w2 (by omega)⟩
  have hd2 : FX12_isWithin (nI wl) 1 4 = true := wi_iff.mpr ⟨nI_nlt (a := wl) (b := 1) l1 (by omega), nI_nlt (a := 4) (b := wl) l2 (by omega)⟩
  have hd3 : FX12_isWithin (nI pr) 1 99 = true := wi_iff.mpr ⟨nI_nlt (a := pr) (b := 1) p1 (by omega), nI_nlt (a := 99) (b := pr) p2 (by omega)⟩
  obtain ⟨w6, x, M', wF, e6, e61, ec, e15, er, ek, hG, hA, hx', V', v1, v2, v3⟩ := und_3 (Pq := fun x M' r' => x = nI nv ∧ ∃ V', FW_addValley V (nI wd) (nI wl) (nI pr) = some (nI nv, V') ∧ TR V' r' (nv + 1) nc ns ∧ r' 3 = row w 3) hn h (fun M => FX6_openValley M (v8 (some [22, nv + 1])) (nI wd) (nI wl) (nI pr)) (fun w => FX13_addsValley w (v5 (some [22, nv + 1])) (nI wd) (nI wl) (nI pr)) (fun w9 hr => by
    have hN : RelN (w 1) (row w9) nv nc ns bk := by rw [hr]; exact hm.toN
    obtain ⟨t, ht, et⟩ := hm.tm
    have hTm : TmOk (row w9) ns t := by rw [hr]; exact hm.tmOk ht et
    obtain ⟨M', w', y1, y2, y3, y4, y5, y6⟩ := valley_pair hN hnv hok w1 w2 l1 l2 p1 p2
    obtain ⟨V2, b2, g1, g2, g3⟩ := tw_addV (hT.row hr) hnv w1 w2 l1 l2 p1 p2
    have e2 : b2 = w' := congrArg Prod.snd (Option.some.inj (g1.symm.trans y2))
    subst e2
    exact ⟨_, M', b2, y1, y2, y3, ⟨nv + 1, nc, ns, bk, y4.toM ht (by rw [y5, hr]; exact et) (y6 t hTm)⟩, rfl, V2, g2, g3, by rw [y5, hr]⟩)
  have hx : FX12_addValley n w (nI wd) (nI wl) (nI pr) = some (.ok (x, sW (sW w6 10 (sI (w6 10) 0 6 0)) 1 M')) := by
    unfold FX12_addValley
    rw [o2, bo1_s, hd1, bnd_s, dA_t, xo_s, hd2, bnd_s, dA_t, xo_s, hd3, bnd_s, dA_t, xo_s, if_neg (fun y => z ((v5_0 ho).2.mp ((lg_cmp_eq _ _).mp y))), q1, bo1_s, if_pos rfl, hm.v1, if_neg (lt8 hnv), dS_t, xo_s, e6, bo1_s, bnd_s, e61, ec, bo2_s, bnd_s]
  refine ⟨_, wF, V', by rw [← hx']; exact hx, ?_, hA, hG, v1, v2, v3⟩
  show (bo2 (FL_addValley n w (nI wd) (nI wl) (nI pr)) fun k w1 => bo2 (FX13_addValley n w1 (nI wd) (nI wl) (nI pr)) fun q w2 => chk k q w2) = some wF
  unfold FL_addValley FX13_addValley
  rw [lw_o hx, bo2_s, bufName_row e15, o3, bo1_s, rWid, hd1, bnd_s, if_pos rfl, rWalls, hd2, bnd_s, if_pos rfl, rPri, hd3, bnd_s, if_pos rfl, rIsNew (n := n) (G := 0) (g := 0) rfl (by decide) hbv ((congrFun (congrFun (congrArg Prod.fst e15) 2) 0).trans hm.v0) ho ((found_row e15 0 _).trans q2), hz, bo1_s, gb_tt, bnd2_s, if_pos rfl, er, bo2_s]
  exact ek
theorem st_addC {nv nc ns : Nat} {w : Wd} {V : MM} (hn : 2500 ≤ n) (h : Good w) (hT : TW V w nv nc ns) (hnc : nc < 8) (o2 : FX9_wholeName n w = some (v8 (some [3, nc + 1]))) (o3 : FX13_bufferName n w = some (v5 (some [3, nc + 1]))) {pa mo : Nat} (p1 : 1 ≤ pa) (p2 : pa ≤ 240) (m2 : mo ≤ 9999) : ∃ w' w9 V', FX12_addCustomer n w (nI pa) (nI mo) = some (.ok (nI nc, w')) ∧ FLc_51 n w (nI pa) (nI mo) 0 0 0 = some w9 ∧ AG w9 w' ∧ (Good w9 ∧ (w9 10).1 0 6 = 0) ∧ FW_addCustomer V (nI pa) (nI mo) = some (nI nc, V') ∧ TW V' w9 nv (nc + 1) ns ∧ row w9 3 = row w 3 := by
  obtain ⟨bk, hm⟩ := tw_nums h hT
  have hbc := hm.bc
  have hok : okName [3, nc + 1] := nm_ok (by decide) hnc
  have ho : ∀ ls, some [3, nc + 1] = some ls → okName ls := fun ls e => by cases e; exact hok
  obtain ⟨q, q1, q2, -⟩ := found_c (n := n) (by omega) hm.bc hm.c0 hm.c1 (fun c hc => (hm.cs c hc).name) ho
  have hq : q = -1 := Option.some.inj (q1.symm.trans (new_c (by omega) hm hT.2.2.2.1 hnc))
  subst hq
  have hz : newI (some [3, nc + 1]) (-1) nc = true := decide_eq_true ⟨(fun e => by cases e), rfl, hnc⟩
  have z : some [3, nc + 1] ≠ none := fun e => by cases e
  have hd1 : FX12_isWithin (nI pa) 1 240 = true := wi_iff.mpr ⟨nI_nlt (a := pa) (b := 1) p1 (by omega), nI_nlt (a := 240) (b := pa) p2 (by omega)⟩
  have hd2 : FX12_isWithin (nI mo) 0 9999 = true := wi_iff.mpr ⟨nI_pos (by omega), nI_nlt (a := 9999) (b := mo) m2 (by omega)⟩
  obtain ⟨w6, x, M', wF, e6, e61, ec, e15, er, ek, hG, hA, hx', V', v1, v2, v3⟩ := und_3 (Pq := fun x M' r' => x = nI nc ∧ ∃ V', FW_addCustomer V (nI pa) (nI mo) = some (nI nc, V') ∧ TR V' r' nv (nc + 1) ns ∧ r' 3 = row w 3) hn h (fun M => FX6_welcome M (v8 (some [3, nc + 1])) (nI pa) (nI mo)) (fun w => FX13_addsCustomer w (v5 (some [3, nc + 1])) (nI pa) (nI mo)) (fun w9 hr => by
    have hN : RelN (w 1) (row w9) nv nc ns bk := by rw [hr]; exact hm.toN
    obtain ⟨t, ht, et⟩ := hm.tm
    have hTm : TmOk (row w9) ns t := by rw [hr]; exact hm.tmOk ht et
    obtain ⟨M', w', y1, y2, y3, y4, y5, y6⟩ := customer_pair (mo := nI mo) hN hnc hok p1 p2
    obtain ⟨V2, b2, g1, g2, g3⟩ := tw_addC (hT.row hr) hnc p1 p2 m2
    have e2 : b2 = w' := congrArg Prod.snd (Option.some.inj (g1.symm.trans y2))
    subst e2
    exact ⟨_, M', b2, y1, y2, y3, ⟨nv, nc + 1, ns, bk, y4.toM ht (by rw [y5, hr]; exact et) (y6 t hTm)⟩, rfl, V2, g2, g3, by rw [y5, hr]⟩)
  have hx : FX12_addCustomer n w (nI pa) (nI mo) = some (.ok (x, sW (sW w6 10 (sI (w6 10) 0 6 0)) 1 M')) := by
    unfold FX12_addCustomer
    rw [o2, bo1_s, hd1, bnd_s, dA_t, xo_s, hd2, bnd_s, dA_t, xo_s, if_neg (fun y => z ((v5_0 ho).2.mp ((lg_cmp_eq _ _).mp y))), q1, bo1_s, if_pos rfl, hm.c1, if_neg (lt8 hnc), dS_t, xo_s, e6, bo1_s, bnd_s, e61, ec, bo2_s, bnd_s]
  refine ⟨_, wF, V', by rw [← hx']; exact hx, ?_, hA, hG, v1, v2, v3⟩
  show (bo2 (FL_addCustomer n w (nI pa) (nI mo)) fun k w1 => bo2 (FX13_addCustomer n w1 (nI pa) (nI mo)) fun q w2 => chk k q w2) = some wF
  unfold FL_addCustomer FX13_addCustomer
  rw [lw_o hx, bo2_s, bufName_row e15, o3, bo1_s, rPat, hd1, bnd_s, if_pos rfl, rMon, hd2, bnd_s, if_pos rfl, rIsNew (n := n) (G := 1) (g := 1) rfl (by decide) hbc ((congrFun (congrFun (congrArg Prod.fst e15) 2) 1).trans hm.c0) ho ((found_row e15 1 _).trans q2), hz, bo1_s, gb_tt, bnd2_s, if_pos rfl, er, bo2_s]
  exact ek
end NEWNAMES
