set_option maxHeartbeats 400000
/-! fog and price set anew on all three sides -/
section SETS4
variable {n nv nc ns : Nat} {w : Wd} {V : MM}
theorem st_fog (hn : 2500 ≤ n) (h : Good w) (hT : TW V w nv nc ns) {v0 : Nat} (hv0 : v0 < nv) {a : Nat} (ha : a ≤ 9) : ∃ w' w9, FX12_setFog n w (nI v0) (nI a) = some (.ok (V.1 (2 + v0) 3, w')) ∧ FLc_55 n w (nI v0) (nI a) 0 0 0 = some w9 ∧ AG w9 w' ∧ GT w w9 ∧ TW (sI V (2 + v0) 3 (nI a)) w9 nv nc ns ∧ row w9 3 = row w 3 := by
  obtain ⟨bk, hm⟩ := tw_nums h hT
  have hbv := hm.bv
  have hbc := hm.bc
  have hbs := hm.bs
  have hv : FX12_isWithin (nI v0) 0 (nI nv - 1) = true := wi_nI hv0 (by omega)
  have hd : FX12_isWithin (nI a) 0 9 = true := wi_iff.mpr ⟨nI_pos (by omega), nI_nlt (a := 9) (b := a) ha (by omega)⟩
  obtain ⟨w6, x, M', wF, e6, e61, ec, e15, er, ek, hG, hA, hx', v2, v3⟩ := und_2 (Pq := fun x M' r' => x = vaF (row w) v0 3 ∧ TR (sI V (2 + v0) 3 (nI a)) r' nv nc ns ∧ r' 3 = row w 3) hn h (fun M => some (M.1 (4 + v0) 4, sI M (4 + v0) 4 (nI a))) (fun w => FX13_sets w (FX13_vly (nI v0) + 3) (nI a)) (fun w9 hr => by
    have hrow : ∀ k, row (rs w9 (8 + 8 * v0 + 3) (nI a)) k = if k = 8 + 8 * v0 + 3 then nI a else row w k := fun k => by rw [rs_row, hr]
    have hM' : RelM (sI (w 1) (4 + v0) 4 (nI a)) (row (rs w9 (8 + 8 * v0 + 3) (nI a))) nv nc ns bk := by
      refine hm.sets (fun k _ _ hk => congrFun (sI_o _ _ _ (by omega)) k) (fun v hv => ⟨fun k _ _ h3 h4 => ?_, rfl⟩) (fun c hc => ⟨fun k _ _ => congrFun (sI_o _ _ _ (by omega)) k, rfl⟩) (fun i hi k _ => congrFun (sI_o _ _ _ (by omega)) k) (fun k _ hk hq => by rw [hrow, if_neg (by have := hq v0 (by omega); omega)]) (by rw [hrow, if_neg (by omega), sI_o _ _ _ (by omega)]; exact hm.depth) (by rw [hrow, if_neg (by omega)]; exact hm.dp) (fun v hv => ?_) (fun v hv => ?_)
      · by_cases e : v = v0
        · rw [e, sI_at, if_neg (by omega)]
        · exact congrFun (sI_o _ _ _ (by omega)) k
      · show (sI (w 1) (4 + v0) 4 (nI a)).1 (4 + v) 3 = row _ (8 + 8 * v + 2) ∧ ∃ a, 1 ≤ a ∧ a ≤ 99 ∧ row _ (8 + 8 * v + 2) = nI a
        rw [hrow, if_neg (by omega)]
        refine ⟨?_, (hm.vs v hv).price⟩
        by_cases e : v = v0
        · rw [e, sI_at, if_neg (by omega)]
          exact (hm.vs v0 hv0).e3
        · rw [sI_o _ _ _ (by omega)]
          exact (hm.vs v hv).e3
      · show (sI (w 1) (4 + v0) 4 (nI a)).1 (4 + v) 4 = row _ (8 + 8 * v + 3) ∧ ∃ a, a ≤ 9 ∧ row _ (8 + 8 * v + 3) = nI a
        rw [hrow]
        by_cases e : v = v0
        · rw [e, sI_at, if_pos rfl, if_pos rfl]
          exact ⟨rfl, a, ha, rfl⟩
        · rw [sI_o _ _ _ (by omega), if_neg (by omega)]
          exact ⟨(hm.vs v hv).e4, (hm.vs v hv).fog⟩
    refine ⟨vaF (row w) v0 3, sI (w 1) (4 + v0) 4 (nI a), rs w9 (8 + 8 * v0 + 3) (nI a), by rw [(hm.vs v0 hv0).e4], ?_, Fr.of_rs _ _ _, ⟨nv, nc, ns, bk, hM'⟩, rfl, ?_, by rw [hrow, if_neg (by omega)]⟩
    · unfold FX13_sets FX13_vly
      rw [show (8 : Int32) + 8 * nI v0 + 3 = nI (8 + 8 * v0 + 3) from ix (k := 3), gd_t (inI (by omega) (by omega)), gd_t (inI (by omega) (by omega)), bnd_s, nI_c (by omega), show (w9 15).1 2 (8 + 8 * v0 + 3) = vaF (row w) v0 3 from congrFun hr _]
      rfl
    · have hW := hT.1
      refine TR.set (show TR V (row w) nv nc ns from hT) (k0 := 8 + 8 * v0 + 3) (Or.inr (by omega)) (fun k hk => by rw [hrow, if_neg hk]) hbv hbc ⟨fun k hk => ?_, fun v hv k hk => ?_, fun c hc k hk => ?_, fun i hi k hk => ?_⟩ ⟨_, bk, hM'.toN⟩
      · rw [wN _ _ (by omega), hW.1 k hk]; exact ((hrow _).trans (if_neg (by omega))).symm
      · by_cases z : v = v0 ∧ k = 3
        · obtain ⟨rfl, rfl⟩ := z
          rw [wE]; exact ((hrow _).trans (if_pos rfl)).symm
        · rw [wN _ _ (by omega), hW.2.1 v hv k hk]; exact ((hrow _).trans (if_neg (by omega))).symm
      · rw [wN _ _ (by omega), hW.2.2.1 c hc k hk]; exact ((hrow _).trans (if_neg (by omega))).symm
      · rw [wN _ _ (by omega), hW.2.2.2 i hi k hk]; exact ((hrow _).trans (if_neg (by omega))).symm)
  have hq := Option.some.inj ec
  have hM : sI (w 1) (4 + v0) 4 (nI a) = M' := congrArg Prod.snd hq
  have hx : FX12_setFog n w (nI v0) (nI a) = some (.ok (x, sW w6 1 M')) := by
    unfold FX12_setFog FX6_faultOfFog FX6_changeFog
    rw [cHasV hm, hv, bnd_s, bnd_s, if_pos rfl, hd, bnd_s, if_pos rfl]
    show (bo1 (FX5_remember n w 1) fun w6 => _) = _
    rw [e6, bo1_s, e61, gd_t (inI (by omega) (by omega)), gd_t (inI (by omega) (by omega)), nI_c (by omega), ← hM, ← show (w 1).1 (4 + v0) 4 = x from congrArg Prod.fst hq]
    rfl
  refine ⟨_, wF, ?_, ?_, hA, hG, v2, v3⟩
  · rw [hT.1.2.1 v0 hv0 3 (by decide), ← hx']
    exact hx
  · show (bo2 (FL_setFog n w (nI v0) (nI a)) fun k w1 => bo2 (FX13_setFog n w1 (nI v0) (nI a)) fun q w2 => chk k q w2) = some wF
    unfold FL_setFog FX13_setFog
    rw [lw_o hx, bo2_s, rIsV (w := ow (sW w6 1 M') x) (by rw [e15]; exact hm.v0), hv, bo1_s, bnd_s, isFog_w, hd, gb_tt, bnd2_s, if_pos rfl]
    show (bo2 (bo1 (FX13_laysAside n (cd (ow (sW w6 1 M') x) 0)) fun w12 => bo2 (FX13_sets w12 (FX13_vly (nI v0) + 3) (nI a)) fun x15 w16 => bo2 (FX13_kept n w16 x15) fun x19 w20 => some (x19, w20)) fun q w2 => chk 0 q w2) = some wF
    rw [er, bo2_s]
    exact ek
theorem st_price (hn : 2500 ≤ n) (h : Good w) (hT : TW V w nv nc ns) {v0 : Nat} (hv0 : v0 < nv) {a : Nat} (h1 : 1 ≤ a) (ha : a ≤ 99) : ∃ w' w9, FX12_setPrice n w (nI v0) (nI a) = some (.ok (V.1 (2 + v0) 2, w')) ∧ FLc_56 n w (nI v0) (nI a) 0 0 0 = some w9 ∧ AG w9 w' ∧ GT w w9 ∧ TW (sI V (2 + v0) 2 (nI a)) w9 nv nc ns ∧ row w9 3 = row w 3 := by
  obtain ⟨bk, hm⟩ := tw_nums h hT
  have hbv := hm.bv
  have hbc := hm.bc
  have hbs := hm.bs
  have hv : FX12_isWithin (nI v0) 0 (nI nv - 1) = true := wi_nI hv0 (by omega)
  have hd : FX12_isWithin (nI a) 1 99 = true := wi_iff.mpr ⟨nI_nlt (a := a) (b := 1) h1 (by omega), nI_nlt (a := 99) (b := a) ha (by omega)⟩
  obtain ⟨w6, x, M', wF, e6, e61, ec, e15, er, ek, hG, hA, hx', v2, v3⟩ := und_2 (Pq := fun x M' r' => x = vaF (row w) v0 2 ∧ TR (sI V (2 + v0) 2 (nI a)) r' nv nc ns ∧ r' 3 = row w 3) hn h (fun M => some (M.1 (4 + v0) 3, sI M (4 + v0) 3 (nI a))) (fun w => FX13_sets w (FX13_vly (nI v0) + 2) (nI a)) (fun w9 hr => by
    have hrow : ∀ k, row (rs w9 (8 + 8 * v0 + 2) (nI a)) k = if k = 8 + 8 * v0 + 2 then nI a else row w k := fun k => by rw [rs_row, hr]
    have hM' : RelM (sI (w 1) (4 + v0) 3 (nI a)) (row (rs w9 (8 + 8 * v0 + 2) (nI a))) nv nc ns bk := by
      refine hm.sets (fun k _ _ hk => congrFun (sI_o _ _ _ (by omega)) k) (fun v hv => ⟨fun k _ _ h3 h4 => ?_, rfl⟩) (fun c hc => ⟨fun k _ _ => congrFun (sI_o _ _ _ (by omega)) k, rfl⟩) (fun i hi k _ => congrFun (sI_o _ _ _ (by omega)) k) (fun k _ hk hq => by rw [hrow, if_neg (by have := hq v0 (by omega); omega)]) (by rw [hrow, if_neg (by omega), sI_o _ _ _ (by omega)]; exact hm.depth) (by rw [hrow, if_neg (by omega)]; exact hm.dp) (fun v hv => ?_) (fun v hv => ?_)
      · by_cases e : v = v0
        · rw [e, sI_at, if_neg (by omega)]
        · exact congrFun (sI_o _ _ _ (by omega)) k
      · show (sI (w 1) (4 + v0) 3 (nI a)).1 (4 + v) 3 = row _ (8 + 8 * v + 2) ∧ ∃ a, 1 ≤ a ∧ a ≤ 99 ∧ row _ (8 + 8 * v + 2) = nI a
        rw [hrow]
        by_cases e : v = v0
        · rw [e, sI_at, if_pos rfl, if_pos rfl]
          exact ⟨rfl, a, h1, ha, rfl⟩
        · rw [sI_o _ _ _ (by omega), if_neg (by omega)]
          exact ⟨(hm.vs v hv).e3, (hm.vs v hv).price⟩
      · show (sI (w 1) (4 + v0) 3 (nI a)).1 (4 + v) 4 = row _ (8 + 8 * v + 3) ∧ ∃ a, a ≤ 9 ∧ row _ (8 + 8 * v + 3) = nI a
        rw [hrow, if_neg (by omega)]
        refine ⟨?_, (hm.vs v hv).fog⟩
        by_cases e : v = v0
        · rw [e, sI_at, if_neg (by omega)]
          exact (hm.vs v0 hv0).e4
        · rw [sI_o _ _ _ (by omega)]
          exact (hm.vs v hv).e4
    refine ⟨vaF (row w) v0 2, sI (w 1) (4 + v0) 3 (nI a), rs w9 (8 + 8 * v0 + 2) (nI a), by rw [(hm.vs v0 hv0).e3], ?_, Fr.of_rs _ _ _, ⟨nv, nc, ns, bk, hM'⟩, rfl, ?_, by rw [hrow, if_neg (by omega)]⟩
    · unfold FX13_sets FX13_vly
      rw [show (8 : Int32) + 8 * nI v0 + 2 = nI (8 + 8 * v0 + 2) from ix (k := 2), gd_t (inI (by omega) (by omega)), gd_t (inI (by omega) (by omega)), bnd_s, nI_c (by omega), show (w9 15).1 2 (8 + 8 * v0 + 2) = vaF (row w) v0 2 from congrFun hr _]
      rfl
    · have hW := hT.1
      refine TR.set (show TR V (row w) nv nc ns from hT) (k0 := 8 + 8 * v0 + 2) (Or.inr (by omega)) (fun k hk => by rw [hrow, if_neg hk]) hbv hbc ⟨fun k hk => ?_, fun v hv k hk => ?_, fun c hc k hk => ?_, fun i hi k hk => ?_⟩ ⟨_, bk, hM'.toN⟩
      · rw [wN _ _ (by omega), hW.1 k hk]; exact ((hrow _).trans (if_neg (by omega))).symm
      · by_cases z : v = v0 ∧ k = 2
        · obtain ⟨rfl, rfl⟩ := z
          rw [wE]; exact ((hrow _).trans (if_pos rfl)).symm
        · rw [wN _ _ (by omega), hW.2.1 v hv k hk]; exact ((hrow _).trans (if_neg (by omega))).symm
      · rw [wN _ _ (by omega), hW.2.2.1 c hc k hk]; exact ((hrow _).trans (if_neg (by omega))).symm
      · rw [wN _ _ (by omega), hW.2.2.2 i hi k hk]; exact ((hrow _).trans (if_neg (by omega))).symm)
  have hq := Option.some.inj ec
  have hM : sI (w 1) (4 + v0) 3 (nI a) = M' := congrArg Prod.snd hq
  have hx : FX12_setPrice n w (nI v0) (nI a) = some (.ok (x, sW w6 1 M')) := by
    unfold FX12_setPrice FX6_faultOfPrice FX6_changePrice
    rw [cHasV hm, hv, bnd_s, bnd_s, if_pos rfl, hd, bnd_s, if_pos rfl]
    show (bo1 (FX5_remember n w 1) fun w6 => _) = _
    rw [e6, bo1_s, e61, gd_t (inI (by omega) (by omega)), gd_t (inI (by omega) (by omega)), nI_c (by omega), ← hM, ← show (w 1).1 (4 + v0) 3 = x from congrArg Prod.fst hq]
    rfl
  refine ⟨_, wF, ?_, ?_, hA, hG, v2, v3⟩
  · rw [hT.1.2.1 v0 hv0 2 (by decide), ← hx']
    exact hx
  · show (bo2 (FL_setPrice n w (nI v0) (nI a)) fun k w1 => bo2 (FX13_setPrice n w1 (nI v0) (nI a)) fun q w2 => chk k q w2) = some wF
    unfold FL_setPrice FX13_setPrice
    rw [lw_o hx, bo2_s, rIsV (w := ow (sW w6 1 M') x) (by rw [e15]; exact hm.v0), hv, bo1_s, bnd_s, isPrice_w, hd, gb_tt, bnd2_s, if_pos rfl]
    show (bo2 (bo1 (FX13_laysAside n (cd (ow (sW w6 1 M') x) 0)) fun w12 => bo2 (FX13_sets w12 (FX13_vly (nI v0) + 2) (nI a)) fun x15 w16 => bo2 (FX13_kept n w16 x15) fun x19 w20 => some (x19, w20)) fun q w2 => chk 0 q w2) = some wF
    rw [er, bo2_s]
    exact ek
end SETS4
