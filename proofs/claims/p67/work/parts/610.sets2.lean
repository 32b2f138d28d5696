set_option maxHeartbeats 400000
/-! fog, price and depth set anew on all three sides -/
theorem TR.set {V V' : MM} {r r' : Nat → Int32} {nv nc ns : Nat} (h : TR V r nv nc ns) {k0 : Nat} (hk : k0 = 6 ∨ (8 ≤ k0 ∧ k0 < 72 ∧ k0 % 8 < 6)) (hr : ∀ k, k ≠ k0 → r' k = r k) (bv : nv ≤ 8) (bc : nc ≤ 8) (hW : WR V' r' nv nc ns) (hm : ∃ M bk, RelN M r' nv nc ns bk) : TR V' r' nv nc ns := by
  obtain ⟨-, hE, hD, hN, -⟩ := h
  have eS : ∀ v k, shF r' v k = shF r v k := fun v k => hr _ (by omega)
  have eC : ∀ v k, cuF r' v k = cuF r v k := fun v k => hr _ (by omega)
  have eL : ∀ i, lft r' i = lft r i := fun i => lft_same (fun k _ => eS i k)
  refine ⟨hW, ?_, fun i hi ho c hc h0 => ?_, hN.dy bv bc (fun v hv k hk6 hk5 => hr _ (by omega)) (fun c hc k _ _ => eC c k), hm⟩
  · obtain ⟨eA, eB, eC', m, L, m1, m2, m3⟩ := hE
    refine ⟨?_, ?_, ?_, m, L, fun c hc => by rw [eC]; exact m1 c hc, fun i hi => by rw [eL]; exact m2 i hi, m3⟩
    · rw [hr 4 (by omega), hr 5 (by omega), isum_congr (g := fun i => shF r i 4 * shF r i 3) (fun i _ => by rw [eS, eS]), isum_congr (g := lft r) (fun i _ => eL i)]
      exact eA
    · rw [hr 7 (by omega), hr 4 (by omega), isum_congr (g := fun c => cuF r c 1) (fun i _ => eC i 1), isum_congr (g := lft r) (fun i _ => eL i)]
      exact eB
    · rw [hr 4 (by omega), isum_congr (g := fun i => shF r i 4 * bcI (shF r i 8)) (fun i _ => by rw [eS, eS])]
      exact eC'
  · rw [eC]
    exact hD i hi (by rw [← eS]; exact ho) c hc (by rw [← eS]; exact h0)
section SETS3
variable {n nv nc ns : Nat} {w : Wd} {V : MM}
theorem st_well (hn : 2500 ≤ n) (h : Good w) (hT : TW V w nv nc ns) {a : Nat} (ha : a ≤ 20) : ∃ w' w9, FX12_setWell n w (nI a) = some (.ok (V.1 0 6, w')) ∧ FLc_57 n w (nI a) 0 0 0 0 = some w9 ∧ AG w9 w' ∧ GT w w9 ∧ TW (sI V 0 6 (nI a)) w9 nv nc ns ∧ row w9 3 = row w 3 := by
  obtain ⟨bk, hm⟩ := tw_nums h hT
  have hbv := hm.bv
  have hbc := hm.bc
  have hbs := hm.bs
  have hd : FX12_isWithin (nI a) 0 20 = true := wi_iff.mpr ⟨nI_pos (by omega), nI_nlt (a := 20) (b := a) ha (by omega)⟩
  obtain ⟨w6, x, M', wF, e6, e61, ec, e15, er, ek, hG, hA, hx', v2, v3⟩ := und_2 (Pq := fun x M' r' => x = row w 6 ∧ TR (sI V 0 6 (nI a)) r' nv nc ns ∧ r' 3 = row w 3) hn h (fun M => some (M.1 0 7, sI M 0 7 (nI a))) (fun w => FX13_sets w 6 (nI a)) (fun w9 hr => by
    have hrow : ∀ k, row (rs w9 6 (nI a)) k = if k = 6 then nI a else row w k := fun k => by rw [rs_row, hr]
    have hM' : RelM (sI (w 1) 0 7 (nI a)) (row (rs w9 6 (nI a))) nv nc ns bk := by
      refine hm.sets (fun k _ _ hk => by rw [sI_at, if_neg hk]) (fun v hv => ⟨fun k _ _ _ _ => congrFun (sI_o _ _ _ (by omega)) k, rfl⟩) (fun c hc => ⟨fun k _ _ => congrFun (sI_o _ _ _ (by omega)) k, rfl⟩) (fun i hi k _ => congrFun (sI_o _ _ _ (by omega)) k) (fun k _ hk _ => by rw [hrow, if_neg hk]) (by rw [hrow, if_pos rfl, sI_at, if_pos rfl]) ⟨a, ha, by rw [hrow, if_pos rfl]⟩ (fun v hv => ?_) (fun v hv => ?_)
      · show (sI (w 1) 0 7 (nI a)).1 (4 + v) 3 = row _ (8 + 8 * v + 2) ∧ ∃ a, 1 ≤ a ∧ a ≤ 99 ∧ row _ (8 + 8 * v + 2) = nI a
        rw [hrow, if_neg (by omega), sI_o _ _ _ (by omega)]
        exact ⟨(hm.vs v hv).e3, (hm.vs v hv).price⟩
      · show (sI (w 1) 0 7 (nI a)).1 (4 + v) 4 = row _ (8 + 8 * v + 3) ∧ ∃ a, a ≤ 9 ∧ row _ (8 + 8 * v + 3) = nI a
        rw [hrow, if_neg (by omega), sI_o _ _ _ (by omega)]
        exact ⟨(hm.vs v hv).e4, (hm.vs v hv).fog⟩
    refine ⟨row w 6, sI (w 1) 0 7 (nI a), rs w9 6 (nI a), by rw [hm.depth], ?_, Fr.of_rs _ _ _, ⟨nv, nc, ns, bk, hM'⟩, rfl, ?_, by rw [hrow, if_neg (by decide)]⟩
    · unfold FX13_sets
      rw [gd6, gd6, bnd_s, show (6 : Int32).toNatClampNeg = 6 from rfl, show (w9 15).1 2 6 = row w 6 from congrFun hr 6]
      rfl
    · have hW := hT.1
      refine TR.set (show TR V (row w) nv nc ns from hT) (k0 := 6) (Or.inl rfl) (fun k hk => by rw [hrow, if_neg hk]) hbv hbc ⟨fun k hk => ?_, fun v hv k hk => ?_, fun c hc k hk => ?_, fun i hi k hk => ?_⟩ ⟨_, bk, hM'.toN⟩
      · rw [wU, hrow]
        by_cases z : k = 6
        · rw [if_pos ⟨rfl, z⟩, if_pos z]
        · rw [if_neg (fun y => z y.2), if_neg z, hW.1 k hk]
      · rw [wN _ _ (by omega), hW.2.1 v hv k hk]; exact ((hrow _).trans (if_neg (by omega))).symm
      · rw [wN _ _ (by omega), hW.2.2.1 c hc k hk]; exact ((hrow _).trans (if_neg (by omega))).symm
      · rw [wN _ _ (by omega), hW.2.2.2 i hi k hk]; exact ((hrow _).trans (if_neg (by omega))).symm)
  have hq := Option.some.inj ec
  have hM : sI (w 1) 0 7 (nI a) = M' := congrArg Prod.snd hq
  have hx : FX12_setWell n w (nI a) = some (.ok (x, sW w6 1 M')) := by
    unfold FX12_setWell FX6_faultOfDepth FX6_changeDepth
    rw [hd, bnd_s, bnd_s, if_pos rfl]
    show (bo1 (FX5_remember n w 1) fun w6 => _) = _
    rw [e6, bo1_s, e61, ← hM, ← show (w 1).1 0 7 = x from congrArg Prod.fst hq]
    rfl
  refine ⟨_, wF, ?_, ?_, hA, hG, v2, v3⟩
  · rw [hT.1.1 6 (by decide), ← hx']
    exact hx
  · show (bo2 (FL_setWell n w (nI a)) fun k w1 => bo2 (FX13_setWell n w1 (nI a)) fun q w2 => chk k q w2) = some wF
    unfold FL_setWell FX13_setWell
    rw [lw_o hx, bo2_s, rDepth, hd, bnd_s, goes_t, bnd2_s, if_pos rfl, er, bo2_s]
    exact ek
end SETS3
