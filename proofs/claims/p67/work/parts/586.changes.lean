set_option maxHeartbeats 400000
/-! one change of a market on both sides, wholly related before and after -/
theorem rSetsV {w : Wd} {v0 k : Nat} (hv : v0 < 8) (hk : k < 8) {K : Int32} (hK : K = nI k) (x : Int32) : FX13_sets w (FX13_vly (nI v0) + K) x = some (vaF (row w) v0 k, rs w (8 + 8 * v0 + k) x) := by
  rw [vly_k hK]
  unfold FX13_sets
  rw [gd_t (inI (by omega) (by omega)), gd_t (inI (by omega) (by omega)), bnd_s, nI_c (by omega)]
  rfl
theorem fog_m {M : MM} {w : Wd} {nv nc ns : Nat} {bk : Nat → Nat} (hm : RelM M (row w) nv nc ns bk) {v0 d : Nat} (hv0 : v0 < nv) (hd : d ≤ 9) : ∃ x M' w', FX6_changeFog M (nI v0) (nI d) = some (x, M') ∧ FX13_sets w (FX13_vly (nI v0) + 3) (nI d) = some (x, w') ∧ Fr w w' ∧ RM M' (row w') := by
  have hbv := hm.bv
  have hbc := hm.bc
  have hbs := hm.bs
  have hrow : ∀ k, row (rs w (8 + 8 * v0 + 3) (nI d)) k = if k = 8 + 8 * v0 + 3 then nI d else row w k := rs_row w _ _
  refine ⟨vaF (row w) v0 3, sI M (4 + v0) 4 (nI d), rs w (8 + 8 * v0 + 3) (nI d), ?_, rSetsV (by omega) (by decide) rfl _, Fr.of_rs w _ _, nv, nc, ns, bk, hm.sets (fun k _ _ hk => congrFun (sI_o _ _ _ (by omega)) k) (fun v hv => ⟨fun k _ _ h3 h4 => ?_, rfl⟩) (fun c hc => ⟨fun k _ _ => congrFun (sI_o _ _ _ (by omega)) k, rfl⟩) (fun i hi k _ => congrFun (sI_o _ _ _ (by omega)) k) (fun k _ hk hq => by rw [hrow, if_neg (by have := hq v0 (by omega); omega)]) (by rw [hrow, if_neg (by omega), sI_o _ _ _ (by omega)]; exact hm.depth) (by rw [hrow, if_neg (by omega)]; exact hm.dp) (fun v hv => ?_) (fun v hv => ?_)⟩
  · unfold FX6_changeFog
    rw [gd_t (inI (by omega) (by omega)), gd_t (inI (by omega) (by omega)), nI_c (by omega), (hm.vs v0 hv0).e4, bnd_s]
  · by_cases e : v = v0
    · rw [e, sI_at, if_neg (by omega)]
    · exact congrFun (sI_o _ _ _ (by omega)) k
  · show (sI M (4 + v0) 4 (nI d)).1 (4 + v) 3 = row _ (8 + 8 * v + 2) ∧ ∃ a, 1 ≤ a ∧ a ≤ 99 ∧ row _ (8 + 8 * v + 2) = nI a
    rw [hrow, if_neg (by omega)]
    refine ⟨?_, (hm.vs v hv).price⟩
    by_cases e : v = v0
    · rw [e, sI_at, if_neg (by omega)]
      exact (hm.vs v0 hv0).e3
    · rw [sI_o _ _ _ (by omega)]
      exact (hm.vs v hv).e3
  · show (sI M (4 + v0) 4 (nI d)).1 (4 + v) 4 = row _ (8 + 8 * v + 3) ∧ ∃ a, a ≤ 9 ∧ row _ (8 + 8 * v + 3) = nI a
    rw [hrow]
    by_cases e : v = v0
    · rw [e, sI_at, if_pos rfl, if_pos rfl]
      exact ⟨rfl, d, hd, rfl⟩
    · rw [sI_o _ _ _ (by omega), if_neg (by omega)]
      exact ⟨(hm.vs v hv).e4, (hm.vs v hv).fog⟩
theorem price_m {M : MM} {w : Wd} {nv nc ns : Nat} {bk : Nat → Nat} (hm : RelM M (row w) nv nc ns bk) {v0 d : Nat} (hv0 : v0 < nv) (hd1 : 1 ≤ d) (hd : d ≤ 99) : ∃ x M' w', FX6_changePrice M (nI v0) (nI d) = some (x, M') ∧ FX13_sets w (FX13_vly (nI v0) + 2) (nI d) = some (x, w') ∧ Fr w w' ∧ RM M' (row w') := by
  have hbv := hm.bv
  have hbc := hm.bc
  have hbs := hm.bs
  have hrow : ∀ k, row (rs w (8 + 8 * v0 + 2) (nI d)) k = if k = 8 + 8 * v0 + 2 then nI d else row w k := rs_row w _ _
  refine ⟨vaF (row w) v0 2, sI M (4 + v0) 3 (nI d), rs w (8 + 8 * v0 + 2) (nI d), ?_, rSetsV (by omega) (by decide) rfl _, Fr.of_rs w _ _, nv, nc, ns, bk, hm.sets (fun k _ _ hk => congrFun (sI_o _ _ _ (by omega)) k) (fun v hv => ⟨fun k _ _ h3 h4 => ?_, rfl⟩) (fun c hc => ⟨fun k _ _ => congrFun (sI_o _ _ _ (by omega)) k, rfl⟩) (fun i hi k _ => congrFun (sI_o _ _ _ (by omega)) k) (fun k _ hk hq => by rw [hrow, if_neg (by have := hq v0 (by omega); omega)]) (by rw [hrow, if_neg (by omega), sI_o _ _ _ (by omega)]; exact hm.depth) (by rw [hrow, if_neg (by omega)]; exact hm.dp) (fun v hv => ?_) (fun v hv => ?_)⟩
  · unfold FX6_changePrice
    rw [gd_t (inI (by omega) (by omega)), gd_t (inI (by omega) (by omega)), nI_c (by omega), (hm.vs v0 hv0).e3, bnd_s]
  · by_cases e : v = v0
    · rw [e, sI_at, if_neg (by omega)]
    · exact congrFun (sI_o _ _ _ (by omega)) k
  · show (sI M (4 + v0) 3 (nI d)).1 (4 + v) 3 = row _ (8 + 8 * v + 2) ∧ ∃ a, 1 ≤ a ∧ a ≤ 99 ∧ row _ (8 + 8 * v + 2) = nI a
    rw [hrow]
    by_cases e : v = v0
    · rw [e, sI_at, if_pos rfl, if_pos rfl]
      exact ⟨rfl, d, hd1, hd, rfl⟩
    · rw [sI_o _ _ _ (by omega), if_neg (by omega)]
      exact ⟨(hm.vs v hv).e3, (hm.vs v hv).price⟩
  · show (sI M (4 + v0) 3 (nI d)).1 (4 + v) 4 = row _ (8 + 8 * v + 3) ∧ ∃ a, a ≤ 9 ∧ row _ (8 + 8 * v + 3) = nI a
    rw [hrow, if_neg (by omega)]
    refine ⟨?_, (hm.vs v hv).fog⟩
    by_cases e : v = v0
    · rw [e, sI_at, if_neg (by omega)]
      exact (hm.vs v0 hv0).e4
    · rw [sI_o _ _ _ (by omega)]
      exact (hm.vs v hv).e4
theorem depth_m {M : MM} {w : Wd} {nv nc ns : Nat} {bk : Nat → Nat} (hm : RelM M (row w) nv nc ns bk) {d : Nat} (hd : d ≤ 20) : ∃ x M' w', FX6_changeDepth M (nI d) = (x, M') ∧ FX13_sets w 6 (nI d) = some (x, w') ∧ Fr w w' ∧ RM M' (row w') := by
  have hbv := hm.bv
  have hbc := hm.bc
  have hbs := hm.bs
  have hrow : ∀ k, row (rs w 6 (nI d)) k = if k = 6 then nI d else row w k := rs_row w _ _
  refine ⟨row w 6, sI M 0 7 (nI d), rs w 6 (nI d), ?_, ?_, Fr.of_rs w _ _, nv, nc, ns, bk, hm.sets (fun k _ _ hk => by rw [sI_at, if_neg hk]) (fun v hv => ⟨fun k _ _ _ _ => congrFun (sI_o _ _ _ (by omega)) k, rfl⟩) (fun c hc => ⟨fun k _ _ => congrFun (sI_o _ _ _ (by omega)) k, rfl⟩) (fun i hi k _ => congrFun (sI_o _ _ _ (by omega)) k) (fun k _ hk _ => by rw [hrow, if_neg hk]) (by rw [hrow, if_pos rfl, sI_at, if_pos rfl]) ⟨d, hd, by rw [hrow, if_pos rfl]⟩ (fun v hv => ?_) (fun v hv => ?_)⟩
  · unfold FX6_changeDepth
    rw [bnd_s, hm.depth]
  · unfold FX13_sets
    rw [gd6, gd6, bnd_s, show (6 : Int32).toNatClampNeg = 6 from rfl]
    rfl
  · show (sI M 0 7 (nI d)).1 (4 + v) 3 = row _ (8 + 8 * v + 2) ∧ ∃ a, 1 ≤ a ∧ a ≤ 99 ∧ row _ (8 + 8 * v + 2) = nI a
    rw [hrow, if_neg (by omega), sI_o _ _ _ (by omega)]
    exact ⟨(hm.vs v hv).e3, (hm.vs v hv).price⟩
  · show (sI M 0 7 (nI d)).1 (4 + v) 4 = row _ (8 + 8 * v + 3) ∧ ∃ a, a ≤ 9 ∧ row _ (8 + 8 * v + 3) = nI a
    rw [hrow, if_neg (by omega), sI_o _ _ _ (by omega)]
    exact ⟨(hm.vs v hv).e4, (hm.vs v hv).fog⟩
theorem sell_m {M : MM} {w : Wd} {nv nc ns : Nat} {bk : Nat → Nat} (hm : RelM M (row w) nv nc ns bk) (hns : ns < 30) {c v lo od : Nat} (hc : c < nc) (hv : v < nv) (l1 : 1 ≤ lo) (l2 : lo ≤ 20) (o1 : 1 ≤ od) (o2 : od ≤ 4) : ∃ x M' w', FX6_sell M (nI c) (nI v) (nI lo) (nI od) = some (x, M') ∧ FX13_sells w (nI c) (nI v) (nI lo) (nI od) = some (x, w') ∧ Fr w w' ∧ RM M' (row w') := by
  obtain ⟨t, ht, et⟩ := hm.tm
  obtain ⟨M', w', bk', q1, q2, q3, q4, q5, q6⟩ := sell_pair hm.toN hns hc hv l1 l2 o1 o2 ht et (hm.tmOk ht et)
  exact ⟨nI ns, M', w', q1, q2, q3, nv, nc, ns + 1, bk', q4.toM ht q5 q6⟩
theorem pass_m {n : Nat} (hn : 1000 ≤ n) {M : MM} {w : Wd} {nv nc ns : Nat} {bk : Nat → Nat} (hm : RelM M (row w) nv nc ns bk) {t s : Nat} (et : row w 3 = nI t) (hs : s ≤ 240) (hl : t + s ≤ 9999) : ∃ x M' w', FX6_letPass n M (nI s) = some (x, M') ∧ FX13_passes n w (nI s) = some (x, w') ∧ Fr w w' ∧ RM M' (row w') := by
  obtain ⟨x, M', w', bk', q1, q2, q3, q4, q5, q6, -⟩ := pass_pair hn hm.toN et (hm.tmOk (by omega) et) hs (by omega)
  exact ⟨x, M', w', q1, q2, q3, nv, nc, ns, bk', q4.toM hl q5 q6⟩
theorem fake_m {n : Nat} (hn : 100 ≤ n) {M : MM} {w : Wd} {nv nc ns : Nat} {bk : Nat → Nat} (hm : RelM M (row w) nv nc ns bk) {i : Nat} (hi : i < ns) (ho : shF (row w) i 6 = 0) : ∃ x M' w', FX6_fakeNext n M (nI i) = some (x, M') ∧ FX13_fakes n w (nI i) = some (x, w') ∧ Fr w w' ∧ RM M' (row w') := by
  obtain ⟨t, ht, et⟩ := hm.tm
  obtain ⟨x, M', w', bk', q1, q2, q3, q4, q5, q6⟩ := fake_pair hn hm.toN hi ho
  refine ⟨x, M', w', q1, q2, q3, nv, nc, ns, bk', q4.toM ht ?_ ((hm.tmOk ht et).keep hm.toN (by omega) q5 q6)⟩
  rw [q5.1 3 (by decide) (by decide) (by decide)]
  exact et
theorem cancel_m {M : MM} {w : Wd} {nv nc ns : Nat} {bk : Nat → Nat} (hm : RelM M (row w) nv nc ns bk) {i : Nat} (hi : i < ns) (ho : shF (row w) i 6 = 0) : ∃ x M' w', FX6_callOff M (nI i) = some (x, M') ∧ FX13_cancels w (nI i) = some (x, w') ∧ Fr w w' ∧ RM M' (row w') := by
  have hbs := hm.bs
  obtain ⟨t, ht, et⟩ := hm.tm
  obtain ⟨M', w', q1, q2, q3, q4, q5, q6, q7, q8⟩ := cancel_pair hm.toN hi ho
  refine ⟨_, M', w', q1, q2, q3, nv, nc, ns, bk, q4.toM ht ?_ ((hm.tmOk ht et).keep hm.toN (by omega) q5 (fun j hj hoj => ?_))⟩
  · rw [q5.1 3 (by decide) (by decide) (by decide)]
    exact et
  · by_cases e : j = i
    · rw [e, q7] at hoj
      exact absurd hoj (by decide)
    · have e6 : shF (row w') j 6 = shF (row w) j 6 := q6 j (by omega) e 6 (by decide)
      have e7 : shF (row w') j 7 = shF (row w) j 7 := q6 j (by omega) e 7 (by decide)
      exact ⟨e6.symm.trans hoj, 0, by decide, by rw [e7, nI_0, Int32.add_zero]⟩
theorem valley_m {M : MM} {w : Wd} {nv nc ns : Nat} {bk : Nat → Nat} (hm : RelM M (row w) nv nc ns bk) (hnv : nv < 8) {ls : List Nat} (hls : okName ls) {wd wl pr : Nat} (w1 : 1 ≤ wd) (w2 : wd ≤ 60) (l1 : 1 ≤ wl) (l2 : wl ≤ 4) (p1 : 1 ≤ pr) (p2 : pr ≤ 99) : ∃ x M' w', FX6_openValley M (lN (pk8 ls)) (nI wd) (nI wl) (nI pr) = some (x, M') ∧ FX13_addsValley w (lN (pk5 ls)) (nI wd) (nI wl) (nI pr) = some (x, w') ∧ Fr w w' ∧ RM M' (row w') := by
  obtain ⟨t, ht, et⟩ := hm.tm
  obtain ⟨M', w', y1, y2, y3, y4, y5, y6⟩ := valley_pair hm.toN hnv hls w1 w2 l1 l2 p1 p2
  exact ⟨_, M', w', y1, y2, y3, nv + 1, nc, ns, bk, y4.toM ht (y5.trans et) (y6 t (hm.tmOk ht et))⟩
theorem customer_m {M : MM} {w : Wd} {nv nc ns : Nat} {bk : Nat → Nat} (hm : RelM M (row w) nv nc ns bk) (hnc : nc < 8) {ls : List Nat} (hls : okName ls) {pa : Nat} {mo : Int32} (p1 : 1 ≤ pa) (p2 : pa ≤ 240) : ∃ x M' w', FX6_welcome M (lN (pk8 ls)) (nI pa) mo = some (x, M') ∧ FX13_addsCustomer w (lN (pk5 ls)) (nI pa) mo = some (x, w') ∧ Fr w w' ∧ RM M' (row w') := by
  obtain ⟨t, ht, et⟩ := hm.tm
  obtain ⟨M', w', y1, y2, y3, y4, y5, y6⟩ := customer_pair hm.toN hnc hls (mo := mo) p1 p2
  exact ⟨_, M', w', y1, y2, y3, nv, nc + 1, ns, bk, y4.toM ht (y5.trans et) (y6 t (hm.tmOk ht et))⟩
