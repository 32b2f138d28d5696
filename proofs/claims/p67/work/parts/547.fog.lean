set_option maxHeartbeats 400000
/-! fog and price -/
theorem isFog_w (p : Int32) : FX13_isFog p = FX12_isWithin p 0 9 := by
  unfold FX13_isFog
  rw [bnd_s, i64_0, show (9 : Int64) = (9 : Int32).toInt64 by decide, isIn_w]
theorem ob_55 {n : Nat} (hn : 2500 ≤ n) {w : Wd} (h : Good w) (a1 a2 a3 a4 a5 : Int32) : ∃ w9, FLc_55 n w a1 a2 a3 a4 a5 = some w9 ∧ Good w9 := by
  obtain ⟨nv, nc, ns, bk, hm⟩ := h.m
  have hbv := hm.bv
  obtain ⟨fr, ct, hf, hc, h1, h2, h3, h4⟩ := h.h.cnt
  show ∃ w9, (bo2 (FL_setFog n w a1 a2) fun k w1 => bo2 (FX13_setFog n w1 a1 a2) fun q w2 => chk k q w2) = some w9 ∧ Good w9
  unfold FL_setFog FX13_setFog
  cases hv : FX12_isWithin a1 0 (nI nv - 1) with
  | false =>
    have hx : FX12_setFog n w a1 a2 = some (.error ("java/lang/IndexOutOfBoundsException", w)) := by
      unfold FX12_setFog FX6_faultOfFog
      rw [cHasV hm, hv, bnd_s, bnd_s, if_neg (by decide)]
      rfl
    rw [lw_x (k := 1) hx (if_pos rfl), bo2_s, rIsV hm.v0, hv, bo1_s, bnd_s, gb_f, bnd2_s, if_neg (by decide), bo2_s]
    exact ⟨_, er_chk h (by decide)⟩
  | true =>
    obtain ⟨v0, hv0, rfl⟩ := wi_in (by omega) hv
    cases hd : FX12_isWithin a2 0 9 with
    | false =>
      have hx : FX12_setFog n w (nI v0) a2 = some (.error ("java/lang/IllegalArgumentException", w)) := by
        unfold FX12_setFog FX6_faultOfFog
        rw [cHasV hm, hv, bnd_s, bnd_s, if_pos rfl, hd, bnd_s, if_neg (by decide)]
        rfl
      rw [lw_x (k := 2) hx rfl, bo2_s, rIsV hm.v0, hv, bo1_s, bnd_s, isFog_w, hd, gb_tf, bnd2_s, if_neg (by decide), bo2_s]
      exact ⟨_, er_chk h (by decide)⟩
    | true =>
      obtain ⟨w6, e6, r6⟩ := remember_ok (n := n) (by omega) w hf hc h1 h2 hm.v1 hm.c1 hm.s1 hm.bv hm.bc hm.bs
      have e61 : w6 1 = w 1 := r6.1 1 (by decide) (by omega)
      have hx : FX12_setFog n w (nI v0) a2 = some (.ok ((w 1).1 (4 + v0) 4, sW w6 1 (sI (w 1) (4 + v0) 4 a2))) := by
        unfold FX12_setFog FX6_faultOfFog FX6_changeFog
        rw [cHasV hm, hv, bnd_s, bnd_s, if_pos rfl, hd, bnd_s, if_pos rfl]
        show (bo1 (FX5_remember n w 1) fun w6 => _) = _
        rw [e6, bo1_s, e61, gd_t (inI (by omega) (by omega)), gd_t (inI (by omega) (by omega)), nI_c (by omega)]
        rfl
      rw [lw_o hx, bo2_s]
      generalize hwA : ow (sW w6 1 (sI (w 1) (4 + v0) 4 a2)) ((w 1).1 (4 + v0) 4) = wA
      have hA : ∀ r, r ≠ 1 → r ≠ 16 → wA r = w6 r := fun r a b => by rw [← hwA, ow_o _ _ b, sW_o _ _ a]
      have hA1 : wA 1 = sI (w 1) (4 + v0) 4 a2 := by rw [← hwA, ow_o _ _ (by decide), sW_s]
      have hA16 : (wA 16).2 0 0 = ((w 1).1 (4 + v0) 4).toInt64 := by rw [← hwA]; exact ow_v _ _
      have hA15 : wA 15 = w 15 := by rw [hA 15 (by decide) (by decide), r6.1 15 (by decide) (by omega)]
      have hArow : row wA = row w := by unfold row; rw [hA15]
      obtain ⟨w9, e9, h9⟩ := pre_ok (n := n) (by omega) wA
      have hr9 : (w9 15).1 2 = row w := by rw [h9.2.2.1 2 (by decide) (by decide), hA15]
      rw [rIsV (w := wA) ((congrFun hArow 0).trans hm.v0), hv, bo1_s, bnd_s, isFog_w, hd, gb_tt, bnd2_s, if_pos rfl, e9, bo1_s, bnd_s]
      have es : FX13_sets w9 (FX13_vly (nI v0) + 3) a2 = some (vaF (row w) v0 3, sW w9 15 (sI (w9 15) 2 (8 + 8 * v0 + 3) a2)) := by
        unfold FX13_sets FX13_vly
        rw [show (8 : Int32) + 8 * nI v0 + 3 = nI (8 + 8 * v0 + 3) from ix (k := 3), gd_t (inI (by omega) (by omega)), gd_t (inI (by omega) (by omega)), bnd_s, nI_c (by omega), hr9]
      rw [es, bo2_s]
      have hB15 : sW w9 15 (sI (w9 15) 2 (8 + 8 * v0 + 3) a2) 15 = sI (w9 15) 2 (8 + 8 * v0 + 3) a2 := sW_s _ _ _
      obtain ⟨h01, h02⟩ := wi_iff.mp hd
      obtain ⟨d, hd1, rfl⟩ := nI_of (x := a2) (fun e => h01 (Int32.lt_of_lt_of_le e (by decide)))
      have hd2 : d ≤ 9 := by
        have := mt (nI_ltI (a := 9) (b := d) (by decide) hd1).mpr h02
        omega
      have hd3 : 0 ≤ d := by
        have := mt (nI_ltI (a := d) (b := 0) hd1 (by decide)).mpr h01
        omega
      have hrow : ∀ k, row (sW w9 15 (sI (w9 15) 2 (8 + 8 * v0 + 3) (nI d))) k = if k = 8 + 8 * v0 + 3 then nI d else row w k := fun k => by
        show (sW w9 15 (sI (w9 15) 2 (8 + 8 * v0 + 3) (nI d)) 15).1 2 k = _
        rw [hB15, sI_at, hr9]
      obtain ⟨wF, eF, hG, ht, h16⟩ := change_run hn h (wB := sW w9 15 (sI (w9 15) 2 (8 + 8 * v0 + 3) (nI d))) hf hc h3 h4 hm r6 hA h9 (fun r hr => sW_o _ _ hr) (fun j hj0 hj2 => by rw [hB15]; exact sI_o _ _ _ hj2) (fun k _ _ => by rw [hB15, sI_o _ _ _ (show (0 : Nat) ≠ 2 by decide)]) (by
        rw [hA1]
        refine ⟨nv, nc, ns, bk, hm.sets (fun k _ _ hk => congrFun (sI_o _ _ _ (by omega)) k) (fun v hv => ⟨fun k _ _ h3 h4 => ?_, rfl⟩) (fun c hc => ⟨fun k _ _ => congrFun (sI_o _ _ _ (by omega)) k, rfl⟩) (fun i hi k _ => congrFun (sI_o _ _ _ (by omega)) k) (fun k _ hk hq => by rw [hrow, if_neg (by have := hq v0 (by omega); omega)]) (by rw [hrow, if_neg (by omega), sI_o _ _ _ (by omega)]; exact hm.depth) (by rw [hrow, if_neg (by omega)]; exact hm.dp) (fun v hv => ?_) (fun v hv => ?_)⟩
        · by_cases e : v = v0
          · rw [e, sI_at, if_neg (by omega)]
          · exact congrFun (sI_o _ _ _ (by omega)) k
        · show (sI (w 1) (4 + v0) 4 (nI d)).1 (4 + v) 3 = row _ (8 + 8 * v + 2) ∧ ∃ a, 1 ≤ a ∧ a ≤ 99 ∧ row _ (8 + 8 * v + 2) = nI a
          rw [hrow, if_neg (by omega)]
          refine ⟨?_, (hm.vs v hv).price⟩
          by_cases e : v = v0
          · rw [e, sI_at, if_neg (by omega)]
            exact (hm.vs v0 hv0).e3
          · rw [sI_o _ _ _ (by omega)]
            exact (hm.vs v hv).e3
        · show (sI (w 1) (4 + v0) 4 (nI d)).1 (4 + v) 4 = row _ (8 + 8 * v + 3) ∧ ∃ a, a ≤ 9 ∧ row _ (8 + 8 * v + 3) = nI a
          rw [hrow]
          by_cases e : v = v0
          · rw [e, sI_at, if_pos rfl, if_pos rfl]
            exact ⟨rfl, d, hd2, rfl⟩
          · rw [sI_o _ _ _ (by omega), if_neg (by omega)]
            exact ⟨(hm.vs v hv).e4, (hm.vs v hv).fog⟩)
      unfold FX13_kept
      rw [eF, bo1_s, bo2_s, bo2_s]
      exact ⟨wF, chk_0 ht (by rw [h16, hA16, (hm.vs v0 hv0).e4]), hG⟩
theorem isPrice_w (p : Int32) : FX13_isPrice p = FX12_isWithin p 1 99 := by
  unfold FX13_isPrice
  rw [bnd_s, show (1 : Int64) = (1 : Int32).toInt64 by decide, show (99 : Int64) = (99 : Int32).toInt64 by decide, isIn_w]
theorem ob_56 {n : Nat} (hn : 2500 ≤ n) {w : Wd} (h : Good w) (a1 a2 a3 a4 a5 : Int32) : ∃ w9, FLc_56 n w a1 a2 a3 a4 a5 = some w9 ∧ Good w9 := by
  obtain ⟨nv, nc, ns, bk, hm⟩ := h.m
  have hbv := hm.bv
  obtain ⟨fr, ct, hf, hc, h1, h2, h3, h4⟩ := h.h.cnt
  show ∃ w9, (bo2 (FL_setPrice n w a1 a2) fun k w1 => bo2 (FX13_setPrice n w1 a1 a2) fun q w2 => chk k q w2) = some w9 ∧ Good w9
  unfold FL_setPrice FX13_setPrice
  cases hv : FX12_isWithin a1 0 (nI nv - 1) with
  | false =>
    have hx : FX12_setPrice n w a1 a2 = some (.error ("java/lang/IndexOutOfBoundsException", w)) := by
      unfold FX12_setPrice FX6_faultOfPrice
      rw [cHasV hm, hv, bnd_s, bnd_s, if_neg (by decide)]
      rfl
    rw [lw_x (k := 1) hx (if_pos rfl), bo2_s, rIsV hm.v0, hv, bo1_s, bnd_s, gb_f, bnd2_s, if_neg (by decide), bo2_s]
    exact ⟨_, er_chk h (by decide)⟩
  | true =>
    obtain ⟨v0, hv0, rfl⟩ := wi_in (by omega) hv
    cases hd : FX12_isWithin a2 1 99 with
    | false =>
      have hx : FX12_setPrice n w (nI v0) a2 = some (.error ("java/lang/IllegalArgumentException", w)) := by
        unfold FX12_setPrice FX6_faultOfPrice
        rw [cHasV hm, hv, bnd_s, bnd_s, if_pos rfl, hd, bnd_s, if_neg (by decide)]
        rfl
      rw [lw_x (k := 2) hx rfl, bo2_s, rIsV hm.v0, hv, bo1_s, bnd_s, isPrice_w, hd, gb_tf, bnd2_s, if_neg (by decide), bo2_s]
      exact ⟨_, er_chk h (by decide)⟩
    | true =>
      obtain ⟨w6, e6, r6⟩ := remember_ok (n := n) (by omega) w hf hc h1 h2 hm.v1 hm.c1 hm.s1 hm.bv hm.bc hm.bs
      have e61 : w6 1 = w 1 := r6.1 1 (by decide) (by omega)
      have hx : FX12_setPrice n w (nI v0) a2 = some (.ok ((w 1).1 (4 + v0) 3, sW w6 1 (sI (w 1) (4 + v0) 3 a2))) := by
        unfold FX12_setPrice FX6_faultOfPrice FX6_changePrice
        rw [cHasV hm, hv, bnd_s, bnd_s, if_pos rfl, hd, bnd_s, if_pos rfl]
        show (bo1 (FX5_remember n w 1) fun w6 => _) = _
        rw [e6, bo1_s, e61, gd_t (inI (by omega) (by omega)), gd_t (inI (by omega) (by omega)), nI_c (by omega)]
        rfl
      rw [lw_o hx, bo2_s]
      generalize hwA : ow (sW w6 1 (sI (w 1) (4 + v0) 3 a2)) ((w 1).1 (4 + v0) 3) = wA
      have hA : ∀ r, r ≠ 1 → r ≠ 16 → wA r = w6 r := fun r a b => by rw [← hwA, ow_o _ _ b, sW_o _ _ a]
      have hA1 : wA 1 = sI (w 1) (4 + v0) 3 a2 := by rw [← hwA, ow_o _ _ (by decide), sW_s]
      have hA16 : (wA 16).2 0 0 = ((w 1).1 (4 + v0) 3).toInt64 := by rw [← hwA]; exact ow_v _ _
      have hA15 : wA 15 = w 15 := by rw [hA 15 (by decide) (by decide), r6.1 15 (by decide) (by omega)]
      have hArow : row wA = row w := by unfold row; rw [hA15]
      obtain ⟨w9, e9, h9⟩ := pre_ok (n := n) (by omega) wA
      have hr9 : (w9 15).1 2 = row w := by rw [h9.2.2.1 2 (by decide) (by decide), hA15]
      rw [rIsV (w := wA) ((congrFun hArow 0).trans hm.v0), hv, bo1_s, bnd_s, isPrice_w, hd, gb_tt, bnd2_s, if_pos rfl, e9, bo1_s, bnd_s]
      have es : FX13_sets w9 (FX13_vly (nI v0) + 2) a2 = some (vaF (row w) v0 2, sW w9 15 (sI (w9 15) 2 (8 + 8 * v0 + 2) a2)) := by
        unfold FX13_sets FX13_vly
        rw [show (8 : Int32) + 8 * nI v0 + 2 = nI (8 + 8 * v0 + 2) from ix (k := 2), gd_t (inI (by omega) (by omega)), gd_t (inI (by omega) (by omega)), bnd_s, nI_c (by omega), hr9]
      rw [es, bo2_s]
      have hB15 : sW w9 15 (sI (w9 15) 2 (8 + 8 * v0 + 2) a2) 15 = sI (w9 15) 2 (8 + 8 * v0 + 2) a2 := sW_s _ _ _
      obtain ⟨h01, h02⟩ := wi_iff.mp hd
      obtain ⟨d, hd1, rfl⟩ := nI_of (x := a2) (fun e => h01 (Int32.lt_of_lt_of_le e (by decide)))
      have hd2 : d ≤ 99 := by
        have := mt (nI_ltI (a := 99) (b := d) (by decide) hd1).mpr h02
        omega
      have hd3 : 1 ≤ d := by
        have := mt (nI_ltI (a := d) (b := 1) hd1 (by decide)).mpr h01
        omega
      have hrow : ∀ k, row (sW w9 15 (sI (w9 15) 2 (8 + 8 * v0 + 2) (nI d))) k = if k = 8 + 8 * v0 + 2 then nI d else row w k := fun k => by
        show (sW w9 15 (sI (w9 15) 2 (8 + 8 * v0 + 2) (nI d)) 15).1 2 k = _
        rw [hB15, sI_at, hr9]
      obtain ⟨wF, eF, hG, ht, h16⟩ := change_run hn h (wB := sW w9 15 (sI (w9 15) 2 (8 + 8 * v0 + 2) (nI d))) hf hc h3 h4 hm r6 hA h9 (fun r hr => sW_o _ _ hr) (fun j hj0 hj2 => by rw [hB15]; exact sI_o _ _ _ hj2) (fun k _ _ => by rw [hB15, sI_o _ _ _ (show (0 : Nat) ≠ 2 by decide)]) (by
        rw [hA1]
        refine ⟨nv, nc, ns, bk, hm.sets (fun k _ _ hk => congrFun (sI_o _ _ _ (by omega)) k) (fun v hv => ⟨fun k _ _ h3 h4 => ?_, rfl⟩) (fun c hc => ⟨fun k _ _ => congrFun (sI_o _ _ _ (by omega)) k, rfl⟩) (fun i hi k _ => congrFun (sI_o _ _ _ (by omega)) k) (fun k _ hk hq => by rw [hrow, if_neg (by have := hq v0 (by omega); omega)]) (by rw [hrow, if_neg (by omega), sI_o _ _ _ (by omega)]; exact hm.depth) (by rw [hrow, if_neg (by omega)]; exact hm.dp) (fun v hv => ?_) (fun v hv => ?_)⟩
        · by_cases e : v = v0
          · rw [e, sI_at, if_neg (by omega)]
          · exact congrFun (sI_o _ _ _ (by omega)) k
        · show (sI (w 1) (4 + v0) 3 (nI d)).1 (4 + v) 3 = row _ (8 + 8 * v + 2) ∧ ∃ a, 1 ≤ a ∧ a ≤ 99 ∧ row _ (8 + 8 * v + 2) = nI a
          rw [hrow]
          by_cases e : v = v0
          · rw [e, sI_at, if_pos rfl, if_pos rfl]
            exact ⟨rfl, d, hd3, hd2, rfl⟩
          · rw [sI_o _ _ _ (by omega), if_neg (by omega)]
            exact ⟨(hm.vs v hv).e3, (hm.vs v hv).price⟩
        · show (sI (w 1) (4 + v0) 3 (nI d)).1 (4 + v) 4 = row _ (8 + 8 * v + 3) ∧ ∃ a, a ≤ 9 ∧ row _ (8 + 8 * v + 3) = nI a
          rw [hrow, if_neg (by omega)]
          refine ⟨?_, (hm.vs v hv).fog⟩
          by_cases e : v = v0
          · rw [e, sI_at, if_neg (by omega)]
            exact (hm.vs v0 hv0).e4
          · rw [sI_o _ _ _ (by omega)]
            exact (hm.vs v hv).e4)
      unfold FX13_kept
      rw [eF, bo1_s, bo2_s, bo2_s]
      exact ⟨wF, chk_0 ht (by rw [h16, hA16, (hm.vs v0 hv0).e3]), hG⟩
