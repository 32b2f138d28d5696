set_option maxHeartbeats 200000
/-! calls that ask -/
theorem ok_chk {w : Wd} (h : Good w) {q : Int32} : chk 0 q (cd (ow w q) 0) = some (cd (ow w q) 0) ∧ Good (cd (ow w q) 0) := ⟨chk_0 (cd_th _ _) (owcd_v _ _ _), (h.ow q).cd 0⟩
theorem er_chk {w : Wd} (h : Good w) {k q : Int32} (hk : ¬ k = 0) : chk k q (cd w k) = some (cd w k) ∧ Good (cd w k) := ⟨chk_k (cd_th _ _) hk, h.cd k⟩
-- the class's own finding of a valley, a customer, a shout
theorem cVal {w : Wd} {nv : Nat} (h : (w 1).1 0 3 = nI nv) (hn : nv ≤ 8) (p : Int32) : (∃ j, j < nv ∧ p = nI j ∧ FX12_isWithin p 0 (nI nv - 1) = true ∧ FX12_valleyAt w p = some (.ok (4 + j))) ∨ (FX12_isWithin p 0 (nI nv - 1) = false ∧ FX12_valleyAt w p = some (.error ("java/lang/IndexOutOfBoundsException", w))) := by
  unfold FX12_valleyAt FX6_hasValley
  rw [h]
  simp only [bnd_s]
  cases hb : FX12_isWithin p 0 (nI nv - 1) with
  | true =>
    obtain ⟨j, hj, rfl⟩ := wi_in (by omega) hb
    refine Or.inl ⟨j, hj, rfl, rfl, ?_⟩
    show gd (inb (nI j) 8) _ = _
    rw [gd_t (inI (by omega) (by omega)), nI_c (by omega)]
  | false => exact Or.inr ⟨rfl, rfl⟩
theorem cCus {w : Wd} {nv : Nat} (h : (w 1).1 0 4 = nI nv) (hn : nv ≤ 8) (p : Int32) : (∃ j, j < nv ∧ p = nI j ∧ FX12_isWithin p 0 (nI nv - 1) = true ∧ FX12_customerAt w p = some (.ok (12 + j))) ∨ (FX12_isWithin p 0 (nI nv - 1) = false ∧ FX12_customerAt w p = some (.error ("java/lang/IndexOutOfBoundsException", w))) := by
  unfold FX12_customerAt FX6_hasCustomer
  rw [h]
  simp only [bnd_s]
  cases hb : FX12_isWithin p 0 (nI nv - 1) with
  | true =>
    obtain ⟨j, hj, rfl⟩ := wi_in (by omega) hb
    refine Or.inl ⟨j, hj, rfl, rfl, ?_⟩
    show gd (inb (nI j) 8) _ = _
    rw [gd_t (inI (by omega) (by omega)), nI_c (by omega)]
  | false => exact Or.inr ⟨rfl, rfl⟩
theorem cSho {w : Wd} {nv : Nat} (h : (w 1).1 0 5 = nI nv) (hn : nv ≤ 30) (p : Int32) : (∃ j, j < nv ∧ p = nI j ∧ FX12_isWithin p 0 (nI nv - 1) = true ∧ FX12_shoutAt w p = some (.ok (20 + j))) ∨ (FX12_isWithin p 0 (nI nv - 1) = false ∧ FX12_shoutAt w p = some (.error ("java/lang/IndexOutOfBoundsException", w))) := by
  unfold FX12_shoutAt FX6_hasShout
  rw [h]
  simp only [bnd_s]
  cases hb : FX12_isWithin p 0 (nI nv - 1) with
  | true =>
    obtain ⟨j, hj, rfl⟩ := wi_in (by omega) hb
    refine Or.inl ⟨j, hj, rfl, rfl, ?_⟩
    show gd (inb (nI j) 30) _ = _
    rw [gd_t (inI (by omega) (by omega)), nI_c (by omega)]
  | false => exact Or.inr ⟨rfl, rfl⟩
theorem ob_6 {n : Nat} {w : Wd} (h : Good w) (a1 a2 a3 a4 a5 : Int32) : ∃ w9, FLc_6 n w a1 a2 a3 a4 a5 = some w9 ∧ Good w9 := by
  obtain ⟨nv, nc, ns, bk, hm⟩ := h.m
  refine ⟨cd w 0, ?_, h.cd 0⟩
  unfold FLc_6 FX12_valleyCount FX13_valleyCount
  rw [bnd_s, gd0, told_e, bnd2_s, bo2_s]
  exact if_pos (hm.v1.trans hm.v0.symm)
theorem ob_7 {n : Nat} {w : Wd} (h : Good w) (a1 a2 a3 a4 a5 : Int32) : ∃ w9, FLc_7 n w a1 a2 a3 a4 a5 = some w9 ∧ Good w9 := by
  obtain ⟨nv, nc, ns, bk, hm⟩ := h.m
  refine ⟨cd w 0, ?_, h.cd 0⟩
  unfold FLc_7 FX12_customerCount FX13_customerCount
  rw [bnd_s, gd1, told_e, bnd2_s, bo2_s]
  exact if_pos (hm.c1.trans hm.c0.symm)
theorem ob_8 {n : Nat} {w : Wd} (h : Good w) (a1 a2 a3 a4 a5 : Int32) : ∃ w9, FLc_8 n w a1 a2 a3 a4 a5 = some w9 ∧ Good w9 := by
  obtain ⟨nv, nc, ns, bk, hm⟩ := h.m
  refine ⟨cd w 0, ?_, h.cd 0⟩
  unfold FLc_8 FX12_shoutCount FX13_shoutCount
  rw [bnd_s, gd2, told_e, bnd2_s, bo2_s]
  exact if_pos (hm.s1.trans hm.s0.symm)
theorem ob_9 {n : Nat} {w : Wd} (h : Good w) (a1 a2 a3 a4 a5 : Int32) : ∃ w9, FLc_9 n w a1 a2 a3 a4 a5 = some w9 ∧ Good w9 := by
  obtain ⟨nv, nc, ns, bk, hm⟩ := h.m
  refine ⟨cd w 0, ?_, h.cd 0⟩
  unfold FLc_9 FX12_time FX13_time
  rw [bnd_s, gd3, told_e, bnd2_s, bo2_s]
  exact if_pos (hm.time)
theorem ob_10 {n : Nat} {w : Wd} (h : Good w) (a1 a2 a3 a4 a5 : Int32) : ∃ w9, FLc_10 n w a1 a2 a3 a4 a5 = some w9 ∧ Good w9 := by
  obtain ⟨nv, nc, ns, bk, hm⟩ := h.m
  refine ⟨cd w 0, ?_, h.cd 0⟩
  unfold FLc_10 FX12_earned FX13_earned
  rw [bnd_s, gd4, told_e, bnd2_s, bo2_s]
  exact if_pos (hm.earn)
theorem ob_11 {n : Nat} {w : Wd} (h : Good w) (a1 a2 a3 a4 a5 : Int32) : ∃ w9, FLc_11 n w a1 a2 a3 a4 a5 = some w9 ∧ Good w9 := by
  obtain ⟨nv, nc, ns, bk, hm⟩ := h.m
  refine ⟨cd w 0, ?_, h.cd 0⟩
  unfold FLc_11 FX12_refunded FX13_refunded
  rw [bnd_s, gd5, told_e, bnd2_s, bo2_s]
  exact if_pos (hm.refd)
theorem ob_13 {n : Nat} {w : Wd} (h : Good w) (a1 a2 a3 a4 a5 : Int32) : ∃ w9, FLc_13 n w a1 a2 a3 a4 a5 = some w9 ∧ Good w9 := by
  obtain ⟨nv, nc, ns, bk, hm⟩ := h.m
  refine ⟨cd w 0, ?_, h.cd 0⟩
  unfold FLc_13 FX12_wellDepth FX13_wellDepth
  rw [bnd_s, gd6, told_e, bnd2_s, bo2_s]
  exact if_pos (hm.depth)
theorem ob_4 {n : Nat} {w : Wd} (h : Good w) (a1 a2 a3 a4 a5 : Int32) : ∃ w9, FLc_4 n w a1 a2 a3 a4 a5 = some w9 ∧ Good w9 := by
  refine ⟨cd w 0, ?_, h.cd 0⟩
  have e : FX13_errorCode w = ((w 15).1 0 10, cd w 0) := by
    unfold FX13_errorCode
    rw [bnd_s]
    refine Prod.ext ?_ rfl
    show (sW w 15 (sI (w 15) 0 0 0) 15).1 0 10 = (w 15).1 0 10
    rw [sW_s, sI_s]
    exact if_neg (by decide)
  unfold FLc_4 FX12_errorCode
  rw [bnd_s, e, bnd2_s]
  exact if_pos h.t.code
theorem ob_5 {n : Nat} {w : Wd} (h : Good w) (a1 a2 a3 a4 a5 : Int32) : ∃ w9, FLc_5 n w a1 a2 a3 a4 a5 = some w9 ∧ Good w9 := by
  refine ⟨cd w 0, ?_, h.cd 0⟩
  have e : FX13_errorOffset w = ((w 15).1 0 11, cd w 0) := by
    unfold FX13_errorOffset
    rw [bnd_s]
    refine Prod.ext ?_ rfl
    show (sW w 15 (sI (w 15) 0 0 0) 15).1 0 11 = (w 15).1 0 11
    rw [sW_s, sI_s]
    exact if_neg (by decide)
  unfold FLc_5 FX12_errorOffset
  rw [bnd_s, e, bnd2_s]
  exact if_pos h.t.offs
theorem ob_17 {n : Nat} {w : Wd} (h : Good w) (a1 a2 a3 a4 a5 : Int32) : ∃ w9, FLc_17 n w a1 a2 a3 a4 a5 = some w9 ∧ Good w9 := by
  obtain ⟨nv, nc, ns, bk, hm⟩ := h.m
  have hb1 := hm.bv
  show ∃ w9, (bo2 (FL_width w a1) fun k w1 => bo2 (FX13_width w1 a1) fun q w2 => chk k q w2) = some w9 ∧ Good w9
  unfold FL_width FX13_width FX13_inValley
  rcases cVal hm.v1 hm.bv a1 with ⟨j, hj, rfl, hw, ha⟩ | ⟨hw, ha⟩
  · have hx : FX12_width w (nI j) = some (.ok ((w 1).1 (4 + j) 1)) := by
      unfold FX12_width
      rw [ha]
      exact gd_t (by simp; omega)
    rw [lwW_ok hx, bo2_s, rIsV (w := ow w ((w 1).1 (4 + j) 1)) ((congrFun (ow_row w _) _).trans hm.v0), hw, bo1_s, goes_t, bnd2_s, if_pos rfl, rV0 (by omega), bo1_s, bo2_s, bo2_s, cd_row, ow_row]
    rw [show vaF (row w) j 0 = (w 1).1 (4 + j) 1 from ((hm.vs j hj).e1).symm]
    exact ⟨_, ok_chk h⟩
  · have hx : FX12_width w a1 = some (.error ("java/lang/IndexOutOfBoundsException", w)) := by
      unfold FX12_width
      rw [ha]
      rfl
    rw [lwW_er (k := 1) hx (if_pos rfl), bo2_s, rIsV hm.v0, hw, bo1_s, goes_f, bnd2_s, if_neg (by decide), bo2_s, bo2_s]
    exact ⟨_, er_chk h (by decide)⟩
theorem ob_18 {n : Nat} {w : Wd} (h : Good w) (a1 a2 a3 a4 a5 : Int32) : ∃ w9, FLc_18 n w a1 a2 a3 a4 a5 = some w9 ∧ Good w9 := by
  obtain ⟨nv, nc, ns, bk, hm⟩ := h.m
  have hb1 := hm.bv
  show ∃ w9, (bo2 (FL_walls w a1) fun k w1 => bo2 (FX13_walls w1 a1) fun q w2 => chk k q w2) = some w9 ∧ Good w9
  unfold FL_walls FX13_walls FX13_inValley
  rcases cVal hm.v1 hm.bv a1 with ⟨j, hj, rfl, hw, ha⟩ | ⟨hw, ha⟩
  · have hx : FX12_walls w (nI j) = some (.ok ((w 1).1 (4 + j) 2)) := by
      unfold FX12_walls
      rw [ha]
      exact gd_t (by simp; omega)
    rw [lwW_ok hx, bo2_s, rIsV (w := ow w ((w 1).1 (4 + j) 2)) ((congrFun (ow_row w _) _).trans hm.v0), hw, bo1_s, goes_t, bnd2_s, if_pos rfl, rV1 (by omega), bo1_s, bo2_s, bo2_s, cd_row, ow_row]
    rw [show vaF (row w) j 1 = (w 1).1 (4 + j) 2 from ((hm.vs j hj).e2).symm]
    exact ⟨_, ok_chk h⟩
  · have hx : FX12_walls w a1 = some (.error ("java/lang/IndexOutOfBoundsException", w)) := by
      unfold FX12_walls
      rw [ha]
      rfl
    rw [lwW_er (k := 1) hx (if_pos rfl), bo2_s, rIsV hm.v0, hw, bo1_s, goes_f, bnd2_s, if_neg (by decide), bo2_s, bo2_s]
    exact ⟨_, er_chk h (by decide)⟩
theorem ob_19 {n : Nat} {w : Wd} (h : Good w) (a1 a2 a3 a4 a5 : Int32) : ∃ w9, FLc_19 n w a1 a2 a3 a4 a5 = some w9 ∧ Good w9 := by
  obtain ⟨nv, nc, ns, bk, hm⟩ := h.m
  have hb1 := hm.bv
  show ∃ w9, (bo2 (FL_price w a1) fun k w1 => bo2 (FX13_price w1 a1) fun q w2 => chk k q w2) = some w9 ∧ Good w9
  unfold FL_price FX13_price FX13_inValley
  rcases cVal hm.v1 hm.bv a1 with ⟨j, hj, rfl, hw, ha⟩ | ⟨hw, ha⟩
  · have hx : FX12_price w (nI j) = some (.ok ((w 1).1 (4 + j) 3)) := by
      unfold FX12_price
      rw [ha]
      exact gd_t (by simp; omega)
    rw [lwW_ok hx, bo2_s, rIsV (w := ow w ((w 1).1 (4 + j) 3)) ((congrFun (ow_row w _) _).trans hm.v0), hw, bo1_s, goes_t, bnd2_s, if_pos rfl, rV2 (by omega), bo1_s, bo2_s, bo2_s, cd_row, ow_row]
    rw [show vaF (row w) j 2 = (w 1).1 (4 + j) 3 from ((hm.vs j hj).e3).symm]
    exact ⟨_, ok_chk h⟩
  · have hx : FX12_price w a1 = some (.error ("java/lang/IndexOutOfBoundsException", w)) := by
      unfold FX12_price
      rw [ha]
      rfl
    rw [lwW_er (k := 1) hx (if_pos rfl), bo2_s, rIsV hm.v0, hw, bo1_s, goes_f, bnd2_s, if_neg (by decide), bo2_s, bo2_s]
    exact ⟨_, er_chk h (by decide)⟩
theorem ob_20 {n : Nat} {w : Wd} (h : Good w) (a1 a2 a3 a4 a5 : Int32) : ∃ w9, FLc_20 n w a1 a2 a3 a4 a5 = some w9 ∧ Good w9 := by
  obtain ⟨nv, nc, ns, bk, hm⟩ := h.m
  have hb1 := hm.bv
  show ∃ w9, (bo2 (FL_rating w a1) fun k w1 => bo2 (FX13_rating w1 a1) fun q w2 => chk k q w2) = some w9 ∧ Good w9
  unfold FL_rating FX13_rating FX13_inValley
  rcases cVal hm.v1 hm.bv a1 with ⟨j, hj, rfl, hw, ha⟩ | ⟨hw, ha⟩
  · have hx : FX12_rating w (nI j) = some (.ok ((w 1).1 (4 + j) 5)) := by
      unfold FX12_rating
      rw [ha]
      exact gd_t (by simp; omega)
    rw [lwW_ok hx, bo2_s, rIsV (w := ow w ((w 1).1 (4 + j) 5)) ((congrFun (ow_row w _) _).trans hm.v0), hw, bo1_s, goes_t, bnd2_s, if_pos rfl, rV4 (by omega), bo1_s, bo2_s, bo2_s, cd_row, ow_row]
    rw [show vaF (row w) j 4 = (w 1).1 (4 + j) 5 from ((hm.vs j hj).e5).symm]
    exact ⟨_, ok_chk h⟩
  · have hx : FX12_rating w a1 = some (.error ("java/lang/IndexOutOfBoundsException", w)) := by
      unfold FX12_rating
      rw [ha]
      rfl
    rw [lwW_er (k := 1) hx (if_pos rfl), bo2_s, rIsV hm.v0, hw, bo1_s, goes_f, bnd2_s, if_neg (by decide), bo2_s, bo2_s]
    exact ⟨_, er_chk h (by decide)⟩
theorem ob_21 {n : Nat} {w : Wd} (h : Good w) (a1 a2 a3 a4 a5 : Int32) : ∃ w9, FLc_21 n w a1 a2 a3 a4 a5 = some w9 ∧ Good w9 := by
  obtain ⟨nv, nc, ns, bk, hm⟩ := h.m
  have hb1 := hm.bv
  show ∃ w9, (bo2 (FL_echoesLost w a1) fun k w1 => bo2 (FX13_echoesLost w1 a1) fun q w2 => chk k q w2) = some w9 ∧ Good w9
  unfold FL_echoesLost FX13_echoesLost FX13_inValley
  rcases cVal hm.v1 hm.bv a1 with ⟨j, hj, rfl, hw, ha⟩ | ⟨hw, ha⟩
  · have hx : FX12_echoesLost w (nI j) = some (.ok ((w 1).1 (4 + j) 7)) := by
      unfold FX12_echoesLost
      rw [ha]
      exact gd_t (by simp; omega)
    rw [lwW_ok hx, bo2_s, rIsV (w := ow w ((w 1).1 (4 + j) 7)) ((congrFun (ow_row w _) _).trans hm.v0), hw, bo1_s, goes_t, bnd2_s, if_pos rfl, rV5 (by omega), bo1_s, bo2_s, bo2_s, cd_row, ow_row]
    rw [show vaF (row w) j 5 = (w 1).1 (4 + j) 7 from ((hm.vs j hj).e7).symm]
    exact ⟨_, ok_chk h⟩
  · have hx : FX12_echoesLost w a1 = some (.error ("java/lang/IndexOutOfBoundsException", w)) := by
      unfold FX12_echoesLost
      rw [ha]
      rfl
    rw [lwW_er (k := 1) hx (if_pos rfl), bo2_s, rIsV hm.v0, hw, bo1_s, goes_f, bnd2_s, if_neg (by decide), bo2_s, bo2_s]
    exact ⟨_, er_chk h (by decide)⟩
theorem ob_26 {n : Nat} {w : Wd} (h : Good w) (a1 a2 a3 a4 a5 : Int32) : ∃ w9, FLc_26 n w a1 a2 a3 a4 a5 = some w9 ∧ Good w9 := by
  obtain ⟨nv, nc, ns, bk, hm⟩ := h.m
  have hb1 := hm.bc
  show ∃ w9, (bo2 (FL_money w a1) fun k w1 => bo2 (FX13_money w1 a1) fun q w2 => chk k q w2) = some w9 ∧ Good w9
  unfold FL_money FX13_money FX13_inCustomer
  rcases cCus hm.c1 hm.bc a1 with ⟨j, hj, rfl, hw, ha⟩ | ⟨hw, ha⟩
  · have hx : FX12_money w (nI j) = some (.ok ((w 1).1 (12 + j) 3)) := by
      unfold FX12_money
      rw [ha]
      exact gd_t (by simp; omega)
    rw [lwW_ok hx, bo2_s, rIsC (w := ow w ((w 1).1 (12 + j) 3)) ((congrFun (ow_row w _) _).trans hm.c0), hw, bo1_s, goes_t, bnd2_s, if_pos rfl, rC1 (by omega), bo1_s, bo2_s, bo2_s, cd_row, ow_row]
    rw [show cuF (row w) j 1 = (w 1).1 (12 + j) 3 from ((hm.cs j hj).e3).symm]
    exact ⟨_, ok_chk h⟩
  · have hx : FX12_money w a1 = some (.error ("java/lang/IndexOutOfBoundsException", w)) := by
      unfold FX12_money
      rw [ha]
      rfl
    rw [lwW_er (k := 1) hx (if_pos rfl), bo2_s, rIsC hm.c0, hw, bo1_s, goes_f, bnd2_s, if_neg (by decide), bo2_s, bo2_s]
    exact ⟨_, er_chk h (by decide)⟩
theorem ob_27 {n : Nat} {w : Wd} (h : Good w) (a1 a2 a3 a4 a5 : Int32) : ∃ w9, FLc_27 n w a1 a2 a3 a4 a5 = some w9 ∧ Good w9 := by
  obtain ⟨nv, nc, ns, bk, hm⟩ := h.m
  have hb1 := hm.bc
  show ∃ w9, (bo2 (FL_patience w a1) fun k w1 => bo2 (FX13_patience w1 a1) fun q w2 => chk k q w2) = some w9 ∧ Good w9
  unfold FL_patience FX13_patience FX13_inCustomer
  rcases cCus hm.c1 hm.bc a1 with ⟨j, hj, rfl, hw, ha⟩ | ⟨hw, ha⟩
  · have hx : FX12_patience w (nI j) = some (.ok ((w 1).1 (12 + j) 1)) := by
      unfold FX12_patience
      rw [ha]
      exact gd_t (by simp; omega)
    rw [lwW_ok hx, bo2_s, rIsC (w := ow w ((w 1).1 (12 + j) 1)) ((congrFun (ow_row w _) _).trans hm.c0), hw, bo1_s, goes_t, bnd2_s, if_pos rfl, rC0 (by omega), bo1_s, bo2_s, bo2_s, cd_row, ow_row]
    rw [show cuF (row w) j 0 = (w 1).1 (12 + j) 1 from ((hm.cs j hj).e1).symm]
    exact ⟨_, ok_chk h⟩
  · have hx : FX12_patience w a1 = some (.error ("java/lang/IndexOutOfBoundsException", w)) := by
      unfold FX12_patience
      rw [ha]
      rfl
    rw [lwW_er (k := 1) hx (if_pos rfl), bo2_s, rIsC hm.c0, hw, bo1_s, goes_f, bnd2_s, if_neg (by decide), bo2_s, bo2_s]
    exact ⟨_, er_chk h (by decide)⟩
theorem ob_28 {n : Nat} {w : Wd} (h : Good w) (a1 a2 a3 a4 a5 : Int32) : ∃ w9, FLc_28 n w a1 a2 a3 a4 a5 = some w9 ∧ Good w9 := by
  obtain ⟨nv, nc, ns, bk, hm⟩ := h.m
  have hb1 := hm.bc
  show ∃ w9, (bo2 (FL_suspicion w a1) fun k w1 => bo2 (FX13_suspicion w1 a1) fun q w2 => chk k q w2) = some w9 ∧ Good w9
  unfold FL_suspicion FX13_suspicion FX13_inCustomer
  rcases cCus hm.c1 hm.bc a1 with ⟨j, hj, rfl, hw, ha⟩ | ⟨hw, ha⟩
  · have hx : FX12_suspicion w (nI j) = some (.ok ((w 1).1 (12 + j) 4)) := by
      unfold FX12_suspicion
      rw [ha]
      exact gd_t (by simp; omega)
    rw [lwW_ok hx, bo2_s, rIsC (w := ow w ((w 1).1 (12 + j) 4)) ((congrFun (ow_row w _) _).trans hm.c0), hw, bo1_s, goes_t, bnd2_s, if_pos rfl, rC2 (by omega), bo1_s, bo2_s, bo2_s, cd_row, ow_row]
    rw [show cuF (row w) j 2 = (w 1).1 (12 + j) 4 from ((hm.cs j hj).e4).symm]
    exact ⟨_, ok_chk h⟩
  · have hx : FX12_suspicion w a1 = some (.error ("java/lang/IndexOutOfBoundsException", w)) := by
      unfold FX12_suspicion
      rw [ha]
      rfl
    rw [lwW_er (k := 1) hx (if_pos rfl), bo2_s, rIsC hm.c0, hw, bo1_s, goes_f, bnd2_s, if_neg (by decide), bo2_s, bo2_s]
    exact ⟨_, er_chk h (by decide)⟩
theorem ob_30 {n : Nat} {w : Wd} (h : Good w) (a1 a2 a3 a4 a5 : Int32) : ∃ w9, FLc_30 n w a1 a2 a3 a4 a5 = some w9 ∧ Good w9 := by
  obtain ⟨nv, nc, ns, bk, hm⟩ := h.m
  have hb1 := hm.bc
  show ∃ w9, (bo2 (FL_echoesHeard w a1) fun k w1 => bo2 (FX13_echoesHeard w1 a1) fun q w2 => chk k q w2) = some w9 ∧ Good w9
  unfold FL_echoesHeard FX13_echoesHeard FX13_inCustomer
  rcases cCus hm.c1 hm.bc a1 with ⟨j, hj, rfl, hw, ha⟩ | ⟨hw, ha⟩
  · have hx : FX12_echoesHeard w (nI j) = some (.ok ((w 1).1 (12 + j) 6)) := by
      unfold FX12_echoesHeard
      rw [ha]
      exact gd_t (by simp; omega)
    rw [lwW_ok hx, bo2_s, rIsC (w := ow w ((w 1).1 (12 + j) 6)) ((congrFun (ow_row w _) _).trans hm.c0), hw, bo1_s, goes_t, bnd2_s, if_pos rfl, rC3 (by omega), bo1_s, bo2_s, bo2_s, cd_row, ow_row]
    rw [show cuF (row w) j 3 = (w 1).1 (12 + j) 6 from ((hm.cs j hj).e6).symm]
    exact ⟨_, ok_chk h⟩
  · have hx : FX12_echoesHeard w a1 = some (.error ("java/lang/IndexOutOfBoundsException", w)) := by
      unfold FX12_echoesHeard
      rw [ha]
      rfl
    rw [lwW_er (k := 1) hx (if_pos rfl), bo2_s, rIsC hm.c0, hw, bo1_s, goes_f, bnd2_s, if_neg (by decide), bo2_s, bo2_s]
    exact ⟨_, er_chk h (by decide)⟩
theorem ob_34 {n : Nat} {w : Wd} (h : Good w) (a1 a2 a3 a4 a5 : Int32) : ∃ w9, FLc_34 n w a1 a2 a3 a4 a5 = some w9 ∧ Good w9 := by
  obtain ⟨nv, nc, ns, bk, hm⟩ := h.m
  have hb1 := hm.bs
  show ∃ w9, (bo2 (FL_shoutCustomer w a1) fun k w1 => bo2 (FX13_shoutCustomer w1 a1) fun q w2 => chk k q w2) = some w9 ∧ Good w9
  unfold FL_shoutCustomer FX13_shoutCustomer FX13_inShout
  rcases cSho hm.s1 hm.bs a1 with ⟨j, hj, rfl, hw, ha⟩ | ⟨hw, ha⟩
  · have hx : FX12_shoutCustomer w (nI j) = some (.ok ((w 1).1 (20 + j) 0)) := by
      unfold FX12_shoutCustomer
      rw [ha]
      exact gd_t (by simp; omega)
    rw [lwW_ok hx, bo2_s, rIsS (w := ow w ((w 1).1 (20 + j) 0)) ((congrFun (ow_row w _) _).trans hm.s0), hw, bo1_s, goes_t, bnd2_s, if_pos rfl, rS0 (by omega), bo1_s, bo2_s, bo2_s, cd_row, ow_row]
    rw [show shF (row w) j 0 = (w 1).1 (20 + j) 0 from ((hm.ss j hj).e0).symm]
    exact ⟨_, ok_chk h⟩
  · have hx : FX12_shoutCustomer w a1 = some (.error ("java/lang/IndexOutOfBoundsException", w)) := by
      unfold FX12_shoutCustomer
      rw [ha]
      rfl
    rw [lwW_er (k := 1) hx (if_pos rfl), bo2_s, rIsS hm.s0, hw, bo1_s, goes_f, bnd2_s, if_neg (by decide), bo2_s, bo2_s]
    exact ⟨_, er_chk h (by decide)⟩
theorem ob_35 {n : Nat} {w : Wd} (h : Good w) (a1 a2 a3 a4 a5 : Int32) : ∃ w9, FLc_35 n w a1 a2 a3 a4 a5 = some w9 ∧ Good w9 := by
  obtain ⟨nv, nc, ns, bk, hm⟩ := h.m
  have hb1 := hm.bs
  show ∃ w9, (bo2 (FL_shoutValley w a1) fun k w1 => bo2 (FX13_shoutValley w1 a1) fun q w2 => chk k q w2) = some w9 ∧ Good w9
  unfold FL_shoutValley FX13_shoutValley FX13_inShout
  rcases cSho hm.s1 hm.bs a1 with ⟨j, hj, rfl, hw, ha⟩ | ⟨hw, ha⟩
  · have hx : FX12_shoutValley w (nI j) = some (.ok ((w 1).1 (20 + j) 1)) := by
      unfold FX12_shoutValley
      rw [ha]
      exact gd_t (by simp; omega)
    rw [lwW_ok hx, bo2_s, rIsS (w := ow w ((w 1).1 (20 + j) 1)) ((congrFun (ow_row w _) _).trans hm.s0), hw, bo1_s, goes_t, bnd2_s, if_pos rfl, rS1 (by omega), bo1_s, bo2_s, bo2_s, cd_row, ow_row]
    rw [show shF (row w) j 1 = (w 1).1 (20 + j) 1 from ((hm.ss j hj).e1).symm]
    exact ⟨_, ok_chk h⟩
  · have hx : FX12_shoutValley w a1 = some (.error ("java/lang/IndexOutOfBoundsException", w)) := by
      unfold FX12_shoutValley
      rw [ha]
      rfl
    rw [lwW_er (k := 1) hx (if_pos rfl), bo2_s, rIsS hm.s0, hw, bo1_s, goes_f, bnd2_s, if_neg (by decide), bo2_s, bo2_s]
    exact ⟨_, er_chk h (by decide)⟩
theorem ob_36 {n : Nat} {w : Wd} (h : Good w) (a1 a2 a3 a4 a5 : Int32) : ∃ w9, FLc_36 n w a1 a2 a3 a4 a5 = some w9 ∧ Good w9 := by
  obtain ⟨nv, nc, ns, bk, hm⟩ := h.m
  have hb1 := hm.bs
  show ∃ w9, (bo2 (FL_shoutState w a1) fun k w1 => bo2 (FX13_shoutState w1 a1) fun q w2 => chk k q w2) = some w9 ∧ Good w9
  unfold FL_shoutState FX13_shoutState FX13_inShout
  rcases cSho hm.s1 hm.bs a1 with ⟨j, hj, rfl, hw, ha⟩ | ⟨hw, ha⟩
  · have hx : FX12_shoutState w (nI j) = some (.ok ((w 1).1 (20 + j) 8)) := by
      unfold FX12_shoutState
      rw [ha]
      exact gd_t (by simp; omega)
    rw [lwW_ok hx, bo2_s, rIsS (w := ow w ((w 1).1 (20 + j) 8)) ((congrFun (ow_row w _) _).trans hm.s0), hw, bo1_s, goes_t, bnd2_s, if_pos rfl, rS6 (by omega), bo1_s, bo2_s, bo2_s, cd_row, ow_row]
    rw [show shF (row w) j 6 = (w 1).1 (20 + j) 8 from ((hm.ss j hj).e8).symm]
    exact ⟨_, ok_chk h⟩
  · have hx : FX12_shoutState w a1 = some (.error ("java/lang/IndexOutOfBoundsException", w)) := by
      unfold FX12_shoutState
      rw [ha]
      rfl
    rw [lwW_er (k := 1) hx (if_pos rfl), bo2_s, rIsS hm.s0, hw, bo1_s, goes_f, bnd2_s, if_neg (by decide), bo2_s, bo2_s]
    exact ⟨_, er_chk h (by decide)⟩
theorem ob_37 {n : Nat} {w : Wd} (h : Good w) (a1 a2 a3 a4 a5 : Int32) : ∃ w9, FLc_37 n w a1 a2 a3 a4 a5 = some w9 ∧ Good w9 := by
  obtain ⟨nv, nc, ns, bk, hm⟩ := h.m
  have hb1 := hm.bs
  show ∃ w9, (bo2 (FL_returns w a1) fun k w1 => bo2 (FX13_returns w1 a1) fun q w2 => chk k q w2) = some w9 ∧ Good w9
  unfold FL_returns FX13_returns FX13_inShout
  rcases cSho hm.s1 hm.bs a1 with ⟨j, hj, rfl, hw, ha⟩ | ⟨hw, ha⟩
  · have hx : FX12_returns w (nI j) = some (.ok ((w 1).1 (20 + j) 9)) := by
      unfold FX12_returns
      rw [ha]
      exact gd_t (by simp; omega)
    rw [lwW_ok hx, bo2_s, rIsS (w := ow w ((w 1).1 (20 + j) 9)) ((congrFun (ow_row w _) _).trans hm.s0), hw, bo1_s, goes_t, bnd2_s, if_pos rfl, rS7 (by omega), bo1_s, bo2_s, bo2_s, cd_row, ow_row]
    rw [show shF (row w) j 7 = (w 1).1 (20 + j) 9 from ((hm.ss j hj).e9).symm]
    exact ⟨_, ok_chk h⟩
  · have hx : FX12_returns w a1 = some (.error ("java/lang/IndexOutOfBoundsException", w)) := by
      unfold FX12_returns
      rw [ha]
      rfl
    rw [lwW_er (k := 1) hx (if_pos rfl), bo2_s, rIsS hm.s0, hw, bo1_s, goes_f, bnd2_s, if_neg (by decide), bo2_s, bo2_s]
    exact ⟨_, er_chk h (by decide)⟩
