set_option maxHeartbeats 200000
/-! sums that the class keeps and the reference adds up -/
theorem mk16 {mk bk od : Nat} (h : mk < 2 ^ bk) (h1 : bk ≤ od) (h2 : od ≤ 4) : mk < 16 := Nat.lt_of_lt_of_le h (Nat.le_trans (Nat.pow_le_pow_right (by decide) (Nat.le_trans h1 h2)) (by decide))
theorem RelS.mark {M : MM} {r : Nat → Int32} {nv nc i bk : Nat} (h : RelS M r nv nc i bk) : ∃ mk, mk < 16 ∧ shF r i 8 = nI mk := by
  obtain ⟨c, v, lo, od, ea, so, st, mk, wd, pa, tm, -, -, -, -, -, q1, q2, -, -, -, q3, -, -, -, -, -, -, -, -, -, q4, -⟩ := h.rest
  exact ⟨mk, mk16 q3 q2 q1, q4⟩
theorem bcI_n {m : Nat} (h : m < 16) : bcI (nI m) = nI (bcN m) := by
  unfold bcI
  rw [nI_c (by omega)]
theorem rReceipt {n : Nat} (hn : 10 ≤ n) {w : Wd} {i : Nat} (hi : i < 30) (h : ∃ mk, mk < 16 ∧ shF (row w) i 8 = nI mk) : FX13_receiptOf n w (nI i) = some (shF (row w) i 4 * bcI (shF (row w) i 8)) := by
  obtain ⟨mk, hm, e⟩ := h
  unfold FX13_receiptOf
  rw [rS4 hi, bo1_s, rS8 hi, bo1_s, e, rBits hn hm, bo1_s, bcI_n hm]
theorem rEarnedOf {n : Nat} (hn : 100 ≤ n) {w : Wd} {ns : Nat} (hs : row w 2 = nI ns) (hb : ns ≤ 30) (hm : ∀ i, i < ns → ∃ mk, mk < 16 ∧ shF (row w) i 8 = nI mk) (v : Int32) : FX13_earnedOf n w v = some (isum ns (fun i => if shF (row w) i 1 = v then shF (row w) i 4 * bcI (shF (row w) i 8) else 0)) := by
  unfold FX13_earnedOf
  refine loopS (L := fun k a i => FX13_earnedOf_L4 n k w v a i) (g := some) (fun k a => ?_) (fun k a i hi => ?_) (by omega)
  · simp only [FX13_earnedOf_L4]
    rw [gd2, show (w 15).1 2 2 = nI ns from hs, if_pos (Int32.le_refl _)]
  · simp only [FX13_earnedOf_L4]
    rw [gd2, show (w 15).1 2 2 = nI ns from hs, if_neg (le_nI hi (by omega)), rS1 (by omega), bo1_s, nI_1]
    by_cases z : shF (row w) i 1 = v
    · rw [if_pos z, if_pos z, rReceipt (by omega) (by omega) (hm i hi), bo1_s]
    · rw [if_neg z, if_neg z]
theorem rHeldOf {n : Nat} (hn : 100 ≤ n) {w : Wd} {ns : Nat} (hs : row w 2 = nI ns) (hb : ns ≤ 30) (c : Int32) : FX13_heldOf n w c = some (isum ns (fun i => if shF (row w) i 0 = c then lft (row w) i else 0)) := by
  unfold FX13_heldOf
  refine loopS (L := fun k a i => FX13_heldOf_L4 n k w c a i) (g := some) (fun k a => ?_) (fun k a i hi => ?_) (by omega)
  · simp only [FX13_heldOf_L4]
    rw [gd2, show (w 15).1 2 2 = nI ns from hs, if_pos (Int32.le_refl _)]
  · simp only [FX13_heldOf_L4]
    rw [gd2, show (w 15).1 2 2 = nI ns from hs, if_neg (le_nI hi (by omega)), rS0 (by omega), bo1_s, nI_1]
    by_cases z : shF (row w) i 0 = c
    · rw [if_pos z, if_pos z, rLeft (by omega), bo1_s]
    · rw [if_neg z, if_neg z]
theorem ob_22 {n : Nat} (hn : 1000 ≤ n) {w : Wd} (h : Good w) (a1 a2 a3 a4 a5 : Int32) : ∃ w9, FLc_22 n w a1 a2 a3 a4 a5 = some w9 ∧ Good w9 := by
  obtain ⟨nv, nc, ns, bk, hm⟩ := h.m
  have hb := hm.bs
  have hbv := hm.bv
  have hbc := hm.bc
  show ∃ w9, (bo2 (FL_earnedIn w a1) fun k w1 => bo2 (FX13_earnedIn n w1 a1) fun q w2 => chk k q w2) = some w9 ∧ Good w9
  unfold FL_earnedIn FX13_earnedIn
  rcases cVal hm.v1 hm.bv a1 with ⟨j, hj, rfl, hw, ha⟩ | ⟨hw, ha⟩
  · have hx : FX12_earnedIn w (nI j) = some (.ok (isum ns (fun i => if shF (row w) i 1 = nI j then shF (row w) i 4 * bcI (shF (row w) i 8) else 0))) := by
      unfold FX12_earnedIn
      rw [ha]
      exact (gd_t (by simp; omega)).trans (congrArg (fun x => some (Except.ok x)) (hm.vs j hj).e6)
    rw [lwW_ok hx, bo2_s, rIsV (w := ow w (isum ns (fun i => if shF (row w) i 1 = nI j then shF (row w) i 4 * bcI (shF (row w) i 8) else 0))) ((congrFun (ow_row w _) _).trans hm.v0), hw, bo1_s, goes_t, bnd2_s, if_pos rfl, rEarnedOf (by omega) (by rw [cd_row, ow_row]; exact hm.s0) hb (fun i hi => by rw [cd_row, ow_row]; exact (hm.ss i hi).mark), bo1_s, cd_row, ow_row, bo2_s]
    exact ⟨_, ok_chk h⟩
  · have hx : FX12_earnedIn w a1 = some (.error ("java/lang/IndexOutOfBoundsException", w)) := by
      unfold FX12_earnedIn
      rw [ha]
      rfl
    rw [lwW_er (k := 1) hx (if_pos rfl), bo2_s, rIsV hm.v0, hw, bo1_s, goes_f, bnd2_s, if_neg (by decide), bo2_s]
    exact ⟨_, er_chk h (by decide)⟩
theorem ob_31 {n : Nat} (hn : 1000 ≤ n) {w : Wd} (h : Good w) (a1 a2 a3 a4 a5 : Int32) : ∃ w9, FLc_31 n w a1 a2 a3 a4 a5 = some w9 ∧ Good w9 := by
  obtain ⟨nv, nc, ns, bk, hm⟩ := h.m
  have hb := hm.bs
  have hbv := hm.bv
  have hbc := hm.bc
  show ∃ w9, (bo2 (FL_heldFor w a1) fun k w1 => bo2 (FX13_heldFor n w1 a1) fun q w2 => chk k q w2) = some w9 ∧ Good w9
  unfold FL_heldFor FX13_heldFor
  rcases cCus hm.c1 hm.bc a1 with ⟨j, hj, rfl, hw, ha⟩ | ⟨hw, ha⟩
  · have hx : FX12_heldFor w (nI j) = some (.ok (isum ns (fun i => if shF (row w) i 0 = nI j then lft (row w) i else 0))) := by
      unfold FX12_heldFor
      rw [ha]
      exact (gd_t (by simp; omega)).trans (congrArg (fun x => some (Except.ok x)) (hm.cs j hj).e5)
    rw [lwW_ok hx, bo2_s, rIsC (w := ow w (isum ns (fun i => if shF (row w) i 0 = nI j then lft (row w) i else 0))) ((congrFun (ow_row w _) _).trans hm.c0), hw, bo1_s, goes_t, bnd2_s, if_pos rfl, rHeldOf (by omega) (by rw [cd_row, ow_row]; exact hm.s0) hb, bo1_s, cd_row, ow_row, bo2_s]
    exact ⟨_, ok_chk h⟩
  · have hx : FX12_heldFor w a1 = some (.error ("java/lang/IndexOutOfBoundsException", w)) := by
      unfold FX12_heldFor
      rw [ha]
      rfl
    rw [lwW_er (k := 1) hx (if_pos rfl), bo2_s, rIsC hm.c0, hw, bo1_s, goes_f, bnd2_s, if_neg (by decide), bo2_s]
    exact ⟨_, er_chk h (by decide)⟩
theorem ob_38 {n : Nat} (hn : 1000 ≤ n) {w : Wd} (h : Good w) (a1 a2 a3 a4 a5 : Int32) : ∃ w9, FLc_38 n w a1 a2 a3 a4 a5 = some w9 ∧ Good w9 := by
  obtain ⟨nv, nc, ns, bk, hm⟩ := h.m
  have hb := hm.bs
  have hbv := hm.bv
  have hbc := hm.bc
  show ∃ w9, (bo2 (FL_receipt w a1) fun k w1 => bo2 (FX13_receipt n w1 a1) fun q w2 => chk k q w2) = some w9 ∧ Good w9
  unfold FL_receipt FX13_receipt
  rcases cSho hm.s1 hm.bs a1 with ⟨j, hj, rfl, hw, ha⟩ | ⟨hw, ha⟩
  · have hx : FX12_receipt w (nI j) = some (.ok (shF (row w) j 4 * bcI (shF (row w) j 8))) := by
      unfold FX12_receipt
      rw [ha]
      exact (gd_t (by simp; omega)).trans (by
        obtain ⟨mk, q1, q2⟩ := (hm.ss j hj).mark
        rw [bnd_s]
        unfold FX8_earnings
        rw [(hm.ss j hj).e10, q2, cBits q1, bnd_s, (hm.ss j hj).e4, bcI_n q1])
    rw [lwW_ok hx, bo2_s, rIsS (w := ow w (shF (row w) j 4 * bcI (shF (row w) j 8))) ((congrFun (ow_row w _) _).trans hm.s0), hw, bo1_s, goes_t, bnd2_s, if_pos rfl, rReceipt (by omega) (by omega) (by rw [cd_row, ow_row]; exact (hm.ss j hj).mark), bo1_s, cd_row, ow_row, bo2_s]
    exact ⟨_, ok_chk h⟩
  · have hx : FX12_receipt w a1 = some (.error ("java/lang/IndexOutOfBoundsException", w)) := by
      unfold FX12_receipt
      rw [ha]
      rfl
    rw [lwW_er (k := 1) hx (if_pos rfl), bo2_s, rIsS hm.s0, hw, bo1_s, goes_f, bnd2_s, if_neg (by decide), bo2_s]
    exact ⟨_, er_chk h (by decide)⟩
