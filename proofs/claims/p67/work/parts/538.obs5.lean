set_option maxHeartbeats 200000
/-! anger, seconds to come -/
theorem lwWZ_ok {K : String → Option Int32} {w : Wd} {b : Bool} {r : Option (Except (String × Wd) Bool)} (h : r = some (.ok b)) : lwW K (okZ (okW w r)) = some (0, ow w (bI b)) := by rw [h]; rfl
theorem lwWZ_er {K : String → Option Int32} {w w2 : Wd} {E : String} {k : Int32} {r : Option (Except (String × Wd) Bool)} (h : r = some (.error (E, w2))) (hk : K E = some k) : lwW K (okZ (okW w r)) = some (k, w2) := by
  rw [h]
  show (match K E with | some k => some (k, w2) | none => none) = some (k, w2)
  rw [hk]
theorem rAngry {w : Wd} {c : Nat} (hc : c < 8) : FX13_isAngryNow w (nI c) = some (if cuF (row w) c 2 < 3 then false else true) := by
  unfold FX13_isAngryNow
  rw [rC2 hc, bo1_s, ite_some]
theorem cAngry {M : MM} {r : Nat → Int32} {c : Nat} (h : M.1 (12 + c) 4 = cuF r c 2) : FX2_hasAnger M (12 + c) = (if cuF r c 2 < 3 then false else true) := by
  unfold FX2_hasAnger
  rw [h]
theorem ob_29 {n : Nat} (hn : 1000 ≤ n) {w : Wd} (h : Good w) (a1 a2 a3 a4 a5 : Int32) : ∃ w9, FLc_29 n w a1 a2 a3 a4 a5 = some w9 ∧ Good w9 := by
  obtain ⟨nv, nc, ns, bk, hm⟩ := h.m
  have hbc := hm.bc
  show ∃ w9, (bo2 (FL_isAngry w a1) fun k w1 => bo2 (FX13_isAngry w1 a1) fun q w2 => chk k (bI q) w2) = some w9 ∧ Good w9
  unfold FL_isAngry FX13_isAngry
  rcases cCus hm.c1 hm.bc a1 with ⟨j, hj, rfl, hw, ha⟩ | ⟨hw, ha⟩
  · have hx : FX12_isAngry w (nI j) = some (.ok (if cuF (row w) j 2 < 3 then false else true)) := by
      unfold FX12_isAngry
      rw [ha, xo_s, gd_t (by simp; omega), cAngry (hm.cs j hj).e4, bnd_s]
    rw [lwWZ_ok hx, bo2_s, rIsC (w := ow w (bI (if cuF (row w) j 2 < 3 then false else true))) ((congrFun (ow_row w _) _).trans hm.c0), hw, bo1_s, goes_t, bnd2_s, if_pos rfl, rAngry (by omega), bo1_s, cd_row, ow_row]
    refine ⟨_, ?_, ((h.ow (bI (if cuF (row w) j 2 < 3 then false else true))).cd 0)⟩
    by_cases z : cuF (row w) j 2 < 3
    · simp only [if_pos z]
      exact (ok_chk h).1
    · simp only [if_neg z]
      exact (ok_chk h).1
  · have hx : FX12_isAngry w a1 = some (.error ("java/lang/IndexOutOfBoundsException", w)) := by
      unfold FX12_isAngry
      rw [ha]
      rfl
    rw [lwWZ_er (k := 1) hx (if_pos rfl), bo2_s, rIsC hm.c0, hw, bo1_s, goes_f, bnd2_s, if_neg (by decide), bo2_s]
    exact ⟨_, er_chk h (by decide)⟩
def angF (r : Nat → Int32) (a : Int32) (i : Nat) : Int32 := a ||| (if cuF r i 2 < 3 then (0 : Int32) else (1 : Int32) <<< (nI i &&& 31))
theorem sh0 {i : Nat} (h : i < 8) : (0 : Int32) <<< (nI i &&& 31) = 0 := by
  have : ∀ k : Fin 8, (0 : Int32) <<< (nI k.val &&& 31) = 0 := by decide +kernel
  exact this ⟨i, h⟩
theorem ob_32 {n : Nat} (hn : 1000 ≤ n) {w : Wd} (h : Good w) (a1 a2 a3 a4 a5 : Int32) : ∃ w9, FLc_32 n w a1 a2 a3 a4 a5 = some w9 ∧ Good w9 := by
  obtain ⟨nv, nc, ns, bk, hm⟩ := h.m
  have hb := hm.bc
  have e1 : FX6_angerMask n (w 1) = some (foldI (angF (row w)) nc 0) := by
    unfold FX6_angerMask
    refine loopF (L := fun k a i => FX6_angerMask_L4 n k (w 1) a i) (g := some) (fun k a => ?_) (fun k a i hi => ?_) (by omega) 0
    · simp only [FX6_angerMask_L4]
      rw [hm.c1, if_pos (Int32.le_refl _)]
    · simp only [FX6_angerMask_L4]
      rw [hm.c1, if_neg (le_nI hi (by omega)), gd_t (inI (by omega) (by omega)), nI_c (by omega), nI_1, cAngry (hm.cs i hi).e4, bnd_s]
      unfold angF
      by_cases z : cuF (row w) i 2 < 3
      · rw [if_pos z, if_pos z, if_neg (by decide)]
      · rw [if_neg z, if_neg z, if_pos rfl]
  have e2 : FX13_angryCustomers n w = some (foldI (angF (row w)) nc 0, cd w 0) := by
    unfold FX13_angryCustomers
    refine loopF (L := fun k a i => FX13_angryCustomers_L4 n k w a i) (g := fun a => some (a, cd w 0)) (fun k a => ?_) (fun k a i hi => ?_) (by omega) 0
    · simp only [FX13_angryCustomers_L4]
      rw [gd1, show (w 15).1 2 1 = nI nc from hm.c0, if_pos (Int32.le_refl _), told_e, bnd2_s]
    · simp only [FX13_angryCustomers_L4]
      rw [gd1, show (w 15).1 2 1 = nI nc from hm.c0, if_neg (le_nI hi (by omega)), nI_1, rAngry (by omega), bo1_s, bnd_s]
      unfold angF
      by_cases z : cuF (row w) i 2 < 3
      · rw [if_pos z, if_pos z, show FX13_truth false = 0 from rfl, sh0 (by omega)]
      · rw [if_neg z, if_neg z, show FX13_truth true = 1 from rfl]
  refine ⟨cd w 0, ?_, h.cd 0⟩
  unfold FLc_32 FX12_angryCustomers
  rw [e1, bo1_s, bo1_s, e2, bo2_s]
  exact if_pos rfl
/-- the second of the next echo, the second at which patience ends -/
def retI (r : Nat → Int32) (i : Nat) : Int32 := shF r i 5 + vaF r (shF r i 1).toNatClampNeg 0 * (shF r i 7 + 1)
def endI (r : Nat → Int32) (i : Nat) : Int32 := shF r i 5 + cuF r (shF r i 0).toNatClampNeg 0
theorem RelS.wh {M : MM} {r : Nat → Int32} {nv nc i bk : Nat} (h : RelS M r nv nc i bk) : ∃ c v, c < nc ∧ v < nv ∧ shF r i 0 = nI c ∧ shF r i 1 = nI v ∧ M.1 (20 + i) 5 = vaF r v 0 ∧ M.1 (20 + i) 7 = shF r i 5 + cuF r c 0 := by
  obtain ⟨c, v, lo, od, ea, so, st, mk, wd, pa, tm, h1, h2, -, -, -, -, -, -, -, -, -, -, -, q0, q1, q2, q3, q4, q5, q6, q7, q8, q9, q10, q11, -⟩ := h.rest
  exact ⟨c, v, h1, h2, q0, q1, q9.trans q8.symm, by rw [q11, q5, q10, nI_add]⟩
theorem rRet {w : Wd} {i v : Nat} (hi : i < 30) (hv : v < 8) (h : shF (row w) i 1 = nI v) : FX13_returnsAt w (nI i) = some (retI (row w) i) := by
  unfold FX13_returnsAt retI
  rw [rS5 hi, bo1_s, rS1 hi, bo1_s, h, rV0 hv, bo1_s, rS7 hi, bo1_s, nI_c (by omega)]
theorem rEnd {w : Wd} {i c : Nat} (hi : i < 30) (hc : c < 8) (h : shF (row w) i 0 = nI c) : FX13_endsAt w (nI i) = some (endI (row w) i) := by
  unfold FX13_endsAt endI
  rw [rS5 hi, bo1_s, rS0 hi, bo1_s, h, rC0 hc, bo1_s, nI_c (by omega)]
theorem cRet {M : MM} {r : Nat → Int32} {nv nc i bk : Nat} (h : RelS M r nv nc i bk) (hb : nv ≤ 8) : FX8_secondOfNext M (20 + i) = retI r i := by
  obtain ⟨c, v, h1, h2, q0, q1, q2, q3⟩ := h.wh
  unfold FX8_secondOfNext FX8_secondOf retI
  rw [bnd_s, h.e6, h.e9, q2, q1, nI_c (by omega)]
theorem cEnd {M : MM} {r : Nat → Int32} {nv nc i bk : Nat} (h : RelS M r nv nc i bk) (hb : nc ≤ 8) : M.1 (20 + i) 7 = endI r i := by
  obtain ⟨c, v, h1, h2, q0, q1, q2, q3⟩ := h.wh
  unfold endI
  rw [q3, q0, nI_c (by omega)]
theorem cOpen {M : MM} {r : Nat → Int32} {nv nc i bk : Nat} (h : RelS M r nv nc i bk) : FX8_isOpen M (20 + i) = decide (shF r i 6 = 0) := by
  unfold FX8_isOpen
  rw [h.e8]
  by_cases z : shF r i 6 = 0
  · rw [if_pos z, decide_eq_true z]
  · rw [if_neg z, decide_eq_false z]
theorem ob_40 {n : Nat} (hn : 1000 ≤ n) {w : Wd} (h : Good w) (a1 a2 a3 a4 a5 : Int32) : ∃ w9, FLc_40 n w a1 a2 a3 a4 a5 = some w9 ∧ Good w9 := by
  obtain ⟨nv, nc, ns, bk, hm⟩ := h.m
  have hb := hm.bs
  have hbv := hm.bv
  have hbc := hm.bc
  show ∃ w9, (bo2 (FL_patienceEnds w a1) fun k w1 => bo2 (FX13_patienceEnds w1 a1) fun q w2 => chk k q w2) = some w9 ∧ Good w9
  unfold FL_patienceEnds FX13_patienceEnds
  rcases cSho hm.s1 hm.bs a1 with ⟨j, hj, rfl, hw, ha⟩ | ⟨hw, ha⟩
  · obtain ⟨c, v, q1, q2, q3, q4, q5, q6⟩ := (hm.ss j hj).wh
    have hx : FX12_patienceEnds w (nI j) = some (.ok (endI (row w) j)) := by
      unfold FX12_patienceEnds
      rw [ha, xo_s, gd_t (by simp; omega)]
      rw [cEnd (hm.ss j hj) hbc]
    rw [lwW_ok hx, bo2_s, rIsS (w := ow w (endI (row w) j)) ((congrFun (ow_row w _) _).trans hm.s0), hw, bo1_s, goes_t, bnd2_s, if_pos rfl]
    rw [rEnd (c := c) (by omega) (by omega) (by rw [cd_row, ow_row]; exact q3), bo1_s, bo2_s, cd_row, ow_row]
    exact ⟨_, ok_chk h⟩
  · have hx : FX12_patienceEnds w a1 = some (.error ("java/lang/IndexOutOfBoundsException", w)) := by
      unfold FX12_patienceEnds
      rw [ha]
      rfl
    rw [lwW_er (k := 1) hx (if_pos rfl), bo2_s, rIsS hm.s0, hw, bo1_s, goes_f, bnd2_s, if_neg (by decide), bo2_s]
    exact ⟨_, er_chk h (by decide)⟩
theorem ob_39 {n : Nat} (hn : 1000 ≤ n) {w : Wd} (h : Good w) (a1 a2 a3 a4 a5 : Int32) : ∃ w9, FLc_39 n w a1 a2 a3 a4 a5 = some w9 ∧ Good w9 := by
  obtain ⟨nv, nc, ns, bk, hm⟩ := h.m
  have hb := hm.bs
  have hbv := hm.bv
  have hbc := hm.bc
  show ∃ w9, (bo2 (FL_nextReturn w a1) fun k w1 => bo2 (FX13_nextReturn w1 a1) fun q w2 => chk k q w2) = some w9 ∧ Good w9
  unfold FL_nextReturn FX13_nextReturn
  rcases cSho hm.s1 hm.bs a1 with ⟨j, hj, rfl, hw, ha⟩ | ⟨hw, ha⟩
  · obtain ⟨c, v, q1, q2, q3, q4, q5, q6⟩ := (hm.ss j hj).wh
    have hx : FX12_nextReturn w (nI j) = some (.ok (if decide (shF (row w) j 6 = 0) = true then retI (row w) j else -1)) := by
      unfold FX12_nextReturn
      rw [ha, xo_s, gd_t (by simp; omega)]
      rw [cOpen (hm.ss j hj), bnd_s, cRet (hm.ss j hj) hbv, bnd_s]
      by_cases z : decide (shF (row w) j 6 = 0) = true
      · rw [if_pos z, if_pos z]
      · rw [if_neg z, if_neg z]
    rw [lwW_ok hx, bo2_s, rIsS (w := ow w (if decide (shF (row w) j 6 = 0) = true then retI (row w) j else -1)) ((congrFun (ow_row w _) _).trans hm.s0), hw, bo1_s, goes_t, bnd2_s, if_pos rfl]
    rw [rOpen (by rw [cd_row, ow_row]; exact hm.s0) hb hj, bo1_s, cd_row, ow_row]
    by_cases z : decide (shF (row w) j 6 = 0) = true
    · simp only [if_pos z]
      rw [rRet (v := v) (by omega) (by omega) (by rw [cd_row, ow_row]; exact q4), bo1_s, bo2_s, cd_row, ow_row]
      exact ⟨_, ok_chk h⟩
    · simp only [if_neg z]
      rw [bo2_s]
      exact ⟨_, ok_chk h⟩
  · have hx : FX12_nextReturn w a1 = some (.error ("java/lang/IndexOutOfBoundsException", w)) := by
      unfold FX12_nextReturn
      rw [ha]
      rfl
    rw [lwW_er (k := 1) hx (if_pos rfl), bo2_s, rIsS hm.s0, hw, bo1_s, goes_f, bnd2_s, if_neg (by decide), bo2_s]
    exact ⟨_, er_chk h (by decide)⟩
