set_option maxHeartbeats 200000
/-! what an order needs, the best offer, the end of a shout -/
theorem ob_42 {n : Nat} (hn : 1000 ≤ n) {w : Wd} (h : Good w) (a1 a2 a3 a4 a5 : Int32) : ∃ w9, FLc_42 n w a1 a2 a3 a4 a5 = some w9 ∧ Good w9 := by
  obtain ⟨nv, nc, ns, bk, hm⟩ := h.m
  have hbv := hm.bv
  show ∃ w9, (bo2 (FL_neededLoudness w a1 a2) fun k w1 => bo2 (FX13_neededLoudness w1 a1 a2) fun q w2 => chk k q w2) = some w9 ∧ Good w9
  unfold FL_neededLoudness FX13_neededLoudness
  rcases cVal hm.v1 hm.bv a1 with ⟨j, hj, rfl, hw, ha⟩ | ⟨hw, ha⟩
  · have hV := hm.vs j hj
    cases ho : FX12_isWithin a2 1 4 with
    | false =>
      have hx : FX12_neededLoudness w (nI j) a2 = some (.error ("java/lang/IllegalArgumentException", w)) := by
        unfold FX12_neededLoudness
        rw [ha, xo_s, gd_t (by simp; omega), bnd_s, ho, dA_f]
        rfl
      rw [lwW_er (k := 2) hx rfl, bo2_s, rIsV hm.v0, hw, bo1_s, bnd_s, rWalls, ho, gb_tf, bnd2_s, if_neg (by decide), bo2_s]
      exact ⟨_, er_chk h (by decide)⟩
    | true =>
      have hx : FX12_neededLoudness w (nI j) a2 = some (.ok (if a2 ≤ vaF (row w) j 1 then ((2 * a2) + vaF (row w) j 3) + 1 else -1)) := by
        unfold FX12_neededLoudness FX10_loudnessNeeded
        rw [ha, xo_s, gd_t (by simp; omega), bnd_s, ho, dA_t, xo_s, hV.e2, hV.e4]
        by_cases z : a2 ≤ vaF (row w) j 1
        · rw [if_pos z, if_pos z, bnd_s]
        · rw [if_neg z, if_neg z]
      rw [lwW_ok hx, bo2_s, rIsV (w := ow w _) ((congrFun (ow_row w _) _).trans hm.v0), hw, bo1_s, bnd_s, rWalls, ho, gb_tt, bnd2_s, if_pos rfl, rV1 (by omega), bo1_s, cd_row, ow_row]
      by_cases z : a2 ≤ vaF (row w) j 1
      · simp only [if_pos z]
        rw [rV3 (by omega), bo1_s, bo2_s, cd_row, ow_row]
        exact ⟨_, ok_chk h⟩
      · simp only [if_neg z]
        rw [bo2_s]
        exact ⟨_, ok_chk h⟩
  · have hx : FX12_neededLoudness w a1 a2 = some (.error ("java/lang/IndexOutOfBoundsException", w)) := by
      unfold FX12_neededLoudness
      rw [ha]
      rfl
    rw [lwW_er (k := 1) hx (if_pos rfl), bo2_s, rIsV hm.v0, hw, bo1_s, bnd_s, gb_f, bnd2_s, if_neg (by decide), bo2_s]
    exact ⟨_, er_chk h (by decide)⟩
/-- an offer to this customer -/
def okO (r : Nat → Int32) (ns c : Nat) (o : Int32) (v : Nat) : Bool := decide (whyF r ns c v o = 0) && !decide (cuF r c 0 < vaF r v 0 * o)
def offF (r : Nat → Int32) (ns c : Nat) (o : Int32) (b : Int32) (i : Nat) : Int32 := if okO r ns c o i = true then bestF (chV r) b i else b
theorem offF_P {r : Nat → Int32} {ns c : Nat} {o b : Int32} {i : Nat} (h : bP i b) : bP (i + 1) (offF r ns c o b i) := by
  unfold offF
  by_cases z : okO r ns c o i = true
  · rw [if_pos z]
    exact bestF_P h
  · rw [if_neg z]
    rcases h with h | ⟨j, hj, h⟩
    · exact Or.inl h
    · exact Or.inr ⟨j, by omega, h⟩
theorem rOffer {n : Nat} (hn : 100 ≤ n) {w : Wd} {M : MM} {nv nc ns : Nat} {bk : Nat → Nat} (hm : RelM M (row w) nv nc ns bk) {c : Nat} (hc : c < nc) (o : Int32) : FX13_offer n w (nI c) o = some (foldI (offF (row w) ns c o) nv (-1)) := by
  have hb := hm.bv
  have hbc := hm.bc
  unfold FX13_offer
  refine loopP (L := fun k a i => FX13_offer_L5 n k w (nI c) o a i) (g := some) bP (fun a i hi h => offF_P h) (fun k a ha => ?_) (fun k a i hi ha => ?_) (by omega) (-1) (Or.inl rfl)
  · simp only [FX13_offer_L5]
    rw [gd0, show (w 15).1 2 0 = nI nv from hm.v0, if_pos (Int32.le_refl _)]
  · have e : FX13_isOffer n w (nI c) (nI i) o = some (okO (row w) ns c o i) := by
      unfold FX13_isOffer okO
      rw [rRefuses hn hm hc hi, bo1_s]
      by_cases z : whyF (row w) ns c i o = 0
      · rw [if_pos z, decide_eq_true z, Bool.true_and, rV0 (by omega), bo1_s, rC0 (by omega), bo1_s]
        by_cases z1 : cuF (row w) c 0 < vaF (row w) i 0 * o
        · rw [if_pos z1, decide_eq_true z1]; rfl
        · rw [if_neg z1, decide_eq_false z1]; rfl
      · rw [if_neg z, decide_eq_false z, Bool.false_and]
    simp only [FX13_offer_L5]
    rw [gd0, show (w 15).1 2 0 = nI nv from hm.v0, if_neg (le_nI hi (by omega)), nI_1, e, bo1_s]
    unfold offF
    by_cases z : okO (row w) ns c o i = true
    · rw [if_pos z, if_pos z]
      rcases ha with rfl | ⟨j, hj, rfl⟩
      · rw [if_pos rfl, bestF_m]
      · rw [if_neg (nI_m1 (by omega)), rCheaper (by omega) (by omega), bo1_s, bestF_j (by omega)]
        by_cases z2 : chV (row w) i j = true
        · rw [if_pos z2, if_pos z2]
        · rw [if_neg z2, if_neg z2]
    · rw [if_neg z, if_neg z]
theorem cOffer {n : Nat} (hn : 100 ≤ n) {r : Nat → Int32} {M : MM} {nv nc ns : Nat} {bk : Nat → Nat} (hm : RelM M r nv nc ns bk) {c : Nat} (hc : c < nc) (o : Int32) : FX6_valleyToBuyIn n M (nI c) o = some (foldI (offF r ns c o) nv (-1)) := by
  have hb := hm.bv
  have hbc := hm.bc
  unfold FX6_valleyToBuyIn
  refine loopP (L := fun k a i => FX6_valleyToBuyIn_L5 n k M (nI c) o a i) (g := some) bP (fun a i hi h => offF_P h) (fun k a ha => ?_) (fun k a i hi ha => ?_) (by omega) (-1) (Or.inl rfl)
  · simp only [FX6_valleyToBuyIn_L5]
    rw [hm.v1, if_pos (Int32.le_refl _)]
  · simp only [FX6_valleyToBuyIn_L5]
    rw [hm.v1, if_neg (le_nI hi (by omega)), gd_t (inI (by omega) (by omega)), gd_t (inI (by omega) (by omega)), nI_c (by omega), nI_c (by omega), nI_1, (hm.cs c hc).e1, (hm.vs i hi).e1]
    unfold offF okO
    by_cases z1 : cuF r c 0 < vaF r i 0 * o
    · rw [if_pos z1, decide_eq_true z1, Bool.not_true, Bool.and_false, if_neg (by decide)]
    · rw [if_neg z1, decide_eq_false z1, Bool.not_false, Bool.and_true, cRefused hn hm hc hi, bo1_s]
      by_cases z : whyF r ns c i o = 0
      · rw [if_pos z, decide_eq_true z, if_pos rfl]
        rcases ha with rfl | ⟨j, hj, rfl⟩
        · rw [if_pos rfl, bestF_m]
        · rw [if_neg (nI_m1 (by omega)), gd_t (inI (by omega) (by omega)), gd_t (inI (by omega) (by omega)), nI_c (by omega), cCheaper (hm.vs i hi).e5 (hm.vs j (by omega)).e5 (hm.vs i hi).e3 (hm.vs j (by omega)).e3, bnd_s, bestF_j (by omega)]
          by_cases z2 : chV r i j = true
          · rw [if_pos z2, if_pos z2]
          · rw [if_neg z2, if_neg z2]
      · rw [if_neg z, decide_eq_false z, if_neg (by decide)]
theorem ob_43 {n : Nat} (hn : 1000 ≤ n) {w : Wd} (h : Good w) (a1 a2 a3 a4 a5 : Int32) : ∃ w9, FLc_43 n w a1 a2 a3 a4 a5 = some w9 ∧ Good w9 := by
  obtain ⟨nv, nc, ns, bk, hm⟩ := h.m
  have hbc := hm.bc
  show ∃ w9, (bo2 (FL_bestOffer n w a1 a2) fun k w1 => bo2 (FX13_bestOffer n w1 a1 a2) fun q w2 => chk k q w2) = some w9 ∧ Good w9
  unfold FL_bestOffer FX13_bestOffer
  cases hc : FX12_isWithin a1 0 (nI nc - 1) with
  | false =>
    have hx : FX12_bestOffer n w a1 a2 = some (.error ("java/lang/IndexOutOfBoundsException", w)) := by
      unfold FX12_bestOffer
      rw [cHasC hm, hc, bnd_s, dI_f]
      rfl
    rw [lwW_er (k := 1) hx (if_pos rfl), bo2_s, rIsC hm.c0, hc, bo1_s, bnd_s, gb_f, bnd2_s, if_neg (by decide), bo2_s]
    exact ⟨_, er_chk h (by decide)⟩
  | true =>
    obtain ⟨c, hc1, rfl⟩ := wi_in (by omega) hc
    cases ho : FX12_isWithin a2 1 4 with
    | false =>
      have hx : FX12_bestOffer n w (nI c) a2 = some (.error ("java/lang/IllegalArgumentException", w)) := by
        unfold FX12_bestOffer
        rw [cHasC hm, hc, bnd_s, dI_t, xo_s, bnd_s, ho, dA_f]
        rfl
      rw [lwW_er (k := 2) hx rfl, bo2_s, rIsC hm.c0, hc, bo1_s, bnd_s, rWalls, ho, gb_tf, bnd2_s, if_neg (by decide), bo2_s]
      exact ⟨_, er_chk h (by decide)⟩
    | true =>
      have hx : FX12_bestOffer n w (nI c) a2 = some (.ok (foldI (offF (row w) ns c a2) nv (-1))) := by
        unfold FX12_bestOffer
        rw [cHasC hm, hc, bnd_s, dI_t, xo_s, bnd_s, ho, dA_t, xo_s, cOffer (by omega) hm hc1, bo1_s]
      rw [lwW_ok hx, bo2_s, rIsC (w := ow w _) ((congrFun (ow_row w _) _).trans hm.c0), hc, bo1_s, bnd_s, rWalls, ho, gb_tt, bnd2_s, if_pos rfl, rOffer (by omega) (rm_cdow hm _ 0) hc1, bo1_s, bo2_s, cd_row, ow_row]
      exact ⟨_, ok_chk h⟩
theorem RelS.en {M : MM} {r : Nat → Int32} {nv nc i bk ns bs : Nat} (h : RelS M r nv nc i bk) (hv : ∀ v, v < nv → RelV M r ns bs v) (hc : ∀ c, c < nc → RelC M r ns c) : ∃ c v, c < nc ∧ v < nv ∧ shF r i 0 = nI c ∧ shF r i 1 = nI v ∧ ((M.1 (20 + i) 7 < M.1 (20 + i) 6 + M.1 (20 + i) 5 * M.1 (20 + i) 3) ↔ (cuF r c 0 < vaF r v 0 * shF r i 3)) := by
  obtain ⟨c, v, lo, od, ea, so, st, mk, wd, pa, tm, h1, h2, l1, l2, o1, o2, b1, ea1, ea2, st1, mk1, so1, tm1, q0, q1, q2, q3, q4, q5, q6, q7, q8, q9, q10, q11, q12, -⟩ := h.rest
  obtain ⟨wd2, w1, w2, w3⟩ := (hv v h2).width
  obtain ⟨pa2, p1, p2, p3⟩ := (hc c h1).patience
  refine ⟨c, v, h1, h2, q0, q1, ?_⟩
  have hw : wd2 * od ≤ 60 * 4 := Nat.mul_le_mul w2 o2
  rw [q11, h.e6, q5, q9.trans (q8.symm.trans w3), h.e3, q3, w3, p3, pk_mul, nI_add, nI_ltI (a := pa2) (by omega) (by omega)]
  have ep : nI (so + pa) = nI (so + pa2) := by rw [← nI_add, ← q10, p3, nI_add]
  rw [ep, nI_ltI (by omega) (by omega)]
  omega
theorem ob_46 {n : Nat} (hn : 1000 ≤ n) {w : Wd} (h : Good w) (a1 a2 a3 a4 a5 : Int32) : ∃ w9, FLc_46 n w a1 a2 a3 a4 a5 = some w9 ∧ Good w9 := by
  obtain ⟨nv, nc, ns, bk, hm⟩ := h.m
  have hb := hm.bs
  have hbv := hm.bv
  have hbc := hm.bc
  show ∃ w9, (bo2 (FL_finalState w a1) fun k w1 => bo2 (FX13_finalState w1 a1) fun q w2 => chk k q w2) = some w9 ∧ Good w9
  unfold FL_finalState FX13_finalState
  rcases cSho hm.s1 hm.bs a1 with ⟨j, hj, rfl, hw, ha⟩ | ⟨hw, ha⟩
  · have hS := hm.ss j hj
    obtain ⟨c, v, h1, h2, q0, q1, q2⟩ := hS.en hm.vs hm.cs
    have hx : FX12_finalState w (nI j) = some (.ok (if decide (shF (row w) j 6 = 0) = true then (if cuF (row w) c 0 < vaF (row w) v 0 * shF (row w) j 3 then 2 else 1) else shF (row w) j 6)) := by
      unfold FX12_finalState FX8_stateInTheEnd FX8_secondOf
      rw [ha, xo_s, gd_t (by simp; omega), bnd_s, cOpen hS, bnd_s, bnd_s, hS.e8]
      by_cases z : decide (shF (row w) j 6 = 0) = true
      · rw [if_pos z, if_pos z]
        by_cases z1 : cuF (row w) c 0 < vaF (row w) v 0 * shF (row w) j 3
        · rw [if_pos z1, if_pos (q2.mpr z1)]
        · rw [if_neg z1, if_neg (fun e => z1 (q2.mp e))]
      · rw [if_neg z, if_neg z]
    rw [lwW_ok hx, bo2_s, rIsS (w := ow w _) ((congrFun (ow_row w _) _).trans hm.s0), hw, bo1_s, goes_t, bnd2_s, if_pos rfl]
    unfold FX13_endOf
    rw [rOpen (by rw [cd_row, ow_row]; exact hm.s0) hb hj, bo1_s, cd_row, ow_row]
    by_cases z : decide (shF (row w) j 6 = 0) = true
    · simp only [if_pos z]
      rw [rS1 (by omega), bo1_s, cd_row, ow_row, q1, rV0 (by omega), bo1_s, rS3 (by omega), bo1_s, rS0 (by omega), bo1_s, cd_row, ow_row, q0, rC0 (by omega), bo1_s, cd_row, ow_row]
      by_cases z1 : cuF (row w) c 0 < vaF (row w) v 0 * shF (row w) j 3
      · simp only [if_pos z1]
        rw [bo1_s, bo2_s]
        exact ⟨_, ok_chk h⟩
      · simp only [if_neg z1]
        rw [bo1_s, bo2_s]
        exact ⟨_, ok_chk h⟩
    · simp only [if_neg z]
      rw [rS6 (by omega), bo1_s, bo1_s, bo2_s, cd_row, ow_row]
      exact ⟨_, ok_chk h⟩
  · have hx : FX12_finalState w a1 = some (.error ("java/lang/IndexOutOfBoundsException", w)) := by
      unfold FX12_finalState
      rw [ha]
      rfl
    rw [lwW_er (k := 1) hx (if_pos rfl), bo2_s, rIsS hm.s0, hw, bo1_s, goes_f, bnd2_s, if_neg (by decide), bo2_s]
    exact ⟨_, er_chk h (by decide)⟩
