set_option maxHeartbeats 400000
/-! the lines fog, price, well, valley, customer -/
theorem line_fp {n : Nat} (hn : 1000 ≤ n) {b : Nat → Nat} {f l : Nat} {w v v0 : Wd} {s : Option Nat} {nv nc ns lo hi : Nat} {bk : Nat → Nat} (hg : FX13_goOnRead n v0 = some v) (h : St b f l w v s) (hm : RelM (w 2) (row v) nv nc ns bk) (hlo : lo ≤ 10000) (hhi : hi ≤ 10000) {K : Int32} {chg : MM → Int32 → Int32 → Option (Int32 × MM)}
    (hap : ∀ w', (w' 11).1 1 0 = (w 11).1 1 0 → FX1_applyTo n w' 11 1 2 = bo2 (chg (w' 2) ((w' 11).1 1 3) ((w' 11).1 1 4)) fun _ M => some (sW w' 2 M))
    (hch : ∀ (v' : Wd) (q d : Nat), row v' = row v → q < nv → lo ≤ d → d ≤ hi → ∃ x M' v2, chg (w 2) (nI q) (nI d) = some (x, M') ∧ FX13_sets v' (FX13_vly (nI q) + K) (nI d) = some (x, v2) ∧ Fr v' v2 ∧ RM M' (row v2)) :
    ∃ w1 v1, (bo2 (FX9_takeValley n w 2) fun x30 w31 => bnd (dt w31 3 x30) fun w33 => bo2 (FX9_takeNumber w33 (nI lo) (nI hi)) fun x36 w37 => bnd (dt w37 4 x36) fun w39 => some w39) = some w1 ∧ FX13_valleyLine n v0 K (nI lo) (nI hi) = some v1 ∧ LnE n b f l s w v w1 v1 := by
  obtain ⟨x, w1, y, v1, s1, a1, a2, a3, a4, a5, a6⟩ := vname_pair hn h hm
  have b5 : St b f l (dt w1 3 x) v1 s1 := a5.cl (dt_o _ _ _ (by decide))
  obtain ⟨x2, y2, w2, v2, s2, c1, c2, c3, c4, c5, c6⟩ := num_pair hn b5 hlo hhi
  have d5 : St b f l (dt w2 4 x2) v2 s2 := c5.cl (dt_o _ _ _ (by decide))
  have hc3 : CF3 w (dt w2 4 x2) := ((a3.c3.trans (dt_c3 _ _ _)).trans c3.c3).trans (dt_c3 _ _ _)
  have e2 : w2 11 = dt w1 3 x 11 := c3 11 (by decide)
  have e1 : w1 11 = w 11 := a3 11 (by decide)
  have g0 : (dt w2 4 x2 11).1 1 0 = (w 11).1 1 0 := by rw [dt_at, if_neg (by decide), e2, dt_at, if_neg (by decide), e1]
  have g3 : (dt w2 4 x2 11).1 1 3 = x := by rw [dt_at, if_neg (by decide), e2, dt_at, if_pos rfl]
  have g4 : (dt w2 4 x2 11).1 1 4 = x2 := by rw [dt_at, if_pos rfl]
  have hrow : row v2 = row v := by rw [c4.row, a4.row]
  have hcl : (bo2 (FX9_takeValley n w 2) fun x30 w31 => bnd (dt w31 3 x30) fun w33 => bo2 (FX9_takeNumber w33 (nI lo) (nI hi)) fun x36 w37 => bnd (dt w37 4 x36) fun w39 => some w39) = some (dt w2 4 x2) := by
    rw [a1, bo2_s, bnd_s, c1, bo2_s, bnd_s]
  cases s2 with
  | none =>
    have t5 : TXw b f l (dt w2 4 x2) v2 := d5
    refine ⟨_, v2, hcl, ?_, none, hc3, a4.r2.trans c4.r2, d5, fun j hj => by cases hj⟩
    unfold FX13_valleyLine
    rw [hg, bo1_s, a2, bo2_s, c2, bo2_s, (good_x t5).1, bnd_s, if_neg (by decide)]
  | some j2 =>
    have t5 : TG b f l (dt w2 4 x2) v2 j2 := d5
    obtain ⟨i1, d, i1e, j2e, i1l, dlo, dhi, xe, ye⟩ := c6 j2 rfl
    obtain ⟨i0, q, i0e, i1e2, i0l, qlt, xqe, yqe⟩ := a6 i1 i1e
    obtain ⟨z, M', v3, r1, r2, r3, r4⟩ := hch v2 q d hrow qlt dlo dhi
    refine ⟨_, nt v3 31 z, hcl, ?_, some j2, hc3, (a4.r2.trans c4.r2).trans (r3.trans (Fr.nt31 v3 z)).r2, d5.fr (r3.trans (Fr.nt31 v3 z)), fun j hj => ⟨⟨i0, i0e, ?_⟩, M', ?_, fun w' e11 e22 => ?_⟩⟩
    · unfold FX13_valleyLine
      rw [hg, bo1_s, a2, bo2_s, c2, bo2_s, (good_g t5).1, bnd_s, if_pos rfl, bnd_s, yqe, ye, r2, bo2_s, bnd_s]
      rfl
    · have := Option.some.inj hj
      omega
    · rw [nt_row]
      exact r4
    · rw [hap w' (by rw [e11, g0]), e11, e22, g3, g4, hc3 2 (by decide) (by decide), xqe, xe, r1, bo2_s]
theorem line_well {n : Nat} (hn : 1000 ≤ n) {b : Nat → Nat} {f l : Nat} {w v v0 : Wd} {s : Option Nat} {nv nc ns : Nat} {bk : Nat → Nat} (hg : FX13_goOnRead n v0 = some v) (h : St b f l w v s) (hm : RelM (w 2) (row v) nv nc ns bk) (h0 : (w 11).1 1 0 = nI 7) :
    ∃ w1 v1, (bo2 (FX9_takeNumber w 0 20) fun x54 w55 => bnd (dt w55 4 x54) fun w57 => some w57) = some w1 ∧ FX13_wellLine n v0 = some v1 ∧ LnE n b f l s w v w1 v1 := by
  obtain ⟨x2, y2, w2, v2, s2, c1, c2, c3, c4, c5, c6⟩ := num_pair hn h (lo := 0) (hi := 20) (by decide) (by decide)
  have c1' : FX9_takeNumber w 0 20 = some (x2, w2) := c1
  have c2' : FX13_more n v 0 20 = some (y2, v2) := c2
  have d5 : St b f l (dt w2 4 x2) v2 s2 := c5.cl (dt_o _ _ _ (by decide))
  have hc3 : CF3 w (dt w2 4 x2) := c3.c3.trans (dt_c3 _ _ _)
  have e2 : w2 11 = w 11 := c3 11 (by decide)
  have g0 : (dt w2 4 x2 11).1 1 0 = nI 7 := by rw [dt_at, if_neg (by decide), e2, h0]
  have g4 : (dt w2 4 x2 11).1 1 4 = x2 := by rw [dt_at, if_pos rfl]
  have hcl : (bo2 (FX9_takeNumber w 0 20) fun x54 w55 => bnd (dt w55 4 x54) fun w57 => some w57) = some (dt w2 4 x2) := by
    rw [c1', bo2_s, bnd_s]
  cases s2 with
  | none =>
    have t5 : TXw b f l (dt w2 4 x2) v2 := d5
    refine ⟨_, v2, hcl, ?_, none, hc3, c4.r2, d5, fun j hj => by cases hj⟩
    unfold FX13_wellLine
    rw [hg, bo1_s, c2', bo2_s, (good_x t5).1, bnd_s, if_neg (by decide)]
  | some j2 =>
    have t5 : TG b f l (dt w2 4 x2) v2 j2 := d5
    obtain ⟨i1, d, i1e, j2e, i1l, dlo, dhi, xe, ye⟩ := c6 j2 rfl
    have hm2 : RelM (w 2) (row v2) nv nc ns bk := by rw [c4.row]; exact hm
    obtain ⟨z, M', v3, r1, r2, r3, r4⟩ := depth_m hm2 dhi
    refine ⟨_, nt v3 31 z, hcl, ?_, some j2, hc3, c4.r2.trans (r3.trans (Fr.nt31 v3 z)).r2, d5.fr (r3.trans (Fr.nt31 v3 z)), fun j hj => ⟨⟨i1, i1e, ?_⟩, M', ?_, fun w' e11 e22 => ?_⟩⟩
    · unfold FX13_wellLine
      rw [hg, bo1_s, c2', bo2_s, (good_g t5).1, bnd_s, if_pos rfl, ye, r2, bo2_s, bnd_s]
      rfl
    · have := Option.some.inj hj
      omega
    · rw [nt_row]
      exact r4
    · rw [ap_well (by rw [e11, g0]), e11, e22, g4, hc3 2 (by decide) (by decide), xe, r1, bnd2_s]
theorem line_valley {n : Nat} (hn : 1000 ≤ n) {b : Nat → Nat} {f l : Nat} {w v : Wd} {s : Option Nat} {nv nc ns : Nat} {bk : Nat → Nat} (h : St b f l w v s) (hm : RelM (w 2) (row v) nv nc ns bk) (hfull : ∀ i, s = some i → nv < 8) (h0 : (w 11).1 1 0 = nI 2) :
    ∃ w1 v1, FX3_readValley n w 2 = some w1 ∧ FX13_newLine_B27 n v 0 = some v1 ∧ LnE n b f l s w v w1 v1 := by
  obtain ⟨o, o1, o2, o3⟩ := cWordV h
  obtain ⟨q, q1, q2, q3⟩ := found_v (n := n) (by omega) hm.bv hm.v0 hm.v1 (fun v hv => (hm.vs v hv).name) o1
  obtain ⟨wa, va, y, sa, k1, k2, k3, k4, k5, k6⟩ := new_core hn h 0 q o1 o2 o3 (fun i hi z => by rw [(o3 i hi z).1]; exact q2)
  have k5' : St b f l (dl wa (v8 o)) va sa := k5.cl (dl_o _ _ (by decide))
  obtain ⟨x1, y1, w1, v1, s1, a1, a2, a3, a4, a5, a6⟩ := num_pair hn k5' (lo := 1) (hi := 60) (by decide) (by decide)
  have a5' : St b f l (dt w1 4 x1) v1 s1 := a5.cl (dt_o _ _ _ (by decide))
  obtain ⟨x2, y2, w2, v2, s2, b1, b2, b3, b4, b5, b6⟩ := num_pair hn a5' (lo := 1) (hi := 4) (by decide) (by decide)
  have b5' : St b f l (dt w2 5 x2) v2 s2 := b5.cl (dt_o _ _ _ (by decide))
  obtain ⟨x3, y3, w3, v3, s3, c1, c2, c3, c4, c5, c6⟩ := num_pair hn b5' (lo := 1) (hi := 99) (by decide) (by decide)
  have d5 : St b f l (dt w3 6 x3) v3 s3 := c5.cl (dt_o _ _ _ (by decide))
  have a1' : FX9_takeNumber (dl wa (v8 o)) 1 60 = some (x1, w1) := a1
  have b1' : FX9_takeNumber (dt w1 4 x1) 1 4 = some (x2, w2) := b1
  have c1' : FX9_takeNumber (dt w2 5 x2) 1 99 = some (x3, w3) := c1
  have a2' : FX13_more n va 1 60 = some (y1, v1) := a2
  have b2' : FX13_more n v1 1 4 = some (y2, v2) := b2
  have c2' : FX13_more n v2 1 99 = some (y3, v3) := c2
  have hc3 : CF3 w (dt w3 6 x3) := ((((((k3.c3.trans (fun r _ a => dl_o _ _ a)).trans a3.c3).trans (dt_c3 _ _ _)).trans b3.c3).trans (dt_c3 _ _ _)).trans c3.c3).trans (dt_c3 _ _ _)
  have e3 : w3 11 = dt w2 5 x2 11 := c3 11 (by decide)
  have e2 : w2 11 = dt w1 4 x1 11 := b3 11 (by decide)
  have e1 : w1 11 = dl wa (v8 o) 11 := a3 11 (by decide)
  have e0 : wa 11 = w 11 := k3 11 (by decide)
  have g0 : (dt w3 6 x3 11).1 1 0 = nI 2 := by rw [dt_at, if_neg (by decide), e3, dt_at, if_neg (by decide), e2, dt_at, if_neg (by decide), e1, dl_1, e0, h0]
  have gl : (dt w3 6 x3 11).2 1 1 = v8 o := by rw [dt_l, e3, dt_l, e2, dt_l, e1, dl_2]
  have g4 : (dt w3 6 x3 11).1 1 4 = x1 := by rw [dt_at, if_neg (by decide), e3, dt_at, if_neg (by decide), e2, dt_at, if_pos rfl]
  have g5 : (dt w3 6 x3 11).1 1 5 = x2 := by rw [dt_at, if_neg (by decide), e3, dt_at, if_pos rfl]
  have g6 : (dt w3 6 x3 11).1 1 6 = x3 := by rw [dt_at, if_pos rfl]
  have hrf : RF2 v v3 := ((k4.r2.trans a4.r2).trans b4.r2).trans c4.r2
  have hrow : row v3 = row v := by rw [c4.row, b4.row, a4.row, k4.row]
  have hcl : FX3_readValley n w 2 = some (dt w3 6 x3) := by
    unfold FX3_readValley
    rw [o2, bo1_s, q1, bo1_s, k1, bo2_s, show sW wa 11 (sL (wa 11) 1 1 (v8 o)) = dl wa (v8 o) from rfl, bnd_s, a1', bo2_s, show sW w1 11 (sI (w1 11) 1 4 x1) = dt w1 4 x1 from rfl, bnd_s, b1', bo2_s, show sW w2 11 (sI (w2 11) 1 5 x2) = dt w2 5 x2 from rfl, bnd_s, c1', bo2_s, show sW w3 11 (sI (w3 11) 1 6 x3) = dt w3 6 x3 from rfl, bnd_s]
  cases s3 with
  | none =>
    have t5 : TXw b f l (dt w3 6 x3) v3 := d5
    refine ⟨_, v3, hcl, ?_, none, hc3, hrf, d5, fun j hj => by cases hj⟩
    rw [k2]
    unfold FX13_newLine_B88 FX13_valleyRest
    rw [if_pos rfl, a2', bo2_s, b2', bo2_s, c2', bo2_s, (good_x t5).1, bnd_s, if_neg (by decide), bo1_s]
  | some j3 =>
    have t5 : TG b f l (dt w3 6 x3) v3 j3 := d5
    obtain ⟨i2, d3, i2e, j3e, i2l, d3lo, d3hi, x3e, y3e⟩ := c6 j3 rfl
    obtain ⟨i1, d2, i1e, i2e2, i1l, d2lo, d2hi, x2e, y2e⟩ := b6 i2 i2e
    obtain ⟨i0, d1, i0e, i1e2, i0l, d1lo, d1hi, x1e, y1e⟩ := a6 i1 i1e
    obtain ⟨i, ls, ie, i0e2, il, qe, oe, hls, ye⟩ := k6 i0 i0e
    have hm2 : RelM (w 2) (row v3) nv nc ns bk := by rw [hrow]; exact hm
    obtain ⟨z, M', v4, r1, r2, r3, r4⟩ := valley_m hm2 (hfull i ie) hls d1lo d1hi d2lo d2hi d3lo d3hi
    refine ⟨_, nt v4 31 z, hcl, ?_, some j3, hc3, hrf.trans (r3.trans (Fr.nt31 v4 z)).r2, d5.fr (r3.trans (Fr.nt31 v4 z)), fun j hj => ⟨⟨i, ie, ?_⟩, M', ?_, fun w' e11 e22 => ?_⟩⟩
    · rw [k2]
      unfold FX13_newLine_B88 FX13_valleyRest
      rw [if_pos rfl, a2', bo2_s, b2', bo2_s, c2', bo2_s, (good_g t5).1, bnd_s, if_pos rfl, ye, y1e, y2e, y3e, r2, bo2_s, bnd_s, bo1_s]
      rfl
    · have := Option.some.inj hj
      omega
    · rw [nt_row]
      exact r4
    · rw [ap_valley (by rw [e11, g0]), e11, e22, gl, g4, g5, g6, hc3 2 (by decide) (by decide), x1e, x2e, x3e, oe]
      show bo2 (FX6_openValley (w 2) (lN (pk8 ls)) (nI d1) (nI d2) (nI d3)) _ = _
      rw [r1, bo2_s]
theorem line_customer {n : Nat} (hn : 1000 ≤ n) {b : Nat → Nat} {f l : Nat} {w v : Wd} {s : Option Nat} {nv nc ns : Nat} {bk : Nat → Nat} (h : St b f l w v s) (hm : RelM (w 2) (row v) nv nc ns bk) (hfull : ∀ i, s = some i → nc < 8) (h0 : (w 11).1 1 0 = nI 3) :
    ∃ w1 v1, FX3_readCustomer n w 2 = some w1 ∧ FX13_newLine_B27 n v 1 = some v1 ∧ LnE n b f l s w v w1 v1 := by
  obtain ⟨o, o1, o2, o3⟩ := cWordV h
  obtain ⟨q, q1, q2, q3⟩ := found_c (n := n) (by omega) hm.bc hm.c0 hm.c1 (fun c hc => (hm.cs c hc).name) o1
  obtain ⟨wa, va, y, sa, k1, k2, k3, k4, k5, k6⟩ := new_core hn h 1 q o1 o2 o3 (fun i hi z => by rw [(o3 i hi z).1]; exact q2)
  have k5' : St b f l (dl wa (v8 o)) va sa := k5.cl (dl_o _ _ (by decide))
  obtain ⟨x1, y1, w1, v1, s1, a1, a2, a3, a4, a5, a6⟩ := num_pair hn k5' (lo := 1) (hi := 240) (by decide) (by decide)
  have a5' : St b f l (dt w1 4 x1) v1 s1 := a5.cl (dt_o _ _ _ (by decide))
  obtain ⟨x2, y2, w2, v2, s2, b1, b2, b3, b4, b5, b6⟩ := num_pair hn a5' (lo := 0) (hi := 9999) (by decide) (by decide)
  have d5 : St b f l (dt w2 5 x2) v2 s2 := b5.cl (dt_o _ _ _ (by decide))
  have a1' : FX9_takeNumber (dl wa (v8 o)) 1 240 = some (x1, w1) := a1
  have b1' : FX9_takeNumber (dt w1 4 x1) 0 9999 = some (x2, w2) := b1
  have a2' : FX13_more n va 1 240 = some (y1, v1) := a2
  have b2' : FX13_more n v1 0 9999 = some (y2, v2) := b2
  have hc3 : CF3 w (dt w2 5 x2) := ((((k3.c3.trans (fun r _ a => dl_o _ _ a)).trans a3.c3).trans (dt_c3 _ _ _)).trans b3.c3).trans (dt_c3 _ _ _)
  have e2 : w2 11 = dt w1 4 x1 11 := b3 11 (by decide)
  have e1 : w1 11 = dl wa (v8 o) 11 := a3 11 (by decide)
  have e0 : wa 11 = w 11 := k3 11 (by decide)
  have g0 : (dt w2 5 x2 11).1 1 0 = nI 3 := by rw [dt_at, if_neg (by decide), e2, dt_at, if_neg (by decide), e1, dl_1, e0, h0]
  have gl : (dt w2 5 x2 11).2 1 1 = v8 o := by rw [dt_l, e2, dt_l, e1, dl_2]
  have g4 : (dt w2 5 x2 11).1 1 4 = x1 := by rw [dt_at, if_neg (by decide), e2, dt_at, if_pos rfl]
  have g5 : (dt w2 5 x2 11).1 1 5 = x2 := by rw [dt_at, if_pos rfl]
  have hrf : RF2 v v2 := (k4.r2.trans a4.r2).trans b4.r2
  have hrow : row v2 = row v := by rw [b4.row, a4.row, k4.row]
  have hcl : FX3_readCustomer n w 2 = some (dt w2 5 x2) := by
    unfold FX3_readCustomer
    rw [o2, bo1_s, q1, bo1_s, k1, bo2_s, show sW wa 11 (sL (wa 11) 1 1 (v8 o)) = dl wa (v8 o) from rfl, bnd_s, a1', bo2_s, show sW w1 11 (sI (w1 11) 1 4 x1) = dt w1 4 x1 from rfl, bnd_s, b1', bo2_s, show sW w2 11 (sI (w2 11) 1 5 x2) = dt w2 5 x2 from rfl, bnd_s]
  cases s2 with
  | none =>
    have t5 : TXw b f l (dt w2 5 x2) v2 := d5
    refine ⟨_, v2, hcl, ?_, none, hc3, hrf, d5, fun j hj => by cases hj⟩
    rw [k2]
    unfold FX13_newLine_B88 FX13_customerRest
    rw [if_neg (by decide), a2', bo2_s, b2', bo2_s, (good_x t5).1, bnd_s, if_neg (by decide), bo1_s]
  | some j2 =>
    have t5 : TG b f l (dt w2 5 x2) v2 j2 := d5
    obtain ⟨i1, d2, i1e, i2e2, i1l, d2lo, d2hi, x2e, y2e⟩ := b6 j2 rfl
    obtain ⟨i0, d1, i0e, i1e2, i0l, d1lo, d1hi, x1e, y1e⟩ := a6 i1 i1e
    obtain ⟨i, ls, ie, i0e2, il, qe, oe, hls, ye⟩ := k6 i0 i0e
    have hm2 : RelM (w 2) (row v2) nv nc ns bk := by rw [hrow]; exact hm
    obtain ⟨z, M', v4, r1, r2, r3, r4⟩ := customer_m hm2 (hfull i ie) hls (mo := nI d2) d1lo d1hi
    refine ⟨_, nt v4 31 z, hcl, ?_, some j2, hc3, hrf.trans (r3.trans (Fr.nt31 v4 z)).r2, d5.fr (r3.trans (Fr.nt31 v4 z)), fun j hj => ⟨⟨i, ie, ?_⟩, M', ?_, fun w' e11 e22 => ?_⟩⟩
    · rw [k2]
      unfold FX13_newLine_B88 FX13_customerRest
      rw [if_neg (by decide), a2', bo2_s, b2', bo2_s, (good_g t5).1, bnd_s, if_pos rfl, ye, y1e, y2e, r2, bo2_s, bnd_s, bo1_s]
      rfl
    · have := Option.some.inj hj
      omega
    · rw [nt_row]
      exact r4
    · rw [ap_customer (by rw [e11, g0]), e11, e22, gl, g4, g5, hc3 2 (by decide) (by decide), x1e, x2e, oe]
      show bo2 (FX6_welcome (w 2) (lN (pk8 ls)) (nI d1) (nI d2)) _ = _
      rw [r1, bo2_s]
