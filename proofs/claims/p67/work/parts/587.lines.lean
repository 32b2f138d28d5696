set_option maxHeartbeats 400000
/-! statements of a text, side by side -/
def CF3 (w w' : Wd) : Prop := ∀ r, r ≠ 10 → r ≠ 11 → w' r = w r
def RF2 (v v' : Wd) : Prop := (∀ r, r ≠ 15 → v' r = v r) ∧ (∀ j, j ≠ 0 → j ≠ 2 → (v' 15).1 j = (v 15).1 j) ∧ ∀ k, k < 4 ∨ 9 < k → k ≠ 20 → k ≠ 31 → (v' 15).1 0 k = (v 15).1 0 k
theorem RF.r2 {v v' : Wd} (h : RF v v') : RF2 v v' := ⟨h.1, fun j a _ => h.2.1 j a, fun k a _ _ => h.2.2 k a⟩
theorem Fr.r2 {v v' : Wd} (h : Fr v v') : RF2 v v' := ⟨h.1, h.2.2.1, fun k _ a c => h.2.2.2 k a c⟩
theorem RF2.trans {v v1 v2 : Wd} (h : RF2 v v1) (h2 : RF2 v1 v2) : RF2 v v2 := ⟨fun r hr => (h2.1 r hr).trans (h.1 r hr), fun j a c => (h2.2.1 j a c).trans (h.2.1 j a c), fun k a c d => (h2.2.2 k a c d).trans (h.2.2 k a c d)⟩
theorem CF3.trans {w w1 w2 : Wd} (h : CF3 w w1) (h2 : CF3 w1 w2) : CF3 w w2 := fun r a c => (h2 r a c).trans (h r a c)
theorem CF.c3 {w w' : Wd} (h : CF w w') : CF3 w w' := fun r a _ => h r a
-- the change that is being read
def dt (w : Wd) (k : Nat) (x : Int32) : Wd := sW w 11 (sI (w 11) 1 k x)
theorem dt_o (w : Wd) (k : Nat) (x : Int32) {r : Nat} (h : r ≠ 11) : dt w k x r = w r := sW_o _ _ h
theorem dt_at (w : Wd) (k : Nat) (x : Int32) (k' : Nat) : (dt w k x 11).1 1 k' = if k' = k then x else (w 11).1 1 k' := by
  unfold dt
  rw [sW_s, sI_at]
theorem dt_l (w : Wd) (k : Nat) (x : Int32) : (dt w k x 11).2 = (w 11).2 := by
  unfold dt
  rw [sW_s]
  rfl
theorem dt_c3 (w : Wd) (k : Nat) (x : Int32) : CF3 w (dt w k x) := fun _ _ a => dt_o w k x a
def dl (w : Wd) (x : Int64) : Wd := sW w 11 (sL (w 11) 1 1 x)
theorem dl_o (w : Wd) (x : Int64) {r : Nat} (h : r ≠ 11) : dl w x r = w r := sW_o _ _ h
theorem dl_1 (w : Wd) (x : Int64) : (dl w x 11).1 = (w 11).1 := by
  unfold dl
  rw [sW_s]
  rfl
theorem dl_2 (w : Wd) (x : Int64) : (dl w x 11).2 1 1 = x := by
  unfold dl
  rw [sW_s, sL_at, if_pos rfl]
theorem St.cl {b : Nat → Nat} {f l : Nat} {w w' v : Wd} {s : Option Nat} (h : St b f l w v s) (e : w' 10 = w 10) : St b f l w' v s := by
  cases s with
  | none =>
    show TXw b f l w' v
    unfold TXw TA TKA TkI
    rw [e]
    exact h
  | some i =>
    show TG b f l w' v i
    unfold TG TA TKA TkI
    rw [e]
    exact h
theorem RB.fr {v v' : Wd} {b : Nat → Nat} {f p : Nat} (h : RB v b f p) (hF : Fr v v') : RB v' b f p := by
  obtain ⟨⟨f1, t3, tb⟩, r4, r5, r6, r12, r7, r7b⟩ := h
  have hk := hF.2.2.2
  refine ⟨⟨f1, ?_, fun j hj => ?_⟩, ?_, ?_, ?_, ?_, ?_, ?_⟩
  · rw [hk 3 (by decide) (by decide)]; exact t3
  · rw [hF.2.2.1 1 (by decide) (by decide)]; exact tb j hj
  · rw [hk 4 (by decide) (by decide)]; exact r4
  · rw [hk 5 (by decide) (by decide)]; exact r5
  · rw [hk 6 (by decide) (by decide)]; exact r6
  · rw [hF.2.1]; exact r12
  · rw [hk 7 (by decide) (by decide)]; exact r7
  · rw [hk 7 (by decide) (by decide)]; exact r7b
theorem St.fr {b : Nat → Nat} {f l : Nat} {w v v' : Wd} {s : Option Nat} (h : St b f l w v s) (hF : Fr v v') : St b f l w v' s := by
  have hk := hF.2.2.2
  cases s with
  | none =>
    obtain ⟨hA, hK, i, e, o, h1, h2, h3, h4, h5, h6, h7, h8⟩ := h
    exact ⟨hA, hK, i, e, o, h1, h2, h3, h4, h5, h6, (hk 8 (by decide) (by decide)).trans h7, (hk 9 (by decide) (by decide)).trans h8⟩
  | some i =>
    obtain ⟨hA, hK, hi, a5, a7, a8, hR, r8, r9⟩ := h
    exact ⟨hA, hK, hi, a5, a7, a8, hR.fr hF, (hk 8 (by decide) (by decide)).trans r8, (hk 9 (by decide) (by decide)).trans r9⟩
/-- the end of a statement ahead of its sign -/
def LnE (n : Nat) (b : Nat → Nat) (f l : Nat) (s0 : Option Nat) (w v w1 v1 : Wd) : Prop := ∃ s, CF3 w w1 ∧ RF2 v v1 ∧ St b f l w1 v1 s ∧ ∀ j, s = some j → (∃ i, s0 = some i ∧ i < j) ∧ ∃ M', RM M' (row v1) ∧ ∀ w', w' 11 = w1 11 → w' 2 = w1 2 → FX1_applyTo n w' 11 1 2 = some (sW w' 2 M')
/-- the end of a statement behind its sign -/
def LnS (n : Nat) (b : Nat → Nat) (f l : Nat) (s0 : Option Nat) (w v w1 v1 : Wd) : Prop := ∃ w2 v2 s, FX9_takeSign w1 59 = some w2 ∧ FX13_mustSign n v1 59 = some v2 ∧ CF3 w w2 ∧ RF2 v v2 ∧ St b f l w2 v2 s ∧ ∀ j, s = some j → (∃ i, s0 = some i ∧ i < j) ∧ ∃ M', RM M' (row v2) ∧ FX1_applyTo n w2 11 1 2 = some (sW w2 2 M')
theorem LnE.ls {n : Nat} (hn : 1000 ≤ n) {b : Nat → Nat} {f l : Nat} {s0 : Option Nat} {w v w1 v1 : Wd} (h : LnE n b f l s0 w v w1 v1) : LnS n b f l s0 w v w1 v1 := by
  obtain ⟨s, h1, h2, h3, h4⟩ := h
  obtain ⟨w2, v2, s2, k1, k2, k3, k4, k5, k6⟩ := sign_pair hn h3 (c := 59) (by decide)
  refine ⟨w2, v2, s2, k1, k2, h1.trans k3.c3, h2.trans k4.r2, k5, fun j hj => ?_⟩
  obtain ⟨i, e1, e2, e3⟩ := k6 j hj
  obtain ⟨⟨i0, g1, g2⟩, M', g3, g4⟩ := h4 i e1
  refine ⟨⟨i0, g1, by omega⟩, M', ?_, g4 w2 (k3 11 (by decide)) (k3 2 (by decide))⟩
  rw [k4.row]
  exact g3
/-- a known valley -/
theorem vname_pair {n : Nat} (hn : 1000 ≤ n) {b : Nat → Nat} {f l : Nat} {w v : Wd} {s : Option Nat} {nv nc ns : Nat} {bk : Nat → Nat} (h : St b f l w v s) (hm : RelM (w 2) (row v) nv nc ns bk) : ∃ x w' y v' s', FX9_takeValley n w 2 = some (x, w') ∧ FX13_nameHere n v 0 = some (y, v') ∧ CF w w' ∧ RF v v' ∧ St b f l w' v' s' ∧ ∀ j, s' = some j → ∃ i q, s = some i ∧ j = i + 1 ∧ i < l ∧ q < nv ∧ x = nI q ∧ y = nI q := by
  obtain ⟨o, o1, o2, o3⟩ := cWordV h
  obtain ⟨q, q1, q2, q3⟩ := found_v (n := n) (by omega) hm.bv hm.v0 hm.v1 (fun v hv => (hm.vs v hv).name) o1
  obtain ⟨w', v', y, s', k1, k2, k3, k4, k5, k6⟩ := known_core hn h 0 q (fun i hi z => by rw [(o3 i hi z).1]; exact q2)
  refine ⟨q, w', y, v', s', ?_, k2, k3, k4, k5, fun j hj => ?_⟩
  · unfold FX9_takeValley
    rw [o2, bo1_s, q1, bo1_s, k1, bo1_s]
  · obtain ⟨i, e1, e2, e3, e4, e5⟩ := k6 j hj
    rcases q3 with z | ⟨d, d1, d2⟩
    · exact absurd z e4
    · exact ⟨i, d, e1, e2, e3, d1, d2, e5.trans d2⟩
/-- a known customer -/
theorem cname_pair {n : Nat} (hn : 1000 ≤ n) {b : Nat → Nat} {f l : Nat} {w v : Wd} {s : Option Nat} {nv nc ns : Nat} {bk : Nat → Nat} (h : St b f l w v s) (hm : RelM (w 2) (row v) nv nc ns bk) : ∃ x w' y v' s', FX9_takeCustomer n w 2 = some (x, w') ∧ FX13_nameHere n v 1 = some (y, v') ∧ CF w w' ∧ RF v v' ∧ St b f l w' v' s' ∧ ∀ j, s' = some j → ∃ i q, s = some i ∧ j = i + 1 ∧ i < l ∧ q < nc ∧ x = nI q ∧ y = nI q := by
  obtain ⟨o, o1, o2, o3⟩ := cWordV h
  obtain ⟨q, q1, q2, q3⟩ := found_c (n := n) (by omega) hm.bc hm.c0 hm.c1 (fun c hc => (hm.cs c hc).name) o1
  obtain ⟨w', v', y, s', k1, k2, k3, k4, k5, k6⟩ := known_core hn h 1 q (fun i hi z => by rw [(o3 i hi z).1]; exact q2)
  refine ⟨q, w', y, v', s', ?_, k2, k3, k4, k5, fun j hj => ?_⟩
  · unfold FX9_takeCustomer
    rw [o2, bo1_s, q1, bo1_s, k1, bo1_s]
  · obtain ⟨i, e1, e2, e3, e4, e5⟩ := k6 j hj
    rcases q3 with z | ⟨d, d1, d2⟩
    · exact absurd z e4
    · exact ⟨i, d, e1, e2, e3, d1, d2, e5.trans d2⟩
-- a change is made
theorem ap_fog {n : Nat} {w : Wd} (h0 : (w 11).1 1 0 = nI 5) : FX1_applyTo n w 11 1 2 = bo2 (FX6_changeFog (w 2) ((w 11).1 1 3) ((w 11).1 1 4)) fun _ M => some (sW w 2 M) := by
  unfold FX1_applyTo
  rw [h0, nI_c (a := 5) (by decide), gd_t (by decide), gd_t (inI (by decide) (by decide)), nI_c (a := 5) (by decide), bnd_s, show swMap.getD 5 0 = 2 from rfl, if_neg (by decide), if_pos rfl]
  rfl
theorem ap_price {n : Nat} {w : Wd} (h0 : (w 11).1 1 0 = nI 6) : FX1_applyTo n w 11 1 2 = bo2 (FX6_changePrice (w 2) ((w 11).1 1 3) ((w 11).1 1 4)) fun _ M => some (sW w 2 M) := by
  unfold FX1_applyTo
  rw [h0, nI_c (a := 6) (by decide), gd_t (by decide), gd_t (inI (by decide) (by decide)), nI_c (a := 6) (by decide), bnd_s, show swMap.getD 6 0 = 3 from rfl, if_neg (by decide), if_neg (by decide), if_pos rfl]
  rfl
theorem ap_well {n : Nat} {w : Wd} (h0 : (w 11).1 1 0 = nI 7) : FX1_applyTo n w 11 1 2 = bnd2 (FX6_changeDepth (w 2) ((w 11).1 1 4)) fun _ M => some (sW w 2 M) := by
  unfold FX1_applyTo
  rw [h0, nI_c (a := 7) (by decide), gd_t (by decide), gd_t (inI (by decide) (by decide)), nI_c (a := 7) (by decide), bnd_s, show swMap.getD 7 0 = 4 from rfl, if_neg (by decide), if_neg (by decide), if_neg (by decide), if_pos rfl]
  rfl
theorem ap_valley {n : Nat} {w : Wd} (h0 : (w 11).1 1 0 = nI 2) : FX1_applyTo n w 11 1 2 = bo2 (FX6_openValley (w 2) ((w 11).2 1 1) ((w 11).1 1 4) ((w 11).1 1 5) ((w 11).1 1 6)) fun _ M => some (sW w 2 M) := by
  unfold FX1_applyTo
  rw [h0, nI_c (a := 2) (by decide), gd_t (by decide), gd_t (inI (by decide) (by decide)), nI_c (a := 2) (by decide), bnd_s, show swMap.getD 2 0 = 6 from rfl, if_neg (by decide), if_neg (by decide), if_neg (by decide), if_neg (by decide), if_neg (by decide), if_pos rfl]
  rfl
theorem ap_customer {n : Nat} {w : Wd} (h0 : (w 11).1 1 0 = nI 3) : FX1_applyTo n w 11 1 2 = bo2 (FX6_welcome (w 2) ((w 11).2 1 1) ((w 11).1 1 4) ((w 11).1 1 5)) fun _ M => some (sW w 2 M) := by
  unfold FX1_applyTo
  rw [h0, nI_c (a := 3) (by decide), gd_t (by decide), gd_t (inI (by decide) (by decide)), nI_c (a := 3) (by decide), bnd_s, show swMap.getD 3 0 = 7 from rfl, if_neg (by decide), if_neg (by decide), if_neg (by decide), if_neg (by decide), if_neg (by decide), if_neg (by decide), if_pos rfl]
  rfl
theorem ap_sell {n : Nat} {w : Wd} (h0 : (w 11).1 1 0 = nI 4) : FX1_applyTo n w 11 1 2 = bo2 (FX6_sell (w 2) ((w 11).1 1 2) ((w 11).1 1 3) ((w 11).1 1 4) ((w 11).1 1 5)) fun _ M => some (sW w 2 M) := by
  unfold FX1_applyTo
  rw [h0, nI_c (a := 4) (by decide), gd_t (by decide), gd_t (inI (by decide) (by decide)), nI_c (a := 4) (by decide), bnd_s, show swMap.getD 4 0 = 1 from rfl, if_pos rfl]
  rfl
theorem ap_pass {n : Nat} {w : Wd} (h0 : (w 11).1 1 0 = nI 8) : FX1_applyTo n w 11 1 2 = bo2 (FX6_letPass n (w 2) ((w 11).1 1 4)) fun _ M => some (sW w 2 M) := by
  unfold FX1_applyTo
  rw [h0, nI_c (a := 8) (by decide), gd_t (by decide), gd_t (inI (by decide) (by decide)), nI_c (a := 8) (by decide), bnd_s, show swMap.getD 8 0 = 5 from rfl, if_neg (by decide), if_neg (by decide), if_neg (by decide), if_neg (by decide), if_pos rfl]
  rfl
theorem ap_fake {n : Nat} {w : Wd} (h0 : (w 11).1 1 0 = nI 9) : FX1_applyTo n w 11 1 2 = bo2 (FX6_fakeNext n (w 2) ((w 11).1 1 4)) fun _ M => some (sW w 2 M) := by
  unfold FX1_applyTo
  rw [h0, nI_c (a := 9) (by decide), gd_t (by decide), gd_t (inI (by decide) (by decide)), nI_c (a := 9) (by decide), bnd_s, show swMap.getD 9 0 = 8 from rfl, if_neg (by decide), if_neg (by decide), if_neg (by decide), if_neg (by decide), if_neg (by decide), if_neg (by decide), if_neg (by decide), if_pos rfl]
  rfl
