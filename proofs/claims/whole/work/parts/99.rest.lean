set_option maxHeartbeats 400000
/-! the arguments of a command, side by side -/
theorem St.kp {b : Nat → Nat} {f l : Nat} {w v v' : Wd} {s : Option Nat} (h : St b f l w v s) (hk : ∀ k, k < 10 → (v' 15).1 0 k = (v 15).1 0 k) (h1 : (v' 15).1 1 = (v 15).1 1) (h2 : (v' 15).2 = (v 15).2) : St b f l w v' s := by
  cases s with
  | none =>
    obtain ⟨hA, hK, i, e, o, q1, q2, q3, q4, q5, q6, q7, q8⟩ := h
    exact ⟨hA, hK, i, e, o, q1, q2, q3, q4, q5, q6, (hk 8 (by decide)).trans q7, (hk 9 (by decide)).trans q8⟩
  | some i =>
    obtain ⟨hA, hK, hi, a5, a7, a8, ⟨⟨f1, t3, tb⟩, r4, r5, r6, r12, r7, r7b⟩, r8, r9⟩ := h
    refine ⟨hA, hK, hi, a5, a7, a8, ⟨⟨f1, (hk 3 (by decide)).trans t3, fun j hj => ?_⟩, (hk 4 (by decide)).trans r4, (hk 5 (by decide)).trans r5, (hk 6 (by decide)).trans r6, fun z => ?_, fun z => (hk 7 (by decide)).trans (r7 z), fun z => (hk 7 (by decide)).trans (r7b z)⟩, (hk 8 (by decide)).trans r8, (hk 9 (by decide)).trans r9⟩
    · rw [h1]
      exact tb j hj
    · rw [h2]
      exact r12 z
theorem St.y {b : Nat → Nat} {f l : Nat} {w v : Wd} {s : Option Nat} (h : St b f l w v s) {j : Nat} (k : Nat) (x : Int32) (hj : 2 ≤ j) : St b f l w (yt v j k x) s := h.kp (fun q _ => by rw [yt_j _ _ _ _ (by omega)]) (yt_j _ _ _ _ (by omega)) (yt_2 _ _ _ _)
theorem St.nt {b : Nat → Nat} {f l : Nat} {w v : Wd} {s : Option Nat} (h : St b f l w v s) {k : Nat} (x : Int32) (hk : 10 ≤ k) : St b f l w (nt v k x) s := h.kp (fun q hq => by rw [nt_k, if_neg (by omega)]) (nt_j _ _ _ (by decide)) (nt_2 _ _ _)
theorem vname_r {n : Nat} (hn : 1000 ≤ n) {b : Nat → Nat} {f l rg : Nat} {w v : Wd} {s : Option Nat} {nv nc ns : Nat} {bk : Nat → Nat} (h : St b f l w v s) (hm : RelM (w rg) (row v) nv nc ns bk) : ∃ x w' y v' s', FX9_takeValley n w rg = some (x, w') ∧ FX13_nameHere n v 0 = some (y, v') ∧ CF w w' ∧ RF v v' ∧ St b f l w' v' s' ∧ ∀ j, s' = some j → ∃ i q, s = some i ∧ j = i + 1 ∧ i < l ∧ q < nv ∧ x = nI q ∧ y = nI q := by
  obtain ⟨o, o1, o2, o3⟩ := cWordV h
  obtain ⟨q, q1, q2, q3⟩ := found_v (n := n) (by omega) hm.bv hm.v0 hm.v1 (fun v hv => (hm.vs v hv).name) o1
  obtain ⟨w', v', y, s', k1, k2, k3, k4, k5, k6⟩ := known_core hn h 0 q (fun i hi z => by rw [(o3 i hi z).1]; exact q2)
  refine ⟨q, w', y, v', s', ?_, k2, k3, k4, k5, fun j hj => ?_⟩
  · unfold FX9_takeValley
    rw [o2, bo1_s, q1, bo1_s, k1, bo1_s]
  · obtain ⟨i, e1, e2, e3, e4, e5⟩ := k6 j hj
    rcases q3 with z | ⟨d, d1, d2⟩
    · exact absurd z e4
    · exact ⟨i, d, e1, e2, e3, d1, d2, e5.trans d2⟩
theorem cname_r {n : Nat} (hn : 1000 ≤ n) {b : Nat → Nat} {f l rg : Nat} {w v : Wd} {s : Option Nat} {nv nc ns : Nat} {bk : Nat → Nat} (h : St b f l w v s) (hm : RelM (w rg) (row v) nv nc ns bk) : ∃ x w' y v' s', FX9_takeCustomer n w rg = some (x, w') ∧ FX13_nameHere n v 1 = some (y, v') ∧ CF w w' ∧ RF v v' ∧ St b f l w' v' s' ∧ ∀ j, s' = some j → ∃ i q, s = some i ∧ j = i + 1 ∧ i < l ∧ q < nc ∧ x = nI q ∧ y = nI q := by
  obtain ⟨o, o1, o2, o3⟩ := cWordV h
  obtain ⟨q, q1, q2, q3⟩ := found_c (n := n) (by omega) hm.bc hm.c0 hm.c1 (fun c hc => (hm.cs c hc).name) o1
  obtain ⟨w', v', y, s', k1, k2, k3, k4, k5, k6⟩ := known_core hn h 1 q (fun i hi z => by rw [(o3 i hi z).1]; exact q2)
  refine ⟨q, w', y, v', s', ?_, k2, k3, k4, k5, fun j hj => ?_⟩
  · unfold FX9_takeCustomer
    rw [o2, bo1_s, q1, bo1_s, k1, bo1_s]
  · obtain ⟨i, e1, e2, e3, e4, e5⟩ := k6 j hj
    rcases q3 with z | ⟨d, d1, d2⟩
    · exact absurd z e4
    · exact ⟨i, d, e1, e2, e3, d1, d2, e5.trans d2⟩
def FLD (q J m nv nc : Nat) (w v : Wd) : Prop :=
  (q = 0 → ∃ cu va, cu < nc ∧ va < nv ∧ (w 12).1 J 2 = nI cu ∧ (w 12).1 J 3 = nI va ∧ (v 15).1 8 m = nI cu ∧ (v 15).1 9 m = nI va ∧ (w 12).1 J 4 = (v 15).1 10 m ∧ (w 12).1 J 5 = (v 15).1 11 m) ∧
  (q = 1 ∨ q = 2 → ∃ va, va < nv ∧ (w 12).1 J 3 = nI va ∧ (v 15).1 8 m = nI va ∧ (w 12).1 J 4 = (v 15).1 9 m) ∧
  (3 ≤ q → (w 12).1 J 4 = (v 15).1 8 m)
def EF (J : Nat) (w w' : Wd) : Prop := (∀ r, r ≠ 10 → r ≠ 12 → w' r = w r) ∧ (∀ j, j ≠ J → (w' 12).1 j = (w 12).1 j) ∧ (w' 12).1 J 0 = (w 12).1 J 0
theorem EF.refl (J : Nat) (w : Wd) : EF J w w := ⟨fun _ _ _ => rfl, fun _ _ => rfl, rfl⟩
theorem EF.trans {J : Nat} {w w1 w2 : Wd} (h : EF J w w1) (h2 : EF J w1 w2) : EF J w w2 := ⟨fun r a c => (h2.1 r a c).trans (h.1 r a c), fun j a => (h2.2.1 j a).trans (h.2.1 j a), h2.2.2.trans h.2.2⟩
theorem CF.ef {w w' : Wd} (h : CF w w') (J : Nat) : EF J w w' := ⟨fun r a _ => h r a, fun j _ => by rw [h 12 (by decide)], by rw [h 12 (by decide)]⟩
theorem EF.et (J : Nat) (w : Wd) {k : Nat} (x : Int32) (hk : k ≠ 0) : EF J w (et w J k x) := ⟨fun r _ a => et_o _ _ _ _ a, fun j a => et_j _ _ _ _ a, by rw [et_at, if_neg (Ne.symm hk)]⟩
def VFm (m : Nat) (v v' : Wd) : Prop := (∀ r, r ≠ 15 → v' r = v r) ∧ (∀ j, j ≠ 0 → j < 8 ∨ 11 < j → (v' 15).1 j = (v 15).1 j) ∧ (∀ j k, 8 ≤ j → j ≤ 11 → k ≠ m → (v' 15).1 j k = (v 15).1 j k) ∧ ∀ k, k < 4 ∨ 9 < k → (v' 15).1 0 k = (v 15).1 0 k
theorem VFm.trans {m : Nat} {v v1 v2 : Wd} (h : VFm m v v1) (h2 : VFm m v1 v2) : VFm m v v2 := ⟨fun r a => (h2.1 r a).trans (h.1 r a), fun j a c => (h2.2.1 j a c).trans (h.2.1 j a c), fun j k a c d => (h2.2.2.1 j k a c d).trans (h.2.2.1 j k a c d), fun k a => (h2.2.2.2 k a).trans (h.2.2.2 k a)⟩
theorem RF.vm {v v' : Wd} (h : RF v v') (m : Nat) : VFm m v v' := ⟨h.1, fun j a _ => h.2.1 j a, fun j k a _ _ => by rw [h.2.1 j (by omega)], h.2.2⟩
theorem VFm.yt (m : Nat) (v : Wd) {j : Nat} (x : Int32) (h8 : 8 ≤ j) (h11 : j ≤ 11) : VFm m v (yt v j m x) := ⟨fun r a => yt_o _ _ _ _ a, fun i a c => yt_j _ _ _ _ (by omega), fun i k _ _ d => by
    by_cases z : i = j
    · rw [z, yt_at, if_neg d]
    · rw [yt_j _ _ _ _ z], fun k _ => by rw [yt_j _ _ _ _ (by omega)]⟩
theorem VFm.row {m : Nat} {v v' : Wd} (h : VFm m v v') : row v' = row v := h.2.1 2 (by decide) (Or.inl (by decide))
/-- names and numbers of a command -/
theorem rest_pair {n : Nat} (hn : 1000 ≤ n) {b : Nat → Nat} {f l J m q : Nat} {W V : Wd} {s : Option Nat} {nv nc ns : Nat} {bk : Nat → Nat} (h : St b f l W V s) (hm : RelM (W 1) (row V) nv nc ns bk) (hq : q ≤ 6) (h0 : (W 12).1 J 0 = nI (q + 4)) (hmm : m < 60) : ∃ Wa V1 s1, (FX7_readChange n W 1 12 J = bo1 (FX9_takeSign Wa 59) fun w => some w) ∧ FX13_readsRest n V (nI m) (nI q) = some V1 ∧ EF J W Wa ∧ VFm m V V1 ∧ St b f l Wa V1 s1 ∧ ∀ j, s1 = some j → (∃ i, s = some i ∧ i < j) ∧ FLD q J m nv nc Wa V1 := by
  have hin : inb (nI m) 60 = true := inI hmm (by decide)
  have hmc : (nI m).toNatClampNeg = m := nI_c (by omega)
  rcases (by omega : q = 0 ∨ q = 1 ∨ q = 2 ∨ (3 ≤ q)) with z | z | z | z
  · subst z
    obtain ⟨xa, wa, ya, va, sa, a1, a2, a3, a4, a5, a6⟩ := cname_r hn h hm
    have t1 : St b f l (et wa J 2 xa) (yt va 8 m ya) sa := (a5.cl (et_o _ _ _ _ (by decide))).y m ya (by decide)
    have m1 : RelM (et wa J 2 xa 1) (row (yt va 8 m ya)) nv nc ns bk := by
      rw [et_o _ _ _ _ (by decide), a3 1 (by decide)]
      unfold row
      rw [yt_j _ _ _ _ (by decide)]
      show RelM (W 1) (row va) nv nc ns bk
      rw [a4.row]
      exact hm
    obtain ⟨xb, wb, yb, vb, sb, b1, b2, b3, b4, b5, b6⟩ := vname_r hn t1 m1
    have t2 : St b f l (et wb J 3 xb) (yt vb 9 m yb) sb := (b5.cl (et_o _ _ _ _ (by decide))).y m yb (by decide)
    obtain ⟨xc, yc, wc, vc, sc, c1, c2, c3, c4, c5, c6⟩ := num_pair hn t2 (lo := 0) (hi := 9999) (by decide) (by decide)
    have t3 : St b f l (et wc J 4 xc) (yt vc 10 m yc) sc := (c5.cl (et_o _ _ _ _ (by decide))).y m yc (by decide)
    obtain ⟨xd, yd, wd, vd, sd, d1, d2, d3, d4, d5, d6⟩ := num_pair hn t3 (lo := 0) (hi := 9999) (by decide) (by decide)
    have t4 : St b f l (et wd J 5 xd) (yt vd 11 m yd) sd := (d5.cl (et_o _ _ _ _ (by decide))).y m yd (by decide)
    have c1' : FX9_takeNumber (et wb J 3 xb) 0 9999 = some (xc, wc) := c1
    have c2' : FX13_more n (yt vb 9 m yb) 0 9999 = some (yc, vc) := c2
    have d1' : FX9_takeNumber (et wc J 4 xc) 0 9999 = some (xd, wd) := d1
    have d2' : FX13_more n (yt vc 10 m yc) 0 9999 = some (yd, vd) := d2
    refine ⟨et wd J 5 xd, yt vd 11 m yd, sd, ?_, ?_, ?_, ?_, t4, fun j hj => ?_⟩
    · unfold FX7_readChange
      rw [h0, nI_c (a := 0 + 4) (by decide), gd_t (by decide), if_pos (show 0 + 4 = 4 from rfl), a1, bo2_s, show sW wa 12 (sI (wa 12) J 2 xa) = et wa J 2 xa from rfl, bnd_s]
      unfold FX7_readChange_B23
      rw [if_pos (show 0 + 4 = 4 from rfl)]
      unfold FX7_readChange_B47
      rw [b1, bo2_s, show sW wb 12 (sI (wb 12) J 3 xb) = et wb J 3 xb from rfl, bnd_s]
      unfold FX7_readChange_B56
      rw [c1', bo2_s, show sW wc 12 (sI (wc 12) J 4 xc) = et wc J 4 xc from rfl, bnd_s, if_pos (show 0 + 4 = 4 from rfl), d1', bo2_s, show sW wd 12 (sI (wd 12) J 5 xd) = et wd J 5 xd from rfl, bnd_s]
    · unfold FX13_readsRest
      simp only [gd_t hin]
      rw [bnd_s, if_pos (show nI 0 = (0 : Int32) from rfl), hmc, a2, bo2_s, show sW va 15 (sI (va 15) 8 m ya) = yt va 8 m ya from rfl, bnd_s, b2, bo2_s, show sW vb 15 (sI (vb 15) 9 m yb) = yt vb 9 m yb from rfl, bnd_s, c2', bo2_s, show sW vc 15 (sI (vc 15) 10 m yc) = yt vc 10 m yc from rfl, bnd_s, d2', bo2_s, show sW vd 15 (sI (vd 15) 11 m yd) = yt vd 11 m yd from rfl, bnd_s]
    · exact (((((((a3.ef J).trans (EF.et J _ _ (by decide))).trans (b3.ef J)).trans (EF.et J _ _ (by decide))).trans (c3.ef J)).trans (EF.et J _ _ (by decide))).trans (d3.ef J)).trans (EF.et J _ _ (by decide))
    · exact (((((((a4.vm m).trans (VFm.yt m _ _ (by decide) (by decide))).trans (b4.vm m)).trans (VFm.yt m _ _ (by decide) (by decide))).trans (c4.vm m)).trans (VFm.yt m _ _ (by decide) (by decide))).trans (d4.vm m)).trans (VFm.yt m _ _ (by decide) (by decide))
    · obtain ⟨ic, qd, ice, je, icl, -, -, xde, yde⟩ := d6 j hj
      obtain ⟨ib, qc, ibe, ice2, ibl, -, -, xce, yce⟩ := c6 ic ice
      obtain ⟨ia, va', iae, ibe2, ial, vlt, xbe, ybe⟩ := b6 ib ibe
      obtain ⟨i, cu, ie, iae2, il, clt, xae, yae⟩ := a6 ia iae
      have w12 : ∀ k, (et wd J 5 xd 12).1 J k = if k = 5 then xd else if k = 4 then xc else if k = 3 then xb else if k = 2 then xa else (W 12).1 J k := fun k => by
        rw [et_at, d3 12 (by decide), et_at, c3 12 (by decide), et_at, b3 12 (by decide), et_at, a3 12 (by decide)]
      have v8 : (yt vd 11 m yd 15).1 8 m = ya := by rw [yt_j _ _ _ _ (by decide), d4.2.1 8 (by decide), yt_j _ _ _ _ (by decide), c4.2.1 8 (by decide), yt_j _ _ _ _ (by decide), b4.2.1 8 (by decide), yt_at, if_pos rfl]
      have v9 : (yt vd 11 m yd 15).1 9 m = yb := by rw [yt_j _ _ _ _ (by decide), d4.2.1 9 (by decide), yt_j _ _ _ _ (by decide), c4.2.1 9 (by decide), yt_at, if_pos rfl]
      have v10 : (yt vd 11 m yd 15).1 10 m = yc := by rw [yt_j _ _ _ _ (by decide), d4.2.1 10 (by decide), yt_at, if_pos rfl]
      have v11 : (yt vd 11 m yd 15).1 11 m = yd := by rw [yt_at, if_pos rfl]
      refine ⟨⟨i, ie, by omega⟩, fun _ => ⟨cu, va', clt, vlt, ?_, ?_, ?_, ?_, ?_, ?_⟩, fun y => absurd y (by omega), fun y => absurd y (by omega)⟩
      · rw [w12, if_neg (by decide), if_neg (by decide), if_neg (by decide), if_pos rfl, xae]
      · rw [w12, if_neg (by decide), if_neg (by decide), if_pos rfl, xbe]
      · rw [v8, yae]
      · rw [v9, ybe]
      · rw [w12, if_neg (by decide), if_pos rfl, v10, xce, yce]
      · rw [w12, if_pos rfl, v11, xde, yde]
  · subst z
    obtain ⟨xb, wb, yb, vb, sb, b1, b2, b3, b4, b5, b6⟩ := vname_r hn h hm
    have t2 : St b f l (et wb J 3 xb) (yt vb 8 m yb) sb := (b5.cl (et_o _ _ _ _ (by decide))).y m yb (by decide)
    obtain ⟨xc, yc, wc, vc, sc, c1, c2, c3, c4, c5, c6⟩ := num_pair hn t2 (lo := 0) (hi := 9999) (by decide) (by decide)
    have t3 : St b f l (et wc J 4 xc) (yt vc 9 m yc) sc := (c5.cl (et_o _ _ _ _ (by decide))).y m yc (by decide)
    have c1' : FX9_takeNumber (et wb J 3 xb) 0 9999 = some (xc, wc) := c1
    have c2' : FX13_more n (yt vb 8 m yb) 0 9999 = some (yc, vc) := c2
    refine ⟨et wc J 4 xc, yt vc 9 m yc, sc, ?_, ?_, ?_, ?_, t3, fun j hj => ?_⟩
    · unfold FX7_readChange
      rw [h0, nI_c (a := 1 + 4) (by decide), gd_t (by decide), if_neg (show ¬ 1 + 4 = 4 by decide)]
      unfold FX7_readChange_B23
      rw [if_neg (show ¬ 1 + 4 = 4 by decide), if_pos (show 1 + 4 = 5 from rfl)]
      unfold FX7_readChange_B47
      rw [b1, bo2_s, show sW wb 12 (sI (wb 12) J 3 xb) = et wb J 3 xb from rfl, bnd_s]
      unfold FX7_readChange_B56
      rw [c1', bo2_s, show sW wc 12 (sI (wc 12) J 4 xc) = et wc J 4 xc from rfl, bnd_s, if_neg (show ¬ 1 + 4 = 4 by decide)]
    · unfold FX13_readsRest
      simp only [gd_t hin]
      rw [bnd_s, if_neg (show ¬ nI 1 = (0 : Int32) by decide), if_pos (show nI 1 = (1 : Int32) from rfl), hmc, b2, bo2_s, show sW vb 15 (sI (vb 15) 8 m yb) = yt vb 8 m yb from rfl, bnd_s, c2', bo2_s, show sW vc 15 (sI (vc 15) 9 m yc) = yt vc 9 m yc from rfl, bnd_s]
    · exact (((b3.ef J).trans (EF.et J _ _ (by decide))).trans (c3.ef J)).trans (EF.et J _ _ (by decide))
    · exact (((b4.vm m).trans (VFm.yt m _ _ (by decide) (by decide))).trans (c4.vm m)).trans (VFm.yt m _ _ (by decide) (by decide))
    · obtain ⟨ib, qc, ibe, ice2, ibl, -, -, xce, yce⟩ := c6 j hj
      obtain ⟨i, va', ie, ibe2, il, vlt, xbe, ybe⟩ := b6 ib ibe
      have w12 : ∀ k, (et wc J 4 xc 12).1 J k = if k = 4 then xc else if k = 3 then xb else (W 12).1 J k := fun k => by
        rw [et_at, c3 12 (by decide), et_at, b3 12 (by decide)]
      have v8 : (yt vc 9 m yc 15).1 8 m = yb := by rw [yt_j _ _ _ _ (by decide), c4.2.1 8 (by decide), yt_at, if_pos rfl]
      have v9 : (yt vc 9 m yc 15).1 9 m = yc := by rw [yt_at, if_pos rfl]
      refine ⟨⟨i, ie, by omega⟩, fun y => absurd y (by omega), fun _ => ⟨va', vlt, ?_, ?_, ?_⟩, fun y => absurd y (by omega)⟩
      · rw [w12, if_neg (by decide), if_pos rfl, xbe]
      · rw [v8, ybe]
      · rw [w12, if_pos rfl, v9, xce, yce]
  · subst z
    obtain ⟨xb, wb, yb, vb, sb, b1, b2, b3, b4, b5, b6⟩ := vname_r hn h hm
    have t2 : St b f l (et wb J 3 xb) (yt vb 8 m yb) sb := (b5.cl (et_o _ _ _ _ (by decide))).y m yb (by decide)
    obtain ⟨xc, yc, wc, vc, sc, c1, c2, c3, c4, c5, c6⟩ := num_pair hn t2 (lo := 0) (hi := 9999) (by decide) (by decide)
    have t3 : St b f l (et wc J 4 xc) (yt vc 9 m yc) sc := (c5.cl (et_o _ _ _ _ (by decide))).y m yc (by decide)
    have c1' : FX9_takeNumber (et wb J 3 xb) 0 9999 = some (xc, wc) := c1
    have c2' : FX13_more n (yt vb 8 m yb) 0 9999 = some (yc, vc) := c2
    refine ⟨et wc J 4 xc, yt vc 9 m yc, sc, ?_, ?_, ?_, ?_, t3, fun j hj => ?_⟩
    · unfold FX7_readChange
      rw [h0, nI_c (a := 2 + 4) (by decide), gd_t (by decide), if_neg (show ¬ 2 + 4 = 4 by decide)]
      unfold FX7_readChange_B23
      rw [if_neg (show ¬ 2 + 4 = 4 by decide), if_neg (show ¬ 2 + 4 = 5 by decide), if_pos (show 2 + 4 = 6 from rfl)]
      unfold FX7_readChange_B47
      rw [b1, bo2_s, show sW wb 12 (sI (wb 12) J 3 xb) = et wb J 3 xb from rfl, bnd_s]
      unfold FX7_readChange_B56
      rw [c1', bo2_s, show sW wc 12 (sI (wc 12) J 4 xc) = et wc J 4 xc from rfl, bnd_s, if_neg (show ¬ 2 + 4 = 4 by decide)]
    · unfold FX13_readsRest
      simp only [gd_t hin]
      rw [bnd_s, if_neg (show ¬ nI 2 = (0 : Int32) by decide), if_neg (show ¬ nI 2 = (1 : Int32) by decide), if_pos (show nI 2 = (2 : Int32) from rfl), hmc, b2, bo2_s, show sW vb 15 (sI (vb 15) 8 m yb) = yt vb 8 m yb from rfl, bnd_s, c2', bo2_s, show sW vc 15 (sI (vc 15) 9 m yc) = yt vc 9 m yc from rfl, bnd_s]
    · exact (((b3.ef J).trans (EF.et J _ _ (by decide))).trans (c3.ef J)).trans (EF.et J _ _ (by decide))
    · exact (((b4.vm m).trans (VFm.yt m _ _ (by decide) (by decide))).trans (c4.vm m)).trans (VFm.yt m _ _ (by decide) (by decide))
    · obtain ⟨ib, qc, ibe, ice2, ibl, -, -, xce, yce⟩ := c6 j hj
      obtain ⟨i, va', ie, ibe2, il, vlt, xbe, ybe⟩ := b6 ib ibe
      have w12 : ∀ k, (et wc J 4 xc 12).1 J k = if k = 4 then xc else if k = 3 then xb else (W 12).1 J k := fun k => by
        rw [et_at, c3 12 (by decide), et_at, b3 12 (by decide)]
      have v8 : (yt vc 9 m yc 15).1 8 m = yb := by rw [yt_j _ _ _ _ (by decide), c4.2.1 8 (by decide), yt_at, if_pos rfl]
      have v9 : (yt vc 9 m yc 15).1 9 m = yc := by rw [yt_at, if_pos rfl]
      refine ⟨⟨i, ie, by omega⟩, fun y => absurd y (by omega), fun _ => ⟨va', vlt, ?_, ?_, ?_⟩, fun y => absurd y (by omega)⟩
      · rw [w12, if_neg (by decide), if_pos rfl, xbe]
      · rw [v8, ybe]
      · rw [w12, if_pos rfl, v9, xce, yce]
  · obtain ⟨xc, yc, wc, vc, sc, c1, c2, c3, c4, c5, c6⟩ := num_pair hn h (lo := 0) (hi := 9999) (by decide) (by decide)
    have t3 : St b f l (et wc J 4 xc) (yt vc 8 m yc) sc := (c5.cl (et_o _ _ _ _ (by decide))).y m yc (by decide)
    have c1' : FX9_takeNumber W 0 9999 = some (xc, wc) := c1
    have c2' : FX13_more n V 0 9999 = some (yc, vc) := c2
    refine ⟨et wc J 4 xc, yt vc 8 m yc, sc, ?_, ?_, ?_, ?_, t3, fun j hj => ?_⟩
    · unfold FX7_readChange
      rw [h0, nI_c (a := q + 4) (by omega), gd_t (decide_eq_true (by omega)), if_neg (show ¬ q + 4 = 4 by omega)]
      unfold FX7_readChange_B23
      rw [if_neg (show ¬ q + 4 = 4 by omega), if_neg (show ¬ q + 4 = 5 by omega), if_neg (show ¬ q + 4 = 6 by omega)]
      unfold FX7_readChange_B56
      rw [c1', bo2_s, show sW wc 12 (sI (wc 12) J 4 xc) = et wc J 4 xc from rfl, bnd_s, if_neg (show ¬ q + 4 = 4 by omega)]
    · unfold FX13_readsRest
      simp only [gd_t hin]
      rw [bnd_s, hmc, c2', bo2_s, show sW vc 15 (sI (vc 15) 8 m yc) = yt vc 8 m yc from rfl, bnd_s]
      rcases (by omega : q = 3 ∨ q = 4 ∨ q = 5 ∨ q = 6) with y | y | y | y <;> subst y <;> rfl
    · exact (c3.ef J).trans (EF.et J _ _ (by decide))
    · exact (c4.vm m).trans (VFm.yt m _ _ (by decide) (by decide))
    · obtain ⟨i, qc, ie, ice2, ibl, -, -, xce, yce⟩ := c6 j hj
      refine ⟨⟨i, ie, by omega⟩, fun y => absurd y (by omega), fun y => absurd y (by omega), fun _ => ?_⟩
      rw [et_at, if_pos rfl, yt_at, if_pos rfl, xce, yce]
