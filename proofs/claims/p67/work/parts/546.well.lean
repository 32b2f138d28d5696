set_option maxHeartbeats 400000
/-! one change from its start to its end -/
def PreF (wA w9 : Wd) : Prop := (∀ r, r ≠ 15 → w9 r = wA r) ∧ (w9 15).2 = (wA 15).2 ∧ (∀ j, j ≠ 0 → j ≠ 4 → (w9 15).1 j = (wA 15).1 j) ∧ (∀ k, k ≠ 0 → (w9 15).1 0 k = (wA 15).1 0 k) ∧ (w9 15).1 0 0 = 0 ∧ ∀ k, k < 390 → (w9 15).1 4 k = row wA k
theorem pre_ok {n : Nat} (hn : 500 ≤ n) (wA : Wd) : ∃ w9, FX13_laysAside n (cd wA 0) = some w9 ∧ PreF wA w9 := by
  have hcp := copiesRow_ok (n := n) hn (cd wA 0) (j0 := 2) (a := 0) (j2 := 4) (b := 0) (by decide) (by decide) (by decide) (by decide) (by decide)
  have e : FX13_laysAside n (cd wA 0) = some (cpW (cd wA 0) 2 0 4 0 390) := by
    unfold FX13_laysAside
    rw [show (0 : Int32) = nI 0 from rfl] at hcp ⊢
    rw [hcp, bo1_s]
  have c15 : cd wA 0 15 = sI (wA 15) 0 0 0 := sW_s _ _ _
  refine ⟨_, e, fun r hr => ?_, ?_, fun j h0 h4 => ?_, fun k hk => ?_, ?_, fun k hk => ?_⟩
  · rw [cpW_o _ _ _ _ _ _ hr, cd_o _ _ hr]
  · rw [cpW_2, c15, sI_2]
  · rw [cpW_j _ _ _ _ _ _ h4, c15, sI_o _ _ _ h0]
  · rw [cpW_j _ _ _ _ _ _ (j := 0) (by decide), c15, sI_at, if_neg hk]
  · rw [cpW_j _ _ _ _ _ _ (j := 0) (by decide), c15, sI_at, if_pos rfl]
  · have hin := cpW_in (cd wA 0) 2 0 4 0 hk
    rw [Nat.zero_add] at hin
    rw [hin, c15, sI_o _ _ _ (show (2 : Nat) ≠ 0 by decide)]
def RemF (w w6 : Wd) (fr ct nv nc ns : Nat) : Prop := (∀ r, r ≠ 13 → r ≠ 4 + fr → w6 r = w r) ∧ EqM (w 1) (w6 (4 + fr)) nv nc ns ∧ (w6 13).1 0 1 = nI ((fr + 1) % 6) ∧ (w6 13).1 0 2 = nI (min (ct + 1) 6)
theorem change_run {n : Nat} (hn : 2500 ≤ n) {w w6 wA w9 wB : Wd} (h : Good w) {fr ct nv nc ns : Nat} {bk : Nat → Nat} (hf : fr < 6) (hc : ct ≤ 6) (u18 : (w 15).1 0 18 = nI ct)
    (hrows : ∀ j, j < ct → RM (w (4 + (fr + 11 - j) % 6)) (fun k => (w 15).1 6 (390 * (ct - 1 - j) + k))) (hm : RelM (w 1) (row w) nv nc ns bk) (h6 : RemF w w6 fr ct nv nc ns)
    (hA : ∀ r, r ≠ 1 → r ≠ 16 → wA r = w6 r) (h9 : PreF wA w9) (hB : ∀ r, r ≠ 15 → wB r = w9 r) (hBj : ∀ j, j ≠ 0 → j ≠ 2 → (wB 15).1 j = (w9 15).1 j) (hBk : ∀ k, k ≠ 20 → k ≠ 31 → (wB 15).1 0 k = (w9 15).1 0 k) (hM : RM (wA 1) (row wB)) :
    ∃ wF, FX13_keeps n wB = some wF ∧ Good wF ∧ FX13_thrown wF = 0 ∧ wF 16 = wA 16 := by
  obtain ⟨p1, p2, p3, p4, p5, p6⟩ := h9
  obtain ⟨q1, q2, q3, q4⟩ := h6
  have f15 : wA 15 = w 15 := by rw [hA 15 (by decide) (by decide), q1 15 (by decide) (by omega)]
  have fr1 : ∀ r, r ≠ 15 → r ≠ 1 → r ≠ 16 → r ≠ 13 → r ≠ 4 + fr → wB r = w r := fun r a b c d e => by rw [hB r a, p1 r a, hA r b c, q1 r d e]
  have k1 : ∀ k, k ≠ 0 → k ≠ 20 → k ≠ 31 → (wB 15).1 0 k = (w 15).1 0 k := fun k a b c => by rw [hBk k b c, p4 k a, f15]
  have j1 : ∀ j, j ≠ 0 → j ≠ 2 → j ≠ 4 → (wB 15).1 j = (w 15).1 j := fun j a b c => by rw [hBj j a b, p3 j a c, f15]
  obtain ⟨wF, e, hG, ht, hr⟩ := change_good hn (wB := wB) hf hc hrows hm
    (by rw [hB 13 (by decide), p1 13 (by decide), hA 13 (by decide) (by decide)]; exact q3)
    (by rw [hB 13 (by decide), p1 13 (by decide), hA 13 (by decide) (by decide)]; exact q4)
    (by rw [hB (4 + fr) (by omega), p1 (4 + fr) (by omega), hA (4 + fr) (by omega) (by omega)]; exact q2)
    (fun g hg hne => fr1 (4 + g) (by omega) (by omega) (by omega) (by omega) (by omega))
    (by rw [k1 18 (by decide) (by decide) (by decide)]; exact u18)
    (j1 6 (by decide) (by decide) (by decide))
    (fun k hk => by
      rw [hBj 4 (by decide) (by decide), p6 k hk]
      show (wA 15).1 2 k = (w 15).1 2 k
      rw [f15])
    (by
      rw [fr1 0 (by decide) (by decide) (by decide) (by decide) (by omega), fr1 3 (by decide) (by decide) (by decide) (by decide) (by omega), k1 19 (by decide) (by decide) (by decide), j1 3 (by decide) (by decide) (by decide)]
      exact h.h.sav)
    (by
      refine RelT.mk ?_ ?_ ?_
      · rw [fr1 10 (by decide) (by decide) (by decide) (by decide) (by omega), k1 2 (by decide) (by decide) (by decide), j1 1 (by decide) (by decide) (by decide)]; exact h.t.len
      · rw [fr1 10 (by decide) (by decide) (by decide) (by decide) (by omega), k1 10 (by decide) (by decide) (by decide)]; exact h.t.code
      · rw [fr1 10 (by decide) (by decide) (by decide) (by decide) (by omega), k1 11 (by decide) (by decide) (by decide)]; exact h.t.offs)
    (h.o.keep (fr1 14 (by decide) (by decide) (by decide) (by decide) (by omega)) (j1 14 (by decide) (by decide) (by decide)) (k1 33 (by decide) (by decide) (by decide)))
    (by rw [hB 1 (by decide), p1 1 (by decide)]; exact hM)
  refine ⟨wF, e, hG, ?_, ?_⟩
  · show (wF 15).1 0 0 = 0
    rw [ht, hBk 0 (by decide) (by decide), p5]
  · rw [hr 16 (by decide), hB 16 (by decide), p1 16 (by decide)]
theorem lw_o {K : String → Option Int32} {v : Int32} {w2 : Wd} {r : Option (Except (String × Wd) (Int32 × Wd))} (h : r = some (.ok (v, w2))) : lwW K r = some (0, ow w2 v) := by rw [h]; rfl
theorem lw_x {K : String → Option Int32} {w2 : Wd} {E : String} {k : Int32} {r : Option (Except (String × Wd) (Int32 × Wd))} (h : r = some (.error (E, w2))) (hk : K E = some k) : lwW K r = some (k, w2) := by
  rw [h]
  show (match K E with | some k => some (k, w2) | none => none) = some (k, w2)
  rw [hk]
theorem rDepth (p : Int32) : FX13_isDepth p = FX12_isWithin p 0 20 := by
  unfold FX13_isDepth
  rw [bnd_s, i64_0, show (20 : Int64) = (20 : Int32).toInt64 by decide, isIn_w]
theorem ob_57 {n : Nat} (hn : 2500 ≤ n) {w : Wd} (h : Good w) (a1 a2 a3 a4 a5 : Int32) : ∃ w9, FLc_57 n w a1 a2 a3 a4 a5 = some w9 ∧ Good w9 := by
  obtain ⟨nv, nc, ns, bk, hm⟩ := h.m
  obtain ⟨fr, ct, hf, hc, h1, h2, h3, h4⟩ := h.h.cnt
  show ∃ w9, (bo2 (FL_setWell n w a1) fun k w1 => bo2 (FX13_setWell n w1 a1) fun q w2 => chk k q w2) = some w9 ∧ Good w9
  unfold FL_setWell FX13_setWell
  cases hd : FX12_isWithin a1 0 20 with
  | false =>
    have hx : FX12_setWell n w a1 = some (.error ("java/lang/IllegalArgumentException", w)) := by
      unfold FX12_setWell FX6_faultOfDepth
      rw [bnd_s, hd, bnd_s, if_neg (by decide)]
      rfl
    rw [lw_x (k := 1) hx (if_pos rfl), bo2_s, rDepth, hd, bnd_s, goes_f, bnd2_s, if_neg (by decide), bo2_s]
    exact ⟨_, er_chk h (by decide)⟩
  | true =>
    obtain ⟨w6, e6, r6⟩ := remember_ok (n := n) (by omega) w hf hc h1 h2 hm.v1 hm.c1 hm.s1 hm.bv hm.bc hm.bs
    have e61 : w6 1 = w 1 := r6.1 1 (by decide) (by omega)
    have hx : FX12_setWell n w a1 = some (.ok ((w 1).1 0 7, sW w6 1 (sI (w 1) 0 7 a1))) := by
      unfold FX12_setWell FX6_faultOfDepth FX6_changeDepth
      rw [bnd_s, hd, bnd_s, if_pos rfl]
      show (bo1 (FX5_remember n w 1) fun w6 => _) = _
      rw [e6, bo1_s, e61]
      rfl
    rw [lw_o hx, bo2_s, rDepth, hd, bnd_s, goes_t, bnd2_s, if_pos rfl]
    generalize hwA : ow (sW w6 1 (sI (w 1) 0 7 a1)) ((w 1).1 0 7) = wA
    have hA : ∀ r, r ≠ 1 → r ≠ 16 → wA r = w6 r := fun r a b => by rw [← hwA, ow_o _ _ b, sW_o _ _ a]
    have hA1 : wA 1 = sI (w 1) 0 7 a1 := by rw [← hwA, ow_o _ _ (by decide), sW_s]
    have hA16 : (wA 16).2 0 0 = ((w 1).1 0 7).toInt64 := by rw [← hwA]; exact ow_v _ _
    have hA15 : wA 15 = w 15 := by rw [hA 15 (by decide) (by decide), r6.1 15 (by decide) (by omega)]
    obtain ⟨w9, e9, h9⟩ := pre_ok (n := n) (by omega) wA
    have hr9 : (w9 15).1 2 = row w := by rw [h9.2.2.1 2 (by decide) (by decide), hA15]
    rw [e9, bo1_s]
    have es : FX13_sets w9 6 a1 = some (row w 6, sW w9 15 (sI (w9 15) 2 6 a1)) := by
      unfold FX13_sets
      rw [gd6, gd6, bnd_s, show (6 : Int32).toNatClampNeg = 6 from rfl, hr9]
    rw [es, bo2_s]
    have hB15 : sW w9 15 (sI (w9 15) 2 6 a1) 15 = sI (w9 15) 2 6 a1 := sW_s _ _ _
    obtain ⟨h01, h02⟩ := wi_iff.mp hd
    obtain ⟨d, hd1, rfl⟩ := nI_of h01
    have hd2 : d ≤ 20 := by
      have := mt (nI_ltI (a := 20) (b := d) (by decide) hd1).mpr h02
      omega
    have hrow : ∀ k, row (sW w9 15 (sI (w9 15) 2 6 (nI d))) k = if k = 6 then nI d else row w k := fun k => by
      show (sW w9 15 (sI (w9 15) 2 6 (nI d)) 15).1 2 k = _
      rw [hB15, sI_at, hr9]
    obtain ⟨wF, eF, hG, ht, h16⟩ := change_run hn h (wB := sW w9 15 (sI (w9 15) 2 6 (nI d))) hf hc h3 h4 hm r6 hA h9 (fun r hr => sW_o _ _ hr) (fun j hj0 hj2 => by rw [hB15]; exact sI_o _ _ _ hj2) (fun k _ _ => by rw [hB15, sI_o _ _ _ (show (0 : Nat) ≠ 2 by decide)]) (by
      rw [hA1]
      refine ⟨nv, nc, ns, bk, hm.sets (fun k _ _ hk => by rw [sI_at, if_neg hk]) (fun v hv => ⟨fun k _ _ _ _ => congrFun (sI_o _ _ _ (by omega)) k, rfl⟩) (fun c hc => ⟨fun k _ _ => congrFun (sI_o _ _ _ (by omega)) k, rfl⟩) (fun i hi k _ => congrFun (sI_o _ _ _ (by omega)) k) (fun k _ hk _ => by rw [hrow, if_neg hk]) (by rw [hrow, if_pos rfl, sI_at, if_pos rfl]) ⟨d, hd2, by rw [hrow, if_pos rfl]⟩ (fun v hv => ?_) (fun v hv => ?_)⟩
      · show (sI (w 1) 0 7 (nI d)).1 (4 + v) 3 = row _ (8 + 8 * v + 2) ∧ _
        rw [hrow, if_neg (by omega), sI_o _ _ _ (by omega)]
        refine ⟨(hm.vs v hv).e3, ?_⟩
        show ∃ a, 1 ≤ a ∧ a ≤ 99 ∧ row _ (8 + 8 * v + 2) = nI a
        rw [hrow, if_neg (by omega)]
        exact (hm.vs v hv).price
      · show (sI (w 1) 0 7 (nI d)).1 (4 + v) 4 = row _ (8 + 8 * v + 3) ∧ _
        rw [hrow, if_neg (by omega), sI_o _ _ _ (by omega)]
        refine ⟨(hm.vs v hv).e4, ?_⟩
        show ∃ a, a ≤ 9 ∧ row _ (8 + 8 * v + 3) = nI a
        rw [hrow, if_neg (by omega)]
        exact (hm.vs v hv).fog)
    unfold FX13_kept
    rw [eF, bo1_s, bo2_s, bo2_s]
    exact ⟨wF, chk_0 ht (by rw [h16, hA16, hm.depth]), hG⟩
