set_option maxHeartbeats 400000
/-! FEED and TRUNCATE: the text, letter by letter, on the reference's side -/
theorem st_feed {n : Nat} (hn : 1000 ≤ n) {w : Wd} (h : Good w) {f : Nat} (hf2 : (w 15).1 0 2 = nI f) (hz : f + 20 ≤ 600) (a1 a2 a3 a4 a5 : Int32) : ∃ w' w9, FX12_feed n w a1 a2 a3 a4 a5 = some (.ok (nI (f + 20), w')) ∧ FLc_0 n w a1 a2 a3 a4 a5 = some w9 ∧ AG w9 w' ∧ Good w9 ∧ (w9 15).1 0 2 = nI (f + 20) ∧ row w9 = row w ∧ (∀ j, j < f → (w9 15).1 1 j = (w 15).1 1 j) ∧ (∀ q, q < 4 → (w9 15).1 1 (f + q) = nI (byt a1 q) ∧ (w9 15).1 1 (f + 4 + q) = nI (byt a2 q) ∧ (w9 15).1 1 (f + 4 + 4 + q) = nI (byt a3 q) ∧ (w9 15).1 1 (f + 4 + 4 + 4 + q) = nI (byt a4 q) ∧ (w9 15).1 1 (f + 4 + 4 + 4 + 4 + q) = nI (byt a5 q)) := by
  obtain ⟨f', hf', l1, l2, l3⟩ := h.t.len
  have ef : f' = f := (nI_eq (by omega) (by omega)).mp (l2.symm.trans hf2)
  rw [ef] at l1 l2 l3 hf'
  have hl : ¬ (600 : Int32) < nI f + 20 := by
    rw [show nI f + 20 = nI (f + 20) from nI_add f 20]
    show ¬ nI 600 < nI (f + 20)
    rw [nI_ltI (by omega) (by omega)]
    omega
  obtain ⟨w1, e1, p1⟩ := append_ok (n := n) (by omega) (f := f) (by omega) l1 a1
  obtain ⟨w2, e2, p2⟩ := append_ok (n := n) (by omega) (f := f + 4) (by omega) p1.2.1 a2
  obtain ⟨w3, e3, p3⟩ := append_ok (n := n) (by omega) (f := f + 4 + 4) (by omega) p2.2.1 a3
  obtain ⟨w4, e4, p4⟩ := append_ok (n := n) (by omega) (f := f + 4 + 4 + 4) (by omega) p3.2.1 a4
  obtain ⟨w5, e5, p5⟩ := append_ok (n := n) (by omega) (f := f + 4 + 4 + 4 + 4) (by omega) p4.2.1 a5
  have hx : FX12_feed n w a1 a2 a3 a4 a5 = some (.ok (nI (f + 20), w5)) := by
    unfold FX12_feed
    rw [l1, if_neg hl, dS_t, xo_s, e1, bo1_s, e2, bo1_s, e3, bo1_s, e4, bo1_s, e5, bo1_s, p5.2.1]
  have o5 : ∀ r, r ≠ 10 → w5 r = w r := fun r hr => by rw [p5.1 r hr, p4.1 r hr, p3.1 r hr, p2.1 r hr, p1.1 r hr]
  have k5 : ∀ k, k ≠ 6 → (w5 10).1 0 k = (w 10).1 0 k := fun k hk => by rw [p5.2.2.1 k hk, p4.2.2.1 k hk, p3.2.2.1 k hk, p2.2.2.1 k hk, p1.2.2.1 k hk]
  generalize hv : ow w5 (nI (f + 20)) = v
  have vo : ∀ r, r ≠ 16 → v r = w5 r := fun r hr => by rw [← hv]; exact ow_o _ _ hr
  have v15 : v 15 = w 15 := by rw [vo 15 (by decide), o5 15 (by decide)]
  have v16 : (v 16).2 0 0 = (nI (f + 20)).toInt64 := by rw [← hv]; exact ow_v _ _
  have c15 : cd v 0 15 = sI (w 15) 0 0 0 := by rw [← v15]; exact sW_s _ _ _
  have c2 : (cd v 0 15).1 0 2 = nI f := by rw [c15, sI_at, if_neg (by decide)]; exact l2
  obtain ⟨v1, d1, q1⟩ := four_ok (n := n) (by omega) (f := f) (by omega) c2 a1
  obtain ⟨v2, d2, q2⟩ := four_ok (n := n) (by omega) (f := f + 4) (by omega) q1.2.1 a2
  obtain ⟨v3, d3, q3⟩ := four_ok (n := n) (by omega) (f := f + 4 + 4) (by omega) q2.2.1 a3
  obtain ⟨v4, d4, q4⟩ := four_ok (n := n) (by omega) (f := f + 4 + 4 + 4) (by omega) q3.2.1 a4
  obtain ⟨v5, d5, q5⟩ := four_ok (n := n) (by omega) (f := f + 4 + 4 + 4 + 4) (by omega) q4.2.1 a5
  have t0 : TB (w 10) (cd v 0 15) f := fun j hj => by
    rw [c15, sI_o _ _ _ (show (1 : Nat) ≠ 0 by decide)]
    exact l3 j hj
  have t5 := ((((t0.step p1 q1).step p2 q2).step p3 q3).step p4 q4).step p5 q5
  have r5 : ∀ r, r ≠ 15 → v5 r = v r := fun r hr => by rw [q5.1 r hr, q4.1 r hr, q3.1 r hr, q2.1 r hr, q1.1 r hr, cd_o _ _ hr]
  have j5 : ∀ j, j ≠ 0 → j ≠ 1 → (v5 15).1 j = (w 15).1 j := fun j a b => by rw [q5.2.2.2.1 j a b, q4.2.2.2.1 j a b, q3.2.2.2.1 j a b, q2.2.2.2.1 j a b, q1.2.2.2.1 j a b, c15, sI_o _ _ _ a]
  have s5 : ∀ k, k ≠ 2 → (v5 15).1 0 k = (sI (w 15) 0 0 0).1 0 k := fun k hk => by rw [q5.2.2.1 k hk, q4.2.2.1 k hk, q3.2.2.1 k hk, q2.2.2.1 k hk, q1.2.2.1 k hk, c15]
  have s0 : ∀ k, k ≠ 2 → k ≠ 0 → (v5 15).1 0 k = (w 15).1 0 k := fun k a b => by rw [s5 k a, sI_at, if_neg b]
  have x10 : v5 10 = w5 10 := by rw [r5 10 (by decide), vo 10 (by decide)]
  have xo : ∀ r, r ≠ 15 → r ≠ 10 → r ≠ 16 → v5 r = w r := fun r a b c => by rw [r5 r a, vo r c, o5 r b]
  refine ⟨w5, v5, hx, ?_, fun r hr => by rw [r5 r (by omega), vo r (by omega)], ?_, q5.2.1, j5 2 (by decide) (by decide), fun j hj => ?_, fun q hq => ⟨?_, ?_, ?_, ?_, ?_⟩⟩
  · show (bo2 (FL_feed n w a1 a2 a3 a4 a5) fun k w1 => bo2 (FX13_feed n w1 a1 a2 a3 a4 a5) fun q w2 => chk k q w2) = some v5
    unfold FL_feed FX13_feed
    rw [lw_o hx, bo2_s, hv]
    rw [v15, l2, if_neg hl, goes_t, bnd2_s, if_pos rfl, d1, bo1_s, d2, bo1_s, d3, bo1_s, d4, bo1_s, d5, bo1_s, bo2_s, q5.2.1]
    refine chk_0 ?_ (by rw [r5 16 (by decide), v16])
    show (v5 15).1 0 0 = 0
    rw [s5 0 (by decide), sI_at, if_pos rfl]
  refine Good.mk ?_ (RelT.mk ⟨f + 20, hz, ?_, q5.2.1, ?_⟩ ?_ ?_) (RelH.mk ?_ ?_) (h.o.keep (xo 14 (by decide) (by decide) (by decide)) (j5 14 (by decide) (by decide)) (s0 33 (by decide) (by decide)))
  · unfold row
    rw [xo 1 (by decide) (by decide) (by decide), j5 2 (by decide) (by decide)]
    exact h.m
  · rw [x10]; exact p5.2.1
  · rw [x10]; exact t5
  · rw [x10, k5 7 (by decide), s0 10 (by decide) (by decide)]; exact h.t.code
  · rw [x10, k5 8 (by decide), s0 11 (by decide) (by decide)]; exact h.t.offs
  · obtain ⟨fr, ct, y1, y2, y3, y4, y5, y6⟩ := h.h.cnt
    refine ⟨fr, ct, y1, y2, ?_, ?_, ?_, fun j hj => ?_⟩
    · rw [xo 13 (by decide) (by decide) (by decide)]; exact y3
    · rw [xo 13 (by decide) (by decide) (by decide)]; exact y4
    · rw [s0 18 (by decide) (by decide)]; exact y5
    · rw [xo _ (by omega) (by omega) (by omega), j5 6 (by decide) (by decide)]; exact y6 j hj
  · rw [xo 0 (by decide) (by decide) (by decide), xo 3 (by decide) (by decide) (by decide), s0 19 (by decide) (by decide), j5 3 (by decide) (by decide)]
    exact h.h.sav
  · rw [q5.2.2.2.2.1 j (by omega), q4.2.2.2.2.1 j (by omega), q3.2.2.2.2.1 j (by omega), q2.2.2.2.2.1 j (by omega), q1.2.2.2.2.1 j (by omega), c15, sI_o _ _ _ (by decide)]
  · rw [q5.2.2.2.2.1 _ (by omega), q4.2.2.2.2.1 _ (by omega), q3.2.2.2.2.1 _ (by omega), q2.2.2.2.2.1 _ (by omega)]
    exact q1.2.2.2.2.2 q (by omega) hq
  · rw [q5.2.2.2.2.1 _ (by omega), q4.2.2.2.2.1 _ (by omega), q3.2.2.2.2.1 _ (by omega)]
    exact q2.2.2.2.2.2 q (by omega) hq
  · rw [q5.2.2.2.2.1 _ (by omega), q4.2.2.2.2.1 _ (by omega)]
    exact q3.2.2.2.2.2 q (by omega) hq
  · rw [q5.2.2.2.2.1 _ (by omega)]
    exact q4.2.2.2.2.2 q (by omega) hq
  · exact q5.2.2.2.2.2 q (by omega) hq
theorem st_trunc {n : Nat} {w : Wd} (h : Good w) {f d : Nat} (hf2 : (w 15).1 0 2 = nI f) (hd2 : d ≤ f) (hf9 : f ≤ 600) : ∃ w' w9, FX12_truncate w (nI d) = some (.ok (nI d, w')) ∧ FLc_1 n w (nI d) 0 0 0 0 = some w9 ∧ AG w9 w' ∧ Good w9 ∧ (w9 15).1 0 2 = nI d ∧ row w9 = row w ∧ (∀ j, (w9 15).1 1 j = (w 15).1 1 j) := by
  obtain ⟨f', hf', l1, l2, l3⟩ := h.t.len
  have ef : f' = f := (nI_eq (by omega) (by omega)).mp (l2.symm.trans hf2)
  rw [ef] at l1 l2 l3 hf'
  have hd1 : d < 2 ^ 31 := by omega
  have hd : FX12_isWithin (nI d) 0 (nI f) = true := wi_iff.mpr ⟨nI_pos (by omega), nI_nlt (a := f) (b := d) hd2 (by omega)⟩
  have hx : FX12_truncate w (nI d) = some (.ok ((nI d), sW w 10 (sI (w 10) 0 6 (nI d)))) := by
    unfold FX12_truncate
    rw [l1, bnd_s, hd, dA_t, xo_s, bnd_s]
  generalize hwA : ow (sW w 10 (sI (w 10) 0 6 (nI d))) (nI d) = wA
  have hA : ∀ r, r ≠ 10 → r ≠ 16 → wA r = w r := fun r a b => by rw [← hwA, ow_o _ _ b, sW_o _ _ a]
  have hA10 : wA 10 = sI (w 10) 0 6 (nI d) := by rw [← hwA, ow_o _ _ (by decide), sW_s]
  have hA16 : (wA 16).2 0 0 = (nI d).toInt64 := by rw [← hwA]; exact ow_v _ _
  have hA15 : wA 15 = w 15 := hA 15 (by decide) (by decide)
  have c15 : cd wA 0 15 = sI (w 15) 0 0 0 := by rw [← hA15]; exact sW_s _ _ _
  have hr : FX13_truncate wA (nI d) = ((nI d), sW (cd wA 0) 15 (sI (cd wA 0 15) 0 2 (nI d))) := by
    unfold FX13_truncate
    rw [hA15, l2, i64_0, isIn_w, hd, bnd_s, goes_t]
    rfl
  have g15 : sW (cd wA 0) 15 (sI (cd wA 0 15) 0 2 (nI d)) 15 = sI (cd wA 0 15) 0 2 (nI d) := sW_s _ _ _
  have g1 : ∀ r, r ≠ 15 → sW (cd wA 0) 15 (sI (cd wA 0 15) 0 2 (nI d)) r = wA r := fun r hr => by rw [sW_o _ _ hr, cd_o _ _ hr]
  generalize hwF : sW (cd wA 0) 15 (sI (cd wA 0 15) 0 2 (nI d)) = wF at g15 g1 hr
  have gj : ∀ j, j ≠ 0 → (wF 15).1 j = (w 15).1 j := fun j hj => by rw [g15, sI_o _ _ _ hj, c15, sI_o _ _ _ hj]
  have gk : ∀ k, k ≠ 0 → k ≠ 2 → (wF 15).1 0 k = (w 15).1 0 k := fun k a b => by rw [g15, sI_at, if_neg b, c15, sI_at, if_neg a]
  have g2 : (wF 15).1 0 2 = (nI d) := by rw [g15, sI_at, if_pos rfl]
  have g0 : (wF 15).1 0 0 = 0 := by rw [g15, sI_at, if_neg (by decide), c15, sI_at, if_pos rfl]
  have q1 : ∀ r, r ≠ 15 → r ≠ 10 → r ≠ 16 → wF r = w r := fun r a b c => by rw [g1 r a, hA r b c]
  refine ⟨sW w 10 (sI (w 10) 0 6 (nI d)), wF, hx, ?_, fun r hr => by rw [g1 r (by omega), ← hwA, ow_o _ _ (by omega)], ?_, g2, gj 2 (by decide), fun j => by rw [gj 1 (by decide)]⟩
  · show (bo2 (FL_truncate w (nI d)) fun k w1 => bnd2 (FX13_truncate w1 (nI d)) fun q w2 => chk k q w2) = some wF
    unfold FL_truncate
    rw [lw_o hx, bo2_s, hwA, hr, bnd2_s]
    exact chk_0 g0 (by rw [g1 16 (by decide), hA16])
  · refine Good.mk ?_ (RelT.mk ?_ ?_ ?_) (RelH.mk ?_ ?_) (h.o.keep (q1 14 (by decide) (by decide) (by decide)) (gj 14 (by decide)) (gk 33 (by decide) (by decide)))
    · unfold row
      rw [q1 1 (by decide) (by decide) (by decide), gj 2 (by decide)]
      exact h.m
    · refine ⟨d, by omega, ?_, g2, fun j hj => ?_⟩
      · rw [g1 10 (by decide), hA10, sI_at, if_pos rfl]
      · rw [gj 1 (by decide), g1 10 (by decide), hA10, sI_o _ _ _ (show (1 : Nat) ≠ 0 by decide)]
        exact l3 j (by omega)
    · rw [g1 10 (by decide), hA10, sI_at, if_neg (by decide), gk 10 (by decide) (by decide)]; exact h.t.code
    · rw [g1 10 (by decide), hA10, sI_at, if_neg (by decide), gk 11 (by decide) (by decide)]; exact h.t.offs
    · obtain ⟨fr, ct, y1, y2, y3, y4, y5, y6⟩ := h.h.cnt
      refine ⟨fr, ct, y1, y2, ?_, ?_, ?_, fun j hj => ?_⟩
      · rw [q1 13 (by decide) (by decide) (by decide)]; exact y3
      · rw [q1 13 (by decide) (by decide) (by decide)]; exact y4
      · rw [gk 18 (by decide) (by decide)]; exact y5
      · rw [q1 _ (by omega) (by omega) (by omega), gj 6 (by decide)]; exact y6 j hj
    · rw [q1 0 (by decide) (by decide) (by decide), q1 3 (by decide) (by decide) (by decide), gk 19 (by decide) (by decide), gj 3 (by decide)]
      exact h.h.sav
