set_option maxHeartbeats 400000
/-! undo; the world at the law's loop -/
theorem ob_59 {n : Nat} (hn : 2500 ≤ n) {w : Wd} (h : Good w) (a1 a2 a3 a4 a5 : Int32) : ∃ w9, FLc_59 n w a1 a2 a3 a4 a5 = some w9 ∧ Good w9 := by
  obtain ⟨fr, ct, hf, hc, h1, h2, h3, h4⟩ := h.h.cnt
  show ∃ w9, (bo2 (FL_undo n w) fun k w1 => bo2 (FX13_undo n w1) fun q w2 => chk k q w2) = some w9 ∧ Good w9
  unfold FL_undo FX13_undo
  by_cases z : ct = 0
  · subst z
    have hx : FX12_undo n w = some (.error ("java/lang/IllegalStateException", w)) := by
      unfold FX12_undo
      rw [h2, if_pos (show nI 0 ≤ (0 : Int32) by decide)]
      rfl
    rw [lw_x (k := 1) hx (if_pos rfl), bo2_s, h3, if_pos (show nI 0 ≤ (0 : Int32) by decide), goes_f, bnd2_s, if_neg (by decide), bo2_s]
    exact ⟨_, er_chk h (by decide)⟩
  · obtain ⟨c, rfl⟩ : ∃ c, ct = c + 1 := ⟨ct - 1, by omega⟩
    have hpos : ¬ nI (c + 1) ≤ (0 : Int32) := nI_nle (by omega) (by omega)
    obtain ⟨nv, nc, ns, bk, hm⟩ := h4 0 (by omega)
    rw [show 4 + (fr + 11 - 0) % 6 = 4 + (fr + 5) % 6 by omega] at hm
    obtain ⟨M2, e2, hE⟩ := copyFrom_ok (n := n) (by omega) (w 1) (w (4 + (fr + 5) % 6)) hm.v1 hm.c1 hm.s1 hm.bv hm.bc hm.bs
    have r1 : ((nI fr + 6) - 1) - ((nI fr + 6) - 1) / 6 * 6 = nI ((fr + 5) % 6) := by
      have : ∀ k : Fin 6, ((nI k.val + 6) - 1) - ((nI k.val + 6) - 1) / 6 * 6 = nI ((k.val + 5) % 6) := by decide +kernel
      exact this ⟨fr, hf⟩
    generalize hw2 : sW w 13 (sI (w 13) 0 1 (nI ((fr + 5) % 6))) = w2
    have b13 : w2 13 = sI (w 13) 0 1 (nI ((fr + 5) % 6)) := by rw [← hw2, sW_s]
    have bo : ∀ r, r ≠ 13 → w2 r = w r := fun r hr => by rw [← hw2, sW_o _ _ hr]
    have hx : FX12_undo n w = some (.ok (nI c, sW (sW w2 1 M2) 13 (sI (w2 13) 0 2 (nI c)))) := by
      have ha : (sW w2 1 M2 13).1 0 2 = nI (c + 1) := by rw [sW_o _ _ (by decide), b13, sI_at, if_neg (by decide)]; exact h2
      have ht : FX5_takeBack n w 1 = some (nI c, sW (sW w2 1 M2) 13 (sI (w2 13) 0 2 (nI c))) := by
        unfold FX5_takeBack
        rw [h2, if_neg hpos, h1, r1, hw2, bnd_s]
        have hb : (w2 13).1 0 1 = nI ((fr + 5) % 6) := by rw [b13, sI_at, if_pos rfl]
        rw [hb, gd_t (inI (by omega) (by decide)), nI_c (by omega), gd_t (decide_eq_true (by omega)), bo 1 (by decide), bo (4 + (fr + 5) % 6) (by omega), e2, bo1_s, bnd_s, ha, nI_pred, bnd_s]
        have e13 : sW w2 1 M2 13 = w2 13 := sW_o _ _ (by decide)
        rw [e13]
        have e9 : (sW (sW w2 1 M2) 13 (sI (w2 13) 0 2 (nI c)) 13).1 0 2 = nI c := by rw [sW_s, sI_at, if_pos rfl]
        rw [e9]
      unfold FX12_undo
      rw [h2, if_neg hpos, dS_t, xo_s, ht, bo2_s]
    rw [lw_o hx, bo2_s]
    generalize hwA : ow (sW (sW w2 1 M2) 13 (sI (w2 13) 0 2 (nI c))) (nI c) = wA
    have hA : ∀ r, r ≠ 1 → r ≠ 13 → r ≠ 16 → wA r = w r := fun r a b d => by rw [← hwA, ow_o _ _ d, sW_o _ _ b, sW_o _ _ a, bo r b]
    have hA1 : wA 1 = M2 := by rw [← hwA, ow_o _ _ (by decide), sW_o _ _ (by decide), sW_s]
    have hA13 : wA 13 = sI (w2 13) 0 2 (nI c) := by rw [← hwA, ow_o _ _ (by decide), sW_s]
    have hA16 : (wA 16).2 0 0 = (nI c).toInt64 := by rw [← hwA]; exact ow_v _ _
    have hA15 : wA 15 = w 15 := hA 15 (by decide) (by decide) (by decide)
    have c15 : cd wA 0 15 = sI (w 15) 0 0 0 := by rw [← hA15]; exact sW_s _ _ _
    have d18 : (cd wA 0 15).1 0 18 = nI (c + 1) := by rw [c15, sI_at, if_neg (by decide)]; exact h3
    rw [hA15, h3, if_neg hpos, goes_t, bnd2_s, if_pos rfl, d18, nI_pred, bnd_s]
    generalize hw7 : sW (cd wA 0) 15 (sI (cd wA 0 15) 0 18 (nI c)) = w7
    have s15 : w7 15 = sI (cd wA 0 15) 0 18 (nI c) := by rw [← hw7, sW_s]
    have so : ∀ r, r ≠ 15 → w7 r = wA r := fun r hr => by rw [← hw7, sW_o _ _ hr, cd_o _ _ hr]
    have s18 : (w7 15).1 0 18 = nI c := by rw [s15, sI_at, if_pos rfl]
    have sj : ∀ j, j ≠ 0 → (w7 15).1 j = (w 15).1 j := fun j hj => by rw [s15, sI_o _ _ _ hj, c15, sI_o _ _ _ hj]
    have sk : ∀ k, k ≠ 0 → k ≠ 18 → (w7 15).1 0 k = (w 15).1 0 k := fun k a b => by rw [s15, sI_at, if_neg b, c15, sI_at, if_neg a]
    have s00 : (w7 15).1 0 0 = 0 := by rw [s15, sI_at, if_neg (by decide), c15, sI_at, if_pos rfl]
    obtain ⟨w9, e9, p1, p2, p3⟩ := back_ok (n := n) (by omega) w7 (j0 := 6) (a := 390 * c) (by decide) (show 390 * c + 390 ≤ 2340 by omega) (by decide) 0
    rw [s18, show (390 : Int32) * nI c = nI (390 * c) from pk_mul 390 c, e9, bo1_s, bo2_s, p2 0 (by decide), s18]
    have q1 : ∀ r, r ≠ 15 → r ≠ 1 → r ≠ 13 → r ≠ 16 → w9 r = w r := fun r a b d f => by rw [p1 r a, so r a, hA r b d f]
    have t00 : FX13_thrown w9 = 0 := by
      show (w9 15).1 0 0 = 0
      rw [p2 0 (by decide), s00]
    refine ⟨w9, chk_0 t00 (by rw [p1 16 (by decide), so 16 (by decide), hA16]), ?_⟩
    have g0 : ∀ k, k ≠ 0 → k ≠ 18 → (w9 15).1 0 k = (w 15).1 0 k := fun k a b => by rw [p2 0 (by decide), sk k a b]
    have gj : ∀ j, j ≠ 0 → j ≠ 2 → (w9 15).1 j = (w 15).1 j := fun j a b => by rw [p2 j b, sj j a]
    refine Good.mk ?_ (RelT.mk ?_ ?_ ?_) (RelH.mk ?_ ?_) (h.o.keep (q1 14 (by decide) (by decide) (by decide) (by decide)) (gj 14 (by decide) (by decide)) (g0 33 (by decide) (by decide)))
    · rw [p1 1 (by decide), so 1 (by decide), hA1]
      refine ⟨nv, nc, ns, bk, hm.congr hE (fun k hk => ?_)⟩
      show (w9 15).1 2 k = (w 15).1 6 (390 * (c + 1 - 1 - 0) + k)
      rw [p3 k hk, sj 6 (by decide), show 390 * (c + 1 - 1 - 0) + k = 390 * c + k by omega]
    · rw [q1 10 (by decide) (by decide) (by decide) (by decide), g0 2 (by decide) (by decide), gj 1 (by decide) (by decide)]; exact h.t.len
    · rw [q1 10 (by decide) (by decide) (by decide) (by decide), g0 10 (by decide) (by decide)]; exact h.t.code
    · rw [q1 10 (by decide) (by decide) (by decide) (by decide), g0 11 (by decide) (by decide)]; exact h.t.offs
    · refine ⟨(fr + 5) % 6, c, by omega, by omega, ?_, ?_, ?_, fun j hj => ?_⟩
      · rw [p1 13 (by decide), so 13 (by decide), hA13, sI_at, if_neg (by decide), b13, sI_at, if_pos rfl]
      · rw [p1 13 (by decide), so 13 (by decide), hA13, sI_at, if_pos rfl]
      · rw [p2 0 (by decide), s18]
      · have hh := h4 (j + 1) (by omega)
        rw [show 4 + (fr + 11 - (j + 1)) % 6 = 4 + ((fr + 5) % 6 + 11 - j) % 6 by omega] at hh
        rw [q1 _ (by omega) (by omega) (by omega) (by omega), gj 6 (by decide) (by decide)]
        refine RM.rows hh (fun k hk => ?_)
        show (w 15).1 6 (390 * (c - 1 - j) + k) = (w 15).1 6 (390 * (c + 1 - 1 - (j + 1)) + k)
        rw [show 390 * (c + 1 - 1 - (j + 1)) + k = 390 * (c - 1 - j) + k by omega]
    · rw [q1 0 (by decide) (by decide) (by decide) (by decide), q1 3 (by decide) (by decide) (by decide) (by decide), g0 19 (by decide) (by decide), gj 3 (by decide) (by decide)]
      exact h.h.sav
