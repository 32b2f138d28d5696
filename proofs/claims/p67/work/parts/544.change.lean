set_option maxHeartbeats 400000
/-! an undoable change, as the history sees it: wB is the world behind the change, ahead of the reference's keeping -/
theorem RelT.keep {w w' : Wd} (h : RelT w) (h10 : w' 10 = w 10) (h1 : (w' 15).1 1 = (w 15).1 1) (hk : ∀ k, k ≠ 18 → (w' 15).1 0 k = (w 15).1 0 k) : RelT w' := by
  refine RelT.mk ?_ ?_ ?_
  · rw [h10, h1, hk 2 (by decide)]; exact h.len
  · rw [h10, hk 10 (by decide)]; exact h.code
  · rw [h10, hk 11 (by decide)]; exact h.offs
theorem RelO.keep {w w' : Wd} (h : RelO w) (h14 : w' 14 = w 14) (hj : (w' 15).1 14 = (w 15).1 14) (hk : (w' 15).1 0 33 = (w 15).1 0 33) : RelO w' := by
  refine RelO.mk ?_
  rw [h14, hj, hk]
  exact h.len
theorem change_good {n : Nat} (hn : 2500 ≤ n) {w wB : Wd} {fr ct nv nc ns : Nat} {bk : Nat → Nat} (hf : fr < 6) (hc : ct ≤ 6)
    (hrows : ∀ j, j < ct → RM (w (4 + (fr + 11 - j) % 6)) (fun k => (w 15).1 6 (390 * (ct - 1 - j) + k))) (hm : RelM (w 1) (row w) nv nc ns bk)
    (c13a : (wB 13).1 0 1 = nI ((fr + 1) % 6)) (c13b : (wB 13).1 0 2 = nI (min (ct + 1) 6)) (hcopy : EqM (w 1) (wB (4 + fr)) nv nc ns) (hoth : ∀ g, g < 6 → g ≠ fr → wB (4 + g) = w (4 + g))
    (u18 : (wB 15).1 0 18 = nI ct) (p6 : (wB 15).1 6 = (w 15).1 6) (a4 : ∀ k, k < 390 → (wB 15).1 4 k = row w k)
    (hsav : ((wB 0).1 0 8 = 0 ∧ (wB 15).1 0 19 = 0) ∨ ((wB 0).1 0 8 = 1 ∧ (wB 15).1 0 19 = 1 ∧ RM (wB 3) ((wB 15).1 3))) (hT : RelT wB) (hO : RelO wB) (hM : RM (wB 1) (row wB)) :
    ∃ wF, FX13_keeps n wB = some wF ∧ Good wF ∧ (wF 15).1 0 0 = (wB 15).1 0 0 ∧ ∀ r, r ≠ 15 → wF r = wB r := by
  obtain ⟨wF, ct', e, hct, k1, k2, k3, k4, k5, k6, k7⟩ := keeps_ok hn wB hc u18
  refine ⟨wF, e, ?_, k4 0 (by decide), k1⟩
  refine Good.mk ?_ (hT.keep (k1 10 (by decide)) (k3 1 (by decide) (by decide)) k4) (RelH.mk ?_ ?_) (hO.keep (k1 14 (by decide)) (k3 14 (by decide) (by decide)) (k4 33 (by decide)))
  · unfold row
    rw [k1 1 (by decide), k3 2 (by decide) (by decide)]
    exact hM
  · refine ⟨(fr + 1) % 6, ct', by omega, by omega, ?_, ?_, k5, fun j hj => ?_⟩
    · rw [k1 13 (by decide)]; exact c13a
    · rw [k1 13 (by decide), hct]; exact c13b
    · rw [k1 _ (by omega)]
      cases j with
      | zero =>
        rw [show 4 + ((fr + 1) % 6 + 11 - 0) % 6 = 4 + fr by omega]
        refine ⟨nv, nc, ns, bk, hm.congr hcopy (fun k hk => ?_)⟩
        show (wF 15).1 6 (390 * (ct' - 1 - 0) + k) = row w k
        rw [Nat.sub_zero, k6 k hk, a4 k hk]
      | succ j =>
        rw [show 4 + ((fr + 1) % 6 + 11 - (j + 1)) % 6 = 4 + (fr + 11 - j) % 6 by omega, hoth _ (by omega) (by omega)]
        refine RM.rows (hrows j (by omega)) (fun k hk => ?_)
        show (wF 15).1 6 (390 * (ct' - 1 - (j + 1)) + k) = (w 15).1 6 (390 * (ct - 1 - j) + k)
        rw [k7 j k (by omega) hk, p6]
  · rw [k1 0 (by decide), k4 19 (by decide), k1 3 (by decide), k3 3 (by decide) (by decide)]
    exact hsav
