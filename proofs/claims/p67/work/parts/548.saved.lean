set_option maxHeartbeats 400000
/-! the saved state; undo -/
theorem ob_62 {n : Nat} (hn : 2500 ≤ n) {w : Wd} (h : Good w) (a1 a2 a3 a4 a5 : Int32) : ∃ w9, FLc_62 n w a1 a2 a3 a4 a5 = some w9 ∧ Good w9 := by
  obtain ⟨nv, nc, ns, bk, hm⟩ := h.m
  obtain ⟨M2, e2, hE⟩ := copyFrom_ok (n := n) (by omega) (w 3) (w 1) hm.v1 hm.c1 hm.s1 hm.bv hm.bc hm.bs
  have hx : FX12_saveState n w = some ((w 1).1 0 6, sW (sW w 3 M2) 0 (sI (w 0) 0 8 1)) := by
    unfold FX12_saveState
    rw [e2, bo1_s, bnd_s, bnd_s]
    rfl
  generalize hwA : sW (sW w 3 M2) 0 (sI (w 0) 0 8 1) = wA at hx
  have hA : ∀ r, r ≠ 0 → r ≠ 3 → wA r = w r := fun r a b => by rw [← hwA, sW_o _ _ a, sW_o _ _ b]
  have hA3 : wA 3 = M2 := by rw [← hwA, sW_o _ _ (by decide), sW_s]
  have hA0 : (wA 0).1 0 8 = 1 := by rw [← hwA, sW_s, sI_at, if_pos rfl]
  have c15 : cd wA 0 15 = sI (w 15) 0 0 0 := by rw [← hA 15 (by decide) (by decide)]; exact sW_s _ _ _
  have hcp := copiesRow_ok (n := n) (by omega) (cd wA 0) (j0 := 2) (a := 0) (j2 := 3) (b := 0) (by decide) (by decide) (by decide) (by decide) (by decide)
  generalize hw9 : cpW (cd wA 0) 2 0 3 0 390 = w9 at hcp
  have p1 : ∀ r, r ≠ 15 → w9 r = wA r := fun r hr => by rw [← hw9, cpW_o _ _ _ _ _ _ hr, cd_o _ _ hr]
  have p3 : ∀ j, j ≠ 0 → j ≠ 3 → (w9 15).1 j = (w 15).1 j := fun j a b => by rw [← hw9, cpW_j _ _ _ _ _ _ b, c15, sI_o _ _ _ a]
  have p4 : ∀ k, k ≠ 0 → (w9 15).1 0 k = (w 15).1 0 k := fun k hk => by rw [← hw9, cpW_j _ _ _ _ _ _ (j := 0) (by decide), c15, sI_at, if_neg hk]
  have p6 : ∀ k, k < 390 → (w9 15).1 3 k = row w k := fun k hk => by
    have hin := cpW_in (cd wA 0) 2 0 3 0 hk
    rw [Nat.zero_add, hw9] at hin
    rw [hin, c15, sI_o _ _ _ (show (2 : Nat) ≠ 0 by decide)]
  have hr : FX13_saveState n wA = some (row w 3, sW w9 15 (sI (w9 15) 0 19 1)) := by
    unfold FX13_saveState
    rw [bnd_s, show sW wA 15 (sI (wA 15) 0 0 0) = cd wA 0 from rfl]
    have hcp2 : FX13_copiesRow n (cd wA 0) 2 0 3 0 = some w9 := hcp
    rw [hcp2, bo1_s, bnd_s, gd3]
    have e9 : (sW w9 15 (sI (w9 15) 0 19 (bI true)) 15).1 2 3 = row w 3 := by
      rw [sW_s, sI_o _ _ _ (show (2 : Nat) ≠ 0 by decide), p3 2 (by decide) (by decide)]
    rw [e9]
    rfl
  have f1 : ∀ r, r ≠ 15 → sW w9 15 (sI (w9 15) 0 19 1) r = wA r := fun r hr => by rw [sW_o _ _ hr, p1 r hr]
  have f3 : ∀ j, j ≠ 0 → (sW w9 15 (sI (w9 15) 0 19 1) 15).1 j = (w9 15).1 j := fun j hj => by rw [sW_s, sI_o _ _ _ hj]
  have f4 : ∀ k, k ≠ 0 → k ≠ 19 → (sW w9 15 (sI (w9 15) 0 19 1) 15).1 0 k = (w 15).1 0 k := fun k a b => by rw [sW_s, sI_at, if_neg b, p4 k a]
  refine ⟨sW w9 15 (sI (w9 15) 0 19 1), ?_, ?_⟩
  · unfold FLc_62
    rw [hx, bo2_s, hr, bo2_s]
    exact if_pos hm.time
  · have f19 : (sW w9 15 (sI (w9 15) 0 19 1) 15).1 0 19 = 1 := by rw [sW_s, sI_at, if_pos rfl]
    clear hr
    generalize sW w9 15 (sI (w9 15) 0 19 1) = wF at f1 f3 f4 f19 ⊢
    have g1 : ∀ r, r ≠ 15 → r ≠ 0 → r ≠ 3 → wF r = w r := fun r a b c => by rw [f1 r a, hA r b c]
    have g3 : ∀ j, j ≠ 0 → j ≠ 3 → (wF 15).1 j = (w 15).1 j := fun j a b => by rw [f3 j a, p3 j a b]
    refine Good.mk ?_ (RelT.mk ?_ ?_ ?_) (RelH.mk ?_ ?_) (h.o.keep (g1 14 (by decide) (by decide) (by decide)) (g3 14 (by decide) (by decide)) (f4 33 (by decide) (by decide)))
    · unfold row
      rw [g1 1 (by decide) (by decide) (by decide), g3 2 (by decide) (by decide)]
      exact h.m
    · rw [g1 10 (by decide) (by decide) (by decide), f4 2 (by decide) (by decide), g3 1 (by decide) (by decide)]; exact h.t.len
    · rw [g1 10 (by decide) (by decide) (by decide), f4 10 (by decide) (by decide)]; exact h.t.code
    · rw [g1 10 (by decide) (by decide) (by decide), f4 11 (by decide) (by decide)]; exact h.t.offs
    · obtain ⟨fr, ct, q1, q2, q3, q4, q5, q6⟩ := h.h.cnt
      refine ⟨fr, ct, q1, q2, ?_, ?_, ?_, fun j hj => ?_⟩
      · rw [g1 13 (by decide) (by decide) (by decide)]; exact q3
      · rw [g1 13 (by decide) (by decide) (by decide)]; exact q4
      · rw [f4 18 (by decide) (by decide)]; exact q5
      · rw [g1 _ (by omega) (by omega) (by omega), g3 6 (by decide) (by decide)]; exact q6 j hj
    · refine Or.inr ⟨by rw [f1 0 (by decide)]; exact hA0, f19, ?_⟩
      rw [f1 3 (by decide), hA3, f3 3 (by decide)]
      exact ⟨nv, nc, ns, bk, hm.congr hE p6⟩
