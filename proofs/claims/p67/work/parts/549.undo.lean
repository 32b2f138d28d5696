set_option maxHeartbeats 400000
/-! restoreState, undo -/
/-- a row of the reference put in the market's place: the world behind it -/
theorem back_ok {n : Nat} (hn : 500 ≤ n) (wA : Wd) {j0 a : Nat} (hj : j0 ≠ 2) (ha : a + 390 ≤ modLen j0) (h1 : modLen j0 ≤ 3000) (v : Int32) : ∃ w9, FX13_copiesRow n wA j0 (nI a) 2 0 = some w9 ∧ (∀ r, r ≠ 15 → w9 r = wA r) ∧ (∀ j, j ≠ 2 → (w9 15).1 j = (wA 15).1 j) ∧ ∀ k, k < 390 → (w9 15).1 2 k = (wA 15).1 j0 (a + k) := by
  have hcp := copiesRow_ok (n := n) hn wA (j0 := j0) (a := a) (j2 := 2) (b := 0) hj ha (by decide) h1 (by decide)
  refine ⟨_, hcp, fun r hr => cpW_o _ _ _ _ _ _ hr, fun j hj => cpW_j _ _ _ _ _ _ hj, fun k hk => ?_⟩
  have hin := cpW_in wA j0 a 2 0 hk
  rw [Nat.zero_add] at hin
  exact hin
theorem gB0 {α : Type} (a : Option α) : gd (isB 0) a = a := if_pos (by decide)
theorem gB1 {α : Type} (a : Option α) : gd (isB 1) a = a := if_pos (by decide)
theorem ob_63 {n : Nat} (hn : 2500 ≤ n) {w : Wd} (h : Good w) (a1 a2 a3 a4 a5 : Int32) : ∃ w9, FLc_63 n w a1 a2 a3 a4 a5 = some w9 ∧ Good w9 := by
  show ∃ w9, (bo2 (FL_restoreState n w) fun k w1 => bo2 (FX13_restoreState n w1) fun q w2 => chk k q w2) = some w9 ∧ Good w9
  unfold FL_restoreState FX13_restoreState
  rcases h.h.sav with ⟨s1, s2⟩ | ⟨s1, s2, s3⟩
  · have hx : FX12_restoreState n w = some (.error ("java/lang/IllegalStateException", w)) := by
      unfold FX12_restoreState
      rw [s1, gB0]
      rfl
    rw [lw_x (k := 1) hx (if_pos rfl), bo2_s, s2, gB0, show decide ((0 : Int32) = 1) = false from rfl, goes_f, bnd2_s, if_neg (by decide), bo2_s]
    exact ⟨_, er_chk h (by decide)⟩
  · obtain ⟨nv, nc, ns, bk, hm⟩ := s3
    obtain ⟨M2, e2, hE⟩ := copyFrom_ok (n := n) (by omega) (w 1) (w 3) hm.v1 hm.c1 hm.s1 hm.bv hm.bc hm.bs
    have t6 : M2.1 0 6 = (w 15).1 3 3 := (hE.1 6 (by decide) (by decide)).trans hm.time
    have hx : FX12_restoreState n w = some (.ok (M2.1 0 6, sW (sW w 1 M2) 13 (sI (w 13) 0 2 0))) := by
      unfold FX12_restoreState FX5_forget
      rw [s1, gB1, show decide ((1 : Int32) = 1) = true from rfl, dS_t, xo_s, e2, bo1_s, bnd_s, bnd_s, bnd_s]
      have e1 : sW (sW w 1 M2) 13 (sI (sW w 1 M2 13) 0 2 0) 1 = M2 := by rw [sW_o _ _ (by decide), sW_s]
      rw [e1]
      rfl
    rw [lw_o hx, bo2_s]
    generalize hwA : ow (sW (sW w 1 M2) 13 (sI (w 13) 0 2 0)) (M2.1 0 6) = wA
    have hA : ∀ r, r ≠ 1 → r ≠ 13 → r ≠ 16 → wA r = w r := fun r a b c => by rw [← hwA, ow_o _ _ c, sW_o _ _ b, sW_o _ _ a]
    have hA1 : wA 1 = M2 := by rw [← hwA, ow_o _ _ (by decide), sW_o _ _ (by decide), sW_s]
    have hA13 : wA 13 = sI (w 13) 0 2 0 := by rw [← hwA, ow_o _ _ (by decide), sW_s]
    have hA16 : (wA 16).2 0 0 = (M2.1 0 6).toInt64 := by rw [← hwA]; exact ow_v _ _
    have hA15 : wA 15 = w 15 := hA 15 (by decide) (by decide) (by decide)
    have c15 : cd wA 0 15 = sI (w 15) 0 0 0 := by rw [← hA15]; exact sW_s _ _ _
    obtain ⟨w9, e9, p1, p2, p3⟩ := back_ok (n := n) (by omega) (cd wA 0) (j0 := 3) (a := 0) (by decide) (by decide) (by decide) 0
    rw [hA15, s2, gB1, show decide ((1 : Int32) = 1) = true from rfl, goes_t, bnd2_s, if_pos rfl, show (0 : Int32) = nI 0 from rfl]
    have e9' : FX13_copiesRow n (cd wA (nI 0)) 3 (nI 0) 2 (nI 0) = some w9 := e9
    rw [e9', bo1_s, bnd_s, gd3]
    have f2 : ∀ k, k < 390 → (w9 15).1 2 k = (w 15).1 3 k := fun k hk => by
      rw [p3 k hk, c15, sI_o _ _ _ (show (3 : Nat) ≠ 0 by decide), Nat.zero_add]
    have f0 : ∀ k, k ≠ 0 → (w9 15).1 0 k = (w 15).1 0 k := fun k hk => by rw [p2 0 (by decide), c15, sI_at, if_neg hk]
    have fj : ∀ j, j ≠ 0 → j ≠ 2 → (w9 15).1 j = (w 15).1 j := fun j a b => by rw [p2 j b, c15, sI_o _ _ _ a]
    have f00 : (w9 15).1 0 0 = 0 := by rw [p2 0 (by decide), c15, sI_at, if_pos rfl]
    have g1 : ∀ r, r ≠ 15 → sW w9 15 (sI (w9 15) 0 18 (nI 0)) r = wA r := fun r hr => by rw [sW_o _ _ hr, p1 r hr, cd_o _ _ hr]
    have g15 : sW w9 15 (sI (w9 15) 0 18 (nI 0)) 15 = sI (w9 15) 0 18 (nI 0) := sW_s _ _ _
    generalize sW w9 15 (sI (w9 15) 0 18 (nI 0)) = wF at g1 g15 ⊢
    have gj : ∀ j, j ≠ 0 → (wF 15).1 j = (w9 15).1 j := fun j hj => by rw [g15, sI_o _ _ _ hj]
    have gk : ∀ k, k ≠ 0 → k ≠ 18 → (wF 15).1 0 k = (w 15).1 0 k := fun k a b => by rw [g15, sI_at, if_neg b, f0 k a]
    have g18 : (wF 15).1 0 18 = nI 0 := by rw [g15, sI_at, if_pos rfl]
    have g00 : (wF 15).1 0 0 = 0 := by rw [g15, sI_at, if_neg (by decide), f00]
    rw [bo2_s, gj 2 (by decide), f2 3 (by decide), ← t6]
    refine ⟨wF, chk_0 g00 (by rw [g1 16 (by decide), hA16]), ?_⟩
    have q1 : ∀ r, r ≠ 15 → r ≠ 1 → r ≠ 13 → r ≠ 16 → wF r = w r := fun r a b c d => by rw [g1 r a, hA r b c d]
    refine Good.mk ?_ (RelT.mk ?_ ?_ ?_) (RelH.mk ?_ ?_) (h.o.keep (q1 14 (by decide) (by decide) (by decide) (by decide)) (by rw [gj 14 (by decide), fj 14 (by decide) (by decide)]) (gk 33 (by decide) (by decide)))
    · unfold row
      rw [g1 1 (by decide), hA1, gj 2 (by decide)]
      exact ⟨nv, nc, ns, bk, hm.congr hE f2⟩
    · rw [q1 10 (by decide) (by decide) (by decide) (by decide), gk 2 (by decide) (by decide), gj 1 (by decide), fj 1 (by decide) (by decide)]; exact h.t.len
    · rw [q1 10 (by decide) (by decide) (by decide) (by decide), gk 10 (by decide) (by decide)]; exact h.t.code
    · rw [q1 10 (by decide) (by decide) (by decide) (by decide), gk 11 (by decide) (by decide)]; exact h.t.offs
    · obtain ⟨fr, ct, x1, x2, x3, x4, x5, x6⟩ := h.h.cnt
      refine ⟨fr, 0, x1, by decide, ?_, ?_, g18, fun j hj => absurd hj (Nat.not_lt_zero j)⟩
      · rw [g1 13 (by decide), hA13, sI_at, if_neg (by decide)]; exact x3
      · rw [g1 13 (by decide), hA13, sI_at, if_pos rfl]; rfl
    · rw [q1 0 (by decide) (by decide) (by decide) (by decide), q1 3 (by decide) (by decide) (by decide) (by decide), gk 19 (by decide) (by decide), gj 3 (by decide), fj 3 (by decide) (by decide)]
      exact h.h.sav
