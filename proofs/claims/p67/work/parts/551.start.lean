set_option maxHeartbeats 400000
/-! the world at the law's loop is good; truncate -/
theorem good_w0 : Good w0 := by
  have er : ∀ k, row w0 k = 0 := fun k => by
    show (sI (sI zM 0 9 (-1)) 0 11 (-1)).1 2 k = 0
    rw [sI_o _ _ _ (by decide), sI_o _ _ _ (by decide)]
    rfl
  have z0 : (0 : Int32) = nI 0 := nI_0.symm
  refine Good.mk ⟨0, 0, 0, fun _ => 0, RelM.mk (Nat.zero_le _) (Nat.zero_le _) (Nat.zero_le _) ((er 0).trans z0) ((er 1).trans z0) ((er 2).trans z0) z0 z0 z0 (er 3).symm (er 6).symm (er 4).symm (er 5).symm rfl rfl rfl (er 7).symm ⟨0, Nat.zero_le _, (er 3).trans z0⟩ ⟨0, Nat.zero_le _, (er 6).trans z0⟩ (fun v hv => absurd hv (Nat.not_lt_zero v)) (fun v hv => absurd hv (Nat.not_lt_zero v)) (fun v hv => absurd hv (Nat.not_lt_zero v))⟩ (RelT.mk ⟨0, Nat.zero_le _, z0, z0, fun j hj => absurd hj (Nat.not_lt_zero j)⟩ rfl rfl) (RelH.mk ⟨0, 0, by decide, by decide, z0, z0, z0, fun j hj => absurd hj (Nat.not_lt_zero j)⟩ (Or.inl ⟨rfl, rfl⟩)) (RelO.mk ⟨0, 16, by decide, by decide, by decide, z0, rfl, z0, fun j hj => absurd hj (Nat.not_lt_zero j)⟩)
theorem ob_1 {n : Nat} {w : Wd} (h : Good w) (a1 a2 a3 a4 a5 : Int32) : ∃ w9, FLc_1 n w a1 a2 a3 a4 a5 = some w9 ∧ Good w9 := by
  obtain ⟨f, hf, l1, l2, l3⟩ := h.t.len
  show ∃ w9, (bo2 (FL_truncate w a1) fun k w1 => bnd2 (FX13_truncate w1 a1) fun q w2 => chk k q w2) = some w9 ∧ Good w9
  unfold FL_truncate
  cases hd : FX12_isWithin a1 0 (nI f) with
  | false =>
    have hx : FX12_truncate w a1 = some (.error ("java/lang/IllegalArgumentException", w)) := by
      unfold FX12_truncate
      rw [l1, bnd_s, hd, dA_f]
      rfl
    have hr : FX13_truncate w a1 = (0, cd w 1) := by
      unfold FX13_truncate
      rw [l2, i64_0, isIn_w, hd, bnd_s, goes_f]
      rfl
    rw [lw_x (k := 1) hx (if_pos rfl), bo2_s, hr, bnd2_s]
    exact ⟨_, er_chk h (by decide)⟩
  | true =>
    have hx : FX12_truncate w a1 = some (.ok (a1, sW w 10 (sI (w 10) 0 6 a1))) := by
      unfold FX12_truncate
      rw [l1, bnd_s, hd, dA_t, xo_s, bnd_s]
    rw [lw_o hx, bo2_s]
    generalize hwA : ow (sW w 10 (sI (w 10) 0 6 a1)) a1 = wA
    have hA : ∀ r, r ≠ 10 → r ≠ 16 → wA r = w r := fun r a b => by rw [← hwA, ow_o _ _ b, sW_o _ _ a]
    have hA10 : wA 10 = sI (w 10) 0 6 a1 := by rw [← hwA, ow_o _ _ (by decide), sW_s]
    have hA16 : (wA 16).2 0 0 = a1.toInt64 := by rw [← hwA]; exact ow_v _ _
    have hA15 : wA 15 = w 15 := hA 15 (by decide) (by decide)
    have c15 : cd wA 0 15 = sI (w 15) 0 0 0 := by rw [← hA15]; exact sW_s _ _ _
    have hr : FX13_truncate wA a1 = (a1, sW (cd wA 0) 15 (sI (cd wA 0 15) 0 2 a1)) := by
      unfold FX13_truncate
      rw [hA15, l2, i64_0, isIn_w, hd, bnd_s, goes_t]
      rfl
    rw [hr, bnd2_s]
    clear hr
    have g15 : sW (cd wA 0) 15 (sI (cd wA 0 15) 0 2 a1) 15 = sI (cd wA 0 15) 0 2 a1 := sW_s _ _ _
    have g1 : ∀ r, r ≠ 15 → sW (cd wA 0) 15 (sI (cd wA 0 15) 0 2 a1) r = wA r := fun r hr => by rw [sW_o _ _ hr, cd_o _ _ hr]
    generalize sW (cd wA 0) 15 (sI (cd wA 0 15) 0 2 a1) = wF at g15 g1 ⊢
    have gj : ∀ j, j ≠ 0 → (wF 15).1 j = (w 15).1 j := fun j hj => by rw [g15, sI_o _ _ _ hj, c15, sI_o _ _ _ hj]
    have gk : ∀ k, k ≠ 0 → k ≠ 2 → (wF 15).1 0 k = (w 15).1 0 k := fun k a b => by rw [g15, sI_at, if_neg b, c15, sI_at, if_neg a]
    have g2 : (wF 15).1 0 2 = a1 := by rw [g15, sI_at, if_pos rfl]
    have g0 : (wF 15).1 0 0 = 0 := by rw [g15, sI_at, if_neg (by decide), c15, sI_at, if_pos rfl]
    have q1 : ∀ r, r ≠ 15 → r ≠ 10 → r ≠ 16 → wF r = w r := fun r a b c => by rw [g1 r a, hA r b c]
    obtain ⟨x1, x2⟩ := wi_iff.mp hd
    obtain ⟨d, hd1, rfl⟩ := nI_of x1
    have hd2 : d ≤ f := by
      have := mt (nI_ltI (a := f) (b := d) (by omega) hd1).mpr x2
      omega
    refine ⟨wF, chk_0 g0 (by rw [g1 16 (by decide), hA16]), ?_⟩
    refine Good.mk ?_ (RelT.mk ?_ ?_ ?_) (RelH.mk ?_ ?_) (h.o.keep (q1 14 (by decide) (by decide) (by decide)) (gj 14 (by decide)) (gk 33 (by decide) (by decide)))
    · unfold row
      rw [q1 1 (by decide) (by decide) (by decide), gj 2 (by decide)]
      exact h.m
    · refine ⟨d, by omega, ?_, g2, fun j hj => ?_⟩
      · rw [g1 10 (by decide), hA10, sI_at, if_pos rfl]
      · rw [gj 1 (by decide), g1 10 (by decide), hA10, sI_o _ _ _ (show (1 : Nat) ≠ 0 by decide)]
        exact l3 j (by omega)
    · rw [g1 10 (by decide), hA10, sI_at, if_neg (by decide), gk 10 (by decide) (by decide)]; exact h.t.code
    · rw [g1 10 (by decide), hA10, sI_at, if_neg (by decide), gk 11 (by decide) (by decide)]; exact h.t.offs
    · obtain ⟨fr, ct, y1, y2, y3, y4, y5, y6⟩ := h.h.cnt
      refine ⟨fr, ct, y1, y2, ?_, ?_, ?_, fun j hj => ?_⟩
      · rw [q1 13 (by decide) (by decide) (by decide)]; exact y3
      · rw [q1 13 (by decide) (by decide) (by decide)]; exact y4
      · rw [gk 18 (by decide) (by decide)]; exact y5
      · rw [q1 _ (by omega) (by omega) (by omega), gj 6 (by decide)]; exact y6 j hj
    · rw [q1 0 (by decide) (by decide) (by decide), q1 3 (by decide) (by decide) (by decide), gk 19 (by decide) (by decide), gj 3 (by decide)]
      exact h.h.sav
