set_option maxHeartbeats 400000
/-! outputByte -/
theorem wi_in2 {p : Int32} {n : Nat} (hn : n ≤ 100) (h : FX12_isWithin p 0 (nI n - 1) = true) : ∃ j, j < n ∧ p = nI j := by
  obtain ⟨h1, h2⟩ := wi_iff.mp h
  obtain ⟨j, hj, rfl⟩ := nI_of h1
  refine ⟨j, ?_, rfl⟩
  cases n with
  | zero =>
    exfalso
    apply h2
    rw [Int32.lt_iff_toInt_lt, nI_toInt hj]
    have : (nI 0 - 1).toInt = -1 := by decide
    omega
  | succ n =>
    rw [nI_pred, nI_ltI (by omega) hj] at h2
    omega
theorem by128 {b : Nat} (h : b < 128) : (((nI b) &&& 255).toUInt32 % 65536).toInt32 = nI b := by
  have : ∀ k : Fin 128, (((nI k.val) &&& 255).toUInt32 % 65536).toInt32 = nI k.val := by decide +kernel
  exact this ⟨b, h⟩
theorem ob_61 {n : Nat} {w : Wd} (h : Good w) (a1 a2 a3 a4 a5 : Int32) : ∃ w9, FLc_61 n w a1 a2 a3 a4 a5 = some w9 ∧ Good w9 := by
  obtain ⟨f, cap, l1, l2, l3, l4, l5, l6, l7⟩ := h.o.len
  show ∃ w9, (bo2 (FL_outputByte w a1) fun k w1 => bo2 (FX13_outputByte w1 a1) fun q w2 => chk k q w2) = some w9 ∧ Good w9
  unfold FL_outputByte
  cases hd : FX12_isWithin a1 0 (nI f - 1) with
  | false =>
    have hx : FX12_outputByte w a1 = some (.error ("java/lang/IndexOutOfBoundsException", w)) := by
      unfold FX12_outputByte
      rw [l4, bnd_s, hd, dI_f]
      rfl
    have hr : FX13_outputByte w a1 = some (0, cd w 1) := by
      unfold FX13_outputByte
      rw [l6, i64_0, isIn_w, hd, bnd_s, goes_f]
      rfl
    rw [lwW_er (k := 1) hx (if_pos rfl), bo2_s, hr, bo2_s]
    exact ⟨_, er_chk h (by decide)⟩
  | true =>
    obtain ⟨j, hj, rfl⟩ := wi_in2 (by omega) hd
    obtain ⟨b, b1, b2, b3⟩ := l7 j hj
    have hx : FX12_outputByte w (nI j) = some (.ok (nI b)) := by
      unfold FX12_outputByte
      rw [l4, bnd_s, hd, dI_t, xo_s, gd_t (by rw [decide_eq_true (nI_pos' (by omega)), decide_eq_true (nI_lt hj (by omega))]; rfl), nI_c (by omega), b3, by128 b1]
    have hr : FX13_outputByte (ow w (nI b)) (nI j) = some (nI b, cd (ow w (nI b)) 0) := by
      have e15 : ow w (nI b) 15 = w 15 := ow_o _ _ (by decide)
      have e14 : (cd (ow w (nI b)) 0 15).1 14 = (w 15).1 14 := by
        rw [show cd (ow w (nI b)) 0 15 = sI (ow w (nI b) 15) 0 0 0 from sW_s _ _ _, sI_o _ _ _ (show (14 : Nat) ≠ 0 by decide), e15]
      unfold FX13_outputByte
      rw [e15, l6, i64_0, isIn_w, hd, bnd_s, goes_t, bnd2_s, if_pos rfl, gd_t (inI (by omega) (by decide)), nI_c (by omega), e14, b2]
    rw [lwW_ok hx, bo2_s, hr, bo2_s]
    exact ⟨_, ok_chk h⟩
