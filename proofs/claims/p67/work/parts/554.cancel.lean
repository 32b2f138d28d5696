set_option maxHeartbeats 400000
/-! what a cancelling writes -/
def rs (w : Wd) (k : Nat) (x : Int32) : Wd := sW w 15 (sI (w 15) 2 k x)
theorem rs_15 (w : Wd) (k : Nat) (x : Int32) : rs w k x 15 = sI (w 15) 2 k x := sW_s _ _ _
theorem rs_o (w : Wd) (k : Nat) (x : Int32) {r : Nat} (h : r ≠ 15) : rs w k x r = w r := sW_o _ _ h
theorem rs_j (w : Wd) (k : Nat) (x : Int32) {j : Nat} (h : j ≠ 2) : (rs w k x 15).1 j = (w 15).1 j := by
  rw [rs_15]
  exact sI_o _ _ _ h
theorem rs_row (w : Wd) (k : Nat) (x : Int32) (k' : Nat) : row (rs w k x) k' = if k' = k then x else row w k' := by
  unfold row
  rw [rs_15, sI_at]
theorem rCancels {w : Wd} {i c : Nat} (hi : i < 30) (hc : c < 8) (h : shF (row w) i 0 = nI c) : FX13_cancels w (nI i) = some (lft (row w) i, rs (rs (rs w (120 + 9 * i + 6) 2) 5 (row w 5 + lft (row w) i)) (72 + 6 * c + 1) (cuF (row w) c 1 + lft (row w) i)) := by
  have e5 : row (rs w (120 + 9 * i + 6) 2) 5 = row w 5 := by rw [rs_row, if_neg (by omega)]
  have e0 : shF (row (rs (rs w (120 + 9 * i + 6) 2) 5 (row w 5 + lft (row w) i))) i 0 = nI c := by
    show row _ (120 + 9 * i + 0) = _
    rw [rs_row, if_neg (by omega), rs_row, if_neg (by omega)]
    exact h
  have ec : row (rs (rs w (120 + 9 * i + 6) 2) 5 (row w 5 + lft (row w) i)) (72 + 6 * c + 1) = cuF (row w) c 1 := by
    rw [rs_row, if_neg (by omega), rs_row, if_neg (by omega)]
  have hr : FX13_refunds (rs w (120 + 9 * i + 6) 2) (nI i) (lft (row w) i) = some (rs (rs (rs w (120 + 9 * i + 6) 2) 5 (row w 5 + lft (row w) i)) (72 + 6 * c + 1) (cuF (row w) c 1 + lft (row w) i)) := by
    unfold FX13_refunds
    rw [gd5, gd5, bnd_s, show (rs w (120 + 9 * i + 6) 2 15).1 2 5 = row w 5 from e5, show sW (rs w (120 + 9 * i + 6) 2) 15 (sI (rs w (120 + 9 * i + 6) 2 15) 2 5 (row w 5 + lft (row w) i)) = rs (rs w (120 + 9 * i + 6) 2) 5 (row w 5 + lft (row w) i) from rfl, rS0 hi, bo1_s, e0, bnd_s]
    unfold FX13_cst
    rw [show (72 : Int32) + 6 * nI c + 1 = nI (72 + 6 * c + 1) from ix (k := 1), gd_t (inI (by omega) (by omega)), gd_t (inI (by omega) (by omega)), nI_c (by omega), bnd_s, show (rs (rs w (120 + 9 * i + 6) 2) 5 (row w 5 + lft (row w) i) 15).1 2 (72 + 6 * c + 1) = cuF (row w) c 1 from ec]
    rfl
  unfold FX13_cancels FX13_sht
  rw [rLeft hi, bo1_s, bnd_s, show (120 : Int32) + 9 * nI i + 6 = nI (120 + 9 * i + 6) from ix (k := 6), gd_t (inI (by omega) (by omega)), nI_c (by omega), bnd_s, show sW w 15 (sI (w 15) 2 (120 + 9 * i + 6) 2) = rs w (120 + 9 * i + 6) 2 from rfl, hr, bo1_s]
