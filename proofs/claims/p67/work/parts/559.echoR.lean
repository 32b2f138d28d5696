set_option maxHeartbeats 400000
/-! the reference's echo, cell by cell -/
theorem rs_fold (w : Wd) (k : Nat) (x : Int32) : sW w 15 (sI (w 15) 2 k x) = rs w k x := rfl
theorem rs_at (w : Wd) (k : Nat) (x : Int32) (k' : Nat) : (rs w k x 15).1 2 k' = if k' = k then x else (w 15).1 2 k' := rs_row w k x k'
theorem rs_ne (w : Wd) {k : Nat} (x : Int32) {k' : Nat} (h : k' ≠ k) : row (rs w k x) k' = row w k' := by rw [rs_row, if_neg h]
theorem vly4 {v : Nat} : FX13_vly (nI v) + 4 = nI (8 + 8 * v + 4) := ix (k := 4)
theorem vly5 {v : Nat} : FX13_vly (nI v) + 5 = nI (8 + 8 * v + 5) := ix (k := 5)
theorem cst1 {c : Nat} : FX13_cst (nI c) + 1 = nI (72 + 6 * c + 1) := ix (k := 1)
theorem cst2 {c : Nat} : FX13_cst (nI c) + 2 = nI (72 + 6 * c + 2) := ix (k := 2)
theorem cst3 {c : Nat} : FX13_cst (nI c) + 3 = nI (72 + 6 * c + 3) := ix (k := 3)
theorem sht6 {i : Nat} : FX13_sht (nI i) + 6 = nI (120 + 9 * i + 6) := ix (k := 6)
theorem sht7 {i : Nat} : FX13_sht (nI i) + 7 = nI (120 + 9 * i + 7) := ix (k := 7)
theorem sht8 {i : Nat} : FX13_sht (nI i) + 8 = nI (120 + 9 * i + 8) := ix (k := 8)
theorem rRefunds {w : Wd} {i c : Nat} (hi : i < 30) (hc : c < 8) (h : shF (row w) i 0 = nI c) (x : Int32) : FX13_refunds w (nI i) x = some (rs (rs w 5 (row w 5 + x)) (72 + 6 * c + 1) (cuF (row w) c 1 + x)) := by
  have e0 : shF (row (rs w 5 (row w 5 + x))) i 0 = nI c := (rs_ne w _ (by omega)).trans h
  unfold FX13_refunds
  rw [gd5, gd5, rs_fold, bnd_s, rS0 hi, bo1_s, e0, bnd_s, cst1, gd_t (inI (by omega) (by omega)), gd_t (inI (by omega) (by omega)), nI_c (by omega), rs_fold, rs_at, if_neg (by omega), bnd_s]
theorem rHears {w : Wd} {i c v : Nat} (hi : i < 30) (hc : c < 8) (hv : v < 8) (h0 : shF (row w) i 0 = nI c) (h1 : shF (row w) i 1 = nI v) : FX13_hears w (nI i) = some (rs (rs (rs (rs w 4 (row w 4 + shF (row w) i 4)) (8 + 8 * v + 4) (vaF (row w) v 4 + 1)) (72 + 6 * c + 3) (cuF (row w) c 3 + 1)) (120 + 9 * i + 8) (shF (row w) i 8 ||| 1 <<< (shF (row w) i 7 &&& 31))) := by
  generalize hw1 : rs w 4 (row w 4 + shF (row w) i 4) = w1
  have e1 : ∀ k, k ≠ 4 → row w1 k = row w k := fun k hk => by rw [← hw1]; exact rs_ne w _ hk
  generalize hw2 : rs w1 (8 + 8 * v + 4) (vaF (row w) v 4 + 1) = w2
  have e2 : ∀ k, k ≠ 4 → k ≠ 8 + 8 * v + 4 → row w2 k = row w k := fun k hk h2 => by rw [← hw2]; exact (rs_ne w1 _ h2).trans (e1 k hk)
  generalize hw3 : rs w2 (72 + 6 * c + 3) (cuF (row w) c 3 + 1) = w3
  have e3 : ∀ k, k ≠ 4 → k ≠ 8 + 8 * v + 4 → k ≠ 72 + 6 * c + 3 → row w3 k = row w k := fun k hk h2 h3 => by rw [← hw3]; exact (rs_ne w2 _ h3).trans (e2 k hk h2)
  unfold FX13_hears
  rw [rS1 hi, bo1_s, h1, bnd_s, gd4, rS4 hi, bo1_s, gd4, rs_fold, show rs w 4 ((w 15).1 2 4 + shF (row w) i 4) = w1 from hw1, bnd_s, vly4, gd_t (inI (by omega) (by omega)), gd_t (inI (by omega) (by omega)), nI_c (by omega), rs_fold, show (w1 15).1 2 (8 + 8 * v + 4) = vaF (row w) v 4 from e1 _ (by omega), hw2, bnd_s, rS0 hi, show shF (row w2) i 0 = nI c from (e2 _ (by omega) (by omega)).trans h0, bo1_s, bnd_s, cst3, gd_t (inI (by omega) (by omega)), gd_t (inI (by omega) (by omega)), nI_c (by omega), rs_fold, show (w2 15).1 2 (72 + 6 * c + 3) = cuF (row w) c 3 from e2 _ (by omega) (by omega), hw3, bnd_s, bnd_s, sht8, gd_t (inI (by omega) (by omega)), rS7 hi, bo1_s, gd_t (inI (by omega) (by omega)), nI_c (by omega), rs_fold, show (w3 15).1 2 (120 + 9 * i + 8) = shF (row w) i 8 from e3 _ (by omega) (by omega) (by omega), show shF (row w3) i 7 = shF (row w) i 7 from e3 _ (by omega) (by omega) (by omega), bnd_s]
theorem rLoses {w : Wd} {i c v : Nat} (hi : i < 30) (hc : c < 8) (hv : v < 8) (h0 : shF (row w) i 0 = nI c) (h1 : shF (row w) i 1 = nI v) : FX13_loses w (nI i) = some (rs (rs (rs (rs w 5 (row w 5 + shF (row w) i 4)) (72 + 6 * c + 1) (cuF (row w) c 1 + shF (row w) i 4)) (8 + 8 * v + 5) (vaF (row w) v 5 + 1)) (8 + 8 * v + 4) (if 2 ≤ vaF (row w) v 4 then vaF (row w) v 4 - 2 else 0)) := by
  unfold FX13_loses
  rw [rS1 hi, bo1_s, h1, bnd_s, rS4 hi, bo1_s, rRefunds hi hc h0, bo1_s]
  generalize hw2 : rs (rs w 5 (row w 5 + shF (row w) i 4)) (72 + 6 * c + 1) (cuF (row w) c 1 + shF (row w) i 4) = w2
  have e2 : ∀ k, k ≠ 5 → k ≠ 72 + 6 * c + 1 → row w2 k = row w k := fun k hk h2 => by rw [← hw2]; exact (rs_ne _ _ h2).trans (rs_ne _ _ hk)
  generalize hw3 : rs w2 (8 + 8 * v + 5) (vaF (row w) v 5 + 1) = w3
  have e3 : ∀ k, k ≠ 5 → k ≠ 72 + 6 * c + 1 → k ≠ 8 + 8 * v + 5 → row w3 k = row w k := fun k hk h2 h3 => by rw [← hw3]; exact (rs_ne w2 _ h3).trans (e2 k hk h2)
  rw [vly5, gd_t (inI (by omega) (by omega)), gd_t (inI (by omega) (by omega)), nI_c (by omega), rs_fold, show (w2 15).1 2 (8 + 8 * v + 5) = vaF (row w) v 5 from e2 _ (by omega) (by omega), hw3, bnd_s, vly4, gd_t (inI (by omega) (by omega)), nI_c (by omega), show (w3 15).1 2 (8 + 8 * v + 4) = vaF (row w) v 4 from e3 _ (by omega) (by omega) (by omega)]
  by_cases z : 2 ≤ vaF (row w) v 4
  · rw [if_pos z, if_pos z, gd_t (inI (by omega) (by omega)), gd_t (inI (by omega) (by omega)), rs_fold, bnd_s]
  · rw [if_neg z, if_neg z, gd_t (inI (by omega) (by omega)), rs_fold, bnd_s]
/-- behind an echo: one more return, and the end if that was the last -/
def bkR (w : Wd) (i : Nat) : Wd := if shF (row w) i 7 + 1 = shF (row w) i 3 then rs (rs w (120 + 9 * i + 7) (shF (row w) i 7 + 1)) (120 + 9 * i + 6) 1 else rs w (120 + 9 * i + 7) (shF (row w) i 7 + 1)
theorem bkR_Fr (w : Wd) (i : Nat) : Fr w (bkR w i) := by
  unfold bkR
  by_cases z : shF (row w) i 7 + 1 = shF (row w) i 3
  · rw [if_pos z]; exact (Fr.of_rs _ _ _).to_rs _ _
  · rw [if_neg z]; exact Fr.of_rs _ _ _
theorem bkR_o (w : Wd) {i k : Nat} (h6 : k ≠ 120 + 9 * i + 6) (h7 : k ≠ 120 + 9 * i + 7) : row (bkR w i) k = row w k := by
  unfold bkR
  by_cases z : shF (row w) i 7 + 1 = shF (row w) i 3
  · rw [if_pos z, rs_ne _ _ h6, rs_ne _ _ h7]
  · rw [if_neg z, rs_ne _ _ h7]
theorem bkR_7 (w : Wd) (i : Nat) : shF (row (bkR w i)) i 7 = shF (row w) i 7 + 1 := by
  show row (bkR w i) (120 + 9 * i + 7) = _
  unfold bkR
  by_cases z : shF (row w) i 7 + 1 = shF (row w) i 3
  · rw [if_pos z, rs_ne _ _ (by omega), rs_row, if_pos rfl]
  · rw [if_neg z, rs_row, if_pos rfl]
theorem bkR_6 (w : Wd) (i : Nat) : shF (row (bkR w i)) i 6 = if shF (row w) i 7 + 1 = shF (row w) i 3 then 1 else shF (row w) i 6 := by
  show row (bkR w i) (120 + 9 * i + 6) = _
  unfold bkR
  by_cases z : shF (row w) i 7 + 1 = shF (row w) i 3
  · rw [if_pos z, if_pos z, rs_row, if_pos rfl]
  · rw [if_neg z, if_neg z, rs_ne _ _ (by omega)]
theorem rComes {w w2 : Wd} {i : Nat} {x : Int32} {b : Bool} (hi : i < 30) (hb : (if x < 1 then false else true) = b) (h : (if b = true then FX13_hears w (nI i) else FX13_loses w (nI i)) = some w2) : FX13_comesBack w (nI i) x = some (b, bkR w2 i) := by
  have e7 : shF (row (rs w2 (120 + 9 * i + 7) (shF (row w2) i 7 + 1))) i 7 = shF (row w2) i 7 + 1 := by
    show row _ (120 + 9 * i + 7) = _
    rw [rs_row, if_pos rfl]
  have e3 : shF (row (rs w2 (120 + 9 * i + 7) (shF (row w2) i 7 + 1))) i 3 = shF (row w2) i 3 := rs_ne _ _ (by omega)
  have tail : ∀ b : Bool, (bnd (FX13_sht (nI i)) fun x5 => gd (inb (x5 + 7) 390) <| gd (inb (x5 + 7) 390) <| bnd (sW w2 15 (sI (w2 15) 2 ((x5 + 7).toNatClampNeg) (((w2 15).1 2 ((x5 + 7).toNatClampNeg)) + 1))) fun w9 => bo1 (FX13_of w9 (nI i) 7) fun x12 => bo1 (FX13_of w9 (nI i) 3) fun x15 => if x12 = x15 then bnd (FX13_sht (nI i)) fun x18 => gd (inb (x18 + 6) 390) <| bnd (sW w9 15 (sI (w9 15) 2 ((x18 + 6).toNatClampNeg) 1)) fun w21 => some (b, w21) else some (b, w9)) = some (b, bkR w2 i) := by
    intro b
    rw [bnd_s, sht7, gd_t (inI (by omega) (by omega)), gd_t (inI (by omega) (by omega)), nI_c (by omega), rs_fold, show (w2 15).1 2 (120 + 9 * i + 7) = shF (row w2) i 7 from rfl, bnd_s, rS7 hi, bo1_s, rS3 hi, bo1_s, e7, e3]
    unfold bkR
    by_cases z : shF (row w2) i 7 + 1 = shF (row w2) i 3
    · rw [if_pos z, if_pos z, bnd_s, sht6, gd_t (inI (by omega) (by omega)), nI_c (by omega), rs_fold, bnd_s]
    · rw [if_neg z, if_neg z]
  unfold FX13_comesBack
  by_cases z : x < 1
  · rw [if_pos z] at hb
    subst hb
    rw [if_neg (by decide)] at h
    rw [if_pos z, h, bo1_s]
    exact tail false
  · rw [if_neg z] at hb
    subst hb
    rw [if_pos rfl] at h
    rw [if_neg z, h, bo1_s]
    exact tail true
