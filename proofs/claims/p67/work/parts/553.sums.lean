set_option maxHeartbeats 400000
/-! sums of which one term changes -/
theorem isum_upd {f f' : Nat → Int32} {i : Nat} : ∀ {n : Nat}, i < n → (∀ j, j < n → j ≠ i → f' j = f j) → isum n f' = isum n f + (f' i - f i)
  | 0, hi, _ => absurd hi (Nat.not_lt_zero i)
  | n + 1, hi, h => by
    simp only [isum]
    by_cases e : i = n
    · subst e
      rw [isum_congr (n := i) (f := f') (g := f) (fun j hj => h j (by omega) (by omega)), Int32.add_assoc, sub_back]
    · rw [isum_upd (n := n) (by omega) (fun j hj hne => h j (by omega) hne), h n (by omega) (by omega), Int32.add_assoc, Int32.add_assoc, Int32.add_comm (f' i - f i)]
theorem isum_new {f f' : Nat → Int32} {n : Nat} (h : ∀ j, j < n → f' j = f j) : isum (n + 1) f' = isum n f + f' n := by
  simp only [isum]
  rw [isum_congr h]
theorem nsum_upd {f f' : Nat → Nat} {i : Nat} : ∀ {n : Nat}, i < n → (∀ j, j < n → j ≠ i → f' j = f j) → nsum n f' + f i = nsum n f + f' i
  | 0, hi, _ => absurd hi (Nat.not_lt_zero i)
  | n + 1, hi, h => by
    simp only [nsum]
    by_cases e : i = n
    · subst e
      rw [nsum_congr (n := i) (f := f') (g := f) (fun j hj => h j (by omega) (by omega))]
      omega
    · have ih := nsum_upd (n := n) (by omega : i < n) (fun j hj hne => h j (by omega) hne)
      rw [h n (by omega) (by omega)]
      omega
/-- what a cancelling does to the sum of what is held -/
theorem lft_shut {r' : Nat → Int32} {i : Nat} (h : ¬ shF r' i 6 = 0) : lft r' i = 0 := if_neg h
theorem lft_open {r : Nat → Int32} {i : Nat} (h : shF r i 6 = 0) : lft r i = shF r i 4 * (shF r i 3 - shF r i 7) := if_pos h
