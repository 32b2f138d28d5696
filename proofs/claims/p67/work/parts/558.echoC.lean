set_option maxHeartbeats 400000
/-! the class's echo, slot by slot -/
theorem cRefund {M : MM} {i c : Nat} (hc : c < 8) (h0 : M.1 (20 + i) 0 = nI c) (x : Int32) : ∃ M', FX6_refund M (20 + i) x = some M' ∧ M'.2 = M.2 ∧ (∀ j, j ≠ 0 → j ≠ 12 + c → M'.1 j = M.1 j) ∧ (∀ k, k ≠ 9 → k ≠ 10 → M'.1 0 k = M.1 0 k) ∧ M'.1 0 9 = M.1 0 9 + x ∧ M'.1 0 10 = M.1 0 10 - x ∧ (∀ k, k ≠ 3 → k ≠ 5 → M'.1 (12 + c) k = M.1 (12 + c) k) ∧ M'.1 (12 + c) 3 = M.1 (12 + c) 3 + x ∧ M'.1 (12 + c) 5 = M.1 (12 + c) 5 - x := by
  have n1 : (0 : Nat) ≠ 12 + c := by omega
  have n5 : 12 + c ≠ 0 := by omega
  unfold FX6_refund
  rw [h0, gd_t (inI (by omega) (by omega)), nI_c (by omega), bnd_s, bnd_s, bnd_s, bnd_s]
  refine ⟨_, rfl, rfl, fun j a b => ?_, fun k a b => ?_, ?_, ?_, fun k a b => ?_, ?_, ?_⟩
  · simp only [sI_o _ _ _ a, sI_o _ _ _ b]
  · simp only [sI_at, sI_o _ _ _ n1, if_neg a, if_neg b]
  · simp only [sI_at, sI_o _ _ _ n1, if_true]
    rfl
  · simp only [sI_at, sI_o _ _ _ n1, if_true]
    rfl
  · simp only [sI_at, sI_o _ _ _ n5, if_neg a, if_neg b]
  · simp only [sI_at, sI_o _ _ _ n5, if_true]
    rfl
  · simp only [sI_at, sI_o _ _ _ n5, if_true]
    rfl
theorem cEarn {M : MM} {i c v : Nat} (hi : i < 30) (hc : c < 8) (hv : v < 8) (h0 : M.1 (20 + i) 0 = nI c) (h1 : M.1 (20 + i) 1 = nI v) : ∃ M', FX6_earn M (20 + i) = some M' ∧ M'.2 = M.2 ∧ (∀ j, j ≠ 0 → j ≠ 4 + v → j ≠ 12 + c → j ≠ 20 + i → M'.1 j = M.1 j) ∧ (∀ k, k ≠ 8 → k ≠ 10 → k ≠ 11 → M'.1 0 k = M.1 0 k) ∧ M'.1 0 8 = M.1 0 8 + M.1 (20 + i) 4 ∧ M'.1 0 10 = M.1 0 10 - M.1 (20 + i) 4 ∧ M'.1 0 11 = M.1 0 11 + 1 ∧ (∀ k, k ≠ 5 → k ≠ 6 → M'.1 (4 + v) k = M.1 (4 + v) k) ∧ M'.1 (4 + v) 5 = M.1 (4 + v) 5 + 1 ∧ M'.1 (4 + v) 6 = M.1 (4 + v) 6 + M.1 (20 + i) 4 ∧ (∀ k, k ≠ 5 → k ≠ 6 → M'.1 (12 + c) k = M.1 (12 + c) k) ∧ M'.1 (12 + c) 5 = M.1 (12 + c) 5 - M.1 (20 + i) 4 ∧ M'.1 (12 + c) 6 = M.1 (12 + c) 6 + 1 ∧ (∀ k, k ≠ 10 → M'.1 (20 + i) k = M.1 (20 + i) k) ∧ M'.1 (20 + i) 10 = M.1 (20 + i) 10 ||| 1 <<< (M.1 (20 + i) 9 &&& 31) := by
  have n1 : (0 : Nat) ≠ 12 + c := by omega
  have n2 : (0 : Nat) ≠ 20 + i := by omega
  have n3 : (0 : Nat) ≠ 4 + v := by omega
  have n4 : 12 + c ≠ 0 := by omega
  have n5 : 12 + c ≠ 20 + i := by omega
  have n6 : 12 + c ≠ 4 + v := by omega
  have n7 : 20 + i ≠ 0 := by omega
  have n8 : 20 + i ≠ 12 + c := by omega
  have n9 : 20 + i ≠ 4 + v := by omega
  have p1 : 4 + v ≠ 0 := by omega
  have p2 : 4 + v ≠ 12 + c := by omega
  have p3 : 4 + v ≠ 20 + i := by omega
  unfold FX6_earn
  rw [h0, h1, gd_t (inI (by omega) (by omega)), gd_t (inI (by omega) (by omega)), nI_c (by omega), nI_c (by omega)]
  simp only [bnd_s]
  refine ⟨_, rfl, rfl, fun j a b d e => ?_, fun k a b d => ?_, ?_, ?_, ?_, fun k a b => ?_, ?_, ?_, fun k a b => ?_, ?_, ?_, fun k a => ?_, ?_⟩
  · simp only [sI_o _ _ _ a, sI_o _ _ _ b, sI_o _ _ _ d, sI_o _ _ _ e]
  · simp only [sI_at, sI_o _ _ _ n1, sI_o _ _ _ n2, sI_o _ _ _ n3, if_neg a, if_neg b, if_neg d]
  · simp only [sI_at, sI_o _ _ _ n1, sI_o _ _ _ n2, sI_o _ _ _ n3, sI_o _ _ _ n7, sI_o _ _ _ n8, sI_o _ _ _ n9]
    rfl
  · simp only [sI_at, sI_o _ _ _ n1, sI_o _ _ _ n2, sI_o _ _ _ n3, sI_o _ _ _ n7, sI_o _ _ _ n8, sI_o _ _ _ n9]
    rfl
  · simp only [sI_at, sI_o _ _ _ n1, sI_o _ _ _ n2, sI_o _ _ _ n3, sI_o _ _ _ n7, sI_o _ _ _ n8, sI_o _ _ _ n9]
    rfl
  · simp only [sI_at, sI_o _ _ _ p1, sI_o _ _ _ p2, sI_o _ _ _ p3, if_neg a, if_neg b]
  · simp only [sI_at, sI_o _ _ _ p1, sI_o _ _ _ p2, sI_o _ _ _ p3, sI_o _ _ _ n7, sI_o _ _ _ n8, sI_o _ _ _ n9]
    rfl
  · simp only [sI_at, sI_o _ _ _ p1, sI_o _ _ _ p2, sI_o _ _ _ p3, sI_o _ _ _ n7, sI_o _ _ _ n8, sI_o _ _ _ n9]
    rfl
  · simp only [sI_at, sI_o _ _ _ n4, sI_o _ _ _ n5, sI_o _ _ _ n6, if_neg a, if_neg b]
  · simp only [sI_at, sI_o _ _ _ n4, sI_o _ _ _ n5, sI_o _ _ _ n6, sI_o _ _ _ n7, sI_o _ _ _ n8, sI_o _ _ _ n9]
    rfl
  · simp only [sI_at, sI_o _ _ _ n4, sI_o _ _ _ n5, sI_o _ _ _ n6, sI_o _ _ _ n7, sI_o _ _ _ n8, sI_o _ _ _ n9]
    rfl
  · simp only [sI_at, sI_o _ _ _ n7, sI_o _ _ _ n8, sI_o _ _ _ n9, if_neg a]
  · simp only [sI_at, sI_o _ _ _ n7, sI_o _ _ _ n8, sI_o _ _ _ n9, if_true]
/-- behind an echo: one more return, and the end if that was the last -/
def bkM (M : MM) (i : Nat) : MM := if M.1 (20 + i) 9 + 1 = M.1 (20 + i) 3 then sI (sI M (20 + i) 9 (M.1 (20 + i) 9 + 1)) (20 + i) 8 1 else sI M (20 + i) 9 (M.1 (20 + i) 9 + 1)
theorem bkM_e (M : MM) (i : Nat) : (bnd (sI M (20 + i) 9 ((M.1 (20 + i) 9) + 1)) fun M18 => if M18.1 (20 + i) 9 = M18.1 (20 + i) 3 then bnd (sI M18 (20 + i) 8 1) fun M20 => some M20 else some M18) = some (bkM M i) := by
  rw [bnd_s]
  have e9 : (sI M (20 + i) 9 (M.1 (20 + i) 9 + 1)).1 (20 + i) 9 = M.1 (20 + i) 9 + 1 := by rw [sI_at, if_pos rfl]
  have e3 : (sI M (20 + i) 9 (M.1 (20 + i) 9 + 1)).1 (20 + i) 3 = M.1 (20 + i) 3 := by rw [sI_at, if_neg (by decide)]
  rw [e9, e3]
  unfold bkM
  by_cases z : M.1 (20 + i) 9 + 1 = M.1 (20 + i) 3
  · rw [if_pos z, if_pos z, bnd_s]
  · rw [if_neg z, if_neg z]
theorem bkM_2 (M : MM) (i : Nat) : (bkM M i).2 = M.2 := by
  unfold bkM
  by_cases z : M.1 (20 + i) 9 + 1 = M.1 (20 + i) 3
  · rw [if_pos z]; rfl
  · rw [if_neg z]; rfl
theorem bkM_o (M : MM) {i j : Nat} (h : j ≠ 20 + i) : (bkM M i).1 j = M.1 j := by
  unfold bkM
  by_cases z : M.1 (20 + i) 9 + 1 = M.1 (20 + i) 3
  · rw [if_pos z, sI_o _ _ _ h, sI_o _ _ _ h]
  · rw [if_neg z, sI_o _ _ _ h]
theorem bkM_k (M : MM) {i k : Nat} (h8 : k ≠ 8) (h9 : k ≠ 9) : (bkM M i).1 (20 + i) k = M.1 (20 + i) k := by
  unfold bkM
  by_cases z : M.1 (20 + i) 9 + 1 = M.1 (20 + i) 3
  · rw [if_pos z, sI_at, if_neg h8, sI_at, if_neg h9]
  · rw [if_neg z, sI_at, if_neg h9]
theorem bkM_9 (M : MM) (i : Nat) : (bkM M i).1 (20 + i) 9 = M.1 (20 + i) 9 + 1 := by
  unfold bkM
  by_cases z : M.1 (20 + i) 9 + 1 = M.1 (20 + i) 3
  · rw [if_pos z, sI_at, if_neg (by decide), sI_at, if_pos rfl]
  · rw [if_neg z, sI_at, if_pos rfl]
theorem bkM_8 (M : MM) (i : Nat) : (bkM M i).1 (20 + i) 8 = if M.1 (20 + i) 9 + 1 = M.1 (20 + i) 3 then 1 else M.1 (20 + i) 8 := by
  unfold bkM
  by_cases z : M.1 (20 + i) 9 + 1 = M.1 (20 + i) 3
  · rw [if_pos z, if_pos z, sI_at, if_pos rfl]
  · rw [if_neg z, if_neg z, sI_at, if_neg (by decide)]
theorem cEchoT {M : MM} {i c v : Nat} (hi : i < 30) (hc : c < 8) (hv : v < 8) (h0 : M.1 (20 + i) 0 = nI c) (h1 : M.1 (20 + i) 1 = nI v) : ∃ M1, FX6_earn M (20 + i) = some M1 ∧ FX6_echo M (20 + i) true = some (bkM M1 i) := by
  obtain ⟨M1, e, -⟩ := cEarn hi hc hv h0 h1
  refine ⟨M1, e, ?_⟩
  unfold FX6_echo
  rw [if_pos rfl, e, bo1_s]
  exact bkM_e M1 i
/-- what a lost echo does to its valley -/
def lsM (M : MM) (v : Nat) : MM := sI (sI (sI M (4 + v) 5 (if 0 < M.1 (4 + v) 5 - 2 then M.1 (4 + v) 5 - 2 else 0)) (4 + v) 7 (M.1 (4 + v) 7 + 1)) 0 12 (M.1 0 12 + 1)
theorem lsM_o (M : MM) {v j : Nat} (h : j ≠ 0) (h4 : j ≠ 4 + v) : (lsM M v).1 j = M.1 j := by
  unfold lsM
  simp only [sI_o _ _ _ h, sI_o _ _ _ h4]
theorem lsM_0 (M : MM) {v k : Nat} (h : k ≠ 12) : (lsM M v).1 0 k = M.1 0 k := by
  unfold lsM
  rw [sI_at, if_neg h, sI_o _ _ _ (by omega), sI_o _ _ _ (by omega)]
theorem lsM_12 (M : MM) (v : Nat) : (lsM M v).1 0 12 = M.1 0 12 + 1 := by
  unfold lsM
  rw [sI_at, if_pos rfl]
theorem lsM_v (M : MM) {v k : Nat} (h5 : k ≠ 5) (h7 : k ≠ 7) : (lsM M v).1 (4 + v) k = M.1 (4 + v) k := by
  unfold lsM
  rw [sI_o _ _ _ (by omega), sI_at, if_neg h7, sI_at, if_neg h5]
theorem lsM_5 (M : MM) (v : Nat) : (lsM M v).1 (4 + v) 5 = if 0 < M.1 (4 + v) 5 - 2 then M.1 (4 + v) 5 - 2 else 0 := by
  unfold lsM
  rw [sI_o _ _ _ (by omega), sI_at, if_neg (by decide), sI_at, if_pos rfl]
theorem lsM_7 (M : MM) (v : Nat) : (lsM M v).1 (4 + v) 7 = M.1 (4 + v) 7 + 1 := by
  unfold lsM
  rw [sI_o _ _ _ (by omega), sI_at, if_pos rfl]
theorem cEchoF {M : MM} {i c v : Nat} (hi : i < 30) (hc : c < 8) (hv : v < 8) (h0 : M.1 (20 + i) 0 = nI c) (h1 : M.1 (20 + i) 1 = nI v) : ∃ M1, FX6_refund M (20 + i) (M.1 (20 + i) 4) = some M1 ∧ FX6_echo M (20 + i) false = some (bkM (lsM M1 v) i) := by
  obtain ⟨M1, e, -, f1, -⟩ := cRefund (M := M) hc h0 (M.1 (20 + i) 4)
  refine ⟨M1, e, ?_⟩
  have e1 : M1.1 (20 + i) 1 = nI v := by rw [f1 _ (by omega) (by omega)]; exact h1
  unfold FX6_echo
  rw [if_neg (by decide), e, bo1_s, e1, gd_t (inI (by omega) (by omega)), nI_c (by omega), bnd_s, bnd_s, bnd_s]
  have a1 : (sI M1 (4 + v) 5 (if 0 < M1.1 (4 + v) 5 - 2 then M1.1 (4 + v) 5 - 2 else 0)).1 (4 + v) 7 = M1.1 (4 + v) 7 := by rw [sI_at, if_neg (by decide)]
  have a2 : (sI (sI M1 (4 + v) 5 (if 0 < M1.1 (4 + v) 5 - 2 then M1.1 (4 + v) 5 - 2 else 0)) (4 + v) 7 (M1.1 (4 + v) 7 + 1)).1 0 12 = M1.1 0 12 := by rw [sI_o _ _ _ (by omega), sI_o _ _ _ (by omega)]
  rw [a1, a2]
  exact bkM_e (lsM M1 v) i
