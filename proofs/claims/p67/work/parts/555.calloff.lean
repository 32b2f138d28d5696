set_option maxHeartbeats 400000
/-! the class's calling off in closed form -/
theorem cCallOff {M : MM} {r : Nat → Int32} {nv nc ns i : Nat} {bk : Nat → Nat} (hm : RelM M r nv nc ns bk) (hi : i < ns) (ho : shF r i 6 = 0) {c : Nat} (hc : c < nc) (h : shF r i 0 = nI c) : ∃ M', FX6_callOff M (nI i) = some (lft r i, M') ∧ M'.2 = M.2 ∧ (∀ j, j ≠ 0 → j ≠ 12 + c → j ≠ 20 + i → M'.1 j = M.1 j) ∧ (∀ k, k ≠ 9 → k ≠ 10 → M'.1 0 k = M.1 0 k) ∧ M'.1 0 9 = M.1 0 9 + lft r i ∧ M'.1 0 10 = M.1 0 10 - lft r i ∧ (∀ k, k ≠ 3 → k ≠ 5 → M'.1 (12 + c) k = M.1 (12 + c) k) ∧ M'.1 (12 + c) 3 = M.1 (12 + c) 3 + lft r i ∧ M'.1 (12 + c) 5 = M.1 (12 + c) 5 - lft r i ∧ (∀ k, k ≠ 8 → M'.1 (20 + i) k = M.1 (20 + i) k) ∧ M'.1 (20 + i) 8 = 2 := by
  have hb := hm.bs
  have hbc := hm.bc
  have hS := hm.ss i hi
  have n1 : (0 : Nat) ≠ 12 + c := by omega
  have n2 : (0 : Nat) ≠ 20 + i := by omega
  have n3 : 12 + c ≠ 20 + i := by omega
  have n4 : 20 + i ≠ 12 + c := by omega
  have n5 : 12 + c ≠ 0 := by omega
  have n6 : 20 + i ≠ 0 := by omega
  have ea : FX8_amountToCome M (20 + i) = lft r i := by
    unfold FX8_amountToCome
    rw [hS.e4, hS.e3, hS.e9, lft_open ho]
  have e0 : (sI M (20 + i) 8 2).1 (20 + i) 0 = nI c := by
    rw [sI_at, if_neg (by decide), hS.e0]
    exact h
  unfold FX6_callOff FX6_refund
  rw [gd_t (inI (by omega) (by omega)), nI_c (by omega), ea, bnd_s, bnd_s, e0, gd_t (inI (by omega) (by omega)), nI_c (by omega), bnd_s, bnd_s, bnd_s, bnd_s, bo1_s]
  refine ⟨_, rfl, rfl, fun j a b d => ?_, fun k a b => ?_, ?_, ?_, fun k a b => ?_, ?_, ?_, fun k a => ?_, ?_⟩
  · simp only [sI_o _ _ _ a, sI_o _ _ _ b, sI_o _ _ _ d]
  · simp only [sI_at, sI_o _ _ _ n1, sI_o _ _ _ n2, if_neg a, if_neg b]
  · simp only [sI_at, sI_o _ _ _ n1, sI_o _ _ _ n2, if_true]
    rfl
  · simp only [sI_at, sI_o _ _ _ n1, sI_o _ _ _ n2, if_true]
    rfl
  · simp only [sI_at, sI_o _ _ _ n5, sI_o _ _ _ n3, if_neg a, if_neg b]
  · simp only [sI_at, sI_o _ _ _ n5, sI_o _ _ _ n3, if_true]
    rfl
  · simp only [sI_at, sI_o _ _ _ n5, sI_o _ _ _ n3, if_true]
    rfl
  · simp only [sI_at, sI_o _ _ _ n6, sI_o _ _ _ n4, if_neg a]
  · simp only [sI_at, sI_o _ _ _ n6, sI_o _ _ _ n4, if_true]
