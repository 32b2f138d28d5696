set_option maxHeartbeats 400000
/-! EVENT AFTER EVENT: each moves an open shout -/
theorem rn_nums {w : Wd} {nv nc ns : Nat} (h : Good w) {M : MM} {bk' : Nat → Nat} (q : RelN M (row w) nv nc ns bk') : ∃ bk, RelM (w 1) (row w) nv nc ns bk := by
  obtain ⟨nv', nc', ns', bk, hm⟩ := h.m
  have e1 : nv' = nv := (nI_eq (by have := hm.bv; omega) (by have := q.bv; omega)).mp (hm.v0.symm.trans q.v0)
  have e2 : nc' = nc := (nI_eq (by have := hm.bc; omega) (by have := q.bc; omega)).mp (hm.c0.symm.trans q.c0)
  have e3 : ns' = ns := (nI_eq (by have := hm.bs; omega) (by have := q.bs; omega)).mp (hm.s0.symm.trans q.s0)
  subst e1; subst e2; subst e3
  exact ⟨bk, hm⟩
theorem isum_nI (g : Nat → Nat) : ∀ n, isum n (fun i => nI (g i)) = nI (nsum n g)
  | 0 => rfl
  | n + 1 => by simp only [isum, nsum]; rw [isum_nI g n, nI_add]
theorem nsum_mono {f g : Nat → Nat} : ∀ {n : Nat}, (∀ j, j < n → f j ≤ g j) → nsum n f ≤ nsum n g
  | 0, _ => Nat.le_refl _
  | n + 1, h => by
    have h1 := nsum_mono (n := n) (fun j hj => h j (by omega))
    have h2 := h n (by omega)
    simp only [nsum]
    omega
theorem nsum_strict {f g : Nat → Nat} {i : Nat} : ∀ {n : Nat}, i < n → (∀ j, j < n → f j ≤ g j) → f i < g i → nsum n f < nsum n g
  | 0, hi, _, _ => absurd hi (Nat.not_lt_zero i)
  | n + 1, hi, h, hl => by
    simp only [nsum]
    have h2 := h n (by omega)
    by_cases e : i = n
    · subst e
      have h1 := nsum_mono (n := i) (fun j hj => h j (by omega))
      omega
    · have h1 := nsum_strict (n := n) (by omega) (fun j hj => h j (by omega)) hl
      omega
/-- how much may still happen -/
def todo (r : Nat → Int32) (j : Nat) : Nat := if shF r j 6 = 0 then 5 - (shF r j 7).toNatClampNeg else 0
theorem ft_todo {r r' : Nat → Int32} {ns j : Nat} (h : FT r r' ns) (hj : j < ns) : todo r' j ≤ todo r j := by
  obtain ⟨x, y, a1, a2, a3, a4⟩ := h.2.2.1 j hj
  unfold todo
  by_cases z : shF r' j 6 = 0
  · rw [if_pos z, if_pos (h.2.1 j hj z), a1, a2, nI_c (by omega), nI_c (by omega)]
    omega
  · rw [if_neg z]; exact Nat.zero_le _
theorem sec_ky {r r' : Nat → Int32} {ns j : Nat} (h : KY r r' ns) (hj : j < ns) (h0 : (shF r j 0).toNatClampNeg < 8) (h1 : (shF r j 1).toNatClampNeg < 8) : ends r' j = ends r j ∧ ∀ k, sec r' j k = sec r j k := by
  unfold ends sec
  rw [h.1 j hj 5 (by decide), h.1 j hj 0 (by decide), h.1 j hj 1 (by decide), h.2.1 _ h1, h.2.2 _ h0]
  exact ⟨rfl, fun _ => rfl⟩
