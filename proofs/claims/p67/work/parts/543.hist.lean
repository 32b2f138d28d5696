set_option maxHeartbeats 400000
/-! the states that undo goes back to -/
theorem cpW_o (w : Wd) (j0 a j2 b m : Nat) {r : Nat} (h : r ≠ 15) : cpW w j0 a j2 b m r = w r := sW_o w _ h
theorem cpW_15 (w : Wd) (j0 a j2 b m : Nat) : cpW w j0 a j2 b m 15 = (rowI (w 15).1 j2 (fun k => if b ≤ k ∧ k < b + m then (w 15).1 j0 (a + (k - b)) else (w 15).1 j2 k), (w 15).2) := sW_s _ _ _
theorem cpW_j (w : Wd) (j0 a j2 b m : Nat) {j : Nat} (h : j ≠ j2) : (cpW w j0 a j2 b m 15).1 j = (w 15).1 j := by
  rw [cpW_15]
  exact rowI_o h
theorem cpW_2 (w : Wd) (j0 a j2 b m : Nat) : (cpW w j0 a j2 b m 15).2 = (w 15).2 := by rw [cpW_15]
theorem cpW_in (w : Wd) (j0 a j2 b : Nat) {m k : Nat} (h : k < m) : (cpW w j0 a j2 b m 15).1 j2 (b + k) = (w 15).1 j0 (a + k) := by
  rw [cpW_15]
  show rowI _ j2 _ j2 (b + k) = _
  rw [rowI_s, if_pos (by omega), show b + k - b = k by omega]
theorem cpW_out (w : Wd) (j0 a j2 b : Nat) {m k : Nat} (h : ¬ (b ≤ k ∧ k < b + m)) : (cpW w j0 a j2 b m 15).1 j2 k = (w 15).1 j2 k := by
  rw [cpW_15]
  show rowI _ j2 _ j2 k = _
  rw [rowI_s, if_neg h]
/-- the kept rows moved down by one -/
def shW (w : Wd) (m : Nat) : Wd := sW w 15 (rowI (w 15).1 6 (fun k => if k < m then (w 15).1 6 (k + 390) else (w 15).1 6 k), (w 15).2)
theorem shW_15 (w : Wd) (m : Nat) : shW w m 15 = (rowI (w 15).1 6 (fun k => if k < m then (w 15).1 6 (k + 390) else (w 15).1 6 k), (w 15).2) := sW_s _ _ _
theorem shW_j (w : Wd) (m : Nat) {j : Nat} (h : j ≠ 6) : (shW w m 15).1 j = (w 15).1 j := by
  rw [shW_15]
  exact rowI_o h
theorem shW_6 (w : Wd) (m k : Nat) : (shW w m 15).1 6 k = if k < m then (w 15).1 6 (k + 390) else (w 15).1 6 k := by
  rw [shW_15]
  show rowI (w 15).1 6 (fun k => if k < m then (w 15).1 6 (k + 390) else (w 15).1 6 k) 6 k = _
  rw [rowI_s]
theorem shW_2 (w : Wd) (m : Nat) : (shW w m 15).2 = (w 15).2 := by rw [shW_15]
theorem sI_2 (M : MM) (j k : Nat) (x : Int32) : (sI M j k x).2 = M.2 := rfl
theorem shW_0 (w : Wd) : shW w 0 = w := by
  unfold shW
  have e : (rowI (w 15).1 6 (fun k => if k < 0 then (w 15).1 6 (k + 390) else (w 15).1 6 k)) = (w 15).1 := by
    funext j k
    by_cases z : j = 6
    · rw [z, rowI_s, if_neg (by omega)]
    · rw [rowI_o z]
  rw [e]
  exact sW_self w 15
theorem n6_ne {ct : Nat} (h : ct ≤ 6) (z : ¬ ct = 6) : ¬ nI ct = (6 : Int32) := fun e => z ((nI_eq (by omega) (by decide)).mp (show nI ct = nI 6 from e))
/-- what keeping the laid-aside row does -/
theorem keeps_ok {n : Nat} (hn : 2500 ≤ n) (w : Wd) {ct : Nat} (hc : ct ≤ 6) (h18 : (w 15).1 0 18 = nI ct) : ∃ w' ct', FX13_keeps n w = some w' ∧ ct' = min (ct + 1) 6 ∧ (∀ r, r ≠ 15 → w' r = w r) ∧ (w' 15).2 = (w 15).2 ∧ (∀ j, j ≠ 0 → j ≠ 6 → (w' 15).1 j = (w 15).1 j) ∧ (∀ k, k ≠ 18 → (w' 15).1 0 k = (w 15).1 0 k) ∧ (w' 15).1 0 18 = nI ct' ∧ (∀ k, k < 390 → (w' 15).1 6 (390 * (ct' - 1) + k) = (w 15).1 4 k) ∧ (∀ j k, j + 1 < ct' → k < 390 → (w' 15).1 6 (390 * (ct' - 1 - (j + 1)) + k) = (w 15).1 6 (390 * (ct - 1 - j) + k)) := by
  have h390 : ∀ c : Nat, (390 : Int32) * nI c = nI (390 * c) := fun c => pk_mul 390 c
  unfold FX13_keeps
  rw [h18]
  by_cases z : ct = 6
  · subst z
    rw [if_pos (show nI 6 = (6 : Int32) from rfl), bnd_s, show nI 6 - 1 = nI 5 from nI_pred 5]
    generalize hw1 : sW w 15 (sI (w 15) 0 18 (nI 5)) = w1
    have a15 : w1 15 = sI (w 15) 0 18 (nI 5) := by rw [← hw1, sW_s]
    have ao : ∀ r, r ≠ 15 → w1 r = w r := fun r hr => by rw [← hw1, sW_o w _ hr]
    have aj : ∀ j, j ≠ 0 → (w1 15).1 j = (w 15).1 j := fun j hj => by rw [a15]; exact sI_o _ _ _ hj
    have a18 : (w1 15).1 0 18 = nI 5 := by rw [a15, sI_at]; rfl
    have a0 : ∀ k, k ≠ 18 → (w1 15).1 0 k = (w 15).1 0 k := fun k hk => by rw [a15, sI_at, if_neg hk]
    have s18 : ∀ m, (shW w1 m 15).1 0 18 = nI 5 := fun m => by
      rw [shW_j w1 m (j := 0) (by decide)]
      exact a18
    obtain ⟨x, hx, e⟩ := loopQ (L := fun k a9 i => FX13_keeps_L21 n k a9 i) (g := fun a9 => bo1 (FX13_copiesRow n a9 4 0 6 (nI 1950)) fun w9 => bnd (sW w9 15 (sI (w9 15) 0 18 (((w9 15).1 0 18) + 1))) fun w11 => some w11) (ns := 1950) (k := n) (fun i x => x = shW w1 i) (fun k x hx => by
      subst hx
      simp only [FX13_keeps_L21]
      rw [s18, h390, if_pos (Int32.le_refl _)]) (fun k x i hi hx => by
      refine ⟨_, rfl, ?_⟩
      subst hx
      simp only [FX13_keeps_L21]
      rw [s18, h390, if_neg (le_nI (n := 1950) hi (by decide)), show nI i + 390 = nI (i + 390) from nI_add i 390, gd_t (inI (by omega) (by decide)), gd_t (inI (by omega) (by decide)), nI_c (by omega), nI_c (by omega), bnd_s, nI_1]
      congr 1
      unfold shW
      rw [sW_s, sW_sW]
      congr 1
      refine Prod.ext ?_ rfl
      funext j k2
      show rowI (rowI (w1 15).1 6 (fun k => if k < i then (w1 15).1 6 (k + 390) else (w1 15).1 6 k)) 6 (upd (rowI (w1 15).1 6 (fun k => if k < i then (w1 15).1 6 (k + 390) else (w1 15).1 6 k) 6) i (rowI (w1 15).1 6 (fun k => if k < i then (w1 15).1 6 (k + 390) else (w1 15).1 6 k) 6 (i + 390))) j k2 = rowI (w1 15).1 6 (fun k => if k < i + 1 then (w1 15).1 6 (k + 390) else (w1 15).1 6 k) j k2
      by_cases z : j = 6
      · rw [z, rowI_s, rowI_s, rowI_s]
        show (if k2 = i then (if i + 390 < i then (w1 15).1 6 (i + 390 + 390) else (w1 15).1 6 (i + 390)) else (if k2 < i then (w1 15).1 6 (k2 + 390) else (w1 15).1 6 k2)) = (if k2 < i + 1 then (w1 15).1 6 (k2 + 390) else (w1 15).1 6 k2)
        by_cases z2 : k2 = i
        · rw [if_pos z2, if_neg (by omega), if_pos (by omega), z2]
        · rw [if_neg z2]
          by_cases z3 : k2 < i
          · rw [if_pos z3, if_pos (by omega)]
          · rw [if_neg z3, if_neg (by omega)]
      · rw [rowI_o z, rowI_o z, rowI_o z]) (by omega) w1 (shW_0 w1).symm
    subst hx
    have hcp := copiesRow_ok (n := n) (by omega) (shW w1 1950) (j0 := 4) (a := 0) (j2 := 6) (b := 1950) (by decide) (by decide) (by decide) (by decide) (by decide)
    have e2 : FX13_keeps_L21 n n w1 0 = _ := e
    rw [show (0 : Int32) = nI 0 from rfl] at e2
    rw [show (0 : Int32) = nI 0 from rfl, e2, hcp, bo1_s, bnd_s]
    have c0 : ∀ k, (cpW (shW w1 1950) 4 0 6 1950 390 15).1 0 k = (w1 15).1 0 k := fun k => by
      rw [cpW_j _ _ _ _ _ _ (j := 0) (by decide), shW_j w1 1950 (j := 0) (by decide)]
    refine ⟨_, 6, rfl, rfl, fun r hr => ?_, ?_, fun j hj0 hj6 => ?_, fun k hk => ?_, ?_, fun k hk => ?_, fun j k hj hk => ?_⟩
    · rw [sW_o _ _ hr, cpW_o _ _ _ _ _ _ hr]
      unfold shW
      rw [sW_o _ _ hr, ao r hr]
    · rw [sW_s, sI_2, cpW_2, shW_2, a15, sI_2]
    · rw [sW_s, sI_o _ _ _ hj0, cpW_j _ _ _ _ _ _ hj6, shW_j w1 1950 hj6, aj j hj0]
    · rw [sW_s, sI_at, if_neg hk, c0, a0 k hk]
    · rw [sW_s, sI_at, if_pos rfl, c0, a18, nI_1]
    · rw [sW_s, sI_o _ _ _ (show (6 : Nat) ≠ 0 by decide), show 390 * (6 - 1) = 1950 from rfl, cpW_in _ _ _ _ _ hk, shW_j w1 1950 (j := 4) (by decide), Nat.zero_add, aj 4 (by decide)]
    · rw [sW_s, sI_o _ _ _ (show (6 : Nat) ≠ 0 by decide), cpW_out _ _ _ _ _ (by omega), shW_6, if_pos (by omega), aj 6 (by decide), show 390 * (6 - 1 - (j + 1)) + k + 390 = 390 * (6 - 1 - j) + k by omega]
  · rw [if_neg (n6_ne hc z), h390]
    have hcp := copiesRow_ok (n := n) (by omega) w (j0 := 4) (a := 0) (j2 := 6) (b := 390 * ct) (by decide) (by decide) (show 390 * ct + 390 ≤ 2340 by omega) (by decide) (by decide)
    rw [show (0 : Int32) = nI 0 from rfl, hcp, bo1_s, bnd_s]
    refine ⟨_, ct + 1, rfl, by omega, fun r hr => ?_, ?_, fun j hj0 hj6 => ?_, fun k hk => ?_, ?_, fun k hk => ?_, fun j k hj hk => ?_⟩
    · rw [sW_o _ _ hr, cpW_o _ _ _ _ _ _ hr]
    · rw [sW_s, sI_2, cpW_2]
    · rw [sW_s, sI_o _ _ _ hj0, cpW_j _ _ _ _ _ _ hj6]
    · rw [sW_s, sI_at, if_neg hk, cpW_j _ _ _ _ _ _ (j := 0) (by decide)]
    · rw [sW_s, sI_at, if_pos rfl, cpW_j _ _ _ _ _ _ (j := 0) (by decide), h18, nI_1]
    · rw [sW_s, sI_o _ _ _ (show (6 : Nat) ≠ 0 by decide), show ct + 1 - 1 = ct by omega, cpW_in _ _ _ _ _ hk, Nat.zero_add]
    · rw [sW_s, sI_o _ _ _ (show (6 : Nat) ≠ 0 by decide), cpW_out _ _ _ _ _ (by omega), show 390 * (ct + 1 - 1 - (j + 1)) + k = 390 * (ct - 1 - j) + k by omega]
/-- what remembering the market does -/
theorem remember_ok {n : Nat} (hn : 100 ≤ n) (w : Wd) {fr ct nv nc ns : Nat} (hf : fr < 6) (hc : ct ≤ 6) (h1 : (w 13).1 0 1 = nI fr) (h2 : (w 13).1 0 2 = nI ct) (hv : (w 1).1 0 3 = nI nv) (hcc : (w 1).1 0 4 = nI nc) (hs : (w 1).1 0 5 = nI ns) (bv : nv ≤ 8) (bc : nc ≤ 8) (bs : ns ≤ 30) : ∃ w', FX5_remember n w 1 = some w' ∧ (∀ r, r ≠ 13 → r ≠ 4 + fr → w' r = w r) ∧ EqM (w 1) (w' (4 + fr)) nv nc ns ∧ (w' 13).1 0 1 = nI ((fr + 1) % 6) ∧ (w' 13).1 0 2 = nI (min (ct + 1) 6) := by
  obtain ⟨M', e, hE⟩ := copyFrom_ok hn (w (4 + fr)) (w 1) hv hcc hs bv bc bs
  have r1 : (nI fr + 1) - (nI fr + 1) / 6 * 6 = nI ((fr + 1) % 6) := by
    have : ∀ k : Fin 6, (nI k.val + 1) - (nI k.val + 1) / 6 * 6 = nI ((k.val + 1) % 6) := by decide +kernel
    exact this ⟨fr, hf⟩
  have r2 : (if 6 < nI ct + 1 then (6 : Int32) else nI ct + 1) = nI (min (ct + 1) 6) := by
    have : ∀ k : Fin 7, (if 6 < nI k.val + 1 then (6 : Int32) else nI k.val + 1) = nI (min (k.val + 1) 6) := by decide +kernel
    exact this ⟨ct, by omega⟩
  unfold FX5_remember
  rw [h1, gd_t (inI hf (by decide)), nI_c (by omega), gd_t (by simp; omega), e, bo1_s, bnd_s, bnd_s, bnd_s]
  have e13 : sW w (4 + fr) M' 13 = w 13 := sW_o w M' (by omega)
  refine ⟨_, rfl, fun r a b => ?_, ?_, ?_, ?_⟩
  · rw [sW_o _ _ a, sW_o _ _ a, sW_o _ _ b]
  · rw [sW_o _ _ (by omega), sW_o _ _ (by omega), sW_s]
    exact hE
  · rw [sW_s, sI_at, if_neg (by decide), sW_s, e13, sI_at, if_pos rfl, h1]
    exact r1
  · rw [sW_s, sI_at, if_pos rfl, sW_s, e13, show ∀ z, (sI (w 13) 0 1 z).1 0 2 = nI ct from fun z => by rw [sI_at]; exact h2]
    exact r2
