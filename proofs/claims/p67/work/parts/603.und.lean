set_option maxHeartbeats 400000
/-! AN UNDOABLE CALL once more: what its row is behind it, and that no cell of the class is touched by the reference -/
/-- good, and the text as it was -/
def GT (w w9 : Wd) : Prop := Good w9 ∧ w9 10 = w 10
theorem und_2 {n : Nat} (hn : 2500 ≤ n) {w : Wd} (h : Good w) (fc : MM → Option (Int32 × MM)) (fr : Wd → Option (Int32 × Wd)) {Pq : Int32 → MM → (Nat → Int32) → Prop} (hp : ∀ w9, row w9 = row w → ∃ x M' w', fc (w 1) = some (x, M') ∧ fr w9 = some (x, w') ∧ Fr w9 w' ∧ RM M' (row w') ∧ Pq x M' (row w')) : ∃ w6 x M' wF, FX5_remember n w 1 = some w6 ∧ w6 1 = w 1 ∧ fc (w 1) = some (x, M') ∧ row (ow (sW w6 1 M') x) = row w ∧ (bo1 (FX13_laysAside n (cd (ow (sW w6 1 M') x) 0)) fun w12 => bo2 (fr w12) fun x15 w16 => bo2 (FX13_kept n w16 x15) fun x19 w20 => some (x19, w20)) = some (x, wF) ∧ chk 0 x wF = some wF ∧ GT w wF ∧ AG wF (sW w6 1 M') ∧ Pq x M' (row wF) := by
  obtain ⟨nv, nc, ns, bk, hm⟩ := h.m
  obtain ⟨f0, ct, hf, hc, h1, h2, h3, h4⟩ := h.h.cnt
  obtain ⟨w6, e6, r6⟩ := remember_ok (n := n) (by omega) w hf hc h1 h2 hm.v1 hm.c1 hm.s1 hm.bv hm.bc hm.bs
  have e61 : w6 1 = w 1 := r6.1 1 (by decide) (by omega)
  obtain ⟨x, M', _, ef, _⟩ := hp w rfl
  refine ⟨w6, x, M', ?_⟩
  generalize hwA : ow (sW w6 1 M') x = wA
  have hA : ∀ r, r ≠ 1 → r ≠ 16 → wA r = w6 r := fun r a b => by rw [← hwA, ow_o _ _ b, sW_o _ _ a]
  have hA1 : wA 1 = M' := by rw [← hwA, ow_o _ _ (by decide), sW_s]
  have hA16 : (wA 16).2 0 0 = x.toInt64 := by rw [← hwA]; exact ow_v _ _
  have hA15 : wA 15 = w 15 := by rw [hA 15 (by decide) (by decide), r6.1 15 (by decide) (by omega)]
  obtain ⟨w9, e9, h9⟩ := pre_ok (n := n) (by omega) wA
  have hr9 : row w9 = row w := by
    show (w9 15).1 2 = (w 15).1 2
    rw [h9.2.2.1 2 (by decide) (by decide), hA15]
  obtain ⟨x', M2, wB, ef', er, hF, hM, hP⟩ := hp w9 hr9
  have hj := Option.some.inj (ef'.symm.trans ef)
  have hx : x' = x := congrArg Prod.fst hj
  have hM2 : M2 = M' := congrArg Prod.snd hj
  subst hx
  subst hM2
  obtain ⟨wF, eF, hG, ht, h16⟩ := change_run hn h (wB := wB) hf hc h3 h4 hm r6 hA h9 hF.1 hF.2.2.1 hF.2.2.2 (by rw [hA1]; exact hM)
  have h18 : (wB 15).1 0 18 = nI ct := by rw [hF.2.2.2 18 (by decide) (by decide), h9.2.2.2.1 18 (by decide), hA15]; exact h3
  obtain ⟨wF2, ct2, eF2, -, k1, -, k3, -⟩ := keeps_ok hn wB hc h18
  have e2 : wF2 = wF := Option.some.inj (eF2.symm.trans eF)
  subst e2
  refine ⟨wF2, e6, e61, ef, congrFun (congrArg Prod.fst hA15) 2, ?_, chk_0 ht (by rw [h16, hA16]), ⟨hG, by rw [k1 10 (by omega), hF.1 10 (by omega), h9.1 10 (by omega), ← hwA, ow_o _ _ (by omega), sW_o _ _ (by decide), r6.1 10 (by decide) (by omega)]⟩, fun r hr => ?_, ?_⟩
  · rw [e9, bo1_s, er, bo2_s]
    unfold FX13_kept
    rw [eF, bo1_s, bo2_s]
  · rw [k1 r (by omega), hF.1 r (by omega), h9.1 r (by omega), ← hwA, ow_o _ _ (by omega)]
  · rw [show row wF2 = row wB from k3 2 (by decide) (by decide)]
    exact hP
