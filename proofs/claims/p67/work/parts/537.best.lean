set_option maxHeartbeats 200000
/-! the best of all -/
theorem nI_m1 {j : Nat} (h : j ≤ 3000) : ¬ nI j = (-1 : Int32) := fun e => nI_pos (n := j) (by omega) (by rw [e]; decide)
def bestF (bt : Nat → Nat → Bool) (b : Int32) (i : Nat) : Int32 := if b = -1 then nI i else if bt i b.toNatClampNeg = true then nI i else b
def bP (i : Nat) (b : Int32) : Prop := b = -1 ∨ ∃ j, j < i ∧ b = nI j
theorem bestF_P {bt : Nat → Nat → Bool} {b : Int32} {i : Nat} (h : bP i b) : bP (i + 1) (bestF bt b i) := by
  unfold bestF
  by_cases z : b = -1
  · rw [if_pos z]
    exact Or.inr ⟨i, by omega, rfl⟩
  · rw [if_neg z]
    obtain ⟨j, hj, rfl⟩ := h.resolve_left z
    by_cases z2 : bt i (nI j).toNatClampNeg = true
    · rw [if_pos z2]
      exact Or.inr ⟨i, by omega, rfl⟩
    · rw [if_neg z2]
      exact Or.inr ⟨j, by omega, rfl⟩
theorem bestF_m {bt : Nat → Nat → Bool} {i : Nat} : bestF bt (-1) i = nI i := if_pos rfl
theorem bestF_j {bt : Nat → Nat → Bool} {i j : Nat} (h : j ≤ 3000) : bestF bt (nI j) i = if bt i j = true then nI i else nI j := by
  unfold bestF
  rw [if_neg (nI_m1 h), nI_c (by omega)]
theorem ite_some {α : Type} {c : Prop} [Decidable c] {a b : α} : (if c then some a else some b) = some (if c then a else b) := by
  by_cases z : c
  · rw [if_pos z, if_pos z]
  · rw [if_neg z, if_neg z]
theorem bt_c (a b p q : Int32) : (if b < a then true else if a = b then (if q ≤ p then false else true) else false) = (if a = b then (if q ≤ p then false else true) else (if a ≤ b then false else true)) := by
  simp only [Int32.lt_iff_toInt_lt, Int32.le_iff_toInt_le, ← Int32.toInt_inj]
  repeat' split
  all_goals first | rfl | (exfalso; omega)
theorem ch_c (p q a b : Int32) : (if p < q then true else if p = q then (if a ≤ b then false else true) else false) = (if p = q then (if a ≤ b then false else true) else (if q ≤ p then false else true)) := by
  simp only [Int32.lt_iff_toInt_lt, Int32.le_iff_toInt_le, ← Int32.toInt_inj]
  repeat' split
  all_goals first | rfl | (exfalso; omega)
/-- better rated; cheaper -/
def btV (r : Nat → Int32) (i j : Nat) : Bool := if vaF r i 4 = vaF r j 4 then (if vaF r j 2 ≤ vaF r i 2 then false else true) else (if vaF r i 4 ≤ vaF r j 4 then false else true)
def chV (r : Nat → Int32) (i j : Nat) : Bool := if vaF r i 2 = vaF r j 2 then (if vaF r i 4 ≤ vaF r j 4 then false else true) else (if vaF r j 2 ≤ vaF r i 2 then false else true)
theorem rBetter {w : Wd} {i j : Nat} (hi : i < 8) (hj : j < 8) : FX13_isBetter w (nI i) (nI j) = some (btV (row w) i j) := by
  unfold FX13_isBetter btV
  rw [rV4 hi, bo1_s, rV4 hj, bo1_s]
  by_cases z : vaF (row w) i 4 = vaF (row w) j 4
  · rw [if_pos z, if_pos z, rV2 hi, bo1_s, rV2 hj, bo1_s, ite_some]
  · rw [if_neg z, if_neg z, bo1_s, bo1_s, ite_some]
theorem rCheaper {w : Wd} {i j : Nat} (hi : i < 8) (hj : j < 8) : FX13_isCheaper w (nI i) (nI j) = some (chV (row w) i j) := by
  unfold FX13_isCheaper chV
  rw [rV2 hi, bo1_s, rV2 hj, bo1_s]
  by_cases z : vaF (row w) i 2 = vaF (row w) j 2
  · rw [if_pos z, if_pos z, rV4 hi, bo1_s, rV4 hj, bo1_s, ite_some]
  · rw [if_neg z, if_neg z, bo1_s, bo1_s, ite_some]
theorem cBetter {M : MM} {r : Nat → Int32} {i j : Nat} (h1 : M.1 (4 + i) 5 = vaF r i 4) (h2 : M.1 (4 + j) 5 = vaF r j 4) (h3 : M.1 (4 + i) 3 = vaF r i 2) (h4 : M.1 (4 + j) 3 = vaF r j 2) : FX6_isRatedBetter M (4 + i) (4 + j) = btV r i j := by
  unfold FX6_isRatedBetter btV
  rw [h1, h2, h3, h4]
  exact bt_c _ _ _ _
theorem cCheaper {M : MM} {r : Nat → Int32} {i j : Nat} (h1 : M.1 (4 + i) 5 = vaF r i 4) (h2 : M.1 (4 + j) 5 = vaF r j 4) (h3 : M.1 (4 + i) 3 = vaF r i 2) (h4 : M.1 (4 + j) 3 = vaF r j 2) : FX6_isOfferedBetter M (4 + i) (4 + j) = chV r i j := by
  unfold FX6_isOfferedBetter chV
  rw [h1, h2, h3, h4]
  exact ch_c _ _ _ _
theorem rBestV {n : Nat} (hn : 100 ≤ n) {w : Wd} {nv : Nat} (hs : row w 0 = nI nv) (hb : nv ≤ 8) : FX13_bestValley n w = some (foldI (bestF (btV (row w))) nv (-1), cd w 0) := by
  unfold FX13_bestValley
  refine loopP (L := fun k a i => FX13_bestValley_L4 n k w a i) (g := fun a => some (a, cd w 0)) bP (fun a i hi h => bestF_P h) (fun k a ha => ?_) (fun k a i hi ha => ?_) (by omega) (-1) (Or.inl rfl)
  · simp only [FX13_bestValley_L4]
    rw [gd0, show (w 15).1 2 0 = nI nv from hs, if_pos (Int32.le_refl _), told_e, bnd2_s]
  · simp only [FX13_bestValley_L4]
    rw [gd0, show (w 15).1 2 0 = nI nv from hs, if_neg (le_nI hi (by omega)), nI_1]
    rcases ha with rfl | ⟨j, hj, rfl⟩
    · rw [if_pos rfl, bestF_m]
    · rw [if_neg (nI_m1 (by omega)), rBetter (by omega) (by omega), bo1_s, bestF_j (by omega)]
      by_cases z : btV (row w) i j = true
      · rw [if_pos z, if_pos z]
      · rw [if_neg z, if_neg z]
theorem cBestV {n : Nat} (hn : 100 ≤ n) {r : Nat → Int32} {M : MM} {nv nc ns : Nat} {bk : Nat → Nat} (hm : RelM M r nv nc ns bk) : FX6_valleyRatedBest n M = some (foldI (bestF (btV r)) nv (-1)) := by
  have hb := hm.bv
  unfold FX6_valleyRatedBest
  refine loopP (L := fun k a i => FX6_valleyRatedBest_L4 n k M a i) (g := some) bP (fun a i hi h => bestF_P h) (fun k a ha => ?_) (fun k a i hi ha => ?_) (by omega) (-1) (Or.inl rfl)
  · simp only [FX6_valleyRatedBest_L4]
    rw [hm.v1, if_pos (Int32.le_refl _)]
  · simp only [FX6_valleyRatedBest_L4]
    rw [hm.v1, if_neg (le_nI hi (by omega)), nI_1]
    rcases ha with rfl | ⟨j, hj, rfl⟩
    · rw [if_pos rfl, bestF_m]
    · rw [if_neg (nI_m1 (by omega)), gd_t (inI (by omega) (by omega)), gd_t (inI (by omega) (by omega)), nI_c (by omega), nI_c (by omega), cBetter (hm.vs i hi).e5 (hm.vs j (by omega)).e5 (hm.vs i hi).e3 (hm.vs j (by omega)).e3, bnd_s, bestF_j (by omega)]
      by_cases z : btV r i j = true
      · rw [if_pos z, if_pos z]
      · rw [if_neg z, if_neg z]
theorem ob_23 {n : Nat} (hn : 1000 ≤ n) {w : Wd} (h : Good w) (a1 a2 a3 a4 a5 : Int32) : ∃ w9, FLc_23 n w a1 a2 a3 a4 a5 = some w9 ∧ Good w9 := by
  obtain ⟨nv, nc, ns, bk, hm⟩ := h.m
  refine ⟨cd w 0, ?_, h.cd 0⟩
  unfold FLc_23 FX12_bestValley
  rw [cBestV (by omega) hm, bo1_s, bo1_s, rBestV (by omega) hm.v0 hm.bv, bo2_s]
  exact if_pos rfl
def btC (r : Nat → Int32) (i j : Nat) : Bool := !decide (cuF r i 3 ≤ cuF r j 3)
theorem rBestC {n : Nat} (hn : 100 ≤ n) {w : Wd} {nv : Nat} (hs : row w 1 = nI nv) (hb : nv ≤ 8) : FX13_bestCustomer n w = some (foldI (bestF (btC (row w))) nv (-1), cd w 0) := by
  unfold FX13_bestCustomer
  refine loopP (L := fun k a i => FX13_bestCustomer_L4 n k w a i) (g := fun a => some (a, cd w 0)) bP (fun a i hi h => bestF_P h) (fun k a ha => ?_) (fun k a i hi ha => ?_) (by omega) (-1) (Or.inl rfl)
  · simp only [FX13_bestCustomer_L4]
    rw [gd1, show (w 15).1 2 1 = nI nv from hs, if_pos (Int32.le_refl _), told_e, bnd2_s]
  · simp only [FX13_bestCustomer_L4]
    rw [gd1, show (w 15).1 2 1 = nI nv from hs, if_neg (le_nI hi (by omega)), nI_1]
    rcases ha with rfl | ⟨j, hj, rfl⟩
    · rw [if_pos rfl, bestF_m]
    · rw [if_neg (nI_m1 (by omega)), rC3 (by omega), bo1_s, rC3 (by omega), bo1_s, bestF_j (by omega)]
      unfold btC
      by_cases z : cuF (row w) i 3 ≤ cuF (row w) j 3
      · rw [if_pos z, decide_eq_true z, if_neg (by decide)]
      · rw [if_neg z, decide_eq_false z, if_pos (by decide)]
theorem cBestC {n : Nat} (hn : 100 ≤ n) {r : Nat → Int32} {M : MM} {nv nc ns : Nat} {bk : Nat → Nat} (hm : RelM M r nv nc ns bk) : FX6_customerHearingMost n M = some (foldI (bestF (btC r)) nc (-1)) := by
  have hb := hm.bc
  unfold FX6_customerHearingMost
  refine loopP (L := fun k a i => FX6_customerHearingMost_L4 n k M a i) (g := some) bP (fun a i hi h => bestF_P h) (fun k a ha => ?_) (fun k a i hi ha => ?_) (by omega) (-1) (Or.inl rfl)
  · simp only [FX6_customerHearingMost_L4]
    rw [hm.c1, if_pos (Int32.le_refl _)]
  · simp only [FX6_customerHearingMost_L4]
    rw [hm.c1, if_neg (le_nI hi (by omega)), nI_1]
    rcases ha with rfl | ⟨j, hj, rfl⟩
    · rw [if_pos rfl, bestF_m]
    · rw [if_neg (nI_m1 (by omega)), gd_t (inI (by omega) (by omega)), gd_t (inI (by omega) (by omega)), nI_c (by omega), nI_c (by omega), (hm.cs i hi).e6, (hm.cs j (by omega)).e6, bestF_j (by omega)]
      unfold btC
      by_cases z : cuF r i 3 ≤ cuF r j 3
      · rw [if_pos z, decide_eq_true z, if_neg (by decide)]
      · rw [if_neg z, decide_eq_false z, if_pos (by decide)]
theorem ob_33 {n : Nat} (hn : 1000 ≤ n) {w : Wd} (h : Good w) (a1 a2 a3 a4 a5 : Int32) : ∃ w9, FLc_33 n w a1 a2 a3 a4 a5 = some w9 ∧ Good w9 := by
  obtain ⟨nv, nc, ns, bk, hm⟩ := h.m
  refine ⟨cd w 0, ?_, h.cd 0⟩
  unfold FLc_33 FX12_bestCustomer
  rw [cBestC (by omega) hm, bo1_s, bo1_s, rBestC (by omega) hm.c0 hm.bc, bo2_s]
  exact if_pos rfl
