set_option maxHeartbeats 200000
/-! sums and searches -/
theorem loopP {α β : Type} {L : Nat → α → Int32 → Option β} {g : α → Option β} {st : α → Nat → α} {ns : Nat} (P : Nat → α → Prop) (hP : ∀ a i, i < ns → P i a → P (i + 1) (st a i)) (h0 : ∀ k a, P ns a → L (k + 1) a (nI ns) = g a) (h1 : ∀ k a i, i < ns → P i a → L (k + 1) a (nI i) = L k (st a i) (nI (i + 1))) {k : Nat} (hk : ns < k) (a : α) (ha : P 0 a) : L k a 0 = g (foldI st ns a) := by
  have hq : ∀ i, i ≤ ns → P i (foldI st i a) := by
    intro i
    induction i with
    | zero => exact fun _ => ha
    | succ i ih => exact fun hi => hP _ i (by omega) (ih (by omega))
  have H : ∀ d i k, i + d = ns → d < k → L k (foldI st i a) (nI i) = g (foldI st ns a) := by
    intro d
    induction d with
    | zero =>
      intro i k hi hk
      obtain ⟨k, rfl⟩ : ∃ k', k = k' + 1 := ⟨k - 1, by omega⟩
      have e : i = ns := by omega
      subst e
      exact h0 k _ (hq i (Nat.le_refl _))
    | succ d ih =>
      intro i k hi hk
      obtain ⟨k, rfl⟩ : ∃ k', k = k' + 1 := ⟨k - 1, by omega⟩
      rw [h1 k _ i (by omega) (hq i (by omega))]
      exact ih (i + 1) k (by omega) (by omega)
  exact H ns 0 k (by omega) hk
theorem rLeft {w : Wd} {i : Nat} (hi : i < 30) : FX13_left w (nI i) = some (lft (row w) i) := by
  unfold FX13_left lft
  rw [rS6 hi, bo1_s]
  by_cases z : shF (row w) i 6 = 0
  · rw [if_pos z, if_pos z, rS4 hi, bo1_s, rS3 hi, bo1_s, rS7 hi, bo1_s]
  · rw [if_neg z, if_neg z]
theorem rHeldAll {n : Nat} {w : Wd} {ns : Nat} (hs : row w 2 = nI ns) (hb : ns ≤ 30) (hn : ns < n) : FX13_heldAll n w = some (isum ns (lft (row w))) := by
  unfold FX13_heldAll
  refine loopS (L := fun k a i => FX13_heldAll_L4 n k w a i) (g := some) (fun k a => ?_) (fun k a i hi => ?_) hn
  · simp only [FX13_heldAll_L4]
    rw [gd2, show (w 15).1 2 2 = nI ns from hs, if_pos (Int32.le_refl _)]
  · simp only [FX13_heldAll_L4]
    rw [gd2, show (w 15).1 2 2 = nI ns from hs, if_neg (le_nI hi (by omega)), rLeft (by omega), bo1_s, nI_1]
theorem ob_12 {n : Nat} (hn : 1000 ≤ n) {w : Wd} (h : Good w) (a1 a2 a3 a4 a5 : Int32) : ∃ w9, FLc_12 n w a1 a2 a3 a4 a5 = some w9 ∧ Good w9 := by
  obtain ⟨nv, nc, ns, bk, hm⟩ := h.m
  refine ⟨cd w 0, ?_, h.cd 0⟩
  unfold FLc_12 FX12_held FX13_held
  rw [bnd_s, rHeldAll hm.s0 hm.bs (by have := hm.bs; omega), bo1_s, told_e, bnd2_s, bo2_s]
  exact if_pos hm.hold
theorem rOpen {w : Wd} {ns i : Nat} (hs : row w 2 = nI ns) (hb : ns ≤ 30) (hi : i < ns) : FX13_isOpen w (nI i) = some (decide (shF (row w) i 6 = 0)) := by
  unfold FX13_isOpen
  rw [rIsS hs, wi_nI hi hb, bo1_s, if_pos rfl, rS6 (by omega), bo1_s]
  by_cases z : shF (row w) i 6 = 0
  · rw [if_pos z, decide_eq_true z]
  · rw [if_neg z, decide_eq_false z]
theorem rOpenShouts {n : Nat} {w : Wd} {ns : Nat} (hs : row w 2 = nI ns) (hb : ns ≤ 30) (hn : ns < n) : FX13_openShouts n w = some (isum ns (fun i => if shF (row w) i 6 = 0 then 1 else 0), cd w 0) := by
  unfold FX13_openShouts
  refine loopS (L := fun k a i => FX13_openShouts_L4 n k w a i) (g := fun a => some (a, cd w 0)) (fun k a => ?_) (fun k a i hi => ?_) hn
  · simp only [FX13_openShouts_L4]
    rw [gd2, show (w 15).1 2 2 = nI ns from hs, if_pos (Int32.le_refl _), told_e, bnd2_s]
  · simp only [FX13_openShouts_L4]
    rw [gd2, show (w 15).1 2 2 = nI ns from hs, if_neg (le_nI hi (by omega)), rOpen hs hb hi, bo1_s, nI_1, bnd_s]
    by_cases z : shF (row w) i 6 = 0
    · rw [decide_eq_true z, if_pos z]; rfl
    · rw [decide_eq_false z, if_neg z]; rfl
theorem cOpenInAll {n : Nat} {M : MM} {ns : Nat} {r : Nat → Int32} (hs : M.1 0 5 = nI ns) (hb : ns ≤ 30) (hn : ns < n) (he : ∀ i, i < ns → M.1 (20 + i) 8 = shF r i 6) : FX6_openInAll n M = some (isum ns (fun i => if shF r i 6 = 0 then 1 else 0)) := by
  unfold FX6_openInAll
  refine loopS (L := fun k a i => FX6_openInAll_L4 n k M a i) (g := some) (fun k a => ?_) (fun k a i hi => ?_) hn
  · simp only [FX6_openInAll_L4]
    rw [hs, if_pos (Int32.le_refl _)]
  · simp only [FX6_openInAll_L4]
    rw [hs, if_neg (le_nI hi (by omega)), gd_t (inI (by omega) (by omega)), nI_c (by omega), bnd_s, nI_1]
    unfold FX8_isOpen
    rw [he i hi]
    by_cases z : shF r i 6 = 0
    · rw [if_pos z, if_pos z, if_pos rfl]
    · rw [if_neg z, if_neg z, if_neg (by decide)]
theorem ob_14 {n : Nat} (hn : 1000 ≤ n) {w : Wd} (h : Good w) (a1 a2 a3 a4 a5 : Int32) : ∃ w9, FLc_14 n w a1 a2 a3 a4 a5 = some w9 ∧ Good w9 := by
  obtain ⟨nv, nc, ns, bk, hm⟩ := h.m
  have hb := hm.bs
  refine ⟨cd w 0, ?_, h.cd 0⟩
  unfold FLc_14 FX12_openShouts
  rw [cOpenInAll hm.s1 hm.bs (by omega) (fun i hi => (hm.ss i hi).e8), bo1_s, bo1_s, rOpenShouts hm.s0 hm.bs (by omega), bo2_s]
  exact if_pos rfl
-- bits
theorem rBits {n : Nat} (hn : 10 ≤ n) {m : Nat} (hm : m < 16) : FX13_bits n (nI m) = some (nI (bcN m)) := by
  obtain ⟨n, rfl⟩ : ∃ q, n = q + 10 := ⟨n - 10, by omega⟩
  match m, hm with
  | 0, _ | 1, _ | 2, _ | 3, _ | 4, _ | 5, _ | 6, _ | 7, _ | 8, _ | 9, _ | 10, _ | 11, _ | 12, _ | 13, _ | 14, _ | 15, _ => rfl
  | q + 16, h => exact absurd h (by omega)
theorem cBits {m : Nat} (hm : m < 16) : FJ6_bitCount_0f7a4 (nI m) = nI (bcN m) := by
  match m, hm with
  | 0, _ | 1, _ | 2, _ | 3, _ | 4, _ | 5, _ | 6, _ | 7, _ | 8, _ | 9, _ | 10, _ | 11, _ | 12, _ | 13, _ | 14, _ | 15, _ => decide +kernel
  | q + 16, h => exact absurd h (by omega)
