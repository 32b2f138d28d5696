set_option maxHeartbeats 400000
/-! FEEDS: the text is the letters -/
def psh (x c : Int32) : Int32 := (x <<< ((8 : Int32) &&& 31)) ||| c
theorem bp_hi {x c : Int32} (hc : ∀ i, 8 ≤ i → bt c i = false) {i : Nat} (hi : i < 32) (h8 : 8 ≤ i) : bt (psh x c) i = bt x (i - 8) := by
  unfold psh
  rw [b_or, show bt (x <<< ((8 : Int32) &&& 31)) i = (decide (8 ≤ i) && bt x (i - 8)) from b_shl 8 (by decide) x hi, hc i h8, decide_eq_true h8, Bool.true_and, Bool.or_false]
theorem bp_lo {x c : Int32} {i : Nat} (h8 : i < 8) : bt (psh x c) i = bt c i := by
  unfold psh
  rw [b_or, show bt (x <<< ((8 : Int32) &&& 31)) i = (decide (8 ≤ i) && bt x (i - 8)) from b_shl 8 (by decide) x (by omega), decide_eq_false (by omega), Bool.false_and, Bool.false_or]
theorem bt_nI {c i : Nat} (h : c < 256) (hi : 8 ≤ i) : bt (nI c) i = false := by
  unfold bt
  show (BitVec.ofNat 32 c).getLsbD i = false
  rw [BitVec.getLsbD_ofNat]
  have : c.testBit i = false := Nat.testBit_lt_two_pow (Nat.lt_of_lt_of_le h (Nat.le_trans (by decide : 256 ≤ 2 ^ 8) (Nat.pow_le_pow_right (by decide) hi)))
  rw [this, Bool.and_false]
theorem byt_psh (x : Int32) {c : Nat → Nat} (hc : ∀ q, c q < 256) {q : Nat} (hq : q < 4) : byt (psh (psh (psh (psh x (nI (c 0))) (nI (c 1))) (nI (c 2))) (nI (c 3))) q = c q := by
  have hz : ∀ q i, 8 ≤ i → bt (nI (c q)) i = false := fun q i hi => bt_nI (hc q) hi
  have key : (psh (psh (psh (psh x (nI (c 0))) (nI (c 1))) (nI (c 2))) (nI (c 3))) >>> (nI (24 - 8 * q) &&& 31) &&& 255 = nI (c q) := by
    apply b_ext
    intro i hi
    rw [b_and, b_255, b_sshr _ (by omega) _ hi]
    by_cases z : i < 8
    · rw [if_pos (by omega), decide_eq_true z, Bool.and_true]
      rcases (show q = 0 ∨ q = 1 ∨ q = 2 ∨ q = 3 by omega) with rfl | rfl | rfl | rfl
      · rw [bp_hi (hz 3) (by omega) (by omega), bp_hi (hz 2) (by omega) (by omega), bp_hi (hz 1) (by omega) (by omega), bp_lo (by omega), show 24 - 8 * 0 + i - 8 - 8 - 8 = i by omega]
      · rw [bp_hi (hz 3) (by omega) (by omega), bp_hi (hz 2) (by omega) (by omega), bp_lo (by omega), show 24 - 8 * 1 + i - 8 - 8 = i by omega]
      · rw [bp_hi (hz 3) (by omega) (by omega), bp_lo (by omega), show 24 - 8 * 2 + i - 8 = i by omega]
      · rw [bp_lo (by omega), show 24 - 8 * 3 + i = i by omega]
    · rw [decide_eq_false z, Bool.and_false, hz q i (by omega)]
  unfold byt
  rw [key, nI_c (by have := hc q; omega)]
/-- the letter at j, a space behind the end -/
def lcn (L : List Nat) (j : Nat) : Nat := if j < L.length then L.getD j 0 else 32
theorem lch_n (L : List Nat) (j : Nat) : lch L j = nI (lcn L j) := by
  unfold lch lcn
  by_cases z : j < L.length
  · rw [if_pos z, if_pos z]
  · rw [if_neg z, if_neg z]; rfl
theorem fdI_at (L : List Nat) (k : Nat) (f : Nat → Int32) : fdI L k 20 0 f 0 = psh (psh (psh (psh (f 0) (lch L (k + 0))) (lch L (k + 1))) (lch L (k + 2))) (lch L (k + 3)) ∧ fdI L k 20 0 f 1 = psh (psh (psh (psh (f 1) (lch L (k + 4))) (lch L (k + 5))) (lch L (k + 6))) (lch L (k + 7)) ∧ fdI L k 20 0 f 2 = psh (psh (psh (psh (f 2) (lch L (k + 8))) (lch L (k + 9))) (lch L (k + 10))) (lch L (k + 11)) ∧ fdI L k 20 0 f 3 = psh (psh (psh (psh (f 3) (lch L (k + 12))) (lch L (k + 13))) (lch L (k + 14))) (lch L (k + 15)) ∧ fdI L k 20 0 f 4 = psh (psh (psh (psh (f 4) (lch L (k + 16))) (lch L (k + 17))) (lch L (k + 18))) (lch L (k + 19)) := ⟨rfl, rfl, rfl, rfl, rfl⟩
theorem byt_at {L : List Nat} (hL : ∀ j, j < L.length → L.getD j 0 < 256) (x : Int32) (a : Nat) {q : Nat} (hq : q < 4) : byt (psh (psh (psh (psh x (lch L (a + 0))) (lch L (a + 1))) (lch L (a + 2))) (lch L (a + 3))) q = lcn L (a + q) := by
  have hc : ∀ q, (fun q => lcn L (a + q)) q < 256 := fun q => by
    show lcn L (a + q) < 256
    unfold lcn
    by_cases z : a + q < L.length
    · rw [if_pos z]; exact hL _ z
    · rw [if_neg z]; decide
  rw [lch_n, lch_n, lch_n, lch_n]
  exact byt_psh x (c := fun q => lcn L (a + q)) hc hq
