/-! odds and ends of the parts that p67 has no use for -/
theorem mn_e (a b : Int32) : (if b < a then b else a) = (if b ≤ a then b else a) := by
  simp only [Int32.lt_iff_toInt_lt, Int32.le_iff_toInt_le]
  by_cases h1 : b.toInt < a.toInt
  · rw [if_pos h1, if_pos (by omega)]
  · rw [if_neg h1]
    by_cases h2 : b.toInt ≤ a.toInt
    · rw [if_pos h2]
      exact Int32.toInt_inj.mp (by omega)
    · rw [if_neg h2]
def evI (r : Nat → Int32) (i : Nat) : Int32 := if endI r i ≤ retI r i then endI r i else retI r i
def evF (r : Nat → Int32) (a : Int32) (i : Nat) : Int32 := if decide (shF r i 6 = 0) = true then (if a = -1 then evI r i else if a ≤ evI r i then a else evI r i) else a
theorem sub_back (a b : Int32) : a + (b - a) = b := by rw [Int32.add_comm, Int32.sub_add_cancel]
