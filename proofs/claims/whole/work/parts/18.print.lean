theorem q_31 : Cond.selects RX12 yX12_printName yX12_printName ∈ WALL := WALL_in (List.mem_append_left _ (List.mem_of_getElem? (i := 31) rfl)) rfl
theorem q_282 : Cond.fieldLink RX12 341 RX2 "name" "J" ∈ WALL := WALL_in (List.mem_append_right _ (List.mem_append_left _ (List.mem_of_getElem? (i := 147) rfl))) rfl
theorem q_330 : Cond.fieldLink RX12 349 RX8 "order" "I" ∈ WALL := WALL_in (List.mem_append_right _ (List.mem_append_left _ (List.mem_of_getElem? (i := 195) rfl))) rfl
theorem q_561 : Cond.superclass RJ4 RJ5 ∈ WALL := WALL_in (List.mem_append_right _ (List.mem_append_right _ (List.mem_append_left _ (List.mem_of_getElem? (i := 186) rfl)))) rfl
theorem q_1658 : Cond.instanceMethod yX12_printReceipt ∈ WALL := WALL_in (List.mem_append_right _ (List.mem_append_right _ (List.mem_append_right _ (List.mem_append_right _ (List.mem_append_right _ (List.mem_append_right _ (List.mem_append_right _ (List.mem_append_left _ (List.mem_of_getElem? (i := 83) rfl))))))))) rfl
theorem q_1659 : Cond.selects RX12 yX12_printReceipt yX12_printReceipt ∈ WALL := WALL_in (List.mem_append_right _ (List.mem_append_right _ (List.mem_append_right _ (List.mem_append_right _ (List.mem_append_right _ (List.mem_append_right _ (List.mem_append_right _ (List.mem_append_left _ (List.mem_of_getElem? (i := 84) rfl))))))))) rfl
theorem q_1660 : Cond.code yX12_printReceipt cX12_printReceipt 4 (some .int) ∈ WALL := WALL_in (List.mem_append_right _ (List.mem_append_right _ (List.mem_append_right _ (List.mem_append_right _ (List.mem_append_right _ (List.mem_append_right _ (List.mem_append_right _ (List.mem_append_left _ (List.mem_of_getElem? (i := 85) rfl))))))))) rfl
theorem q_1661 : Cond.methodLink RX12 338 yJ4_setLength_d00df ∈ WALL := WALL_in (List.mem_append_right _ (List.mem_append_right _ (List.mem_append_right _ (List.mem_append_right _ (List.mem_append_right _ (List.mem_append_right _ (List.mem_append_right _ (List.mem_append_left _ (List.mem_of_getElem? (i := 86) rfl))))))))) rfl
theorem q_1662 : Cond.instanceMethod yJ4_setLength_d00df ∈ WALL := WALL_in (List.mem_append_right _ (List.mem_append_right _ (List.mem_append_right _ (List.mem_append_right _ (List.mem_append_right _ (List.mem_append_right _ (List.mem_append_right _ (List.mem_append_left _ (List.mem_of_getElem? (i := 87) rfl))))))))) rfl
theorem q_1663 : Cond.selects RJ4 yJ4_setLength_d00df yJ4_setLength_d00df ∈ WALL := WALL_in (List.mem_append_right _ (List.mem_append_right _ (List.mem_append_right _ (List.mem_append_right _ (List.mem_append_right _ (List.mem_append_right _ (List.mem_append_right _ (List.mem_append_left _ (List.mem_of_getElem? (i := 88) rfl))))))))) rfl
theorem q_1665 : Cond.methodLink RJ4 333 yJ5_setLength_d00df ∈ WALL := WALL_in (List.mem_append_right _ (List.mem_append_right _ (List.mem_append_right _ (List.mem_append_right _ (List.mem_append_right _ (List.mem_append_right _ (List.mem_append_right _ (List.mem_append_left _ (List.mem_of_getElem? (i := 90) rfl))))))))) rfl
theorem q_1666 : Cond.instanceMethod yJ5_setLength_d00df ∈ WALL := WALL_in (List.mem_append_right _ (List.mem_append_right _ (List.mem_append_right _ (List.mem_append_right _ (List.mem_append_right _ (List.mem_append_right _ (List.mem_append_right _ (List.mem_append_left _ (List.mem_of_getElem? (i := 91) rfl))))))))) rfl
theorem q_1774 : Cond.instanceMethod yJ4_append_bf812 ∈ WALL := WALL_in (List.mem_append_right _ (List.mem_append_right _ (List.mem_append_right _ (List.mem_append_right _ (List.mem_append_right _ (List.mem_append_right _ (List.mem_append_right _ (List.mem_append_left _ (List.mem_of_getElem? (i := 199) rfl))))))))) rfl
theorem q_1775 : Cond.selects RJ4 yJ4_append_bf812 yJ4_append_bf812 ∈ WALL := WALL_in (List.mem_append_right _ (List.mem_append_right _ (List.mem_append_right _ (List.mem_append_right _ (List.mem_append_right _ (List.mem_append_right _ (List.mem_append_right _ (List.mem_append_left _ (List.mem_of_getElem? (i := 200) rfl))))))))) rfl
theorem q_1777 : Cond.methodLink RJ4 53 yJ5_append_c97b9 ∈ WALL := WALL_in (List.mem_append_right _ (List.mem_append_right _ (List.mem_append_right _ (List.mem_append_right _ (List.mem_append_right _ (List.mem_append_right _ (List.mem_append_right _ (List.mem_append_left _ (List.mem_of_getElem? (i := 202) rfl))))))))) rfl
theorem q_1778 : Cond.instanceMethod yJ5_append_c97b9 ∈ WALL := WALL_in (List.mem_append_right _ (List.mem_append_right _ (List.mem_append_right _ (List.mem_append_right _ (List.mem_append_right _ (List.mem_append_right _ (List.mem_append_right _ (List.mem_append_left _ (List.mem_of_getElem? (i := 203) rfl))))))))) rfl
theorem q_1817 : Cond.instanceMethod yJ5_length_8abf5 ∈ WALL := WALL_in (List.mem_append_right _ (List.mem_append_right _ (List.mem_append_right _ (List.mem_append_right _ (List.mem_append_right _ (List.mem_append_right _ (List.mem_append_right _ (List.mem_append_right _ (List.mem_append_left _ (List.mem_of_getElem? (i := 2) rfl)))))))))) rfl
theorem q_1818 : Cond.sameMethod RJ5 RJ5 "length" "()I" ∈ WALL := WALL_in (List.mem_append_right _ (List.mem_append_right _ (List.mem_append_right _ (List.mem_append_right _ (List.mem_append_right _ (List.mem_append_right _ (List.mem_append_right _ (List.mem_append_right _ (List.mem_append_left _ (List.mem_of_getElem? (i := 3) rfl)))))))))) rfl
theorem q_1820 : Cond.instanceMethod yJ4_length_8abf5 ∈ WALL := WALL_in (List.mem_append_right _ (List.mem_append_right _ (List.mem_append_right _ (List.mem_append_right _ (List.mem_append_right _ (List.mem_append_right _ (List.mem_append_right _ (List.mem_append_right _ (List.mem_append_left _ (List.mem_of_getElem? (i := 5) rfl)))))))))) rfl
theorem q_1822 : Cond.methodLink RJ4 343 yJ5_length_8abf5 ∈ WALL := WALL_in (List.mem_append_right _ (List.mem_append_right _ (List.mem_append_right _ (List.mem_append_right _ (List.mem_append_right _ (List.mem_append_right _ (List.mem_append_right _ (List.mem_append_right _ (List.mem_append_left _ (List.mem_of_getElem? (i := 7) rfl)))))))))) rfl
theorem q_1910 : Cond.methodLink RX12 342 yX12_printName ∈ WALL := WALL_in (List.mem_append_right _ (List.mem_append_right _ (List.mem_append_right _ (List.mem_append_right _ (List.mem_append_right _ (List.mem_append_right _ (List.mem_append_right _ (List.mem_append_right _ (List.mem_append_left _ (List.mem_of_getElem? (i := 95) rfl)))))))))) rfl
theorem q_1912 : Cond.instanceMethod yX12_printName ∈ WALL := WALL_in (List.mem_append_right _ (List.mem_append_right _ (List.mem_append_right _ (List.mem_append_right _ (List.mem_append_right _ (List.mem_append_right _ (List.mem_append_right _ (List.mem_append_right _ (List.mem_append_left _ (List.mem_of_getElem? (i := 97) rfl)))))))))) rfl
theorem q_1913 : Cond.code yX12_printName cX12_printName 5 none ∈ WALL := WALL_in (List.mem_append_right _ (List.mem_append_right _ (List.mem_append_right _ (List.mem_append_right _ (List.mem_append_right _ (List.mem_append_right _ (List.mem_append_right _ (List.mem_append_right _ (List.mem_append_left _ (List.mem_of_getElem? (i := 98) rfl)))))))))) rfl
theorem q_1914 : Cond.methodLink RX12 346 yJ4_append_cf468 ∈ WALL := WALL_in (List.mem_append_right _ (List.mem_append_right _ (List.mem_append_right _ (List.mem_append_right _ (List.mem_append_right _ (List.mem_append_right _ (List.mem_append_right _ (List.mem_append_right _ (List.mem_append_left _ (List.mem_of_getElem? (i := 99) rfl)))))))))) rfl
theorem q_1915 : Cond.instanceMethod yJ4_append_cf468 ∈ WALL := WALL_in (List.mem_append_right _ (List.mem_append_right _ (List.mem_append_right _ (List.mem_append_right _ (List.mem_append_right _ (List.mem_append_right _ (List.mem_append_right _ (List.mem_append_right _ (List.mem_append_left _ (List.mem_of_getElem? (i := 100) rfl)))))))))) rfl
theorem q_1916 : Cond.selects RJ4 yJ4_append_cf468 yJ4_append_cf468 ∈ WALL := WALL_in (List.mem_append_right _ (List.mem_append_right _ (List.mem_append_right _ (List.mem_append_right _ (List.mem_append_right _ (List.mem_append_right _ (List.mem_append_right _ (List.mem_append_right _ (List.mem_append_left _ (List.mem_of_getElem? (i := 101) rfl)))))))))) rfl
theorem q_1918 : Cond.methodLink RJ4 50 yJ5_append_3fe6f ∈ WALL := WALL_in (List.mem_append_right _ (List.mem_append_right _ (List.mem_append_right _ (List.mem_append_right _ (List.mem_append_right _ (List.mem_append_right _ (List.mem_append_right _ (List.mem_append_right _ (List.mem_append_left _ (List.mem_of_getElem? (i := 103) rfl)))))))))) rfl
theorem q_1919 : Cond.instanceMethod yJ5_append_3fe6f ∈ WALL := WALL_in (List.mem_append_right _ (List.mem_append_right _ (List.mem_append_right _ (List.mem_append_right _ (List.mem_append_right _ (List.mem_append_right _ (List.mem_append_right _ (List.mem_append_right _ (List.mem_append_left _ (List.mem_of_getElem? (i := 104) rfl)))))))))) rfl
theorem q_1927 : Cond.methodLink RX12 352 yX8_signOfEcho ∈ WALL := WALL_in (List.mem_append_right _ (List.mem_append_right _ (List.mem_append_right _ (List.mem_append_right _ (List.mem_append_right _ (List.mem_append_right _ (List.mem_append_right _ (List.mem_append_right _ (List.mem_append_left _ (List.mem_of_getElem? (i := 112) rfl)))))))))) rfl
theorem q_1931 : Cond.methodLink RX12 356 yJ4_append_bf812 ∈ WALL := WALL_in (List.mem_append_right _ (List.mem_append_right _ (List.mem_append_right _ (List.mem_append_right _ (List.mem_append_right _ (List.mem_append_right _ (List.mem_append_right _ (List.mem_append_right _ (List.mem_append_left _ (List.mem_of_getElem? (i := 116) rfl)))))))))) rfl
theorem q_1932 : Cond.methodLink RX12 359 yJ4_length_8abf5 ∈ WALL := WALL_in (List.mem_append_right _ (List.mem_append_right _ (List.mem_append_right _ (List.mem_append_right _ (List.mem_append_right _ (List.mem_append_right _ (List.mem_append_right _ (List.mem_append_right _ (List.mem_append_left _ (List.mem_of_getElem? (i := 117) rfl)))))))))) rfl
theorem q_1937 : Cond.instanceMethod yX12_outputByte ∈ WALL := WALL_in (List.mem_append_right _ (List.mem_append_right _ (List.mem_append_right _ (List.mem_append_right _ (List.mem_append_right _ (List.mem_append_right _ (List.mem_append_right _ (List.mem_append_right _ (List.mem_append_left _ (List.mem_of_getElem? (i := 122) rfl)))))))))) rfl
theorem q_1938 : Cond.selects RX12 yX12_outputByte yX12_outputByte ∈ WALL := WALL_in (List.mem_append_right _ (List.mem_append_right _ (List.mem_append_right _ (List.mem_append_right _ (List.mem_append_right _ (List.mem_append_right _ (List.mem_append_right _ (List.mem_append_right _ (List.mem_append_left _ (List.mem_of_getElem? (i := 123) rfl)))))))))) rfl
theorem q_1939 : Cond.code yX12_outputByte cX12_outputByte 2 (some .int) ∈ WALL := WALL_in (List.mem_append_right _ (List.mem_append_right _ (List.mem_append_right _ (List.mem_append_right _ (List.mem_append_right _ (List.mem_append_right _ (List.mem_append_right _ (List.mem_append_right _ (List.mem_append_left _ (List.mem_of_getElem? (i := 124) rfl)))))))))) rfl
theorem q_1940 : Cond.methodLink RX12 361 yJ4_charAt_5068e ∈ WALL := WALL_in (List.mem_append_right _ (List.mem_append_right _ (List.mem_append_right _ (List.mem_append_right _ (List.mem_append_right _ (List.mem_append_right _ (List.mem_append_right _ (List.mem_append_right _ (List.mem_append_left _ (List.mem_of_getElem? (i := 125) rfl)))))))))) rfl
theorem q_1941 : Cond.instanceMethod yJ4_charAt_5068e ∈ WALL := WALL_in (List.mem_append_right _ (List.mem_append_right _ (List.mem_append_right _ (List.mem_append_right _ (List.mem_append_right _ (List.mem_append_right _ (List.mem_append_right _ (List.mem_append_right _ (List.mem_append_left _ (List.mem_of_getElem? (i := 126) rfl)))))))))) rfl
theorem q_1942 : Cond.selects RJ4 yJ4_charAt_5068e yJ4_charAt_5068e ∈ WALL := WALL_in (List.mem_append_right _ (List.mem_append_right _ (List.mem_append_right _ (List.mem_append_right _ (List.mem_append_right _ (List.mem_append_right _ (List.mem_append_right _ (List.mem_append_right _ (List.mem_append_left _ (List.mem_of_getElem? (i := 127) rfl)))))))))) rfl
theorem q_1944 : Cond.methodLink RJ4 329 yJ5_charAt_5068e ∈ WALL := WALL_in (List.mem_append_right _ (List.mem_append_right _ (List.mem_append_right _ (List.mem_append_right _ (List.mem_append_right _ (List.mem_append_right _ (List.mem_append_right _ (List.mem_append_right _ (List.mem_append_left _ (List.mem_of_getElem? (i := 129) rfl)))))))))) rfl
theorem q_1945 : Cond.instanceMethod yJ5_charAt_5068e ∈ WALL := WALL_in (List.mem_append_right _ (List.mem_append_right _ (List.mem_append_right _ (List.mem_append_right _ (List.mem_append_right _ (List.mem_append_right _ (List.mem_append_right _ (List.mem_append_right _ (List.mem_append_left _ (List.mem_of_getElem? (i := 130) rfl)))))))))) rfl
theorem q_2829 : Cond.sameMethod RJ5 RJ5 "setLength" "(I)V" ∈ WALL := WALL_in (List.mem_append_right _ (List.mem_append_right _ (List.mem_append_right _ (List.mem_append_right _ (List.mem_append_right _ (List.mem_append_right _ (List.mem_append_right _ (List.mem_append_right _ (List.mem_append_right _ (List.mem_append_right _ (List.mem_append_right _ (List.mem_append_right _ (List.mem_of_getElem? (i := 54) rfl))))))))))))) rfl
theorem q_2837 : Cond.sameMethod RJ5 RJ5 "append" "(I)Ljava/lang/AbstractStringBuilder;" ∈ WALL := WALL_in (List.mem_append_right _ (List.mem_append_right _ (List.mem_append_right _ (List.mem_append_right _ (List.mem_append_right _ (List.mem_append_right _ (List.mem_append_right _ (List.mem_append_right _ (List.mem_append_right _ (List.mem_append_right _ (List.mem_append_right _ (List.mem_append_right _ (List.mem_of_getElem? (i := 62) rfl))))))))))))) rfl
theorem q_2838 : Cond.sameMethod RJ5 RJ5 "append" "(C)Ljava/lang/AbstractStringBuilder;" ∈ WALL := WALL_in (List.mem_append_right _ (List.mem_append_right _ (List.mem_append_right _ (List.mem_append_right _ (List.mem_append_right _ (List.mem_append_right _ (List.mem_append_right _ (List.mem_append_right _ (List.mem_append_right _ (List.mem_append_right _ (List.mem_append_right _ (List.mem_append_right _ (List.mem_of_getElem? (i := 63) rfl))))))))))))) rfl
theorem q_2839 : Cond.selects RJ4 yJ4_length_8abf5 yJ4_length_8abf5 ∈ WALL := WALL_in (List.mem_append_right _ (List.mem_append_right _ (List.mem_append_right _ (List.mem_append_right _ (List.mem_append_right _ (List.mem_append_right _ (List.mem_append_right _ (List.mem_append_right _ (List.mem_append_right _ (List.mem_append_right _ (List.mem_append_right _ (List.mem_append_right _ (List.mem_of_getElem? (i := 64) rfl))))))))))))) rfl
theorem q_2840 : Cond.sameMethod RJ5 RJ5 "charAt" "(I)C" ∈ WALL := WALL_in (List.mem_append_right _ (List.mem_append_right _ (List.mem_append_right _ (List.mem_append_right _ (List.mem_append_right _ (List.mem_append_right _ (List.mem_append_right _ (List.mem_append_right _ (List.mem_append_right _ (List.mem_append_right _ (List.mem_append_right _ (List.mem_append_right _ (List.mem_of_getElem? (i := 65) rfl))))))))))))) rfl
/-! THE BUILDER over the world; printName, printReceipt, outputByte -/
abbrev rb3 : Room := { frames := 3, cells := 0, slots := 0, locals := 180 }
def sbN (w : Wd) : Nat := ((w 14).1 0 3).toNatClampNeg
def sbC (w : Wd) : Nat := ((w 14).1 0 4).toNatClampNeg
def FsbAp (w : Wd) (x : Int32) : Option Wd := gd (decide (sbN w < 50) && decide (sbC w ≤ 60) && !decide (255 < x)) <| some (sW w 14 (sI (sI (sI (w 14) 1 (sbN w) (x.toInt8.toInt32.toInt8.toInt32)) 0 3 (nI (sbN w + 1))) 0 4 (nI (ncap (sbC w) (sbN w + 1)))))
/-- the bytes of a world, those of gcB where it wrote -/
def gcM (M : MM) (k v : Nat) : MM := (rowI M.1 1 (gcB (M.1 1) k v), M.2)
def FsbAi (w : Wd) (x : Int32) : Option Wd := gd (decide (2 ≤ sbN w) && decide (sbN w < 50) && decide (sbC w ≤ 60) && decide (0 ≤ x) && decide (x.toNatClampNeg < 1000)) <| some (sW w 14 (sI (sI (gcM (w 14) (sbN w + dg3 x.toNatClampNeg) x.toNatClampNeg) 0 3 (nI (sbN w + dg3 x.toNatClampNeg))) 0 4 (nI (ncap (sbC w) (sbN w + dg3 x.toNatClampNeg)))))
def FsbSl (w : Wd) : Option Wd := gd (decide (sbN w < 100) && decide (sbC w ≤ 60)) <| some (sW w 14 (sI (w 14) 0 3 0))
theorem Bok_n {M : MM} {n : Int32} {cap : Nat} {bs : Nat → Int32} (h : Bok M n cap bs) : n = nI n.toNatClampNeg ∧ (M.1 0 4).toNatClampNeg = cap ∧ n.toNatClampNeg ≤ cap ∧ M.1 0 3 = n ∧ cap ≤ 4096 := by
  obtain ⟨⟨b1, b1'⟩, ⟨b2, b3⟩, b4, b5, b6⟩ := h
  obtain ⟨j, hj, rfl⟩ := nI_of (x := n) (Int32.not_lt.mpr b3)
  exact ⟨by rw [nI_clamp hj], by rw [b1, nI_clamp (by omega)], b4, b2, b1'⟩
theorem gcB_lo {bs : Nat → Int32} {k v i : Nat} (h : i + dg3 v < k) : gcB bs k v i = bs i := by
  unfold gcB
  unfold dg3 at h
  split
  · rw [if_pos (by assumption)] at h; rw [upd_ne (by omega)]
  · rename_i h1
    rw [if_neg h1] at h
    split
    · rw [if_pos (by assumption)] at h; rw [upd_ne (by omega), upd_ne (by omega)]
    · rename_i h2; rw [if_neg h2] at h; rw [upd_ne (by omega), upd_ne (by omega), upd_ne (by omega)]
theorem gcB_al {bs bs2 : Nat → Int32} {k v i : Nat} (h : i + dg3 v < k → bs2 i = bs i) (hk : dg3 v ≤ k) (hi : i < k) : gcB bs2 k v i = gcB bs k v i := by
  by_cases hl : i + dg3 v < k
  · rw [gcB_lo hl, gcB_lo hl]; exact h hl
  · unfold gcB
    unfold dg3 at hl hk
    by_cases h1 : v < 10
    · rw [if_pos h1] at hl hk
      rw [if_pos h1, if_pos h1]
      obtain rfl : i = k - 1 := by omega
      rw [upd_eq, upd_eq]
    · rw [if_neg h1] at hl hk
      rw [if_neg h1, if_neg h1]
      by_cases h2 : v < 100
      · rw [if_pos h2] at hl hk
        rw [if_pos h2, if_pos h2]
        by_cases e : i = k - 2
        · rw [e, upd_eq, upd_eq]
        · obtain rfl : i = k - 1 := by omega
          rw [upd_ne (by omega), upd_eq, upd_ne (by omega), upd_eq]
      · rw [if_neg h2] at hl hk
        rw [if_neg h2, if_neg h2]
        by_cases e : i = k - 3
        · rw [e, upd_eq, upd_eq]
        · rw [upd_ne e, upd_ne e]
          by_cases e : i = k - 2
          · rw [e, upd_eq, upd_eq]
          · obtain rfl : i = k - 1 := by omega
            rw [upd_ne (by omega), upd_eq, upd_ne (by omega), upd_eq]
theorem gcB_fit {bs : Nat → Int32} {k v : Nat} (h : sb_Fit bs) (hv : v < 1000) : sb_Fit (gcB bs k v) := by
  have hd : ∀ d, d < 10 → fits .byte (.int (48 + nI d)) = true := by decide
  unfold gcB
  split
  · exact sb_fitU h (hd _ (by omega))
  · split
    · exact sb_fitU (sb_fitU h (hd _ (by omega))) (hd _ (by omega))
    · exact sb_fitU (sb_fitU (sb_fitU h (hd _ (by omega))) (hd _ (by omega))) (hd _ (by omega))
theorem gd2_e {α : Type} {a b : Bool} {x : Option α} {r : α} (h : gd (a && b) x = some r) : a = true ∧ b = true ∧ x = some r := by
  obtain ⟨h1, h2⟩ := gd_e h
  simp only [Bool.and_eq_true] at h1
  exact ⟨h1.1, h1.2, h2⟩
theorem ct_ap4 {G : GG} {l : Launch} {w w2 : Wd} {x : Int32} (hF : FsbAp w x = some w2) : CTP G l yJ4_append_cf468 cJ4_append_cf468 2 (some (.object RJ4)) rbt 1 130 [.ref (adr G 14 0), .int x] (GH G w) (fun v H => v = some (.ref (adr G 14 0)) ∧ GH G w2 H) := by
  refine CTP.of miJ4_append_cf468 [(0, .ref (adr G 14 0)), (1, .int x)] rfl (Nat.le_of_ble_eq_true rfl) ?_
  intro p e s m args below meth c hX hR hlk
  have hX : FX G RJ4 cJ4_append_cf468 2 p s m args c := hX
  unfold FsbAp at hF
  obtain ⟨g1, g3, hF⟩ := gd2_e hF
  simp only [Bool.and_eq_true, Bool.not_eq_true', decide_eq_true_eq, decide_eq_false_iff_not] at g1 g3
  obtain ⟨g1, g2⟩ := g1
  replace hF := Option.some.inj hF
  refine J_open (fun q cap ml bs hb => ?_)
  obtain ⟨e1, e2, e3, e4, e5⟩ := Bok_n hb
  obtain ⟨a, ha⟩ : ∃ a, a = ((w 14).1 0 3).toNatClampNeg := ⟨_, rfl⟩
  have hN : sbN w = a := by rw [ha]; rfl
  have hC : sbC w = cap := by rw [← e2]; rfl
  rw [hN, hC] at hF
  rw [← ha] at e1 e3
  rw [hN] at g1
  rw [hC] at g2
  rw [e1] at hb ⊢
  refine J_aload_n hX dJ4_append_cf468_0 0 rfl (t := 1) rfl ?_
  refine J_iload_n hX dJ4_append_cf468_1 1 rfl (t := 2) rfl ?_
  refine J_callUP hX [.int x] [] (ct_ap5 g2 (by omega) e3 g3 hb.2.2.2.1) miJ5_append_3fe6f q_1919 q_2838 q_561 (by decide) GE.ob q_1918 ⟨rfl, rfl, Nat.le_of_ble_eq_true rfl, Nat.le_of_ble_eq_true rfl⟩ rfl rfl (Nat.le_of_ble_eq_true rfl) ⟨Nat.le_of_ble_eq_true rfl, Nat.le_of_ble_eq_true rfl⟩ dJ4_append_cf468_2 (t := 5) rfl (fun v => J_pure fun hv => J_exE fun q2 => J_exE fun bs2 => J_pure fun hb2 => ?_)
  subst hv
  refine J_pop hX dJ4_append_cf468_5 rfl (t := 6) rfl ?_
  refine J_aload_n hX dJ4_append_cf468_6 0 rfl (t := 7) rfl ?_
  have hnc : ncap cap (a + 1) ≤ 200 := by unfold ncap; split <;> (try split) <;> omega
  refine J_close (w2 := w2) (fun r hr => by rw [← hF, sW_o _ _ hr]) ?_ ?_
  · have e14 : w2 14 = sI (sI (sI (w 14) 1 a (x.toInt8.toInt32.toInt8.toInt32)) 0 3 (nI (a + 1))) 0 4 (nI (ncap cap (a + 1))) := by rw [← hF]; exact sW_s _ _ _
    have k1 : (w2 14).1 0 = upd (upd ((w 14).1 0) 3 (nI (a + 1))) 4 (nI (ncap cap (a + 1))) := by rw [e14, sI_s, sI_s, sI_o _ _ _ (by decide)]
    have k2 : (w2 14).1 1 = upd ((w 14).1 1) a (x.toInt8.toInt32.toInt8.toInt32) := by rw [e14, sI_o _ _ _ (by decide), sI_o _ _ _ (by decide), sI_s]
    refine ⟨⟨by rw [k1, upd_eq], by omega⟩, ⟨by rw [k1, upd_ne (by decide), upd_eq], nI_pos' (by omega)⟩, by rw [nI_clamp (by omega)]; exact (ncap_le cap (a + 1)).1, hb2.1, fun i hi => ?_⟩
    rw [nI_clamp (by omega)] at hi
    rw [k2]
    by_cases e9 : i = a
    · rw [e9, upd_eq]; exact hb2.2.2
    · rw [upd_ne e9, hb2.2.1 i (by omega)]
      exact hb.2.2.2.2 i (by rw [nI_clamp (by omega)]; omega)
  · exact J_aretP hX hR (Or.inl ⟨_, rfl⟩) hlk (fun H h => ⟨rfl, h⟩) dJ4_append_cf468_7
theorem ct_ai4 {G : GG} {l : Launch} {w w2 : Wd} {x : Int32} (hF : FsbAi w x = some w2) : CTP G l yJ4_append_bf812 cJ4_append_bf812 2 (some (.object RJ4)) rbt 1 130 [.ref (adr G 14 0), .int x] (GH G w) (fun v H => v = some (.ref (adr G 14 0)) ∧ GH G w2 H) := by
  refine CTP.of miJ4_append_bf812 [(0, .ref (adr G 14 0)), (1, .int x)] rfl (Nat.le_of_ble_eq_true rfl) ?_
  intro p e s m args below meth c hX hR hlk
  have hX : FX G RJ4 cJ4_append_bf812 2 p s m args c := hX
  unfold FsbAi at hF
  obtain ⟨g1, hF⟩ := gd_e hF
  simp only [Bool.and_eq_true, decide_eq_true_eq] at g1
  obtain ⟨⟨⟨⟨g0, g1⟩, g2⟩, g3⟩, g4⟩ := g1
  replace hF := Option.some.inj hF
  obtain ⟨v, hv2, rfl⟩ := nI_of (x := x) (Int32.not_lt.mpr g3)
  rw [nI_clamp hv2] at hF g4
  refine J_open (fun q cap ml bs hb => ?_)
  obtain ⟨e1, e2, e3, e4, e5⟩ := Bok_n hb
  obtain ⟨a, ha⟩ : ∃ a, a = ((w 14).1 0 3).toNatClampNeg := ⟨_, rfl⟩
  have hN : sbN w = a := by rw [ha]; rfl
  have hC : sbC w = cap := by rw [← e2]; rfl
  rw [hN, hC] at hF
  rw [← ha] at e1 e3
  rw [hN] at g1 g0
  rw [hC] at g2
  rw [e1] at hb ⊢
  refine J_aload_n hX dJ4_append_bf812_0 0 rfl (t := 1) rfl ?_
  refine J_iload_n hX dJ4_append_bf812_1 1 rfl (t := 2) rfl ?_
  refine J_callUP hX [.int (nI v)] [] (ct_ai5 g2 g0 g1 e3 g4 hb.2.2.2.1) miJ5_append_c97b9 q_1778 q_2837 q_561 (by decide) GE.ob q_1777 ⟨rfl, rfl, Nat.le_of_ble_eq_true rfl, Nat.le_of_ble_eq_true rfl⟩ rfl rfl (Nat.le_of_ble_eq_true rfl) ⟨Nat.le_of_ble_eq_true rfl, Nat.le_of_ble_eq_true rfl⟩ dJ4_append_bf812_2 (t := 5) rfl (fun r => J_pure fun hr => J_exE fun q2 => J_exE fun bs2 => J_pure fun hb2 => ?_)
  subst hr
  refine J_pop hX dJ4_append_bf812_5 rfl (t := 6) rfl ?_
  refine J_aload_n hX dJ4_append_bf812_6 0 rfl (t := 7) rfl ?_
  have hd : 1 ≤ dg3 v ∧ dg3 v ≤ 3 := by unfold dg3; split <;> (try split) <;> omega
  have hnc : ncap cap (a + dg3 v) ≤ 200 := by unfold ncap; split <;> (try split) <;> omega
  refine J_close (w2 := w2) (fun r hr => by rw [← hF, sW_o _ _ hr]) ?_ ?_
  · have e14 : w2 14 = sI (sI (gcM (w 14) (a + dg3 v) v) 0 3 (nI (a + dg3 v))) 0 4 (nI (ncap cap (a + dg3 v))) := by rw [← hF]; exact sW_s _ _ _
    have k1 : (w2 14).1 0 = upd (upd ((w 14).1 0) 3 (nI (a + dg3 v))) 4 (nI (ncap cap (a + dg3 v))) := by rw [e14, sI_s, sI_s]; rfl
    have k2 : (w2 14).1 1 = gcB ((w 14).1 1) (a + dg3 v) v := by rw [e14, sI_o _ _ _ (by decide), sI_o _ _ _ (by decide)]; rfl
    refine ⟨⟨by rw [k1, upd_eq], by omega⟩, ⟨by rw [k1, upd_ne (by decide), upd_eq], nI_pos' (by omega)⟩, by rw [nI_clamp (by omega)]; exact (ncap_le cap (a + dg3 v)).1, gcB_fit hb2.1 g4, fun i hi => ?_⟩
    rw [nI_clamp (by omega)] at hi
    rw [k2]
    exact gcB_al (fun h => by rw [hb2.2 i (by omega)]; exact hb.2.2.2.2 i (by rw [nI_clamp (by omega)]; omega)) (by omega) hi
  · exact J_aretP hX hR (Or.inl ⟨_, rfl⟩) hlk (fun H h => ⟨rfl, h⟩) dJ4_append_bf812_7
theorem ct_sl4 {G : GG} {l : Launch} {w w2 : Wd} (hF : FsbSl w = some w2) : CTP G l yJ4_setLength_d00df cJ4_setLength_d00df 2 none rbt 1 130 [.ref (adr G 14 0), .int 0] (GH G w) (fun v H => v = none ∧ GH G w2 H) := by
  refine CTP.of miJ4_setLength_d00df [(0, .ref (adr G 14 0)), (1, .int 0)] rfl (Nat.le_of_ble_eq_true rfl) ?_
  intro p e s m args below meth c hX hR hlk
  have hX : FX G RJ4 cJ4_setLength_d00df 2 p s m args c := hX
  unfold FsbSl at hF
  obtain ⟨g1, g2, hF⟩ := gd2_e hF
  simp only [decide_eq_true_eq] at g1 g2
  replace hF := Option.some.inj hF
  refine J_open (fun q cap ml bs hb => ?_)
  obtain ⟨e1, e2, e3, e4, e5⟩ := Bok_n hb
  obtain ⟨a, ha⟩ : ∃ a, a = ((w 14).1 0 3).toNatClampNeg := ⟨_, rfl⟩
  have hN : sbN w = a := by rw [ha]; rfl
  have hC : sbC w = cap := by rw [← e2]; rfl
  rw [← ha] at e1 e3
  rw [hN] at g1
  rw [hC] at g2
  rw [e1] at hb ⊢
  refine J_aload_n hX dJ4_setLength_d00df_0 0 rfl (t := 1) rfl ?_
  refine J_iload_n hX dJ4_setLength_d00df_1 1 rfl (t := 2) rfl ?_
  refine J_callUP hX [.int 0] [] (ct_sl5 g2 (by omega) hb.2.2.2.1) miJ5_setLength_d00df q_1666 q_2829 q_561 (by decide) GE.ob q_1665 ⟨rfl, rfl, Nat.le_of_ble_eq_true rfl, Nat.le_of_ble_eq_true rfl⟩ rfl rfl (Nat.le_of_ble_eq_true rfl) ⟨Nat.le_of_ble_eq_true rfl, Nat.le_of_ble_eq_true rfl⟩ dJ4_setLength_d00df_2 (t := 5) rfl (fun r => J_pure fun hr => J_exE fun q2 => J_exE fun bs2 => J_exE fun ml2 => J_pure fun hb2 => ?_)
  subst hr
  refine J_close (w2 := w2) (fun r hr => by rw [← hF, sW_o _ _ hr]) ?_ ?_
  · have e14 : w2 14 = sI (w 14) 0 3 0 := by rw [← hF]; exact sW_s _ _ _
    have k1 : (w2 14).1 0 = upd ((w 14).1 0) 3 0 := by rw [e14, sI_s]
    refine ⟨⟨by rw [k1, upd_ne (by decide)]; exact hb.1.1, e5⟩, ⟨by rw [k1, upd_eq], by decide⟩, Nat.zero_le _, hb2, fun i hi => absurd hi (Nat.not_lt_zero i)⟩
  · exact J_vretP hX hR hlk (fun H h => ⟨rfl, h⟩) dJ4_setLength_d00df_5
theorem ct_ln4 {G : GG} {l : Launch} {w : Wd} : CTP G l yJ4_length_8abf5 cJ4_length_8abf5 1 (some .int) rb1 0 0 [.ref (adr G 14 0)] (GH G w) (fun v H => v = some (.int ((w 14).1 0 3)) ∧ GH G w H) := by
  refine CTP.of miJ4_length_8abf5 [(0, .ref (adr G 14 0))] rfl (Nat.le_of_ble_eq_true rfl) ?_
  intro p e s m args below meth c hX hR hlk
  have hX : FX G RJ4 cJ4_length_8abf5 1 p s m args c := hX
  refine J_open (fun q cap ml bs hb => ?_)
  refine J_aload_n hX dJ4_length_8abf5_0 0 rfl (t := 1) rfl ?_
  refine J_callUP hX [] [] ct_ln5 miJ5_length_8abf5 q_1817 q_1818 q_561 (by decide) GE.ob q_1822 ⟨rfl, rfl, Nat.le_of_ble_eq_true rfl, Nat.le_of_ble_eq_true rfl⟩ rfl rfl (Nat.le_of_ble_eq_true rfl) ⟨Nat.le_of_ble_eq_true rfl, Nat.le_of_ble_eq_true rfl⟩ dJ4_length_8abf5_1 (t := 4) rfl (fun r => J_pure fun hr => ?_)
  subst hr
  refine J_close (w2 := w) (fun r hr => rfl) hb ?_
  exact J_iretP hX hR hlk (fun H h => ⟨rfl, h⟩) dJ4_length_8abf5_4
theorem ct_ch4 {G : GG} {l : Launch} {w : Wd} {x : Int32} (hx : 0 ≤ x ∧ x < (w 14).1 0 3) : CTP G l yJ4_charAt_5068e cJ4_charAt_5068e 2 (some .char) rb3 0 0 [.ref (adr G 14 0), .int x] (GH G w) (fun v H => v = some (.int ((((w 14).1 1 x.toNatClampNeg) &&& 255).toUInt32 % 65536).toInt32) ∧ GH G w H) := by
  refine CTP.of miJ4_charAt_5068e [(0, .ref (adr G 14 0)), (1, .int x)] rfl (Nat.le_of_ble_eq_true rfl) ?_
  intro p e s m args below meth c hX hR hlk
  have hX : FX G RJ4 cJ4_charAt_5068e 2 p s m args c := hX
  obtain ⟨k, hk, rfl⟩ := nI_of (x := x) (Int32.not_lt.mpr hx.1)
  rw [nI_clamp hk]
  refine J_open (fun q cap ml bs hb => ?_)
  obtain ⟨e1, e2, e3, e4, e5⟩ := Bok_n hb
  obtain ⟨a, ha⟩ : ∃ a, a = ((w 14).1 0 3).toNatClampNeg := ⟨_, rfl⟩
  rw [← ha] at e1 e3
  have hka : k < a := by have h := hx.2; rw [e1, nI_ltI hk (by omega)] at h; exact h
  have hbs : bs k = (w 14).1 1 k := hb.2.2.2.2 k (by rw [← ha]; exact hka)
  rw [← hbs]
  rw [e1]
  refine J_aload_n hX dJ4_charAt_5068e_0 0 rfl (t := 1) rfl ?_
  refine J_iload_n hX dJ4_charAt_5068e_1 1 rfl (t := 2) rfl ?_
  refine J_callUP hX [.int (nI k)] [] (ct_ch5 e3 (by omega) hka) miJ5_charAt_5068e q_1945 q_2840 q_561 (by decide) GE.ob q_1944 ⟨rfl, rfl, Nat.le_of_ble_eq_true rfl, Nat.le_of_ble_eq_true rfl⟩ rfl rfl (Nat.le_of_ble_eq_true rfl) ⟨Nat.le_of_ble_eq_true rfl, Nat.le_of_ble_eq_true rfl⟩ dJ4_charAt_5068e_2 (t := 5) rfl (fun r => J_pure fun hr => ?_)
  subst hr
  rw [← e1]
  refine J_close (w2 := w) (fun r hr => rfl) hb ?_
  exact J_nretP hX hR hlk (pk_nc _) (fun H h => ⟨rfl, h⟩) dJ4_charAt_5068e_5
section PR
variable {G : GG} {own : String} {cc : ByteArray} {p : Program} {l : Launch} {e : Env} {R : Room} {s : State} {m : MethodId} {args : Array Value} {below : List Frame} {meth : Method} {c : Code} {nL cells slots : Nat} {Q : State → Prop} {pc t : Nat} {lc : List (Nat × Value)} {st : List Value} {w : Wd} {r j : Nat}
theorem J_callWP (hX : FX G own cc nL p s m args c) {y : MethodName} {cd : ByteArray} {mL n9 index mc ms ci : Nat} {ret : Option FieldType} {rm : Room} {P : Option Value → Heap → Prop} {T : u_T} {N : Nat} {ty : Nat → FieldType} {F : (Nat → Int32) → (Nat → Int64) → List Value} (As rest : List Value) (hM : CTP G l y cd mL ret rm mc ms (.ref (adr G r j) :: As) (GH G w) P) (mi : MI y cd mL ret n9) (mv : MV y) (cb : CB ci y.cls T N ty) (hk : KD G r j ci F) (hw : Cond.methodLink own index y ∈ WALL) (hrm : rm.cells = mc ∧ rm.slots = ms ∧ rm.frames + 1 ≤ R.frames ∧ 8 + (mL + 11) + rm.locals ≤ R.locals) (hn : As.length = n9) (hst : st = As.reverse ++ .ref (adr G r j) :: rest) (hcat : (rest.map fun v => v.category).sum ≤ 8) (hf : cells + mc ≤ R.cells ∧ slots + ms ≤ R.slots)
    (hdg : decode cc pc = .ok (.invokevirtual index, 3)) (ht : pc + 3 = t) (kk : ∀ v, J G p l e R s m args below meth c nL (cells + mc) (slots + ms) Q (P v) t lc (v.toList ++ rest)) : J G p l e R s m args below meth c nL cells slots Q (GH G w) pc lc st := by
  subst ht
  intro H locs ls h1 h2 h3
  have hat := h2.1 r j hk.1
  rw [hk.2] at hat
  exact J_runP (va_runV (C := y.cls) (As := As) (rest := rest) ⟨hX.1, hX.2.1, hX.2.2.1, hX.2.2.2.1, hX.2.2.2.2.1⟩ hM ⟨cb_call hX mi hw hrm, hX.2.2.2.2.1 _ mv.1, hX.2.2.2.2.1 _ mv.2⟩ ⟨GI.blind G _ _, va_recv hX.2.2.2.2.2.1 (one_P hat) (ci := ci) (q0 := 0) cb.1 rfl, fun U hU hW => ⟨rfl, hX.preI h2 h3 U hU hW⟩⟩ rfl hn h1.1 hst (lv_room hcat) hdg hf) h3 h1 kk
end PR
theorem miX12_printName : MI yX12_printName cX12_printName 5 none 1 := ⟨q_1913, q_136, by decide +kernel, by decide +kernel, by decide +kernel, by decide +kernel⟩
theorem mvX12_printName : MV yX12_printName := ⟨q_1912, q_31⟩
abbrev rmX12_printName : Room := { frames := 7, cells := 8, slots := 1040, locals := 340 }
def FpnK : Nat → Wd → Int64 → Int32 → Option Wd
  | 0 => fun w _ i => if 8 ≤ i then some w else none
  | k + 1 => fun w nm i => if 8 ≤ i then some w else if FX12_letterOf nm i = (-1) then FpnK k w nm (i + 1) else bo1 (FsbAp w ((FX12_letterOf nm i).toUInt32 % 65536).toInt32) fun w2 => FpnK k w2 nm (i + 1)
set_option maxHeartbeats 4000000 in
theorem L_pn {G : GG} {l : Launch} {p : Program} {e : Env} {s : State} {m : MethodId} {args : Array Value} {below : List Frame} {meth : Method} {c : Code} (hX : FX G RX12 cX12_printName 5 p s m args c) (hR : meth.sig.returnType = none) (hlk : meth.locks = false) (nm : Int64) (rw : Wd) : ∀ (k : Nat) (w : Wd) (i : Int32) (cells slots : Nat), cells + k ≤ 8 → slots + 130 * k ≤ 1040 → FpnK k w nm i = some rw → J G p l e rmX12_printName s m args below meth c 5 cells slots (MQ below (QP G (fun v H => v = none ∧ GH G rw H)) args s 8 1040 (gA G)) (GH G w) 2 [(3, .int i), (0, .ref (adr G 0 0)), (1, .long nm)] [] := by
  intro k
  induction k with
  | zero =>
    intro w i cells slots hb1 hb2 hF
    simp only [FpnK] at hF
    refine J_iload_n hX dX12_printName_2 0 rfl (t := 3) rfl ?_
    refine J_bipush (v := 8) hX dX12_printName_3 (by decide) (t := 5) rfl ?_
    refine J_icmp_ge (tgt := 38) hX dX12_printName_5 (by decide) (t := 8) rfl (fun z => ?_) (fun z => ?_)
    · replace hF := Option.some.inj (it_t hF z)
      subst hF
      refine J_wid (k := 8) (n := 1040) (by omega) (by omega) ?_
      exact J_vretP hX hR hlk (fun H h => ⟨rfl, h⟩) dX12_printName_38
    · cases it_f hF z
  | succ k ih =>
    intro w i cells slots hb1 hb2 hF
    simp only [FpnK] at hF
    refine J_iload_n hX dX12_printName_2 0 rfl (t := 3) rfl ?_
    refine J_bipush (v := 8) hX dX12_printName_3 (by decide) (t := 5) rfl ?_
    refine J_icmp_ge (tgt := 38) hX dX12_printName_5 (by decide) (t := 8) rfl (fun z => ?_) (fun z => ?_)
    · replace hF := Option.some.inj (it_t hF z)
      subst hF
      refine J_wid (k := 8) (n := 1040) (by omega) (by omega) ?_
      exact J_vretP hX hR hlk (fun H h => ⟨rfl, h⟩) dX12_printName_38
    · replace hF := it_f hF z
      refine J_lload_n hX dX12_printName_8 2 rfl (t := 9) rfl ?_
      refine J_iload_n hX dX12_printName_9 0 rfl (t := 10) rfl ?_
      refine J_callS hX [.long nm, .int i] [] [.int (FX12_letterOf nm i)] (ctX12_letterOf nm i rfl) miX12_letterOf q_953 q_1344 ⟨rfl, rfl, Nat.le_of_ble_eq_true rfl, Nat.le_of_ble_eq_true rfl⟩ rfl rfl (Nat.le_of_ble_eq_true rfl) ⟨by show cells + 0 ≤ 8; omega, by show slots + 0 ≤ 1040; omega⟩ dX12_printName_10 (t := 13) rfl rfl ?_
      refine J_istore (lc2 := [(4, .int (FX12_letterOf nm i)), (3, .int i), (0, .ref (adr G 0 0)), (1, .long nm)]) hX dX12_printName_13 (Nat.le_of_ble_eq_true rfl) rfl (t := 15) rfl ?_
      refine J_iload hX dX12_printName_15 0 rfl (t := 17) rfl ?_
      refine J_iconst (v := (-1)) hX dX12_printName_17 (by decide) (t := 18) rfl ?_
      refine J_icmp_eq (tgt := 32) hX dX12_printName_18 (by decide) (t := 21) rfl (fun z2 => ?_) (fun z2 => ?_)
      · replace hF := it_t hF z2
        refine J_iinc (v := i + 1) (lc2 := [(3, .int (i + 1)), (4, .int (FX12_letterOf nm i)), (0, .ref (adr G 0 0)), (1, .long nm)]) hX dX12_printName_32 1 rfl (rfl) (Nat.le_of_ble_eq_true rfl) rfl (t := 35) rfl ?_
        refine J_goto (tgt := 2) hX dX12_printName_35 (by decide) ?_
        refine J_sub (lc2 := [(3, .int (i + 1)), (0, .ref (adr G 0 0)), (1, .long nm)]) [0, 2, 3] rfl ?_
        exact ih w (i + 1) (cells + 0) (slots + 0) (by omega) (by omega) hF
      · obtain ⟨w2, hC, hF⟩ := bo1_e (it_f hF z2)
        refine J_aload_n hX dX12_printName_21 2 rfl (t := 22) rfl ?_
        refine J_get hX cb9 kEcho 7 (by decide) q_569 rfl dX12_printName_22 (t := 25) rfl ?_
        refine J_iload hX dX12_printName_25 0 rfl (t := 27) rfl ?_
        refine J_i2c hX dX12_printName_27 (t := 28) rfl ?_
        refine J_callVP hX [.int (((FX12_letterOf nm i)).toUInt32 % 65536).toInt32] [] (ct_ap4 hC) miJ4_append_cf468 q_1915 (hX.2.2.2.2.1 _ q_1916) GH.ob q_1914 ⟨rfl, rfl, Nat.le_of_ble_eq_true rfl, Nat.le_of_ble_eq_true rfl⟩ rfl rfl (Nat.le_of_ble_eq_true rfl) ⟨by show cells + 0 + 1 ≤ 8; omega, by show slots + 0 + 130 ≤ 1040; omega⟩ dX12_printName_28 (t := 31) rfl (fun v9 => J_pure fun hv9 => ?_)
        subst hv9
        refine J_pop hX dX12_printName_31 rfl (t := 32) rfl ?_
        refine J_iinc (v := i + 1) (lc2 := [(3, .int (i + 1)), (4, .int (FX12_letterOf nm i)), (0, .ref (adr G 0 0)), (1, .long nm)]) hX dX12_printName_32 1 rfl (rfl) (Nat.le_of_ble_eq_true rfl) rfl (t := 35) rfl ?_
        refine J_goto (tgt := 2) hX dX12_printName_35 (by decide) ?_
        refine J_sub (lc2 := [(3, .int (i + 1)), (0, .ref (adr G 0 0)), (1, .long nm)]) [0, 2, 3] rfl ?_
        exact ih w2 (i + 1) (cells + 0 + 1) (slots + 0 + 130) (by omega) (by omega) hF
theorem ct_pn {G : GG} {l : Launch} {w rw : Wd} {nm : Int64} (hF : FpnK 8 w nm 0 = some rw) : CTP G l yX12_printName cX12_printName 5 none rmX12_printName 8 1040 [.ref (adr G 0 0), .long nm] (GH G w) (fun v H => v = none ∧ GH G rw H) := by
  refine CTP.of miX12_printName [(0, .ref (adr G 0 0)), (1, .long nm)] rfl (Nat.le_of_ble_eq_true rfl) ?_
  intro p e s m args below meth c hX hR hlk
  have hX : FX G RX12 cX12_printName 5 p s m args c := hX
  refine J_iconst (v := 0) hX dX12_printName_0 (by decide) (t := 1) rfl ?_
  refine J_istore_n (lc2 := [(3, .int 0), (0, .ref (adr G 0 0)), (1, .long nm)]) hX dX12_printName_1 rfl (Nat.le_of_ble_eq_true rfl) rfl (t := 2) rfl ?_
  exact L_pn hX hR hlk nm rw 8 w 0 0 0 (by omega) (by omega) hF
theorem miX12_printReceipt : MI yX12_printReceipt cX12_printReceipt 4 (some .int) 1 := ⟨q_1660, q_136, by decide +kernel, by decide +kernel, by decide +kernel, by decide +kernel⟩
theorem mvX12_printReceipt : MV yX12_printReceipt := ⟨q_1658, q_1659⟩
abbrev rmX12_printReceipt : Room := { frames := 12, cells := 30, slots := 3900, locals := 600 }
abbrev rmeX12_printReceipt : Room := { frames := 12, cells := 1, slots := 6, locals := 600 }
def okX {α : Type} (x : Option (Except (String × Wd) α)) : Option α := match x with
  | some (.ok a) => some a
  | _ => none
theorem okX_e {α : Type} {x : Option (Except (String × Wd) α)} {a : α} (h : okX x = some a) : x = some (.ok a) := by
  match x, h with
  | some (.ok b), h => cases h; rfl
def okm {ε α : Type} (x : Option α) : Option (Except ε α) := match x with
  | some a => some (.ok a)
  | none => none
theorem okm_e {ε α : Type} {x : Option α} {a : α} (h : okm (ε := ε) x = some (.ok a)) : x = some a := by
  match x, h with
  | some b, h => cases h; rfl
theorem okm_n {ε α : Type} {x : Option α} {a : ε} (h : okm x = some (.error a)) : False := by
  match x, h with
  | some b, h => cases h
def FprT (w : Wd) (j : Nat) : Option (Int32 × Wd) := bo1 (FsbAp w 32) fun w1 => bo1 (FsbAi w1 (FX8_earnings (w1 1) j)) fun w2 => bo1 (FsbAp w2 10) fun w3 => some ((w3 14).1 0 3, w3)
def FprK : Nat → Wd → Nat → Int32 → Option (Int32 × Wd)
  | 0 => fun w j i => if (w 1).1 j 3 < i then FprT w j else none
  | k + 1 => fun w j i => if (w 1).1 j 3 < i then FprT w j else bo1 (FsbAp w (FX8_signOfEcho (w 1) j i)) fun w2 => FprK k w2 j (i + 1)
def FprM (w : Wd) (j : Nat) : Option (Int32 × Wd) := gd (decide (20 ≤ j ∧ j < 50)) <| bo1 (FsbSl w) fun w1 => bo1 (okX (FX12_customerAt w1 ((w1 1).1 j 0))) fun jc => gd (decide (12 ≤ jc ∧ jc < 20)) <| bo1 (FpnK 8 w1 ((w1 1).2 jc 0) 0) fun w2 => bo1 (FsbAp w2 64) fun w3 => bo1 (okX (FX12_valleyAt w3 ((w3 1).1 j 1))) fun jv => gd (decide (4 ≤ jv ∧ jv < 12)) <| bo1 (FpnK 8 w3 ((w3 1).2 jv 0) 0) fun w4 => bo1 (FsbAp w4 32) fun w5 => FprK 8 w5 j 1
def FX12_printReceipt (w : Wd) (p1 : Int32) : Option (Except (String × Wd) (Int32 × Wd)) := xo (FX12_shoutAt w p1) fun j => okm (FprM w j)
set_option maxHeartbeats 4000000 in
theorem L_prT {G : GG} {l : Launch} {p : Program} {e : Env} {s : State} {m : MethodId} {args : Array Value} {below : List Frame} {meth : Method} {c : Code} (hX : FX G RX12 cX12_printReceipt 4 p s m args c) (hR : meth.sig.returnType = some .int) (hlk : meth.locks = false) {rx : Int32} {rw : Wd} {j : Nat} (hj : 20 ≤ j ∧ j < 50) (w : Wd) (i p1 : Int32) (cells slots : Nat) (hb1 : cells + 3 ≤ 30) (hb2 : slots + 390 ≤ 3900) (hF : FprT w j = some (rx, rw)) : J G p l e rmX12_printReceipt s m args below meth c 4 cells slots (MQ below (QP G (fun v H => v = some (.int rx) ∧ GH G rw H)) args s 30 3900 (gA G)) (GH G w) 93 [(3, .int i), (2, .ref (adr G 1 j)), (0, .ref (adr G 0 0)), (1, .int p1)] [] := by
  unfold FprT at hF
  obtain ⟨w1, h1, hF⟩ := bo1_e hF
  obtain ⟨w2, h2, hF⟩ := bo1_e hF
  obtain ⟨w3, h3, hF⟩ := bo1_e hF
  obtain ⟨hF, hF2⟩ := Prod.mk.inj (Option.some.inj hF)
  subst hF
  subst hF2
  refine J_aload_n hX dX12_printReceipt_93 2 rfl (t := 94) rfl ?_
  refine J_get hX cb9 kEcho 7 (by decide) q_569 rfl dX12_printReceipt_94 (t := 97) rfl ?_
  refine J_bipush (v := 32) hX dX12_printReceipt_97 (by decide) (t := 99) rfl ?_
  refine J_callVP hX [.int 32] [] (ct_ap4 h1) miJ4_append_cf468 q_1915 (hX.2.2.2.2.1 _ q_1916) GH.ob q_1914 ⟨rfl, rfl, Nat.le_of_ble_eq_true rfl, Nat.le_of_ble_eq_true rfl⟩ rfl rfl (Nat.le_of_ble_eq_true rfl) ⟨by show cells + 1 ≤ 30; omega, by show slots + 130 ≤ 3900; omega⟩ dX12_printReceipt_99 (t := 102) rfl (fun v9 => J_pure fun hv9 => ?_)
  subst hv9
  refine J_pop hX dX12_printReceipt_102 rfl (t := 103) rfl ?_
  refine J_aload_n hX dX12_printReceipt_103 2 rfl (t := 104) rfl ?_
  refine J_get hX cb9 kEcho 7 (by decide) q_569 rfl dX12_printReceipt_104 (t := 107) rfl ?_
  refine J_aload_n hX dX12_printReceipt_107 1 rfl (t := 108) rfl ?_
  refine J_callV hX [] [.ref (adr G 14 0)] [.int (FX8_earnings (w1 1) j), .ref (adr G 14 0)] (CT.self2 (ctX8_earnings w1 1 ⟨by decide, by decide⟩ (w1 1) j hj rfl)) miX8_earnings mvX8_earnings cb6 (kShout (r := 1) ⟨by decide, by decide⟩ hj) q_1475 ⟨rfl, rfl, Nat.le_of_ble_eq_true rfl, Nat.le_of_ble_eq_true rfl⟩ rfl rfl (Nat.le_of_ble_eq_true rfl) ⟨by show cells + 1 + 0 ≤ 30; omega, by show slots + 130 + 0 ≤ 3900; omega⟩ dX12_printReceipt_108 (t := 111) rfl rfl ?_
  refine J_callVP hX [.int (FX8_earnings (w1 1) j)] [] (ct_ai4 h2) miJ4_append_bf812 q_1774 (hX.2.2.2.2.1 _ q_1775) GH.ob q_1931 ⟨rfl, rfl, Nat.le_of_ble_eq_true rfl, Nat.le_of_ble_eq_true rfl⟩ rfl rfl (Nat.le_of_ble_eq_true rfl) ⟨by show cells + 1 + 0 + 1 ≤ 30; omega, by show slots + 130 + 0 + 130 ≤ 3900; omega⟩ dX12_printReceipt_111 (t := 114) rfl (fun v9 => J_pure fun hv9 => ?_)
  subst hv9
  refine J_pop hX dX12_printReceipt_114 rfl (t := 115) rfl ?_
  refine J_aload_n hX dX12_printReceipt_115 2 rfl (t := 116) rfl ?_
  refine J_get hX cb9 kEcho 7 (by decide) q_569 rfl dX12_printReceipt_116 (t := 119) rfl ?_
  refine J_bipush (v := 10) hX dX12_printReceipt_119 (by decide) (t := 121) rfl ?_
  refine J_callVP hX [.int 10] [] (ct_ap4 h3) miJ4_append_cf468 q_1915 (hX.2.2.2.2.1 _ q_1916) GH.ob q_1914 ⟨rfl, rfl, Nat.le_of_ble_eq_true rfl, Nat.le_of_ble_eq_true rfl⟩ rfl rfl (Nat.le_of_ble_eq_true rfl) ⟨by show cells + 1 + 0 + 1 + 1 ≤ 30; omega, by show slots + 130 + 0 + 130 + 130 ≤ 3900; omega⟩ dX12_printReceipt_121 (t := 124) rfl (fun v9 => J_pure fun hv9 => ?_)
  subst hv9
  refine J_pop hX dX12_printReceipt_124 rfl (t := 125) rfl ?_
  refine J_aload_n hX dX12_printReceipt_125 2 rfl (t := 126) rfl ?_
  refine J_get hX cb9 kEcho 7 (by decide) q_569 rfl dX12_printReceipt_126 (t := 129) rfl ?_
  refine J_callVP hX [] [] ct_ln4 miJ4_length_8abf5 q_1820 (hX.2.2.2.2.1 _ q_2839) GH.ob q_1932 ⟨rfl, rfl, Nat.le_of_ble_eq_true rfl, Nat.le_of_ble_eq_true rfl⟩ rfl rfl (Nat.le_of_ble_eq_true rfl) ⟨by show cells + 1 + 0 + 1 + 1 + 0 ≤ 30; omega, by show slots + 130 + 0 + 130 + 130 + 0 ≤ 3900; omega⟩ dX12_printReceipt_129 (t := 132) rfl (fun v9 => J_pure fun hv9 => ?_)
  subst hv9
  refine J_wid (k := 30) (n := 3900) (by omega) (by omega) ?_
  exact J_iretP hX hR hlk (fun H h => ⟨rfl, h⟩) dX12_printReceipt_132
set_option maxHeartbeats 4000000 in
theorem L_pr {G : GG} {l : Launch} {p : Program} {e : Env} {s : State} {m : MethodId} {args : Array Value} {below : List Frame} {meth : Method} {c : Code} (hX : FX G RX12 cX12_printReceipt 4 p s m args c) (hR : meth.sig.returnType = some .int) (hlk : meth.locks = false) {rx : Int32} {rw : Wd} {j : Nat} (hj : 20 ≤ j ∧ j < 50) (p1 : Int32) : ∀ (k : Nat) (w : Wd) (i : Int32) (cells slots : Nat), cells + k + 3 ≤ 30 → slots + 130 * k + 390 ≤ 3900 → FprK k w j i = some (rx, rw) → J G p l e rmX12_printReceipt s m args below meth c 4 cells slots (MQ below (QP G (fun v H => v = some (.int rx) ∧ GH G rw H)) args s 30 3900 (gA G)) (GH G w) 66 [(3, .int i), (2, .ref (adr G 1 j)), (0, .ref (adr G 0 0)), (1, .int p1)] [] := by
  intro k
  induction k with
  | zero =>
    intro w i cells slots hb1 hb2 hF
    simp only [FprK] at hF
    refine J_iload_n hX dX12_printReceipt_66 0 rfl (t := 67) rfl ?_
    refine J_aload_n hX dX12_printReceipt_67 1 rfl (t := 68) rfl ?_
    refine J_get hX cb6 (kShout (r := 1) ⟨by decide, by decide⟩ hj) 3 (by decide) q_330 rfl dX12_printReceipt_68 (t := 71) rfl ?_
    refine J_icmp_gt (tgt := 93) hX dX12_printReceipt_71 (by decide) (t := 74) rfl (fun z => ?_) (fun z => ?_)
    · exact L_prT hX hR hlk hj w i p1 cells slots (by omega) (by omega) (it_t hF z)
    · cases it_f hF z
  | succ k ih =>
    intro w i cells slots hb1 hb2 hF
    simp only [FprK] at hF
    refine J_iload_n hX dX12_printReceipt_66 0 rfl (t := 67) rfl ?_
    refine J_aload_n hX dX12_printReceipt_67 1 rfl (t := 68) rfl ?_
    refine J_get hX cb6 (kShout (r := 1) ⟨by decide, by decide⟩ hj) 3 (by decide) q_330 rfl dX12_printReceipt_68 (t := 71) rfl ?_
    refine J_icmp_gt (tgt := 93) hX dX12_printReceipt_71 (by decide) (t := 74) rfl (fun z => ?_) (fun z => ?_)
    · exact L_prT hX hR hlk hj w i p1 cells slots (by omega) (by omega) (it_t hF z)
    · obtain ⟨w2, hC, hF⟩ := bo1_e (it_f hF z)
      refine J_aload_n hX dX12_printReceipt_74 2 rfl (t := 75) rfl ?_
      refine J_get hX cb9 kEcho 7 (by decide) q_569 rfl dX12_printReceipt_75 (t := 78) rfl ?_
      refine J_aload_n hX dX12_printReceipt_78 1 rfl (t := 79) rfl ?_
      refine J_iload_n hX dX12_printReceipt_79 0 rfl (t := 80) rfl ?_
      refine J_callV hX [.int i] [.ref (adr G 14 0)] [.int (FX8_signOfEcho (w 1) j i), .ref (adr G 14 0)] (CT.self2 (ctX8_signOfEcho w 1 ⟨by decide, by decide⟩ (w 1) j i hj rfl)) miX8_signOfEcho mvX8_signOfEcho cb6 (kShout (r := 1) ⟨by decide, by decide⟩ hj) q_1927 ⟨rfl, rfl, Nat.le_of_ble_eq_true rfl, Nat.le_of_ble_eq_true rfl⟩ rfl rfl (Nat.le_of_ble_eq_true rfl) ⟨by show cells + 0 ≤ 30; omega, by show slots + 0 ≤ 3900; omega⟩ dX12_printReceipt_80 (t := 83) rfl rfl ?_
      refine J_callVP hX [.int (FX8_signOfEcho (w 1) j i)] [] (ct_ap4 hC) miJ4_append_cf468 q_1915 (hX.2.2.2.2.1 _ q_1916) GH.ob q_1914 ⟨rfl, rfl, Nat.le_of_ble_eq_true rfl, Nat.le_of_ble_eq_true rfl⟩ rfl rfl (Nat.le_of_ble_eq_true rfl) ⟨by show cells + 0 + 1 ≤ 30; omega, by show slots + 0 + 130 ≤ 3900; omega⟩ dX12_printReceipt_83 (t := 86) rfl (fun v9 => J_pure fun hv9 => ?_)
      subst hv9
      refine J_pop hX dX12_printReceipt_86 rfl (t := 87) rfl ?_
      refine J_iinc (v := i + 1) (lc2 := [(3, .int (i + 1)), (2, .ref (adr G 1 j)), (0, .ref (adr G 0 0)), (1, .int p1)]) hX dX12_printReceipt_87 0 rfl (rfl) (Nat.le_of_ble_eq_true rfl) rfl (t := 90) rfl ?_
      refine J_goto (tgt := 66) hX dX12_printReceipt_90 (by decide) ?_
      exact ih w2 (i + 1) (cells + 0 + 1) (slots + 0 + 130) (by omega) (by omega) hF
set_option maxHeartbeats 4000000 in
set_option maxRecDepth 100000 in
theorem ct_pr {G : GG} {l : Launch} {w rw : Wd} {p1 rx : Int32} (hF : FX12_printReceipt w p1 = some (.ok (rx, rw))) : CTP G l yX12_printReceipt cX12_printReceipt 4 (some .int) rmX12_printReceipt 30 3900 [.ref (adr G 0 0), .int p1] (GH G w) (fun v H => v = some (.int rx) ∧ GH G rw H) := by
  refine CTP.of miX12_printReceipt [(0, .ref (adr G 0 0)), (1, .int p1)] rfl (Nat.le_of_ble_eq_true rfl) ?_
  intro p e s m args below meth c hX hR hlk
  have hX : FX G RX12 cX12_printReceipt 4 p s m args c := hX
  unfold FX12_printReceipt at hF
  obtain ⟨j, hC, hF⟩ := xo_ok hF
  replace hF := okm_e hF
  unfold FprM at hF
  obtain ⟨hj, hF⟩ := gd_e hF
  have hj : 20 ≤ j ∧ j < 50 := of_decide_eq_true hj
  obtain ⟨w1, h1, hF⟩ := bo1_e hF
  obtain ⟨jc, h2, hF⟩ := bo1_e hF
  obtain ⟨gc, hF⟩ := gd_e hF
  have gc : 12 ≤ jc ∧ jc < 20 := of_decide_eq_true gc
  obtain ⟨w2, h3, hF⟩ := bo1_e hF
  obtain ⟨w3, h4, hF⟩ := bo1_e hF
  obtain ⟨jv, h5, hF⟩ := bo1_e hF
  obtain ⟨gv, hF⟩ := gd_e hF
  have gv : 4 ≤ jv ∧ jv < 12 := of_decide_eq_true gv
  obtain ⟨w4, h6, hF⟩ := bo1_e hF
  obtain ⟨w5, h7, hF⟩ := bo1_e hF
  refine J_aload_n hX dX12_printReceipt_0 0 rfl (t := 1) rfl ?_
  refine J_iload_n hX dX12_printReceipt_1 1 rfl (t := 2) rfl ?_
  refine J_callV hX [.int p1] [] [.ref (adr G 1 j)] (ctX12_shoutAt w p1 hC) miX12_shoutAt mvX12_shoutAt cb9 kEcho q_1442 ⟨rfl, rfl, Nat.le_of_ble_eq_true rfl, Nat.le_of_ble_eq_true rfl⟩ rfl rfl (Nat.le_of_ble_eq_true rfl) ⟨Nat.le_of_ble_eq_true rfl, Nat.le_of_ble_eq_true rfl⟩ dX12_printReceipt_2 (t := 5) rfl rfl ?_
  refine J_astore_n (lc2 := [(2, .ref (adr G 1 j)), (0, .ref (adr G 0 0)), (1, .int p1)]) hX dX12_printReceipt_5 rfl (Nat.le_of_ble_eq_true rfl) rfl (t := 6) rfl ?_
  refine J_aload_n hX dX12_printReceipt_6 1 rfl (t := 7) rfl ?_
  refine J_get hX cb9 kEcho 7 (by decide) q_569 rfl dX12_printReceipt_7 (t := 10) rfl ?_
  refine J_iconst (v := 0) hX dX12_printReceipt_10 (by decide) (t := 11) rfl ?_
  refine J_callVP hX [.int 0] [] (ct_sl4 h1) miJ4_setLength_d00df q_1662 (hX.2.2.2.2.1 _ q_1663) GH.ob q_1661 ⟨rfl, rfl, Nat.le_of_ble_eq_true rfl, Nat.le_of_ble_eq_true rfl⟩ rfl rfl (Nat.le_of_ble_eq_true rfl) ⟨Nat.le_of_ble_eq_true rfl, Nat.le_of_ble_eq_true rfl⟩ dX12_printReceipt_11 (t := 14) rfl (fun v9 => J_pure fun hv9 => ?_)
  subst hv9
  refine J_aload_n hX dX12_printReceipt_14 1 rfl (t := 15) rfl ?_
  refine J_aload_n hX dX12_printReceipt_15 1 rfl (t := 16) rfl ?_
  refine J_aload_n hX dX12_printReceipt_16 0 rfl (t := 17) rfl ?_
  refine J_get hX cb6 (kShout (r := 1) ⟨by decide, by decide⟩ hj) 0 (by decide) q_322 rfl dX12_printReceipt_17 (t := 20) rfl ?_
  refine J_callV hX [.int ((w1 1).1 j 0)] [.ref (adr G 0 0)] [.ref (adr G 1 jc), .ref (adr G 0 0)] (ctX12_customerAt w1 _ (okX_e h2)) miX12_customerAt mvX12_customerAt cb9 kEcho q_1394 ⟨rfl, rfl, Nat.le_of_ble_eq_true rfl, Nat.le_of_ble_eq_true rfl⟩ rfl rfl (Nat.le_of_ble_eq_true rfl) ⟨Nat.le_of_ble_eq_true rfl, Nat.le_of_ble_eq_true rfl⟩ dX12_printReceipt_20 (t := 23) rfl rfl ?_
  refine J_get hX cb1 (kCustomer (r := 1) ⟨by decide, by decide⟩ gc) 0 (by decide) q_282 rfl dX12_printReceipt_23 (t := 26) rfl ?_
  refine J_callWP hX [.long ((w1 1).2 jc 0)] [] (ct_pn h3) miX12_printName mvX12_printName cb9 kEcho q_1910 ⟨rfl, rfl, Nat.le_of_ble_eq_true rfl, Nat.le_of_ble_eq_true rfl⟩ rfl rfl (Nat.le_of_ble_eq_true rfl) ⟨Nat.le_of_ble_eq_true rfl, Nat.le_of_ble_eq_true rfl⟩ dX12_printReceipt_26 (t := 29) rfl (fun v9 => J_pure fun hv9 => ?_)
  subst hv9
  refine J_aload_n hX dX12_printReceipt_29 1 rfl (t := 30) rfl ?_
  refine J_get hX cb9 kEcho 7 (by decide) q_569 rfl dX12_printReceipt_30 (t := 33) rfl ?_
  refine J_bipush (v := 64) hX dX12_printReceipt_33 (by decide) (t := 35) rfl ?_
  refine J_callVP hX [.int 64] [] (ct_ap4 h4) miJ4_append_cf468 q_1915 (hX.2.2.2.2.1 _ q_1916) GH.ob q_1914 ⟨rfl, rfl, Nat.le_of_ble_eq_true rfl, Nat.le_of_ble_eq_true rfl⟩ rfl rfl (Nat.le_of_ble_eq_true rfl) ⟨Nat.le_of_ble_eq_true rfl, Nat.le_of_ble_eq_true rfl⟩ dX12_printReceipt_35 (t := 38) rfl (fun v9 => J_pure fun hv9 => ?_)
  subst hv9
  refine J_pop hX dX12_printReceipt_38 rfl (t := 39) rfl ?_
  refine J_aload_n hX dX12_printReceipt_39 1 rfl (t := 40) rfl ?_
  refine J_aload_n hX dX12_printReceipt_40 1 rfl (t := 41) rfl ?_
  refine J_aload_n hX dX12_printReceipt_41 0 rfl (t := 42) rfl ?_
  refine J_get hX cb6 (kShout (r := 1) ⟨by decide, by decide⟩ hj) 1 (by decide) q_325 rfl dX12_printReceipt_42 (t := 45) rfl ?_
  refine J_callV hX [.int ((w3 1).1 j 1)] [.ref (adr G 0 0)] [.ref (adr G 1 jv), .ref (adr G 0 0)] (ctX12_valleyAt w3 _ (okX_e h5)) miX12_valleyAt mvX12_valleyAt cb9 kEcho q_1320 ⟨rfl, rfl, Nat.le_of_ble_eq_true rfl, Nat.le_of_ble_eq_true rfl⟩ rfl rfl (Nat.le_of_ble_eq_true rfl) ⟨Nat.le_of_ble_eq_true rfl, Nat.le_of_ble_eq_true rfl⟩ dX12_printReceipt_45 (t := 48) rfl rfl ?_
  refine J_get hX cb8 (kValley (r := 1) ⟨by decide, by decide⟩ gv) 0 (by decide) q_237 rfl dX12_printReceipt_48 (t := 51) rfl ?_
  refine J_callWP hX [.long ((w3 1).2 jv 0)] [] (ct_pn h6) miX12_printName mvX12_printName cb9 kEcho q_1910 ⟨rfl, rfl, Nat.le_of_ble_eq_true rfl, Nat.le_of_ble_eq_true rfl⟩ rfl rfl (Nat.le_of_ble_eq_true rfl) ⟨Nat.le_of_ble_eq_true rfl, Nat.le_of_ble_eq_true rfl⟩ dX12_printReceipt_51 (t := 54) rfl (fun v9 => J_pure fun hv9 => ?_)
  subst hv9
  refine J_aload_n hX dX12_printReceipt_54 1 rfl (t := 55) rfl ?_
  refine J_get hX cb9 kEcho 7 (by decide) q_569 rfl dX12_printReceipt_55 (t := 58) rfl ?_
  refine J_bipush (v := 32) hX dX12_printReceipt_58 (by decide) (t := 60) rfl ?_
  refine J_callVP hX [.int 32] [] (ct_ap4 h7) miJ4_append_cf468 q_1915 (hX.2.2.2.2.1 _ q_1916) GH.ob q_1914 ⟨rfl, rfl, Nat.le_of_ble_eq_true rfl, Nat.le_of_ble_eq_true rfl⟩ rfl rfl (Nat.le_of_ble_eq_true rfl) ⟨Nat.le_of_ble_eq_true rfl, Nat.le_of_ble_eq_true rfl⟩ dX12_printReceipt_60 (t := 63) rfl (fun v9 => J_pure fun hv9 => ?_)
  subst hv9
  refine J_pop hX dX12_printReceipt_63 rfl (t := 64) rfl ?_
  refine J_iconst (v := 1) hX dX12_printReceipt_64 (by decide) (t := 65) rfl ?_
  refine J_istore_n (lc2 := [(3, .int 1), (2, .ref (adr G 1 j)), (0, .ref (adr G 0 0)), (1, .int p1)]) hX dX12_printReceipt_65 rfl (Nat.le_of_ble_eq_true rfl) rfl (t := 66) rfl ?_
  exact L_pr hX hR hlk hj p1 8 w5 1 _ _ (by decide) (by decide) hF
theorem ce_pr {G : GG} {l : Launch} (hl : l.stackTraces = false) {w eW : Wd} {p1 : Int32} {eE : String} (hF : FX12_printReceipt w p1 = some (.error (eE, eW))) : CXT G l yX12_printReceipt cX12_printReceipt 4 (some .int) rmeX12_printReceipt 1 6 [.ref (adr G 0 0), .int p1] w eE eW := by
  refine CXT.of miX12_printReceipt [(0, .ref (adr G 0 0)), (1, .int p1)] rfl (Nat.le_of_ble_eq_true rfl) ?_
  intro p e s m args below meth c hX hR hlk hT
  have hX : FX G RX12 cX12_printReceipt 4 p s m args c := hX
  unfold FX12_printReceipt at hF
  rcases xo_er hF with hC | ⟨j, hC, hF⟩
  rotate_left
  · exact (okm_n hF).elim
  refine J_aload_n hX dX12_printReceipt_0 0 rfl (t := 1) rfl ?_
  refine J_iload_n hX dX12_printReceipt_1 1 rfl (t := 2) rfl ?_
  exact J_callVT hX [.int p1] [] (ceX12_shoutAt hl w p1 hC) miX12_shoutAt mvX12_shoutAt cb9 kEcho q_1442 ⟨rfl, rfl, Nat.le_of_ble_eq_true rfl, Nat.le_of_ble_eq_true rfl⟩ rfl rfl (Nat.le_of_ble_eq_true rfl) ⟨Nat.le_of_ble_eq_true rfl, Nat.le_of_ble_eq_true rfl⟩ dX12_printReceipt_2 (JT_out hT hlk)
theorem miX12_outputByte : MI yX12_outputByte cX12_outputByte 2 (some .int) 1 := ⟨q_1939, q_136, by decide +kernel, by decide +kernel, by decide +kernel, by decide +kernel⟩
theorem mvX12_outputByte : MV yX12_outputByte := ⟨q_1937, q_1938⟩
abbrev rmX12_outputByte : Room := { frames := 8, cells := 0, slots := 0, locals := 400 }
abbrev rmeX12_outputByte : Room := { frames := 8, cells := 1, slots := 6, locals := 400 }
def FX12_outputByte (w : Wd) (p1 : Int32) : Option (Except (String × Wd) Int32) := bnd (FX12_isWithin p1 0 ((w 14).1 0 3 - 1)) fun b => xo (xw w (FX12_demandIndex b)) fun _ => gd (decide (0 ≤ p1) && decide (p1 < (w 14).1 0 3)) <| some (.ok ((((w 14).1 1 p1.toNatClampNeg) &&& 255).toUInt32 % 65536).toInt32)
theorem ctX12_outputByte {G : GG} {l : Launch} (w : Wd) (p1 : Int32) {rx : Int32} (hF : FX12_outputByte w p1 = some (.ok rx)) : CT G l yX12_outputByte cX12_outputByte 2 (some .int) rmX12_outputByte 0 0 [.ref (adr G 0 0), .int p1] w (some (.int rx)) w := by
  refine CT.of miX12_outputByte [(0, .ref (adr G 0 0)), (1, .int p1)] rfl (Nat.le_of_ble_eq_true rfl) ?_
  intro p e s m args below meth c hX hR hlk
  have hX : FX G RX12 cX12_outputByte 2 p s m args c := hX
  unfold FX12_outputByte at hF
  obtain ⟨b, hb, hF⟩ := bnd_e hF
  obtain ⟨u, hC, hF⟩ := xow_ok hF
  obtain ⟨g1, g2, hF⟩ := gd2_e hF
  replace hF := Except.ok.inj (Option.some.inj hF)
  subst hF
  refine J_iload_n hX dX12_outputByte_0 1 rfl (t := 1) rfl ?_
  refine J_iconst (v := 0) hX dX12_outputByte_1 (by decide) (t := 2) rfl ?_
  refine J_aload_n hX dX12_outputByte_2 0 rfl (t := 3) rfl ?_
  refine J_get hX cb9 kEcho 7 (by decide) q_569 rfl dX12_outputByte_3 (t := 6) rfl ?_
  refine J_callVP hX [] [.int 0, .int p1] ct_ln4 miJ4_length_8abf5 q_1820 (hX.2.2.2.2.1 _ q_2839) GH.ob q_1932 ⟨rfl, rfl, Nat.le_of_ble_eq_true rfl, Nat.le_of_ble_eq_true rfl⟩ rfl rfl (Nat.le_of_ble_eq_true rfl) ⟨Nat.le_of_ble_eq_true rfl, Nat.le_of_ble_eq_true rfl⟩ dX12_outputByte_6 (t := 9) rfl (fun v9 => J_pure fun hv9 => ?_)
  subst hv9
  refine J_iconst (v := 1) hX dX12_outputByte_9 (by decide) (t := 10) rfl ?_
  refine J_isub hX dX12_outputByte_10 (t := 11) rfl ?_
  refine J_callS hX [.int p1, .int 0, .int ((w 14).1 0 3 - 1)] [] [.int (bI b)] (ctX12_isWithin p1 0 ((w 14).1 0 3 - 1) hb) miX12_isWithin q_655 q_873 ⟨rfl, rfl, Nat.le_of_ble_eq_true rfl, Nat.le_of_ble_eq_true rfl⟩ rfl rfl (Nat.le_of_ble_eq_true rfl) ⟨Nat.le_of_ble_eq_true rfl, Nat.le_of_ble_eq_true rfl⟩ dX12_outputByte_11 (t := 14) rfl rfl ?_
  refine J_callS hX [.int (bI b)] [] [] (ctX12_demandIndex b hC) miX12_demandIndex q_1326 q_1325 ⟨rfl, rfl, Nat.le_of_ble_eq_true rfl, Nat.le_of_ble_eq_true rfl⟩ rfl rfl (Nat.le_of_ble_eq_true rfl) ⟨Nat.le_of_ble_eq_true rfl, Nat.le_of_ble_eq_true rfl⟩ dX12_outputByte_14 (t := 17) rfl rfl ?_
  refine J_aload_n hX dX12_outputByte_17 0 rfl (t := 18) rfl ?_
  refine J_get hX cb9 kEcho 7 (by decide) q_569 rfl dX12_outputByte_18 (t := 21) rfl ?_
  refine J_iload_n hX dX12_outputByte_21 1 rfl (t := 22) rfl ?_
  refine J_callVP hX [.int p1] [] (ct_ch4 ⟨of_decide_eq_true g1, of_decide_eq_true g2⟩) miJ4_charAt_5068e q_1941 (hX.2.2.2.2.1 _ q_1942) GH.ob q_1940 ⟨rfl, rfl, Nat.le_of_ble_eq_true rfl, Nat.le_of_ble_eq_true rfl⟩ rfl rfl (Nat.le_of_ble_eq_true rfl) ⟨Nat.le_of_ble_eq_true rfl, Nat.le_of_ble_eq_true rfl⟩ dX12_outputByte_22 (t := 25) rfl (fun v9 => J_pure fun hv9 => ?_)
  subst hv9
  exact J_iret hX hR hlk dX12_outputByte_25
theorem ceX12_outputByte {G : GG} {l : Launch} (hl : l.stackTraces = false) (w : Wd) (p1 : Int32) {eE : String} {eW : Wd} (hF : FX12_outputByte w p1 = some (.error (eE, eW))) : CXT G l yX12_outputByte cX12_outputByte 2 (some .int) rmeX12_outputByte 1 6 [.ref (adr G 0 0), .int p1] w eE eW := by
  refine CXT.of miX12_outputByte [(0, .ref (adr G 0 0)), (1, .int p1)] rfl (Nat.le_of_ble_eq_true rfl) ?_
  intro p e s m args below meth c hX hR hlk hT
  have hX : FX G RX12 cX12_outputByte 2 p s m args c := hX
  unfold FX12_outputByte at hF
  obtain ⟨b, hb, hF⟩ := bnd_e hF
  rcases xow_er hF with ⟨hC, hW9⟩ | ⟨u, hC, hF⟩
  rotate_left
  · obtain ⟨g1, g2, hF⟩ := gd2_e hF
    cases hF
  subst hW9
  refine J_iload_n hX dX12_outputByte_0 1 rfl (t := 1) rfl ?_
  refine J_iconst (v := 0) hX dX12_outputByte_1 (by decide) (t := 2) rfl ?_
  refine J_aload_n hX dX12_outputByte_2 0 rfl (t := 3) rfl ?_
  refine J_get hX cb9 kEcho 7 (by decide) q_569 rfl dX12_outputByte_3 (t := 6) rfl ?_
  refine J_callVP hX [] [.int 0, .int p1] ct_ln4 miJ4_length_8abf5 q_1820 (hX.2.2.2.2.1 _ q_2839) GH.ob q_1932 ⟨rfl, rfl, Nat.le_of_ble_eq_true rfl, Nat.le_of_ble_eq_true rfl⟩ rfl rfl (Nat.le_of_ble_eq_true rfl) ⟨Nat.le_of_ble_eq_true rfl, Nat.le_of_ble_eq_true rfl⟩ dX12_outputByte_6 (t := 9) rfl (fun v9 => J_pure fun hv9 => ?_)
  subst hv9
  refine J_iconst (v := 1) hX dX12_outputByte_9 (by decide) (t := 10) rfl ?_
  refine J_isub hX dX12_outputByte_10 (t := 11) rfl ?_
  refine J_callS hX [.int p1, .int 0, .int ((w 14).1 0 3 - 1)] [] [.int (bI b)] (ctX12_isWithin p1 0 ((w 14).1 0 3 - 1) hb) miX12_isWithin q_655 q_873 ⟨rfl, rfl, Nat.le_of_ble_eq_true rfl, Nat.le_of_ble_eq_true rfl⟩ rfl rfl (Nat.le_of_ble_eq_true rfl) ⟨Nat.le_of_ble_eq_true rfl, Nat.le_of_ble_eq_true rfl⟩ dX12_outputByte_11 (t := 14) rfl rfl ?_
  exact J_callST hX [.int (bI b)] [] (ceX12_demandIndex hl b hC) miX12_demandIndex q_1326 q_1325 ⟨rfl, rfl, Nat.le_of_ble_eq_true rfl, Nat.le_of_ble_eq_true rfl⟩ rfl rfl (Nat.le_of_ble_eq_true rfl) ⟨Nat.le_of_ble_eq_true rfl, Nat.le_of_ble_eq_true rfl⟩ dX12_outputByte_14 (JT_out hT hlk)
