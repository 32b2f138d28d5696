set_option maxHeartbeats 400000
/-! feed (the bits of a number: a family of the given laws, pasted) -/
def bt (x : Int32) (i : Nat) : Bool := x.toBitVec.getLsbD i
theorem b_ext {x y : Int32} (h : ∀ i, i < 32 → bt x i = bt y i) : x = y := Int32.toBitVec_inj.mp (BitVec.eq_of_getLsbD_eq (fun i hi => h i hi))
theorem b_or (x y : Int32) (i : Nat) : bt (x ||| y) i = (bt x i || bt y i) := by unfold bt; rw [Int32.toBitVec_or, BitVec.getLsbD_or]
theorem b_and (x y : Int32) (i : Nat) : bt (x &&& y) i = (bt x i && bt y i) := by unfold bt; rw [Int32.toBitVec_and, BitVec.getLsbD_and]
theorem b_xor (x y : Int32) (i : Nat) : bt (x ^^^ y) i = (bt x i ^^ bt y i) := by unfold bt; rw [Int32.toBitVec_xor, BitVec.getLsbD_xor]
theorem b_big {x : Int32} {i : Nat} (h : 32 ≤ i) : bt x i = false := BitVec.getLsbD_of_ge _ _ h
theorem b_255 (i : Nat) : bt 255 i = decide (i < 8) := by
  rcases Nat.lt_or_ge i 32 with h | h
  · exact (by decide +kernel : ∀ i, i < 32 → bt 255 i = decide (i < 8)) i h
  · rw [b_big h, decide_eq_false (by omega)]
theorem b_65535 (i : Nat) : bt 65535 i = decide (i < 16) := by
  rcases Nat.lt_or_ge i 32 with h | h
  · exact (by decide +kernel : ∀ i, i < 32 → bt 65535 i = decide (i < 16)) i h
  · rw [b_big h, decide_eq_false (by omega)]
theorem b_m1 : ∀ i, i < 32 → bt (-1) i = true := by decide +kernel
theorem b_0 (i : Nat) : bt 0 i = false := BitVec.getLsbD_zero
theorem s_l : ∀ n, n < 32 → ((nI n &&& 31).toBitVec.smod 32).toNat = n := by decide +kernel
theorem s_u : ∀ n, n < 32 → (((nI n).toUInt32 &&& Int32.toUInt32 31).toBitVec % 32).toNat = n := by decide +kernel
theorem b_shl (n : Nat) (hn : n < 32) (x : Int32) {i : Nat} (hi : i < 32) : bt (x <<< (nI n &&& 31)) i = (decide (n ≤ i) && bt x (i - n)) := by
  unfold bt
  rw [Int32.toBitVec_shiftLeft]
  show (x.toBitVec <<< ((nI n &&& 31).toBitVec.smod 32).toNat).getLsbD i = _
  rw [s_l n hn, BitVec.getLsbD_shiftLeft]
  rcases Nat.lt_or_ge i n with h | h
  · simp [h, Nat.not_le.mpr h]
  · simp [hi, h, Nat.not_lt.mpr h]
theorem b_ushr (n : Nat) (hn : n < 32) (x : Int32) (i : Nat) : bt ((x.toUInt32 >>> ((nI n).toUInt32 &&& Int32.toUInt32 31)).toInt32) i = bt x (n + i) := by
  show (x.toUInt32 >>> ((nI n).toUInt32 &&& Int32.toUInt32 31)).toBitVec.getLsbD i = x.toUInt32.toBitVec.getLsbD (n + i)
  rw [UInt32.toBitVec_shiftRight]
  show (x.toUInt32.toBitVec >>> (((nI n).toUInt32 &&& Int32.toUInt32 31).toBitVec % 32).toNat).getLsbD i = _
  rw [s_u n hn, BitVec.getLsbD_ushiftRight]
theorem b_sshr (n : Nat) (hn : n < 32) (x : Int32) {i : Nat} (hi : i < 32) : bt (x >>> (nI n &&& 31)) i = if n + i < 32 then bt x (n + i) else bt x 31 := by
  unfold bt
  rw [Int32.toBitVec_shiftRight]
  show (x.toBitVec.sshiftRight ((nI n &&& 31).toBitVec.smod 32).toNat).getLsbD i = _
  rw [s_l n hn, BitVec.getLsbD_sshiftRight, BitVec.msb_eq_getLsbD_last]
  simp [hi]
/-- the q-th byte of a number, the highest first -/
def byt (x : Int32) (q : Nat) : Nat := ((x >>> (nI (24 - 8 * q) &&& 31)) &&& 255).toNatClampNeg
theorem and255n (y : Int32) : ∃ b, b < 256 ∧ y &&& 255 = nI b := by
  have h : (y &&& 255).toBitVec.toNat < 256 := by
    rw [Int32.toBitVec_and, BitVec.toNat_and]
    have e2 : (255 : Int32).toBitVec.toNat = 2 ^ 8 - 1 := by decide
    rw [e2, Nat.and_two_pow_sub_one_eq_mod]
    omega
  refine ⟨(y &&& 255).toBitVec.toNat, h, ?_⟩
  apply Int32.toBitVec_inj.mp
  apply BitVec.eq_of_toNat_eq
  show _ = (BitVec.ofNat 32 _).toNat
  rw [BitVec.toNat_ofNat]
  omega
theorem i8_255 (z : Int32) : (z &&& 255).toInt8 = z.toInt8 := by
  apply Int8.toBitVec_inj.mp
  rw [Int32.toBitVec_toInt8, Int32.toBitVec_toInt8]
  apply BitVec.eq_of_getLsbD_eq
  intro i hi
  rw [BitVec.getLsbD_signExtend, BitVec.getLsbD_signExtend, if_pos (by omega), if_pos (by omega)]
  have h := b_and z 255 i
  rw [b_255, decide_eq_true hi, Bool.and_true] at h
  unfold bt at h
  rw [h]
theorem byte_pair (x : Int32) {q : Nat} (hq : q < 4) : byt x q < 256 ∧ (x >>> (nI (24 - 8 * q) &&& 31)) &&& 255 = nI (byt x q) ∧ (((x.toUInt32 >>> ((nI (24 - 8 * q)).toUInt32 &&& Int32.toUInt32 31)).toInt32).toInt8.toInt32).toInt8.toInt32 = (nI (byt x q)).toInt8.toInt32 := by
  obtain ⟨b, b1, b2⟩ := and255n (x >>> (nI (24 - 8 * q) &&& 31))
  have eb : byt x q = b := by
    unfold byt
    rw [b2, nI_c (by omega)]
  have ez : (x.toUInt32 >>> ((nI (24 - 8 * q)).toUInt32 &&& Int32.toUInt32 31)).toInt32 &&& 255 = nI b := by
    rw [← b2]
    apply b_ext
    intro i hi
    rw [b_and, b_and, b_255, b_ushr _ (by omega), b_sshr _ (by omega) _ hi]
    by_cases z : i < 8
    · rw [if_pos (by omega)]
    · rw [decide_eq_false z, Bool.and_false, Bool.and_false]
  rw [eb]
  refine ⟨b1, b2, ?_⟩
  have e1 : ∀ y : Int8, y.toInt32.toInt8 = y := fun y => by simp
  rw [e1, ← ez, i8_255]
def shI (i : Nat) : Int32 := 24 - nI (8 * i)
theorem shI_s (i : Nat) : shI i + (-8) = shI (i + 1) := by
  unfold shI
  rw [show 8 * (i + 1) = 8 * i + 8 by omega, ← nI_add, ← Int32.sub_sub, Int32.sub_eq_add_neg (24 - nI (8 * i))]
  rfl
theorem shI_n {i : Nat} (h : i < 4) : shI i = nI (24 - 8 * i) := by
  unfold shI
  exact nI_sub (a := 24) (by omega)
theorem shI_4 : shI 4 < 0 := by decide
theorem shI_p {i : Nat} (h : i < 4) : ¬ shI i < 0 := by
  rw [shI_n h]
  exact nI_pos (by omega)
/-- four bytes more on the class's side -/
def Ap (w w' : Wd) (f i : Nat) (x : Int32) : Prop := (∀ r, r ≠ 10 → w' r = w r) ∧ (w' 10).1 0 6 = nI (f + 4) ∧ (∀ k, k ≠ 6 → (w' 10).1 0 k = (w 10).1 0 k) ∧ (∀ j, j < f + i → (w' 10).1 1 j = (w 10).1 1 j) ∧ ∀ q, i ≤ q → q < 4 → (w' 10).1 1 (f + q) = (nI (byt x q)).toInt8.toInt32
theorem append_L {n : Nat} {f : Nat} (hf : f + 4 ≤ 600) (x : Int32) : ∀ (d i k : Nat) (w : Wd), i + d = 4 → d < k → (w 10).1 0 6 = nI (f + i) → ∃ w', FX9_append_L3 n k w x (shI i) = some w' ∧ Ap w w' f i x := by
  intro d
  induction d with
  | zero =>
    intro i k w hi hk h6
    obtain ⟨k, rfl⟩ : ∃ k', k = k' + 1 := ⟨k - 1, by omega⟩
    have e : i = 4 := by omega
    subst e
    refine ⟨w, ?_, fun _ _ => rfl, h6, fun _ _ => rfl, fun _ _ => rfl, fun q h1 h2 => absurd h2 (by omega)⟩
    simp only [FX9_append_L3]
    rw [if_pos shI_4]
  | succ d ih =>
    intro i k w hi hk h6
    obtain ⟨k, rfl⟩ : ∃ k', k = k' + 1 := ⟨k - 1, by omega⟩
    obtain ⟨b1, b2, b3⟩ := byte_pair x (q := i) (by omega)
    generalize hw2 : sW w 10 (sI (w 10) 1 (f + i) ((nI (byt x i)).toInt8.toInt32)) = w2
    have a10 : w2 10 = sI (w 10) 1 (f + i) ((nI (byt x i)).toInt8.toInt32) := by rw [← hw2, sW_s]
    have ao : ∀ r, r ≠ 10 → w2 r = w r := fun r hr => by rw [← hw2, sW_o _ _ hr]
    have a06 : (w2 10).1 0 6 = nI (f + i) := by rw [a10, sI_o _ _ _ (by decide)]; exact h6
    generalize hw4 : sW w2 10 (sI (w2 10) 0 6 (nI (f + (i + 1)))) = w4
    have c10 : w4 10 = sI (w2 10) 0 6 (nI (f + (i + 1))) := by rw [← hw4, sW_s]
    have co : ∀ r, r ≠ 10 → w4 r = w r := fun r hr => by rw [← hw4, sW_o _ _ hr, ao r hr]
    obtain ⟨w', e, p1, p2, p3, p4, p5⟩ := ih (i + 1) k w4 (by omega) (by omega) (by rw [c10, sI_at, if_pos rfl])
    have e1 : ∀ j, (w4 10).1 1 j = if j = f + i then (nI (byt x i)).toInt8.toInt32 else (w 10).1 1 j := fun j => by
      rw [c10, sI_o _ _ _ (by decide), a10, sI_at]
    refine ⟨w', ?_, fun r hr => (p1 r hr).trans (co r hr), p2, fun k hk => ?_, fun j hj => ?_, fun q h1 h2 => ?_⟩
    · simp only [FX9_append_L3]
      rw [if_neg (shI_p (by omega)), h6, if_neg (show ¬ (600 : Int32) ≤ nI (f + i) from nI_ge (b := 600) (by omega) (by decide)), gd_t (inI (by omega) (by omega)), nI_c (by omega), shI_n (by omega), b3, hw2, bnd_s, a06, nI_1, show f + i + 1 = f + (i + 1) by omega, hw4, bnd_s, ← shI_n (by omega), shI_s]
      exact e
    · rw [p3 k hk, c10, sI_at, if_neg hk, a10, sI_o _ _ _ (by decide)]
    · rw [p4 j (by omega), e1, if_neg (by omega)]
    · by_cases z : q = i
      · rw [z, p4 (f + i) (by omega), e1, if_pos rfl]
      · exact p5 q (by omega) h2
theorem append_ok {n : Nat} (hn : 100 ≤ n) {f : Nat} (hf : f + 4 ≤ 600) {w : Wd} (h6 : (w 10).1 0 6 = nI f) (x : Int32) : ∃ w', FX9_append n w x = some w' ∧ Ap w w' f 0 x := append_L (n := n) hf x 4 0 n w rfl (by omega) h6
/-- four bytes more on the reference's side -/
def Fo (w w' : Wd) (f i : Nat) (x : Int32) : Prop := (∀ r, r ≠ 15 → w' r = w r) ∧ (w' 15).1 0 2 = nI (f + 4) ∧ (∀ k, k ≠ 2 → (w' 15).1 0 k = (w 15).1 0 k) ∧ (∀ j, j ≠ 0 → j ≠ 1 → (w' 15).1 j = (w 15).1 j) ∧ (∀ j, j < f + i → (w' 15).1 1 j = (w 15).1 1 j) ∧ ∀ q, i ≤ q → q < 4 → (w' 15).1 1 (f + q) = nI (byt x q)
theorem four_L {n : Nat} {f : Nat} (hf : f + 4 ≤ 600) (x : Int32) : ∀ (d i k : Nat) (w : Wd), i + d = 4 → d < k → (w 15).1 0 2 = nI (f + i) → ∃ w', FX13_four_L3 n k w x (shI i) = some w' ∧ Fo w w' f i x := by
  intro d
  induction d with
  | zero =>
    intro i k w hi hk h6
    obtain ⟨k, rfl⟩ : ∃ k', k = k' + 1 := ⟨k - 1, by omega⟩
    have e : i = 4 := by omega
    subst e
    refine ⟨w, ?_, fun _ _ => rfl, h6, fun _ _ => rfl, fun _ _ _ => rfl, fun _ _ => rfl, fun q h1 h2 => absurd h2 (by omega)⟩
    simp only [FX13_four_L3]
    rw [if_pos shI_4]
  | succ d ih =>
    intro i k w hi hk h6
    obtain ⟨k, rfl⟩ : ∃ k', k = k' + 1 := ⟨k - 1, by omega⟩
    obtain ⟨b1, b2, b3⟩ := byte_pair x (q := i) (by omega)
    generalize hw2 : sW w 15 (sI (w 15) 1 (f + i) (nI (byt x i))) = w2
    have a10 : w2 15 = sI (w 15) 1 (f + i) (nI (byt x i)) := by rw [← hw2, sW_s]
    have ao : ∀ r, r ≠ 15 → w2 r = w r := fun r hr => by rw [← hw2, sW_o _ _ hr]
    have a06 : (w2 15).1 0 2 = nI (f + i) := by rw [a10, sI_o _ _ _ (by decide)]; exact h6
    generalize hw4 : sW w2 15 (sI (w2 15) 0 2 (nI (f + (i + 1)))) = w4
    have c10 : w4 15 = sI (w2 15) 0 2 (nI (f + (i + 1))) := by rw [← hw4, sW_s]
    have co : ∀ r, r ≠ 15 → w4 r = w r := fun r hr => by rw [← hw4, sW_o _ _ hr, ao r hr]
    obtain ⟨w', e, p1, p2, p3, p3', p4, p5⟩ := ih (i + 1) k w4 (by omega) (by omega) (by rw [c10, sI_at, if_pos rfl])
    have e1 : ∀ j, (w4 15).1 1 j = if j = f + i then nI (byt x i) else (w 15).1 1 j := fun j => by
      rw [c10, sI_o _ _ _ (by decide), a10, sI_at]
    refine ⟨w', ?_, fun r hr => (p1 r hr).trans (co r hr), p2, fun k hk => ?_, fun j j0 j1 => ?_, fun j hj => ?_, fun q h1 h2 => ?_⟩
    · simp only [FX13_four_L3]
      rw [if_neg (shI_p (by omega)), h6, gd_t (inI (by omega) (by omega)), nI_c (by omega), shI_n (by omega), b2, hw2, bnd_s, a06, nI_1, show f + i + 1 = f + (i + 1) by omega, hw4, bnd_s, ← shI_n (by omega), shI_s]
      exact e
    · rw [p3 k hk, c10, sI_at, if_neg hk, a10, sI_o _ _ _ (by decide)]
    · rw [p3' j j0 j1, c10, sI_o _ _ _ j0, a10, sI_o _ _ _ j1]
    · rw [p4 j (by omega), e1, if_neg (by omega)]
    · by_cases z : q = i
      · rw [z, p4 (f + i) (by omega), e1, if_pos rfl]
      · exact p5 q (by omega) h2
theorem four_ok {n : Nat} (hn : 100 ≤ n) {f : Nat} (hf : f + 4 ≤ 600) {w : Wd} (h6 : (w 15).1 0 2 = nI f) (x : Int32) : ∃ w', FX13_four n w x = some w' ∧ Fo w w' f 0 x := four_L (n := n) hf x 4 0 n w rfl (by omega) h6
def TB (A B : MM) (f : Nat) : Prop := ∀ j, j < f → ∃ b, b < 256 ∧ B.1 1 j = nI b ∧ A.1 1 j = (nI b).toInt8.toInt32
theorem TB.step {w w' v v' : Wd} {f : Nat} {x : Int32} (h : TB (w 10) (v 15) f) (ha : Ap w w' f 0 x) (hb : Fo v v' f 0 x) : TB (w' 10) (v' 15) (f + 4) := fun j hj => by
  by_cases z : j < f
  · obtain ⟨b, b1, b2, b3⟩ := h j z
    exact ⟨b, b1, by rw [hb.2.2.2.2.1 j (by omega)]; exact b2, by rw [ha.2.2.2.1 j (by omega)]; exact b3⟩
  · obtain ⟨q, rfl⟩ : ∃ q, j = f + q := ⟨j - f, by omega⟩
    exact ⟨byt x q, (byte_pair x (by omega)).1, hb.2.2.2.2.2 q (by omega) (by omega), ha.2.2.2.2 q (by omega) (by omega)⟩
theorem ob_0 {n : Nat} (hn : 1000 ≤ n) {w : Wd} (h : Good w) (a1 a2 a3 a4 a5 : Int32) : ∃ w9, FLc_0 n w a1 a2 a3 a4 a5 = some w9 ∧ Good w9 := by
  obtain ⟨f, hf, l1, l2, l3⟩ := h.t.len
  show ∃ w9, (bo2 (FL_feed n w a1 a2 a3 a4 a5) fun k w1 => bo2 (FX13_feed n w1 a1 a2 a3 a4 a5) fun q w2 => chk k q w2) = some w9 ∧ Good w9
  unfold FL_feed FX13_feed
  by_cases hz : f + 20 ≤ 600
  · have hl : ¬ (600 : Int32) < nI f + 20 := by
      rw [show nI f + 20 = nI (f + 20) from nI_add f 20]
      show ¬ nI 600 < nI (f + 20)
      rw [nI_ltI (by omega) (by omega)]
      omega
    obtain ⟨w1, e1, p1⟩ := append_ok (n := n) (by omega) (f := f) (by omega) l1 a1
    obtain ⟨w2, e2, p2⟩ := append_ok (n := n) (by omega) (f := f + 4) (by omega) p1.2.1 a2
    obtain ⟨w3, e3, p3⟩ := append_ok (n := n) (by omega) (f := f + 4 + 4) (by omega) p2.2.1 a3
    obtain ⟨w4, e4, p4⟩ := append_ok (n := n) (by omega) (f := f + 4 + 4 + 4) (by omega) p3.2.1 a4
    obtain ⟨w5, e5, p5⟩ := append_ok (n := n) (by omega) (f := f + 4 + 4 + 4 + 4) (by omega) p4.2.1 a5
    have hx : FX12_feed n w a1 a2 a3 a4 a5 = some (.ok (nI (f + 20), w5)) := by
      unfold FX12_feed
      rw [l1, if_neg hl, dS_t, xo_s, e1, bo1_s, e2, bo1_s, e3, bo1_s, e4, bo1_s, e5, bo1_s, p5.2.1]
    have o5 : ∀ r, r ≠ 10 → w5 r = w r := fun r hr => by rw [p5.1 r hr, p4.1 r hr, p3.1 r hr, p2.1 r hr, p1.1 r hr]
    have k5 : ∀ k, k ≠ 6 → (w5 10).1 0 k = (w 10).1 0 k := fun k hk => by rw [p5.2.2.1 k hk, p4.2.2.1 k hk, p3.2.2.1 k hk, p2.2.2.1 k hk, p1.2.2.1 k hk]
    rw [lw_o hx, bo2_s]
    generalize hv : ow w5 (nI (f + 20)) = v
    have vo : ∀ r, r ≠ 16 → v r = w5 r := fun r hr => by rw [← hv]; exact ow_o _ _ hr
    have v15 : v 15 = w 15 := by rw [vo 15 (by decide), o5 15 (by decide)]
    have v16 : (v 16).2 0 0 = (nI (f + 20)).toInt64 := by rw [← hv]; exact ow_v _ _
    have c15 : cd v 0 15 = sI (w 15) 0 0 0 := by rw [← v15]; exact sW_s _ _ _
    have c2 : (cd v 0 15).1 0 2 = nI f := by rw [c15, sI_at, if_neg (by decide)]; exact l2
    obtain ⟨v1, d1, q1⟩ := four_ok (n := n) (by omega) (f := f) (by omega) c2 a1
    obtain ⟨v2, d2, q2⟩ := four_ok (n := n) (by omega) (f := f + 4) (by omega) q1.2.1 a2
    obtain ⟨v3, d3, q3⟩ := four_ok (n := n) (by omega) (f := f + 4 + 4) (by omega) q2.2.1 a3
    obtain ⟨v4, d4, q4⟩ := four_ok (n := n) (by omega) (f := f + 4 + 4 + 4) (by omega) q3.2.1 a4
    obtain ⟨v5, d5, q5⟩ := four_ok (n := n) (by omega) (f := f + 4 + 4 + 4 + 4) (by omega) q4.2.1 a5
    have t0 : TB (w 10) (cd v 0 15) f := fun j hj => by
      rw [c15, sI_o _ _ _ (show (1 : Nat) ≠ 0 by decide)]
      exact l3 j hj
    have t5 := ((((t0.step p1 q1).step p2 q2).step p3 q3).step p4 q4).step p5 q5
    have r5 : ∀ r, r ≠ 15 → v5 r = v r := fun r hr => by rw [q5.1 r hr, q4.1 r hr, q3.1 r hr, q2.1 r hr, q1.1 r hr, cd_o _ _ hr]
    have j5 : ∀ j, j ≠ 0 → j ≠ 1 → (v5 15).1 j = (w 15).1 j := fun j a b => by rw [q5.2.2.2.1 j a b, q4.2.2.2.1 j a b, q3.2.2.2.1 j a b, q2.2.2.2.1 j a b, q1.2.2.2.1 j a b, c15, sI_o _ _ _ a]
    have s5 : ∀ k, k ≠ 2 → (v5 15).1 0 k = (sI (w 15) 0 0 0).1 0 k := fun k hk => by rw [q5.2.2.1 k hk, q4.2.2.1 k hk, q3.2.2.1 k hk, q2.2.2.1 k hk, q1.2.2.1 k hk, c15]
    have s0 : ∀ k, k ≠ 2 → k ≠ 0 → (v5 15).1 0 k = (w 15).1 0 k := fun k a b => by rw [s5 k a, sI_at, if_neg b]
    rw [v15, l2, if_neg hl, goes_t, bnd2_s, if_pos rfl, d1, bo1_s, d2, bo1_s, d3, bo1_s, d4, bo1_s, d5, bo1_s, bo2_s, q5.2.1]
    have x10 : v5 10 = w5 10 := by rw [r5 10 (by decide), vo 10 (by decide)]
    have xo : ∀ r, r ≠ 15 → r ≠ 10 → r ≠ 16 → v5 r = w r := fun r a b c => by rw [r5 r a, vo r c, o5 r b]
    refine ⟨v5, chk_0 ?_ (by rw [r5 16 (by decide), v16]), ?_⟩
    · show (v5 15).1 0 0 = 0
      rw [s5 0 (by decide), sI_at, if_pos rfl]
    · refine Good.mk ?_ (RelT.mk ⟨f + 20, hz, ?_, q5.2.1, ?_⟩ ?_ ?_) (RelH.mk ?_ ?_) (h.o.keep (xo 14 (by decide) (by decide) (by decide)) (j5 14 (by decide) (by decide)) (s0 33 (by decide) (by decide)))
      · unfold row
        rw [xo 1 (by decide) (by decide) (by decide), j5 2 (by decide) (by decide)]
        exact h.m
      · rw [x10]; exact p5.2.1
      · rw [x10]; exact t5
      · rw [x10, k5 7 (by decide), s0 10 (by decide) (by decide)]; exact h.t.code
      · rw [x10, k5 8 (by decide), s0 11 (by decide) (by decide)]; exact h.t.offs
      · obtain ⟨fr, ct, y1, y2, y3, y4, y5, y6⟩ := h.h.cnt
        refine ⟨fr, ct, y1, y2, ?_, ?_, ?_, fun j hj => ?_⟩
        · rw [xo 13 (by decide) (by decide) (by decide)]; exact y3
        · rw [xo 13 (by decide) (by decide) (by decide)]; exact y4
        · rw [s0 18 (by decide) (by decide)]; exact y5
        · rw [xo _ (by omega) (by omega) (by omega), j5 6 (by decide) (by decide)]; exact y6 j hj
      · rw [xo 0 (by decide) (by decide) (by decide), xo 3 (by decide) (by decide) (by decide), s0 19 (by decide) (by decide), j5 3 (by decide) (by decide)]
        exact h.h.sav
  · have hl : (600 : Int32) < nI f + 20 := by
      rw [show nI f + 20 = nI (f + 20) from nI_add f 20]
      show nI 600 < nI (f + 20)
      exact nI_lt (by omega) (by omega)
    have hx : FX12_feed n w a1 a2 a3 a4 a5 = some (.error ("java/lang/IllegalStateException", w)) := by
      unfold FX12_feed
      rw [l1, if_pos hl, dS_f]
      rfl
    rw [lw_x (k := 1) hx (if_pos rfl), bo2_s, l2, if_pos hl, goes_f, bnd2_s, if_neg (by decide), bo2_s]
    exact ⟨_, er_chk h (by decide)⟩
