set_option maxHeartbeats 400000
/-! one second on both sides -/
theorem ar6 (a x s T : Int32) : (a + x) + (s + ((T + (0 - x)) - T)) = a + s := by
  rw [Int32.add_comm T, Int32.add_sub_cancel, Int32.zero_sub, Int32.add_assoc a x, Int32.add_comm s, ← Int32.add_assoc x, Int32.add_right_neg, Int32.zero_add]
theorem sec_e {r : Nat → Int32} {j v so wd : Nat} (h1 : shF r j 1 = nI v) (hv : v < 8) (h5 : shF r j 5 = nI so) (hs : so ≤ 9999) (hw : vaF r v 0 = nI wd) (hw2 : wd ≤ 60) (k : Nat) : sec r j k = so + wd * (k + 1) := by
  unfold sec
  rw [h5, h1, nI_c (by omega), nI_c (by omega), hw, nI_c (by omega)]
theorem ends_e {r : Nat → Int32} {j c so pa : Nat} (h0 : shF r j 0 = nI c) (hc : c < 8) (h5 : shF r j 5 = nI so) (hs : so ≤ 9999) (hp : cuF r c 0 = nI pa) (hp2 : pa ≤ 240) : ends r j = so + pa := by
  unfold ends
  rw [h5, h0, nI_c (by omega), nI_c (by omega), hp, nI_c (by omega)]
theorem Dy.keys {r r' : Nat → Int32} {j : Nat} (hD : Dy r r') (hj : j < 30) (hv : (shF r j 1).toNatClampNeg < 8) (hc : (shF r j 0).toNatClampNeg < 8) (E : Nat) : tcI r' j E = tcI r j E := by
  funext b k
  unfold tcI sec ends
  rw [hD.2.2.2 j hj 0 (by decide), hD.2.2.2 j hj 1 (by decide), hD.2.2.2 j hj 2 (by decide), hD.2.2.2 j hj 3 (by decide), hD.2.2.2 j hj 4 (by decide), hD.2.2.2 j hj 5 (by decide), hD.2.1 _ hv 0 (by decide) (by decide) (by decide), hD.2.1 _ hv 3 (by decide) (by decide) (by decide), hD.2.2.1 _ hc 0 (by decide) (by decide) (by decide) (by decide)]
theorem RelN.idx {M : MM} {r : Nat → Int32} {nv nc ns : Nat} {bk : Nat → Nat} (h : RelN M r nv nc ns bk) {j : Nat} (hj : j < ns) : (shF r j 1).toNatClampNeg < 8 ∧ (shF r j 0).toNatClampNeg < 8 := by
  have hbv := h.bv
  have hbc := h.bc
  obtain ⟨c, v, so, wd, pa, lo, od, fg, ea, h1, h2, w1, w2, p1, p2, s1, l1, o1, b1, g1, x1, q0, q1, -⟩ := h.num hj
  rw [q0, q1, nI_c (by omega), nI_c (by omega)]
  omega
/-- an echo at its time moves money from what is still to come to what is earned -/
theorem pot_echo {M : MM} {r r' : Nat → Int32} {nv nc ns i E : Nat} {bk : Nat → Nat} (h : RelN M r nv nc ns bk) (hi : i < ns) (ho : shF r i 6 = 0) (hD : Dy r r') (hS : So r r' i) {b : Bool} (hb : b = decide (2 * (bk i + 1) + (vaF r (shF r i 1).toNatClampNeg 3).toNatClampNeg + 1 ≤ (shF r i 2).toNatClampNeg)) (h7 : shF r' i 7 = shF r i 7 + 1) (h6 : shF r' i 6 = if shF r i 7 + 1 = shF r i 3 then 1 else 0) (h4 : r' 4 = r 4 + (if b = true then shF r i 4 else 0)) (hE : sec r i (bk i) ≤ E) (hP : sec r i (bk i) ≤ ends r i) : Pot r' ns E = Pot r ns E := by
  have hbs := h.bs
  have hbv := h.bv
  have hbc := h.bc
  obtain ⟨c, v, so, wd, pa, lo, od, fg, ea, h1, h2, w1, w2, p1, p2, s1, l1, o1, b1, g1, x1, q0, q1, q2, q3, q4, q5, q7, q8, q9, q10, q11⟩ := h.num hi
  have hlt := q11 ho
  obtain ⟨i1, i0⟩ := h.idx hi
  have ek := hD.keys (j := i) (by omega) i1 i0 E
  have eb : (shF r i 7).toNatClampNeg = bk i := by rw [q7, nI_c (by omega)]
  have eo : (shF r i 3).toNatClampNeg = od := by rw [q3, nI_c (by omega)]
  have eb' : (shF r' i 7).toNatClampNeg = bk i + 1 := by rw [h7, q7, nI_1, nI_c (by omega)]
  have t1 : tc r E i = isum 4 (tcI r i E (bk i)) := by
    unfold tc
    rw [if_pos ho, eb]
  have u := isum_upd (f := tcI r i E (bk i)) (f' := tcI r i E (bk i + 1)) (i := bk i) (n := 4) (by omega) (fun j _ hne => by
    unfold tcI
    by_cases z : bk i ≤ j
    · simp only [z, show bk i + 1 ≤ j by omega]
    · rw [if_neg (fun y => absurd y.1 (by omega)), if_neg (fun y => absurd y.1 (by omega))])
  have u1 : tcI r i E (bk i + 1) (bk i) = 0 := if_neg (fun y => absurd y.1 (by omega))
  have u2 : tcI r i E (bk i) (bk i) = if b = true then shF r i 4 else 0 := by
    unfold tcI
    rw [hb, eo]
    by_cases z : 2 * (bk i + 1) + (vaF r (shF r i 1).toNatClampNeg 3).toNatClampNeg + 1 ≤ (shF r i 2).toNatClampNeg
    · rw [if_pos ⟨Nat.le_refl _, hlt, hE, hP, z⟩, decide_eq_true z, if_pos rfl]
    · rw [if_neg (fun y => z y.2.2.2.2), decide_eq_false z, if_neg (by decide)]
  have t2 : tc r' E i = isum 4 (tcI r i E (bk i + 1)) := by
    unfold tc
    by_cases z : bk i + 1 = od
    · have h6' : shF r' i 6 = 1 := by rw [h6, q7, q3, nI_1, if_pos (by rw [z])]
      rw [if_neg (by rw [h6']; decide)]
      have : ∀ k, k < 4 → tcI r i E (bk i + 1) k = 0 := fun k _ => if_neg (fun y => by
        obtain ⟨y1, y2, -⟩ := y
        rw [eo] at y2
        omega)
      rw [isum_congr (g := fun _ => 0) this]
      rfl
    · have h6' : shF r' i 6 = 0 := by rw [h6, q7, q3, nI_1, if_neg (nI_ne z (by omega) (by omega))]
      rw [if_pos h6', eb', ek]
  unfold Pot
  rw [isum_upd (f := tc r E) (f' := tc r' E) hi (fun j hj hne => hD.tcs (hS j (by omega) hne) (h.idx hj).1 (h.idx hj).2), t2, u, u1, u2, ← t1, h4]
  exact ar6 _ _ _ _
/-- a loss of patience takes nothing that could still be earned -/
theorem pot_cancel {M : MM} {r r' : Nat → Int32} {nv nc ns i E : Nat} {bk : Nat → Nat} (h : RelN M r nv nc ns bk) (hi : i < ns) (ho : shF r i 6 = 0) (hD : Dy r r') (hS : So r r' i) (h6 : shF r' i 6 = 2) (h4 : r' 4 = r 4) (hP : ends r i < sec r i (bk i)) : Pot r' ns E = Pot r ns E := by
  have hbs := h.bs
  have hbv := h.bv
  have hbc := h.bc
  obtain ⟨c, v, so, wd, pa, lo, od, fg, ea, h1, h2, w1, w2, p1, p2, s1, l1, o1, b1, g1, x1, q0, q1, q2, q3, q4, q5, q7, q8, q9, q10, q11⟩ := h.num hi
  have eb : (shF r i 7).toNatClampNeg = bk i := by rw [q7, nI_c (by omega)]
  have es := sec_e (j := i) q1 (by omega) q5 s1 q8 w2
  have t1 : tc r E i = 0 := by
    unfold tc
    rw [if_pos ho, eb]
    have : ∀ k, k < 4 → tcI r i E (bk i) k = 0 := fun k _ => if_neg (fun y => by
      obtain ⟨y1, -, -, y4, -⟩ := y
      rw [es] at y4 hP
      have m : wd * (bk i + 1) ≤ wd * (k + 1) := Nat.mul_le_mul_left _ (by omega)
      omega)
    rw [isum_congr (g := fun _ => 0) this]
    rfl
  have t2 : tc r' E i = 0 := if_neg (by rw [h6]; decide)
  unfold Pot
  rw [isum_upd (f := tc r E) (f' := tc r' E) hi (fun j hj hne => hD.tcs (hS j (by omega) hne) (h.idx hj).1 (h.idx hj).2), t1, t2, h4, Int32.sub_self, Int32.add_zero]
theorem pot_clock {r r' : Nat → Int32} {ns E : Nat} (hr : ∀ k, k ≠ 3 → r' k = r k) : Pot r' ns E = Pot r ns E := by
  unfold Pot
  rw [hr 4 (by decide)]
  congr 1
  exact isum_congr (fun j _ => tc_congr (fun k _ => hr _ (by omega)) (hr _ (by omega)) (hr _ (by omega)) (hr _ (by omega)))
theorem pot_end {M : MM} {r : Nat → Int32} {nv nc ns E : Nat} {bk : Nat → Nat} (h : RelN M r nv nc ns bk) (hE : E ≤ 10300) (hT : TmOk r ns E) : Pot r ns E = r 4 := by
  unfold Pot
  have : ∀ j, j < ns → tc r E j = 0 := fun j hj => by
    unfold tc
    by_cases z : shF r j 6 = 0
    · rw [if_pos z]
      have hbv := h.bv
      have hbc := h.bc
      obtain ⟨c, v, so, wd, pa, lo, od, fg, ea, h1, h2, w1, w2, p1, p2, s1, l1, o1, b1, g1, x1, q0, q1, q2, q3, q4, q5, q7, q8, q9, q10, q11⟩ := h.num hj
      have eb : (shF r j 7).toNatClampNeg = bk j := by rw [q7, nI_c (by omega)]
      have es := sec_e (j := j) q1 (by omega) q5 s1 q8 w2
      have k1 := (hT j hj z).1
      obtain ⟨c', v', so', wd', pa', d1, d2, d3, d4, d5, d6, d7, d8, d9, d10, d11, d12, d13, d14, -, -, -, d15⟩ := h.due hj
      have e1 : v' = v := (nI_eq (by omega) (by omega)).mp (d10.symm.trans q1)
      have e2 : so' = so := (nI_eq (by omega) (by omega)).mp (d13.symm.trans q5)
      subst e1
      subst e2
      have e3 : wd' = wd := (nI_eq (by omega) (by omega)).mp (d11.symm.trans q8)
      subst e3
      rw [d14] at k1
      have k2 := (nI_ltI (by omega) (by omega)).mp k1
      have : ∀ k, k < 4 → tcI r j E (bk j) k = 0 := fun k _ => if_neg (fun y => by
        obtain ⟨y1, -, y3, -⟩ := y
        rw [es] at y3
        have m : wd' * (bk j + 1) ≤ wd' * (k + 1) := Nat.mul_le_mul_left _ (by omega)
        omega)
      rw [eb, isum_congr (g := fun _ => 0) this]
      rfl
    · rw [if_neg z]
  rw [isum_congr (g := fun _ => 0) this]
  have z0 : ∀ n, isum n (fun _ => (0 : Int32)) = 0 := fun n => by
    induction n with
    | zero => rfl
    | succ n ih => simp only [isum, ih, Int32.add_zero]
  rw [z0, Int32.add_zero]
/-- what a shout's two seconds are as numbers -/
theorem RelN.secs {M : MM} {r : Nat → Int32} {nv nc ns : Nat} {bk : Nat → Nat} (h : RelN M r nv nc ns bk) {j : Nat} (hj : j < ns) : retI r j = nI (sec r j (bk j)) ∧ endI r j = nI (ends r j) ∧ sec r j (bk j) ≤ 12000 ∧ ends r j ≤ 10239 ∧ sec r j (bk j) + 1 ≤ sec r j (bk j + 1) ∧ sec r j (bk j + 1) ≤ 12000 := by
  have hbv := h.bv
  have hbc := h.bc
  obtain ⟨c, v, so, wd, pa, h1, h2, w1, w2, p1, p2, s1, b1, q0, q1, q8, q10, q5, q6, q7, q9, q11, q12⟩ := h.due hj
  have es := sec_e (j := j) q1 (by omega) q5 s1 q8 w2
  have ee := ends_e (j := j) q0 (by omega) q5 s1 q10 p2
  rw [es, es, ee]
  have m : wd * (bk j + 1 + 1) = wd * (bk j + 1) + wd := Nat.mul_succ _ _
  have m2 : wd * (bk j + 1) ≤ 60 * 5 := Nat.mul_le_mul (by omega) (by omega)
  exact ⟨q6, q7, by omega, by omega, by omega, by omega⟩
