set_option maxHeartbeats 400000
/-! class and reference cancel and echo alike -/
theorem ar1 (x a e : Int32) : x + (a - (a + e)) = x - e := by
  rw [← Int32.sub_sub, Int32.sub_self, Int32.zero_sub, Int32.sub_eq_add_neg]
theorem ar2 (x a : Int32) : x + (a + 1 - a) = x + 1 := by
  rw [Int32.add_comm a 1, Int32.add_sub_cancel]
theorem ar3 (x : Int32) (a : Int32) : x + (a - a) = x := by rw [Int32.sub_self, Int32.add_zero]
theorem ar4 (a b : Int32) : (a + 1) - (b + 1) = a - b := by
  rw [Int32.add_comm b 1, ← Int32.sub_sub, Int32.add_sub_cancel]
theorem ar5 (a b : Int32) : (a + 1) - b = (a - b) + 1 := by
  rw [Int32.sub_eq_add_neg, Int32.sub_eq_add_neg, Int32.add_assoc, Int32.add_comm 1, ← Int32.add_assoc]
theorem nI_sub {a b : Nat} (h : b ≤ a) : nI a - nI b = nI (a - b) := by
  obtain ⟨d, rfl⟩ : ∃ d, a = b + d := ⟨a - b, by omega⟩
  rw [← nI_add, show b + d - b = d by omega, Int32.add_comm, Int32.add_sub_cancel]
/-- only what changes in the course of time differs -/
def Dy (r r' : Nat → Int32) : Prop := (∀ k, k < 8 → k ≠ 4 → k ≠ 5 → r' k = r k) ∧ (∀ v, v < 8 → ∀ k, k < 8 → k ≠ 4 → k ≠ 5 → vaF r' v k = vaF r v k) ∧ (∀ c, c < 8 → ∀ k, k < 6 → k ≠ 1 → k ≠ 2 → k ≠ 3 → cuF r' c k = cuF r c k) ∧ ∀ i, i < 30 → ∀ k, k < 6 → shF r' i k = shF r i k
theorem Dy.refl (r : Nat → Int32) : Dy r r := ⟨fun _ _ _ _ => rfl, fun _ _ _ _ _ _ => rfl, fun _ _ _ _ _ _ _ => rfl, fun _ _ _ _ => rfl⟩
theorem Dy.trans {r r1 r2 : Nat → Int32} (h : Dy r r1) (h2 : Dy r1 r2) : Dy r r2 := ⟨fun k a b c => (h2.1 k a b c).trans (h.1 k a b c), fun v a k b c d => (h2.2.1 v a k b c d).trans (h.2.1 v a k b c d), fun v a k b c d e => (h2.2.2.1 v a k b c d e).trans (h.2.2.1 v a k b c d e), fun v a k b => (h2.2.2.2 v a k b).trans (h.2.2.2 v a k b)⟩
/-- of the shouts only the i-th differs -/
def So (r r' : Nat → Int32) (i : Nat) : Prop := ∀ j, j < 30 → j ≠ i → ∀ k, k < 9 → shF r' j k = shF r j k
theorem Dy.of {r r' : Nat → Int32} {i c v : Nat} (hi : i < 30) (hr : ∀ k, k < 390 → k ≠ 4 → k ≠ 5 → k ≠ 72 + 6 * c + 1 → k ≠ 72 + 6 * c + 2 → k ≠ 72 + 6 * c + 3 → k ≠ 8 + 8 * v + 4 → k ≠ 8 + 8 * v + 5 → k ≠ 120 + 9 * i + 6 → k ≠ 120 + 9 * i + 7 → k ≠ 120 + 9 * i + 8 → r' k = r k) (hc : c < 8) (hv : v < 8) : Dy r r' ∧ So r r' i :=
  ⟨⟨fun k a b d => hr k (by omega) b d (by omega) (by omega) (by omega) (by omega) (by omega) (by omega) (by omega) (by omega), fun u hu k a b d => hr _ (by omega) (by omega) (by omega) (by omega) (by omega) (by omega) (by omega) (by omega) (by omega) (by omega) (by omega), fun u hu k a b d e => hr _ (by omega) (by omega) (by omega) (by omega) (by omega) (by omega) (by omega) (by omega) (by omega) (by omega) (by omega), fun u hu k a => hr _ (by omega) (by omega) (by omega) (by omega) (by omega) (by omega) (by omega) (by omega) (by omega) (by omega) (by omega)⟩, fun j hj hne k hk => hr _ (by omega) (by omega) (by omega) (by omega) (by omega) (by omega) (by omega) (by omega) (by omega) (by omega) (by omega)⟩
theorem Dy.ret {r r' : Nat → Int32} (h : Dy r r') {j : Nat} (hj : j < 30) (h1 : (shF r j 1).toNatClampNeg < 8) (h7 : shF r' j 7 = shF r j 7) : retI r' j = retI r j := by
  unfold retI
  rw [h.2.2.2 j hj 5 (by decide), h.2.2.2 j hj 1 (by decide), h.2.1 _ h1 0 (by decide) (by decide) (by decide), h7]
theorem Dy.fin {r r' : Nat → Int32} (h : Dy r r') {j : Nat} (hj : j < 30) (h0 : (shF r j 0).toNatClampNeg < 8) : endI r' j = endI r j := by
  unfold endI
  rw [h.2.2.2 j hj 5 (by decide), h.2.2.2 j hj 0 (by decide), h.2.2.1 _ h0 0 (by decide) (by decide) (by decide) (by decide)]
theorem cCallOffN {M : MM} {r : Nat → Int32} {nv nc ns i : Nat} {bk : Nat → Nat} (hm : RelN M r nv nc ns bk) (hi : i < ns) (ho : shF r i 6 = 0) {c : Nat} (hc : c < nc) (h : shF r i 0 = nI c) : ∃ M', FX6_callOff M (nI i) = some (lft r i, M') ∧ M'.2 = M.2 ∧ (∀ j, j ≠ 0 → j ≠ 12 + c → j ≠ 20 + i → M'.1 j = M.1 j) ∧ (∀ k, k ≠ 9 → k ≠ 10 → M'.1 0 k = M.1 0 k) ∧ M'.1 0 9 = M.1 0 9 + lft r i ∧ M'.1 0 10 = M.1 0 10 - lft r i ∧ (∀ k, k ≠ 3 → k ≠ 5 → M'.1 (12 + c) k = M.1 (12 + c) k) ∧ M'.1 (12 + c) 3 = M.1 (12 + c) 3 + lft r i ∧ M'.1 (12 + c) 5 = M.1 (12 + c) 5 - lft r i ∧ (∀ k, k ≠ 8 → M'.1 (20 + i) k = M.1 (20 + i) k) ∧ M'.1 (20 + i) 8 = 2 := by
  have hb := hm.bs
  have hbc := hm.bc
  have hS := hm.ss i hi
  have ea : FX8_amountToCome M (20 + i) = lft r i := by
    unfold FX8_amountToCome
    rw [hS.e4, hS.e3, hS.e9, lft_open ho]
  have e0 : (sI M (20 + i) 8 2).1 (20 + i) 0 = nI c := by
    rw [sI_at, if_neg (by decide), hS.e0]
    exact h
  obtain ⟨M', e, f2, fo, f0, f9, f10, fc, fc3, fc5⟩ := cRefund (M := sI M (20 + i) 8 2) (i := i) (c := c) (by omega) e0 (lft r i)
  unfold FX6_callOff
  rw [gd_t (inI (by omega) (by omega)), nI_c (by omega), ea, bnd_s, bnd_s, e, bo1_s]
  have o0 : (sI M (20 + i) 8 2).1 0 = M.1 0 := sI_o _ _ _ (by omega)
  have oc : (sI M (20 + i) 8 2).1 (12 + c) = M.1 (12 + c) := sI_o _ _ _ (by omega)
  rw [o0] at f0 f9 f10
  rw [oc] at fc fc3 fc5
  refine ⟨M', rfl, f2, fun j a b d => ?_, f0, f9, f10, fc, fc3, fc5, fun k a => ?_, ?_⟩
  · rw [fo j a b]; exact sI_o _ _ _ d
  · rw [fo _ (by omega) (by omega), sI_at, if_neg a]
  · rw [fo _ (by omega) (by omega), sI_at, if_pos rfl]
theorem lftN {r : Nat → Int32} {i ea od b : Nat} (h4 : shF r i 4 = nI ea) (h3 : shF r i 3 = nI od) (h7 : shF r i 7 = nI b) (hb : b ≤ od) (h : shF r i 6 = 0 ∨ b = od) : lft r i = nI (ea * (od - b)) := by
  by_cases z : shF r i 6 = 0
  · rw [lft_open z, h4, h3, h7, nI_sub hb, pk_mul]
  · rw [lft_shut z, h.resolve_left z, Nat.sub_self, Nat.mul_zero, nI_0]
theorem cancel_pair {M : MM} {w : Wd} {nv nc ns : Nat} {bk : Nat → Nat} (hm : RelN M (row w) nv nc ns bk) {i : Nat} (hi : i < ns) (ho : shF (row w) i 6 = 0) : ∃ M' w', FX6_callOff M (nI i) = some (lft (row w) i, M') ∧ FX13_cancels w (nI i) = some (lft (row w) i, w') ∧ Fr w w' ∧ RelN M' (row w') nv nc ns bk ∧ Dy (row w) (row w') ∧ So (row w) (row w') i ∧ shF (row w') i 6 = 2 ∧ (∀ k, k < 390 → k ≠ 5 → (∀ c, c < 8 → k ≠ 72 + 6 * c + 1) → k ≠ 120 + 9 * i + 6 → row w' k = row w k) := by
  have hbs := hm.bs
  have hbv := hm.bv
  have hbc := hm.bc
  have hS := hm.ss i hi
  obtain ⟨c, v, lo, od, ea, so, st, mk, wd, pa, tm, h1, h2, l1, l2, o1, o2, b1, ea1, ea2, st1, mk1, so1, so2, q0, q1, q2, q3, q4, q5, q6, q7, -⟩ := hS.rest
  have hC := hm.cs c h1
  have hV := hm.vs v h2
  obtain ⟨M', e, f2, fo, f0, f9, f10, fc, fc3, fc5, fs, fs8⟩ := cCallOffN hm hi ho h1 q0
  have er := rCancels (w := w) (i := i) (c := c) (by omega) (by omega) q0
  generalize hw' : rs (rs (rs w (120 + 9 * i + 6) 2) 5 (row w 5 + lft (row w) i)) (72 + 6 * c + 1) (cuF (row w) c 1 + lft (row w) i) = w' at er
  have hF : Fr w w' := by rw [← hw']; exact ((Fr.of_rs _ _ _).to_rs _ _).to_rs _ _
  have g : ∀ k, k ≠ 5 → k ≠ 72 + 6 * c + 1 → k ≠ 120 + 9 * i + 6 → row w' k = row w k := fun k a b d => by rw [← hw', rs_ne _ _ b, rs_ne _ _ a, rs_ne _ _ d]
  have g5 : row w' 5 = row w 5 + lft (row w) i := by rw [← hw', rs_ne _ _ (by omega), rs_row, if_pos rfl]
  have gc : cuF (row w') c 1 = cuF (row w) c 1 + lft (row w) i := by
    show row w' (72 + 6 * c + 1) = _
    rw [← hw', rs_row, if_pos rfl]
  have g6 : shF (row w') i 6 = 2 := by
    show row w' (120 + 9 * i + 6) = _
    rw [← hw', rs_ne _ _ (by omega), rs_ne _ _ (by omega), rs_row, if_pos rfl]
  have hr : ∀ k, k < 390 → k ≠ 4 → k ≠ 5 → k ≠ 72 + 6 * c + 1 → k ≠ 72 + 6 * c + 2 → k ≠ 72 + 6 * c + 3 → k ≠ 8 + 8 * v + 4 → k ≠ 8 + 8 * v + 5 → k ≠ 120 + 9 * i + 6 → k ≠ 120 + 9 * i + 7 → k ≠ 120 + 9 * i + 8 → row w' k = row w k := fun k _ _ a b _ _ _ _ d _ _ => g k a b d
  have s7 : shF (row w') i 7 = shF (row w) i 7 := g _ (by omega) (by omega) (by omega)
  have s8 : shF (row w') i 8 = shF (row w) i 8 := g _ (by omega) (by omega) (by omega)
  have hl : lft (row w') i = 0 := lft_shut (by rw [g6]; decide)
  obtain ⟨hD, hSo⟩ := Dy.of (i := i) (c := c) (v := v) (by omega) hr (by omega) (by omega)
  refine ⟨M', w', e, er, hF, ?_, hD, hSo, g6, fun k _ a b d => g k a (b c (by omega)) d⟩
  have hU := hm.upd (M' := M') (r' := row w') (b' := bk i) hi h1 h2 q0 q1 f2 (fun j a _ b d => fo j a b d) (fun k hk => f0 k (by omega) (by omega)) (fun k hk => by rw [fo (4 + v) (by omega) (by omega) (by omega)]) (fun k hk => fc k (by omega) (by omega)) (fun k hk => fs k (by omega)) hr
    (by rw [f0 8 (by decide) (by decide), g 4 (by omega) (by omega) (by omega)]; exact hm.earn) (by rw [f9, g5, hm.refd]) (by rw [f10, hl, Int32.zero_sub, Int32.sub_eq_add_neg]) (by rw [f0 11 (by decide) (by decide), s8, ar3]) (by rw [f0 12 (by decide) (by decide), s8, s7, ar3])
    (by rw [fo (4 + v) (by omega) (by omega) (by omega), hV.e5]; exact (g _ (by omega) (by omega) (by omega)).symm) (by rw [fo (4 + v) (by omega) (by omega) (by omega), hV.e7]; exact (g _ (by omega) (by omega) (by omega)).symm) (by rw [fo (4 + v) (by omega) (by omega) (by omega), s8, ar3])
    (by rw [fc3, gc, hC.e3]) (by rw [fc 4 (by decide) (by decide), hC.e4]; exact (g _ (by omega) (by omega) (by omega)).symm) (by rw [fc 6 (by decide) (by decide), hC.e6]; exact (g _ (by omega) (by omega) (by omega)).symm) (by rw [fc5, hl, Int32.zero_sub, Int32.sub_eq_add_neg])
    (by rw [fs8, g6]) (by rw [fs 9 (by decide), s7, hS.e9]) (by rw [fs 10 (by decide), s8, hS.e10]) (by rw [s7]; exact hS.back) (Nat.le_refl _) ⟨2, mk, by decide, mk1, g6, s8.trans q7, fun od' h h' => ⟨by
      have := (nI_eq (by omega) (by omega)).mp (q3.symm.trans h')
      omega, fun z => absurd z (by decide), fun z => absurd z (by decide)⟩⟩ (by
      obtain ⟨a, ha, ea⟩ := hV.rating
      exact ⟨a, by omega, (g _ (by omega) (by omega) (by omega)).trans ea⟩)
  have hbk : (fun j => if j = i then bk i else bk j) = bk := by
    funext j
    by_cases z : j = i
    · rw [if_pos z, z]
    · rw [if_neg z]
  rw [hbk] at hU
  exact hU
theorem mark_up {mk b : Nat} (hb : b < 4) (hm : mk < 2 ^ b) : (nI mk ||| 1 <<< (nI b &&& 31)) = nI (mk + 2 ^ b) ∧ mk + 2 ^ b < 2 ^ (b + 1) ∧ bcI (nI (mk + 2 ^ b)) = bcI (nI mk) + 1 := by
  have h : ∀ b : Fin 4, ∀ mk : Fin 8, mk.val < 2 ^ b.val → (nI mk.val ||| 1 <<< (nI b.val &&& 31)) = nI (mk.val + 2 ^ b.val) ∧ mk.val + 2 ^ b.val < 2 ^ (b.val + 1) ∧ bcI (nI (mk.val + 2 ^ b.val)) = bcI (nI mk.val) + 1 := by decide +kernel
  have h8 : mk < 8 := Nat.lt_of_lt_of_le hm (Nat.pow_le_pow_right (n := 2) (by decide) (show b ≤ 3 by omega))
  exact h ⟨b, hb⟩ ⟨mk, h8⟩ hm
theorem rate_dn {a : Nat} (h : a ≤ 3000) : (if 0 < nI a - 2 then nI a - 2 else (0 : Int32)) = nI (a - 2) ∧ (if (2 : Int32) ≤ nI a then nI a - 2 else 0) = nI (a - 2) := by
  by_cases z : 2 ≤ a
  · have e : nI a - 2 = nI (a - 2) := nI_sub (b := 2) z
    have h2 : (2 : Int32) ≤ nI a := nI_le (a := 2) z (by omega)
    rw [e, if_pos h2]
    refine ⟨?_, rfl⟩
    by_cases z2 : a = 2
    · subst z2; rfl
    · have h3 : (0 : Int32) < nI (a - 2) := nI_lt (a := 0) (by omega) (by omega)
      rw [if_pos h3]
  · have : a = 0 ∨ a = 1 := by omega
    rcases this with rfl | rfl <;> decide
