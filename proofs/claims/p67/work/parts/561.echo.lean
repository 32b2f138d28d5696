set_option maxHeartbeats 400000
/-! class and reference let an echo come back alike -/
theorem echo_pair {M : MM} {w : Wd} {nv nc ns : Nat} {bk : Nat → Nat} (hm : RelN M (row w) nv nc ns bk) {i : Nat} (hi : i < ns) (ho : shF (row w) i 6 = 0) {x : Int32} {b : Bool} (hb : (if x < 1 then false else true) = b) :
    ∃ M' w', FX6_echo M (20 + i) b = some M' ∧ FX13_comesBack w (nI i) x = some (b, w') ∧ Fr w w' ∧ RelN M' (row w') nv nc ns (fun j => if j = i then bk i + 1 else bk j) ∧ Dy (row w) (row w') ∧ So (row w) (row w') i ∧ shF (row w') i 7 = shF (row w) i 7 + 1 ∧ (shF (row w') i 6 = if shF (row w) i 7 + 1 = shF (row w) i 3 then 1 else 0) ∧ row w' 4 = row w 4 + (if b = true then shF (row w) i 4 else 0) := by
  have hbs := hm.bs
  have hbv := hm.bv
  have hbc := hm.bc
  have hS := hm.ss i hi
  obtain ⟨c, v, lo, od, ea, so, st, mk, wd, pa, tm, h1, h2, l1, l2, o1, o2, b1, ea1, ea2, st1, mk1, so1, so2, q0, q1, q2, q3, q4, q5, q6, q7, q8, q9, q10, q11, q12, q13, q14, q15, -⟩ := hS.rest
  have hC := hm.cs c h1
  have hV := hm.vs v h2
  have es : st = 0 := (nI_eq (a := st) (b := 0) (by omega) (by decide)).mp (q6.symm.trans ho)
  have hlt : bk i < od := q14 es
  have m0 : M.1 (20 + i) 0 = nI c := hS.e0.trans q0
  have m1 : M.1 (20 + i) 1 = nI v := hS.e1.trans q1
  have m4 : M.1 (20 + i) 4 = nI ea := hS.e4.trans q4
  have hbk7 : shF (row w) i 7 = nI (bk i) := hS.back
  have hl : lft (row w) i = nI (ea * (od - bk i)) := lftN q4 q3 hbk7 b1 (Or.inl ho)
  have hle : lft (row w) i = nI (ea * (od - (bk i + 1))) + nI ea := by
    rw [hl, nI_add]
    congr 1
    obtain ⟨d, rfl⟩ : ∃ d, od = bk i + 1 + d := ⟨od - (bk i + 1), by omega⟩
    rw [show bk i + 1 + d - bk i = d + 1 by omega, show bk i + 1 + d - (bk i + 1) = d by omega, Nat.mul_succ]
  have dn : (shF (row w) i 7 + 1 = shF (row w) i 3) ↔ bk i + 1 = od := by
    rw [hbk7, q3, nI_1]
    exact nI_eq (by omega) (by omega)
  obtain ⟨a, ha, ea'⟩ := hV.rating
  have hns : nsum ns bk ≤ ns * 4 := nsum_le (fun j hj => by
    obtain ⟨_, _, _, _, _, _, _, _, _, _, _, _, _, _, _, _, x1, x2, _⟩ := (hm.ss j hj).rest
    omega)
  -- what holds of the row behind, whatever the echo was
  have fin : ∀ (M1 : MM) (w1 : Wd), (∀ k, k ≠ 120 + 9 * i + 6 → k ≠ 120 + 9 * i + 7 → row (bkR w1 i) k = row w1 k) → shF (row w1) i 7 = nI (bk i) → shF (row w1) i 3 = nI od → shF (row w1) i 6 = 0 → shF (row w1) i 4 = nI ea → M1.1 (20 + i) 9 = nI (bk i) → M1.1 (20 + i) 3 = nI od → M1.1 (20 + i) 8 = 0 →
      shF (row (bkR w1 i)) i 7 = nI (bk i + 1) ∧ (shF (row (bkR w1 i)) i 6 = if shF (row w) i 7 + 1 = shF (row w) i 3 then 1 else 0) ∧ lft (row (bkR w1 i)) i = nI (ea * (od - (bk i + 1))) ∧ (bkM M1 i).1 (20 + i) 9 = nI (bk i + 1) ∧ (bkM M1 i).1 (20 + i) 8 = shF (row (bkR w1 i)) i 6 ∧ ∃ st, st ≤ 2 ∧ shF (row (bkR w1 i)) i 6 = nI st ∧ (st = 0 → bk i + 1 < od) ∧ (st = 1 → bk i + 1 = od) := by
    intro M1 w1 g1 g7 g3 g6 g4 f9 f3 f8
    have r7 : shF (row (bkR w1 i)) i 7 = nI (bk i + 1) := by rw [bkR_7, g7, nI_1]
    have r6 : shF (row (bkR w1 i)) i 6 = if shF (row w) i 7 + 1 = shF (row w) i 3 then 1 else 0 := by rw [bkR_6, g7, g3, g6, ← hbk7, ← q3]
    have r3 : shF (row (bkR w1 i)) i 3 = nI od := (g1 _ (by omega) (by omega)).trans g3
    have r4 : shF (row (bkR w1 i)) i 4 = nI ea := (g1 _ (by omega) (by omega)).trans g4
    refine ⟨r7, r6, ?_, ?_, ?_, ?_⟩
    · refine lftN r4 r3 r7 (by omega) ?_
      by_cases z : bk i + 1 = od
      · exact Or.inr z
      · exact Or.inl (by rw [r6, if_neg (fun e => z (dn.mp e))])
    · rw [bkM_9, f9, nI_1]
    · rw [bkM_8, f9, f3, f8, r6, hbk7, q3]
    · by_cases z : bk i + 1 = od
      · exact ⟨1, by decide, by rw [r6, if_pos (dn.mpr z)]; rfl, fun e => absurd e (by decide), fun _ => z⟩
      · exact ⟨0, by decide, by rw [r6, if_neg (fun e => z (dn.mp e))]; exact nI_0.symm, fun _ => by omega, fun e => absurd e (by decide)⟩
  cases b with
  | true =>
    obtain ⟨M1, e1, e2⟩ := cEchoT (M := M) (i := i) (c := c) (v := v) (by omega) (by omega) (by omega) m0 m1
    obtain ⟨M1', e1', f2, fo, f0, f8, f10, f11, fv, fv5, fv6, fc, fc5, fc6, fs, fs10⟩ := cEarn (M := M) (i := i) (c := c) (v := v) (by omega) (by omega) (by omega) m0 m1
    have : M1' = M1 := Option.some.inj (e1'.symm.trans e1)
    subst this
    have er := rHears (w := w) (i := i) (c := c) (v := v) (by omega) (by omega) (by omega) q0 q1
    generalize hw1 : rs (rs (rs (rs w 4 (row w 4 + shF (row w) i 4)) (8 + 8 * v + 4) (vaF (row w) v 4 + 1)) (72 + 6 * c + 3) (cuF (row w) c 3 + 1)) (120 + 9 * i + 8) (shF (row w) i 8 ||| 1 <<< (shF (row w) i 7 &&& 31)) = w1 at er
    have hF1 : Fr w w1 := by rw [← hw1]; exact (((Fr.of_rs _ _ _).to_rs _ _).to_rs _ _).to_rs _ _
    have g : ∀ k, k ≠ 4 → k ≠ 8 + 8 * v + 4 → k ≠ 72 + 6 * c + 3 → k ≠ 120 + 9 * i + 8 → row w1 k = row w k := fun k a b d e => by rw [← hw1, rs_ne _ _ e, rs_ne _ _ d, rs_ne _ _ b, rs_ne _ _ a]
    have g4 : row w1 4 = row w 4 + shF (row w) i 4 := by rw [← hw1, rs_ne _ _ (by omega), rs_ne _ _ (by omega), rs_ne _ _ (by omega), rs_row, if_pos rfl]
    have gv : vaF (row w1) v 4 = vaF (row w) v 4 + 1 := by
      show row w1 (8 + 8 * v + 4) = _
      rw [← hw1, rs_ne _ _ (by omega), rs_ne _ _ (by omega), rs_row, if_pos rfl]
    have gc : cuF (row w1) c 3 = cuF (row w) c 3 + 1 := by
      show row w1 (72 + 6 * c + 3) = _
      rw [← hw1, rs_ne _ _ (by omega), rs_row, if_pos rfl]
    obtain ⟨k1, k2, k3⟩ := mark_up (mk := mk) (b := bk i) (by omega) mk1
    have g8 : shF (row w1) i 8 = nI (mk + 2 ^ bk i) := by
      show row w1 (120 + 9 * i + 8) = _
      rw [← hw1, rs_row, if_pos rfl, q7, hbk7, k1]
    have g1 : ∀ k, k ≠ 120 + 9 * i + 6 → k ≠ 120 + 9 * i + 7 → row (bkR w1 i) k = row w1 k := fun k a b => bkR_o w1 a b
    obtain ⟨r7, r6, rl, n9, n8, st', s1, s2, s3, s4⟩ := fin M1' w1 g1 ((g _ (by omega) (by omega) (by omega) (by omega)).trans hbk7) ((g _ (by omega) (by omega) (by omega) (by omega)).trans q3) ((g _ (by omega) (by omega) (by omega) (by omega)).trans ho) ((g _ (by omega) (by omega) (by omega) (by omega)).trans q4) (by rw [fs 9 (by decide), hS.e9, hbk7]) (by rw [fs 3 (by decide), hS.e3, q3]) (by rw [fs 8 (by decide), hS.e8, ho])
    have g' : ∀ k, k ≠ 4 → k ≠ 8 + 8 * v + 4 → k ≠ 72 + 6 * c + 3 → k ≠ 120 + 9 * i + 6 → k ≠ 120 + 9 * i + 7 → k ≠ 120 + 9 * i + 8 → row (bkR w1 i) k = row w k := fun k a b d e f h => (g1 k e f).trans (g k a b d h)
    have r8 : shF (row (bkR w1 i)) i 8 = nI (mk + 2 ^ bk i) := (g1 _ (by omega) (by omega)).trans g8
    have hr : ∀ k, k < 390 → k ≠ 4 → k ≠ 5 → k ≠ 72 + 6 * c + 1 → k ≠ 72 + 6 * c + 2 → k ≠ 72 + 6 * c + 3 → k ≠ 8 + 8 * v + 4 → k ≠ 8 + 8 * v + 5 → k ≠ 120 + 9 * i + 6 → k ≠ 120 + 9 * i + 7 → k ≠ 120 + 9 * i + 8 → row (bkR w1 i) k = row w k := fun k _ a _ _ _ b d _ e f h => g' k a d b e f h
    have rv : vaF (row (bkR w1 i)) v 4 = vaF (row w) v 4 + 1 := (g1 _ (by omega) (by omega)).trans gv
    obtain ⟨hD, hSo⟩ := Dy.of (i := i) (c := c) (v := v) (by omega) hr (by omega) (by omega)
    refine ⟨bkM M1' i, bkR w1 i, e2, rComes (by omega) hb er, hF1.trans (bkR_Fr _ _), ?_, hD, hSo, by rw [r7, hbk7, nI_1], r6, by rw [if_pos rfl, g1 4 (by omega) (by omega), g4]⟩
    refine hm.upd (M' := bkM M1' i) (r' := row (bkR w1 i)) (b' := bk i + 1) hi h1 h2 q0 q1 ((bkM_2 _ _).trans f2) (fun j a b d e => by rw [bkM_o M1' e]; exact fo j a b d e) (fun k hk => by rw [bkM_o M1' (by omega)]; exact f0 k (by omega) (by omega) (by omega)) (fun k hk => by rw [bkM_o M1' (by omega)]; exact fv k (by omega) (by omega)) (fun k hk => by rw [bkM_o M1' (by omega)]; exact fc k (by omega) (by omega)) (fun k hk => by rw [bkM_k M1' (by omega) (by omega)]; exact fs k (by omega)) hr ?_ ?_ ?_ ?_ ?_ ?_ ?_ ?_ ?_ ?_ ?_ ?_ n8 ?_ ?_ r7 (by omega) ⟨st', mk + 2 ^ bk i, s1, k2, s2, r8, fun od' h h' => ?_⟩ ⟨a + 1, by omega, by rw [rv, ea', nI_1]⟩
    · rw [bkM_o M1' (by omega), f8, m4, hm.earn, g1 4 (by omega) (by omega), g4, q4]
    · rw [bkM_o M1' (by omega), f0 9 (by decide) (by decide) (by decide), hm.refd]; exact (g' 5 (by omega) (by omega) (by omega) (by omega) (by omega) (by omega)).symm
    · rw [bkM_o M1' (by omega), f10, m4, rl, hle, ar1]
    · rw [bkM_o M1' (by omega), f11, r8, q7, k3, ar2]
    · rw [bkM_o M1' (by omega), f0 12 (by decide) (by decide) (by decide), r7, r8, q7, k3, hbk7, ← nI_1, ar4, ar3]
    · rw [bkM_o M1' (by omega), fv5, hV.e5, rv]
    · rw [bkM_o M1' (by omega), fv 7 (by decide) (by decide), hV.e7]; exact (g' _ (by omega) (by omega) (by omega) (by omega) (by omega) (by omega)).symm
    · rw [bkM_o M1' (by omega), fv6, m4, r8, q7, k3, q4, Int32.mul_add, Int32.mul_one, Int32.add_comm (nI ea * bcI (nI mk)), Int32.add_sub_cancel]
    · rw [bkM_o M1' (by omega), fc 3 (by decide) (by decide), hC.e3]; exact (g' _ (by omega) (by omega) (by omega) (by omega) (by omega) (by omega)).symm
    · rw [bkM_o M1' (by omega), fc 4 (by decide) (by decide), hC.e4]; exact (g' _ (by omega) (by omega) (by omega) (by omega) (by omega) (by omega)).symm
    · rw [bkM_o M1' (by omega), fc6, hC.e6]; exact (gc.symm.trans (g1 _ (by omega) (by omega)).symm)
    · rw [bkM_o M1' (by omega), fc5, m4, rl, hle, ar1]
    · rw [n9, r7]
    · rw [bkM_k M1' (by decide) (by decide), fs10, hS.e10, hS.e9, q7, hbk7, k1, r8]
    · have := (nI_eq (by omega) (by omega)).mp (q3.symm.trans h')
      subst this
      exact ⟨by omega, s3, s4⟩
  | false =>
    obtain ⟨M1, e1, e2⟩ := cEchoF (M := M) (i := i) (c := c) (v := v) (by omega) (by omega) (by omega) m0 m1
    obtain ⟨M1', e1', f2, fo, f0, f9, f10, fc, fc3, fc5⟩ := cRefund (M := M) (i := i) (c := c) (by omega) m0 (M.1 (20 + i) 4)
    have : M1' = M1 := Option.some.inj (e1'.symm.trans e1)
    subst this
    have er := rLoses (w := w) (i := i) (c := c) (v := v) (by omega) (by omega) (by omega) q0 q1
    obtain ⟨x1, x2⟩ := rate_dn (a := a) (by omega)
    generalize hw1 : rs (rs (rs (rs w 5 (row w 5 + shF (row w) i 4)) (72 + 6 * c + 1) (cuF (row w) c 1 + shF (row w) i 4)) (8 + 8 * v + 5) (vaF (row w) v 5 + 1)) (8 + 8 * v + 4) (if 2 ≤ vaF (row w) v 4 then vaF (row w) v 4 - 2 else 0) = w1 at er
    have hF1 : Fr w w1 := by rw [← hw1]; exact (((Fr.of_rs _ _ _).to_rs _ _).to_rs _ _).to_rs _ _
    have g : ∀ k, k ≠ 5 → k ≠ 72 + 6 * c + 1 → k ≠ 8 + 8 * v + 5 → k ≠ 8 + 8 * v + 4 → row w1 k = row w k := fun k a b d e => by rw [← hw1, rs_ne _ _ e, rs_ne _ _ d, rs_ne _ _ b, rs_ne _ _ a]
    have g5 : row w1 5 = row w 5 + shF (row w) i 4 := by rw [← hw1, rs_ne _ _ (by omega), rs_ne _ _ (by omega), rs_ne _ _ (by omega), rs_row, if_pos rfl]
    have gc : cuF (row w1) c 1 = cuF (row w) c 1 + shF (row w) i 4 := by
      show row w1 (72 + 6 * c + 1) = _
      rw [← hw1, rs_ne _ _ (by omega), rs_ne _ _ (by omega), rs_row, if_pos rfl]
    have gv5 : vaF (row w1) v 5 = vaF (row w) v 5 + 1 := by
      show row w1 (8 + 8 * v + 5) = _
      rw [← hw1, rs_ne _ _ (by omega), rs_row, if_pos rfl]
    have gv4 : vaF (row w1) v 4 = nI (a - 2) := by
      show row w1 (8 + 8 * v + 4) = _
      rw [← hw1, rs_row, if_pos rfl, ea', x2]
    have g1 : ∀ k, k ≠ 120 + 9 * i + 6 → k ≠ 120 + 9 * i + 7 → row (bkR w1 i) k = row w1 k := fun k a b => bkR_o w1 a b
    have u20 : (lsM M1' v).1 (20 + i) = M.1 (20 + i) := by rw [lsM_o M1' (by omega) (by omega)]; exact fo _ (by omega) (by omega)
    obtain ⟨r7, r6, rl, n9, n8, st', s1, s2, s3, s4⟩ := fin (lsM M1' v) w1 g1 ((g _ (by omega) (by omega) (by omega) (by omega)).trans hbk7) ((g _ (by omega) (by omega) (by omega) (by omega)).trans q3) ((g _ (by omega) (by omega) (by omega) (by omega)).trans ho) ((g _ (by omega) (by omega) (by omega) (by omega)).trans q4) (by rw [u20, hS.e9, hbk7]) (by rw [u20, hS.e3, q3]) (by rw [u20, hS.e8, ho])
    have g' : ∀ k, k ≠ 5 → k ≠ 72 + 6 * c + 1 → k ≠ 8 + 8 * v + 5 → k ≠ 8 + 8 * v + 4 → k ≠ 120 + 9 * i + 6 → k ≠ 120 + 9 * i + 7 → row (bkR w1 i) k = row w k := fun k a b d e f h => (g1 k f h).trans (g k a b d e)
    have hr : ∀ k, k < 390 → k ≠ 4 → k ≠ 5 → k ≠ 72 + 6 * c + 1 → k ≠ 72 + 6 * c + 2 → k ≠ 72 + 6 * c + 3 → k ≠ 8 + 8 * v + 4 → k ≠ 8 + 8 * v + 5 → k ≠ 120 + 9 * i + 6 → k ≠ 120 + 9 * i + 7 → k ≠ 120 + 9 * i + 8 → row (bkR w1 i) k = row w k := fun k _ _ a b _ _ d e f h _ => g' k a b e d f h
    have r8 : shF (row (bkR w1 i)) i 8 = shF (row w) i 8 := g' _ (by omega) (by omega) (by omega) (by omega) (by omega) (by omega)
    have rv : vaF (row (bkR w1 i)) v 4 = nI (a - 2) := (g1 _ (by omega) (by omega)).trans gv4
    have u0 : ∀ k, k ≠ 12 → (bkM (lsM M1' v) i).1 0 k = M1'.1 0 k := fun k hk => by rw [bkM_o _ (by omega), lsM_0 M1' hk]
    have uv : ∀ k, k ≠ 5 → k ≠ 7 → (bkM (lsM M1' v) i).1 (4 + v) k = M.1 (4 + v) k := fun k a b => by rw [bkM_o _ (by omega), lsM_v M1' a b, fo (4 + v) (by omega) (by omega)]
    have uc : ∀ k, (bkM (lsM M1' v) i).1 (12 + c) k = M1'.1 (12 + c) k := fun k => by rw [bkM_o _ (by omega), lsM_o M1' (by omega) (by omega)]
    have us : ∀ k, k ≠ 8 → k ≠ 9 → (bkM (lsM M1' v) i).1 (20 + i) k = M.1 (20 + i) k := fun k a b => by rw [bkM_k _ a b, u20]
    obtain ⟨hD, hSo⟩ := Dy.of (i := i) (c := c) (v := v) (by omega) hr (by omega) (by omega)
    refine ⟨bkM (lsM M1' v) i, bkR w1 i, e2, rComes (by omega) hb er, hF1.trans (bkR_Fr _ _), ?_, hD, hSo, by rw [r7, hbk7, nI_1], r6, by rw [if_neg (by decide), Int32.add_zero]; exact g' 4 (by omega) (by omega) (by omega) (by omega) (by omega) (by omega)⟩
    refine hm.upd (M' := bkM (lsM M1' v) i) (r' := row (bkR w1 i)) (b' := bk i + 1) hi h1 h2 q0 q1 ((bkM_2 _ _).trans f2) (fun j a b d e => by rw [bkM_o _ e, lsM_o M1' a b]; exact fo j a d) (fun k hk => by rw [u0 k (by omega)]; exact f0 k (by omega) (by omega)) (fun k hk => uv k (by omega) (by omega)) (fun k hk => by rw [uc]; exact fc k (by omega) (by omega)) (fun k hk => us k (by omega) (by omega)) hr ?_ ?_ ?_ ?_ ?_ ?_ ?_ ?_ ?_ ?_ ?_ ?_ n8 ?_ ?_ r7 (by omega) ⟨st', mk, s1, Nat.lt_of_lt_of_le mk1 (Nat.pow_le_pow_right (by decide) (by omega)), s2, r8.trans q7, fun od' h h' => ?_⟩ ⟨a - 2, by omega, rv⟩
    · rw [u0 8 (by decide), f0 8 (by decide) (by decide), hm.earn]; exact (g' 4 (by omega) (by omega) (by omega) (by omega) (by omega) (by omega)).symm
    · rw [u0 9 (by decide), f9, m4, hm.refd, g1 5 (by omega) (by omega), g5, q4]
    · rw [u0 10 (by decide), f10, m4, rl, hle, ar1]
    · rw [u0 11 (by decide), f0 11 (by decide) (by decide), r8, ar3]
    · rw [bkM_o _ (by omega), lsM_12, f0 12 (by decide) (by decide), r7, r8, hbk7, ← nI_1, ar5, ar2]
    · rw [bkM_o _ (by omega), lsM_5, fo (4 + v) (by omega) (by omega), hV.e5, ea', x1, rv]
    · rw [bkM_o _ (by omega), lsM_7, fo (4 + v) (by omega) (by omega), hV.e7]; exact (gv5.symm.trans (g1 _ (by omega) (by omega)).symm)
    · rw [uv 6 (by decide) (by decide), r8, ar3]
    · rw [uc, fc3, m4, hC.e3]; exact ((congrArg (fun z => cuF (row w) c 1 + z) q4.symm).trans (gc.symm.trans (g1 _ (by omega) (by omega)).symm))
    · rw [uc, fc 4 (by decide) (by decide), hC.e4]; exact (g' _ (by omega) (by omega) (by omega) (by omega) (by omega) (by omega)).symm
    · rw [uc, fc 6 (by decide) (by decide), hC.e6]; exact (g' _ (by omega) (by omega) (by omega) (by omega) (by omega) (by omega)).symm
    · rw [uc, fc5, m4, rl, hle, ar1]
    · rw [n9, r7]
    · rw [us 10 (by decide) (by decide), hS.e10, r8]
    · have := (nI_eq (by omega) (by omega)).mp (q3.symm.trans h')
      subst this
      exact ⟨by omega, s3, s4⟩
