set_option maxHeartbeats 400000
/-! a sale -/
theorem cSell {M : MM} {c v ns : Nat} {lo od : Int32} (hs : M.1 0 5 = nI ns) (hns : ns < 30) (hc : c < 8) (hv : v < 8) : ∃ x M', FX6_sell M (nI c) (nI v) lo od = some (x, M') ∧ x = nI ns ∧ M'.2 = M.2 ∧ (∀ j, j ≠ 0 → j ≠ 12 + c → j ≠ 20 + ns → M'.1 j = M.1 j) ∧ (∀ k, k ≠ 5 → k ≠ 10 → M'.1 0 k = M.1 0 k) ∧ M'.1 0 5 = nI (ns + 1) ∧ M'.1 0 10 = M.1 0 10 + M.1 (4 + v) 3 * od ∧ (∀ k, k ≠ 3 → k ≠ 5 → M'.1 (12 + c) k = M.1 (12 + c) k) ∧ M'.1 (12 + c) 3 = M.1 (12 + c) 3 - M.1 (4 + v) 3 * od ∧ M'.1 (12 + c) 5 = M.1 (12 + c) 5 + M.1 (4 + v) 3 * od ∧
    M'.1 (20 + ns) 0 = nI c ∧ M'.1 (20 + ns) 1 = nI v ∧ M'.1 (20 + ns) 2 = lo ∧ M'.1 (20 + ns) 3 = od ∧ M'.1 (20 + ns) 4 = M.1 (4 + v) 3 ∧ M'.1 (20 + ns) 5 = M.1 (4 + v) 1 ∧ M'.1 (20 + ns) 6 = M.1 0 6 ∧ M'.1 (20 + ns) 7 = M.1 0 6 + M.1 (12 + c) 1 ∧ M'.1 (20 + ns) 8 = 0 ∧ M'.1 (20 + ns) 9 = 0 ∧ M'.1 (20 + ns) 10 = 0 := by
  have n1 : (0 : Nat) ≠ 12 + c := by omega
  have n2 : (0 : Nat) ≠ 20 + ns := by omega
  have n4 : 12 + c ≠ 0 := by omega
  have n5 : 12 + c ≠ 20 + ns := by omega
  have n7 : 20 + ns ≠ 0 := by omega
  have n8 : 20 + ns ≠ 12 + c := by omega
  have p1 : 4 + v ≠ 0 := by omega
  have p2 : 4 + v ≠ 12 + c := by omega
  have p3 : 4 + v ≠ 20 + ns := by omega
  unfold FX6_sell
  rw [hs, gd_t (inI (by omega) (by omega)), gd_t (inI (by omega) (by omega)), nI_c (by omega), nI_c (by omega), bnd_s, bnd_s, bnd_s, bnd_s, gd_t (inI (by omega) (by omega)), nI_c (by omega), bnd_s, gd_t (inI (by omega) (by omega))]
  unfold FX8_cost
  simp only [bnd_s]
  refine ⟨_, _, rfl, ?_, rfl, fun j a b d => ?_, fun k a b => ?_, ?_, ?_, fun k a b => ?_, ?_, ?_, ?_, ?_, ?_, ?_, ?_, ?_, ?_, ?_, ?_, ?_, ?_⟩
  · simp only [sI_at, sI_o _ _ _ n1, sI_o _ _ _ n2, if_true]
    refine Eq.trans ?_ (nI_pred ns)
    rw [← nI_1, ← hs]
    rfl
  · simp only [sI_o _ _ _ a, sI_o _ _ _ b, sI_o _ _ _ d]
  · simp only [sI_at, sI_o _ _ _ n1, sI_o _ _ _ n2, if_neg a, if_neg b]
  · simp only [sI_at, sI_o _ _ _ n1, sI_o _ _ _ n2, if_true]
    rw [← nI_1, ← hs]
    rfl
  · simp only [sI_at, sI_o _ _ _ n1, sI_o _ _ _ n2, sI_o _ _ _ n4, sI_o _ _ _ n5, sI_o _ _ _ n7, sI_o _ _ _ n8, sI_o _ _ _ p1, sI_o _ _ _ p2, sI_o _ _ _ p3]
    rfl
  · simp only [sI_at, sI_o _ _ _ n4, sI_o _ _ _ n5, if_neg a, if_neg b]
  · simp only [sI_at, sI_o _ _ _ n1, sI_o _ _ _ n2, sI_o _ _ _ n4, sI_o _ _ _ n5, sI_o _ _ _ n7, sI_o _ _ _ n8, sI_o _ _ _ p1, sI_o _ _ _ p2, sI_o _ _ _ p3]
    rfl
  · simp only [sI_at, sI_o _ _ _ n1, sI_o _ _ _ n2, sI_o _ _ _ n4, sI_o _ _ _ n5, sI_o _ _ _ n7, sI_o _ _ _ n8, sI_o _ _ _ p1, sI_o _ _ _ p2, sI_o _ _ _ p3]
    rfl
  all_goals
    simp only [sI_at, sI_o _ _ _ n1, sI_o _ _ _ n2, sI_o _ _ _ n4, sI_o _ _ _ n5, sI_o _ _ _ n7, sI_o _ _ _ n8, sI_o _ _ _ p1, sI_o _ _ _ p2, sI_o _ _ _ p3]
    rfl
theorem sht_k {i k : Nat} {K : Int32} (h : K = nI k) : FX13_sht (nI i) + K = nI (120 + 9 * i + k) := by
  subst h
  exact ix (k := k)
theorem rSells {w : Wd} {c v ns : Nat} {lo od : Int32} (hs : row w 2 = nI ns) (hns : ns < 30) (hc : c < 8) (hv : v < 8) : ∃ w', FX13_sells w (nI c) (nI v) lo od = some (nI ns, w') ∧ Fr w w' ∧ (∀ k, k ≠ 2 → k ≠ 72 + 6 * c + 1 → (k < 120 + 9 * ns ∨ 120 + 9 * ns + 9 ≤ k) → row w' k = row w k) ∧ row w' 2 = nI (ns + 1) ∧ cuF (row w') c 1 = cuF (row w) c 1 - vaF (row w) v 2 * od ∧
    shF (row w') ns 0 = nI c ∧ shF (row w') ns 1 = nI v ∧ shF (row w') ns 2 = lo ∧ shF (row w') ns 3 = od ∧ shF (row w') ns 4 = vaF (row w) v 2 ∧ shF (row w') ns 5 = row w 3 ∧ shF (row w') ns 6 = 0 ∧ shF (row w') ns 7 = 0 ∧ shF (row w') ns 8 = 0 := by
  have s0 : FX13_sht (nI ns) + 0 = nI (120 + 9 * ns + 0) := sht_k rfl
  have s1 : FX13_sht (nI ns) + 1 = nI (120 + 9 * ns + 1) := sht_k rfl
  have s2 : FX13_sht (nI ns) + 2 = nI (120 + 9 * ns + 2) := sht_k rfl
  have s3 : FX13_sht (nI ns) + 3 = nI (120 + 9 * ns + 3) := sht_k rfl
  have s4 : FX13_sht (nI ns) + 4 = nI (120 + 9 * ns + 4) := sht_k rfl
  have s5 : FX13_sht (nI ns) + 5 = nI (120 + 9 * ns + 5) := sht_k rfl
  -- the nine cells of the shout, one after another
  generalize h1 : rs (rs (rs (rs w (120 + 9 * ns + 0) (nI c)) (120 + 9 * ns + 1) (nI v)) (120 + 9 * ns + 2) lo) (120 + 9 * ns + 3) od = w1
  have a1 : ∀ k, (k < 120 + 9 * ns ∨ 120 + 9 * ns + 4 ≤ k) → row w1 k = row w k := fun k hk => by
    rw [← h1, rs_ne _ _ (by omega), rs_ne _ _ (by omega), rs_ne _ _ (by omega), rs_ne _ _ (by omega)]
  have a10 : row w1 (120 + 9 * ns + 0) = nI c := by rw [← h1, rs_ne _ _ (by omega), rs_ne _ _ (by omega), rs_ne _ _ (by omega), rs_row, if_pos rfl]
  have a11 : row w1 (120 + 9 * ns + 1) = nI v := by rw [← h1, rs_ne _ _ (by omega), rs_ne _ _ (by omega), rs_row, if_pos rfl]
  have a12 : row w1 (120 + 9 * ns + 2) = lo := by rw [← h1, rs_ne _ _ (by omega), rs_row, if_pos rfl]
  have a13 : row w1 (120 + 9 * ns + 3) = od := by rw [← h1, rs_row, if_pos rfl]
  have aF : Fr w w1 := by rw [← h1]; exact (((Fr.of_rs _ _ _).to_rs _ _).to_rs _ _).to_rs _ _
  generalize h2 : rs (rs (rs (rs (rs w1 (120 + 9 * ns + 4) (vaF (row w) v 2)) (120 + 9 * ns + 5) (row w 3)) (120 + 9 * ns + 6) 0) (120 + 9 * ns + 7) 0) (120 + 9 * ns + 8) 0 = w2
  have b1 : ∀ k, (k < 120 + 9 * ns + 4 ∨ 120 + 9 * ns + 9 ≤ k) → row w2 k = row w1 k := fun k hk => by
    rw [← h2, rs_ne _ _ (by omega), rs_ne _ _ (by omega), rs_ne _ _ (by omega), rs_ne _ _ (by omega), rs_ne _ _ (by omega)]
  have b4 : row w2 (120 + 9 * ns + 4) = vaF (row w) v 2 := by rw [← h2, rs_ne _ _ (by omega), rs_ne _ _ (by omega), rs_ne _ _ (by omega), rs_ne _ _ (by omega), rs_row, if_pos rfl]
  have b5 : row w2 (120 + 9 * ns + 5) = row w 3 := by rw [← h2, rs_ne _ _ (by omega), rs_ne _ _ (by omega), rs_ne _ _ (by omega), rs_row, if_pos rfl]
  have b6 : row w2 (120 + 9 * ns + 6) = 0 := by rw [← h2, rs_ne _ _ (by omega), rs_ne _ _ (by omega), rs_row, if_pos rfl]
  have b7 : row w2 (120 + 9 * ns + 7) = 0 := by rw [← h2, rs_ne _ _ (by omega), rs_row, if_pos rfl]
  have b8 : row w2 (120 + 9 * ns + 8) = 0 := by rw [← h2, rs_row, if_pos rfl]
  have bF : Fr w w2 := by rw [← h2]; exact ((((aF.to_rs _ _).to_rs _ _).to_rs _ _).to_rs _ _).to_rs _ _
  have b0 : ∀ k, (k < 120 + 9 * ns ∨ 120 + 9 * ns + 9 ≤ k) → row w2 k = row w k := fun k hk => (b1 k (by omega)).trans (a1 k (by omega))
  generalize h3 : rs (rs w2 (72 + 6 * c + 1) (cuF (row w) c 1 - vaF (row w) v 2 * od)) 2 (nI ns + 1) = w3
  have c0 : ∀ k, k ≠ 2 → k ≠ 72 + 6 * c + 1 → row w3 k = row w2 k := fun k a b => by rw [← h3, rs_ne _ _ a, rs_ne _ _ b]
  have c2 : row w3 2 = nI ns + 1 := by rw [← h3, rs_row, if_pos rfl]
  have cc : row w3 (72 + 6 * c + 1) = cuF (row w) c 1 - vaF (row w) v 2 * od := by rw [← h3, rs_ne _ _ (by omega), rs_row, if_pos rfl]
  have cF : Fr w w3 := by rw [← h3]; exact (bF.to_rs _ _).to_rs _ _
  have e : FX13_sells w (nI c) (nI v) lo od = some (nI ns, w3) := by
    have v1 : vaF (row w1) v 2 = vaF (row w) v 2 := a1 _ (by omega)
    have v2 : vaF (row w2) v 2 = vaF (row w) v 2 := b0 _ (by omega)
    have t1 : (rs w1 (120 + 9 * ns + 4) (vaF (row w) v 2) 15).1 2 3 = row w 3 := (rs_ne _ _ (by omega)).trans (a1 3 (by omega))
    have m1 : (w2 15).1 2 (72 + 6 * c + 1) = cuF (row w) c 1 := b0 _ (by omega)
    have n1 : (rs w2 (72 + 6 * c + 1) (cuF (row w) c 1 - vaF (row w) v 2 * od) 15).1 2 2 = nI ns := (rs_ne _ _ (by omega)).trans ((b0 2 (by omega)).trans hs)
    unfold FX13_sells
    rw [gd2, show (w 15).1 2 2 = nI ns from hs, bnd_s, s0, gd_t (inI (by omega) (by omega)), nI_c (by omega), rs_fold, bnd_s, s1, gd_t (inI (by omega) (by omega)), nI_c (by omega), rs_fold, bnd_s, s2, gd_t (inI (by omega) (by omega)), nI_c (by omega), rs_fold, bnd_s, s3, gd_t (inI (by omega) (by omega)), nI_c (by omega), rs_fold, h1, bnd_s, rV2 (by omega), v1, bo1_s, s4, gd_t (inI (by omega) (by omega)), nI_c (by omega), rs_fold, bnd_s, gd3, t1, s5, gd_t (inI (by omega) (by omega)), nI_c (by omega), rs_fold, bnd_s, sht6, gd_t (inI (by omega) (by omega)), nI_c (by omega), rs_fold, bnd_s, sht7, gd_t (inI (by omega) (by omega)), nI_c (by omega), rs_fold, bnd_s, sht8, gd_t (inI (by omega) (by omega)), nI_c (by omega), rs_fold, h2, bnd_s, bnd_s, cst1, gd_t (inI (by omega) (by omega)), rV2 (by omega), v2, bo1_s, gd_t (inI (by omega) (by omega)), nI_c (by omega), rs_fold, m1, bnd_s, gd2, gd2, n1, rs_fold, h3, bnd_s, gd2, show (w3 15).1 2 2 = nI ns + 1 from c2, nI_1, nI_pred]
  refine ⟨w3, e, cF, fun k a b d => (c0 k a b).trans (b0 k d), c2.trans (nI_1 ns), cc, ?_, ?_, ?_, ?_, ?_, ?_, ?_, ?_, ?_⟩
  · exact (c0 _ (by omega) (by omega)).trans ((b1 _ (by omega)).trans a10)
  · exact (c0 _ (by omega) (by omega)).trans ((b1 _ (by omega)).trans a11)
  · exact (c0 _ (by omega) (by omega)).trans ((b1 _ (by omega)).trans a12)
  · exact (c0 _ (by omega) (by omega)).trans ((b1 _ (by omega)).trans a13)
  · exact (c0 _ (by omega) (by omega)).trans b4
  · exact (c0 _ (by omega) (by omega)).trans b5
  · exact (c0 _ (by omega) (by omega)).trans b6
  · exact (c0 _ (by omega) (by omega)).trans b7
  · exact (c0 _ (by omega) (by omega)).trans b8
theorem bc0 : bcI 0 = 0 := by decide
theorem sell_pair {M : MM} {w : Wd} {nv nc ns : Nat} {bk : Nat → Nat} (hm : RelN M (row w) nv nc ns bk) (hns : ns < 30) {c v lo od t : Nat} (hc : c < nc) (hv : v < nv) (l1 : 1 ≤ lo) (l2 : lo ≤ 20) (o1 : 1 ≤ od) (o2 : od ≤ 4) (ht : t ≤ 9999) (et : row w 3 = nI t) (hT : TmOk (row w) ns t) : ∃ M' w' bk', FX6_sell M (nI c) (nI v) (nI lo) (nI od) = some (nI ns, M') ∧ FX13_sells w (nI c) (nI v) (nI lo) (nI od) = some (nI ns, w') ∧ Fr w w' ∧ RelN M' (row w') nv nc (ns + 1) bk' ∧ row w' 3 = nI t ∧ TmOk (row w') (ns + 1) t := by
  have hbv := hm.bv
  have hbc := hm.bc
  have hbs := hm.bs
  have hV := hm.vs v hv
  have hC := hm.cs c hc
  obtain ⟨x, M', e, rfl, f2, fo, f0, f5, f10, fc, fc3, fc5, g0, g1, g2, g3, g4, g5, g6, g7, g8, g9, g10⟩ := cSell (c := c) (v := v) (lo := nI lo) (od := nI od) hm.s1 hns (by omega) (by omega)
  obtain ⟨w', e', hF, r0, r2, rc, s0, s1, s2, s3, s4, s5, s6, s7, s8⟩ := rSells (c := c) (v := v) (lo := nI lo) (od := nI od) hm.s0 hns (by omega) (by omega)
  obtain ⟨ea, ea1, ea2, ea3⟩ := hV.price
  obtain ⟨wd, wd1, wd2, wd3⟩ := hV.width
  obtain ⟨pa, pa1, pa2, pa3⟩ := hC.patience
  have eV : ∀ u, u < 8 → ∀ k, k < 8 → vaF (row w') u k = vaF (row w) u k := fun u hu k hk => r0 _ (by omega) (by omega) (by omega)
  have eC : ∀ d, d < 8 → ∀ k, k < 6 → (d = c → k ≠ 1) → cuF (row w') d k = cuF (row w) d k := fun u hu k hk hn => r0 _ (by omega) (by omega) (by omega)
  have eS : ∀ j, j < ns → ∀ k, k < 9 → shF (row w') j k = shF (row w) j k := fun u hu k hk => r0 _ (by omega) (by omega) (by omega)
  have eL : ∀ j, j < ns → lft (row w') j = lft (row w) j := fun j hj => by
    unfold lft
    rw [eS j hj 6 (by decide), eS j hj 4 (by decide), eS j hj 3 (by decide), eS j hj 7 (by decide)]
  have lN : lft (row w') ns = vaF (row w) v 2 * nI od := by
    rw [lft_open s6, s4, s3, s7, Int32.sub_zero]
  have m4 : M.1 (4 + v) 3 = vaF (row w) v 2 := hV.e3
  have hns' : nsum (ns + 1) (fun j => if j = ns then 0 else bk j) = nsum ns bk := by
    simp only [nsum, if_true]
    exact nsum_congr (fun j hj => if_neg (by omega))
  have t3 : row w' 3 = nI t := (r0 3 (by omega) (by omega) (by omega)).trans et
  have so5 : shF (row w') ns 5 = nI t := s5.trans et
  refine ⟨M', w', fun j => if j = ns then 0 else bk j, e, e', hF, ?_, t3, ?_⟩
  · refine RelN.mk hbv hbc (by omega) ((r0 0 (by omega) (by omega) (by omega)).trans hm.v0) ((r0 1 (by omega) (by omega) (by omega)).trans hm.c0) r2 ((f0 3 (by omega) (by omega)).trans hm.v1) ((f0 4 (by omega) (by omega)).trans hm.c1) f5 ?_ ?_ ?_ ?_ ?_ ?_ ?_ ?_ ⟨t, by omega, t3⟩ ?_ (fun u hu => ?_) (fun d hd => ?_) (fun j hj => ?_)
    · rw [f0 6 (by omega) (by omega), hm.time]; exact (r0 3 (by omega) (by omega) (by omega)).symm
    · rw [f0 7 (by omega) (by omega), hm.depth]; exact (r0 6 (by omega) (by omega) (by omega)).symm
    · rw [f0 8 (by omega) (by omega), hm.earn]; exact (r0 4 (by omega) (by omega) (by omega)).symm
    · rw [f0 9 (by omega) (by omega), hm.refd]; exact (r0 5 (by omega) (by omega) (by omega)).symm
    · rw [f10, hm.hold, m4, isum_new (f := lft (row w)) (fun j hj => eL j hj), lN]
    · rw [f0 11 (by omega) (by omega), hm.hear, isum_new (f := fun j => bcI (shF (row w) j 8)) (fun j hj => by rw [eS j hj 8 (by decide)]), s8, bc0, Int32.add_zero]
    · rw [f0 12 (by omega) (by omega), hm.lost, isum_new (f := fun j => shF (row w) j 7 - bcI (shF (row w) j 8)) (fun j hj => by rw [eS j hj 8 (by decide), eS j hj 7 (by decide)]), s8, s7, bc0, Int32.sub_zero, Int32.add_zero]
    · rw [r0 7 (by omega) (by omega) (by omega), ← hm.frst]
      refine isum_congr (fun d hd => ?_)
      by_cases z : d = c
      · subst z; exact fc 2 (by decide) (by decide)
      · rw [fo (12 + d) (by omega) (by omega) (by omega)]
    · rw [r0 6 (by omega) (by omega) (by omega)]; exact hm.dp
    · have h := hm.vs u hu
      have f1 : ∀ k, M'.1 (4 + u) k = M.1 (4 + u) k := fun k => by rw [fo (4 + u) (by omega) (by omega) (by omega)]
      have ev := eV u (by omega)
      refine RelV.mk ?_ ?_ ?_ ?_ ?_ ?_ ?_ ?_ ?_ ?_ ?_ ?_ ?_
      · rw [f1, ev 0 (by decide)]; exact h.e1
      · rw [f1, ev 1 (by decide)]; exact h.e2
      · rw [f1, ev 2 (by decide)]; exact h.e3
      · rw [f1, ev 3 (by decide)]; exact h.e4
      · rw [f1, ev 4 (by decide)]; exact h.e5
      · rw [f1, ev 5 (by decide)]; exact h.e7
      · rw [f1, h.e6, isum_new (f := fun j => if shF (row w) j 1 = nI u then shF (row w) j 4 * bcI (shF (row w) j 8) else 0) (fun j hj => by rw [eS j hj 1 (by decide), eS j hj 4 (by decide), eS j hj 8 (by decide)]), s8, bc0, Int32.mul_zero]
        by_cases z : shF (row w') ns 1 = nI u
        · rw [if_pos z, Int32.add_zero]
        · rw [if_neg z, Int32.add_zero]
      · rw [f2, ev 6 (by decide), ev 7 (by decide)]; exact h.name
      · rw [ev 0 (by decide)]; exact h.width
      · rw [ev 1 (by decide)]; exact h.walls
      · rw [ev 2 (by decide)]; exact h.price
      · rw [ev 3 (by decide)]; exact h.fog
      · rw [ev 4 (by decide), hns']; exact h.rating
    · have h := hm.cs d hd
      have k1 : ∀ k, k ≠ 3 → k ≠ 5 → M'.1 (12 + d) k = M.1 (12 + d) k := fun k a b => by
        by_cases z : d = c
        · subst z; exact fc k a b
        · rw [fo (12 + d) (by omega) (by omega) (by omega)]
      have ec : ∀ k, k < 6 → k ≠ 1 → cuF (row w') d k = cuF (row w) d k := fun k hk a => eC d (by omega) k hk (fun _ => a)
      refine RelC.mk ?_ ?_ ?_ ?_ ?_ ?_ ?_
      · rw [k1 1 (by decide) (by decide), ec 0 (by decide) (by decide)]; exact h.e1
      · by_cases z : d = c
        · subst z
          rw [fc3, m4, h.e3]; exact rc.symm
        · rw [fo (12 + d) (by omega) (by omega) (by omega), eC d (by omega) 1 (by decide) (fun z' => absurd z' z)]; exact h.e3
      · rw [k1 4 (by decide) (by decide), ec 2 (by decide) (by decide)]; exact h.e4
      · rw [k1 6 (by decide) (by decide), ec 3 (by decide) (by decide)]; exact h.e6
      · rw [isum_new (f := fun j => if shF (row w) j 0 = nI d then lft (row w) j else 0) (fun j hj => by rw [eS j hj 0 (by decide), eL j hj]), lN, s0, ← h.e5]
        by_cases z : d = c
        · subst z
          rw [if_pos rfl, fc5, m4]
        · rw [if_neg (nI_ne (fun z' => z z'.symm) (by omega) (by omega)), Int32.add_zero, fo (12 + d) (by omega) (by omega) (by omega)]
      · rw [f2, ec 4 (by decide) (by decide), ec 5 (by decide) (by decide)]; exact h.name
      · rw [ec 0 (by decide) (by decide)]; exact h.patience
    · by_cases z : j = ns
      · subst z
        rw [if_pos rfl]
        refine RelS2.mk (g0.trans s0.symm) (g1.trans s1.symm) (g2.trans s2.symm) (g3.trans s3.symm) ?_ ?_ (g8.trans s6.symm) (g9.trans s7.symm) (g10.trans s8.symm) (s7.trans nI_0.symm) ⟨c, v, lo, od, ea, t, 0, 0, wd, pa, t, hc, hv, l1, l2, o1, o2, by omega, ea1, ea2, by omega, by decide, Nat.le_refl _, ht, s0, s1, s2, s3, s4.trans ea3, so5, s6.trans nI_0.symm, s8.trans nI_0.symm, (eV v (by omega) 0 (by decide)).trans wd3, ?_, (eC c (by omega) 0 (by decide) (fun _ => by decide)).trans pa3, ?_, t3, by omega, fun _ => by omega, fun z => absurd z (by decide), wd2, pa2⟩
        · rw [g4, s4]; exact m4
        · rw [g6, s5]; exact hm.time
        · rw [g5, hV.e1]; exact wd3
        · rw [g7, hm.time, et, hC.e1]
          refine Eq.trans ?_ (nI_add t pa)
          rw [← pa3]
      · rw [if_neg z]
        have hj' : j < ns := by omega
        have h := hm.ss j hj'
        have f1 : ∀ k, M'.1 (20 + j) k = M.1 (20 + j) k := fun k => by rw [fo (20 + j) (by omega) (by omega) (by omega)]
        have es := eS j hj'
        obtain ⟨c9, v9, lo9, od9, ea9, so, st, mk, wd9, pa9, tm, h1', h2', x1, x2, x3, x4, b1, x5, x6, st1, mk1, so1, so2, q0, q1, q2, q3, q4, q5, q6, q7, q8, q9, q10, q11, q12, q13, q14, q15, q16, q17⟩ := h.rest
        refine RelS2.mk ?_ ?_ ?_ ?_ ?_ ?_ ?_ ?_ ?_ ?_ ⟨c9, v9, lo9, od9, ea9, so, st, mk, wd9, pa9, tm, h1', h2', x1, x2, x3, x4, b1, x5, x6, st1, mk1, so1, so2, (es 0 (by decide)).trans q0, (es 1 (by decide)).trans q1, (es 2 (by decide)).trans q2, (es 3 (by decide)).trans q3, (es 4 (by decide)).trans q4, (es 5 (by decide)).trans q5, (es 6 (by decide)).trans q6, (es 8 (by decide)).trans q7, (eV v9 (by omega) 0 (by decide)).trans q8, (f1 5).trans q9, (eC c9 (by omega) 0 (by decide) (fun _ => by decide)).trans q10, (f1 7).trans q11, (r0 3 (by omega) (by omega) (by omega)).trans q12, q13, q14, q15, q16, q17⟩
        · rw [f1, es 0 (by decide)]; exact h.e0
        · rw [f1, es 1 (by decide)]; exact h.e1
        · rw [f1, es 2 (by decide)]; exact h.e2
        · rw [f1, es 3 (by decide)]; exact h.e3
        · rw [f1, es 4 (by decide)]; exact h.e4
        · rw [f1, es 5 (by decide)]; exact h.e6
        · rw [f1, es 6 (by decide)]; exact h.e8
        · rw [f1, es 7 (by decide)]; exact h.e9
        · rw [f1, es 8 (by decide)]; exact h.e10
        · rw [es 7 (by decide)]; exact h.back
  · intro j hj hoj
    by_cases z : j = ns
    · subst z
      have e1 : retI (row w') j = nI (t + wd) := by
        unfold retI
        rw [so5, s1, nI_c (by omega), eV v (by omega) 0 (by decide), wd3, s7, show (0 : Int32) + 1 = nI 1 from rfl, pk_mul, nI_add, Nat.mul_one]
      have e2 : endI (row w') j = nI (t + pa) := by
        unfold endI
        rw [so5, s0, nI_c (by omega), eC c (by omega) 0 (by decide) (fun _ => by decide), pa3, nI_add]
      rw [e1, e2]
      exact ⟨nI_lt (by omega) (by omega), nI_lt (by omega) (by omega)⟩
    · have hj' : j < ns := by omega
      obtain ⟨c9, v9, so, wd9, pa9, h1, h2, -, -, -, -, -, -, q0, q1, -⟩ := hm.due hj'
      have e1 : retI (row w') j = retI (row w) j := by
        unfold retI
        rw [eS j hj' 5 (by decide), eS j hj' 1 (by decide), q1, nI_c (by omega), eV v9 (by omega) 0 (by decide), eS j hj' 7 (by decide)]
      have e2 : endI (row w') j = endI (row w) j := by
        unfold endI
        rw [eS j hj' 5 (by decide), eS j hj' 0 (by decide), q0, nI_c (by omega), eC c9 (by omega) 0 (by decide) (fun _ => by decide)]
      rw [e1, e2]
      exact hT j hj' ((eS j hj' 6 (by decide)).symm.trans hoj)
