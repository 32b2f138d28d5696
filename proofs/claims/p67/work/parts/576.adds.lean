set_option maxHeartbeats 400000
/-! a new valley, a new customer -/
theorem sL_1 (M : MM) (j k : Nat) (x : Int64) : (sL M j k x).1 = M.1 := rfl
theorem cOpenV {M : MM} {nv : Nat} {x : Int64} {wd wl pr : Int32} (hs : M.1 0 3 = nI nv) (hnv : nv < 8) : ∃ q M', FX6_openValley M x wd wl pr = some (q, M') ∧ q = nI nv ∧ (∀ j, j ≠ 0 → j ≠ 4 + nv → M'.1 j = M.1 j) ∧ (∀ j, j ≠ 4 + nv → M'.2 j = M.2 j) ∧ (∀ k, k ≠ 3 → M'.1 0 k = M.1 0 k) ∧ M'.1 0 3 = nI (nv + 1) ∧ M'.2 (4 + nv) 0 = x ∧ M'.1 (4 + nv) 1 = wd ∧ M'.1 (4 + nv) 2 = wl ∧ M'.1 (4 + nv) 3 = pr ∧ M'.1 (4 + nv) 4 = 0 ∧ M'.1 (4 + nv) 5 = 10 ∧ M'.1 (4 + nv) 6 = 0 ∧ M'.1 (4 + nv) 7 = 0 := by
  have n1 : (0 : Nat) ≠ 4 + nv := by omega
  have n2 : 4 + nv ≠ 0 := by omega
  unfold FX6_openValley
  rw [hs, gd_t (inI (by omega) (by omega)), nI_c (by omega)]
  simp only [bnd_s]
  refine ⟨_, _, rfl, ?_, fun j a b => ?_, fun j a => ?_, fun k a => ?_, ?_, ?_, ?_, ?_, ?_, ?_, ?_, ?_, ?_⟩
  · simp only [sI_at, sI_o _ _ _ n1, sL_1, if_true]
    refine Eq.trans ?_ (nI_pred nv)
    rw [← nI_1, ← hs]
  · simp only [sI_o _ _ _ a, sI_o _ _ _ b, sL_1]
  · show (sL M (4 + nv) 0 x).2 j = M.2 j
    exact sL_o _ _ _ a
  · simp only [sI_at, sI_o _ _ _ n1, if_neg a, sL_1]
  · simp only [sI_at, sI_o _ _ _ n1, sL_1, if_true]
    rw [← nI_1, ← hs]
  · show (sL M (4 + nv) 0 x).2 (4 + nv) 0 = x
    rw [sL_at, if_pos rfl]
  all_goals
    simp only [sI_at, sI_o _ _ _ n2]
    rfl
theorem cWelcome {M : MM} {nc : Nat} {x : Int64} {pa mo : Int32} (hs : M.1 0 4 = nI nc) (hnc : nc < 8) : ∃ q M', FX6_welcome M x pa mo = some (q, M') ∧ q = nI nc ∧ (∀ j, j ≠ 0 → j ≠ 12 + nc → M'.1 j = M.1 j) ∧ (∀ j, j ≠ 12 + nc → M'.2 j = M.2 j) ∧ (∀ k, k ≠ 4 → M'.1 0 k = M.1 0 k) ∧ M'.1 0 4 = nI (nc + 1) ∧ M'.2 (12 + nc) 0 = x ∧ M'.1 (12 + nc) 1 = pa ∧ M'.1 (12 + nc) 2 = mo ∧ M'.1 (12 + nc) 3 = mo ∧ M'.1 (12 + nc) 4 = 0 ∧ M'.1 (12 + nc) 5 = 0 ∧ M'.1 (12 + nc) 6 = 0 := by
  have n1 : (0 : Nat) ≠ 12 + nc := by omega
  have n2 : 12 + nc ≠ 0 := by omega
  unfold FX6_welcome
  rw [hs, gd_t (inI (by omega) (by omega)), nI_c (by omega)]
  simp only [bnd_s]
  refine ⟨_, _, rfl, ?_, fun j a b => ?_, fun j a => ?_, fun k a => ?_, ?_, ?_, ?_, ?_, ?_, ?_, ?_, ?_⟩
  · simp only [sI_at, sI_o _ _ _ n1, sL_1, if_true]
    refine Eq.trans ?_ (nI_pred nc)
    rw [← nI_1, ← hs]
  · simp only [sI_o _ _ _ a, sI_o _ _ _ b, sL_1]
  · show (sL M (12 + nc) 0 x).2 j = M.2 j
    exact sL_o _ _ _ a
  · simp only [sI_at, sI_o _ _ _ n1, if_neg a, sL_1]
  · simp only [sI_at, sI_o _ _ _ n1, sL_1, if_true]
    rw [← nI_1, ← hs]
  · show (sL M (12 + nc) 0 x).2 (12 + nc) 0 = x
    rw [sL_at, if_pos rfl]
  all_goals
    simp only [sI_at, sI_o _ _ _ n2]
    rfl
theorem rLays {w : Wd} {a p : Nat} (ha : a + 1 < 390) (hp : p < 1099511627776) : FX13_laysName w (nI a) (lN p) = some (rs (rs w a (nI (p / 1048576))) (a + 1) (nI (p % 1048576))) := by
  have e1 : lN p >>> ((20 : Int32).toInt64 &&& 63) = lN (p / 1048576) := pf_shr (d := 20) (by decide) (by omega)
  have e2 : lN p &&& 1048575 = lN (p % 1048576) := g_mask (s := 20) (p := 1048576) rfl (by decide) (by omega)
  unfold FX13_laysName
  rw [gd_t (inI (by omega) (by omega)), nI_c (by omega), rs_fold, e1, L_nI (by omega), bnd_s, nI_1, gd_t (inI ha (by omega)), nI_c (by omega), rs_fold, e2, L_nI (by omega), bnd_s]
theorem vly_k {v k : Nat} {K : Int32} (h : K = nI k) : FX13_vly (nI v) + K = nI (8 + 8 * v + k) := by
  subst h
  exact ix (k := k)
theorem cst_k {c k : Nat} {K : Int32} (h : K = nI k) : FX13_cst (nI c) + K = nI (72 + 6 * c + k) := by
  subst h
  exact ix (k := k)
theorem rAddsV {w : Wd} {nv p : Nat} {wd wl pr : Int32} (hs : row w 0 = nI nv) (hnv : nv < 8) (hp : p < 1099511627776) : ∃ w', FX13_addsValley w (lN p) wd wl pr = some (nI nv, w') ∧ Fr w w' ∧ (∀ k, k ≠ 0 → (k < 8 + 8 * nv ∨ 8 + 8 * nv + 8 ≤ k) → row w' k = row w k) ∧ row w' 0 = nI (nv + 1) ∧ vaF (row w') nv 0 = wd ∧ vaF (row w') nv 1 = wl ∧ vaF (row w') nv 2 = pr ∧ vaF (row w') nv 3 = 0 ∧ vaF (row w') nv 4 = 10 ∧ vaF (row w') nv 5 = 0 ∧ vaF (row w') nv 6 = nI (p / 1048576) ∧ vaF (row w') nv 7 = nI (p % 1048576) := by
  have s0 : FX13_vly (nI nv) + 0 = nI (8 + 8 * nv + 0) := vly_k rfl
  have s1 : FX13_vly (nI nv) + 1 = nI (8 + 8 * nv + 1) := vly_k rfl
  have s2 : FX13_vly (nI nv) + 2 = nI (8 + 8 * nv + 2) := vly_k rfl
  have s3 : FX13_vly (nI nv) + 3 = nI (8 + 8 * nv + 3) := vly_k rfl
  have s4 : FX13_vly (nI nv) + 4 = nI (8 + 8 * nv + 4) := vly_k rfl
  have s5 : FX13_vly (nI nv) + 5 = nI (8 + 8 * nv + 5) := vly_k rfl
  have s6 : FX13_vly (nI nv) + 6 = nI (8 + 8 * nv + 6) := vly_k rfl
  generalize h1 : rs (rs (rs (rs (rs (rs w (8 + 8 * nv + 0) wd) (8 + 8 * nv + 1) wl) (8 + 8 * nv + 2) pr) (8 + 8 * nv + 3) 0) (8 + 8 * nv + 4) 10) (8 + 8 * nv + 5) 0 = w1
  have a1 : ∀ k, (k < 8 + 8 * nv ∨ 8 + 8 * nv + 6 ≤ k) → row w1 k = row w k := fun k hk => by
    rw [← h1, rs_ne _ _ (by omega), rs_ne _ _ (by omega), rs_ne _ _ (by omega), rs_ne _ _ (by omega), rs_ne _ _ (by omega), rs_ne _ _ (by omega)]
  have b0 : row w1 (8 + 8 * nv + 0) = wd := by rw [← h1, rs_ne _ _ (by omega), rs_ne _ _ (by omega), rs_ne _ _ (by omega), rs_ne _ _ (by omega), rs_ne _ _ (by omega), rs_row, if_pos rfl]
  have b1 : row w1 (8 + 8 * nv + 1) = wl := by rw [← h1, rs_ne _ _ (by omega), rs_ne _ _ (by omega), rs_ne _ _ (by omega), rs_ne _ _ (by omega), rs_row, if_pos rfl]
  have b2 : row w1 (8 + 8 * nv + 2) = pr := by rw [← h1, rs_ne _ _ (by omega), rs_ne _ _ (by omega), rs_ne _ _ (by omega), rs_row, if_pos rfl]
  have b3 : row w1 (8 + 8 * nv + 3) = 0 := by rw [← h1, rs_ne _ _ (by omega), rs_ne _ _ (by omega), rs_row, if_pos rfl]
  have b4 : row w1 (8 + 8 * nv + 4) = 10 := by rw [← h1, rs_ne _ _ (by omega), rs_row, if_pos rfl]
  have b5 : row w1 (8 + 8 * nv + 5) = 0 := by rw [← h1, rs_row, if_pos rfl]
  have aF : Fr w w1 := by rw [← h1]; exact (((((Fr.of_rs _ _ _).to_rs _ _).to_rs _ _).to_rs _ _).to_rs _ _).to_rs _ _
  generalize h2 : rs (rs (rs w1 (8 + 8 * nv + 6) (nI (p / 1048576))) (8 + 8 * nv + 6 + 1) (nI (p % 1048576))) 0 (nI (nv + 1)) = w2
  have c1 : ∀ k, k ≠ 0 → k ≠ 8 + 8 * nv + 6 → k ≠ 8 + 8 * nv + 7 → row w2 k = row w1 k := fun k a b c => by
    rw [← h2, rs_ne _ _ a, rs_ne _ _ (by omega), rs_ne _ _ b]
  have c6 : row w2 (8 + 8 * nv + 6) = nI (p / 1048576) := by rw [← h2, rs_ne _ _ (by omega), rs_ne _ _ (by omega), rs_row, if_pos rfl]
  have c7 : row w2 (8 + 8 * nv + 7) = nI (p % 1048576) := by rw [← h2, rs_ne _ _ (by omega), rs_row, if_pos rfl]
  have c0 : row w2 0 = nI (nv + 1) := by rw [← h2, rs_row, if_pos rfl]
  have cF : Fr w w2 := by rw [← h2]; exact ((aF.to_rs _ _).to_rs _ _).to_rs _ _
  have e : FX13_addsValley w (lN p) wd wl pr = some (nI nv, w2) := by
    have n0 : ((rs (rs w1 (8 + 8 * nv + 6) (nI (p / 1048576))) (8 + 8 * nv + 6 + 1) (nI (p % 1048576))) 15).1 2 0 = nI nv := (rs_ne _ _ (by omega)).trans ((rs_ne _ _ (by omega)).trans ((a1 0 (by omega)).trans hs))
    unfold FX13_addsValley
    rw [gd0, show (w 15).1 2 0 = nI nv from hs, bnd_s, s0, gd_t (inI (by omega) (by omega)), nI_c (by omega), rs_fold, bnd_s, s1, gd_t (inI (by omega) (by omega)), nI_c (by omega), rs_fold, bnd_s, s2, gd_t (inI (by omega) (by omega)), nI_c (by omega), rs_fold, bnd_s, s3, gd_t (inI (by omega) (by omega)), nI_c (by omega), rs_fold, bnd_s, s4, gd_t (inI (by omega) (by omega)), nI_c (by omega), rs_fold, bnd_s, s5, gd_t (inI (by omega) (by omega)), nI_c (by omega), rs_fold, h1, bnd_s, s6, rLays (by omega) hp, bo1_s, gd0, gd0, n0, nI_1, rs_fold, h2, bnd_s, gd0, show (w2 15).1 2 0 = nI (nv + 1) from c0, nI_pred]
  refine ⟨w2, e, cF, fun k a b => (c1 k a (by omega) (by omega)).trans (a1 k (by omega)), c0, ?_, ?_, ?_, ?_, ?_, ?_, c6, c7⟩
  · exact (c1 _ (by omega) (by omega) (by omega)).trans b0
  · exact (c1 _ (by omega) (by omega) (by omega)).trans b1
  · exact (c1 _ (by omega) (by omega) (by omega)).trans b2
  · exact (c1 _ (by omega) (by omega) (by omega)).trans b3
  · exact (c1 _ (by omega) (by omega) (by omega)).trans b4
  · exact (c1 _ (by omega) (by omega) (by omega)).trans b5
theorem rAddsC {w : Wd} {nc p : Nat} {pa mo : Int32} (hs : row w 1 = nI nc) (hnc : nc < 8) (hp : p < 1099511627776) : ∃ w', FX13_addsCustomer w (lN p) pa mo = some (nI nc, w') ∧ Fr w w' ∧ (∀ k, k ≠ 1 → k ≠ 7 → (k < 72 + 6 * nc ∨ 72 + 6 * nc + 6 ≤ k) → row w' k = row w k) ∧ row w' 1 = nI (nc + 1) ∧ row w' 7 = row w 7 + mo ∧ cuF (row w') nc 0 = pa ∧ cuF (row w') nc 1 = mo ∧ cuF (row w') nc 2 = 0 ∧ cuF (row w') nc 3 = 0 ∧ cuF (row w') nc 4 = nI (p / 1048576) ∧ cuF (row w') nc 5 = nI (p % 1048576) := by
  have s0 : FX13_cst (nI nc) + 0 = nI (72 + 6 * nc + 0) := cst_k rfl
  have s1 : FX13_cst (nI nc) + 1 = nI (72 + 6 * nc + 1) := cst_k rfl
  have s2 : FX13_cst (nI nc) + 2 = nI (72 + 6 * nc + 2) := cst_k rfl
  have s3 : FX13_cst (nI nc) + 3 = nI (72 + 6 * nc + 3) := cst_k rfl
  have s4 : FX13_cst (nI nc) + 4 = nI (72 + 6 * nc + 4) := cst_k rfl
  generalize h1 : rs (rs (rs (rs w (72 + 6 * nc + 0) pa) (72 + 6 * nc + 1) mo) (72 + 6 * nc + 2) 0) (72 + 6 * nc + 3) 0 = w1
  have a1 : ∀ k, (k < 72 + 6 * nc ∨ 72 + 6 * nc + 4 ≤ k) → row w1 k = row w k := fun k hk => by
    rw [← h1, rs_ne _ _ (by omega), rs_ne _ _ (by omega), rs_ne _ _ (by omega), rs_ne _ _ (by omega)]
  have b0 : row w1 (72 + 6 * nc + 0) = pa := by rw [← h1, rs_ne _ _ (by omega), rs_ne _ _ (by omega), rs_ne _ _ (by omega), rs_row, if_pos rfl]
  have b1 : row w1 (72 + 6 * nc + 1) = mo := by rw [← h1, rs_ne _ _ (by omega), rs_ne _ _ (by omega), rs_row, if_pos rfl]
  have b2 : row w1 (72 + 6 * nc + 2) = 0 := by rw [← h1, rs_ne _ _ (by omega), rs_row, if_pos rfl]
  have b3 : row w1 (72 + 6 * nc + 3) = 0 := by rw [← h1, rs_row, if_pos rfl]
  have aF : Fr w w1 := by rw [← h1]; exact (((Fr.of_rs _ _ _).to_rs _ _).to_rs _ _).to_rs _ _
  generalize h2 : rs (rs (rs (rs w1 (72 + 6 * nc + 4) (nI (p / 1048576))) (72 + 6 * nc + 4 + 1) (nI (p % 1048576))) 1 (nI (nc + 1))) 7 (row w 7 + mo) = w2
  have c1 : ∀ k, k ≠ 1 → k ≠ 7 → k ≠ 72 + 6 * nc + 4 → k ≠ 72 + 6 * nc + 5 → row w2 k = row w1 k := fun k a b c d => by
    rw [← h2, rs_ne _ _ b, rs_ne _ _ a, rs_ne _ _ (by omega), rs_ne _ _ c]
  have c4 : row w2 (72 + 6 * nc + 4) = nI (p / 1048576) := by rw [← h2, rs_ne _ _ (by omega), rs_ne _ _ (by omega), rs_ne _ _ (by omega), rs_row, if_pos rfl]
  have c5 : row w2 (72 + 6 * nc + 5) = nI (p % 1048576) := by rw [← h2, rs_ne _ _ (by omega), rs_ne _ _ (by omega), rs_row, if_pos rfl]
  have d1 : row w2 1 = nI (nc + 1) := by rw [← h2, rs_ne _ _ (by omega), rs_row, if_pos rfl]
  have d7 : row w2 7 = row w 7 + mo := by rw [← h2, rs_row, if_pos rfl]
  have cF : Fr w w2 := by rw [← h2]; exact (((aF.to_rs _ _).to_rs _ _).to_rs _ _).to_rs _ _
  have e : FX13_addsCustomer w (lN p) pa mo = some (nI nc, w2) := by
    have n0 : ((rs (rs w1 (72 + 6 * nc + 4) (nI (p / 1048576))) (72 + 6 * nc + 4 + 1) (nI (p % 1048576))) 15).1 2 1 = nI nc := (rs_ne _ _ (by omega)).trans ((rs_ne _ _ (by omega)).trans ((a1 1 (by omega)).trans hs))
    have n7 : ((rs (rs (rs w1 (72 + 6 * nc + 4) (nI (p / 1048576))) (72 + 6 * nc + 4 + 1) (nI (p % 1048576))) 1 (nI (nc + 1))) 15).1 2 7 = row w 7 := (rs_ne _ _ (by omega)).trans ((rs_ne _ _ (by omega)).trans ((rs_ne _ _ (by omega)).trans (a1 7 (by omega))))
    unfold FX13_addsCustomer
    rw [gd1, show (w 15).1 2 1 = nI nc from hs, bnd_s, s0, gd_t (inI (by omega) (by omega)), nI_c (by omega), rs_fold, bnd_s, s1, gd_t (inI (by omega) (by omega)), nI_c (by omega), rs_fold, bnd_s, s2, gd_t (inI (by omega) (by omega)), nI_c (by omega), rs_fold, bnd_s, s3, gd_t (inI (by omega) (by omega)), nI_c (by omega), rs_fold, h1, bnd_s, s4, rLays (by omega) hp, bo1_s, gd1, gd1, n0, nI_1, rs_fold, bnd_s, gd7, gd7, n7, rs_fold, h2, bnd_s, gd1, show (w2 15).1 2 1 = nI (nc + 1) from d1, nI_pred]
  refine ⟨w2, e, cF, fun k a b c => (c1 k a b (by omega) (by omega)).trans (a1 k (by omega)), d1, d7, ?_, ?_, ?_, ?_, c4, c5⟩
  · exact (c1 _ (by omega) (by omega) (by omega) (by omega)).trans b0
  · exact (c1 _ (by omega) (by omega) (by omega) (by omega)).trans b1
  · exact (c1 _ (by omega) (by omega) (by omega) (by omega)).trans b2
  · exact (c1 _ (by omega) (by omega) (by omega) (by omega)).trans b3
theorem RelS2.more {M M' : MM} {r r' : Nat → Int32} {nv nc nv' nc' j bk : Nat} (h : RelS2 M r nv nc j bk) (hv : nv ≤ nv') (hc : nc ≤ nc') (f1 : ∀ k, M'.1 (20 + j) k = M.1 (20 + j) k) (es : ∀ k, k < 9 → shF r' j k = shF r j k) (eV : ∀ v, v < nv → vaF r' v 0 = vaF r v 0) (eC : ∀ c, c < nc → cuF r' c 0 = cuF r c 0) (e3 : r' 3 = r 3) : RelS2 M' r' nv' nc' j bk := by
  obtain ⟨c9, v9, lo9, od9, ea9, so, st, mk, wd9, pa9, tm, h1', h2', x1, x2, x3, x4, b1, x5, x6, st1, mk1, so1, so2, q0, q1, q2, q3, q4, q5, q6, q7, q8, q9, q10, q11, q12, q13, q14, q15, q16, q17⟩ := h.rest
  refine RelS2.mk ?_ ?_ ?_ ?_ ?_ ?_ ?_ ?_ ?_ ?_ ⟨c9, v9, lo9, od9, ea9, so, st, mk, wd9, pa9, tm, by omega, by omega, x1, x2, x3, x4, b1, x5, x6, st1, mk1, so1, so2, (es 0 (by decide)).trans q0, (es 1 (by decide)).trans q1, (es 2 (by decide)).trans q2, (es 3 (by decide)).trans q3, (es 4 (by decide)).trans q4, (es 5 (by decide)).trans q5, (es 6 (by decide)).trans q6, (es 8 (by decide)).trans q7, (eV v9 h2').trans q8, (f1 5).trans q9, (eC c9 h1').trans q10, (f1 7).trans q11, e3.trans q12, q13, q14, q15, q16, q17⟩
  · rw [f1, es 0 (by decide)]; exact h.e0
  · rw [f1, es 1 (by decide)]; exact h.e1
  · rw [f1, es 2 (by decide)]; exact h.e2
  · rw [f1, es 3 (by decide)]; exact h.e3
  · rw [f1, es 4 (by decide)]; exact h.e4
  · rw [f1, es 5 (by decide)]; exact h.e6
  · rw [f1, es 6 (by decide)]; exact h.e8
  · rw [f1, es 7 (by decide)]; exact h.e9
  · rw [f1, es 8 (by decide)]; exact h.e10
  · rw [es 7 (by decide)]; exact h.back
theorem isum_0 {n : Nat} {f : Nat → Int32} (h : ∀ i, i < n → f i = 0) : isum n f = 0 := by
  induction n with
  | zero => rfl
  | succ n ih => simp only [isum, ih (fun i hi => h i (by omega)), h n (by omega), Int32.add_zero]
theorem TmOk.more {M : MM} {r r' : Nat → Int32} {nv nc ns t : Nat} {bk : Nat → Nat} (hm : RelN M r nv nc ns bk) (h : TmOk r ns t) (es : ∀ j, j < ns → ∀ k, k < 9 → shF r' j k = shF r j k) (eV : ∀ v, v < nv → vaF r' v 0 = vaF r v 0) (eC : ∀ c, c < nc → cuF r' c 0 = cuF r c 0) : TmOk r' ns t := fun j hj hoj => by
  have hbv := hm.bv
  have hbc := hm.bc
  obtain ⟨c9, v9, so, wd9, pa9, h1, h2, -, -, -, -, -, -, q0, q1, -⟩ := hm.due hj
  have e1 : retI r' j = retI r j := by
    unfold retI
    rw [es j hj 5 (by decide), es j hj 1 (by decide), q1, nI_c (by omega), eV v9 h2, es j hj 7 (by decide)]
  have e2 : endI r' j = endI r j := by
    unfold endI
    rw [es j hj 5 (by decide), es j hj 0 (by decide), q0, nI_c (by omega), eC c9 h1]
  rw [e1, e2]
  exact h j hj ((es j hj 6 (by decide)).symm.trans hoj)
theorem valley_pair {M : MM} {w : Wd} {nv nc ns : Nat} {bk : Nat → Nat} (hm : RelN M (row w) nv nc ns bk) (hnv : nv < 8) {ls : List Nat} (hls : okName ls) {wd wl pr : Nat} (w1 : 1 ≤ wd) (w2 : wd ≤ 60) (l1 : 1 ≤ wl) (l2 : wl ≤ 4) (p1 : 1 ≤ pr) (p2 : pr ≤ 99) : ∃ M' w', FX6_openValley M (lN (pk8 ls)) (nI wd) (nI wl) (nI pr) = some (nI nv, M') ∧ FX13_addsValley w (lN (pk5 ls)) (nI wd) (nI wl) (nI pr) = some (nI nv, w') ∧ Fr w w' ∧ RelN M' (row w') (nv + 1) nc ns bk ∧ row w' 3 = row w 3 ∧ ∀ t, TmOk (row w) ns t → TmOk (row w') ns t := by
  have hbv := hm.bv
  have hbc := hm.bc
  have hbs := hm.bs
  obtain ⟨q, M', e, rfl, fo, f2, f0, f3, g0, g1, g2, g3, g4, g5, g6, g7⟩ := cOpenV (x := lN (pk8 ls)) (wd := nI wd) (wl := nI wl) (pr := nI pr) hm.v1 hnv
  obtain ⟨w', e', hF, r0, r00, s0, s1, s2, s3, s4, s5, s6, s7⟩ := rAddsV (p := pk5 ls) (wd := nI wd) (wl := nI wl) (pr := nI pr) hm.v0 hnv (pk5_bd hls).2.2.1
  have eV : ∀ u, u < nv → ∀ k, k < 8 → vaF (row w') u k = vaF (row w) u k := fun u hu k hk => r0 _ (by omega) (by omega)
  have eC : ∀ d k, cuF (row w') d k = cuF (row w) d k := fun d k => r0 _ (by omega) (by omega)
  have eS : ∀ j k, shF (row w') j k = shF (row w) j k := fun j k => r0 _ (by omega) (by omega)
  have eL : ∀ j, lft (row w') j = lft (row w) j := fun j => by
    unfold lft
    rw [eS j 6, eS j 4, eS j 3, eS j 7]
  refine ⟨M', w', e, e', hF, ?_, r0 3 (by omega) (by omega), fun t ht => ht.more hm (fun j _ k _ => eS j k) (fun v hv => eV v hv 0 (by decide)) (fun c _ => eC c 0)⟩
  refine RelN.mk (by omega) hbc hbs r00 ((r0 1 (by omega) (by omega)).trans hm.c0) ((r0 2 (by omega) (by omega)).trans hm.s0) f3 ((f0 4 (by omega)).trans hm.c1) ((f0 5 (by omega)).trans hm.s1) ?_ ?_ ?_ ?_ ?_ ?_ ?_ ?_ ?_ ?_ (fun u hu => ?_) (fun d hd => ?_) (fun j hj => ?_)
  · rw [f0 6 (by omega), hm.time]; exact (r0 3 (by omega) (by omega)).symm
  · rw [f0 7 (by omega), hm.depth]; exact (r0 6 (by omega) (by omega)).symm
  · rw [f0 8 (by omega), hm.earn]; exact (r0 4 (by omega) (by omega)).symm
  · rw [f0 9 (by omega), hm.refd]; exact (r0 5 (by omega) (by omega)).symm
  · rw [f0 10 (by omega), hm.hold]; exact isum_congr (fun j _ => (eL j).symm)
  · rw [f0 11 (by omega), hm.hear]; exact isum_congr (fun j _ => by rw [eS j 8])
  · rw [f0 12 (by omega), hm.lost]; exact isum_congr (fun j _ => by rw [eS j 8, eS j 7])
  · rw [r0 7 (by omega) (by omega), ← hm.frst]; exact isum_congr (fun c hc => by rw [fo (12 + c) (by omega) (by omega)])
  · rw [r0 3 (by omega) (by omega)]; exact hm.tm
  · rw [r0 6 (by omega) (by omega)]; exact hm.dp
  · by_cases z : u = nv
    · subst z
      refine RelV.mk (g1.trans s0.symm) (g2.trans s1.symm) (g3.trans s2.symm) (g4.trans s3.symm) (g5.trans s4.symm) (g7.trans s5.symm) ?_ ?_ ⟨wd, w1, w2, s0⟩ ⟨wl, l1, l2, s1⟩ ⟨pr, p1, p2, s2⟩ ⟨0, by omega, s3.trans nI_0.symm⟩ ⟨10, by omega, s4⟩
      · rw [g6]
        refine (isum_0 (fun j hj => ?_)).symm
        obtain ⟨c9, v9, so, wd9, pa9, h1, h2, -, -, -, -, -, -, q0, q1, -⟩ := hm.due hj
        rw [eS j 1, q1, if_neg (nI_ne (by omega) (by omega) (by omega))]
      · exact ⟨ls, hls, g0, s6, s7⟩
    · have hu' : u < nv := by omega
      have h := hm.vs u hu'
      have ev := eV u hu'
      have f := fo (4 + u) (by omega) (by omega)
      refine RelV.mk ?_ ?_ ?_ ?_ ?_ ?_ ?_ ?_ ?_ ?_ ?_ ?_ ?_
      · rw [f, ev 0 (by decide)]; exact h.e1
      · rw [f, ev 1 (by decide)]; exact h.e2
      · rw [f, ev 2 (by decide)]; exact h.e3
      · rw [f, ev 3 (by decide)]; exact h.e4
      · rw [f, ev 4 (by decide)]; exact h.e5
      · rw [f, ev 5 (by decide)]; exact h.e7
      · rw [f, h.e6]; exact isum_congr (fun j _ => by rw [eS j 1, eS j 4, eS j 8])
      · rw [f2 (4 + u) (by omega), ev 6 (by decide), ev 7 (by decide)]; exact h.name
      · rw [ev 0 (by decide)]; exact h.width
      · rw [ev 1 (by decide)]; exact h.walls
      · rw [ev 2 (by decide)]; exact h.price
      · rw [ev 3 (by decide)]; exact h.fog
      · rw [ev 4 (by decide)]; exact h.rating
  · have h := hm.cs d hd
    have f := fo (12 + d) (by omega) (by omega)
    refine RelC.mk ?_ ?_ ?_ ?_ ?_ ?_ ?_
    · rw [f, eC d 0]; exact h.e1
    · rw [f, eC d 1]; exact h.e3
    · rw [f, eC d 2]; exact h.e4
    · rw [f, eC d 3]; exact h.e6
    · rw [f, h.e5]; exact isum_congr (fun j _ => by rw [eS j 0, eL j])
    · rw [f2 (12 + d) (by omega), eC d 4, eC d 5]; exact h.name
    · rw [eC d 0]; exact h.patience
  · exact (hm.ss j hj).more (by omega) (Nat.le_refl _) (fun k => by rw [fo (20 + j) (by omega) (by omega)]) (fun k _ => eS j k) (fun v hv => eV v hv 0 (by decide)) (fun c _ => eC c 0) (r0 3 (by omega) (by omega))
theorem customer_pair {M : MM} {w : Wd} {nv nc ns : Nat} {bk : Nat → Nat} (hm : RelN M (row w) nv nc ns bk) (hnc : nc < 8) {ls : List Nat} (hls : okName ls) {pa : Nat} {mo : Int32} (p1 : 1 ≤ pa) (p2 : pa ≤ 240) : ∃ M' w', FX6_welcome M (lN (pk8 ls)) (nI pa) mo = some (nI nc, M') ∧ FX13_addsCustomer w (lN (pk5 ls)) (nI pa) mo = some (nI nc, w') ∧ Fr w w' ∧ RelN M' (row w') nv (nc + 1) ns bk ∧ row w' 3 = row w 3 ∧ ∀ t, TmOk (row w) ns t → TmOk (row w') ns t := by
  have hbv := hm.bv
  have hbc := hm.bc
  have hbs := hm.bs
  obtain ⟨q, M', e, rfl, fo, f2, f0, f4, g0, g1, g2, g3, g4, g5, g6⟩ := cWelcome (x := lN (pk8 ls)) (pa := nI pa) (mo := mo) hm.c1 hnc
  obtain ⟨w', e', hF, r0, r01, r07, s0, s1, s2, s3, s4, s5⟩ := rAddsC (p := pk5 ls) (pa := nI pa) (mo := mo) hm.c0 hnc (pk5_bd hls).2.2.1
  have eV : ∀ u, u < 8 → ∀ k, k < 8 → vaF (row w') u k = vaF (row w) u k := fun u hu k hk => r0 _ (by omega) (by omega) (by omega)
  have eC : ∀ d, d < nc → ∀ k, k < 6 → cuF (row w') d k = cuF (row w) d k := fun d hd k hk => r0 _ (by omega) (by omega) (by omega)
  have eS : ∀ j k, shF (row w') j k = shF (row w) j k := fun j k => r0 _ (by omega) (by omega) (by omega)
  have eL : ∀ j, lft (row w') j = lft (row w) j := fun j => by
    unfold lft
    rw [eS j 6, eS j 4, eS j 3, eS j 7]
  refine ⟨M', w', e, e', hF, ?_, r0 3 (by omega) (by omega) (by omega), fun t ht => ht.more hm (fun j _ k _ => eS j k) (fun v hv => eV v (by omega) 0 (by decide)) (fun c hc => eC c hc 0 (by decide))⟩
  refine RelN.mk hbv (by omega) hbs ((r0 0 (by omega) (by omega) (by omega)).trans hm.v0) r01 ((r0 2 (by omega) (by omega) (by omega)).trans hm.s0) ((f0 3 (by omega)).trans hm.v1) f4 ((f0 5 (by omega)).trans hm.s1) ?_ ?_ ?_ ?_ ?_ ?_ ?_ ?_ ?_ ?_ (fun u hu => ?_) (fun d hd => ?_) (fun j hj => ?_)
  · rw [f0 6 (by omega), hm.time]; exact (r0 3 (by omega) (by omega) (by omega)).symm
  · rw [f0 7 (by omega), hm.depth]; exact (r0 6 (by omega) (by omega) (by omega)).symm
  · rw [f0 8 (by omega), hm.earn]; exact (r0 4 (by omega) (by omega) (by omega)).symm
  · rw [f0 9 (by omega), hm.refd]; exact (r0 5 (by omega) (by omega) (by omega)).symm
  · rw [f0 10 (by omega), hm.hold]; exact isum_congr (fun j _ => (eL j).symm)
  · rw [f0 11 (by omega), hm.hear]; exact isum_congr (fun j _ => by rw [eS j 8])
  · rw [f0 12 (by omega), hm.lost]; exact isum_congr (fun j _ => by rw [eS j 8, eS j 7])
  · rw [isum_new (f := fun c => M.1 (12 + c) 2) (fun c hc => by rw [fo (12 + c) (by omega) (by omega)]), g2, hm.frst, r07]
  · rw [r0 3 (by omega) (by omega) (by omega)]; exact hm.tm
  · rw [r0 6 (by omega) (by omega) (by omega)]; exact hm.dp
  · have h := hm.vs u hu
    have ev := eV u (by omega)
    have f := fo (4 + u) (by omega) (by omega)
    refine RelV.mk ?_ ?_ ?_ ?_ ?_ ?_ ?_ ?_ ?_ ?_ ?_ ?_ ?_
    · rw [f, ev 0 (by decide)]; exact h.e1
    · rw [f, ev 1 (by decide)]; exact h.e2
    · rw [f, ev 2 (by decide)]; exact h.e3
    · rw [f, ev 3 (by decide)]; exact h.e4
    · rw [f, ev 4 (by decide)]; exact h.e5
    · rw [f, ev 5 (by decide)]; exact h.e7
    · rw [f, h.e6]; exact isum_congr (fun j _ => by rw [eS j 1, eS j 4, eS j 8])
    · rw [f2 (4 + u) (by omega), ev 6 (by decide), ev 7 (by decide)]; exact h.name
    · rw [ev 0 (by decide)]; exact h.width
    · rw [ev 1 (by decide)]; exact h.walls
    · rw [ev 2 (by decide)]; exact h.price
    · rw [ev 3 (by decide)]; exact h.fog
    · rw [ev 4 (by decide)]; exact h.rating
  · by_cases z : d = nc
    · subst z
      refine RelC.mk (g1.trans s0.symm) (g3.trans s1.symm) (g4.trans s2.symm) (g6.trans s3.symm) ?_ ?_ ⟨pa, p1, p2, s0⟩
      · rw [g5]
        refine (isum_0 (fun j hj => ?_)).symm
        obtain ⟨c9, v9, so, wd9, pa9, h1, h2, -, -, -, -, -, -, q0, q1, -⟩ := hm.due hj
        rw [eS j 0, q0, if_neg (nI_ne (by omega) (by omega) (by omega))]
      · exact ⟨ls, hls, g0, s4, s5⟩
    · have hd' : d < nc := by omega
      have h := hm.cs d hd'
      have f := fo (12 + d) (by omega) (by omega)
      have ec := eC d hd'
      refine RelC.mk ?_ ?_ ?_ ?_ ?_ ?_ ?_
      · rw [f, ec 0 (by decide)]; exact h.e1
      · rw [f, ec 1 (by decide)]; exact h.e3
      · rw [f, ec 2 (by decide)]; exact h.e4
      · rw [f, ec 3 (by decide)]; exact h.e6
      · rw [f, h.e5]; exact isum_congr (fun j _ => by rw [eS j 0, eL j])
      · rw [f2 (12 + d) (by omega), ec 4 (by decide), ec 5 (by decide)]; exact h.name
      · rw [ec 0 (by decide)]; exact h.patience
  · exact (hm.ss j hj).more (Nat.le_refl _) (by omega) (fun k => by rw [fo (20 + j) (by omega) (by omega)]) (fun k _ => eS j k) (fun v hv => eV v (by omega) 0 (by decide)) (fun c hc => eC c hc 0 (by decide)) (r0 3 (by omega) (by omega) (by omega))
