set_option maxHeartbeats 400000
/-! THE LAW from what was grown and read -/
theorem law_of {n N : Nat} {f : Nat → Int32} (hn : 2500 ≤ n) (hN : N ≤ 3000) {y : MM × List Nat} {t0 : Nat} (hg : FW_grown n N f (V0, []) = some y) (hl : y.2.length ≤ 580) (h256 : ∀ j, j < y.2.length → y.2.getD j 0 < 256) (hr : ∀ w1, Good w1 → TE w1 y.2 → row w1 = row w0 → ∃ w2 w3, FX12_readText n w1 = some (.ok (y.1.1 0 2, w2)) ∧ FLc_2 n w1 0 0 0 0 0 = some w3 ∧ AG w3 w2 ∧ AI (w3, y.1) t0) (ht : t0 + 1000 ≤ 9700) : FQ_law n N f = some () := by
  have h0 : (w0 15).1 0 2 = 0 := by
    show (sI (sI zM 0 9 (-1)) 0 11 (-1)).1 0 2 = 0
    rw [sI_at, if_neg (by decide), sI_at, if_neg (by decide)]
    rfl
  obtain ⟨w1, e1, e2, e3, e4⟩ := feeds_ok (n := n) (by omega) hl h256 good_w0 h0
  obtain ⟨w2, w3, r1, r2, r3, r4⟩ := hr w1 e2 e3 e4
  obtain ⟨z, a1, a2⟩ := lwA_ok hn hN f 40 0 (w3, y.1) t0 (by decide) r4 (by omega)
  have hE := end_ok hn a2 (by omega)
  unfold FQ_law
  rw [hg, bo1_s, gd_t (decide_eq_true (show y.2.length < 600 by omega)), e1, bo2_s, gd_t rfl, r1, bx2_s, r2, gh_t r3, gd_t (decide_eq_true rfl), a1, bo1_s]
  exact hE
