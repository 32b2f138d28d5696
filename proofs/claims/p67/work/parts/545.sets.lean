set_option maxHeartbeats 400000
/-! depth, fog and price set anew -/
theorem RelM.sets {M M' : MM} {r r' : Nat → Int32} {nv nc ns : Nat} {bk : Nat → Nat} (hm : RelM M r nv nc ns bk) (m0 : ∀ k, 3 ≤ k → k ≤ 12 → k ≠ 7 → M'.1 0 k = M.1 0 k) (mv : ∀ v, v < nv → (∀ k, 1 ≤ k → k ≤ 7 → k ≠ 3 → k ≠ 4 → M'.1 (4 + v) k = M.1 (4 + v) k) ∧ M'.2 (4 + v) 0 = M.2 (4 + v) 0) (mc : ∀ c, c < nc → (∀ k, 1 ≤ k → k ≤ 6 → M'.1 (12 + c) k = M.1 (12 + c) k) ∧ M'.2 (12 + c) 0 = M.2 (12 + c) 0) (ms : ∀ i, i < ns → ∀ k, k ≤ 10 → M'.1 (20 + i) k = M.1 (20 + i) k)
    (hr : ∀ k, k < 390 → k ≠ 6 → (∀ v, v < 8 → k ≠ 8 + 8 * v + 2 ∧ k ≠ 8 + 8 * v + 3) → r' k = r k) (hd : M'.1 0 7 = r' 6) (hdp : ∃ a, a ≤ 20 ∧ r' 6 = nI a) (hp : ∀ v, v < nv → M'.1 (4 + v) 3 = vaF r' v 2 ∧ ∃ a, 1 ≤ a ∧ a ≤ 99 ∧ vaF r' v 2 = nI a) (hg : ∀ v, v < nv → M'.1 (4 + v) 4 = vaF r' v 3 ∧ ∃ a, a ≤ 9 ∧ vaF r' v 3 = nI a) : RelM M' r' nv nc ns bk := by
  have hbv := hm.bv
  have hbc := hm.bc
  have hbs := hm.bs
  have h0 : ∀ k, k < 8 → k ≠ 6 → r' k = r k := fun k h1 h2 => hr k (by omega) h2 (fun v hv => ⟨by omega, by omega⟩)
  have eV : ∀ v, v < 8 → ∀ k, k < 8 → k ≠ 2 → k ≠ 3 → vaF r' v k = vaF r v k := fun v hv k hk h2 h3 => hr _ (by omega) (by omega) (fun v hv => ⟨by omega, by omega⟩)
  have eC : ∀ c, c < 8 → ∀ k, k < 6 → cuF r' c k = cuF r c k := fun c hc k hk => hr _ (by omega) (by omega) (fun v hv => ⟨by omega, by omega⟩)
  have eS : ∀ i, i < 30 → ∀ k, k < 9 → shF r' i k = shF r i k := fun i hi k hk => hr _ (by omega) (by omega) (fun v hv => ⟨by omega, by omega⟩)
  have eL : ∀ i, i < 30 → lft r' i = lft r i := fun i hi => by
    unfold lft
    rw [eS i hi 6 (by decide), eS i hi 4 (by decide), eS i hi 3 (by decide), eS i hi 7 (by decide)]
  refine RelM.mk hbv hbc hbs ((h0 0 (by decide) (by decide)).trans hm.v0) ((h0 1 (by decide) (by decide)).trans hm.c0) ((h0 2 (by decide) (by decide)).trans hm.s0) ((m0 3 (by decide) (by decide) (by decide)).trans hm.v1) ((m0 4 (by decide) (by decide) (by decide)).trans hm.c1) ((m0 5 (by decide) (by decide) (by decide)).trans hm.s1) ?_ ?_ ?_ ?_ ?_ ?_ ?_ ?_ ?_ ?_ (fun v hv => ?_) (fun c hc => ?_) (fun i hi => ?_)
  · rw [m0 6 (by decide) (by decide) (by decide), h0 3 (by decide) (by decide)]; exact hm.time
  · exact hd
  · rw [m0 8 (by decide) (by decide) (by decide), h0 4 (by decide) (by decide)]; exact hm.earn
  · rw [m0 9 (by decide) (by decide) (by decide), h0 5 (by decide) (by decide)]; exact hm.refd
  · rw [m0 10 (by decide) (by decide) (by decide), hm.hold]; exact isum_congr (fun i hi => (eL i (by omega)).symm)
  · rw [m0 11 (by decide) (by decide) (by decide), hm.hear]; exact isum_congr (fun i hi => by rw [eS i (by omega) 8 (by decide)])
  · rw [m0 12 (by decide) (by decide) (by decide), hm.lost]; exact isum_congr (fun i hi => by rw [eS i (by omega) 8 (by decide), eS i (by omega) 7 (by decide)])
  · rw [h0 7 (by decide) (by decide), ← hm.frst]; exact isum_congr (fun c hc => (mc c hc).1 2 (by decide) (by decide))
  · rw [h0 3 (by decide) (by decide)]; exact hm.tm
  · exact hdp
  · have h := hm.vs v hv
    obtain ⟨m1, m2⟩ := mv v hv
    have ev := eV v (by omega)
    refine RelV.mk ?_ ?_ ?_ ?_ ?_ ?_ ?_ ?_ ?_ ?_ ?_ ?_ ?_
    · rw [m1 1 (by decide) (by decide) (by decide) (by decide), ev 0 (by decide) (by decide) (by decide)]; exact h.e1
    · rw [m1 2 (by decide) (by decide) (by decide) (by decide), ev 1 (by decide) (by decide) (by decide)]; exact h.e2
    · exact (hp v hv).1
    · exact (hg v hv).1
    · rw [m1 5 (by decide) (by decide) (by decide) (by decide), ev 4 (by decide) (by decide) (by decide)]; exact h.e5
    · rw [m1 7 (by decide) (by decide) (by decide) (by decide), ev 5 (by decide) (by decide) (by decide)]; exact h.e7
    · rw [m1 6 (by decide) (by decide) (by decide) (by decide), h.e6]
      exact isum_congr (fun i hi => by rw [eS i (by omega) 1 (by decide), eS i (by omega) 4 (by decide), eS i (by omega) 8 (by decide)])
    · rw [m2, ev 6 (by decide) (by decide) (by decide), ev 7 (by decide) (by decide) (by decide)]; exact h.name
    · rw [ev 0 (by decide) (by decide) (by decide)]; exact h.width
    · rw [ev 1 (by decide) (by decide) (by decide)]; exact h.walls
    · exact (hp v hv).2
    · exact (hg v hv).2
    · rw [ev 4 (by decide) (by decide) (by decide)]; exact h.rating
  · have h := hm.cs c hc
    obtain ⟨m1, m2⟩ := mc c hc
    have ec := eC c (by omega)
    refine RelC.mk ?_ ?_ ?_ ?_ ?_ ?_ ?_
    · rw [m1 1 (by decide) (by decide), ec 0 (by decide)]; exact h.e1
    · rw [m1 3 (by decide) (by decide), ec 1 (by decide)]; exact h.e3
    · rw [m1 4 (by decide) (by decide), ec 2 (by decide)]; exact h.e4
    · rw [m1 6 (by decide) (by decide), ec 3 (by decide)]; exact h.e6
    · rw [m1 5 (by decide) (by decide), h.e5]
      exact isum_congr (fun i hi => by rw [eS i (by omega) 0 (by decide), eL i (by omega)])
    · rw [m2, ec 4 (by decide), ec 5 (by decide)]; exact h.name
    · rw [ec 0 (by decide)]; exact h.patience
  · have h := hm.ss i hi
    have m1 := ms i hi
    have es := eS i (by omega)
    refine RelS.mk ?_ ?_ ?_ ?_ ?_ ?_ ?_ ?_ ?_ ?_ ?_
    · rw [m1 0 (by decide), es 0 (by decide)]; exact h.e0
    · rw [m1 1 (by decide), es 1 (by decide)]; exact h.e1
    · rw [m1 2 (by decide), es 2 (by decide)]; exact h.e2
    · rw [m1 3 (by decide), es 3 (by decide)]; exact h.e3
    · rw [m1 4 (by decide), es 4 (by decide)]; exact h.e4
    · rw [m1 6 (by decide), es 5 (by decide)]; exact h.e6
    · rw [m1 8 (by decide), es 6 (by decide)]; exact h.e8
    · rw [m1 9 (by decide), es 7 (by decide)]; exact h.e9
    · rw [m1 10 (by decide), es 8 (by decide)]; exact h.e10
    · rw [es 7 (by decide)]; exact h.back
    · obtain ⟨c, v, lo, od, ea, so, st, mk, wd, pa, tm, h1, h2, l1, l2, o1, o2, b1, ea1, ea2, st1, mk1, so1, tm1, q0, q1, q2, q3, q4, q5, q6, q7, q8, q9, q10, q11, q12, q13, q14⟩ := h.rest
      exact ⟨c, v, lo, od, ea, so, st, mk, wd, pa, tm, h1, h2, l1, l2, o1, o2, b1, ea1, ea2, st1, mk1, so1, tm1, (es 0 (by decide)).trans q0, (es 1 (by decide)).trans q1, (es 2 (by decide)).trans q2, (es 3 (by decide)).trans q3, (es 4 (by decide)).trans q4, (es 5 (by decide)).trans q5, (es 6 (by decide)).trans q6, (es 8 (by decide)).trans q7, (eV v (by omega) 0 (by decide) (by decide) (by decide)).trans q8, (m1 5 (by decide)).trans q9, (eC c (by omega) 0 (by decide)).trans q10, (m1 7 (by decide)).trans q11, (h0 3 (by decide) (by decide)).trans q12, q13, q14⟩
