set_option maxHeartbeats 400000
/-! one shout, its customer and its valley change -/
theorem nI_ne {a b : Nat} (h : a ≠ b) (ha : a < 2 ^ 31) (hb : b < 2 ^ 31) : ¬ nI a = nI b := fun e => h ((nI_eq ha hb).mp e)
theorem RelN.upd {M M' : MM} {r r' : Nat → Int32} {nv nc ns : Nat} {bk : Nat → Nat} (hm : RelN M r nv nc ns bk) {i c v b' : Nat} (hi : i < ns) (hc : c < nc) (hv : v < nv) (h0 : shF r i 0 = nI c) (h1 : shF r i 1 = nI v)
    (m2 : M'.2 = M.2) (mo : ∀ j, j ≠ 0 → j ≠ 4 + v → j ≠ 12 + c → j ≠ 20 + i → M'.1 j = M.1 j) (m0 : ∀ k, k ≤ 7 → M'.1 0 k = M.1 0 k) (mv : ∀ k, k ≤ 4 → M'.1 (4 + v) k = M.1 (4 + v) k) (mc : ∀ k, k ≤ 2 → M'.1 (12 + c) k = M.1 (12 + c) k) (ms : ∀ k, k ≤ 7 → M'.1 (20 + i) k = M.1 (20 + i) k)
    (hr : ∀ k, k < 390 → k ≠ 4 → k ≠ 5 → k ≠ 72 + 6 * c + 1 → k ≠ 72 + 6 * c + 2 → k ≠ 72 + 6 * c + 3 → k ≠ 8 + 8 * v + 4 → k ≠ 8 + 8 * v + 5 → k ≠ 120 + 9 * i + 6 → k ≠ 120 + 9 * i + 7 → k ≠ 120 + 9 * i + 8 → r' k = r k)
    (a8 : M'.1 0 8 = r' 4) (a9 : M'.1 0 9 = r' 5) (a10 : M'.1 0 10 = M.1 0 10 + (lft r' i - lft r i)) (a11 : M'.1 0 11 = M.1 0 11 + (bcI (shF r' i 8) - bcI (shF r i 8))) (a12 : M'.1 0 12 = M.1 0 12 + ((shF r' i 7 - bcI (shF r' i 8)) - (shF r i 7 - bcI (shF r i 8))))
    (v5 : M'.1 (4 + v) 5 = vaF r' v 4) (v7 : M'.1 (4 + v) 7 = vaF r' v 5) (v6 : M'.1 (4 + v) 6 = M.1 (4 + v) 6 + (shF r i 4 * bcI (shF r' i 8) - shF r i 4 * bcI (shF r i 8)))
    (c3 : M'.1 (12 + c) 3 = cuF r' c 1) (c4 : M'.1 (12 + c) 4 = cuF r' c 2) (c6 : M'.1 (12 + c) 6 = cuF r' c 3) (c5 : M'.1 (12 + c) 5 = M.1 (12 + c) 5 + (lft r' i - lft r i))
    (s8 : M'.1 (20 + i) 8 = shF r' i 6) (s9 : M'.1 (20 + i) 9 = shF r' i 7) (s10 : M'.1 (20 + i) 10 = shF r' i 8)
    (hb : shF r' i 7 = nI b') (hbb : bk i ≤ b') (hrest : ∃ st mk, st ≤ 2 ∧ mk < 2 ^ b' ∧ shF r' i 6 = nI st ∧ shF r' i 8 = nI mk ∧ ∀ od, od ≤ 4 → shF r i 3 = nI od → b' ≤ od ∧ (st = 0 → b' < od) ∧ (st = 1 → b' = od))
    (hrt : ∃ a, a ≤ 10 + (nsum ns bk + (b' - bk i)) ∧ vaF r' v 4 = nI a) : RelN M' r' nv nc ns (fun j => if j = i then b' else bk j) := by
  have hbv := hm.bv
  have hbc := hm.bc
  have hbs := hm.bs
  have x0 : ∀ k, k < 8 → k ≠ 4 → k ≠ 5 → r' k = r k := fun k a b d => hr k (by omega) b d (by omega) (by omega) (by omega) (by omega) (by omega) (by omega) (by omega) (by omega)
  have eV : ∀ u, u < 8 → ∀ k, k < 8 → (u = v → k ≠ 4 ∧ k ≠ 5) → vaF r' u k = vaF r u k := fun u hu k hk hn => hr _ (by omega) (by omega) (by omega) (by omega) (by omega) (by omega) (by omega) (by omega) (by omega) (by omega) (by omega)
  have eC : ∀ d, d < 8 → ∀ k, k < 6 → (d = c → k ≠ 1 ∧ k ≠ 2 ∧ k ≠ 3) → cuF r' d k = cuF r d k := fun u hu k hk hn => hr _ (by omega) (by omega) (by omega) (by omega) (by omega) (by omega) (by omega) (by omega) (by omega) (by omega) (by omega)
  have eS : ∀ j, j < 30 → ∀ k, k < 9 → (j = i → k ≠ 6 ∧ k ≠ 7 ∧ k ≠ 8) → shF r' j k = shF r j k := fun u hu k hk hn => hr _ (by omega) (by omega) (by omega) (by omega) (by omega) (by omega) (by omega) (by omega) (by omega) (by omega) (by omega)
  have eL : ∀ j, j < 30 → j ≠ i → lft r' j = lft r j := fun j hj hne => by
    unfold lft
    rw [eS j hj 6 (by decide) (fun e => absurd e hne), eS j hj 4 (by decide) (fun e => absurd e hne), eS j hj 3 (by decide) (fun e => absurd e hne), eS j hj 7 (by decide) (fun e => absurd e hne)]
  have eI0 : shF r' i 0 = nI c := (eS i (by omega) 0 (by decide) (fun _ => by decide)).trans h0
  have eI1 : shF r' i 1 = nI v := (eS i (by omega) 1 (by decide) (fun _ => by decide)).trans h1
  have eI4 : shF r' i 4 = shF r i 4 := eS i (by omega) 4 (by decide) (fun _ => by decide)
  have hns : nsum ns (fun j => if j = i then b' else bk j) + bk i = nsum ns bk + b' := by
    have := nsum_upd (f := bk) (f' := fun j => if j = i then b' else bk j) hi (fun j _ hne => if_neg hne)
    rw [if_pos rfl] at this
    exact this
  refine RelN.mk hbv hbc hbs ((x0 0 (by decide) (by decide) (by decide)).trans hm.v0) ((x0 1 (by decide) (by decide) (by decide)).trans hm.c0) ((x0 2 (by decide) (by decide) (by decide)).trans hm.s0) ((m0 3 (by decide)).trans hm.v1) ((m0 4 (by decide)).trans hm.c1) ((m0 5 (by decide)).trans hm.s1) ?_ ?_ a8 a9 ?_ ?_ ?_ ?_ ?_ ?_ (fun u hu => ?_) (fun d hd => ?_) (fun j hj => ?_)
  · rw [m0 6 (by decide), x0 3 (by decide) (by decide) (by decide)]; exact hm.time
  · rw [m0 7 (by decide), x0 6 (by decide) (by decide) (by decide)]; exact hm.depth
  · rw [a10, hm.hold, isum_upd (f := lft r) (f' := lft r') hi (fun j hj hne => eL j (by omega) hne)]
  · rw [a11, hm.hear, isum_upd (f := fun j => bcI (shF r j 8)) (f' := fun j => bcI (shF r' j 8)) hi (fun j hj hne => by rw [eS j (by omega) 8 (by decide) (fun e => absurd e hne)])]
  · rw [a12, hm.lost, isum_upd (f := fun j => shF r j 7 - bcI (shF r j 8)) (f' := fun j => shF r' j 7 - bcI (shF r' j 8)) hi (fun j hj hne => by rw [eS j (by omega) 8 (by decide) (fun e => absurd e hne), eS j (by omega) 7 (by decide) (fun e => absurd e hne)])]
  · rw [x0 7 (by decide) (by decide) (by decide), ← hm.frst]
    refine isum_congr (fun d hd => ?_)
    by_cases e : d = c
    · subst e; exact mc 2 (by decide)
    · rw [mo (12 + d) (by omega) (by omega) (by omega) (by omega)]
  · rw [x0 3 (by decide) (by decide) (by decide)]; exact hm.tm
  · rw [x0 6 (by decide) (by decide) (by decide)]; exact hm.dp
  · have h := hm.vs u hu
    have f1 : ∀ k, k ≤ 4 → M'.1 (4 + u) k = M.1 (4 + u) k := fun k hk => by
      by_cases e : u = v
      · subst e; exact mv k hk
      · rw [mo (4 + u) (by omega) (by omega) (by omega) (by omega)]
    have g1 : ∀ k, k < 8 → k ≠ 4 → k ≠ 5 → vaF r' u k = vaF r u k := fun k hk a b => eV u (by omega) k hk (fun _ => ⟨a, b⟩)
    have gsum : ∀ j, j < ns → j ≠ i → (if shF r' j 1 = nI u then shF r' j 4 * bcI (shF r' j 8) else 0) = (if shF r j 1 = nI u then shF r j 4 * bcI (shF r j 8) else 0) := fun j hj hne => by
      rw [eS j (by omega) 1 (by decide) (fun e => absurd e hne), eS j (by omega) 4 (by decide) (fun e => absurd e hne), eS j (by omega) 8 (by decide) (fun e => absurd e hne)]
    refine RelV.mk ?_ ?_ ?_ ?_ ?_ ?_ ?_ ?_ ?_ ?_ ?_ ?_ ?_
    · rw [f1 1 (by decide), g1 0 (by decide) (by decide) (by decide)]; exact h.e1
    · rw [f1 2 (by decide), g1 1 (by decide) (by decide) (by decide)]; exact h.e2
    · rw [f1 3 (by decide), g1 2 (by decide) (by decide) (by decide)]; exact h.e3
    · rw [f1 4 (by decide), g1 3 (by decide) (by decide) (by decide)]; exact h.e4
    · by_cases e : u = v
      · subst e; exact v5
      · rw [mo (4 + u) (by omega) (by omega) (by omega) (by omega), eV u (by omega) 4 (by decide) (fun z => absurd z e)]; exact h.e5
    · by_cases e : u = v
      · subst e; exact v7
      · rw [mo (4 + u) (by omega) (by omega) (by omega) (by omega), eV u (by omega) 5 (by decide) (fun z => absurd z e)]; exact h.e7
    · rw [isum_upd (f := fun j => if shF r j 1 = nI u then shF r j 4 * bcI (shF r j 8) else 0) (f' := fun j => if shF r' j 1 = nI u then shF r' j 4 * bcI (shF r' j 8) else 0) hi gsum, ← h.e6]
      by_cases e : u = v
      · subst e
        rw [if_pos eI1, if_pos h1, eI4]
        exact v6
      · rw [mo (4 + u) (by omega) (by omega) (by omega) (by omega), if_neg (by rw [eI1]; exact nI_ne (by omega) (by omega) (by omega)), if_neg (by rw [h1]; exact nI_ne (by omega) (by omega) (by omega)), Int32.sub_self, Int32.add_zero]
    · rw [m2, g1 6 (by decide) (by decide) (by decide), g1 7 (by decide) (by decide) (by decide)]; exact h.name
    · rw [g1 0 (by decide) (by decide) (by decide)]; exact h.width
    · rw [g1 1 (by decide) (by decide) (by decide)]; exact h.walls
    · rw [g1 2 (by decide) (by decide) (by decide)]; exact h.price
    · rw [g1 3 (by decide) (by decide) (by decide)]; exact h.fog
    · by_cases e : u = v
      · subst e
        obtain ⟨a, ha, ea⟩ := hrt
        exact ⟨a, by omega, ea⟩
      · obtain ⟨a, ha, ea⟩ := h.rating
        exact ⟨a, by omega, (eV u (by omega) 4 (by decide) (fun z => absurd z e)).trans ea⟩
  · have h := hm.cs d hd
    have f1 : ∀ k, k ≤ 2 → M'.1 (12 + d) k = M.1 (12 + d) k := fun k hk => by
      by_cases e : d = c
      · subst e; exact mc k hk
      · rw [mo (12 + d) (by omega) (by omega) (by omega) (by omega)]
    have g1 : ∀ k, k < 6 → k ≠ 1 → k ≠ 2 → k ≠ 3 → cuF r' d k = cuF r d k := fun k hk a b e => eC d (by omega) k hk (fun _ => ⟨a, b, e⟩)
    have gsum : ∀ j, j < ns → j ≠ i → (if shF r' j 0 = nI d then lft r' j else 0) = (if shF r j 0 = nI d then lft r j else 0) := fun j hj hne => by
      rw [eS j (by omega) 0 (by decide) (fun e => absurd e hne), eL j (by omega) hne]
    refine RelC.mk ?_ ?_ ?_ ?_ ?_ ?_ ?_
    · rw [f1 1 (by decide), g1 0 (by decide) (by decide) (by decide) (by decide)]; exact h.e1
    · by_cases e : d = c
      · subst e; exact c3
      · rw [mo (12 + d) (by omega) (by omega) (by omega) (by omega), eC d (by omega) 1 (by decide) (fun z => absurd z e)]; exact h.e3
    · by_cases e : d = c
      · subst e; exact c4
      · rw [mo (12 + d) (by omega) (by omega) (by omega) (by omega), eC d (by omega) 2 (by decide) (fun z => absurd z e)]; exact h.e4
    · by_cases e : d = c
      · subst e; exact c6
      · rw [mo (12 + d) (by omega) (by omega) (by omega) (by omega), eC d (by omega) 3 (by decide) (fun z => absurd z e)]; exact h.e6
    · rw [isum_upd (f := fun j => if shF r j 0 = nI d then lft r j else 0) (f' := fun j => if shF r' j 0 = nI d then lft r' j else 0) hi gsum, ← h.e5]
      by_cases e : d = c
      · subst e
        rw [if_pos eI0, if_pos h0]
        exact c5
      · rw [mo (12 + d) (by omega) (by omega) (by omega) (by omega), if_neg (by rw [eI0]; exact nI_ne (by omega) (by omega) (by omega)), if_neg (by rw [h0]; exact nI_ne (by omega) (by omega) (by omega)), Int32.sub_self, Int32.add_zero]
    · rw [m2, g1 4 (by decide) (by decide) (by decide) (by decide), g1 5 (by decide) (by decide) (by decide) (by decide)]; exact h.name
    · rw [g1 0 (by decide) (by decide) (by decide) (by decide)]; exact h.patience
  · have h := hm.ss j hj
    have f1 : ∀ k, k ≤ 7 → M'.1 (20 + j) k = M.1 (20 + j) k := fun k hk => by
      by_cases e : j = i
      · subst e; exact ms k hk
      · rw [mo (20 + j) (by omega) (by omega) (by omega) (by omega)]
    have g1 : ∀ k, k < 9 → k ≠ 6 → k ≠ 7 → k ≠ 8 → shF r' j k = shF r j k := fun k hk a b d => eS j (by omega) k hk (fun _ => ⟨a, b, d⟩)
    obtain ⟨c9, v9, lo, od, ea, so, st, mk, wd, pa, tm, h1', h2', l1, l2, o1, o2, b1, ea1, ea2, st1, mk1, so1, so2, q0, q1, q2, q3, q4, q5, q6, q7, q8, q9, q10, q11, q12, q13, q14, q15, q16, q17⟩ := h.rest
    have t0 : shF r' j 0 = nI c9 := (g1 0 (by decide) (by decide) (by decide) (by decide)).trans q0
    have t1 : shF r' j 1 = nI v9 := (g1 1 (by decide) (by decide) (by decide) (by decide)).trans q1
    have t2 : shF r' j 2 = nI lo := (g1 2 (by decide) (by decide) (by decide) (by decide)).trans q2
    have t3 : shF r' j 3 = nI od := (g1 3 (by decide) (by decide) (by decide) (by decide)).trans q3
    have t4 : shF r' j 4 = nI ea := (g1 4 (by decide) (by decide) (by decide) (by decide)).trans q4
    have t5 : shF r' j 5 = nI so := (g1 5 (by decide) (by decide) (by decide) (by decide)).trans q5
    have t8 : vaF r' v9 0 = nI wd := (eV v9 (by omega) 0 (by decide) (fun _ => by decide)).trans q8
    have t9 : M'.1 (20 + j) 5 = nI wd := (f1 5 (by decide)).trans q9
    have t10 : cuF r' c9 0 = nI pa := (eC c9 (by omega) 0 (by decide) (fun _ => by decide)).trans q10
    have t11 : M'.1 (20 + j) 7 = nI (so + pa) := (f1 7 (by decide)).trans q11
    have t12 : r' 3 = nI tm := (x0 3 (by decide) (by decide) (by decide)).trans q12
    have w0 : M'.1 (20 + j) 0 = shF r' j 0 := by rw [f1 0 (by decide), g1 0 (by decide) (by decide) (by decide) (by decide)]; exact h.e0
    have w1 : M'.1 (20 + j) 1 = shF r' j 1 := by rw [f1 1 (by decide), g1 1 (by decide) (by decide) (by decide) (by decide)]; exact h.e1
    have w2 : M'.1 (20 + j) 2 = shF r' j 2 := by rw [f1 2 (by decide), g1 2 (by decide) (by decide) (by decide) (by decide)]; exact h.e2
    have w3 : M'.1 (20 + j) 3 = shF r' j 3 := by rw [f1 3 (by decide), g1 3 (by decide) (by decide) (by decide) (by decide)]; exact h.e3
    have w4 : M'.1 (20 + j) 4 = shF r' j 4 := by rw [f1 4 (by decide), g1 4 (by decide) (by decide) (by decide) (by decide)]; exact h.e4
    have w6 : M'.1 (20 + j) 6 = shF r' j 5 := by rw [f1 6 (by decide), g1 5 (by decide) (by decide) (by decide) (by decide)]; exact h.e6
    by_cases e : j = i
    · subst e
      obtain ⟨st', mk', y1, y2, y3, y4, y5⟩ := hrest
      obtain ⟨y6, y7, y8⟩ := y5 od o2 q3
      rw [if_pos rfl]
      exact RelS2.mk w0 w1 w2 w3 w4 w6 s8 s9 s10 hb ⟨c9, v9, lo, od, ea, so, st', mk', wd, pa, tm, h1', h2', l1, l2, o1, o2, y6, ea1, ea2, y1, y2, so1, so2, t0, t1, t2, t3, t4, t5, y3, y4, t8, t9, t10, t11, t12, q13, y7, y8, q16, q17⟩
    · rw [if_neg e]
      have g2 : ∀ k, k < 9 → shF r' j k = shF r j k := fun k hk => eS j (by omega) k hk (fun z => absurd z e)
      have f2 : ∀ k, M'.1 (20 + j) k = M.1 (20 + j) k := fun k => by rw [mo (20 + j) (by omega) (by omega) (by omega) (by omega)]
      refine RelS2.mk w0 w1 w2 w3 w4 w6 ?_ ?_ ?_ ?_ ⟨c9, v9, lo, od, ea, so, st, mk, wd, pa, tm, h1', h2', l1, l2, o1, o2, b1, ea1, ea2, st1, mk1, so1, so2, t0, t1, t2, t3, t4, t5, (g2 6 (by decide)).trans q6, (g2 8 (by decide)).trans q7, t8, t9, t10, t11, t12, q13, q14, q15, q16, q17⟩
      · rw [f2, g2 6 (by decide)]; exact h.e8
      · rw [f2, g2 7 (by decide)]; exact h.e9
      · rw [f2, g2 8 (by decide)]; exact h.e10
      · rw [g2 7 (by decide)]; exact h.back
