set_option maxHeartbeats 400000
/-! THE LAW answers true on every script -/
theorem law_all {n N : Nat} {f : Nat → Int32} (hn : 2500 ≤ n) (hN : N ≤ 3000) : FQ_law n N f = some () := by
  obtain ⟨y, e2, hg, h2, nv, nc, ns, m, t, ⟨T, eT, ⟨u, hu⟩, hRT, ⟨b1, b2⟩, hb⟩, hm, ht⟩ := grown_ok (n := n) (N := N) (f := f) (by omega) hN
  have h256 := by_at hb
  obtain ⟨M, bk, hmm⟩ := hu.nums
  have hV2 : y.1.1 0 2 = nI ns := (hu.1.1.1 2 (by decide)).trans hmm.s0
  refine law_of hn hN (t0 := 200) hg (by omega) h256 (fun w1 g1 g2 g3 => ?_) (by decide)
  have hX : ∀ v0, v0 15 = w1 15 → ∃ vF, FX13_readText n v0 = some (nI ns, vF) ∧ (vF 15).1 0 0 = 0 ∧ RV y.1 vF nv nc ns t := fun v0 h0 => by
    have hTE : TE v0 (T ++ e2) := by
      unfold TE
      rw [h0, ← eT]
      exact g2
    exact text_ok (by omega) h2 hRT (by omega) (by rw [← eT]; omega) (by rw [← eT]; exact h256) hTE
  obtain ⟨w2, w9, a1, a2, a3, a4, a5, vA, a6, a7⟩ := read_cl hn g1 (q := nI ns) (fun v0 h0 => by
    obtain ⟨vF, x1, x2, x3⟩ := hX v0 h0
    exact ⟨vF, x1, x2⟩)
  obtain ⟨vF, x1, x2, x3⟩ := hX vA a6
  have e : vF = w9 := congrArg Prod.snd (Option.some.inj (x1.symm.trans a7))
  subst e
  obtain ⟨k1, k2, s, k3, k4⟩ := x3
  exact ⟨w2, vF, by rw [hV2]; exact a1, a2, a3, nv, nc, ns, s, a4, k1, a5, k3, by omega⟩
