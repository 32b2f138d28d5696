set_option maxHeartbeats 400000
/-- the text: the letters L -/
def TE (w : Wd) (L : List Nat) : Prop := (w 15).1 0 2 = nI L.length ∧ ∀ j, j < L.length → (w 15).1 1 j = nI (L.getD j 0)
theorem bx2_s {α β δ γ : Type} (a : β) (b : δ) (f : β → δ → Option γ) : bx2 (some (Except.ok (ε := α) (a, b))) f = f a b := rfl
theorem bx1_s {α β γ : Type} (a : β) (f : β → Option γ) : bx1 (some (Except.ok (ε := α) a)) f = f a := rfl
section FEEDS2
variable {n : Nat} {L : List Nat}
theorem fd_ok (hn : 1000 ≤ n) (hL : L.length ≤ 580) (h256 : ∀ j, j < L.length → L.getD j 0 < 256) : ∀ (m k : Nat) (w : Wd) (f : Nat → Int32) (got : Int32), L.length ≤ k + m → Good w → (w 15).1 0 2 = nI k → (∀ i, i < k → (w 15).1 1 i = nI (lcn L i)) → got = nI k → k ≤ 600 → ∃ k' w', fdO n L (m + 1) w k f got = some (nI k', w') ∧ L.length ≤ k' ∧ k' ≤ 600 ∧ Good w' ∧ (w' 15).1 0 2 = nI k' ∧ (∀ i, i < k' → (w' 15).1 1 i = nI (lcn L i)) ∧ row w' = row w := by
  intro m
  induction m with
  | zero =>
    intro k w f got h1 hG h2 h3 h4 h5
    refine ⟨k, w, ?_, by omega, h5, hG, h2, h3, rfl⟩
    simp only [fdO]
    rw [if_neg (by omega), h4]
  | succ m ih =>
    intro k w f got h1 hG h2 h3 h4 h5
    by_cases hk : k < L.length
    · obtain ⟨e0, e1, e2, e3, e4⟩ := fdI_at L k f
      obtain ⟨w', w9, x1, x2, x3, x4, x5, x6, x7, x8⟩ := st_feed hn hG h2 (by omega) (fdI L k 20 0 f 0) (fdI L k 20 0 f 1) (fdI L k 20 0 f 2) (fdI L k 20 0 f 3) (fdI L k 20 0 f 4)
      have hl : ∀ i, i < k + 20 → (w9 15).1 1 i = nI (lcn L i) := fun i hi => by
        by_cases z : i < k
        · rw [x7 i z]; exact h3 i z
        · obtain ⟨q, p, hq, hp, rfl⟩ : ∃ q p, q < 4 ∧ p < 5 ∧ i = k + 4 * p + q := ⟨(i - k) % 4, (i - k) / 4, by omega, by omega, by omega⟩
          obtain ⟨y0, y1, y2, y3, y4⟩ := x8 q hq
          rw [e0] at y0
          rw [e1] at y1
          rw [e2] at y2
          rw [e3] at y3
          rw [e4] at y4
          rcases (show p = 0 ∨ p = 1 ∨ p = 2 ∨ p = 3 ∨ p = 4 by omega) with rfl | rfl | rfl | rfl | rfl
          · refine y0.trans ?_
            exact congrArg nI (byt_at h256 (f 0) k hq)
          · refine y1.trans ?_
            exact congrArg nI (byt_at h256 (f 1) (k + 4) hq)
          · refine y2.trans ?_
            exact congrArg nI (byt_at h256 (f 2) (k + 8) hq)
          · refine y3.trans ?_
            exact congrArg nI (byt_at h256 (f 3) (k + 12) hq)
          · refine y4.trans ?_
            exact congrArg nI (byt_at h256 (f 4) (k + 16) hq)
      obtain ⟨k', w2, z1, z2, z3, z4, z5, z6, z7⟩ := ih (k + 20) w9 (fdI L k 20 0 f) (nI (k + 20)) (by omega) x4 x5 hl rfl (by omega)
      refine ⟨k', w2, ?_, z2, z3, z4, z5, z6, z7.trans x6⟩
      show (if k < L.length then bx2 (FX12_feed n w (fdI L k 20 0 f 0) (fdI L k 20 0 f 1) (fdI L k 20 0 f 2) (fdI L k 20 0 f 3) (fdI L k 20 0 f 4)) (fun g w2 => gh (FLc_0 n w (fdI L k 20 0 f 0) (fdI L k 20 0 f 1) (fdI L k 20 0 f 2) (fdI L k 20 0 f 3) (fdI L k 20 0 f 4)) w2 fun w3 => fdO n L (m + 1) w3 (k + 20) (fdI L k 20 0 f) g) else some (got, w)) = _
      rw [if_pos hk, x1, bx2_s, x2, gh_t x3]
      exact z1
    · refine ⟨k, w, ?_, by omega, h5, hG, h2, h3, rfl⟩
      show (if k < L.length then _ else some (got, w)) = _
      rw [if_neg hk, h4]
theorem feeds_ok (hn : 1000 ≤ n) (hL : L.length ≤ 580) (h256 : ∀ j, j < L.length → L.getD j 0 < 256) {w : Wd} (hG : Good w) (h0 : (w 15).1 0 2 = 0) : ∃ w9, FQ_feeds n L w = some (true, w9) ∧ Good w9 ∧ TE w9 L ∧ row w9 = row w := by
  obtain ⟨m, rfl⟩ : ∃ m, n = m + 1 := ⟨n - 1, by omega⟩
  obtain ⟨k', w2, z1, z2, z3, z4, z5, z6, z7⟩ := fd_ok (n := m + 1) hn hL h256 m 0 w (fun _ => 0) 0 (by omega) hG (by rw [h0, nI_0]) (fun i hi => absurd hi (Nat.not_lt_zero i)) nI_0.symm (by omega)
  unfold FQ_feeds
  rw [z1, bo2_s]
  by_cases h9 : L.length = 0
  · rw [if_pos h9]
    obtain ⟨w', w9, t1, t2, t3, t4, t5, t6, t7⟩ := st_trunc (n := m + 1) z4 z5 (Nat.zero_le k') z3
    have hk : k' = 0 := by
      by_cases hz : k' = 0
      · exact hz
      · exfalso
        have e : fdO (m + 1) L (m + 1) w 0 (fun _ => 0) 0 = some (0, w) := by
          show (if 0 < L.length then _ else some ((0 : Int32), w)) = _
          rw [if_neg (by omega)]
        have e2 := congrArg Prod.fst (Option.some.inj (e.symm.trans z1))
        exact hz ((nI_eq (a := k') (b := 0) (by omega) (by decide)).mp (e2.symm.trans nI_0.symm))
    subst hk
    exact ⟨w2, rfl, z4, ⟨by rw [h9]; exact z5, fun j hj => absurd hj (by omega)⟩, z7⟩
  · rw [if_neg h9, if_neg (by rw [nI_ltI (by omega) (by omega)]; omega)]
    obtain ⟨w', w9, t1, t2, t3, t4, t5, t6, t7⟩ := st_trunc (n := m + 1) z4 z5 z2 z3
    rw [t1, bx2_s, t2, gh_t t3]
    refine ⟨w9, by rw [decide_eq_true rfl], t4, ⟨t5, fun j hj => ?_⟩, t6.trans z7⟩
    rw [t7, z6 j (by omega)]
    unfold lcn
    rw [if_pos hj]
end FEEDS2
/-- the whole text as a name -/
theorem name_at {n : Nat} (hn : 100 ≤ n) {w : Wd} (h : Good w) {a v : Nat} (ha : 1 ≤ a ∧ a ≤ 26) (hv : v < 8) (hT : TE w [96 + a, 97 + v]) : FX9_wholeName n w = some (v8 (some [a, v + 1])) ∧ FX13_bufferName n w = some (v5 (some [a, v + 1])) := by
  obtain ⟨f, h1, h2, h3, h4⟩ := h.t.bytes
  have ef : f = 2 := (nI_eq (by omega) (by decide)).mp (h3.symm.trans hT.1)
  subst ef
  have b0 : bufb w 0 = 96 + a := by
    unfold bufb
    rw [hT.2 0 (by show 0 < 2; decide)]
    exact nI_c (a := 96 + a) (by omega)
  have b1 : bufb w 1 = 97 + v := by
    unfold bufb
    rw [hT.2 1 (by show 1 < 2; decide)]
    exact nI_c (a := 97 + v) (by omega)
  have eo : nmO (bufb w) 0 2 = some [a, v + 1] := by
    unfold nmO
    have hl : ∀ k, k < 2 → isL (bufb w (0 + k)) := fun k hk => by
      rcases (show k = 0 ∨ k = 1 by omega) with rfl | rfl
      · rw [Nat.zero_add, b0]; unfold isL; omega
      · rw [Nat.zero_add, b1]; unfold isL; omega
    rw [if_pos ⟨by decide, by decide, hl⟩]
    simp only [seg, Nat.zero_add, b0, b1, List.nil_append]
    rw [show 96 + a - 96 = a by omega, show 97 + v - 96 = v + 1 by omega]
    rfl
  rw [← eo]
  refine ⟨?_, rBufName hn h1 h3 (fun k hk => ⟨(h4 k hk).1, (h4 k hk).2.1⟩)⟩
  have e := cNameIn (n := n) hn (w := w) (b := bufb w) (s := 0) (m := 2) (by omega) (fun k hk => by rw [Nat.zero_add]; exact ⟨(h4 k hk).1, (h4 k hk).2.2⟩)
  rw [Nat.zero_add, nI_0] at e
  unfold FX9_wholeName
  rw [h2, e, bo1_s]
