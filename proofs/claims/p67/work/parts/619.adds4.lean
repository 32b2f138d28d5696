set_option maxHeartbeats 400000
/-! ADDS: a new valley, a new customer, or a second -/
theorem text_0 {w : Wd} (h : Good w) (h0 : (w 10).1 0 6 = 0) : (w 15).1 0 2 = 0 := by
  obtain ⟨f, -, l1, l2, -⟩ := h.t.len
  rw [l2, ← l1, h0]
theorem l256 {a v : Nat} (ha : a ≤ 26) (hv : v < 8) : ∀ j, j < [96 + a, 97 + v].length → [96 + a, 97 + v].getD j 0 < 256 := fun j hj => by
  have hj2 : j < 2 := hj
  rcases (show j = 0 ∨ j = 1 by omega) with rfl | rfl
  · show 96 + a < 256; omega
  · show 97 + v < 256; omega
section ADDS4
variable {n : Nat} {z : Wd × MM} {t : Nat}
theorem addC_ok (hn : 2500 ≤ n) (h : AI z t) (hl : t + 1 ≤ 9999) {p : Nat} (hp : p < 2 ^ 31) : ∃ z2, FQ_adds_B111 n z (nI p) = some (true, z2) ∧ AI z2 (t + 1) := by
  unfold FQ_adds_B111
  by_cases z8 : z.2.1 0 1 = 8
  · rw [if_pos z8]
    exact pa_ok hn h (s := 1) (by decide) (by decide) hl
  · rw [if_neg z8]
    obtain ⟨nv, nc, ns, s, h1, h2, h3, h4, h5⟩ := h
    obtain ⟨bk, hm⟩ := tw_nums h1 h2
    have hbc := hm.bc
    have e01 : z.2.1 0 1 = nI nc := (h2.1.1 1 (by decide)).trans hm.c0
    have hnc : nc < 8 := by
      by_cases y : nc = 8
      · exfalso; apply z8; rw [e01, y]; rfl
      · omega
    obtain ⟨w9, f1, f2, f3, f4⟩ := feeds_ok (n := n) (L := [96 + 3, 97 + nc]) (by omega) (by show 2 ≤ 580; decide) (l256 (by decide) hnc) h1 (text_0 h1 h3)
    obtain ⟨o2, o3⟩ := name_at (n := n) (by omega) f2 (a := 3) (by decide) hnc f3
    have a1 : (1 : Int32) + (nI p - nI p / 90 * 90) = nI (1 + p % 90) := by
      rw [show nI p - nI p / 90 * 90 = nI (p % 90) from nI_mod (b := 90) hp (by decide)]
      exact nI_add 1 _
    have a2 : (nI p / 90) - (nI p / 90) / 300 * 300 = nI (p / 90 % 300) := by
      rw [show nI p / 90 = nI (p / 90) from nI_div (b := 90) hp (by decide)]
      exact nI_mod (b := 300) (by omega) (by decide)
    obtain ⟨w', w8, V', g1, g2, g3, g4, g5, g6, g7⟩ := st_addC hn f2 (h2.row f4) hnc o2 o3 (pa := 1 + p % 90) (mo := p / 90 % 300) (by omega) (by omega) (by omega)
    refine ⟨(w8, V'), ?_, nv, nc + 1, ns, s, g4.1, g6, g4.2, by rw [g7, f4]; exact h4, by omega⟩
    replace f1 : FQ_feeds n [99, 97 + nc] z.1 = some (true, w9) := f1
    rw [e01, gd_t (inI (by omega) (by omega)), nI_c (by omega), f1, bo2_s, bnd_s, if_pos rfl, a1, a2, g1, bx2_s, g2, gh_t g3, bnd_s, g5, bo2_s, bnd_s, if_pos rfl]
theorem adds_ok (hn : 2500 ≤ n) (h : AI z t) (hl : t + 1 ≤ 9999) {p : Nat} (hp : p < 2 ^ 31) : ∃ z2, FQ_adds n z (nI p) = some (true, z2) ∧ AI z2 (t + 1) := by
  unfold FQ_adds
  by_cases zp : nI p - nI p / 2 * 2 = 0
  · rw [if_pos zp]
    by_cases z8 : 8 ≤ z.2.1 0 0
    · rw [if_pos z8]
      exact addC_ok hn h hl hp
    · rw [if_neg z8]
      obtain ⟨nv, nc, ns, s, h1, h2, h3, h4, h5⟩ := h
      obtain ⟨bk, hm⟩ := tw_nums h1 h2
      have hbv := hm.bv
      have e00 : z.2.1 0 0 = nI nv := (h2.1.1 0 (by decide)).trans hm.v0
      have hnv : nv < 8 := by
        by_cases y : nv = 8
        · exfalso; apply z8; rw [e00, y]; decide
        · omega
      obtain ⟨w9, f1, f2, f3, f4⟩ := feeds_ok (n := n) (L := [96 + 22, 97 + nv]) (by omega) (by show 2 ≤ 580; decide) (l256 (by decide) hnv) h1 (text_0 h1 h3)
      obtain ⟨o2, o3⟩ := name_at (n := n) (by omega) f2 (a := 22) (by decide) hnv f3
      have a1 : (1 : Int32) + (nI p - nI p / 20 * 20) = nI (1 + p % 20) := by
        rw [show nI p - nI p / 20 * 20 = nI (p % 20) from nI_mod (b := 20) hp (by decide)]
        exact nI_add 1 _
      have a2 : (1 : Int32) + ((nI p / 20) - (nI p / 20) / 4 * 4) = nI (1 + p / 20 % 4) := by
        rw [show nI p / 20 = nI (p / 20) from nI_div (b := 20) hp (by decide), show nI (p / 20) - nI (p / 20) / 4 * 4 = nI (p / 20 % 4) from nI_mod (b := 4) (by omega) (by decide)]
        exact nI_add 1 _
      have a3 : (1 : Int32) + ((nI p / 80) - (nI p / 80) / 9 * 9) = nI (1 + p / 80 % 9) := by
        rw [show nI p / 80 = nI (p / 80) from nI_div (b := 80) hp (by decide), show nI (p / 80) - nI (p / 80) / 9 * 9 = nI (p / 80 % 9) from nI_mod (b := 9) (by omega) (by decide)]
        exact nI_add 1 _
      obtain ⟨w', w8, V', g1, g2, g3, g4, g5, g6, g7⟩ := st_addV hn f2 (h2.row f4) hnv o2 o3 (wd := 1 + p % 20) (wl := 1 + p / 20 % 4) (pr := 1 + p / 80 % 9) (by omega) (by omega) (by omega) (by omega) (by omega) (by omega)
      refine ⟨(w8, V'), ?_, nv + 1, nc, ns, s, g4.1, g6, g4.2, by rw [g7, f4]; exact h4, by omega⟩
      replace f1 : FQ_feeds n [118, 97 + nv] z.1 = some (true, w9) := f1
      rw [e00, gd_t (inI (by omega) (by omega)), nI_c (by omega), f1, bo2_s, bnd_s, if_pos rfl, a1, a2, a3, g1, bx2_s, g2, gh_t g3, bnd_s, g5, bo2_s, bnd_s, if_pos rfl]
  · rw [if_neg zp]
    exact addC_ok hn h hl hp
end ADDS4
