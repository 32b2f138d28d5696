set_option maxHeartbeats 400000
/-! ANY ACT -/
section ACTS2
variable {n : Nat} {z : Wd × MM} {t : Nat}
theorem openOne_ok (hn : 100 ≤ n) {nv nc ns : Nat} {r : Nat → Int32} (hW : WR z.2 r nv nc ns) (hs : r 2 = nI ns) (hb : ns ≤ 30) {a : Nat} (ha : a < 2 ^ 30) : ∃ x, FQ_openOne n z (nI a) = some x ∧ (x = -1 ∨ ∃ j, j < ns ∧ x = nI j ∧ shF r j 6 = 0) := by
  have e2 : z.2.1 0 2 = nI ns := (hW.1 2 (by decide)).trans hs
  have H : ∀ d i k, i + d = ns → d < k → ∃ x, FQ_openOne_L2 n k z (nI a) (nI i) = some x ∧ (x = -1 ∨ ∃ j, j < ns ∧ x = nI j ∧ shF r j 6 = 0) := by
    intro d
    induction d with
    | zero =>
      intro i k hi hk
      obtain ⟨k, rfl⟩ : ∃ k', k = k' + 1 := ⟨k - 1, by omega⟩
      have e : i = ns := by omega
      subst e
      refine ⟨-1, ?_, Or.inl rfl⟩
      simp only [FQ_openOne_L2]
      rw [e2, if_pos (Int32.le_refl _)]
    | succ d ih =>
      intro i k hi hk
      obtain ⟨k, rfl⟩ : ∃ k', k = k' + 1 := ⟨k - 1, by omega⟩
      have hm : (nI a + nI i) - (nI a + nI i) / nI ns * nI ns = nI ((a + i) % ns) := by
        rw [nI_add]
        exact nI_mod (by omega) (by omega)
      have hlt : (a + i) % ns < ns := Nat.mod_lt _ (by omega)
      have hne : (!decide (nI ns = 0)) = true := by
        rw [decide_eq_false (show ¬ nI ns = 0 from nI_ne (a := ns) (b := 0) (by omega) (by omega) (by decide))]; rfl
      by_cases y : shF r ((a + i) % ns) 6 = 0
      · refine ⟨_, ?_, Or.inr ⟨(a + i) % ns, hlt, rfl, y⟩⟩
        simp only [FQ_openOne_L2]
        rw [e2, if_neg (le_nI (i := i) (by omega) (by omega)), gd_t hne, hm, gd_t (inI (by omega) (by omega)), nI_c (by omega), hW.2.2.2 _ hlt 6 (by decide), if_pos y, gd_t hne]
      · obtain ⟨x, x1, x2⟩ := ih (i + 1) k (by omega) (by omega)
        refine ⟨x, ?_, x2⟩
        simp only [FQ_openOne_L2]
        rw [e2, if_neg (le_nI (i := i) (by omega) (by omega)), gd_t hne, hm, gd_t (inI (by omega) (by omega)), nI_c (by omega), hW.2.2.2 _ hlt 6 (by decide), if_neg y, nI_1]
        exact x1
  obtain ⟨x, x1, x2⟩ := H ns 0 n (by omega) (by omega)
  exact ⟨x, x1, x2⟩
theorem b314_ok (hn : 2500 ≤ n) {N : Nat} {f : Nat → Int32} (h : AI z t) (hl : t + 25 ≤ 9999) (l4 : Int32) {q v : Nat} (hq : q < 2 ^ 30) (hv : nI v < z.2.1 0 0) (hv8 : v < 8) : ∃ z2, FQ_acts_B314 n N f z l4 (nI q) (nI v) = some (true, z2) ∧ AI z2 (t + 25) := by
  have h0 := h
  obtain ⟨nv, nc, ns, s, h1, h2, h3, h4, h5⟩ := h
  obtain ⟨bk, hm⟩ := tw_nums h1 h2
  have hbv := hm.bv
  have e00 : z.2.1 0 0 = nI nv := (h2.1.1 0 (by decide)).trans hm.v0
  have hvn : v < nv := by
    rw [e00] at hv
    exact (nI_ltI (by omega) (by omega)).mp hv
  have d1 : nI q / 100 = nI (q / 100) := nI_div (b := 100) (by omega) (by decide)
  have hq1 : q / 100 < 2 ^ 31 := by omega
  unfold FQ_acts_B314
  by_cases z1 : l4 = 21
  · have a1 : (nI q / 100) - (nI q / 100) / 10 * 10 = nI (q / 100 % 10) := by rw [d1]; exact nI_mod (b := 10) hq1 (by decide)
    obtain ⟨w', w9, g1, g2, g3, g4, g5, g6⟩ := st_fog hn h1 h2 hvn (a := q / 100 % 10) (by omega)
    refine ⟨(w9, sI z.2 (2 + v) 3 (nI (q / 100 % 10))), ?_, nv, nc, ns, s, g4.1, g5, (congrArg (fun M : MM => M.1 0 6) g4.2).trans h3, g6.trans h4, by omega⟩
    rw [if_pos z1, gd_t (inI (by omega) (by omega)), gd_t (inI (by omega) (by omega)), nI_c (by omega), a1, bnd_s, g1, bx2_s, g2, gh_t g3, bnd_s, if_pos rfl]
  · rw [if_neg z1]
    by_cases z2 : l4 = 22
    · have a1 : (1 : Int32) + ((nI q / 100) - (nI q / 100) / 30 * 30) = nI (1 + q / 100 % 30) := by
        rw [d1, show nI (q / 100) - nI (q / 100) / 30 * 30 = nI (q / 100 % 30) from nI_mod (b := 30) hq1 (by decide)]
        exact nI_add 1 _
      obtain ⟨w', w9, g1, g2, g3, g4, g5, g6⟩ := st_price hn h1 h2 hvn (a := 1 + q / 100 % 30) (by omega) (by omega)
      refine ⟨(w9, sI z.2 (2 + v) 2 (nI (1 + q / 100 % 30))), ?_, nv, nc, ns, s, g4.1, g5, (congrArg (fun M : MM => M.1 0 6) g4.2).trans h3, g6.trans h4, by omega⟩
      rw [if_pos z2, gd_t (inI (by omega) (by omega)), gd_t (inI (by omega) (by omega)), nI_c (by omega), a1, bnd_s, g1, bx2_s, g2, gh_t g3, bnd_s, if_pos rfl]
    · rw [if_neg z2]
      by_cases z3 : l4 = 23
      · have a1 : (nI q / 100) - (nI q / 100) / 4 * 4 = nI (q / 100 % 4) := by rw [d1]; exact nI_mod (b := 4) hq1 (by decide)
        obtain ⟨w', w9, g1, g2, g3, g4, g5, g6⟩ := st_well hn h1 h2 (a := q / 100 % 4) (by omega)
        refine ⟨(w9, sI z.2 0 6 (nI (q / 100 % 4))), ?_, nv, nc, ns, s, g4.1, g5, (congrArg (fun M : MM => M.1 0 6) g4.2).trans h3, g6.trans h4, by omega⟩
        rw [if_pos z3, a1, bnd_s, g1, bx2_s, g2, gh_t g3, bnd_s, if_pos rfl]
      · rw [if_neg z3]
        have a1 : (1 : Int32) + (nI q - nI q / 4 * 4) = nI (1 + q % 4) := by
          rw [show nI q - nI q / 4 * 4 = nI (q % 4) from nI_mod (b := 4) (by omega) (by decide)]
          exact nI_add 1 _
        rw [a1]
        obtain ⟨z2, y1, y2⟩ := pa_ok hn h0 (s := 1 + q % 4) (by omega) (by omega) (by omega)
        exact ⟨z2, y1, y2.le (by omega)⟩
theorem b281_ok (hn : 2500 ≤ n) {N : Nat} {f : Nat → Int32} (h : AI z t) (hl : t + 25 ≤ 9999) (l4 : Int32) {q v : Nat} (hq : q < 2 ^ 30) (hv : nI v < z.2.1 0 0) (hv8 : v < 8) {x : Int32} (hx : ∀ nv nc ns, TW z.2 z.1 nv nc ns → Good z.1 → (x = -1 ∨ ∃ j, j < ns ∧ x = nI j ∧ shF (row z.1) j 6 = 0)) : ∃ z2, FQ_acts_B281 n N f z l4 (nI q) (nI v) x = some (true, z2) ∧ AI z2 (t + 25) := by
  unfold FQ_acts_B281
  by_cases z1 : l4 = 20
  · rw [if_pos z1]
    by_cases z2 : x < 0
    · rw [if_pos z2]
      exact b314_ok hn h hl l4 hq hv hv8
    · rw [if_neg z2]
      obtain ⟨nv, nc, ns, s, h1, h2, h3, h4, h5⟩ := h
      rcases hx nv nc ns h2 h1 with e | ⟨j, hj, rfl, ho⟩
      · subst e; exact absurd (by decide) z2
      · obtain ⟨z2, y1, y2⟩ := can_ok (t := t) hn h1 h2 h3 h4 h5 hj ho
        exact ⟨z2, y1, y2.le (by omega)⟩
  · rw [if_neg z1]
    exact b314_ok hn h hl l4 hq hv hv8
theorem b45_ok (hn : 2500 ≤ n) {N : Nat} {f : Nat → Int32} (h : AI z t) (hl : t + 25 ≤ 9999) {q : Nat} (hq : q < 2 ^ 29) : ∃ z2, FQ_acts_B45 n N f z (nI q) = some (true, z2) ∧ AI z2 (t + 25) := by
  have e1 : (2 : Int32) * nI q = nI (2 * q) := nI_mul 2 q
  have e2 : (2 : Int32) * nI q + 1 = nI (2 * q + 1) := by rw [e1]; exact nI_add _ 1
  unfold FQ_acts_B45
  by_cases z1 : z.2.1 0 0 = 0
  · rw [if_pos z1, e1]
    obtain ⟨z2, y1, y2⟩ := adds_ok hn h (by omega) (p := 2 * q) (by omega)
    exact ⟨z2, by rw [y1, bo2_s], y2.le (by omega)⟩
  · rw [if_neg z1]
    by_cases z2 : z.2.1 0 1 = 0
    · rw [if_pos z2, e2]
      obtain ⟨z2, y1, y2⟩ := adds_ok hn h (by omega) (p := 2 * q + 1) (by omega)
      exact ⟨z2, by rw [y1, bo2_s], y2.le (by omega)⟩
    · rw [if_neg z2]
      obtain ⟨z2, y1, y2⟩ := adds_ok hn h (by omega) (p := q) (by omega)
      exact ⟨z2, by rw [y1, bo2_s], y2.le (by omega)⟩
theorem acts_ok (hn : 2500 ≤ n) {N : Nat} (hN : N ≤ 3000) (f : Nat → Int32) (h : AI z t) (hl : t + 25 ≤ 9999) {i : Nat} (hi : i < 40) : ∃ z2, FQ_acts n N f z (nI i) = some (true, z2) ∧ AI z2 (t + 25) := by
  obtain ⟨q2, p2, -, -⟩ := pick_ok N hN f (p := 300 + i) (m := 26) (by omega) (by decide) (by decide)
  obtain ⟨q, p4, hq, -⟩ := pick_ok N hN f (p := 360 + i) (m := 1000000) (by omega) (by decide) (by decide)
  have k2 : FQ_pick N f (300 + nI i) 26 = some (nI q2) := by rw [show (300 : Int32) + nI i = nI (300 + i) from nI_add 300 i]; exact p2
  have k4 : FQ_pick N f (360 + nI i) 1000000 = some (nI q) := by rw [show (360 : Int32) + nI i = nI (360 + i) from nI_add 360 i]; exact p4
  unfold FQ_acts
  rw [k2, bo1_s, k4, bo1_s]
  by_cases z0 : z.2.1 0 0 = 0
  · rw [if_pos z0]; exact b45_ok hn h hl (by omega)
  rw [if_neg z0]
  by_cases z1 : z.2.1 0 1 = 0
  · rw [if_pos z1]; exact b45_ok hn h hl (by omega)
  rw [if_neg z1]
  by_cases z2 : nI q2 = 0
  · rw [if_pos z2]; exact b45_ok hn h hl (by omega)
  rw [if_neg z2]
  have h0 := h
  obtain ⟨nv, nc, ns, s, h1, h2, h3, h4, h5⟩ := h
  obtain ⟨bk, hm⟩ := tw_nums h1 h2
  have hbv := hm.bv
  have hbc := hm.bc
  have hbs := hm.bs
  have e00 : z.2.1 0 0 = nI nv := (h2.1.1 0 (by decide)).trans hm.v0
  have e01 : z.2.1 0 1 = nI nc := (h2.1.1 1 (by decide)).trans hm.c0
  have nv1 : 1 ≤ nv := by
    by_cases y : nv = 0
    · exfalso; apply z0; rw [e00, y]; rfl
    · omega
  have nc1 : 1 ≤ nc := by
    by_cases y : nc = 0
    · exfalso; apply z1; rw [e01, y]; rfl
    · omega
  have g0 : (!decide (z.2.1 0 0 = 0)) = true := by rw [decide_eq_false z0]; rfl
  have g1 : (!decide (z.2.1 0 1 = 0)) = true := by rw [decide_eq_false z1]; rfl
  have ec : nI q - nI q / z.2.1 0 1 * z.2.1 0 1 = nI (q % nc) := by rw [e01]; exact nI_mod (by omega) (by omega)
  have ev : nI q / 8 - nI q / 8 / z.2.1 0 0 * z.2.1 0 0 = nI (q / 8 % nv) := by
    rw [e00, show nI q / 8 = nI (q / 8) from nI_div (b := 8) (by omega) (by decide)]
    exact nI_mod (by omega) (by omega)
  have hvn : q / 8 % nv < nv := Nat.mod_lt _ (by omega)
  have hcn : q % nc < nc := Nat.mod_lt _ (by omega)
  have hv : nI (q / 8 % nv) < z.2.1 0 0 := by rw [e00]; exact nI_lt hvn (by omega)
  rw [gd_t g1, gd_t g0]
  by_cases y9 : 9 ≤ nI q2
  · rw [if_pos y9]
    by_cases y17 : 17 ≤ nI q2
    · rw [if_pos y17]
      obtain ⟨x, x1, x2⟩ := openOne_ok (n := n) (z := z) (by omega) h2.1 hm.s0 hbs (a := q) (by omega)
      have hx : ∀ nv' nc' ns', TW z.2 z.1 nv' nc' ns' → Good z.1 → (x = -1 ∨ ∃ j, j < ns' ∧ x = nI j ∧ shF (row z.1) j 6 = 0) := fun nv' nc' ns' g _ => by
        obtain ⟨bk', hm'⟩ := tw_nums h1 g
        have es : ns' = ns := (nI_eq (by have := hm'.bs; omega) (by omega)).mp (hm'.s0.symm.trans hm.s0)
        subst es
        exact x2
      rw [x1, bo1_s, ev]
      by_cases y20 : 20 ≤ nI q2
      · rw [if_pos y20]
        exact b281_ok hn h0 hl _ (by omega) hv (by omega) hx
      · rw [if_neg y20]
        by_cases yx : x < 0
        · rw [if_pos yx]
          exact b281_ok hn h0 hl _ (by omega) hv (by omega) hx
        · rw [if_neg yx]
          rcases x2 with e | ⟨j, hj, rfl, ho⟩
          · subst e; exact absurd (by decide) yx
          · obtain ⟨z2, y1, y2⟩ := fak_ok (t := t) hn h1 h2 h3 h4 h5 hj ho
            exact ⟨z2, y1, y2.le (by omega)⟩
    · rw [if_neg y17]
      have a1 : (1 : Int32) + (nI q - nI q / 25 * 25) = nI (1 + q % 25) := by
        rw [show nI q - nI q / 25 * 25 = nI (q % 25) from nI_mod (b := 25) (by omega) (by decide)]
        exact nI_add 1 _
      rw [a1]
      obtain ⟨z2, y1, y2⟩ := pa_ok hn h0 (s := 1 + q % 25) (by omega) (by omega) (by omega)
      exact ⟨z2, y1, y2.le (by omega)⟩
  · rw [if_neg y9]
    have eo : (1 : Int32) + (nI q / 64 - nI q / 64 / 4 * 4) = nI (1 + q / 64 % 4) := by
      rw [show nI q / 64 = nI (q / 64) from nI_div (b := 64) (by omega) (by decide), show nI (q / 64) - nI (q / 64) / 4 * 4 = nI (q / 64 % 4) from nI_mod (b := 4) (by omega) (by decide)]
      exact nI_add 1 _
    have el : (1 : Int32) + (nI q / 256 - nI q / 256 / 20 * 20) = nI (1 + q / 256 % 20) := by
      rw [show nI q / 256 = nI (q / 256) from nI_div (b := 256) (by omega) (by decide), show nI (q / 256) - nI (q / 256) / 20 * 20 = nI (q / 256 % 20) from nI_mod (b := 20) (by omega) (by decide)]
      exact nI_add 1 _
    rw [ec, ev, eo, el, refusal_ok (n := n) (by omega) h2.1 hm hcn hvn, bo1_s]
    by_cases hw : whyF (row z.1) ns (q % nc) (q / 8 % nv) (nI (1 + q / 64 % 4)) = 0
    · rw [if_pos hw]
      obtain ⟨z2, y1, y2⟩ := sho_ok (t := t) hn h1 h2 h3 h4 h5 hcn hvn (lo := 1 + q / 256 % 20) (od := 1 + q / 64 % 4) (by omega) (by omega) (by omega) (by omega) hw
      exact ⟨z2, y1, y2.le (by omega)⟩
    · rw [if_neg hw]
      obtain ⟨z2, y1, y2⟩ := pa_ok hn h0 (s := 1) (by decide) (by decide) (by omega)
      exact ⟨z2, y1, y2.le (by omega)⟩
/-- forty acts, and what must hold behind each -/
theorem lwA_ok (hn : 2500 ≤ n) {N : Nat} (hN : N ≤ 3000) (f : Nat → Int32) : ∀ (d i : Nat) (z : Wd × MM) (t : Nat), i + d ≤ 40 → AI z t → t + 25 * d ≤ 9999 → ∃ z2, lwA n N f d i z = some z2 ∧ AI z2 (t + 25 * d) := by
  intro d
  induction d with
  | zero =>
    intro i z t h1 h2 h3
    exact ⟨z, rfl, h2.le (by omega)⟩
  | succ d ih =>
    intro i z t h1 h2 h3
    obtain ⟨z2, y1, y2⟩ := acts_ok hn hN f h2 (by omega) (i := i) (by omega)
    obtain ⟨z3, y3, y4⟩ := ih (i + 1) z2 (t + 25) (by omega) y2 (by omega)
    obtain ⟨nv, nc, ns, s, k1, k2, k3, k4, k5⟩ := y2
    obtain ⟨bk, hm⟩ := tw_nums k1 k2
    refine ⟨z3, ?_, y4.le (by omega)⟩
    simp only [lwA]
    rw [y1, bo2_s, gd_t rfl, show FQ_holds n z2 = some true from holds_ok (by omega) hm (k2.2.1.ex k2.2.2.1 hm.bc), bo1_s, gd_t rfl]
    exact y3
end ACTS2
