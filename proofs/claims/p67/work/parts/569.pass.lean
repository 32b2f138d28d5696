set_option maxHeartbeats 400000
/-! pass: from event to event, second by second -/
theorem sI_sI (M : MM) (j k : Nat) (x y : Int32) : sI (sI M j k x) j k y = sI M j k y := by
  refine Prod.ext (funext fun a => ?_) rfl
  by_cases h : a = j
  · subst h
    funext b
    rw [sI_at, sI_at, sI_at]
    by_cases z : b = k
    · rw [if_pos z, if_pos z]
    · rw [if_neg z, if_neg z, if_neg z]
  · rw [sI_o _ _ _ h, sI_o _ _ _ h, sI_o _ _ _ h]
theorem cEventN {n : Nat} (hn : 100 ≤ n) {r : Nat → Int32} {M : MM} {nv nc ns : Nat} {bk : Nat → Nat} (hm : RelN M r nv nc ns bk) : FX6_secondOfNextEvent n M = some (foldI (evF r) ns (-1)) := by
  have hb := hm.bs
  unfold FX6_secondOfNextEvent
  refine loopF (L := fun k a i => FX6_secondOfNextEvent_L4 n k M a i) (g := some) (fun k a => ?_) (fun k a i hi => ?_) (by omega) (-1)
  · simp only [FX6_secondOfNextEvent_L4]
    rw [hm.s1, if_pos (Int32.le_refl _)]
  · obtain ⟨c, v, so, wd, pa, -, -, -, -, -, -, -, -, -, -, -, -, -, -, k2, -, k3, -⟩ := hm.due hi
    have ho : FX8_isOpen M (20 + i) = decide (shF r i 6 = 0) := by
      unfold FX8_isOpen
      rw [(hm.ss i hi).e8]
      by_cases z : shF r i 6 = 0
      · rw [if_pos z, decide_eq_true z]
      · rw [if_neg z, decide_eq_false z]
    simp only [FX6_secondOfNextEvent_L4]
    rw [hm.s1, if_neg (le_nI hi (by omega)), gd_t (inI (by omega) (by omega)), nI_c (by omega), nI_1, cRetN hm hi, bnd_s, ho, bnd_s, k3, ← k2, mn_e]
    unfold evF
    rw [show (if endI r i ≤ retI r i then endI r i else retI r i) = evI r i from rfl]
    by_cases z : decide (shF r i 6 = 0) = true
    · rw [if_pos z, if_pos z]
      by_cases z1 : a = -1
      · rw [if_pos z1, if_pos z1]
      · rw [if_neg z1, if_neg z1]
        by_cases z2 : a ≤ evI r i
        · rw [if_pos z2, if_pos z2]
        · rw [if_neg z2, if_neg z2]
    · rw [if_neg z, if_neg z]
theorem ev_ok {M : MM} {r : Nat → Int32} {nv nc ns : Nat} {bk : Nat → Nat} (hm : RelN M r nv nc ns bk) : ∀ m, m ≤ ns → (foldI (evF r) m (-1) = -1 ∧ ∀ j, j < m → ¬ shF r j 6 = 0) ∨ ∃ e, foldI (evF r) m (-1) = nI e ∧ e ≤ 12000 ∧ (∀ j, j < m → shF r j 6 = 0 → e ≤ sec r j (bk j) ∧ e ≤ ends r j) ∧ ∃ j, j < m ∧ shF r j 6 = 0 ∧ (e = sec r j (bk j) ∨ e = ends r j) := by
  intro m
  induction m with
  | zero => exact fun _ => Or.inl ⟨rfl, fun j hj => absurd hj (Nat.not_lt_zero j)⟩
  | succ m ih =>
    intro hm2
    obtain ⟨z1, z2, z3, z4, -, -⟩ := hm.secs (j := m) (by omega)
    have ev : ∃ q, evI r m = nI q ∧ q ≤ 12000 ∧ q ≤ sec r m (bk m) ∧ q ≤ ends r m ∧ (q = sec r m (bk m) ∨ q = ends r m) := by
      unfold evI
      rw [z1, z2]
      by_cases z : ends r m ≤ sec r m (bk m)
      · exact ⟨ends r m, if_pos (nI_le z (by omega)), by omega, z, Nat.le_refl _, Or.inr rfl⟩
      · exact ⟨sec r m (bk m), if_neg (by rw [nI_leI (by omega) (by omega)]; exact z), z3, Nat.le_refl _, by omega, Or.inl rfl⟩
    obtain ⟨q, eq, q1, q2, q3, q4⟩ := ev
    have ih' := ih (by omega)
    simp only [foldI]
    generalize foldI (evF r) m (-1) = g at ih' ⊢
    by_cases ho : shF r m 6 = 0
    · right
      unfold evF
      rw [if_pos (decide_eq_true ho), eq]
      rcases ih' with ⟨i1, i2⟩ | ⟨e, i1, i2, i3, j0, i4, i5, i6⟩
      · rw [i1, if_pos rfl]
        refine ⟨q, rfl, q1, fun j hj hoj => ?_, m, by omega, ho, q4⟩
        by_cases z : j = m
        · subst z; exact ⟨q2, q3⟩
        · exact absurd hoj (i2 j (by omega))
      · rw [i1, if_neg (fun z => nI_pos (n := e) (by omega) (by rw [z]; decide))]
        by_cases z : e ≤ q
        · rw [if_pos (nI_le z (by omega))]
          refine ⟨e, rfl, i2, fun j hj hoj => ?_, j0, by omega, i5, i6⟩
          by_cases z' : j = m
          · subst z'; exact ⟨by omega, by omega⟩
          · exact i3 j (by omega) hoj
        · rw [if_neg (by rw [nI_leI (by omega) (by omega)]; exact z)]
          refine ⟨q, rfl, q1, fun j hj hoj => ?_, m, by omega, ho, q4⟩
          by_cases z' : j = m
          · subst z'; exact ⟨q2, q3⟩
          · obtain ⟨x1, x2⟩ := i3 j (by omega) hoj
            exact ⟨by omega, by omega⟩
    · unfold evF
      rw [if_neg (by rw [decide_eq_false ho]; decide)]
      rcases ih' with ⟨i1, i2⟩ | ⟨e, i1, i2, i3, j0, i4, i5, i6⟩
      · left
        refine ⟨i1, fun j hj => ?_⟩
        by_cases z : j = m
        · subst z; exact ho
        · exact i2 j (by omega)
      · right
        refine ⟨e, i1, i2, fun j hj hoj => ?_, j0, by omega, i5, i6⟩
        by_cases z : j = m
        · subst z; exact absurd hoj ho
        · exact i3 j (by omega) hoj
theorem quiet {n : Nat} (hn : 100 ≤ n) {M : MM} {w : Wd} {nv nc ns T : Nat} {bk : Nat → Nat} (hm : RelN M (row w) nv nc ns bk) (et : row w 3 = nI T) (hq : ∀ j, j < ns → shF (row w) j 6 = 0 → ¬ retI (row w) j = nI T ∧ ¬ endI (row w) j = nI T) : FX13_returnsNow n w = some (0, w) ∧ FX13_losesPatience n w = some w := by
  have hbs := hm.bs
  have hbv := hm.bv
  have hbc := hm.bc
  constructor
  · unfold FX13_returnsNow
    obtain ⟨b, hb, e⟩ := loopQ (L := fun k (b : Int32 × Wd) i => FX13_returnsNow_L4 n k b.2 b.1 i) (g := some) (ns := ns) (k := n) (fun i b => b = (0, w)) (fun k b hb => by
      subst hb
      simp only [FX13_returnsNow_L4]
      rw [gd2, show (w 15).1 2 2 = nI ns from hm.s0, if_pos (Int32.le_refl _)]) (fun k b i hi hb => by
      subst hb
      refine ⟨_, rfl, ?_⟩
      obtain ⟨c, v, so, wd, pa, h1, h2, -, -, -, -, -, -, k0, k1, -⟩ := hm.due hi
      simp only [FX13_returnsNow_L4]
      rw [gd2, show (w 15).1 2 2 = nI ns from hm.s0, if_neg (le_nI hi (by omega)), rOpen hm.s0 hbs hi, bo1_s, nI_1, rRet (by omega) (show v < 8 by omega) k1, bo1_s, gd3, show (w 15).1 2 3 = nI T from et]
      by_cases z : shF (row w) i 6 = 0
      · rw [decide_eq_true z, if_pos rfl, if_neg (hq i hi z).1]
      · rw [decide_eq_false z, if_neg (by decide)]) (by omega) (0, w) rfl
    subst hb
    exact e
  · unfold FX13_losesPatience
    obtain ⟨b, hb, e⟩ := loopQ (L := fun k (b : Wd) i => FX13_losesPatience_L2 n k b i) (g := some) (ns := ns) (k := n) (fun i b => b = w) (fun k b hb => by
      subst hb
      simp only [FX13_losesPatience_L2]
      rw [gd2, show (b 15).1 2 2 = nI ns from hm.s0, if_pos (Int32.le_refl _)]) (fun k b i hi hb => by
      subst hb
      refine ⟨_, rfl, ?_⟩
      obtain ⟨c, v, so, wd, pa, h1, h2, -, -, -, -, -, -, k0, k1, -⟩ := hm.due hi
      simp only [FX13_losesPatience_L2]
      rw [gd2, show (b 15).1 2 2 = nI ns from hm.s0, if_neg (le_nI hi (by omega)), rOpen hm.s0 hbs hi, bo1_s, nI_1, rEnd (by omega) (show c < 8 by omega) k0, bo1_s, gd3, show (b 15).1 2 3 = nI T from et]
      by_cases z : shF (row b) i 6 = 0
      · rw [decide_eq_true z, if_pos rfl, if_neg (hq i hi z).2]
      · rw [decide_eq_false z, if_neg (by decide)]) (by omega) w rfl
    subst hb
    exact e
/-- the row but for its clock -/
theorem ret_clock {r r' : Nat → Int32} (hr : ∀ k, k ≠ 3 → r' k = r k) (j : Nat) : retI r' j = retI r j ∧ endI r' j = endI r j := by
  have hS : ∀ k, shF r' j k = shF r j k := fun k => hr _ (by omega)
  constructor
  · unfold retI
    rw [hS 5, hS 1, hS 7, show ∀ v, vaF r' v 0 = vaF r v 0 from fun v => hr _ (by omega)]
  · unfold endI
    rw [hS 5, hS 0, show ∀ v, cuF r' v 0 = cuF r v 0 from fun v => hr _ (by omega)]
theorem TmOk.clock {r r' : Nat → Int32} {ns t : Nat} (h : TmOk r ns t) (hr : ∀ k, k ≠ 3 → r' k = r k) : TmOk r' ns t := fun j hj hoj => by
  rw [(ret_clock hr j).1, (ret_clock hr j).2]
  exact h j hj ((hr _ (by omega)).symm.trans hoj)
theorem TmOk.mono {M : MM} {r : Nat → Int32} {nv nc ns t t' : Nat} {bk : Nat → Nat} (hm : RelN M r nv nc ns bk) (h : TmOk r ns t') (ht : t ≤ t') (ht' : t' ≤ 12000) : TmOk r ns t := fun j hj hoj => by
  obtain ⟨z1, z2, z3, z4, -, -⟩ := hm.secs hj
  obtain ⟨h1, h2⟩ := h j hj hoj
  rw [z1] at h1 ⊢
  rw [z2] at h2 ⊢
  have h3 := (nI_ltI (by omega) (by omega)).mp h1
  have h4 := (nI_ltI (by omega) (by omega)).mp h2
  exact ⟨nI_lt (by omega) (by omega), nI_lt (by omega) (by omega)⟩
/-- seconds in which nothing is due -/
theorem idle_run {n : Nat} (hn : 100 ≤ n) {nv nc ns secs : Nat} (hsecs : secs ≤ 3000) : ∀ (d : Nat) {M : MM} {w : Wd} {t j : Nat} {bk : Nat → Nat} (cnt : Int32), RelN M (row w) nv nc ns bk → row w 3 = nI t → TmOk (row w) ns (t + d) → t + d ≤ 10300 → j + d ≤ secs → ∃ w', (∀ k, FX13_passes_L4 n (k + d) w (nI secs) cnt (nI j) = FX13_passes_L4 n k w' (nI secs) cnt (nI (j + d))) ∧ Fr w w' ∧ (∀ k, k ≠ 3 → row w' k = row w k) ∧ row w' 3 = nI (t + d) := by
  intro d
  induction d with
  | zero => intro M w t j bk cnt hm et hT ht hj; exact ⟨w, fun _ => rfl, Fr.refl w, fun _ _ => rfl, et⟩
  | succ d ih =>
    intro M w t j bk cnt hm et hT ht hj
    have hr : ∀ k, k ≠ 3 → row (rs w 3 (nI (t + 1))) k = row w k := fun k hk => rs_ne _ _ hk
    have hr3 : row (rs w 3 (nI (t + 1))) 3 = nI (t + 1) := by rw [rs_row, if_pos rfl]
    have hN := hm.clock et (Nat.le_succ t) (by omega) hr hr3
    have hT1 : TmOk (row (rs w 3 (nI (t + 1)))) ns (t + (d + 1)) := hT.clock hr
    obtain ⟨q1, q2⟩ := quiet hn hN hr3 (fun j hj hoj => by
      obtain ⟨z1, z2, z3, z4, -, -⟩ := hN.secs hj
      obtain ⟨h1, h2⟩ := hT1 j hj hoj
      rw [z1] at h1 ⊢
      rw [z2] at h2 ⊢
      have h3 := (nI_ltI (by omega) (by omega)).mp h1
      have h4 := (nI_ltI (by omega) (by omega)).mp h2
      exact ⟨nI_ne (by omega) (by omega) (by omega), nI_ne (by omega) (by omega) (by omega)⟩)
    obtain ⟨w', e1, e2, e3, e4⟩ := ih (M := sI M 0 6 (nI (t + 1))) (w := rs w 3 (nI (t + 1))) (t := t + 1) (j := j + 1) (bk := bk) cnt hN hr3 (by rw [show t + 1 + d = t + (d + 1) by omega]; exact hT1) (by omega) (by omega)
    refine ⟨w', fun k => ?_, (Fr.of_rs _ _ _).trans e2, fun k hk => (e3 k hk).trans (hr k hk), by rw [e4, show t + 1 + d = t + (d + 1) by omega]⟩
    have ep : FX13_passesOne n w = some (0, rs w 3 (nI (t + 1))) := by
      unfold FX13_passesOne
      rw [gd3, gd3, show (w 15).1 2 3 = nI t from et, nI_1, rs_fold, bnd_s, q1, bo2_s, q2, bo1_s]
    rw [show k + (d + 1) = (k + d) + 1 by omega]
    simp only [FX13_passes_L4]
    rw [if_neg (le_nI (show j < secs by omega) hsecs), ep, bo2_s, nI_1, Int32.add_zero, e1 k, show j + 1 + d = j + (d + 1) by omega]
