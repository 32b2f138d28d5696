set_option maxHeartbeats 400000
/-! THE END of the law: ends foretold, events, ends, nothing held, no event -/
section LAST
variable {n : Nat} {z : Wd × MM}
theorem fin_fate {w : Wd} {r : Nat → Int32} {nv nc ns : Nat} {bk : Nat → Nat} (hm : RelM (w 1) r nv nc ns bk) {j : Nat} (hj : j < ns) : FX12_finalState w (nI j) = some (.ok (fate r j)) := by
  have hbv := hm.bv
  have hbc := hm.bc
  obtain ⟨c, v, h1, h2, q0, q1, e⟩ := o_finalState hm hj
  rw [e]
  unfold fate
  rw [q0, q1, nI_c (by omega), nI_c (by omega)]
theorem lwB_ok {r : Nat → Int32} {nv nc ns : Nat} {bk : Nat → Nat} (hm : RelM (z.1 1) r nv nc ns bk) (e2 : z.2.1 0 2 = nI ns) : ∀ (d i : Nat) (e : Nat → Int32), i ≤ ns → ns < i + d → (∀ j, j < i → e j = fate r j) → ∃ e9, lwB z d i e = some e9 ∧ ∀ j, j < ns → e9 j = fate r j := by
  have hbs := hm.bs
  intro d
  induction d with
  | zero => intro i e h1 h2; omega
  | succ d ih =>
    intro i e h1 h2 h3
    by_cases hi : i = ns
    · subst hi
      refine ⟨e, ?_, h3⟩
      simp only [lwB]
      rw [e2, if_pos (Int32.le_refl _)]
    · obtain ⟨e9, f1, f2⟩ := ih (i + 1) (upd e i (fate r i)) (by omega) (by omega) (fun j hj => by
        show (if j = i then fate r i else e j) = fate r j
        by_cases y : j = i
        · rw [if_pos y, y]
        · rw [if_neg y]; exact h3 j (by omega))
      refine ⟨e9, ?_, f2⟩
      simp only [lwB]
      rw [e2, if_neg (le_nI (show i < ns by omega) (by omega)), gd_t (inI (by omega) (by omega)), fin_fate hm (by omega), bx1_s]
      exact f1
theorem lwD_ok {w : Wd} {V : MM} {r : Nat → Int32} {nv nc ns : Nat} {bk : Nat → Nat} (hm : RelM (w 1) r nv nc ns bk) (e2 : V.1 0 2 = nI ns) {e : Nat → Int32} (he : ∀ j, j < ns → e j = shF r j 6) : ∀ (d i : Nat), i ≤ ns → ns < i + d → lwD (w, V) e d i = some () := by
  have hbs := hm.bs
  intro d
  induction d with
  | zero => intro i h1 h2; omega
  | succ d ih =>
    intro i h1 h2
    by_cases hi : i = ns
    · subst hi
      simp only [lwD]
      rw [e2, if_pos (Int32.le_refl _)]
    · simp only [lwD]
      rw [e2, if_neg (le_nI (show i < ns by omega) (by omega)), gd_t (inI (by omega) (by omega)), o_shoutState hm (by omega), bx1_s, gd_t (decide_eq_true (he i (by omega)).symm)]
      exact ih (i + 1) (by omega) (by omega)
theorem end_ok (hn : 2500 ≤ n) {t : Nat} (h : AI z t) (ht : t ≤ 9700) : (bo1 (FQ_alike n z) fun al => gd al <| bo1 (lwB z 31 0 (fun _ => 0)) fun e => bo1 (lwC n 200 0 z.1) fun w4 => bo1 (lwD (w4, z.2) e 31 0) fun _ => gd (decide (FX12_held w4 = 0)) <| bo1 (FX12_nextEvent n w4) fun nx => gd (decide (nx = -1)) <| some ()) = some () := by
  obtain ⟨nv, nc, ns, s, h1, h2, h3, h4, h5⟩ := h
  obtain ⟨bk, hm⟩ := tw_nums h1 h2
  have hbs := hm.bs
  have e2 : z.2.1 0 2 = nI ns := (h2.1.1 2 (by decide)).trans hm.s0
  have ea : FQ_alike n z = some true := alike_ok (by omega) hm h2.1 h2.2.2.2.1
  obtain ⟨e9, f1, f2⟩ := lwB_ok hm e2 31 0 (fun _ => 0) (Nat.zero_le _) (by omega) (fun j hj => absurd hj (Nat.not_lt_zero j))
  have hE : ∀ j, j < ns → shF (row z.1) j 6 = 0 → ends (row z.1) j ≤ s + 240 := fun j hj _ => by
    obtain ⟨c, v, lo, od, ea, so, st, mk, wd, pa, tm, h1, h2, l1, l2, o1, o2, b1, ea1, ea2, st1, mk1, so1, so2, q0, q1, q2, q3, q4, q5, q6, q7, q8, q9, q10, q11, q12, q13, q14, q15, q16, q17⟩ := (hm.toN.ss j hj).rest
    have hbc := hm.bc
    have etm : tm = s := (nI_eq (by omega) (by omega)).mp (q12.symm.trans h4)
    unfold ends
    rw [q5, q0, nI_c (by omega), nI_c (by omega), q10, nI_c (by omega)]
    omega
  have hms : nsum ns (todo (row z.1)) ≤ 200 := by
    have g1 : nsum ns (todo (row z.1)) ≤ nsum ns (fun _ => 5) := nsum_mono (fun j hj => by
      show todo (row z.1) j ≤ 5
      unfold todo
      by_cases y : shF (row z.1) j 6 = 0
      · rw [if_pos y]; omega
      · rw [if_neg y]; omega)
    have g2 : ∀ m, nsum m (fun _ => 5) = 5 * m := fun m => by
      induction m with
      | zero => rfl
      | succ m ih => simp only [nsum, ih]; omega
    rw [g2] at g1
    omega
  obtain ⟨w4, k1, k2, k3, ⟨bk', hm4⟩, k5⟩ := lwC_ok (B := s + 240) hn (by omega) 200 0 z.1 bk s h1 hm h4 (by omega) hE hms
  have hD := lwD_ok (V := z.2) (e := e9) hm4 e2 (fun j hj => by
    rw [f2 j hj, ← k3.1 j hj]
    unfold fate
    rw [if_neg (fun y => k5 j hj y)]) 31 0 (Nat.zero_le _) (by omega)
  have hH : FX12_held w4 = 0 := hm4.hold.trans (isum_0 (fun j hj => lft_shut (fun y => k5 j hj y)))
  have hX : FX12_nextEvent n w4 = some (-1) := by
    rw [o_nextEvent (by omega) hm4]
    rcases ev_ok hm4.toN ns (Nat.le_refl _) with ⟨v1, v2⟩ | ⟨e, v1, v2, v3, j0, v4, v5, v6⟩
    · rw [v1]
    · exact absurd v5 (fun y => k5 j0 v4 y)
  rw [ea, bo1_s, gd_t rfl, f1, bo1_s, k1, bo1_s, hD, bo1_s, gd_t (decide_eq_true hH), hX, bo1_s, gd_t (decide_eq_true rfl)]
end LAST
