set_option maxHeartbeats 400000
/-! runScript, whole -/
theorem ob_3 {n : Nat} (hn : 30000 ≤ n) {w : Wd} (h : Good w) (a1 a2 a3 a4 a5 : Int32) : ∃ w9, FLc_3 n w a1 a2 a3 a4 a5 = some w9 ∧ Good w9 := by
  obtain ⟨nv, nc, ns, bk, hm⟩ := h.m
  obtain ⟨ok, w1, v1, b, f, l, r1, r2, r3, r4, r5⟩ := script_all (n := n) (by omega) h hm (v0 := w) rfl
  show ∃ w9, (bo2 (FL_runScript n w) fun k w1 => bo2 (FX13_runScript n w1) fun q w2 => chk k q w2) = some w9 ∧ Good w9
  unfold FL_runScript
  obtain ⟨fr, ct, hf, hc, y1, y2, y3, y4⟩ := h.h.cnt
  generalize hw5 : sW w1 10 (sI (w1 10) 0 6 0) = w5
  have o5 : ∀ r, r ≠ 10 → w5 r = w1 r := fun r hr => by rw [← hw5]; exact sW_o _ _ hr
  have t5 : ∀ k, (w5 10).1 0 k = if k = 6 then 0 else (w1 10).1 0 k := fun k => by rw [← hw5, sW_s, sI_at]
  have p5 : ∀ r, r ≠ 10 → r ≠ 12 → w5 r = w r := fun r a c => by rw [o5 r a, r3 r a c]
  rcases r5 with ⟨e, ⟨i, tg⟩, hS⟩ | ⟨e, tx⟩
  · subst e
    obtain ⟨-, -, -, -, x7, x8, -, -, -⟩ := tg
    -- the class keeps its state
    obtain ⟨w9, e9, u1, u2, u3, u4⟩ := remember_ok (n := n) (by omega) w5 hf hc (by rw [p5 13 (by decide) (by decide)]; exact y1) (by rw [p5 13 (by decide) (by decide)]; exact y2) (by rw [p5 1 (by decide) (by decide)]; exact hm.v1) (by rw [p5 1 (by decide) (by decide)]; exact hm.c1) (by rw [p5 1 (by decide) (by decide)]; exact hm.s1) hm.bv hm.bc hm.bs
    -- both read and execute, whatever lies beside
    have both : ∀ v0 : Wd, v0 15 = w 15 → ∃ v3 vE x w13 v2, FX13_runScript n v0 = FX13_runScript_B82 n v3 ∧ RdF3 v0 v3 ∧ (v3 15).1 0 8 = 0 ∧ (v3 15).1 0 9 = -1 ∧ nt (E3 v3) 0 0 = vE ∧ FX7_execute n w9 1 = some (x, w13) ∧ FX13_doesAll n (cpW vE 2 0 4 0 390) = some (x, v2) ∧ (∀ r, r ≠ 1 → w13 r = w9 r) ∧ VF (cpW vE 2 0 4 0 390) v2 ∧ RM (w13 1) (row v2) := fun v0 h15 => by
      have hm0 : RelM (w 1) (row w) nv nc ns bk := hm
      obtain ⟨ok', w1', v3, b', f', l', z1, z2, z3, z4, z5⟩ := script_all (n := n) (by omega) h hm (v0 := v0) h15
      have eq := r1.symm.trans z1
      have e1 : ok' = true := (congrArg Prod.fst (Option.some.inj eq)).symm
      have e2 : w1' = w1 := (congrArg Prod.snd (Option.some.inj eq)).symm
      subst e1
      subst e2
      have z6 : (∃ i, TG b' f' l' w1' v3 i) ∧ SG0 w1' v3 nv nc := by
        rcases z5 with ⟨-, y⟩ | ⟨z, -⟩
        · exact y
        · cases z
      obtain ⟨⟨i', tg'⟩, hS'⟩ := z6
      obtain ⟨-, -, -, -, -, -, -, x9, x10⟩ := tg'
      have lj : ∀ j, j ≠ 0 → j ≠ 4 → (cpW (nt (E3 v3) 0 0) 2 0 4 0 390 15).1 j = (v3 15).1 j := fun j a c => by rw [cpW_j _ _ _ _ _ _ c, nt_j _ _ _ a, E3_j _ a]
      have hrow : row (cpW (nt (E3 v3) 0 0) 2 0 4 0 390) = row w := by
        unfold row
        rw [lj 2 (by decide) (by decide), z4.2.1 2 (by decide) (Or.inl (by decide)), h15]
      obtain ⟨x, w13, v2, q1, q2, q3, q4, q5⟩ := run_all hn (w9 := w9) (vL := cpW (nt (E3 v3) 0 0) 2 0 4 0 390) hS' (by rw [u1 12 (by decide) (by omega), o5 12 (by decide)]) (fun j a c => lj j (by omega) (by omega)) (by rw [cpW_j _ _ _ _ _ _ (by decide), nt_k, if_neg (by decide), E3_k, if_neg (by decide), if_neg (by decide)]) (ns := ns) (bk := bk) (by
        rw [u1 1 (by decide) (by omega), p5 1 (by decide) (by decide), hrow]
        exact hm0)
      exact ⟨v3, _, x, w13, v2, z2, z4, x9, x10, rfl, q1, q2, q3, q4, q5⟩
    obtain ⟨-, -, x, w13, -, -, -, -, -, -, ex, -, -, -, -⟩ := both w rfl
    have hx : FX12_runScript n w = some (.ok (x, w13)) := by
      unfold FX12_runScript
      rw [r1, bo2_s, hw5, bnd_s, dA_t, xo_s, e9, bo1_s, ex, bo2_s]
    rw [lw_o hx, bo2_s]
    generalize hwA : ow w13 x = wA
    have oA : ∀ r, r ≠ 16 → wA r = w13 r := fun r hr => by rw [← hwA]; exact ow_o _ _ hr
    have vA : (wA 16).2 0 0 = x.toInt64 := by rw [← hwA]; exact ow_v _ _
    obtain ⟨v3, vE, x', w13', v2, z2, z4, x9, x10, eE, ex', ed, o13, vf, hM⟩ := both (ow w13 x) (by
      obtain ⟨-, -, x'', w13'', -, -, -, -, -, -, ex'', -, o13, -, -⟩ := both w rfl
      have e2 : w13'' = w13 := (congrArg Prod.snd (Option.some.inj (ex.symm.trans ex''))).symm
      subst e2
      rw [ow_o _ _ (by decide), o13 15 (by decide), u1 15 (by decide) (by omega), p5 15 (by decide) (by decide)])
    have eq := ex.symm.trans ex'
    have g1 : x' = x := (congrArg Prod.fst (Option.some.inj eq)).symm
    have g2 : w13' = w13 := (congrArg Prod.snd (Option.some.inj eq)).symm
    subst g1
    subst g2
    rw [hwA] at z2 z4
    -- all that is unchanged
    have oW : ∀ r, r ≠ 16 → r ≠ 1 → r ≠ 13 → r ≠ 4 + fr → r ≠ 10 → r ≠ 12 → wA r = w r := fun r a c d e g k => by rw [oA r a, o13 r c, u1 r d e, p5 r g k]
    have h15 : wA 15 = w 15 := oW 15 (by decide) (by decide) (by decide) (by omega) (by decide) (by decide)
    have Lo : ∀ r, r ≠ 15 → v2 r = wA r := fun r hr => by rw [vf.1 r hr, cpW_o _ _ _ _ _ _ hr, ← eE, nt_o _ _ _ hr, E3_o _ hr, z4.1 r hr]
    have Lk : ∀ k, k ≠ 20 → k ≠ 31 → (v2 15).1 0 k = if k = 0 then 0 else if k = 11 then -1 else if k = 10 then 0 else (v3 15).1 0 k := fun k a c => by rw [vf.2.2 k a c, cpW_j _ _ _ _ _ _ (by decide), ← eE, nt_k, E3_k, x9, x10]
    have Lj : ∀ j, j ≠ 0 → j ≠ 2 → j ≠ 4 → j < 7 ∨ 13 < j → (v2 15).1 j = (w 15).1 j := fun j a c d e => by rw [vf.2.1 j a c (by omega) (by omega), cpW_j _ _ _ _ _ _ d, ← eE, nt_j _ _ _ a, E3_j _ a, z4.2.1 j a (by omega), h15]
    have Ls : ∀ k, k ≠ 0 → k ≠ 10 → k ≠ 11 → k < 2 ∨ 9 < k → k ≠ 20 → k ≠ 28 → k ≠ 29 → k ≠ 30 → k ≠ 31 → (v2 15).1 0 k = (w 15).1 0 k := fun k a c d e g i1 i2 i3 i4 => by rw [Lk k g i4, if_neg a, if_neg d, if_neg c, z4.2.2.1 k e i1 i2 i3, h15]
    have v10 : v2 10 = w5 10 := by rw [Lo 10 (by decide), oA 10 (by decide), o13 10 (by decide), u1 10 (by decide) (by omega)]
    obtain ⟨wF, eK, hG, hth, hoF⟩ := change_good (n := n) (by omega) (w := w) (wB := v2) (nv := nv) (nc := nc) (ns := ns) (bk := bk) hf hc y4 hm
      (by rw [Lo 13 (by decide), oA 13 (by decide), o13 13 (by decide)]; exact u3)
      (by rw [Lo 13 (by decide), oA 13 (by decide), o13 13 (by decide)]; exact u4)
      (by
        rw [Lo (4 + fr) (by omega), oA (4 + fr) (by omega), o13 (4 + fr) (by omega)]
        rw [p5 1 (by decide) (by decide)] at u2
        exact u2)
      (fun g hg hne => by rw [Lo (4 + g) (by omega)]; exact oW (4 + g) (by omega) (by omega) (by omega) (by omega) (by omega) (by omega))
      (by rw [Ls 18 (by decide) (by decide) (by decide) (by decide) (by decide) (by decide) (by decide) (by decide) (by decide)]; exact y3)
      (Lj 6 (by decide) (by decide) (by decide) (Or.inl (by decide)))
      (fun k hk => by
        rw [vf.2.1 4 (by decide) (by decide) (by decide) (by decide), cpW_0 _ 2 4 hk, ← eE, nt_j _ _ _ (by decide), E3_j _ (by decide), z4.2.1 2 (by decide) (Or.inl (by decide)), h15])
      (by
        rw [Lo 0 (by decide), oW 0 (by decide) (by decide) (by decide) (by omega) (by decide) (by decide), Lo 3 (by decide), oW 3 (by decide) (by decide) (by decide) (by omega) (by decide) (by decide), Ls 19 (by decide) (by decide) (by decide) (by decide) (by decide) (by decide) (by decide) (by decide) (by decide), Lj 3 (by decide) (by decide) (by decide) (Or.inl (by decide))]
        exact h.h.sav)
      (RelT.mk ⟨0, Nat.zero_le _, by rw [v10, t5, if_pos rfl]; exact nI_0.symm, by rw [Lk 2 (by decide) (by decide), if_neg (by decide), if_neg (by decide), if_neg (by decide), z4.2.2.2]; exact nI_0.symm, fun j hj => absurd hj (Nat.not_lt_zero j)⟩
        (by rw [v10, t5, if_neg (by decide), x7, Lk 10 (by decide) (by decide), if_neg (by decide), if_neg (by decide), if_pos rfl])
        (by rw [v10, t5, if_neg (by decide), x8, Lk 11 (by decide) (by decide), if_neg (by decide), if_pos rfl]))
      (h.o.keep (by rw [Lo 14 (by decide)]; exact oW 14 (by decide) (by decide) (by decide) (by omega) (by decide) (by decide)) (Lj 14 (by decide) (by decide) (by decide) (Or.inr (by decide))) (Ls 33 (by decide) (by decide) (by decide) (by decide) (by decide) (by decide) (by decide) (by decide) (by decide)))
      (by rw [Lo 1 (by decide), oA 1 (by decide)]; exact hM)
    have hr : FX13_runScript n wA = some (x', wF) := by
      rw [z2]
      unfold FX13_runScript_B82
      rw [ends_g x9, eE, bnd2_s, if_pos rfl, lays_ok (by omega), bo1_s, ed, bo2_s, eK, bo1_s]
    rw [hr, bo2_s]
    refine ⟨wF, chk_0 ?_ ?_, hG⟩
    · show (wF 15).1 0 0 = 0
      rw [hth, Lk 0 (by decide) (by decide), if_pos rfl]
    · rw [hoF 16 (by decide), Lo 16 (by decide), vA]
  · subst e
    have hx : FX12_runScript n w = some (.error ("java/lang/IllegalArgumentException", w5)) := by
      unfold FX12_runScript
      rw [r1, bo2_s, hw5, bnd_s, dA_f]
      rfl
    rw [lw_x (k := 1) hx (if_pos rfl), bo2_s]
    have h15 : w5 15 = w 15 := p5 15 (by decide) (by decide)
    obtain ⟨ok', w1', v2, b', f', l', u1, u2, u3, u4, u5⟩ := script_all (n := n) (by omega) h hm (v0 := w5) h15
    have eq := r1.symm.trans u1
    have e1 : ok' = false := (congrArg Prod.fst (Option.some.inj eq)).symm
    have e2 : w1' = w1 := (congrArg Prod.snd (Option.some.inj eq)).symm
    subst e1
    subst e2
    rcases u5 with ⟨z, -⟩ | ⟨-, tx'⟩
    · cases z
    obtain ⟨-, -, -, -, -, -, -, n8, -⟩ := tx'.at
    obtain ⟨-, -, i', e', o', x1, x2, x3, x4, x5, x6, x7, x8⟩ := tx'
    have hr : FX13_runScript n w5 = some (0, nt (E3 v2) 0 1) := by
      rw [u2]
      unfold FX13_runScript_B82
      rw [ends_x n8, bnd2_s, if_neg (by decide)]
    rw [hr, bo2_s]
    generalize hvF : nt (E3 v2) 0 1 = vF
    have fk : ∀ k, (vF 15).1 0 k = if k = 0 then 1 else if k = 11 then o' else if k = 10 then nI e' else (v2 15).1 0 k := fun k => by rw [← hvF, nt_k, E3_k, x7, x8]
    have fo : ∀ r, r ≠ 15 → vF r = w5 r := fun r hr => by rw [← hvF, nt_o _ _ _ hr, E3_o _ hr, u4.1 r hr]
    have fs : ∀ k, k ≠ 0 → k ≠ 10 → k ≠ 11 → k < 2 ∨ 9 < k → k ≠ 28 → k ≠ 29 → k ≠ 30 → (vF 15).1 0 k = (w 15).1 0 k := fun k c d e g p q s => by rw [fk, if_neg c, if_neg e, if_neg d, u4.2.2.1 k g p q s, h15]
    have fl : ∀ j, j ≠ 0 → j < 7 ∨ 11 < j → (vF 15).1 j = (w 15).1 j := fun j a c => by rw [← hvF, nt_j _ _ _ a, E3_j _ a, u4.2.1 j a c, h15]
    have fr2 : ∀ r, r ≠ 15 → r ≠ 10 → r ≠ 12 → vF r = w r := fun r a c d => by rw [fo r a, p5 r c d]
    refine ⟨vF, chk_k ?_ (by decide), ?_⟩
    · show (vF 15).1 0 0 = 1
      rw [fk, if_pos rfl]
    · refine Good.mk ?_ (RelT.mk ⟨0, Nat.zero_le _, ?_, ?_, fun j hj => absurd hj (Nat.not_lt_zero j)⟩ ?_ ?_) (RelH.mk ⟨fr, ct, hf, hc, ?_, ?_, ?_, fun j hj => ?_⟩ ?_) (h.o.keep ?_ ?_ ?_)
      · unfold row
        rw [fr2 1 (by decide) (by decide) (by decide), fl 2 (by decide) (Or.inl (by decide))]
        exact h.m
      · rw [fo 10 (by decide), t5, if_pos rfl]
        exact nI_0.symm
      · rw [fk, if_neg (by decide), if_neg (by decide), if_neg (by decide), u4.2.2.2]
        exact nI_0.symm
      · rw [fo 10 (by decide), t5, if_neg (by decide), x5, fk, if_neg (by decide), if_neg (by decide), if_pos rfl]
      · rw [fo 10 (by decide), t5, if_neg (by decide), x6, fk, if_neg (by decide), if_pos rfl]
      · rw [fr2 13 (by decide) (by decide) (by decide)]
        exact y1
      · rw [fr2 13 (by decide) (by decide) (by decide)]
        exact y2
      · rw [fs 18 (by decide) (by decide) (by decide) (by decide) (by decide) (by decide) (by decide)]
        exact y3
      · rw [fr2 _ (by omega) (by omega) (by omega), fl 6 (by decide) (Or.inl (by decide))]
        exact y4 j hj
      · rw [fr2 0 (by decide) (by decide) (by decide), fr2 3 (by decide) (by decide) (by decide), fs 19 (by decide) (by decide) (by decide) (by decide) (by decide) (by decide) (by decide), fl 3 (by decide) (Or.inl (by decide))]
        exact h.h.sav
      · exact fr2 14 (by decide) (by decide) (by decide)
      · exact fl 14 (by decide) (Or.inr (by decide))
      · exact fs 33 (by decide) (by decide) (by decide) (by decide) (by decide) (by decide) (by decide)
