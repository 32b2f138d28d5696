set_option maxHeartbeats 400000
/-! one second once more: the foretold ends stay, the echoes are counted -/
/-- the state inside a second: what both have done so far -/
def MidF (w : Wd) (nv nc ns t : Nat) (a : MM) (b : Wd) : Prop := Fr w b ∧ (∃ bk, RelN a (row b) nv nc ns bk) ∧ row b 3 = nI (t + 1) ∧ TmOk (row b) ns t ∧ FT (row w) (row b) ns
theorem returns_F {n : Nat} (hn : 100 ≤ n) {M : MM} {w w0 : Wd} {nv nc ns t : Nat} (ht : t < 10300) (hbs : ns ≤ 30) (h : MidF w0 nv nc ns t M w) : ∃ x M' w', FX6_returnDueEchoes n M = some (x, M') ∧ FX13_returnsNow n w = some (x, w') ∧ MidF w0 nv nc ns t M' w' ∧ (∀ j, j < ns → shF (row w') j 6 = 0 → nI (t + 1) < retI (row w') j) ∧ ∃ q, q ≤ ns ∧ x = nI q := by
  unfold FX6_returnDueEchoes FX13_returnsNow
  obtain ⟨a', b', ⟨p1, p2, p3⟩, e1, e2⟩ := loop2 (L1 := fun k (a : Int32 × MM) i => FX6_returnDueEchoes_L4 n k a.2 a.1 i) (L2 := fun k (b : Int32 × Wd) i => FX13_returnsNow_L4 n k b.2 b.1 i) (g1 := some) (g2 := some) (ns := ns)
    (fun i (a : Int32 × MM) (b : Int32 × Wd) => (a.1 = b.1 ∧ ∃ q, q ≤ i ∧ b.1 = nI q) ∧ MidF w0 nv nc ns t a.2 b.2 ∧ ∀ j, j < i → shF (row b.2) j 6 = 0 → nI (t + 1) < retI (row b.2) j)
    (fun k a b hp => by
      obtain ⟨-, ⟨-, ⟨bk, q⟩, -⟩, -⟩ := hp
      simp only [FX6_returnDueEchoes_L4]
      rw [q.s1, if_pos (Int32.le_refl _)])
    (fun k a b hp => by
      obtain ⟨-, ⟨-, ⟨bk, q⟩, -⟩, -⟩ := hp
      simp only [FX13_returnsNow_L4]
      rw [gd2, show (b.2 15).1 2 2 = nI ns from q.s0, if_pos (Int32.le_refl _)])
    (fun a b i hi hp => by
      obtain ⟨x, a⟩ := a
      obtain ⟨y, b⟩ := b
      obtain ⟨⟨e, qn, qn1, qn2⟩, ⟨q1, ⟨bk, q2⟩, q3, q4, q5⟩, q6⟩ := hp
      have e' : x = y := e
      subst e'
      replace qn2 : x = nI qn := qn2
      replace q5 : FT (row w0) (row b) ns := q5
      replace q1 : Fr w0 b := q1
      replace q2 : RelN a (row b) nv nc ns bk := q2
      replace q3 : row b 3 = nI (t + 1) := q3
      replace q4 : TmOk (row b) ns t := q4
      replace q6 : ∀ j, j < i → shF (row b) j 6 = 0 → nI (t + 1) < retI (row b) j := q6
      have hS := q2.ss i hi
      have hbv := q2.bv
      have hbc := q2.bc
      obtain ⟨c, v, so, wd, pa, h1, h2, -, -, -, -, -, -, k0, k1, -⟩ := q2.due hi
      obtain ⟨z1, z2, z3, z4, z5, z6⟩ := q2.secs hi
      obtain ⟨lx, l3, l4⟩ := rLoudOf q2 hi
      have l1 : ∀ k, FX6_returnDueEchoes_L4 n (k + 1) a x (nI i) = if shF (row b) i 6 = 0 then (if retI (row b) i = nI (t + 1) then (bo1 (FX6_echo a (20 + i) (decide (2 * (bk i + 1) + (vaF (row b) (shF (row b) i 1).toNatClampNeg 3).toNatClampNeg + 1 ≤ (shF (row b) i 2).toNatClampNeg))) fun M12 => FX6_returnDueEchoes_L4 n k M12 (x + 1) (nI (i + 1))) else FX6_returnDueEchoes_L4 n k a x (nI (i + 1))) else FX6_returnDueEchoes_L4 n k a x (nI (i + 1)) := fun k => by
        simp only [FX6_returnDueEchoes_L4]
        rw [q2.s1, if_neg (le_nI hi (by omega)), gd_t (inI (by omega) (by omega)), nI_c (by omega), nI_1, cRetN q2 hi, q2.time, q3, hS.e9, hS.back, nI_1, cHeard q2 hi (by have := hS.rest; obtain ⟨_, _, _, _, _, _, _, _, _, _, _, _, _, _, _, _, x1, x2, _⟩ := this; omega)]
        unfold FX8_isOpen
        rw [hS.e8]
        by_cases z : shF (row b) i 6 = 0
        · rw [if_pos z, if_pos z, bnd_s, if_pos rfl, bnd_s]
          by_cases z' : retI (row b) i = nI (t + 1)
          · rw [if_pos z', if_pos z', bo1_s]
          · rw [if_neg z', if_neg z']
        · rw [if_neg z, if_neg z, bnd_s, if_neg (by decide)]
      have l2 : ∀ k, FX13_returnsNow_L4 n (k + 1) b x (nI i) = if shF (row b) i 6 = 0 then (if retI (row b) i = nI (t + 1) then (bo2 (FX13_comesBack b (nI i) lx) fun x13 w14 => FX13_returnsNow_L4 n k (nt w14 20 (bI x13)) (x + 1) (nI (i + 1))) else FX13_returnsNow_L4 n k b x (nI (i + 1))) else FX13_returnsNow_L4 n k b x (nI (i + 1)) := fun k => by
        simp only [FX13_returnsNow_L4]
        rw [gd2, show (b 15).1 2 2 = nI ns from q2.s0, if_neg (le_nI hi (by omega)), rOpen q2.s0 hbs hi, bo1_s, nI_1, rRet (by omega) (show v < 8 by omega) k1, bo1_s, gd3, show (b 15).1 2 3 = nI (t + 1) from q3, l3, bo1_s]
        by_cases z : shF (row b) i 6 = 0
        · rw [if_pos z, decide_eq_true z, if_pos rfl]
          by_cases z' : retI (row b) i = nI (t + 1)
          · rw [if_pos z', if_pos z']; rfl
          · rw [if_neg z', if_neg z']
        · rw [if_neg z, decide_eq_false z, if_neg (by decide)]
      by_cases z : shF (row b) i 6 = 0
      · by_cases z' : retI (row b) i = nI (t + 1)
        · obtain ⟨M', w', y1, y2, y3, y4, y5, y6, y7, y8, y9⟩ := echo_pair q2 hi z l4
          have hsec : sec (row b) i (bk i) = t + 1 := (nI_eq (by omega) (by omega)).mp (z1.symm.trans z')
          have hend : t < ends (row b) i := by
            have := (q4 i hi z).2
            rw [z2] at this
            exact (nI_ltI (by omega) (by omega)).mp this
          have hSh : Sh (row b) (row w') ns := fun j hj hoj => by
            by_cases e : j = i
            · subst e
              exact ⟨z, 1, by decide, by rw [y7]; rfl⟩
            · rw [y6 j (by omega) e 6 (by decide)] at hoj
              exact ⟨hoj, 0, by decide, by rw [y6 j (by omega) e 7 (by decide), nI_0, Int32.add_zero]⟩
          refine ⟨(x + 1, M'), (x + 1, nt w' 20 (bI (decide (2 * (bk i + 1) + (vaF (row b) (shF (row b) i 1).toNatClampNeg 3).toNatClampNeg + 1 ≤ (shF (row b) i 2).toNatClampNeg)))), ⟨⟨rfl, qn + 1, by omega, by show x + 1 = nI (qn + 1); rw [qn2, nI_1]⟩, ⟨q1.trans (y3.trans (Fr.nt20 _ _)), ⟨_, by rw [nt_row]; exact y4⟩, ?_, ?_, ?_⟩, ?_⟩, fun k => ?_, fun k => ?_⟩
          · rw [nt_row]; exact (y5.1 3 (by decide) (by decide) (by decide)).trans q3
          · rw [nt_row]; exact q4.keep q2 (by omega) y5 hSh
          · rw [nt_row]; exact q5.trans (FT.echo q2 hi z y5 y6 y7 y8 (by omega))
          · intro j hj hoj
            rw [nt_row] at hoj ⊢
            by_cases e : j = i
            · subst e
              obtain ⟨u1, -, -, -, -, -⟩ := y4.secs hi
              have ek := y4.idx hi
              rw [u1, if_pos rfl]
              have es : sec (row w') j (bk j + 1) = sec (row b) j (bk j + 1) := by
                unfold sec
                rw [y5.2.2.2 j (by omega) 5 (by decide), y5.2.2.2 j (by omega) 1 (by decide), y5.2.1 _ (q2.idx hi).1 0 (by decide) (by decide) (by decide)]
              rw [es]
              exact nI_lt (by omega) (by omega)
            · have hji : j < i := by omega
              rw [y5.ret (by omega) (q2.idx (by omega : j < ns)).1 (y6 j (by omega) e 7 (by decide))]
              rw [y6 j (by omega) e 6 (by decide)] at hoj
              exact q6 j hji hoj
          · show FX6_returnDueEchoes_L4 n (k + 1) a x (nI i) = _
            rw [l1, if_pos z, if_pos z', y1, bo1_s]
          · show FX13_returnsNow_L4 n (k + 1) b x (nI i) = _
            rw [l2, if_pos z, if_pos z', y2, bo2_s]
        · refine ⟨(x, a), (x, b), ⟨⟨rfl, qn, by omega, qn2⟩, ⟨q1, ⟨bk, q2⟩, q3, q4, q5⟩, ?_⟩, fun k => ?_, fun k => ?_⟩
          · intro j hj hoj
            by_cases e : j = i
            · subst e
              have := (q4 j hi z).1
              show nI (t + 1) < retI (row b) j
              rw [z1] at this z' ⊢
              have h5 := (nI_ltI (by omega) (by omega)).mp this
              exact nI_lt (by
                have : sec (row b) j (bk j) ≠ t + 1 := fun e => z' (by rw [e])
                omega) (by omega)
            · exact q6 j (by omega) hoj
          · show FX6_returnDueEchoes_L4 n (k + 1) a x (nI i) = _
            rw [l1, if_pos z, if_neg z']
          · show FX13_returnsNow_L4 n (k + 1) b x (nI i) = _
            rw [l2, if_pos z, if_neg z']
      · refine ⟨(x, a), (x, b), ⟨⟨rfl, qn, by omega, qn2⟩, ⟨q1, ⟨bk, q2⟩, q3, q4, q5⟩, ?_⟩, fun k => ?_, fun k => ?_⟩
        · intro j hj hoj
          by_cases e : j = i
          · subst e
            exact absurd hoj z
          · exact q6 j (by omega) hoj
        · show FX6_returnDueEchoes_L4 n (k + 1) a x (nI i) = _
          rw [l1, if_neg z]
        · show FX13_returnsNow_L4 n (k + 1) b x (nI i) = _
          rw [l2, if_neg z])
    (k1 := n) (k2 := n) (by omega) (by omega) (0, M) (0, w) ⟨⟨rfl, 0, Nat.le_refl _, nI_0.symm⟩, h, fun j hj => absurd hj (Nat.not_lt_zero j)⟩
  obtain ⟨x, M'⟩ := a'
  obtain ⟨y, w'⟩ := b'
  have e' : x = y := p1.1
  have p1' : ∃ q, q ≤ ns ∧ y = nI q := p1.2
  subst e'
  exact ⟨x, M', w', e1, e2, p2, p3, p1'⟩
theorem losses_F {n : Nat} (hn : 100 ≤ n) {M : MM} {w w0 : Wd} {nv nc ns t : Nat} (ht : t < 10300) (hbs : ns ≤ 30) (h : MidF w0 nv nc ns t M w) (hR : ∀ j, j < ns → shF (row w) j 6 = 0 → nI (t + 1) < retI (row w) j) : ∃ M' w', FX6_losePatience n M = some M' ∧ FX13_losesPatience n w = some w' ∧ MidF w0 nv nc ns t M' w' ∧ TmOk (row w') ns (t + 1) := by
  unfold FX6_losePatience FX13_losesPatience
  obtain ⟨M', w', ⟨p1, p2, p3⟩, e1, e2⟩ := loop2 (L1 := fun k (a : MM) i => FX6_losePatience_L2 n k a i) (L2 := fun k (b : Wd) i => FX13_losesPatience_L2 n k b i) (g1 := some) (g2 := some) (ns := ns)
    (fun i (a : MM) (b : Wd) => MidF w0 nv nc ns t a b ∧ (∀ j, j < ns → shF (row b) j 6 = 0 → nI (t + 1) < retI (row b) j) ∧ ∀ j, j < i → shF (row b) j 6 = 0 → nI (t + 1) < endI (row b) j)
    (fun k a b hp => by
      obtain ⟨⟨-, ⟨bk, q⟩, -⟩, -⟩ := hp
      simp only [FX6_losePatience_L2]
      rw [q.s1, if_pos (Int32.le_refl _)])
    (fun k a b hp => by
      obtain ⟨⟨-, ⟨bk, q⟩, -⟩, -⟩ := hp
      simp only [FX13_losesPatience_L2]
      rw [gd2, show (b 15).1 2 2 = nI ns from q.s0, if_pos (Int32.le_refl _)])
    (fun a b i hi hp => by
      obtain ⟨⟨q1, ⟨bk, q2⟩, q3, q4, q5⟩, q6, q7⟩ := hp
      have hS := q2.ss i hi
      have hbv := q2.bv
      have hbc := q2.bc
      obtain ⟨c, v, so, wd, pa, h1, h2, -, -, -, -, -, -, k0, k1, -, -, -, -, k2, -, k3, -⟩ := q2.due hi
      obtain ⟨z1, z2, z3, z4, z5, z6⟩ := q2.secs hi
      have l1 : ∀ k, FX6_losePatience_L2 n (k + 1) a (nI i) = if shF (row b) i 6 = 0 then (if endI (row b) i = nI (t + 1) then (bo2 (FX6_callOff a (nI i)) fun x7 M8 => FX6_losePatience_L2 n k M8 (nI (i + 1))) else FX6_losePatience_L2 n k a (nI (i + 1))) else FX6_losePatience_L2 n k a (nI (i + 1)) := fun k => by
        simp only [FX6_losePatience_L2]
        rw [q2.s1, if_neg (le_nI hi (by omega)), gd_t (inI (by omega) (by omega)), nI_c (by omega), nI_1, k3, ← k2, q2.time, q3, gd_t (inI (by omega) (by omega))]
        unfold FX8_isOpen
        rw [hS.e8]
        by_cases z : shF (row b) i 6 = 0
        · rw [if_pos z, if_pos z, bnd_s, if_pos rfl]
        · rw [if_neg z, if_neg z, bnd_s, if_neg (by decide)]
      have l2 : ∀ k, FX13_losesPatience_L2 n (k + 1) b (nI i) = if shF (row b) i 6 = 0 then (if endI (row b) i = nI (t + 1) then (bo2 (FX13_cancels b (nI i)) fun x10 w11 => FX13_losesPatience_L2 n k (nt w11 31 x10) (nI (i + 1))) else FX13_losesPatience_L2 n k b (nI (i + 1))) else FX13_losesPatience_L2 n k b (nI (i + 1)) := fun k => by
        simp only [FX13_losesPatience_L2]
        rw [gd2, show (b 15).1 2 2 = nI ns from q2.s0, if_neg (le_nI hi (by omega)), rOpen q2.s0 hbs hi, bo1_s, nI_1, rEnd (by omega) (show c < 8 by omega) k0, bo1_s, gd3, show (b 15).1 2 3 = nI (t + 1) from q3]
        by_cases z : shF (row b) i 6 = 0
        · rw [if_pos z, decide_eq_true z, if_pos rfl]
          rfl
        · rw [if_neg z, decide_eq_false z, if_neg (by decide)]
      by_cases z : shF (row b) i 6 = 0
      · by_cases z' : endI (row b) i = nI (t + 1)
        · obtain ⟨M', w', y1, y2, y3, y4, y5, y6, y7, y8⟩ := cancel_pair q2 hi z
          have hend : ends (row b) i = t + 1 := (nI_eq (by omega) (by omega)).mp (z2.symm.trans z')
          have hsec : t + 1 < sec (row b) i (bk i) := by
            have := q6 i hi z
            rw [z1] at this
            exact (nI_ltI (by omega) (by omega)).mp this
          have hSh : Sh0 (row b) (row w') ns := fun j hj hoj => by
            by_cases e : j = i
            · subst e
              rw [y7] at hoj
              exact absurd hoj (by decide)
            · rw [y6 j (by omega) e 6 (by decide)] at hoj
              exact ⟨hoj, y6 j (by omega) e 7 (by decide)⟩
          refine ⟨M', nt w' 31 (lft (row b) i), ⟨⟨q1.trans (y3.trans (Fr.nt31 _ _)), ⟨bk, by rw [nt_row]; exact y4⟩, ?_, ?_, ?_⟩, ?_, ?_⟩, fun k => ?_, fun k => ?_⟩
          · rw [nt_row]; exact (y5.1 3 (by decide) (by decide) (by decide)).trans q3
          · rw [nt_row]; exact q4.keep q2 (by omega) y5 hSh.sh
          · rw [nt_row]; exact q5.trans (FT.cancel q2 hi z y5 y6 (y8 (120 + 9 * i + 7) (by omega) (by omega) (fun c hc => by omega) (by omega)) y7 (by omega))
          · intro j hj hoj
            rw [nt_row] at hoj ⊢
            obtain ⟨o1, o2⟩ := hSh j hj hoj
            rw [y5.ret (by omega) (q2.idx hj).1 o2]
            exact q6 j hj o1
          · intro j hj hoj
            rw [nt_row] at hoj ⊢
            obtain ⟨o1, o2⟩ := hSh j (by omega) hoj
            rw [y5.fin (by omega) (q2.idx (by omega : j < ns)).2]
            by_cases e : j = i
            · subst e
              rw [y7] at hoj
              exact absurd hoj (by decide)
            · exact q7 j (by omega) o1
          · show FX6_losePatience_L2 n (k + 1) a (nI i) = _
            rw [l1, if_pos z, if_pos z', y1, bo2_s]
          · show FX13_losesPatience_L2 n (k + 1) b (nI i) = _
            rw [l2, if_pos z, if_pos z', y2, bo2_s]
        · refine ⟨a, b, ⟨⟨q1, ⟨bk, q2⟩, q3, q4, q5⟩, q6, ?_⟩, fun k => ?_, fun k => ?_⟩
          · intro j hj hoj
            by_cases e : j = i
            · subst e
              have := (q4 j hi z).2
              rw [z2] at this z' ⊢
              have h5 := (nI_ltI (by omega) (by omega)).mp this
              exact nI_lt (by
                have : ends (row b) j ≠ t + 1 := fun e => z' (by rw [e])
                omega) (by omega)
            · exact q7 j (by omega) hoj
          · show FX6_losePatience_L2 n (k + 1) a (nI i) = _
            rw [l1, if_pos z, if_neg z']
          · show FX13_losesPatience_L2 n (k + 1) b (nI i) = _
            rw [l2, if_pos z, if_neg z']
      · refine ⟨a, b, ⟨⟨q1, ⟨bk, q2⟩, q3, q4, q5⟩, q6, ?_⟩, fun k => ?_, fun k => ?_⟩
        · intro j hj hoj
          by_cases e : j = i
          · subst e
            exact absurd hoj z
          · exact q7 j (by omega) hoj
        · show FX6_losePatience_L2 n (k + 1) a (nI i) = _
          rw [l1, if_neg z]
        · show FX13_losesPatience_L2 n (k + 1) b (nI i) = _
          rw [l2, if_neg z])
    (k1 := n) (k2 := n) (by omega) (by omega) M w ⟨h, hR, fun j hj => absurd hj (Nat.not_lt_zero j)⟩
  exact ⟨M', w', e1, e2, p1, fun j hj hoj => ⟨p2 j hj hoj, p3 j hj hoj⟩⟩
theorem second_F {n : Nat} (hn : 100 ≤ n) {M : MM} {w : Wd} {nv nc ns t : Nat} {bk : Nat → Nat} (hm : RelN M (row w) nv nc ns bk) (et : row w 3 = nI t) (ht : t < 10300) (hT : TmOk (row w) ns t) : ∃ x M1 M2 w' bk', FX6_returnDueEchoes n (sI M 0 6 (nI (t + 1))) = some (x, M1) ∧ FX6_losePatience n M1 = some M2 ∧ FX13_passesOne n w = some (x, w') ∧ Fr w w' ∧ RelN M2 (row w') nv nc ns bk' ∧ row w' 3 = nI (t + 1) ∧ TmOk (row w') ns (t + 1) ∧ FT (row w) (row w') ns ∧ ∃ q, q ≤ ns ∧ x = nI q := by
  have hbs := hm.bs
  have hr : ∀ k, k ≠ 3 → row (rs w 3 (nI (t + 1))) k = row w k := fun k hk => rs_ne _ _ hk
  have hr3 : row (rs w 3 (nI (t + 1))) 3 = nI (t + 1) := by rw [rs_row, if_pos rfl]
  have hN := hm.clock et (Nat.le_succ t) (by omega) hr hr3
  have h0 : MidF w nv nc ns t (sI M 0 6 (nI (t + 1))) (rs w 3 (nI (t + 1))) := ⟨Fr.of_rs _ _ _, ⟨bk, hN⟩, hr3, fun j hj hoj => by
    have e1 : retI (row (rs w 3 (nI (t + 1)))) j = retI (row w) j := by
      unfold retI
      rw [show shF (row (rs w 3 (nI (t + 1)))) j 5 = shF (row w) j 5 from hr _ (by omega), show shF (row (rs w 3 (nI (t + 1)))) j 1 = shF (row w) j 1 from hr _ (by omega), show shF (row (rs w 3 (nI (t + 1)))) j 7 = shF (row w) j 7 from hr _ (by omega), show ∀ v, vaF (row (rs w 3 (nI (t + 1)))) v 0 = vaF (row w) v 0 from fun v => hr _ (by omega)]
    have e2 : endI (row (rs w 3 (nI (t + 1)))) j = endI (row w) j := by
      unfold endI
      rw [show shF (row (rs w 3 (nI (t + 1)))) j 5 = shF (row w) j 5 from hr _ (by omega), show shF (row (rs w 3 (nI (t + 1)))) j 0 = shF (row w) j 0 from hr _ (by omega), show ∀ v, cuF (row (rs w 3 (nI (t + 1)))) v 0 = cuF (row w) v 0 from fun v => hr _ (by omega)]
    rw [e1, e2]
    exact hT j hj ((hr _ (by omega)).symm.trans hoj), FT.clock hm hr⟩
  obtain ⟨x, M1, w1, e1, e2, h1, hR, hQ⟩ := returns_F hn ht hbs h0
  obtain ⟨M2, w2, e3, e4, ⟨q1, ⟨bk', q2⟩, q3, q4, q5⟩, hT'⟩ := losses_F hn ht hbs h1 hR
  refine ⟨x, M1, M2, w2, bk', e1, e3, ?_, q1, q2, q3, hT', q5, hQ⟩
  unfold FX13_passesOne
  rw [gd3, gd3, show (w 15).1 2 3 = nI t from et, nI_1, rs_fold, bnd_s, e2, bo2_s, e4, bo1_s]
