set_option maxHeartbeats 400000
/-! A FAKE and a CANCELLING on all three sides -/
/-- all but the calm -/
def T0 (V : MM) (b : Wd) (nv nc ns : Nat) : Prop := WR V (row b) nv nc ns ∧ EM (row b) nc ns ∧ NM (row b) nv nc ∧ ∃ M bk, RelN M (row b) nv nc ns bk
theorem le2_lt3 {x : Int32} : x ≤ 2 ↔ x < 3 := by
  rw [Int32.le_iff_toInt_le, Int32.lt_iff_toInt_lt]
  have e0 : (2 : Int32).toInt = 2 := rfl
  have e1 : (3 : Int32).toInt = 3 := rfl
  omega
section FAKE3
variable {n nv nc ns : Nat}
theorem t0_cancel {V : MM} {b : Wd} (h : T0 V b nv nc ns) {i : Nat} (hi : i < ns) (ho : shF (row b) i 6 = 0) : ∃ V' b' x, FW_cancel V (nI i) = some (x, V') ∧ FX13_cancels b (nI i) = some (x, b') ∧ T0 V' b' nv nc ns ∧ shF (row b') i 6 = 2 ∧ (∀ c, c < 8 → cuF (row b') c 2 = cuF (row b) c 2) ∧ (∀ j, j < ns → shF (row b') j 0 = shF (row b) j 0) ∧ (∀ j, j < ns → j ≠ i → shF (row b') j 6 = shF (row b) j 6) := by
  obtain ⟨hW, hE, hN, M, bk, hm⟩ := h
  have hbs := hm.bs
  have hbv := hm.bv
  have hbc := hm.bc
  have hS := hm.ss i hi
  obtain ⟨c, v, lo, od, ea, so, st, mk, wd, pa, tm, h1, h2, l1, l2, o1, o2, b1, ea1, ea2, st1, mk1, so1, so2, q0, q1, q2, q3, q4, q5, q6, q7, q8, q9, q10, q11, q12, q13, q14, q15, -⟩ := hS.rest
  obtain ⟨M', w', e1, e2, e3, e4, e5, e6, e7, e8⟩ := cancel_pair hm hi ho
  have hst : st = 0 := (nI_eq (a := st) (b := 0) (by omega) (by decide)).mp (q6.symm.trans ho)
  have hbo := q14 hst
  obtain ⟨hx, hCa⟩ := ca_ref (by omega) (by omega) q0 ho e2
  obtain ⟨V', v1, v2⟩ := ca_law hW hbv hbc hbs hi h1 q0 hCa
  have hc2 : ∀ d, d < 8 → cuF (row w') d 2 = cuF (row b) d 2 := fun d hd => by rw [hCa.2.2.1 d (by omega) 2 (by decide), if_neg (by omega)]
  refine ⟨V', w', _, v1, by rw [← hx]; exact e2, ⟨v2, em_cancel hE hbc hbs hi h1 q3 q4 hS.back hbo o2 ea2 ho hCa, hN.dy hbv hbc (fun v' hv' k hk hk5 => ?_) (fun c' hc' k hk hk3 => ?_), M', _, e4⟩, e7, hc2, fun j hj => by rw [hCa.2.2.2 j (by omega) 0 (by decide), if_neg (by omega)], fun j hj hne => by rw [hCa.2.2.2 j (by omega) 6 (by decide), if_neg (by omega)]⟩
  · exact hCa.2.1 v' hv' k hk
  · rw [hCa.2.2.1 c' hc' k hk, if_neg (by omega)]
theorem tw_fake (hn : 100 ≤ n) {V : MM} {b : Wd} (h : TW V b nv nc ns) {i : Nat} (hi : i < ns) (ho : shF (row b) i 6 = 0) : ∃ x V' b', FX13_fakes n b (nI i) = some (x, b') ∧ FW_fake n V (nI i) = some (x, V') ∧ TW V' b' nv nc ns := by
  obtain ⟨hW, hE, hD, hN, M, bk, hm⟩ := id h
  have hbs := hm.bs
  have hbv := hm.bv
  have hbc := hm.bc
  obtain ⟨c, v, so, wd, pa, h1, h2, -, -, -, -, -, -, q0, q1, -⟩ := hm.due hi
  generalize hb : (if row b 6 < 1 then false else true) = bb
  obtain ⟨V1, w7, a1, a2, a3, a4, a5, a6⟩ := tw_echo h hi ho hb
  obtain ⟨hW1, hE1, hD1, hN1, M1, bk1, f2⟩ := id a3
  generalize hw17 : rs w7 (72 + 6 * c + 2) (cuF (row w7) c 2 + FX13_truth bb) = w17
  generalize hV5 : sI V1 (11 + c) 2 (V1.1 (11 + c) 2 + bI bb) = V5
  have r17 : ∀ k, k ≠ 72 + 6 * c + 2 → row w17 k = row w7 k := fun k hk => by rw [← hw17]; exact rs_ne _ _ hk
  have r17c : cuF (row w17) c 2 = cuF (row w7) c 2 + FX13_truth bb := by
    show row w17 (72 + 6 * c + 2) = _
    rw [← hw17, rs_row, if_pos rfl]
  have g0 : shF (row w7) i 0 = nI c := (a4.2.2.2 i (by omega) 0 (by decide)).trans q0
  have hS17 : ∀ j k, shF (row w17) j k = shF (row w7) j k := fun j k => r17 _ (by omega)
  have hL17 : ∀ j, lft (row w17) j = lft (row w7) j := fun j => lft_same (fun k _ => hS17 j k)
  have hV17 : ∀ v', v' < 8 → ∀ k, k < 8 → vaF (row w17) v' k = vaF (row w7) v' k := fun v' hv' k hk => r17 _ (by omega)
  have hC17 : ∀ c' k, k < 6 → k ≠ 2 → cuF (row w17) c' k = cuF (row w7) c' k := fun c' k hk hk2 => r17 _ (by omega)
  have hT5 : T0 V5 w17 nv nc ns := by
    refine ⟨⟨fun k hk => ?_, fun v' hv' k hk => ?_, fun c' hc' k hk => ?_, fun j hj k hk => ?_⟩, ?_, hN1.dy hbv hbc (fun v' hv' k hk _ => hV17 v' hv' k hk) (fun c' hc' k hk hk3 => hC17 c' k hk (by omega)), _, _, f2.susp (M' := sI M1 (12 + c) 4 (cuF (row w17) c 2)) hi h1 g0 rfl (fun j hj => sI_o _ _ _ hj) (fun k hk => by rw [sI_at, if_neg hk]) r17 (by rw [sI_at, if_pos rfl])⟩
    · rw [← hV5, wN _ _ (by omega), hW1.1 k hk, r17 k (by omega)]
    · rw [← hV5, wN _ _ (by omega), hW1.2.1 v' hv' k hk, hV17 v' (by omega) k (by omega)]
    · by_cases e : c' = c ∧ k = 2
      · obtain ⟨rfl, rfl⟩ := e
        rw [← hV5, wE, hW1.2.2.1 c' h1 2 (by decide), r17c]
        cases bb <;> rfl
      · rw [← hV5, wN _ _ (by omega), hW1.2.2.1 c' hc' k hk]
        exact (r17 _ (by omega)).symm
    · rw [← hV5, wN _ _ (by omega), hW1.2.2.2 j hj k hk, hS17]
    · obtain ⟨eA, eB, eC', m, L, m1, m2, m3⟩ := hE1
      refine ⟨?_, ?_, ?_, m, L, fun d hd => by rw [hC17 d 1 (by decide) (by decide)]; exact m1 d hd, fun j hj => by rw [hL17]; exact m2 j hj, m3⟩
      · rw [r17 4 (by omega), r17 5 (by omega), isum_congr (g := fun i => shF (row w7) i 4 * shF (row w7) i 3) (fun i _ => by rw [hS17, hS17]), isum_congr (g := lft (row w7)) (fun i _ => hL17 i)]
        exact eA
      · rw [r17 7 (by omega), r17 4 (by omega), isum_congr (g := fun c => cuF (row w7) c 1) (fun i _ => hC17 i 1 (by decide) (by decide)), isum_congr (g := lft (row w7)) (fun i _ => hL17 i)]
        exact eB
      · rw [r17 4 (by omega), isum_congr (g := fun i => shF (row w7) i 4 * bcI (shF (row w7) i 8)) (fun i _ => by rw [hS17, hS17])]
        exact eC'
  have hw5 : V5.1 (11 + c) 2 = cuF (row w17) c 2 := hT5.1.2.2.1 c h1 2 (by decide)
  have er : FX13_fakes n b (nI i) = bo1 (FX13_isAngryNow w17 (nI c)) fun x20 => if x20 = true then bo1 (FX13_cancelsAll n w17 (nI c)) fun w26 => bo1 (FX13_ofCustomer w26 (nI c) 2) fun x29 => some (x29, w26) else bo1 (FX13_ofCustomer w17 (nI c) 2) fun x23 => some (x23, w17) := by
    unfold FX13_fakes
    rw [rS0 (by omega), bo1_s, q0, gd6, show (b 15).1 2 6 = row b 6 from rfl, a2, bo2_s, bnd_s, cst2, gd_t (inI (by omega) (by omega)), bnd_s, gd_t (inI (by omega) (by omega)), nI_c (by omega), rs_fold, show (w7 15).1 2 (72 + 6 * c + 2) = cuF (row w7) c 2 from rfl, hw17, bnd_s]
  have eW : FW_fake n V (nI i) = FW_fake_L54 n n V5 (20 + i) (11 + c) 0 := by
    unfold FW_fake FW_fake_B30 FW_fake_B49
    rw [gd_t (inI (by omega) (by omega)), nI_c (by omega), hW.2.2.2 i hi 0 (by decide), q0, gd_t (inI (by omega) (by omega)), nI_c (by omega), hW.1 6 (by decide)]
    by_cases z : row b 6 ≤ 0
    · rw [if_pos z]
      rw [if_pos (le0_lt1.mp z)] at hb
      subst hb
      rw [a1, bo1_s, hW1.1 6 (by decide), a4.1 6 (by decide) (by decide) (by decide), if_pos z, hV5, bnd_s]
    · rw [if_neg z]
      rw [if_neg (fun y => z (le0_lt1.mpr y))] at hb
      subst hb
      rw [a1, bo1_s, hW1.1 6 (by decide), a4.1 6 (by decide) (by decide) (by decide), if_neg z, hV5, bnd_s]
  rw [er, eW, rAngry (by omega), bo1_s]
  by_cases z : cuF (row w17) c 2 < 3
  · rw [if_pos z, if_neg (by decide), rC2 (by omega), bo1_s]
    refine ⟨_, V5, w17, rfl, ?_, hT5.1, hT5.2.1, fun j hj hoj d hd hd0 => ?_, hT5.2.2⟩
    · obtain ⟨k, rfl⟩ : ∃ k, n = k + 1 := ⟨n - 1, by omega⟩
      simp only [FW_fake_L54, FW_fake_B112]
      rw [hw5, if_pos (le2_lt3.mpr z)]
      by_cases y : V5.1 0 2 ≤ 0
      · rw [if_pos y]
      · rw [if_neg y]
    · by_cases e : d = c
      · subst e; exact z
      · rw [show cuF (row w17) d 2 = cuF (row w7) d 2 from r17 _ (by omega)]
        rw [hS17] at hoj hd0
        exact hD1 j hj hoj d hd hd0
  · rw [if_neg z, if_pos rfl]
    unfold FX13_cancelsAll
    obtain ⟨a', b', ⟨p1, p2, p3, p4, p5⟩, e1, e2⟩ := loop2 (L1 := fun k (a : MM) j => FW_fake_L54 n k a (20 + i) (11 + c) j) (L2 := fun k (d : Wd) j => FX13_cancelsAll_L2 n k d (nI c) j) (g1 := fun a => some (a.1 (11 + c) 2, a)) (g2 := some) (ns := ns)
      (fun j (a : MM) (d : Wd) => T0 a d nv nc ns ∧ (∀ e, e < 8 → cuF (row d) e 2 = cuF (row w17) e 2) ∧ (∀ j', j' < j → shF (row d) j' 0 = nI c → shF (row d) j' 6 = 0 → False) ∧ (∀ j', j' < ns → shF (row d) j' 6 = 0 → shF (row w17) j' 6 = 0) ∧ (∀ j', j' < ns → shF (row d) j' 0 = shF (row w17) j' 0))
      (fun k a d hp => by
        obtain ⟨⟨hWa, -, -, M, bk, q⟩, -⟩ := hp
        simp only [FW_fake_L54, FW_fake_B112]
        rw [hWa.1 2 (by decide), q.s0, if_pos (Int32.le_refl _)])
      (fun k a d hp => by
        obtain ⟨⟨-, -, -, M, bk, q⟩, -⟩ := hp
        simp only [FX13_cancelsAll_L2]
        rw [gd2, show (d 15).1 2 2 = nI ns from q.s0, if_pos (Int32.le_refl _)])
      (fun a d j hj hp => by
        obtain ⟨q1, q2, q3, q4, q5⟩ := hp
        obtain ⟨hWa, -, -, M, bk, q⟩ := id q1
        have l1' : ∀ k, FW_fake_L54 n (k + 1) a (20 + i) (11 + c) (nI j) = if shF (row d) j 0 = nI c then (if shF (row d) j 6 = 0 then (bo2 (FW_cancel a (nI j)) fun x V9 => FW_fake_L54 n k V9 (20 + i) (11 + c) (nI (j + 1))) else FW_fake_L54 n k a (20 + i) (11 + c) (nI (j + 1))) else FW_fake_L54 n k a (20 + i) (11 + c) (nI (j + 1)) := fun k => by
          simp only [FW_fake_L54, FW_fake_B106]
          rw [hWa.1 2 (by decide), q.s0, if_neg (le_nI hj (by omega)), hWa.2.2.1 c h1 2 (by decide), q2 c (by omega), if_neg (fun y => z (le2_lt3.mp y)), gd_t (inI (by omega) (by omega)), gd_t (inI (by omega) (by omega)), nI_c (by omega), hWa.2.2.2 j hj 0 (by decide), hWa.2.2.2 i hi 0 (by decide), hWa.2.2.2 j hj 6 (by decide), (q5 i hi).trans ((hS17 i 0).trans g0), nI_1]
        have l2' : ∀ k, FX13_cancelsAll_L2 n (k + 1) d (nI c) (nI j) = if shF (row d) j 0 = nI c then (if shF (row d) j 6 = 0 then (bo2 (FX13_cancels d (nI j)) fun x9 w10 => FX13_cancelsAll_L2 n k (nt w10 31 x9) (nI c) (nI (j + 1))) else FX13_cancelsAll_L2 n k d (nI c) (nI (j + 1))) else FX13_cancelsAll_L2 n k d (nI c) (nI (j + 1)) := fun k => by
          simp only [FX13_cancelsAll_L2]
          rw [gd2, show (d 15).1 2 2 = nI ns from q.s0, if_neg (le_nI hj (by omega)), rS0 (by omega), bo1_s, rOpen q.s0 hbs hj, nI_1]
          by_cases z1 : shF (row d) j 0 = nI c
          · rw [if_pos z1, if_pos z1, bo1_s]
            by_cases z2 : shF (row d) j 6 = 0
            · rw [if_pos z2, decide_eq_true z2, if_pos rfl]; rfl
            · rw [if_neg z2, decide_eq_false z2, if_neg (by decide)]
          · rw [if_neg z1, if_neg z1]
        by_cases z1 : shF (row d) j 0 = nI c
        · by_cases z2 : shF (row d) j 6 = 0
          · obtain ⟨V', b', x, y1, y2, y3, y4, y5, y6, y7⟩ := t0_cancel q1 hj z2
            refine ⟨V', nt b' 31 x, ⟨by unfold T0; rw [nt_row]; exact y3, fun e he => by rw [nt_row, y5 e he]; exact q2 e he, fun j' hj' g1 g2 => ?_, fun j' hj' g2 => ?_, fun j' hj' => by rw [nt_row, y6 j' hj']; exact q5 j' hj'⟩, fun k => ?_, fun k => ?_⟩
            · rw [nt_row] at g1 g2
              by_cases e : j' = j
              · subst e
                rw [y4] at g2
                exact absurd g2 (by decide)
              · rw [y6 j' (by omega)] at g1
                rw [y7 j' (by omega) e] at g2
                exact q3 j' (by omega) g1 g2
            · rw [nt_row] at g2
              by_cases e : j' = j
              · subst e
                rw [y4] at g2
                exact absurd g2 (by decide)
              · rw [y7 j' (by omega) e] at g2
                exact q4 j' hj' g2
            · rw [l1', if_pos z1, if_pos z2, y1, bo2_s]
            · rw [l2', if_pos z1, if_pos z2, y2, bo2_s]
          · refine ⟨a, d, ⟨q1, q2, fun j' hj' g1 g2 => ?_, q4, q5⟩, fun k => by rw [l1', if_pos z1, if_neg z2], fun k => by rw [l2', if_pos z1, if_neg z2]⟩
            by_cases e : j' = j
            · subst e; exact z2 g2
            · exact q3 j' (by omega) g1 g2
        · refine ⟨a, d, ⟨q1, q2, fun j' hj' g1 g2 => ?_, q4, q5⟩, fun k => by rw [l1', if_neg z1], fun k => by rw [l2', if_neg z1]⟩
          by_cases e : j' = j
          · subst e; exact z1 g1
          · exact q3 j' (by omega) g1 g2)
      (k1 := n) (k2 := n) (by omega) (by omega) V5 w17 ⟨hT5, fun _ _ => rfl, fun j' hj' => absurd hj' (Nat.not_lt_zero _), fun _ _ g => g, fun _ _ => rfl⟩
    refine ⟨cuF (row b') c 2, a', b', ?_, ?_, p1.1, p1.2.1, fun j hj hoj d hd hd0 => ?_, p1.2.2⟩
    · replace e2 : FX13_cancelsAll_L2 n n w17 (nI c) 0 = some b' := e2
      rw [e2, bo1_s, rC2 (by omega), bo1_s]
    · replace e1 : FW_fake_L54 n n V5 (20 + i) (11 + c) 0 = some (a'.1 (11 + c) 2, a') := e1
      rw [e1, p1.1.2.2.1 c h1 2 (by decide)]
    · by_cases e : d = c
      · subst e
        exact absurd hoj (fun g => p3 j hj hd0 g)
      · rw [p2 d (by omega), show cuF (row w17) d 2 = cuF (row w7) d 2 from r17 _ (by omega)]
        have g1 := p4 j hj hoj
        rw [p5 j hj] at hd0
        rw [hS17] at g1 hd0
        exact hD1 j hj g1 d hd hd0
end FAKE3
