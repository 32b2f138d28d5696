set_option maxHeartbeats 400000
/-! a cancelling and a fake, from end to end -/
section STEPS2
variable {n nv nc ns : Nat} {w : Wd} {V : MM}
theorem st_cancel (hn : 2500 ≤ n) (h : Good w) (hT : TW V w nv nc ns) {i : Nat} (hi : i < ns) (ho : shF (row w) i 6 = 0) : ∃ x w' w9 V', FX12_cancel n w (nI i) = some (.ok (x, w')) ∧ FLc_53 n w (nI i) 0 0 0 0 = some w9 ∧ AG w9 w' ∧ GT w w9 ∧ FW_cancel V (nI i) = some (x, V') ∧ TW V' w9 nv nc ns ∧ row w9 3 = row w 3 := by
  obtain ⟨bk, hm⟩ := tw_nums h hT
  have hbs := hm.bs
  have hS := hm.ss i hi
  have hd : FX12_isWithin (nI i) 0 (nI ns - 1) = true := wi_nI hi (by omega)
  obtain ⟨w6, x, M', wF, e6, e61, ec, e15, er, ek, hG, hA, V', v1, v2, v3⟩ := und_2 (Pq := fun x M' r' => ∃ V', FW_cancel V (nI i) = some (x, V') ∧ TR V' r' nv nc ns ∧ r' 3 = row w 3) hn h (fun M => FX6_callOff M (nI i)) (fun w => FX13_cancels w (nI i)) (fun w9 hr => by
    have hN : RelN (w 1) (row w9) nv nc ns bk := by rw [hr]; exact hm.toN
    obtain ⟨M', w', q1, q2, q3, q4, q5, q6, q7, q8⟩ := cancel_pair hN hi (by rw [hr]; exact ho)
    obtain ⟨V2, b2, x2, p1, p2, p3, -⟩ := tw_cancel (hT.row hr) hi (by rw [hr]; exact ho)
    have hj := Option.some.inj (p2.symm.trans q2)
    have e1 : x2 = _ := congrArg Prod.fst hj
    have e2 : b2 = w' := congrArg Prod.snd hj
    subst e1; subst e2
    have h3 : row b2 3 = row w 3 := by rw [q5.1 3 (by decide) (by decide) (by decide), hr]
    refine ⟨_, M', b2, q1, q2, q3, ⟨nv, nc, ns, bk, ?_⟩, V2, p1, p3, h3⟩
    obtain ⟨t, ht, et⟩ := hm.tm
    have hTm : TmOk (row w9) ns t := by rw [hr]; exact hm.tmOk ht et
    refine q4.toM ht (h3.trans et) (hTm.keep hN (by omega) q5 (Sh0.sh (fun j hj hoj => ?_)))
    by_cases z : j = i
    · subst z
      rw [q7] at hoj
      exact absurd hoj (by decide)
    · rw [q6 j (by omega) z 6 (by decide)] at hoj
      exact ⟨hoj, q6 j (by omega) z 7 (by decide)⟩)
  have hx : FX12_cancel n w (nI i) = some (.ok (x, sW w6 1 M')) := by
    unfold FX12_cancel
    rw [cFO_i hm.s1 hbs hi hS.e8, if_pos ho, bo1_s]
    show (bo1 (FX5_remember n w 1) fun w6 => _) = _
    rw [e6, bo1_s, e61, ec, bo2_s, bnd_s]
  refine ⟨x, _, wF, V', hx, ?_, hA, hG, v1, v2, v3⟩
  show (bo2 (FL_cancel n w (nI i)) fun k w1 => bo2 (FX13_cancel n w1 (nI i)) fun q w2 => chk k q w2) = some wF
  unfold FL_cancel FX13_cancel
  rw [lw_o hx, bo2_s, rIsS (ns := ns) (by rw [e15]; exact hm.s0), hd, bo1_s, rOpen (ns := ns) (by rw [e15]; exact hm.s0) hbs hi, e15, decide_eq_true ho, bo1_s, gb_tt, bnd2_s, if_pos rfl, er, bo2_s]
  exact ek
theorem st_fake (hn : 2500 ≤ n) (h : Good w) (hT : TW V w nv nc ns) {i : Nat} (hi : i < ns) (ho : shF (row w) i 6 = 0) : ∃ x w' w9 V', FX12_fake n w (nI i) = some (.ok (x, w')) ∧ FLc_54 n w (nI i) 0 0 0 0 = some w9 ∧ AG w9 w' ∧ GT w w9 ∧ FW_fake n V (nI i) = some (x, V') ∧ TW V' w9 nv nc ns ∧ row w9 3 = row w 3 := by
  obtain ⟨bk, hm⟩ := tw_nums h hT
  have hbs := hm.bs
  have hS := hm.ss i hi
  have hd : FX12_isWithin (nI i) 0 (nI ns - 1) = true := wi_nI hi (by omega)
  obtain ⟨w6, x, M', wF, e6, e61, ec, e15, er, ek, hG, hA, V', v1, v2, v3⟩ := und_2 (Pq := fun x M' r' => ∃ V', FW_fake n V (nI i) = some (x, V') ∧ TR V' r' nv nc ns ∧ r' 3 = row w 3) hn h (fun M => FX6_fakeNext n M (nI i)) (fun w => FX13_fakes n w (nI i)) (fun w9 hr => by
    have hN : RelN (w 1) (row w9) nv nc ns bk := by rw [hr]; exact hm.toN
    obtain ⟨x, M', w', bk', q1, q2, q3, q4, q5, q6⟩ := fake_pair (n := n) (by omega) hN hi (by rw [hr]; exact ho)
    obtain ⟨x2, V2, b2, p2, p1, p3⟩ := tw_fake (n := n) (by omega) (hT.row hr) hi (by rw [hr]; exact ho)
    have hj := Option.some.inj (p2.symm.trans q2)
    have e1 : x2 = x := congrArg Prod.fst hj
    have e2 : b2 = w' := congrArg Prod.snd hj
    subst e1; subst e2
    have h3 : row b2 3 = row w 3 := by rw [q5.1 3 (by decide) (by decide) (by decide), hr]
    refine ⟨_, M', b2, q1, q2, q3, ⟨nv, nc, ns, bk', ?_⟩, V2, p1, p3, h3⟩
    obtain ⟨t, ht, et⟩ := hm.tm
    have hTm : TmOk (row w9) ns t := by rw [hr]; exact hm.tmOk ht et
    exact q4.toM ht (h3.trans et) (hTm.keep hN (by omega) q5 q6))
  have hx : FX12_fake n w (nI i) = some (.ok (x, sW w6 1 M')) := by
    unfold FX12_fake
    rw [cFO_i hm.s1 hbs hi hS.e8, if_pos ho, bo1_s]
    show (bo1 (FX5_remember n w 1) fun w6 => _) = _
    rw [e6, bo1_s, e61, ec, bo2_s, bnd_s]
  refine ⟨x, _, wF, V', hx, ?_, hA, hG, v1, v2, v3⟩
  show (bo2 (FL_fake n w (nI i)) fun k w1 => bo2 (FX13_fake n w1 (nI i)) fun q w2 => chk k q w2) = some wF
  unfold FL_fake FX13_fake
  rw [lw_o hx, bo2_s, rIsS (ns := ns) (by rw [e15]; exact hm.s0), hd, bo1_s, rOpen (ns := ns) (by rw [e15]; exact hm.s0) hbs hi, e15, decide_eq_true ho, bo1_s, gb_tt, bnd2_s, if_pos rfl, er, bo2_s]
  exact ek
end STEPS2
