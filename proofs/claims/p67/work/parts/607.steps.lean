set_option maxHeartbeats 400000
/-! A CHANGE on all three sides: the class answers, the reference goes along, the world does the same -/
theorem tw_nums {V : MM} {w : Wd} {nv nc ns : Nat} (h : Good w) (hT : TW V w nv nc ns) : ∃ bk, RelM (w 1) (row w) nv nc ns bk := by
  obtain ⟨nv', nc', ns', bk, hm⟩ := h.m
  obtain ⟨-, -, -, -, M, bk', q⟩ := hT
  have e1 : nv' = nv := (nI_eq (by have := hm.bv; omega) (by have := q.bv; omega)).mp (hm.v0.symm.trans q.v0)
  have e2 : nc' = nc := (nI_eq (by have := hm.bc; omega) (by have := q.bc; omega)).mp (hm.c0.symm.trans q.c0)
  have e3 : ns' = ns := (nI_eq (by have := hm.bs; omega) (by have := q.bs; omega)).mp (hm.s0.symm.trans q.s0)
  subst e1; subst e2; subst e3
  exact ⟨bk, hm⟩
/-- the relation, said of a row -/
def TR (V : MM) (r : Nat → Int32) (nv nc ns : Nat) : Prop := WR V r nv nc ns ∧ EM r nc ns ∧ DA r nc ns ∧ NM r nv nc ∧ ∃ M bk, RelN M r nv nc ns bk
section STEPS
variable {n nv nc ns : Nat} {w : Wd} {V : MM}
theorem st_pass (hn : 2500 ≤ n) (h : Good w) (hT : TW V w nv nc ns) {t s : Nat} (et : row w 3 = nI t) (s1 : 1 ≤ s) (s2 : s ≤ 240) (hl : t + s ≤ 9999) : ∃ x w' w9 V', FX12_pass n w (nI s) = some (.ok (x, w')) ∧ FLc_58 n w (nI s) 0 0 0 0 = some w9 ∧ AG w9 w' ∧ GT w w9 ∧ FW_pass n V (nI s) = some (x, V') ∧ TW V' w9 nv nc ns ∧ row w9 3 = nI (t + s) := by
  obtain ⟨bk, hm⟩ := tw_nums h hT
  have hd : FX12_isWithin (nI s) 1 240 = true := wi_iff.mpr ⟨nI_nlt (a := s) (b := 1) s1 (by omega), nI_nlt (a := 240) (b := s) s2 (by omega)⟩
  have hnl : ¬ (9999 : Int32) < nI t + nI s := by
    rw [nI_add]
    show ¬ nI 9999 < nI (t + s)
    rw [nI_ltI (by omega) (by omega)]
    omega
  obtain ⟨w6, x, M', wF, e6, e61, ec, e15, er, ek, hG, hA, V', v1, v2, v3⟩ := und_2 (Pq := fun x M' r' => ∃ V', FW_pass n V (nI s) = some (x, V') ∧ TR V' r' nv nc ns ∧ r' 3 = nI (t + s)) hn h (fun M => FX6_letPass n M (nI s)) (fun w => FX13_passes n w (nI s)) (fun w9 hr => by
    have hN : RelN (w 1) (row w9) nv nc ns bk := by rw [hr]; exact hm.toN
    have hTm : TmOk (row w9) ns t := by rw [hr]; exact hm.tmOk (by omega) et
    obtain ⟨x, M', w', bk', q1, q2, q3, q4, q5, q6, -⟩ := pass_pair (n := n) (by omega) hN (by rw [hr]; exact et) hTm s2 (by omega)
    obtain ⟨x2, V2, b2, p1, p2, p3, p4⟩ := pass_3 (n := n) (by omega) s2 s 0 (by omega) n n (by omega) (by omega) V w9 t 0 (hT.row hr) (by rw [hr]; exact et) (by omega)
    have hj := Option.some.inj (p1.symm.trans q2)
    have e1 : x2 = x := congrArg Prod.fst hj
    have e2 : b2 = w' := congrArg Prod.snd hj
    subst e1; subst e2
    exact ⟨x2, M', b2, q1, q2, q3, ⟨nv, nc, ns, bk', q4.toM hl q5 q6⟩, V2, p2, p3, p4⟩)
  have hx : FX12_pass n w (nI s) = some (.ok (x, sW w6 1 M')) := by
    unfold FX12_pass FX6_faultOfPassing
    rw [hd, bnd_s, bnd_s, if_pos rfl, hm.time, et, if_neg hnl]
    show (bo1 (FX5_remember n w 1) fun w6 => _) = _
    rw [e6, bo1_s, e61, ec, bo2_s, bnd_s]
  refine ⟨x, _, wF, V', hx, ?_, hA, hG, v1, v2, v3⟩
  show (bo2 (FL_pass n w (nI s)) fun k w1 => bo2 (FX13_pass n w1 (nI s)) fun q w2 => chk k q w2) = some wF
  unfold FL_pass FX13_pass
  have em : FX13_mayPass (ow (sW w6 1 M') x) (nI s) = some true := by
    unfold FX13_mayPass
    rw [gd3, show (ow (sW w6 1 M') x 15).1 2 3 = nI t from (congrFun e15 3).trans et, if_neg hnl]
  rw [rPat, hd, lw_o hx, bo2_s, bnd_s, bnd_s, if_pos rfl, em, bo1_s, if_pos rfl, gb_tt, bnd2_s, if_pos rfl, er, bo2_s]
  exact ek
end STEPS
