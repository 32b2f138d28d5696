set_option maxHeartbeats 400000
/-! WHAT A LINE DOES to the reference's row and to the world -/
/-- a world and the row that is being read -/
def RV (V : MM) (v : Wd) (nv nc ns t : Nat) : Prop := TW V v nv nc ns ∧ (∃ M, RM M (row v)) ∧ ∃ s, row v 3 = nI s ∧ s ≤ t
section ROWS3
variable {n nv nc ns t : Nat} {V : MM} {v v' : Wd}
theorem RV.ro (h : RV V v nv nc ns t) (e : row v' = row v) : RV V v' nv nc ns t := by
  obtain ⟨h1, h2, h3⟩ := h
  refine ⟨h1.row e, ?_, ?_⟩
  · rw [e]; exact h2
  · rw [e]; exact h3
theorem RV.go (h : RV V v nv nc ns t) (hF : GoF v v') : RV V v' nv nc ns t := h.ro (hF.2.1 2 (by decide))
theorem RV.le {t' : Nat} (h : RV V v nv nc ns t) (ht : t ≤ t') : RV V v nv nc ns t' := by
  obtain ⟨h1, h2, s, h3, h4⟩ := h
  exact ⟨h1, h2, s, h3, by omega⟩
theorem RV.nums (h : RV V v nv nc ns t) : ∃ M bk, RelM M (row v) nv nc ns bk := by
  obtain ⟨⟨-, -, -, -, M, bk', q⟩, ⟨M', nv', nc', ns', bk, hm⟩, -⟩ := h
  have e1 : nv' = nv := (nI_eq (by have := hm.bv; omega) (by have := q.bv; omega)).mp (hm.v0.symm.trans q.v0)
  have e2 : nc' = nc := (nI_eq (by have := hm.bc; omega) (by have := q.bc; omega)).mp (hm.c0.symm.trans q.c0)
  have e3 : ns' = ns := (nI_eq (by have := hm.bs; omega) (by have := q.bs; omega)).mp (hm.s0.symm.trans q.s0)
  subst e1; subst e2; subst e3
  exact ⟨M', bk, hm⟩
theorem step_V (hR : RV V v nv nc ns t) (hnv : nv < 8) {wd wl pr : Nat} (w1 : 1 ≤ wd) (w2 : wd ≤ 60) (l1 : 1 ≤ wl) (l2 : wl ≤ 4) (p1 : 1 ≤ pr) (p2 : pr ≤ 99) : ∃ V' v', FX13_addsValley v (lN (pk5 [22, nv + 1])) (nI wd) (nI wl) (nI pr) = some (nI nv, v') ∧ FW_addValley V (nI wd) (nI wl) (nI pr) = some (nI nv, V') ∧ Fr v v' ∧ RV V' v' (nv + 1) nc ns t := by
  obtain ⟨M, bk, hm⟩ := hR.nums
  obtain ⟨t', ht, et⟩ := hm.tm
  obtain ⟨M', w', y1, y2, y3, y4, y5, y6⟩ := valley_pair hm.toN hnv (nm_ok (a := 22) (v := nv) (by decide) hnv) w1 w2 l1 l2 p1 p2
  obtain ⟨V', b', g1, g2, g3⟩ := tw_addV hR.1 hnv w1 w2 l1 l2 p1 p2
  have e2 : b' = w' := congrArg Prod.snd (Option.some.inj (g1.symm.trans y2))
  subst e2
  obtain ⟨-, -, s, s1, s2⟩ := hR
  exact ⟨V', b', g1, g2, y3, g3, ⟨M', nv + 1, nc, ns, bk, y4.toM ht (y5.trans et) (y6 t' (hm.tmOk ht et))⟩, s, y5.trans s1, s2⟩
theorem step_C (hR : RV V v nv nc ns t) (hnc : nc < 8) {pa mo : Nat} (p1 : 1 ≤ pa) (p2 : pa ≤ 240) (m2 : mo ≤ 9999) : ∃ V' v', FX13_addsCustomer v (lN (pk5 [3, nc + 1])) (nI pa) (nI mo) = some (nI nc, v') ∧ FW_addCustomer V (nI pa) (nI mo) = some (nI nc, V') ∧ Fr v v' ∧ RV V' v' nv (nc + 1) ns t := by
  obtain ⟨M, bk, hm⟩ := hR.nums
  obtain ⟨t', ht, et⟩ := hm.tm
  obtain ⟨M', w', y1, y2, y3, y4, y5, y6⟩ := customer_pair hm.toN hnc (nm_ok (a := 3) (v := nc) (by decide) hnc) (mo := nI mo) p1 p2
  obtain ⟨V', b', g1, g2, g3⟩ := tw_addC hR.1 hnc p1 p2 m2
  have e2 : b' = w' := congrArg Prod.snd (Option.some.inj (g1.symm.trans y2))
  subst e2
  obtain ⟨-, -, s, s1, s2⟩ := hR
  exact ⟨V', b', g1, g2, y3, g3, ⟨M', nv, nc + 1, ns, bk, y4.toM ht (y5.trans et) (y6 t' (hm.tmOk ht et))⟩, s, y5.trans s1, s2⟩
theorem RV.why (hn : 100 ≤ n) (hR : RV V v nv nc ns t) {c u : Nat} (hc : c < nc) (hv : u < nv) (o : Int32) : FW_refusal n V (nI c) (nI u) o = some (whyF (row v) ns c u o) := by
  obtain ⟨M, bk, hm⟩ := hR.nums
  exact refusal_ok hn hR.1.1 hm hc hv o
theorem why_30 {r : Nat → Int32} {c u : Nat} {o : Int32} (hw : whyF r ns c u o = 0) : ns ≠ 30 := fun z => by
  unfold whyF at hw
  rw [if_pos z] at hw
  exact absurd hw (by decide)
theorem step_S (hR : RV V v nv nc ns t) {c u lo od : Nat} (hc : c < nc) (hv : u < nv) (l1 : 1 ≤ lo) (l2 : lo ≤ 20) (o1 : 1 ≤ od) (o2 : od ≤ 4) (hw : whyF (row v) ns c u (nI od) = 0) : ∃ V' v', FX13_sells v (nI c) (nI u) (nI lo) (nI od) = some (nI ns, v') ∧ FW_sell V (nI c) (nI u) (nI lo) (nI od) = some (nI ns, V') ∧ Fr v v' ∧ RV V' v' nv nc (ns + 1) t := by
  obtain ⟨M, bk, hm⟩ := hR.nums
  have hbs := hm.bs
  have h30 := why_30 hw
  have hns : ns < 30 := by omega
  obtain ⟨t', ht, et⟩ := hm.tm
  obtain ⟨M', w', bk', q1, q2, q3, q4, q5, q6⟩ := sell_pair hm.toN hns hc hv l1 l2 o1 o2 ht et (hm.tmOk ht et)
  obtain ⟨V', b', p1, p2, p3⟩ := tw_sell hR.1 hns hc hv l1 l2 o1 o2 ht et (hm.tmOk ht et) hw
  have e2 : b' = w' := congrArg Prod.snd (Option.some.inj (p1.symm.trans q2))
  subst e2
  obtain ⟨-, -, s, s1, s2⟩ := hR
  exact ⟨V', b', p1, p2, q3, p3, ⟨M', nv, nc, ns + 1, bk', q4.toM ht q5 q6⟩, s, (q5.trans et.symm).trans s1, s2⟩
theorem step_P (hn : 1000 ≤ n) (hR : RV V v nv nc ns t) {s : Nat} (s2 : s ≤ 240) (hl : t + s ≤ 9999) : ∃ x V' v', FX13_passes n v (nI s) = some (x, v') ∧ FW_pass n V (nI s) = some (x, V') ∧ Fr v v' ∧ RV V' v' nv nc ns (t + s) := by
  obtain ⟨M, bk, hm⟩ := hR.nums
  obtain ⟨hT, -, t', et, ht⟩ := hR
  obtain ⟨x, M', w', bk', q1, q2, q3, q4, q5, q6, -⟩ := pass_pair hn hm.toN et (hm.tmOk (by omega) et) s2 (by omega)
  obtain ⟨x2, V2, b2, p1, p2, p3, p4⟩ := pass_3 hn s2 s 0 (by omega) n n (by omega) (by omega) V v t' 0 hT et (by omega)
  have hj := Option.some.inj (p1.symm.trans q2)
  have e1 : x2 = x := congrArg Prod.fst hj
  have e2 : b2 = w' := congrArg Prod.snd hj
  subst e1; subst e2
  exact ⟨x2, V2, b2, q2, p2, q3, p3, ⟨M', nv, nc, ns, bk', q4.toM (by omega) q5 q6⟩, t' + s, p4, by omega⟩
end ROWS3
