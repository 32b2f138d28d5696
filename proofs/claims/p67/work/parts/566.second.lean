set_option maxHeartbeats 400000
/-! one second; what is still to be earned -/
theorem RelN.num {M : MM} {r : Nat → Int32} {nv nc ns : Nat} {bk : Nat → Nat} (h : RelN M r nv nc ns bk) {j : Nat} (hj : j < ns) : ∃ c v so wd pa lo od fg ea, c < nc ∧ v < nv ∧ 1 ≤ wd ∧ wd ≤ 60 ∧ 1 ≤ pa ∧ pa ≤ 240 ∧ so ≤ 9999 ∧ lo ≤ 20 ∧ od ≤ 4 ∧ bk j ≤ od ∧ fg ≤ 9 ∧ ea ≤ 99 ∧ shF r j 0 = nI c ∧ shF r j 1 = nI v ∧ shF r j 2 = nI lo ∧ shF r j 3 = nI od ∧ shF r j 4 = nI ea ∧ shF r j 5 = nI so ∧ shF r j 7 = nI (bk j) ∧ vaF r v 0 = nI wd ∧ vaF r v 3 = nI fg ∧ cuF r c 0 = nI pa ∧ (shF r j 6 = 0 → bk j < od) := by
  have hbv := h.bv
  have hbc := h.bc
  obtain ⟨c, v, lo, od, ea, so, st, mk, wd, pa, tm, h1, h2, l1, l2, o1, o2, b1, ea1, ea2, st1, mk1, so1, so2, q0, q1, q2, q3, q4, q5, q6, q7, q8, q9, q10, q11, q12, q13, q14, q15, q16, q17⟩ := (h.ss j hj).rest
  obtain ⟨a, a1, a2, a3⟩ := (h.vs v h2).width
  obtain ⟨b, c1, c2, c3⟩ := (h.cs c h1).patience
  obtain ⟨fg, g1, g2⟩ := (h.vs v h2).fog
  exact ⟨c, v, so, a, b, lo, od, fg, ea, h1, h2, a1, a2, c1, c2, so2, l2, o2, b1, g1, ea2, q0, q1, q2, q3, q4, q5, (h.ss j hj).back, a3, g2, c3, fun z => q14 ((nI_eq (a := st) (b := 0) (by omega) (by decide)).mp (q6.symm.trans z))⟩
def sec (r : Nat → Int32) (j k : Nat) : Nat := (shF r j 5).toNatClampNeg + (vaF r (shF r j 1).toNatClampNeg 0).toNatClampNeg * (k + 1)
def ends (r : Nat → Int32) (j : Nat) : Nat := (shF r j 5).toNatClampNeg + (cuF r (shF r j 0).toNatClampNeg 0).toNatClampNeg
def tcI (r : Nat → Int32) (j E b k : Nat) : Int32 := if b ≤ k ∧ k < (shF r j 3).toNatClampNeg ∧ sec r j k ≤ E ∧ sec r j k ≤ ends r j ∧ 2 * (k + 1) + (vaF r (shF r j 1).toNatClampNeg 3).toNatClampNeg + 1 ≤ (shF r j 2).toNatClampNeg then shF r j 4 else 0
def tc (r : Nat → Int32) (E j : Nat) : Int32 := if shF r j 6 = 0 then isum 4 (tcI r j E (shF r j 7).toNatClampNeg) else 0
def Pot (r : Nat → Int32) (ns E : Nat) : Int32 := r 4 + isum ns (tc r E)
theorem tc_congr {r r' : Nat → Int32} {j E : Nat} (h : ∀ k, k < 9 → shF r' j k = shF r j k) (h0 : vaF r' (shF r j 1).toNatClampNeg 0 = vaF r (shF r j 1).toNatClampNeg 0) (h3 : vaF r' (shF r j 1).toNatClampNeg 3 = vaF r (shF r j 1).toNatClampNeg 3) (hc : cuF r' (shF r j 0).toNatClampNeg 0 = cuF r (shF r j 0).toNatClampNeg 0) : tc r' E j = tc r E j := by
  have e : tcI r' j E = tcI r j E := by
    funext b k
    unfold tcI sec ends
    rw [h 0 (by decide), h 1 (by decide), h 2 (by decide), h 3 (by decide), h 4 (by decide), h 5 (by decide), h0, h3, hc]
  unfold tc
  rw [h 6 (by decide), h 7 (by decide), e]
theorem Dy.tcs {r r' : Nat → Int32} {j E : Nat} (hD : Dy r r') (h : ∀ k, k < 9 → shF r' j k = shF r j k) (hv : (shF r j 1).toNatClampNeg < 8) (hc : (shF r j 0).toNatClampNeg < 8) : tc r' E j = tc r E j := tc_congr h (hD.2.1 _ hv 0 (by decide) (by decide) (by decide)) (hD.2.1 _ hv 3 (by decide) (by decide) (by decide)) (hD.2.2.1 _ hc 0 (by decide) (by decide) (by decide) (by decide))
/-- the clock goes on -/
theorem RelN.clock {M : MM} {r r' : Nat → Int32} {nv nc ns : Nat} {bk : Nat → Nat} (h : RelN M r nv nc ns bk) {t t' : Nat} (et : r 3 = nI t) (ht : t ≤ t') (ht' : t' ≤ 10300) (hr : ∀ k, k ≠ 3 → r' k = r k) (hr3 : r' 3 = nI t') : RelN (sI M 0 6 (nI t')) r' nv nc ns bk := by
  have m0 : ∀ k, k ≠ 6 → (sI M 0 6 (nI t')).1 0 k = M.1 0 k := fun k hk => by rw [sI_at, if_neg hk]
  have mo : ∀ j, j ≠ 0 → (sI M 0 6 (nI t')).1 j = M.1 j := fun j hj => sI_o _ _ _ hj
  have eV : ∀ v k, vaF r' v k = vaF r v k := fun v k => hr _ (by omega)
  have eC : ∀ v k, cuF r' v k = cuF r v k := fun v k => hr _ (by omega)
  have eS : ∀ v k, shF r' v k = shF r v k := fun v k => hr _ (by omega)
  have eL : ∀ j, lft r' j = lft r j := fun j => by
    unfold lft
    rw [eS j 6, eS j 4, eS j 3, eS j 7]
  refine RelN.mk h.bv h.bc h.bs ((hr 0 (by decide)).trans h.v0) ((hr 1 (by decide)).trans h.c0) ((hr 2 (by decide)).trans h.s0) ((m0 3 (by decide)).trans h.v1) ((m0 4 (by decide)).trans h.c1) ((m0 5 (by decide)).trans h.s1) ?_ ?_ ?_ ?_ ?_ ?_ ?_ ?_ ⟨t', ht', hr3⟩ ?_ (fun v hv => ?_) (fun c hc => ?_) (fun j hj => ?_)
  · rw [sI_at, if_pos rfl, hr3]
  · rw [m0 7 (by decide), hr 6 (by decide)]; exact h.depth
  · rw [m0 8 (by decide), hr 4 (by decide)]; exact h.earn
  · rw [m0 9 (by decide), hr 5 (by decide)]; exact h.refd
  · rw [m0 10 (by decide), h.hold]; exact isum_congr (fun j _ => (eL j).symm)
  · rw [m0 11 (by decide), h.hear]; exact isum_congr (fun j _ => by rw [eS j 8])
  · rw [m0 12 (by decide), h.lost]; exact isum_congr (fun j _ => by rw [eS j 8, eS j 7])
  · rw [hr 7 (by decide), ← h.frst]; exact isum_congr (fun c _ => by rw [mo _ (by omega)])
  · rw [hr 6 (by decide)]; exact h.dp
  · have q := h.vs v hv
    have f := mo (4 + v) (by omega)
    refine RelV.mk ?_ ?_ ?_ ?_ ?_ ?_ ?_ ?_ ?_ ?_ ?_ ?_ ?_
    · rw [f, eV]; exact q.e1
    · rw [f, eV]; exact q.e2
    · rw [f, eV]; exact q.e3
    · rw [f, eV]; exact q.e4
    · rw [f, eV]; exact q.e5
    · rw [f, eV]; exact q.e7
    · rw [f, q.e6]; exact isum_congr (fun j _ => by rw [eS j 1, eS j 4, eS j 8])
    · rw [eV, eV]; exact q.name
    · rw [eV]; exact q.width
    · rw [eV]; exact q.walls
    · rw [eV]; exact q.price
    · rw [eV]; exact q.fog
    · rw [eV]; exact q.rating
  · have q := h.cs c hc
    have f := mo (12 + c) (by omega)
    refine RelC.mk ?_ ?_ ?_ ?_ ?_ ?_ ?_
    · rw [f, eC]; exact q.e1
    · rw [f, eC]; exact q.e3
    · rw [f, eC]; exact q.e4
    · rw [f, eC]; exact q.e6
    · rw [f, q.e5]; exact isum_congr (fun j _ => by rw [eS j 0, eL j])
    · rw [eC, eC]; exact q.name
    · rw [eC]; exact q.patience
  · have q := h.ss j hj
    have f := mo (20 + j) (by omega)
    obtain ⟨c, v, lo, od, ea, so, st, mk, wd, pa, tm, h1, h2, l1, l2, o1, o2, b1, ea1, ea2, st1, mk1, so1, so2, q0, q1, q2, q3, q4, q5, q6, q7, q8, q9, q10, q11, q12, q13, q14, q15, q16, q17⟩ := q.rest
    have etm : tm = t := (nI_eq (by omega) (by omega)).mp (q12.symm.trans et)
    refine RelS2.mk ?_ ?_ ?_ ?_ ?_ ?_ ?_ ?_ ?_ ?_ ⟨c, v, lo, od, ea, so, st, mk, wd, pa, t', h1, h2, l1, l2, o1, o2, b1, ea1, ea2, st1, mk1, by omega, so2, (eS j 0).trans q0, (eS j 1).trans q1, (eS j 2).trans q2, (eS j 3).trans q3, (eS j 4).trans q4, (eS j 5).trans q5, (eS j 6).trans q6, (eS j 8).trans q7, (eV v 0).trans q8, by rw [f]; exact q9, (eC c 0).trans q10, by rw [f]; exact q11, hr3, ht', q14, q15, q16, q17⟩
    · rw [f, eS]; exact q.e0
    · rw [f, eS]; exact q.e1
    · rw [f, eS]; exact q.e2
    · rw [f, eS]; exact q.e3
    · rw [f, eS]; exact q.e4
    · rw [f, eS]; exact q.e6
    · rw [f, eS]; exact q.e8
    · rw [f, eS]; exact q.e9
    · rw [f, eS]; exact q.e10
    · rw [eS]; exact q.back
theorem cRetN {M : MM} {r : Nat → Int32} {nv nc ns : Nat} {bk : Nat → Nat} (h : RelN M r nv nc ns bk) {i : Nat} (hi : i < ns) : FX8_secondOfNext M (20 + i) = retI r i := by
  obtain ⟨c, v, so, wd, pa, -, -, -, -, -, -, -, -, -, -, -, -, q5, q6, -, q7, -, -⟩ := h.due hi
  have hS := h.ss i hi
  unfold FX8_secondOfNext FX8_secondOf
  rw [bnd_s, hS.e6, hS.e9, q7, q5, hS.back, nI_1, pk_mul, nI_add, q6]
theorem loud_d : ∀ lo : Fin 21, ∀ b : Fin 5, ∀ g : Fin 10, (if (nI lo.val - 2 * (nI b.val + 1)) - nI g.val < 1 then false else true) = decide (2 * (b.val + 1) + g.val + 1 ≤ lo.val) := by decide +kernel
theorem cHeard {M : MM} {r : Nat → Int32} {nv nc ns : Nat} {bk : Nat → Nat} (h : RelN M r nv nc ns bk) {i : Nat} (hi : i < ns) {a : Nat} (ha : a ≤ 10) : FX6_isHeardFrom M (20 + i) (nI a) = some (decide (2 * a + (vaF r (shF r i 1).toNatClampNeg 3).toNatClampNeg + 1 ≤ (shF r i 2).toNatClampNeg)) := by
  have hbv := h.bv
  obtain ⟨c, v, so, wd, pa, lo, od, fg, ea, h1, h2, w1, w2, p1, p2, s1, l1, o1, b1, g1, x1, q0, q1, q2, q3, q4, q5, q7, q8, q9, q10, -⟩ := h.num hi
  have hS := h.ss i hi
  unfold FX6_isHeardFrom FX10_loudnessNeeded
  rw [hS.e1, q1, gd_t (inI (by omega) (by omega)), nI_c (by omega), (h.vs v h2).e4, q9, hS.e2, q2, bnd_s, show (2 : Int32) * nI a = nI (2 * a) from pk_mul 2 a, nI_add, nI_1, nI_c (by omega), nI_c (by omega)]
  by_cases z : 2 * a + fg + 1 ≤ lo
  · rw [if_neg (by rw [nI_ltI (by omega) (by omega)]; omega), decide_eq_true z]
  · rw [if_pos (by rw [nI_ltI (by omega) (by omega)]; omega), decide_eq_false z]
theorem rLoudOf {M : MM} {w : Wd} {nv nc ns : Nat} {bk : Nat → Nat} (h : RelN M (row w) nv nc ns bk) {i : Nat} (hi : i < ns) : ∃ x, FX13_loudnessOf w (nI i) = some x ∧ (if x < 1 then false else true) = decide (2 * (bk i + 1) + (vaF (row w) (shF (row w) i 1).toNatClampNeg 3).toNatClampNeg + 1 ≤ (shF (row w) i 2).toNatClampNeg) := by
  have hbv := h.bv
  have hbs := h.bs
  obtain ⟨c, v, so, wd, pa, lo, od, fg, ea, h1, h2, w1, w2, p1, p2, s1, l1, o1, b1, g1, x1, q0, q1, q2, q3, q4, q5, q7, q8, q9, q10, -⟩ := h.num hi
  refine ⟨(nI lo - 2 * (nI (bk i) + 1)) - nI fg, ?_, ?_⟩
  · unfold FX13_loudnessOf
    rw [rS2 (by omega), bo1_s, rS7 (by omega), bo1_s, rS1 (by omega), bo1_s, q1, rV3 (by omega), bo1_s, q2, q7, q9]
  · rw [q1, nI_c (by omega), q9, nI_c (by omega), q2, nI_c (by omega)]
    exact loud_d ⟨lo, by omega⟩ ⟨bk i, by omega⟩ ⟨fg, by omega⟩
