set_option maxHeartbeats 400000
/-! the frame of a change of the reference's row; the relation of a market and a row without the clock -/
def Fr (w w' : Wd) : Prop := (∀ r, r ≠ 15 → w' r = w r) ∧ (w' 15).2 = (w 15).2 ∧ (∀ j, j ≠ 0 → j ≠ 2 → (w' 15).1 j = (w 15).1 j) ∧ ∀ k, k ≠ 20 → k ≠ 31 → (w' 15).1 0 k = (w 15).1 0 k
theorem Fr.refl (w : Wd) : Fr w w := ⟨fun _ _ => rfl, rfl, fun _ _ _ => rfl, fun _ _ _ => rfl⟩
theorem Fr.trans {w w1 w2 : Wd} (h : Fr w w1) (h2 : Fr w1 w2) : Fr w w2 := ⟨fun r hr => (h2.1 r hr).trans (h.1 r hr), h2.2.1.trans h.2.1, fun j a b => (h2.2.2.1 j a b).trans (h.2.2.1 j a b), fun k a b => (h2.2.2.2 k a b).trans (h.2.2.2 k a b)⟩
theorem Fr.of_rs (w : Wd) (k : Nat) (x : Int32) : Fr w (rs w k x) := ⟨fun _ hr => rs_o w k x hr, by rw [rs_15]; rfl, fun _ _ b => rs_j w k x b, fun k' _ _ => by rw [rs_j w k x (j := 0) (by decide)]⟩
theorem Fr.to_rs {w w' : Wd} (h : Fr w w') (k : Nat) (x : Int32) : Fr w (rs w' k x) := h.trans (Fr.of_rs w' k x)
/-- the reference's notes of the last echo and the last change -/
def nt (w : Wd) (k : Nat) (x : Int32) : Wd := sW w 15 (sI (w 15) 0 k x)
theorem nt_row (w : Wd) (k : Nat) (x : Int32) : row (nt w k x) = row w := by
  unfold row nt
  rw [sW_s]
  exact sI_o _ _ _ (by decide)
theorem Fr.nt20 (w : Wd) (x : Int32) : Fr w (nt w 20 x) := ⟨fun _ hr => sW_o w _ hr, by unfold nt; rw [sW_s]; rfl, fun _ a _ => by unfold nt; rw [sW_s]; exact sI_o _ _ _ a, fun k a _ => by unfold nt; rw [sW_s, sI_at, if_neg a]⟩
theorem Fr.nt31 (w : Wd) (x : Int32) : Fr w (nt w 31 x) := ⟨fun _ hr => sW_o w _ hr, by unfold nt; rw [sW_s]; rfl, fun _ a _ => by unfold nt; rw [sW_s]; exact sI_o _ _ _ a, fun k _ b => by unfold nt; rw [sW_s, sI_at, if_neg b]⟩
def RelS2 (M : MM) (r : Nat → Int32) (nv nc i : Nat) (bk : Nat) : Prop :=
  (M.1 (20 + i) 0 = shF r i 0) ∧
  (M.1 (20 + i) 1 = shF r i 1) ∧
  (M.1 (20 + i) 2 = shF r i 2) ∧
  (M.1 (20 + i) 3 = shF r i 3) ∧
  (M.1 (20 + i) 4 = shF r i 4) ∧
  (M.1 (20 + i) 6 = shF r i 5) ∧
  (M.1 (20 + i) 8 = shF r i 6) ∧
  (M.1 (20 + i) 9 = shF r i 7) ∧
  (M.1 (20 + i) 10 = shF r i 8) ∧
  (shF r i 7 = nI bk) ∧
  (∃ c v lo od ea so st mk wd pa tm, c < nc ∧ v < nv ∧ 1 ≤ lo ∧ lo ≤ 20 ∧ 1 ≤ od ∧ od ≤ 4 ∧ bk ≤ od ∧ 1 ≤ ea ∧ ea ≤ 99 ∧ st ≤ 2 ∧ mk < 2 ^ bk ∧ so ≤ tm ∧ so ≤ 9999 ∧
    shF r i 0 = nI c ∧ shF r i 1 = nI v ∧ shF r i 2 = nI lo ∧ shF r i 3 = nI od ∧ shF r i 4 = nI ea ∧ shF r i 5 = nI so ∧ shF r i 6 = nI st ∧ shF r i 8 = nI mk ∧
    vaF r v 0 = nI wd ∧ M.1 (20 + i) 5 = nI wd ∧ cuF r c 0 = nI pa ∧ M.1 (20 + i) 7 = nI (so + pa) ∧ r 3 = nI tm ∧ tm ≤ 10300 ∧ (st = 0 → bk < od) ∧ (st = 1 → bk = od) ∧ wd ≤ 60 ∧ pa ≤ 240)
theorem RelS2.e0 {M : MM} {r : Nat → Int32} {nv nc i : Nat} {bk : Nat} (h : RelS2 M r nv nc i bk) : M.1 (20 + i) 0 = shF r i 0 := h.1
theorem RelS2.e1 {M : MM} {r : Nat → Int32} {nv nc i : Nat} {bk : Nat} (h : RelS2 M r nv nc i bk) : M.1 (20 + i) 1 = shF r i 1 := h.2.1
theorem RelS2.e2 {M : MM} {r : Nat → Int32} {nv nc i : Nat} {bk : Nat} (h : RelS2 M r nv nc i bk) : M.1 (20 + i) 2 = shF r i 2 := h.2.2.1
theorem RelS2.e3 {M : MM} {r : Nat → Int32} {nv nc i : Nat} {bk : Nat} (h : RelS2 M r nv nc i bk) : M.1 (20 + i) 3 = shF r i 3 := h.2.2.2.1
theorem RelS2.e4 {M : MM} {r : Nat → Int32} {nv nc i : Nat} {bk : Nat} (h : RelS2 M r nv nc i bk) : M.1 (20 + i) 4 = shF r i 4 := h.2.2.2.2.1
theorem RelS2.e6 {M : MM} {r : Nat → Int32} {nv nc i : Nat} {bk : Nat} (h : RelS2 M r nv nc i bk) : M.1 (20 + i) 6 = shF r i 5 := h.2.2.2.2.2.1
theorem RelS2.e8 {M : MM} {r : Nat → Int32} {nv nc i : Nat} {bk : Nat} (h : RelS2 M r nv nc i bk) : M.1 (20 + i) 8 = shF r i 6 := h.2.2.2.2.2.2.1
theorem RelS2.e9 {M : MM} {r : Nat → Int32} {nv nc i : Nat} {bk : Nat} (h : RelS2 M r nv nc i bk) : M.1 (20 + i) 9 = shF r i 7 := h.2.2.2.2.2.2.2.1
theorem RelS2.e10 {M : MM} {r : Nat → Int32} {nv nc i : Nat} {bk : Nat} (h : RelS2 M r nv nc i bk) : M.1 (20 + i) 10 = shF r i 8 := h.2.2.2.2.2.2.2.2.1
theorem RelS2.back {M : MM} {r : Nat → Int32} {nv nc i : Nat} {bk : Nat} (h : RelS2 M r nv nc i bk) : shF r i 7 = nI bk := h.2.2.2.2.2.2.2.2.2.1
theorem RelS2.rest {M : MM} {r : Nat → Int32} {nv nc i : Nat} {bk : Nat} (h : RelS2 M r nv nc i bk) : ∃ c v lo od ea so st mk wd pa tm, c < nc ∧ v < nv ∧ 1 ≤ lo ∧ lo ≤ 20 ∧ 1 ≤ od ∧ od ≤ 4 ∧ bk ≤ od ∧ 1 ≤ ea ∧ ea ≤ 99 ∧ st ≤ 2 ∧ mk < 2 ^ bk ∧ so ≤ tm ∧ so ≤ 9999 ∧
    shF r i 0 = nI c ∧ shF r i 1 = nI v ∧ shF r i 2 = nI lo ∧ shF r i 3 = nI od ∧ shF r i 4 = nI ea ∧ shF r i 5 = nI so ∧ shF r i 6 = nI st ∧ shF r i 8 = nI mk ∧
    vaF r v 0 = nI wd ∧ M.1 (20 + i) 5 = nI wd ∧ cuF r c 0 = nI pa ∧ M.1 (20 + i) 7 = nI (so + pa) ∧ r 3 = nI tm ∧ tm ≤ 10300 ∧ (st = 0 → bk < od) ∧ (st = 1 → bk = od) ∧ wd ≤ 60 ∧ pa ≤ 240 := h.2.2.2.2.2.2.2.2.2.2
theorem RelS2.mk {M : MM} {r : Nat → Int32} {nv nc i : Nat} {bk : Nat} (h_e0 : M.1 (20 + i) 0 = shF r i 0) (h_e1 : M.1 (20 + i) 1 = shF r i 1) (h_e2 : M.1 (20 + i) 2 = shF r i 2) (h_e3 : M.1 (20 + i) 3 = shF r i 3) (h_e4 : M.1 (20 + i) 4 = shF r i 4) (h_e6 : M.1 (20 + i) 6 = shF r i 5) (h_e8 : M.1 (20 + i) 8 = shF r i 6) (h_e9 : M.1 (20 + i) 9 = shF r i 7) (h_e10 : M.1 (20 + i) 10 = shF r i 8) (h_back : shF r i 7 = nI bk) (h_rest : ∃ c v lo od ea so st mk wd pa tm, c < nc ∧ v < nv ∧ 1 ≤ lo ∧ lo ≤ 20 ∧ 1 ≤ od ∧ od ≤ 4 ∧ bk ≤ od ∧ 1 ≤ ea ∧ ea ≤ 99 ∧ st ≤ 2 ∧ mk < 2 ^ bk ∧ so ≤ tm ∧ so ≤ 9999 ∧
    shF r i 0 = nI c ∧ shF r i 1 = nI v ∧ shF r i 2 = nI lo ∧ shF r i 3 = nI od ∧ shF r i 4 = nI ea ∧ shF r i 5 = nI so ∧ shF r i 6 = nI st ∧ shF r i 8 = nI mk ∧
    vaF r v 0 = nI wd ∧ M.1 (20 + i) 5 = nI wd ∧ cuF r c 0 = nI pa ∧ M.1 (20 + i) 7 = nI (so + pa) ∧ r 3 = nI tm ∧ tm ≤ 10300 ∧ (st = 0 → bk < od) ∧ (st = 1 → bk = od) ∧ wd ≤ 60 ∧ pa ≤ 240) : RelS2 M r nv nc i bk := And.intro h_e0 (And.intro h_e1 (And.intro h_e2 (And.intro h_e3 (And.intro h_e4 (And.intro h_e6 (And.intro h_e8 (And.intro h_e9 (And.intro h_e10 (And.intro h_back (h_rest))))))))))
def RelN (M : MM) (r : Nat → Int32) (nv nc ns : Nat) (bk : Nat → Nat) : Prop :=
  (nv ≤ 8) ∧
  (nc ≤ 8) ∧
  (ns ≤ 30) ∧
  (r 0 = nI nv) ∧
  (r 1 = nI nc) ∧
  (r 2 = nI ns) ∧
  (M.1 0 3 = nI nv) ∧
  (M.1 0 4 = nI nc) ∧
  (M.1 0 5 = nI ns) ∧
  (M.1 0 6 = r 3) ∧
  (M.1 0 7 = r 6) ∧
  (M.1 0 8 = r 4) ∧
  (M.1 0 9 = r 5) ∧
  (M.1 0 10 = isum ns (lft r)) ∧
  (M.1 0 11 = isum ns (fun i => bcI (shF r i 8))) ∧
  (M.1 0 12 = isum ns (fun i => shF r i 7 - bcI (shF r i 8))) ∧
  (isum nc (fun c => M.1 (12 + c) 2) = r 7) ∧
  (∃ a, a ≤ 10300 ∧ r 3 = nI a) ∧
  (∃ a, a ≤ 20 ∧ r 6 = nI a) ∧
  (∀ v, v < nv → RelV M r ns (nsum ns bk) v) ∧
  (∀ c, c < nc → RelC M r ns c) ∧
  (∀ i, i < ns → RelS2 M r nv nc i (bk i))
theorem RelN.bv {M : MM} {r : Nat → Int32} {nv nc ns : Nat} {bk : Nat → Nat} (h : RelN M r nv nc ns bk) : nv ≤ 8 := h.1
theorem RelN.bc {M : MM} {r : Nat → Int32} {nv nc ns : Nat} {bk : Nat → Nat} (h : RelN M r nv nc ns bk) : nc ≤ 8 := h.2.1
theorem RelN.bs {M : MM} {r : Nat → Int32} {nv nc ns : Nat} {bk : Nat → Nat} (h : RelN M r nv nc ns bk) : ns ≤ 30 := h.2.2.1
theorem RelN.v0 {M : MM} {r : Nat → Int32} {nv nc ns : Nat} {bk : Nat → Nat} (h : RelN M r nv nc ns bk) : r 0 = nI nv := h.2.2.2.1
theorem RelN.c0 {M : MM} {r : Nat → Int32} {nv nc ns : Nat} {bk : Nat → Nat} (h : RelN M r nv nc ns bk) : r 1 = nI nc := h.2.2.2.2.1
theorem RelN.s0 {M : MM} {r : Nat → Int32} {nv nc ns : Nat} {bk : Nat → Nat} (h : RelN M r nv nc ns bk) : r 2 = nI ns := h.2.2.2.2.2.1
theorem RelN.v1 {M : MM} {r : Nat → Int32} {nv nc ns : Nat} {bk : Nat → Nat} (h : RelN M r nv nc ns bk) : M.1 0 3 = nI nv := h.2.2.2.2.2.2.1
theorem RelN.c1 {M : MM} {r : Nat → Int32} {nv nc ns : Nat} {bk : Nat → Nat} (h : RelN M r nv nc ns bk) : M.1 0 4 = nI nc := h.2.2.2.2.2.2.2.1
theorem RelN.s1 {M : MM} {r : Nat → Int32} {nv nc ns : Nat} {bk : Nat → Nat} (h : RelN M r nv nc ns bk) : M.1 0 5 = nI ns := h.2.2.2.2.2.2.2.2.1
theorem RelN.time {M : MM} {r : Nat → Int32} {nv nc ns : Nat} {bk : Nat → Nat} (h : RelN M r nv nc ns bk) : M.1 0 6 = r 3 := h.2.2.2.2.2.2.2.2.2.1
theorem RelN.depth {M : MM} {r : Nat → Int32} {nv nc ns : Nat} {bk : Nat → Nat} (h : RelN M r nv nc ns bk) : M.1 0 7 = r 6 := h.2.2.2.2.2.2.2.2.2.2.1
theorem RelN.earn {M : MM} {r : Nat → Int32} {nv nc ns : Nat} {bk : Nat → Nat} (h : RelN M r nv nc ns bk) : M.1 0 8 = r 4 := h.2.2.2.2.2.2.2.2.2.2.2.1
theorem RelN.refd {M : MM} {r : Nat → Int32} {nv nc ns : Nat} {bk : Nat → Nat} (h : RelN M r nv nc ns bk) : M.1 0 9 = r 5 := h.2.2.2.2.2.2.2.2.2.2.2.2.1
theorem RelN.hold {M : MM} {r : Nat → Int32} {nv nc ns : Nat} {bk : Nat → Nat} (h : RelN M r nv nc ns bk) : M.1 0 10 = isum ns (lft r) := h.2.2.2.2.2.2.2.2.2.2.2.2.2.1
theorem RelN.hear {M : MM} {r : Nat → Int32} {nv nc ns : Nat} {bk : Nat → Nat} (h : RelN M r nv nc ns bk) : M.1 0 11 = isum ns (fun i => bcI (shF r i 8)) := h.2.2.2.2.2.2.2.2.2.2.2.2.2.2.1
theorem RelN.lost {M : MM} {r : Nat → Int32} {nv nc ns : Nat} {bk : Nat → Nat} (h : RelN M r nv nc ns bk) : M.1 0 12 = isum ns (fun i => shF r i 7 - bcI (shF r i 8)) := h.2.2.2.2.2.2.2.2.2.2.2.2.2.2.2.1
theorem RelN.frst {M : MM} {r : Nat → Int32} {nv nc ns : Nat} {bk : Nat → Nat} (h : RelN M r nv nc ns bk) : isum nc (fun c => M.1 (12 + c) 2) = r 7 := h.2.2.2.2.2.2.2.2.2.2.2.2.2.2.2.2.1
theorem RelN.tm {M : MM} {r : Nat → Int32} {nv nc ns : Nat} {bk : Nat → Nat} (h : RelN M r nv nc ns bk) : ∃ a, a ≤ 10300 ∧ r 3 = nI a := h.2.2.2.2.2.2.2.2.2.2.2.2.2.2.2.2.2.1
theorem RelN.dp {M : MM} {r : Nat → Int32} {nv nc ns : Nat} {bk : Nat → Nat} (h : RelN M r nv nc ns bk) : ∃ a, a ≤ 20 ∧ r 6 = nI a := h.2.2.2.2.2.2.2.2.2.2.2.2.2.2.2.2.2.2.1
theorem RelN.vs {M : MM} {r : Nat → Int32} {nv nc ns : Nat} {bk : Nat → Nat} (h : RelN M r nv nc ns bk) : ∀ v, v < nv → RelV M r ns (nsum ns bk) v := h.2.2.2.2.2.2.2.2.2.2.2.2.2.2.2.2.2.2.2.1
theorem RelN.cs {M : MM} {r : Nat → Int32} {nv nc ns : Nat} {bk : Nat → Nat} (h : RelN M r nv nc ns bk) : ∀ c, c < nc → RelC M r ns c := h.2.2.2.2.2.2.2.2.2.2.2.2.2.2.2.2.2.2.2.2.1
theorem RelN.ss {M : MM} {r : Nat → Int32} {nv nc ns : Nat} {bk : Nat → Nat} (h : RelN M r nv nc ns bk) : ∀ i, i < ns → RelS2 M r nv nc i (bk i) := h.2.2.2.2.2.2.2.2.2.2.2.2.2.2.2.2.2.2.2.2.2
theorem RelN.mk {M : MM} {r : Nat → Int32} {nv nc ns : Nat} {bk : Nat → Nat} (h_bv : nv ≤ 8) (h_bc : nc ≤ 8) (h_bs : ns ≤ 30) (h_v0 : r 0 = nI nv) (h_c0 : r 1 = nI nc) (h_s0 : r 2 = nI ns) (h_v1 : M.1 0 3 = nI nv) (h_c1 : M.1 0 4 = nI nc) (h_s1 : M.1 0 5 = nI ns) (h_time : M.1 0 6 = r 3) (h_depth : M.1 0 7 = r 6) (h_earn : M.1 0 8 = r 4) (h_refd : M.1 0 9 = r 5) (h_hold : M.1 0 10 = isum ns (lft r)) (h_hear : M.1 0 11 = isum ns (fun i => bcI (shF r i 8))) (h_lost : M.1 0 12 = isum ns (fun i => shF r i 7 - bcI (shF r i 8))) (h_frst : isum nc (fun c => M.1 (12 + c) 2) = r 7) (h_tm : ∃ a, a ≤ 10300 ∧ r 3 = nI a) (h_dp : ∃ a, a ≤ 20 ∧ r 6 = nI a) (h_vs : ∀ v, v < nv → RelV M r ns (nsum ns bk) v) (h_cs : ∀ c, c < nc → RelC M r ns c) (h_ss : ∀ i, i < ns → RelS2 M r nv nc i (bk i)) : RelN M r nv nc ns bk := And.intro h_bv (And.intro h_bc (And.intro h_bs (And.intro h_v0 (And.intro h_c0 (And.intro h_s0 (And.intro h_v1 (And.intro h_c1 (And.intro h_s1 (And.intro h_time (And.intro h_depth (And.intro h_earn (And.intro h_refd (And.intro h_hold (And.intro h_hear (And.intro h_lost (And.intro h_frst (And.intro h_tm (And.intro h_dp (And.intro h_vs (And.intro h_cs (h_ss)))))))))))))))))))))
/-- no open shout is due at x or before -/
def TmOk (r : Nat → Int32) (ns : Nat) (x : Nat) : Prop := ∀ i, i < ns → shF r i 6 = 0 → nI x < retI r i ∧ nI x < endI r i
theorem RelM.toN {M : MM} {r : Nat → Int32} {nv nc ns : Nat} {bk : Nat → Nat} (h : RelM M r nv nc ns bk) : RelN M r nv nc ns bk := by
  obtain ⟨t, ht, et⟩ := h.tm
  refine RelN.mk h.bv h.bc h.bs h.v0 h.c0 h.s0 h.v1 h.c1 h.s1 h.time h.depth h.earn h.refd h.hold h.hear h.lost h.frst ⟨t, by omega, et⟩ h.dp h.vs h.cs (fun i hi => ?_)
  have hs := h.ss i hi
  obtain ⟨c, v, lo, od, ea, so, st, mk, wd, pa, tm, h1, h2, l1, l2, o1, o2, b1, ea1, ea2, st1, mk1, so1, tm1, q0, q1, q2, q3, q4, q5, q6, q7, q8, q9, q10, q11, q12, q13, q14, q15, q16⟩ := hs.rest
  exact RelS2.mk hs.e0 hs.e1 hs.e2 hs.e3 hs.e4 hs.e6 hs.e8 hs.e9 hs.e10 hs.back ⟨c, v, lo, od, ea, so, st, mk, wd, pa, tm, h1, h2, l1, l2, o1, o2, b1, ea1, ea2, st1, mk1, so1, by omega, q0, q1, q2, q3, q4, q5, q6, q7, q8, q9, q10, q11, q12, by omega, fun z => (q13 z).1, q14, q15, q16⟩
/-- the seconds of an open shout as numbers -/
theorem RelN.due {M : MM} {r : Nat → Int32} {nv nc ns : Nat} {bk : Nat → Nat} (h : RelN M r nv nc ns bk) {i : Nat} (hi : i < ns) : ∃ c v so wd pa, c < nc ∧ v < nv ∧ 1 ≤ wd ∧ wd ≤ 60 ∧ 1 ≤ pa ∧ pa ≤ 240 ∧ so ≤ 9999 ∧ bk i ≤ 4 ∧ shF r i 0 = nI c ∧ shF r i 1 = nI v ∧ vaF r v 0 = nI wd ∧ cuF r c 0 = nI pa ∧ shF r i 5 = nI so ∧ retI r i = nI (so + wd * (bk i + 1)) ∧ endI r i = nI (so + pa) ∧ M.1 (20 + i) 5 = nI wd ∧ M.1 (20 + i) 7 = nI (so + pa) ∧ so + wd * (bk i + 1) ≤ 12000 := by
  have hbv := h.bv
  have hbc := h.bc
  obtain ⟨c, v, lo, od, ea, so, st, mk, wd, pa, tm, h1, h2, l1, l2, o1, o2, b1, ea1, ea2, st1, mk1, so1, so2, q0, q1, q2, q3, q4, q5, q6, q7, q8, q9, q10, q11, q12, q13, q14, q15, q16, q17⟩ := (h.ss i hi).rest
  obtain ⟨a, a1, a2, a3⟩ := (h.vs v h2).width
  obtain ⟨b, c1, c2, c3⟩ := (h.cs c h1).patience
  have e1 : a = wd := (nI_eq (by omega) (by omega)).mp (a3.symm.trans q8)
  have e2 : b = pa := (nI_eq (by omega) (by omega)).mp (c3.symm.trans q10)
  subst e1
  subst e2
  have m1 : a * (bk i + 1) ≤ 60 * 5 := Nat.mul_le_mul (by omega) (by omega)
  refine ⟨c, v, so, a, b, h1, h2, a1, a2, c1, c2, so2, by omega, q0, q1, q8, q10, q5, ?_, ?_, q9, q11, by omega⟩
  · unfold retI
    rw [q5, q1, nI_c (by omega), q8, (h.ss i hi).back, nI_1, pk_mul, nI_add]
  · unfold endI
    rw [q5, q0, nI_c (by omega), q10, nI_add]
theorem RelM.tmOk {M : MM} {r : Nat → Int32} {nv nc ns : Nat} {bk : Nat → Nat} (h : RelM M r nv nc ns bk) {t : Nat} (ht : t ≤ 9999) (et : r 3 = nI t) : TmOk r ns t := by
  intro i hi ho
  have hbv := h.bv
  have hbc := h.bc
  obtain ⟨c, v, lo, od, ea, so, st, mk, wd, pa, tm, h1, h2, l1, l2, o1, o2, b1, ea1, ea2, st1, mk1, so1, tm1, q0, q1, q2, q3, q4, q5, q6, q7, q8, q9, q10, q11, q12, q13, q14, q15, q16⟩ := (h.ss i hi).rest
  have es : st = 0 := (nI_eq (a := st) (b := 0) (by omega) (by decide)).mp (q6.symm.trans ho)
  obtain ⟨z1, z2, z3⟩ := q13 es
  have e1 : tm = t := (nI_eq (by omega) (by omega)).mp (q12.symm.trans et)
  subst e1
  have m1 : wd * (bk i + 1) ≤ 60 * 5 := Nat.mul_le_mul (by omega) (by omega)
  have ew : retI r i = nI (so + wd * (bk i + 1)) := by
    unfold retI
    rw [q5, q1, nI_c (by omega), q8, (h.ss i hi).back, nI_1, pk_mul, nI_add]
  have ep : endI r i = nI (so + pa) := by
    unfold endI
    rw [q5, q0, nI_c (by omega), q10, nI_add]
  rw [ew, ep]
  exact ⟨nI_lt z2 (by omega), nI_lt z3 (by omega)⟩
theorem RelN.toM {M : MM} {r : Nat → Int32} {nv nc ns : Nat} {bk : Nat → Nat} (h : RelN M r nv nc ns bk) {t : Nat} (ht : t ≤ 9999) (et : r 3 = nI t) (hk : TmOk r ns t) : RelM M r nv nc ns bk := by
  have hbv := h.bv
  have hbc := h.bc
  refine RelM.mk h.bv h.bc h.bs h.v0 h.c0 h.s0 h.v1 h.c1 h.s1 h.time h.depth h.earn h.refd h.hold h.hear h.lost h.frst ⟨t, ht, et⟩ h.dp h.vs h.cs (fun i hi => ?_)
  have hs := h.ss i hi
  obtain ⟨c, v, lo, od, ea, so, st, mk, wd, pa, tm, h1, h2, l1, l2, o1, o2, b1, ea1, ea2, st1, mk1, so1, so2, q0, q1, q2, q3, q4, q5, q6, q7, q8, q9, q10, q11, q12, q13, q14, q15, q16, q17⟩ := hs.rest
  have e1 : tm = t := (nI_eq (by omega) (by omega)).mp (q12.symm.trans et)
  subst e1
  have m1 : wd * (bk i + 1) ≤ 60 * 5 := Nat.mul_le_mul (by omega) (by omega)
  have ew : retI r i = nI (so + wd * (bk i + 1)) := by
    unfold retI
    rw [q5, q1, nI_c (by omega), q8, hs.back, nI_1, pk_mul, nI_add]
  have ep : endI r i = nI (so + pa) := by
    unfold endI
    rw [q5, q0, nI_c (by omega), q10, nI_add]
  refine RelS.mk hs.e0 hs.e1 hs.e2 hs.e3 hs.e4 hs.e6 hs.e8 hs.e9 hs.e10 hs.back ⟨c, v, lo, od, ea, so, st, mk, wd, pa, tm, h1, h2, l1, l2, o1, o2, b1, ea1, ea2, st1, mk1, so1, ht, q0, q1, q2, q3, q4, q5, q6, q7, q8, q9, q10, q11, q12, fun z => ?_, q15, q16, q17⟩
  obtain ⟨k1, k2⟩ := hk i hi (by rw [q6, z]; exact nI_0)
  rw [ew] at k1
  rw [ep] at k2
  exact ⟨q14 z, (nI_ltI (by omega) (by omega)).mp k1, (nI_ltI (by omega) (by omega)).mp k2⟩
