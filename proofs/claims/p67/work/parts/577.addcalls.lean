set_option maxHeartbeats 400000
/-! addValley, addCustomer -/
theorem und2_ok {n : Nat} (hn : 2500 ≤ n) {w : Wd} (h : Good w) (fc : MM → Option (Int32 × MM)) (fr : Wd → Option (Int32 × Wd)) (hp : ∀ w9, row w9 = row w → ∃ x M' w', fc (w 1) = some (x, M') ∧ fr w9 = some (x, w') ∧ Fr w9 w' ∧ RM M' (row w')) : ∃ w6 x M' wF, FX5_remember n w 1 = some w6 ∧ (sW w6 10 (sI (w6 10) 0 6 0)) 1 = w 1 ∧ fc (w 1) = some (x, M') ∧ (ow (sW (sW w6 10 (sI (w6 10) 0 6 0)) 1 M') x) 15 = w 15 ∧ (bo1 (FX13_laysAside n (cd (ow (sW (sW w6 10 (sI (w6 10) 0 6 0)) 1 M') x) 0)) fun w12 => bnd (sW w12 15 (sI (w12 15) 0 2 0)) fun w13 => bo2 (fr w13) fun x15 w16 => bo2 (FX13_kept n w16 x15) fun x19 w20 => some (x19, w20)) = some (x, wF) ∧ chk 0 x wF = some wF ∧ Good wF := by
  obtain ⟨nv, nc, ns, bk, hm⟩ := h.m
  obtain ⟨f0, ct, hf, hc, h1, h2, h3, h4⟩ := h.h.cnt
  obtain ⟨w6, e6, r6⟩ := remember_ok (n := n) (by omega) w hf hc h1 h2 hm.v1 hm.c1 hm.s1 hm.bv hm.bc hm.bs
  have e61 : (sW w6 10 (sI (w6 10) 0 6 0)) 1 = w 1 := by rw [sW_o _ _ (by decide)]; exact r6.1 1 (by decide) (by omega)
  obtain ⟨x, M', _, ef, _⟩ := hp w rfl
  refine ⟨w6, x, M', ?_⟩
  generalize hwA : ow (sW (sW w6 10 (sI (w6 10) 0 6 0)) 1 M') x = wA
  have hA : ∀ r, r ≠ 1 → r ≠ 10 → r ≠ 16 → wA r = w6 r := fun r a b c => by rw [← hwA, ow_o _ _ c, sW_o _ _ a, sW_o _ _ b]
  have hA1 : wA 1 = M' := by rw [← hwA, ow_o _ _ (by decide), sW_s]
  have hA10 : wA 10 = sI (w 10) 0 6 0 := by rw [← hwA, ow_o _ _ (by decide), sW_o _ _ (by decide), sW_s, r6.1 10 (by decide) (by omega)]
  have hA16 : (wA 16).2 0 0 = x.toInt64 := by rw [← hwA]; exact ow_v _ _
  have hA15 : wA 15 = w 15 := by rw [hA 15 (by decide) (by decide) (by decide), r6.1 15 (by decide) (by omega)]
  obtain ⟨w9, e9, p1, p2, p3, p4, p5, p6⟩ := pre_ok (n := n) (by omega) wA
  generalize hwX : sW w9 15 (sI (w9 15) 0 2 0) = wX
  have x15 : wX 15 = sI (w9 15) 0 2 0 := by rw [← hwX, sW_s]
  have xo : ∀ r, r ≠ 15 → wX r = wA r := fun r hr => by rw [← hwX, sW_o _ _ hr, p1 r hr]
  have xj : ∀ j, j ≠ 0 → j ≠ 4 → (wX 15).1 j = (w 15).1 j := fun j a b => by rw [x15, sI_o _ _ _ a, p3 j a b, hA15]
  have xk : ∀ k, k ≠ 0 → k ≠ 2 → (wX 15).1 0 k = (w 15).1 0 k := fun k a b => by rw [x15, sI_at, if_neg b, p4 k a, hA15]
  have x2 : (wX 15).1 0 2 = 0 := by rw [x15, sI_at, if_pos rfl]
  have x0 : (wX 15).1 0 0 = 0 := by rw [x15, sI_at, if_neg (by decide), p5]
  have x4 : ∀ k, k < 390 → (wX 15).1 4 k = row w k := fun k hk => by
    rw [x15, sI_o _ _ _ (by decide), p6 k hk]
    show (wA 15).1 2 k = _
    rw [hA15]
  have hr9 : row wX = row w := xj 2 (by decide) (by decide)
  obtain ⟨x', M2, wB, ef', er, ⟨f1, f2, f3, f4⟩, hM⟩ := hp wX hr9
  have hj := Option.some.inj (ef'.symm.trans ef)
  have hx : x' = x := congrArg Prod.fst hj
  have hM2 : M2 = M' := congrArg Prod.snd hj
  subst hx
  subst hM2
  have o6 : ∀ r, r ≠ 15 → r ≠ 1 → r ≠ 10 → r ≠ 16 → wB r = w6 r := fun r a b c d => by rw [f1 r a, xo r a, hA r b c d]
  have o0 : ∀ r, r ≠ 15 → r ≠ 1 → r ≠ 10 → r ≠ 16 → r ≠ 13 → r ≠ 4 + f0 → wB r = w r := fun r a b c d e g => by rw [o6 r a b c d, r6.1 r e g]
  have yj : ∀ j, j ≠ 0 → j ≠ 2 → j ≠ 4 → (wB 15).1 j = (w 15).1 j := fun j a b c => by rw [f3 j a b, xj j a c]
  have yk : ∀ k, k ≠ 0 → k ≠ 2 → k ≠ 20 → k ≠ 31 → (wB 15).1 0 k = (w 15).1 0 k := fun k a b c d => by rw [f4 k c d, xk k a b]
  have y10 : wB 10 = sI (w 10) 0 6 0 := by rw [f1 10 (by decide), xo 10 (by decide), hA10]
  obtain ⟨wF, eF, hG, ht, hro⟩ := change_good hn (wB := wB) hf hc h4 hm
    (by rw [o6 13 (by decide) (by decide) (by decide) (by decide)]; exact r6.2.2.1)
    (by rw [o6 13 (by decide) (by decide) (by decide) (by decide)]; exact r6.2.2.2)
    (by rw [o6 (4 + f0) (by omega) (by omega) (by omega) (by omega)]; exact r6.2.1)
    (fun g hg hne => o0 (4 + g) (by omega) (by omega) (by omega) (by omega) (by omega) (by omega))
    (by rw [yk 18 (by decide) (by decide) (by decide) (by decide)]; exact h3)
    (yj 6 (by decide) (by decide) (by decide))
    (fun k hk => by rw [f3 4 (by decide) (by decide), x4 k hk])
    (by
      rw [o0 0 (by decide) (by decide) (by decide) (by decide) (by decide) (by omega), o0 3 (by decide) (by decide) (by decide) (by decide) (by decide) (by omega), yk 19 (by decide) (by decide) (by decide) (by decide), yj 3 (by decide) (by decide) (by decide)]
      exact h.h.sav)
    (by
      refine RelT.mk ⟨0, Nat.zero_le _, ?_, ?_, fun j hj => absurd hj (Nat.not_lt_zero j)⟩ ?_ ?_
      · rw [y10, sI_at, if_pos rfl]; rfl
      · rw [f4 2 (by decide) (by decide), x2]; rfl
      · rw [y10, sI_at, if_neg (by decide), yk 10 (by decide) (by decide) (by decide) (by decide)]; exact h.t.code
      · rw [y10, sI_at, if_neg (by decide), yk 11 (by decide) (by decide) (by decide) (by decide)]; exact h.t.offs)
    (h.o.keep (o0 14 (by decide) (by decide) (by decide) (by decide) (by decide) (by omega)) (yj 14 (by decide) (by decide) (by decide)) (yk 33 (by decide) (by decide) (by decide) (by decide)))
    (by rw [f1 1 (by decide), xo 1 (by decide), hA1]; exact hM)
  refine ⟨wF, e6, e61, ef, hA15, ?_, chk_0 ?_ ?_, hG⟩
  · rw [e9, bo1_s, hwX, bnd_s, er, bo2_s]
    unfold FX13_kept
    rw [eF, bo1_s, bo2_s]
  · show (wF 15).1 0 0 = 0
    rw [ht, f4 0 (by decide) (by decide), x0]
  · rw [hro 16 (by decide), f1 16 (by decide), xo 16 (by decide), hA16]
theorem rWid (p : Int32) : FX13_isWidth p = FX12_isWithin p 1 60 := by
  unfold FX13_isWidth
  rw [bnd_s, show (1 : Int64) = (1 : Int32).toInt64 by decide, show (60 : Int64) = (60 : Int32).toInt64 by decide, isIn_w]
theorem rPri (p : Int32) : FX13_isPrice p = FX12_isWithin p 1 99 := by
  unfold FX13_isPrice
  rw [bnd_s, show (1 : Int64) = (1 : Int32).toInt64 by decide, show (99 : Int64) = (99 : Int32).toInt64 by decide, isIn_w]
theorem rMon (p : Int32) : FX13_isMoney p = FX12_isWithin p 0 9999 := by
  unfold FX13_isMoney
  rw [bnd_s, i64_0, show (9999 : Int64) = (9999 : Int32).toInt64 by decide, isIn_w]
theorem v5_0 {o : Option (List Nat)} (ho : ∀ ls, o = some ls → okName ls) : (v5 o = 0 ↔ o = none) ∧ (v8 o = 0 ↔ o = none) := by
  cases o with
  | none => exact ⟨⟨fun _ => rfl, fun _ => rfl⟩, ⟨fun _ => rfl, fun _ => rfl⟩⟩
  | some ls =>
    have h := ho ls rfl
    have b5 := pk5_bd h
    have b8 := pk8_bd h
    refine ⟨⟨fun e => ?_, fun e => by cases e⟩, ⟨fun e => ?_, fun e => by cases e⟩⟩
    · have := (lN_inj (a := pk5 ls) (b := 0) (by omega) (by decide)).mp e
      omega
    · have := (lN_inj (a := pk8 ls) (b := 0) (by omega) (by decide)).mp e
      omega
/-- whether a name may be a new valley's, a new customer's -/
def newI (o : Option (List Nat)) (q : Int32) (m : Nat) : Bool := decide (o ≠ none ∧ q = -1 ∧ m < 8)
theorem lt8 {m : Nat} (h : m < 8) : ¬ (8 : Int32) ≤ nI m := nI_ge (b := 8) h (by decide)
theorem ge8 {m : Nat} (h : ¬ m < 8) (hm : m ≤ 8) : (8 : Int32) ≤ nI m := nI_le (a := 8) (by omega) (by omega)
theorem rIsNew {n : Nat} {w : Wd} {g m : Nat} {G : Int32} (hG : G = nI g) (hg : g < 2) (hm : m ≤ 8) (h0 : row w g = nI m) {o : Option (List Nat)} (ho : ∀ ls, o = some ls → okName ls) {q : Int32} (hf : FX13_found n w G (v5 o) = some q) : FX13_isNew n w G (v5 o) = some (newI o q m) := by
  subst hG
  unfold FX13_isNew newI
  by_cases z : o = none
  · rw [if_pos ((lg_cmp_eq _ _).mpr ((v5_0 ho).1.mpr z)), decide_eq_false (fun y => y.1 z)]
  · rw [if_neg (fun y => z ((v5_0 ho).1.mp ((lg_cmp_eq _ _).mp y))), hf, bo1_s]
    by_cases z2 : q = -1
    · rw [if_pos z2, gd_t (inI (by omega) (by omega)), nI_c (by omega), show (w 15).1 2 g = nI m from h0]
      by_cases z3 : m < 8
      · rw [if_neg (lt8 z3), decide_eq_true ⟨z, z2, z3⟩]
      · rw [if_pos (ge8 z3 (by omega)), decide_eq_false (fun y => z3 y.2.2)]
    · rw [if_neg z2, decide_eq_false (fun y => z2 y.2.1)]
theorem found_row {n : Nat} {w w' : Wd} (h : w' 15 = w 15) (g : Int32) (x : Int64) : FX13_found n w' g x = FX13_found n w g x := by
  have hL : ∀ k i, FX13_found_L3 n k w' g x i = FX13_found_L3 n k w g x i := by
    intro k
    induction k with
    | zero => intro i; rfl
    | succ k ih =>
      intro i
      simp only [FX13_found_L3, ih]
      unfold FX13_nameAt
      rw [h]
  exact hL n 0
theorem bufName_row {n : Nat} {w w' : Wd} (h : w' 15 = w 15) : FX13_bufferName n w' = FX13_bufferName n w := by
  have hL : ∀ k x i, FX13_bufferName_L21 n k w' x i = FX13_bufferName_L21 n k w x i := by
    intro k
    induction k with
    | zero => intro x i; rfl
    | succ k ih =>
      intro x i
      simp only [FX13_bufferName_L21, ih, h]
  unfold FX13_bufferName
  rw [h, hL]
theorem ob_50 {n : Nat} (hn : 2500 ≤ n) {w : Wd} (h : Good w) (a1 a2 a3 a4 a5 : Int32) : ∃ w9, FLc_50 n w a1 a2 a3 a4 a5 = some w9 ∧ Good w9 := by
  obtain ⟨nv, nc, ns, bk, hm⟩ := h.m
  have hbv := hm.bv
  obtain ⟨o, o1, o2, o3⟩ := whole_pair (n := n) (by omega) h.t
  obtain ⟨q, q1, q2, -⟩ := found_v (n := n) (by omega) hm.bv hm.v0 hm.v1 (fun v hv => (hm.vs v hv).name) o1
  have hnew := rIsNew (n := n) (G := 0) (g := 0) rfl (by decide) hbv hm.v0 o1 q2
  show ∃ w9, (bo2 (FL_addValley n w a1 a2 a3) fun k w1 => bo2 (FX13_addValley n w1 a1 a2 a3) fun q w2 => chk k q w2) = some w9 ∧ Good w9
  -- an argument out of range
  have bad : (FX12_addValley n w a1 a2 a3 = some (.error ("java/lang/IllegalArgumentException", w))) → (FX13_addValley n w a1 a2 a3 = some (0, cd w 1)) → ∃ w9, (bo2 (FL_addValley n w a1 a2 a3) fun k w1 => bo2 (FX13_addValley n w1 a1 a2 a3) fun q w2 => chk k q w2) = some w9 ∧ Good w9 := fun hx hr => by
    unfold FL_addValley
    rw [lw_x (k := 1) hx (if_pos rfl), bo2_s, hr, bo2_s]
    exact ⟨_, er_chk h (by decide)⟩
  cases hd1 : FX12_isWithin a1 1 60 with
  | false =>
    refine bad ?_ ?_
    · unfold FX12_addValley
      rw [o2, bo1_s, hd1, bnd_s, dA_f]
      rfl
    · unfold FX13_addValley
      rw [o3, bo1_s, rWid, hd1, bnd_s, if_neg (by decide), hnew, bo1_s, gb_f, bnd2_s, if_neg (by decide)]
  | true =>
    cases hd2 : FX12_isWithin a2 1 4 with
    | false =>
      refine bad ?_ ?_
      · unfold FX12_addValley
        rw [o2, bo1_s, hd1, bnd_s, dA_t, xo_s, hd2, bnd_s, dA_f]
        rfl
      · unfold FX13_addValley
        rw [o3, bo1_s, rWid, hd1, bnd_s, if_pos rfl, rWalls, hd2, bnd_s, if_neg (by decide), hnew, bo1_s, gb_f, bnd2_s, if_neg (by decide)]
    | true =>
      cases hd3 : FX12_isWithin a3 1 99 with
      | false =>
        refine bad ?_ ?_
        · unfold FX12_addValley
          rw [o2, bo1_s, hd1, bnd_s, dA_t, xo_s, hd2, bnd_s, dA_t, xo_s, hd3, bnd_s, dA_f]
          rfl
        · unfold FX13_addValley
          rw [o3, bo1_s, rWid, hd1, bnd_s, if_pos rfl, rWalls, hd2, bnd_s, if_pos rfl, rPri, hd3, bnd_s, if_neg (by decide), hnew, bo1_s, gb_f, bnd2_s, if_neg (by decide)]
      | true =>
        cases hz : newI o q nv with
        | false =>
          have hx : FX12_addValley n w a1 a2 a3 = some (.error ("java/lang/IllegalStateException", w)) := by
            unfold FX12_addValley
            rw [o2, bo1_s, hd1, bnd_s, dA_t, xo_s, hd2, bnd_s, dA_t, xo_s, hd3, bnd_s, dA_t, xo_s]
            by_cases z : o = none
            · rw [if_pos ((lg_cmp_eq _ _).mpr ((v5_0 o1).2.mpr z)), dS_f]
              rfl
            · rw [if_neg (fun y => z ((v5_0 o1).2.mp ((lg_cmp_eq _ _).mp y))), q1, bo1_s]
              by_cases z2 : q = -1
              · have z3 : ¬ nv < 8 := fun y => by
                  unfold newI at hz
                  exact absurd (decide_eq_true (show o ≠ none ∧ q = -1 ∧ nv < 8 from ⟨z, z2, y⟩)) (by rw [hz]; decide)
                rw [if_pos z2, hm.v1, if_pos (ge8 z3 (by omega)), dS_f]
                rfl
              · rw [if_neg z2, dS_f]
                rfl
          unfold FL_addValley FX13_addValley
          rw [lw_x (k := 2) hx rfl, bo2_s, o3, bo1_s, rWid, hd1, bnd_s, if_pos rfl, rWalls, hd2, bnd_s, if_pos rfl, rPri, hd3, bnd_s, if_pos rfl, hnew, hz, bo1_s, gb_tf, bnd2_s, if_neg (by decide), bo2_s]
          exact ⟨_, er_chk h (by decide)⟩
        | true =>
          have hz' := of_decide_eq_true (p := o ≠ none ∧ q = -1 ∧ nv < 8) hz
          obtain ⟨z, rfl, z3⟩ := hz'
          obtain ⟨ls, hls⟩ : ∃ ls, o = some ls := by
            cases o with
            | none => exact absurd rfl z
            | some ls => exact ⟨ls, rfl⟩
          have hok := o1 ls hls
          have e8 : v8 o = lN (pk8 ls) := by rw [hls]; rfl
          have e5 : v5 o = lN (pk5 ls) := by rw [hls]; rfl
          obtain ⟨wd, wd1, wd2, rfl⟩ := wi_rng (a := 1) (b := 60) (by decide) (by decide) hd1
          obtain ⟨wl, wl1, wl2, rfl⟩ := wi_rng (a := 1) (b := 4) (by decide) (by decide) hd2
          obtain ⟨pr, pr1, pr2, rfl⟩ := wi_rng (a := 1) (b := 99) (by decide) (by decide) hd3
          obtain ⟨w6, x, M', wF, e6, e61, ec, e15, er, ek, hG⟩ := und2_ok hn h (fun M => FX6_openValley M (v8 o) (nI wd) (nI wl) (nI pr)) (fun w => FX13_addsValley w (v5 o) (nI wd) (nI wl) (nI pr)) (fun w9 hr => by
            rw [e8, e5]
            have hN : RelN (w 1) (row w9) nv nc ns bk := by rw [hr]; exact hm.toN
            obtain ⟨t, ht, et⟩ := hm.tm
            have hT : TmOk (row w9) ns t := by rw [hr]; exact hm.tmOk ht et
            obtain ⟨M', w', y1, y2, y3, y4, y5, y6⟩ := valley_pair hN z3 hok wd1 wd2 wl1 wl2 pr1 pr2
            exact ⟨_, M', w', y1, y2, y3, nv + 1, nc, ns, bk, y4.toM ht (by rw [y5, hr]; exact et) (y6 t hT)⟩)
          have hx : FX12_addValley n w (nI wd) (nI wl) (nI pr) = some (.ok (x, sW (sW w6 10 (sI (w6 10) 0 6 0)) 1 M')) := by
            unfold FX12_addValley
            rw [o2, bo1_s, hd1, bnd_s, dA_t, xo_s, hd2, bnd_s, dA_t, xo_s, hd3, bnd_s, dA_t, xo_s, if_neg (fun y => z ((v5_0 o1).2.mp ((lg_cmp_eq _ _).mp y))), q1, bo1_s, if_pos rfl, hm.v1, if_neg (lt8 z3), dS_t, xo_s, e6, bo1_s, bnd_s, e61, ec, bo2_s, bnd_s]
          unfold FL_addValley FX13_addValley
          rw [lw_o hx, bo2_s, bufName_row e15, o3, bo1_s, rWid, hd1, bnd_s, if_pos rfl, rWalls, hd2, bnd_s, if_pos rfl, rPri, hd3, bnd_s, if_pos rfl, rIsNew (n := n) (G := 0) (g := 0) rfl (by decide) hbv ((congrFun (congrFun (congrArg Prod.fst e15) 2) 0).trans hm.v0) o1 ((found_row e15 0 _).trans q2), hz, bo1_s, gb_tt, bnd2_s, if_pos rfl, er, bo2_s]
          exact ⟨wF, ek, hG⟩
theorem ob_51 {n : Nat} (hn : 2500 ≤ n) {w : Wd} (h : Good w) (a1 a2 a3 a4 a5 : Int32) : ∃ w9, FLc_51 n w a1 a2 a3 a4 a5 = some w9 ∧ Good w9 := by
  obtain ⟨nv, nc, ns, bk, hm⟩ := h.m
  have hbc := hm.bc
  obtain ⟨o, o1, o2, o3⟩ := whole_pair (n := n) (by omega) h.t
  obtain ⟨q, q1, q2, -⟩ := found_c (n := n) (by omega) hm.bc hm.c0 hm.c1 (fun c hc => (hm.cs c hc).name) o1
  have hnew := rIsNew (n := n) (G := 1) (g := 1) rfl (by decide) hbc hm.c0 o1 q2
  show ∃ w9, (bo2 (FL_addCustomer n w a1 a2) fun k w1 => bo2 (FX13_addCustomer n w1 a1 a2) fun q w2 => chk k q w2) = some w9 ∧ Good w9
  have bad : (FX12_addCustomer n w a1 a2 = some (.error ("java/lang/IllegalArgumentException", w))) → (FX13_addCustomer n w a1 a2 = some (0, cd w 1)) → ∃ w9, (bo2 (FL_addCustomer n w a1 a2) fun k w1 => bo2 (FX13_addCustomer n w1 a1 a2) fun q w2 => chk k q w2) = some w9 ∧ Good w9 := fun hx hr => by
    unfold FL_addCustomer
    rw [lw_x (k := 1) hx (if_pos rfl), bo2_s, hr, bo2_s]
    exact ⟨_, er_chk h (by decide)⟩
  cases hd1 : FX12_isWithin a1 1 240 with
  | false =>
    refine bad ?_ ?_
    · unfold FX12_addCustomer
      rw [o2, bo1_s, hd1, bnd_s, dA_f]
      rfl
    · unfold FX13_addCustomer
      rw [o3, bo1_s, rPat, hd1, bnd_s, if_neg (by decide), hnew, bo1_s, gb_f, bnd2_s, if_neg (by decide)]
  | true =>
    cases hd2 : FX12_isWithin a2 0 9999 with
    | false =>
      refine bad ?_ ?_
      · unfold FX12_addCustomer
        rw [o2, bo1_s, hd1, bnd_s, dA_t, xo_s, hd2, bnd_s, dA_f]
        rfl
      · unfold FX13_addCustomer
        rw [o3, bo1_s, rPat, hd1, bnd_s, if_pos rfl, rMon, hd2, bnd_s, if_neg (by decide), hnew, bo1_s, gb_f, bnd2_s, if_neg (by decide)]
    | true =>
      cases hz : newI o q nc with
      | false =>
        have hx : FX12_addCustomer n w a1 a2 = some (.error ("java/lang/IllegalStateException", w)) := by
          unfold FX12_addCustomer
          rw [o2, bo1_s, hd1, bnd_s, dA_t, xo_s, hd2, bnd_s, dA_t, xo_s]
          by_cases z : o = none
          · rw [if_pos ((lg_cmp_eq _ _).mpr ((v5_0 o1).2.mpr z)), dS_f]
            rfl
          · rw [if_neg (fun y => z ((v5_0 o1).2.mp ((lg_cmp_eq _ _).mp y))), q1, bo1_s]
            by_cases z2 : q = -1
            · have z3 : ¬ nc < 8 := fun y => by
                unfold newI at hz
                exact absurd (decide_eq_true (show o ≠ none ∧ q = -1 ∧ nc < 8 from ⟨z, z2, y⟩)) (by rw [hz]; decide)
              rw [if_pos z2, hm.c1, if_pos (ge8 z3 (by omega)), dS_f]
              rfl
            · rw [if_neg z2, dS_f]
              rfl
        unfold FL_addCustomer FX13_addCustomer
        rw [lw_x (k := 2) hx rfl, bo2_s, o3, bo1_s, rPat, hd1, bnd_s, if_pos rfl, rMon, hd2, bnd_s, if_pos rfl, hnew, hz, bo1_s, gb_tf, bnd2_s, if_neg (by decide), bo2_s]
        exact ⟨_, er_chk h (by decide)⟩
      | true =>
        have hz' := of_decide_eq_true (p := o ≠ none ∧ q = -1 ∧ nc < 8) hz
        obtain ⟨z, rfl, z3⟩ := hz'
        obtain ⟨ls, hls⟩ : ∃ ls, o = some ls := by
          cases o with
          | none => exact absurd rfl z
          | some ls => exact ⟨ls, rfl⟩
        have hok := o1 ls hls
        have e8 : v8 o = lN (pk8 ls) := by rw [hls]; rfl
        have e5 : v5 o = lN (pk5 ls) := by rw [hls]; rfl
        obtain ⟨pa, pa1, pa2, rfl⟩ := wi_rng (a := 1) (b := 240) (by decide) (by decide) hd1
        obtain ⟨w6, x, M', wF, e6, e61, ec, e15, er, ek, hG⟩ := und2_ok hn h (fun M => FX6_welcome M (v8 o) (nI pa) a2) (fun w => FX13_addsCustomer w (v5 o) (nI pa) a2) (fun w9 hr => by
          rw [e8, e5]
          have hN : RelN (w 1) (row w9) nv nc ns bk := by rw [hr]; exact hm.toN
          obtain ⟨t, ht, et⟩ := hm.tm
          have hT : TmOk (row w9) ns t := by rw [hr]; exact hm.tmOk ht et
          obtain ⟨M', w', y1, y2, y3, y4, y5, y6⟩ := customer_pair (mo := a2) hN z3 hok pa1 pa2
          exact ⟨_, M', w', y1, y2, y3, nv, nc + 1, ns, bk, y4.toM ht (by rw [y5, hr]; exact et) (y6 t hT)⟩)
        have hx : FX12_addCustomer n w (nI pa) a2 = some (.ok (x, sW (sW w6 10 (sI (w6 10) 0 6 0)) 1 M')) := by
          unfold FX12_addCustomer
          rw [o2, bo1_s, hd1, bnd_s, dA_t, xo_s, hd2, bnd_s, dA_t, xo_s, if_neg (fun y => z ((v5_0 o1).2.mp ((lg_cmp_eq _ _).mp y))), q1, bo1_s, if_pos rfl, hm.c1, if_neg (lt8 z3), dS_t, xo_s, e6, bo1_s, bnd_s, e61, ec, bo2_s, bnd_s]
        unfold FL_addCustomer FX13_addCustomer
        rw [lw_o hx, bo2_s, bufName_row e15, o3, bo1_s, rPat, hd1, bnd_s, if_pos rfl, rMon, hd2, bnd_s, if_pos rfl, rIsNew (n := n) (G := 1) (g := 1) rfl (by decide) hbc ((congrFun (congrFun (congrArg Prod.fst e15) 2) 1).trans hm.c0) o1 ((found_row e15 1 _).trans q2), hz, bo1_s, gb_tt, bnd2_s, if_pos rfl, er, bo2_s]
        exact ⟨wF, ek, hG⟩
