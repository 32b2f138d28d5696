set_option maxHeartbeats 400000
/-! TIME PASSES in the world as in the row -/
/-- world and reference, with all that is known of the row -/
def TW (V : MM) (b : Wd) (nv nc ns : Nat) : Prop := WR V (row b) nv nc ns ∧ EM (row b) nc ns ∧ DA (row b) nc ns ∧ NM (row b) nv nc ∧ ∃ M bk, RelN M (row b) nv nc ns bk
theorem TW.row {V : MM} {b b' : Wd} {nv nc ns : Nat} (h : TW V b nv nc ns) (e : row b' = row b) : TW V b' nv nc ns := by
  unfold TW
  rw [e]
  exact h
theorem NM.dy {r r' : Nat → Int32} {nv nc : Nat} (h : NM r nv nc) (bv : nv ≤ 8) (bc : nc ≤ 8) (h1 : ∀ v, v < 8 → ∀ k, k < 8 → 5 < k → vaF r' v k = vaF r v k) (h2 : ∀ c, c < 8 → ∀ k, k < 6 → 3 < k → cuF r' c k = cuF r c k) : NM r' nv nc :=
  ⟨fun v hv => by rw [h1 v (by omega) 6 (by decide) (by decide), h1 v (by omega) 7 (by decide) (by decide)]; exact h.1 v hv, fun c hc => by rw [h2 c (by omega) 4 (by decide) (by decide), h2 c (by omega) 5 (by decide) (by decide)]; exact h.2 c hc⟩
theorem le0_lt1 {x : Int32} : x ≤ 0 ↔ x < 1 := by
  rw [Int32.le_iff_toInt_le, Int32.lt_iff_toInt_lt]
  have e0 : (0 : Int32).toInt = 0 := rfl
  have e1 : (1 : Int32).toInt = 1 := rfl
  omega
section PASS3
variable {n nv nc ns : Nat}
/-- one echo -/
theorem tw_echo {V : MM} {b : Wd} (h : TW V b nv nc ns) {i : Nat} (hi : i < ns) (ho : shF (row b) i 6 = 0) {x : Int32} {bb : Bool} (hb : (if x < 1 then false else true) = bb) : ∃ V' b', FW_back V (20 + i) bb = some V' ∧ FX13_comesBack b (nI i) x = some (bb, b') ∧ TW V' b' nv nc ns ∧ Dy (row b) (row b') ∧ So (row b) (row b') i ∧ Fr b b' := by
  obtain ⟨hW, hE, hD, hN, M, bk, hm⟩ := h
  have hbs := hm.bs
  have hbv := hm.bv
  have hbc := hm.bc
  have hS := hm.ss i hi
  obtain ⟨c, v, lo, od, ea, so, st, mk, wd, pa, tm, h1, h2, l1, l2, o1, o2, b1, ea1, ea2, st1, mk1, so1, so2, q0, q1, q2, q3, q4, q5, q6, q7, q8, q9, q10, q11, q12, q13, q14, q15, -⟩ := hS.rest
  obtain ⟨M', w', e1, e2, e3, e4, e5, e6, e7, e8, -⟩ := echo_pair hm hi ho hb
  have hst : st = 0 := (nI_eq (a := st) (b := 0) (by omega) (by decide)).mp (q6.symm.trans ho)
  have hbo := q14 hst
  have hEc := ec_ref (by omega) (by omega) (by omega) q0 q1 ho hb e2
  obtain ⟨a, a1, a2⟩ := (hm.vs v h2).rating
  have hns : nsum ns bk ≤ ns * 4 := nsum_le (fun j hj => by
    obtain ⟨_, _, _, od2, _, _, _, _, _, _, _, _, _, _, _, _, o4, b4, _⟩ := (hm.ss j hj).rest
    omega)
  obtain ⟨V', v1, v2⟩ := ec_law hW hbv hbc hbs hi h1 h2 q0 q1 (a := a) (by omega) a2 hEc
  refine ⟨V', w', v1, e2, ⟨v2, em_echo hE hbc hbs hi h1 q3 q4 hS.back q7 mk1 hbo o2 ea2 ho hEc, fun j hj hoj d hd hd0 => ?_, hN.dy hbv hbc (fun v' hv' k hk hk5 => ?_) (fun c' hc' k hk hk3 => ?_), M', _, e4⟩, e5, e6, e3⟩
  · have hD2 : cuF (row w') d 2 = cuF (row b) d 2 := by rw [hEc.2.2.1 d (by omega) 2 (by decide), if_neg (by omega), if_neg (by omega)]
    have hs0 : shF (row w') j 0 = shF (row b) j 0 := by rw [hEc.2.2.2 j (by omega) 0 (by decide), if_neg (by omega), if_neg (by omega), if_neg (by omega)]
    rw [hD2]
    refine hD j hj ?_ d hd (hs0.symm.trans hd0)
    by_cases e : j = i
    · subst e; exact ho
    · rw [hEc.2.2.2 j (by omega) 6 (by decide), if_neg (by omega), if_neg (by omega), if_neg (by omega)] at hoj
      exact hoj
  · rw [hEc.2.1 v' hv' k hk, if_neg (by omega), if_neg (by omega)]
  · rw [hEc.2.2.1 c' hc' k hk, if_neg (by omega), if_neg (by omega)]
/-- one cancelling -/
theorem tw_cancel {V : MM} {b : Wd} (h : TW V b nv nc ns) {i : Nat} (hi : i < ns) (ho : shF (row b) i 6 = 0) : ∃ V' b' x, FW_cancel V (nI i) = some (x, V') ∧ FX13_cancels b (nI i) = some (x, b') ∧ TW V' b' nv nc ns ∧ Dy (row b) (row b') ∧ So (row b) (row b') i ∧ Fr b b' ∧ shF (row b') i 6 = 2 ∧ (∀ c, c < 8 → cuF (row b') c 2 = cuF (row b) c 2) := by
  obtain ⟨hW, hE, hD, hN, M, bk, hm⟩ := h
  have hbs := hm.bs
  have hbv := hm.bv
  have hbc := hm.bc
  have hS := hm.ss i hi
  obtain ⟨c, v, lo, od, ea, so, st, mk, wd, pa, tm, h1, h2, l1, l2, o1, o2, b1, ea1, ea2, st1, mk1, so1, so2, q0, q1, q2, q3, q4, q5, q6, q7, q8, q9, q10, q11, q12, q13, q14, q15, -⟩ := hS.rest
  obtain ⟨M', w', e1, e2, e3, e4, e5, e6, e7, e8⟩ := cancel_pair hm hi ho
  have hst : st = 0 := (nI_eq (a := st) (b := 0) (by omega) (by decide)).mp (q6.symm.trans ho)
  have hbo := q14 hst
  obtain ⟨hx, hCa⟩ := ca_ref (by omega) (by omega) q0 ho e2
  obtain ⟨V', v1, v2⟩ := ca_law hW hbv hbc hbs hi h1 q0 hCa
  have hc2 : ∀ d, d < 8 → cuF (row w') d 2 = cuF (row b) d 2 := fun d hd => by rw [hCa.2.2.1 d (by omega) 2 (by decide), if_neg (by omega)]
  refine ⟨V', w', _, v1, by rw [← hx]; exact e2, ⟨v2, em_cancel hE hbc hbs hi h1 q3 q4 hS.back hbo o2 ea2 ho hCa, fun j hj hoj d hd hd0 => ?_, hN.dy hbv hbc (fun v' hv' k hk hk5 => ?_) (fun c' hc' k hk hk3 => ?_), M', _, e4⟩, e5, e6, e3, e7, hc2⟩
  · have hs0 : shF (row w') j 0 = shF (row b) j 0 := by rw [hCa.2.2.2 j (by omega) 0 (by decide), if_neg (by omega)]
    rw [hc2 d (by omega)]
    refine hD j hj ?_ d hd (hs0.symm.trans hd0)
    by_cases e : j = i
    · subst e; exact ho
    · rw [hCa.2.2.2 j (by omega) 6 (by decide), if_neg (by omega)] at hoj
      exact hoj
  · exact hCa.2.1 v' hv' k hk
  · rw [hCa.2.2.1 c' hc' k hk, if_neg (by omega)]
theorem rc_116 (n : Nat) (rA rB : MM → Int32 → Int32 → Int32 → Int32 → Option (Int32 × MM)) (rc4 : MM → Int32 → Int32 → Int32 → Option (Int32 × MM)) : ∀ (k : Nat) (M : MM) (l1 l2 l3 l4 : Int32), FW_pass_L116 n rA rc4 k M l1 l2 l3 l4 = FW_pass_L116 n rB rc4 k M l1 l2 l3 l4 := by
  intro k
  induction k with
  | zero => intro M l1 l2 l3 l4; rfl
  | succ k ih =>
    intro M l1 l2 l3 l4
    simp only [FW_pass_L116, FW_pass_B164]
    simp only [ih]
theorem returns_3 (hn : 100 ≤ n) (rc4 : MM → Int32 → Int32 → Int32 → Option (Int32 × MM)) (rc0 : MM → Int32 → Int32 → Int32 → Int32 → Option (Int32 × MM)) (l1 l2 l3 T : Int32) {V : MM} {b : Wd} (h : TW V b nv nc ns) (hT : row b 3 = T) : ∃ x V' b', FX13_returnsNow n b = some (x, b') ∧ TW V' b' nv nc ns ∧ row b' 3 = T ∧ FW_pass_L22 n rc4 n V l1 l2 l3 0 = FW_pass_L116 n rc0 rc4 n V' l1 (l2 + x) l3 0 := by
  obtain ⟨-, -, -, -, M0, bk0, hm0⟩ := id h
  have hbs := hm0.bs
  unfold FX13_returnsNow
  obtain ⟨a', b', ⟨p1, p2, p3⟩, e1, e2⟩ := loop2 (L1 := fun k (a : Int32 × MM) i => FW_pass_L22 n rc4 k a.2 l1 a.1 l3 i) (L2 := fun k (b : Int32 × Wd) i => FX13_returnsNow_L4 n k b.2 b.1 i) (g1 := fun a => FW_pass_L116 n rc0 rc4 n a.2 l1 a.1 l3 0) (g2 := some) (ns := ns)
    (fun i (a : Int32 × MM) (b : Int32 × Wd) => a.1 = l2 + b.1 ∧ TW a.2 b.2 nv nc ns ∧ row b.2 3 = T)
    (fun k a b hp => by
      obtain ⟨-, ⟨hW, -, -, -, M, bk, q⟩, -⟩ := hp
      simp only [FW_pass_L22]
      rw [hW.1 2 (by decide), q.s0, if_pos (Int32.le_refl _)]
      exact rc_116 n _ _ rc4 n _ _ _ _ _)
    (fun k a b hp => by
      obtain ⟨-, ⟨-, -, -, -, M, bk, q⟩, -⟩ := hp
      simp only [FX13_returnsNow_L4]
      rw [gd2, show (b.2 15).1 2 2 = nI ns from q.s0, if_pos (Int32.le_refl _)])
    (fun a b i hi hp => by
      obtain ⟨x, a⟩ := a
      obtain ⟨y, b⟩ := b
      obtain ⟨e, q1, q3⟩ := hp
      have e' : x = l2 + y := e
      subst e'
      replace q1 : TW a b nv nc ns := q1
      replace q3 : row b 3 = T := q3
      obtain ⟨hW, hE, hD, hN, M, bk, q2⟩ := id q1
      have hbv := q2.bv
      have hbc := q2.bc
      obtain ⟨c, v, so, wd, pa, h1, h2, -, -, -, -, -, -, k0, k1, -⟩ := q2.due hi
      have w3 := hW.2.2.2 i hi
      have lx : FX13_loudnessOf b (nI i) = some (shF (row b) i 2 - 2 * (shF (row b) i 7 + 1) - vaF (row b) v 3) := by
        unfold FX13_loudnessOf
        rw [rS2 (by omega), bo1_s, rS7 (by omega), bo1_s, rS1 (by omega), bo1_s, k1, rV3 (by omega), bo1_s]
      have l1' : ∀ k, FW_pass_L22 n rc4 (k + 1) a l1 (l2 + y) l3 (nI i) = if shF (row b) i 6 = 0 then (if retI (row b) i = T then (bo1 (FW_back a (20 + i) (if shF (row b) i 2 - 2 * (shF (row b) i 7 + 1) - vaF (row b) v 3 < 1 then false else true)) fun V9 => FW_pass_L22 n rc4 k V9 l1 (l2 + y + 1) l3 (nI (i + 1))) else FW_pass_L22 n rc4 k a l1 (l2 + y) l3 (nI (i + 1))) else FW_pass_L22 n rc4 k a l1 (l2 + y) l3 (nI (i + 1)) := fun k => by
        simp only [FW_pass_L22, FW_pass_B101, FW_pass_B107]
        rw [hW.1 2 (by decide), q2.s0, if_neg (le_nI hi (by omega)), gd_t (inI (by omega) (by omega)), nI_c (by omega), nI_1, w3 6 (by decide), wDue hW hbv hi h2 k1, bo1_s, hW.1 3 (by decide), q3, w3 1 (by decide), k1, gd_t (inI (by omega) (by omega)), nI_c (by omega), w3 2 (by decide), w3 7 (by decide), hW.2.1 v h2 3 (by decide)]
        by_cases z : shF (row b) i 6 = 0
        · rw [if_pos z, if_pos z]
          by_cases z' : retI (row b) i = T
          · rw [if_pos z', if_pos z']
            by_cases z2 : shF (row b) i 2 - 2 * (shF (row b) i 7 + 1) - vaF (row b) v 3 ≤ 0
            · rw [if_pos z2, if_pos (le0_lt1.mp z2)]
            · rw [if_neg z2, if_neg (fun y => z2 (le0_lt1.mpr y))]
          · rw [if_neg z', if_neg z']
        · rw [if_neg z, if_neg z]
      have l2' : ∀ k, FX13_returnsNow_L4 n (k + 1) b y (nI i) = if shF (row b) i 6 = 0 then (if retI (row b) i = T then (bo2 (FX13_comesBack b (nI i) (shF (row b) i 2 - 2 * (shF (row b) i 7 + 1) - vaF (row b) v 3)) fun x13 w14 => FX13_returnsNow_L4 n k (nt w14 20 (bI x13)) (y + 1) (nI (i + 1))) else FX13_returnsNow_L4 n k b y (nI (i + 1))) else FX13_returnsNow_L4 n k b y (nI (i + 1)) := fun k => by
        simp only [FX13_returnsNow_L4]
        rw [gd2, show (b 15).1 2 2 = nI ns from q2.s0, if_neg (le_nI hi (by omega)), rOpen q2.s0 hbs hi, bo1_s, nI_1, rRet (by omega) (show v < 8 by omega) k1, bo1_s, gd3, show (b 15).1 2 3 = T from q3, lx, bo1_s]
        by_cases z : shF (row b) i 6 = 0
        · rw [if_pos z, decide_eq_true z, if_pos rfl]
          by_cases z' : retI (row b) i = T
          · rw [if_pos z', if_pos z']; rfl
          · rw [if_neg z', if_neg z']
        · rw [if_neg z, decide_eq_false z, if_neg (by decide)]
      by_cases z : shF (row b) i 6 = 0
      · by_cases z' : retI (row b) i = T
        · obtain ⟨V', b', y1, y2, y3, y4, y5, y6⟩ := tw_echo q1 hi z (x := shF (row b) i 2 - 2 * (shF (row b) i 7 + 1) - vaF (row b) v 3) rfl
          refine ⟨(l2 + y + 1, V'), (y + 1, nt b' 20 (bI (if shF (row b) i 2 - 2 * (shF (row b) i 7 + 1) - vaF (row b) v 3 < 1 then false else true))), ⟨by show l2 + y + 1 = l2 + (y + 1); rw [Int32.add_assoc], y3.row (nt_row _ _ _), ?_⟩, fun k => ?_, fun k => ?_⟩
          · show row (nt b' 20 _) 3 = T
            rw [nt_row, y4.1 3 (by decide) (by decide) (by decide)]
            exact q3
          · rw [l1', if_pos z, if_pos z', y1, bo1_s]
          · rw [l2', if_pos z, if_pos z', y2, bo2_s]
        · exact ⟨(l2 + y, a), (y, b), ⟨rfl, q1, q3⟩, fun k => by rw [l1', if_pos z, if_neg z'], fun k => by rw [l2', if_pos z, if_neg z']⟩
      · exact ⟨(l2 + y, a), (y, b), ⟨rfl, q1, q3⟩, fun k => by rw [l1', if_neg z], fun k => by rw [l2', if_neg z]⟩)
    (k1 := n) (k2 := n) (by omega) (by omega) (l2, V) (0, b) ⟨(Int32.add_zero l2).symm, h, hT⟩
  refine ⟨b'.1, a'.2, b'.2, e2, p2, p3, ?_⟩
  rw [← p1]
  exact e1
theorem losses_3 (hn : 100 ≤ n) (rc4 : MM → Int32 → Int32 → Int32 → Option (Int32 × MM)) (rc0 : MM → Int32 → Int32 → Int32 → Int32 → Option (Int32 × MM)) (l1 l2 l3 T : Int32) {V : MM} {b : Wd} (h : TW V b nv nc ns) (hT : row b 3 = T) : ∃ V' b', FX13_losesPatience n b = some b' ∧ TW V' b' nv nc ns ∧ row b' 3 = T ∧ FW_pass_L116 n rc0 rc4 n V l1 l2 l3 0 = rc4 V' l1 l2 (l3 + 1) := by
  obtain ⟨-, -, -, -, M0, bk0, hm0⟩ := id h
  have hbs := hm0.bs
  unfold FX13_losesPatience
  obtain ⟨a', b', ⟨p2, p3⟩, e1, e2⟩ := loop2 (L1 := fun k (a : MM) i => FW_pass_L116 n rc0 rc4 k a l1 l2 l3 i) (L2 := fun k (b : Wd) i => FX13_losesPatience_L2 n k b i) (g1 := fun a => rc4 a l1 l2 (l3 + 1)) (g2 := some) (ns := ns)
    (fun i (a : MM) (b : Wd) => TW a b nv nc ns ∧ row b 3 = T)
    (fun k a b hp => by
      obtain ⟨⟨hW, -, -, -, M, bk, q⟩, -⟩ := hp
      simp only [FW_pass_L116]
      rw [hW.1 2 (by decide), q.s0, if_pos (Int32.le_refl _)])
    (fun k a b hp => by
      obtain ⟨⟨-, -, -, -, M, bk, q⟩, -⟩ := hp
      simp only [FX13_losesPatience_L2]
      rw [gd2, show (b 15).1 2 2 = nI ns from q.s0, if_pos (Int32.le_refl _)])
    (fun a b i hi hp => by
      obtain ⟨q1, q3⟩ := hp
      obtain ⟨hW, hE, hD, hN, M, bk, q2⟩ := id q1
      have hbv := q2.bv
      have hbc := q2.bc
      obtain ⟨c, v, so, wd, pa, h1, h2, -, -, -, -, -, -, k0, k1, -⟩ := q2.due hi
      have w3 := hW.2.2.2 i hi
      have l1' : ∀ k, FW_pass_L116 n rc0 rc4 (k + 1) a l1 l2 l3 (nI i) = if shF (row b) i 6 = 0 then (if endI (row b) i = T then (bo2 (FW_cancel a (nI i)) fun x V9 => FW_pass_L116 n rc0 rc4 k V9 l1 l2 l3 (nI (i + 1))) else FW_pass_L116 n rc0 rc4 k a l1 l2 l3 (nI (i + 1))) else FW_pass_L116 n rc0 rc4 k a l1 l2 l3 (nI (i + 1)) := fun k => by
        simp only [FW_pass_L116, FW_pass_B164]
        rw [hW.1 2 (by decide), q2.s0, if_neg (le_nI hi (by omega)), gd_t (inI (by omega) (by omega)), gd_t (inI (by omega) (by omega)), nI_c (by omega), nI_1, w3 6 (by decide), wEnd hW hbc hi h1 k0, bo1_s, hW.1 3 (by decide), q3]
      have l2' : ∀ k, FX13_losesPatience_L2 n (k + 1) b (nI i) = if shF (row b) i 6 = 0 then (if endI (row b) i = T then (bo2 (FX13_cancels b (nI i)) fun x10 w11 => FX13_losesPatience_L2 n k (nt w11 31 x10) (nI (i + 1))) else FX13_losesPatience_L2 n k b (nI (i + 1))) else FX13_losesPatience_L2 n k b (nI (i + 1)) := fun k => by
        simp only [FX13_losesPatience_L2]
        rw [gd2, show (b 15).1 2 2 = nI ns from q2.s0, if_neg (le_nI hi (by omega)), rOpen q2.s0 hbs hi, bo1_s, nI_1, rEnd (by omega) (show c < 8 by omega) k0, bo1_s, gd3, show (b 15).1 2 3 = T from q3]
        by_cases z : shF (row b) i 6 = 0
        · rw [if_pos z, decide_eq_true z, if_pos rfl]
          by_cases z' : endI (row b) i = T
          · rw [if_pos z', if_pos z']; rfl
          · rw [if_neg z', if_neg z']
        · rw [if_neg z, decide_eq_false z, if_neg (by decide)]
      by_cases z : shF (row b) i 6 = 0
      · by_cases z' : endI (row b) i = T
        · obtain ⟨V', b', x, y1, y2, y3, y4, y5, y6, -, -⟩ := tw_cancel q1 hi z
          refine ⟨V', nt b' 31 x, ⟨y3.row (nt_row _ _ _), ?_⟩, fun k => ?_, fun k => ?_⟩
          · rw [nt_row, y4.1 3 (by decide) (by decide) (by decide)]
            exact q3
          · rw [l1', if_pos z, if_pos z', y1, bo2_s]
          · rw [l2', if_pos z, if_pos z', y2, bo2_s]
        · exact ⟨a, b, ⟨q1, q3⟩, fun k => by rw [l1', if_pos z, if_neg z'], fun k => by rw [l2', if_pos z, if_neg z']⟩
      · exact ⟨a, b, ⟨q1, q3⟩, fun k => by rw [l1', if_neg z], fun k => by rw [l2', if_neg z]⟩)
    (k1 := n) (k2 := n) (by omega) (by omega) V b ⟨h, hT⟩
  exact ⟨a', b', e2, p2, p3, e1⟩
/-- the clock -/
theorem tw_clock {V : MM} {b : Wd} (h : TW V b nv nc ns) {t : Nat} (et : row b 3 = nI t) (ht : t < 10300) : TW (sI V 0 3 (V.1 0 3 + 1)) (rs b 3 (nI (t + 1))) nv nc ns ∧ row (rs b 3 (nI (t + 1))) 3 = nI (t + 1) := by
  obtain ⟨hW, hE, hD, hN, M, bk, hm⟩ := h
  have hr : ∀ k, k ≠ 3 → row (rs b 3 (nI (t + 1))) k = row b k := fun k hk => rs_ne _ _ hk
  have hr3 : row (rs b 3 (nI (t + 1))) 3 = nI (t + 1) := by rw [rs_row, if_pos rfl]
  have eV : ∀ v k, vaF (row (rs b 3 (nI (t + 1)))) v k = vaF (row b) v k := fun v k => hr _ (by omega)
  have eC : ∀ v k, cuF (row (rs b 3 (nI (t + 1)))) v k = cuF (row b) v k := fun v k => hr _ (by omega)
  have eS : ∀ v k, shF (row (rs b 3 (nI (t + 1)))) v k = shF (row b) v k := fun v k => hr _ (by omega)
  have eL : ∀ i, lft (row (rs b 3 (nI (t + 1)))) i = lft (row b) i := fun i => by unfold lft; rw [eS, eS, eS, eS]
  refine ⟨⟨⟨fun k hk => ?_, fun v hv k hk => ?_, fun c hc k hk => ?_, fun i hi k hk => ?_⟩, ?_, fun i hi ho c hc h0 => ?_, ⟨fun v hv => ?_, fun c hc => ?_⟩, _, bk, hm.clock et (Nat.le_succ t) (by omega) hr hr3⟩, hr3⟩
  · rw [wU]
    by_cases z : k = 3
    · rw [if_pos ⟨rfl, z⟩, z, hr3, hW.1 3 (by decide), et, nI_1]
    · rw [if_neg (fun y => z y.2), hr k z, hW.1 k hk]
  · rw [wN _ _ (by omega), eV]; exact hW.2.1 v hv k hk
  · rw [wN _ _ (by omega), eC]; exact hW.2.2.1 c hc k hk
  · rw [wN _ _ (by omega), eS]; exact hW.2.2.2 i hi k hk
  · obtain ⟨eA, eB, eC', m, L, m1, m2, m3⟩ := hE
    refine ⟨?_, ?_, ?_, m, L, fun c hc => by rw [eC]; exact m1 c hc, fun i hi => by rw [eL]; exact m2 i hi, m3⟩
    · rw [hr 4 (by decide), hr 5 (by decide), isum_congr (g := fun i => shF (row b) i 4 * shF (row b) i 3) (fun i _ => by rw [eS, eS]), isum_congr (g := lft (row b)) (fun i _ => eL i)]
      exact eA
    · rw [hr 7 (by decide), hr 4 (by decide), isum_congr (g := fun c => cuF (row b) c 1) (fun i _ => eC i 1), isum_congr (g := lft (row b)) (fun i _ => eL i)]
      exact eB
    · rw [hr 4 (by decide), isum_congr (g := fun i => shF (row b) i 4 * bcI (shF (row b) i 8)) (fun i _ => by rw [eS, eS])]
      exact eC'
  · rw [eC]
    exact hD i hi (by rw [← eS]; exact ho) c hc (by rw [← eS]; exact h0)
  · rw [eV, eV]; exact hN.1 v hv
  · rw [eC, eC]; exact hN.2 c hc
/-- one second -/
theorem second_3 (hn : 100 ≤ n) (rc4 : MM → Int32 → Int32 → Int32 → Option (Int32 × MM)) (l1 l2 l3 : Int32) {V : MM} {b : Wd} (h : TW V b nv nc ns) {t : Nat} (et : row b 3 = nI t) (ht : t < 10300) : ∃ x V' b', FX13_passesOne n b = some (x, b') ∧ TW V' b' nv nc ns ∧ row b' 3 = nI (t + 1) ∧ FW_pass_L22 n rc4 n (sI V 0 3 (V.1 0 3 + 1)) l1 l2 l3 0 = rc4 V' l1 (l2 + x) (l3 + 1) := by
  obtain ⟨h1, h2⟩ := tw_clock h et ht
  obtain ⟨x, V1, b1, e1, e2, e3, e4⟩ := returns_3 hn rc4 (fun _ _ _ _ _ => none) l1 l2 l3 (nI (t + 1)) h1 h2
  obtain ⟨V2, b2, f1, f2, f3, f4⟩ := losses_3 hn rc4 (fun _ _ _ _ _ => none) l1 (l2 + x) l3 (nI (t + 1)) e2 e3
  refine ⟨x, V2, b2, ?_, f2, f3, e4.trans f4⟩
  unfold FX13_passesOne
  rw [gd3, gd3, bnd_s, show (b 15).1 2 3 = nI t from et, nI_1]
  show (bo2 (FX13_returnsNow n (rs b 3 (nI (t + 1)))) _) = _
  rw [e1, bo2_s, f1, bo1_s]
/-- some seconds -/
theorem pass_3 (hn : 1000 ≤ n) {s : Nat} (hs : s ≤ 240) : ∀ (d j : Nat), j + d = s → ∀ (k1 k2 : Nat), d < k1 → d < k2 → ∀ (V : MM) (b : Wd) (t : Nat) (cnt : Int32), TW V b nv nc ns → row b 3 = nI t → t + d ≤ 10300 → ∃ x V' b', FX13_passes_L4 n k1 b (nI s) cnt (nI j) = some (x, b') ∧ FW_pass_L4 n k2 V (nI s) cnt (nI j) = some (x, V') ∧ TW V' b' nv nc ns ∧ row b' 3 = nI (t + d) := by
  intro d
  induction d with
  | zero =>
    intro j hj k1 k2 g1 g2 V b t cnt h et ht
    obtain ⟨k1, rfl⟩ : ∃ k', k1 = k' + 1 := ⟨k1 - 1, by omega⟩
    obtain ⟨k2, rfl⟩ : ∃ k', k2 = k' + 1 := ⟨k2 - 1, by omega⟩
    have hj : j = s := by omega
    subst hj
    refine ⟨cnt, V, b, ?_, ?_, h, et⟩
    · simp only [FX13_passes_L4]
      rw [if_pos (Int32.le_refl _)]
    · simp only [FW_pass_L4]
      rw [if_pos (Int32.le_refl _)]
  | succ d ih =>
    intro j hj k1 k2 g1 g2 V b t cnt h et ht
    obtain ⟨k1, rfl⟩ : ∃ k', k1 = k' + 1 := ⟨k1 - 1, by omega⟩
    obtain ⟨k2, rfl⟩ : ∃ k', k2 = k' + 1 := ⟨k2 - 1, by omega⟩
    obtain ⟨x, V1, b1, e1, e2, e3, e4⟩ := second_3 (n := n) (by omega) (FW_pass_L4 n k2) (nI s) cnt (nI j) h et (by omega)
    obtain ⟨y, V2, b2, f1, f2, f3, f4⟩ := ih (j + 1) (by omega) k1 k2 (by omega) (by omega) V1 b1 (t + 1) (cnt + x) e2 e3 (by omega)
    refine ⟨y, V2, b2, ?_, ?_, f3, by rw [f4]; congr 1; omega⟩
    · simp only [FX13_passes_L4]
      rw [if_neg (nI_ge (by omega) (by omega)), e1, bo2_s, nI_1]
      exact f1
    · simp only [FW_pass_L4]
      rw [if_neg (nI_ge (by omega) (by omega)), bnd_s, e4, nI_1]
      exact f2
end PASS3
