set_option maxHeartbeats 400000
/-! shout -/
theorem wi_rng {p : Int32} {a b : Nat} (ha : a ≤ 10000) (hb : b ≤ 10000) (h : FX12_isWithin p (nI a) (nI b) = true) : ∃ j, a ≤ j ∧ j ≤ b ∧ p = nI j := by
  obtain ⟨h1, h2⟩ := wi_iff.mp h
  have h3 : ¬ p < 0 := fun z => h1 (by
    rw [Int32.lt_iff_toInt_lt] at z ⊢
    rw [nI_toInt (by omega)]
    have : (0 : Int32).toInt = 0 := by decide
    omega)
  obtain ⟨j, hj, rfl⟩ := nI_of h3
  refine ⟨j, ?_, ?_, rfl⟩
  · have := mt (nI_ltI (a := j) (b := a) hj (by omega)).mpr h1
    omega
  · have := mt (nI_ltI (a := b) (b := j) (by omega) hj).mpr h2
    omega
theorem rLoud (p : Int32) : FX13_isLoud p = FX12_isWithin p 1 20 := by
  unfold FX13_isLoud
  rw [bnd_s, show (1 : Int64) = (1 : Int32).toInt64 by decide, show (20 : Int64) = (20 : Int32).toInt64 by decide, isIn_w]
theorem gt_f (w : Wd) (b c : Bool) : FX13_goesThree w false b c = (false, cd w 1) := by
  unfold FX13_goesThree
  rw [if_neg (by decide), bnd_s]
  refine if_neg ?_
  show ¬ FX13_thrown (cd w 1) = 0
  rw [cd_th]
  decide
theorem gt_tf (w : Wd) (c : Bool) : FX13_goesThree w true false c = (false, cd w 2) := by
  unfold FX13_goesThree
  rw [if_pos rfl, if_neg (by decide), bnd_s]
  refine if_neg ?_
  show ¬ FX13_thrown (cd w 2) = 0
  rw [cd_th]
  decide
theorem gt_ttf (w : Wd) : FX13_goesThree w true true false = (false, cd w 3) := by
  unfold FX13_goesThree
  rw [if_pos rfl, if_pos rfl, if_neg (by decide), bnd_s]
  refine if_neg ?_
  show ¬ FX13_thrown (cd w 3) = 0
  rw [cd_th]
  decide
theorem gt_ttt (w : Wd) : FX13_goesThree w true true true = (true, cd w 0) := by
  unfold FX13_goesThree
  rw [if_pos rfl, if_pos rfl, if_pos rfl, bnd_s]
  exact if_pos (cd_th w 0)
theorem rShout_1 {n : Nat} (w : Wd) (p1 p2 p3 p4 : Int32) : FX13_shout_B21 n w p1 p2 p3 p4 false = some (0, cd w 1) := by
  have h : ∀ y, FX13_shout_B43 n w p1 p2 p3 p4 false y = some (0, cd w 1) := fun y => by
    unfold FX13_shout_B43 FX13_shout_B75 FX13_shout_B76
    rw [if_neg (by decide), gt_f, bnd2_s, if_neg (by decide)]
  unfold FX13_shout_B21 FX13_shout_B42
  rw [bnd_s, bnd_s, h, h]
  by_cases z : FX13_isLoud p3 = true
  · rw [if_pos z]
    by_cases z2 : FX13_areWalls p4 = true
    · rw [if_pos z2]
    · rw [if_neg z2]
  · rw [if_neg z]
theorem rShout_2 {n : Nat} (w : Wd) (p1 p2 p3 p4 : Int32) (h : FX12_isWithin p3 1 20 = false ∨ FX12_isWithin p4 1 4 = false) : FX13_shout_B21 n w p1 p2 p3 p4 true = some (0, cd w 2) := by
  have h2 : FX13_shout_B43 n w p1 p2 p3 p4 true false = some (0, cd w 2) := by
    unfold FX13_shout_B43 FX13_shout_B75 FX13_shout_B76
    rw [if_pos rfl, if_neg (by decide), gt_tf, bnd2_s, if_neg (by decide)]
  unfold FX13_shout_B21 FX13_shout_B42
  rw [bnd_s, bnd_s, h2, rLoud, rWalls]
  rcases h with h | h
  · rw [h, if_neg (by decide)]
  · rw [h]
    by_cases z : FX12_isWithin p3 1 20 = true
    · rw [if_pos z, if_neg (by decide)]
    · rw [if_neg z]
theorem rShout_3 {n : Nat} {w : Wd} {p1 p2 p3 p4 x : Int32} (h1 : FX12_isWithin p3 1 20 = true) (h2 : FX12_isWithin p4 1 4 = true) (h3 : FX13_refuses n w p1 p2 p4 = some x) : FX13_shout_B21 n w p1 p2 p3 p4 true = if x = 0 then FX13_shout_B76 n w p1 p2 p3 p4 true true true else some (0, cd w 3) := by
  unfold FX13_shout_B21
  rw [bnd_s, bnd_s, rLoud, rWalls, h1, h2, if_pos rfl, if_pos rfl]
  unfold FX13_shout_B43
  rw [if_pos rfl, if_pos rfl, h3, bo1_s]
  by_cases z : x = 0
  · rw [if_pos z, if_pos z]
  · rw [if_neg z, if_neg z]
    unfold FX13_shout_B75 FX13_shout_B76
    rw [gt_ttf, bnd2_s, if_neg (by decide)]
theorem cFS {n : Nat} (hn : 100 ≤ n) {M : MM} {r : Nat → Int32} {nv nc ns c v : Nat} {bk : Nat → Nat} (hm : RelM M r nv nc ns bk) (hc : c < nc) (hv : v < nv) {p3 p4 : Int32} (h1 : FX12_isWithin p3 1 20 = true) (h2 : FX12_isWithin p4 1 4 = true) : FX6_faultOfSale n M (nI c) (nI v) p3 p4 = some (if whyF r ns c v p4 = 0 then 0 else 3) := by
  have hbv := hm.bv
  have hbc := hm.bc
  unfold FX6_faultOfSale FX6_hasCustomer FX6_hasValley
  rw [hm.c1, hm.v1, bnd_s, bnd_s, wi_nI hc (by omega), bnd_s, if_pos rfl, wi_nI hv (by omega), bnd_s, if_pos rfl, h1, bnd_s, if_pos rfl, h2, bnd_s, if_pos rfl, cRefused hn hm hc hv, bo1_s, ite_some]
theorem ob_52 {n : Nat} (hn : 2500 ≤ n) {w : Wd} (h : Good w) (a1 a2 a3 a4 a5 : Int32) : ∃ w9, FLc_52 n w a1 a2 a3 a4 a5 = some w9 ∧ Good w9 := by
  obtain ⟨nv, nc, ns, bk, hm⟩ := h.m
  have hbs := hm.bs
  have hbv := hm.bv
  have hbc := hm.bc
  show ∃ w9, (bo2 (FL_shout n w a1 a2 a3 a4) fun k w1 => bo2 (FX13_shout n w1 a1 a2 a3 a4) fun q w2 => chk k q w2) = some w9 ∧ Good w9
  unfold FL_shout FX13_shout
  cases hc : FX12_isWithin a1 0 (nI nc - 1) with
  | false =>
    have hx : FX12_shout n w a1 a2 a3 a4 = some (.error ("java/lang/IndexOutOfBoundsException", w)) := by
      unfold FX12_shout FX6_faultOfSale
      rw [cHasC hm, hc, bnd_s, if_neg (by decide), bo1_s]
      rfl
    rw [lw_x (k := 1) hx (if_pos rfl), bo2_s, rIsC hm.c0, hc, bo1_s, if_neg (by decide)]
    unfold FX13_shout_B20
    rw [rShout_1, bo2_s]
    exact ⟨_, er_chk h (by decide)⟩
  | true =>
    obtain ⟨c, hc1, rfl⟩ := wi_in (by omega) hc
    cases hv : FX12_isWithin a2 0 (nI nv - 1) with
    | false =>
      have hx : FX12_shout n w (nI c) a2 a3 a4 = some (.error ("java/lang/IndexOutOfBoundsException", w)) := by
        unfold FX12_shout FX6_faultOfSale
        rw [cHasC hm, hc, bnd_s, if_pos rfl, cHasV hm, hv, bnd_s, if_neg (by decide), bo1_s]
        rfl
      rw [lw_x (k := 1) hx (if_pos rfl), bo2_s, rIsC hm.c0, hc, bo1_s, if_pos rfl, rIsV hm.v0, hv, bo1_s, if_neg (by decide)]
      unfold FX13_shout_B20
      rw [rShout_1, bo2_s]
      exact ⟨_, er_chk h (by decide)⟩
    | true =>
      obtain ⟨v, hv1, rfl⟩ := wi_in (by omega) hv
      by_cases hlo : FX12_isWithin a3 1 20 = false ∨ FX12_isWithin a4 1 4 = false
      · have hx : FX12_shout n w (nI c) (nI v) a3 a4 = some (.error ("java/lang/IllegalArgumentException", w)) := by
          unfold FX12_shout FX6_faultOfSale
          rw [cHasC hm, hc, bnd_s, if_pos rfl, cHasV hm, hv, bnd_s, if_pos rfl]
          rcases hlo with z | z
          · rw [z, bnd_s, if_neg (by decide), bo1_s]
            rfl
          · rw [z, bnd_s]
            by_cases z2 : FX12_isWithin a3 1 20 = true
            · rw [if_pos z2, bnd_s, if_neg (by decide), bo1_s]
              rfl
            · rw [if_neg z2, bo1_s]
              rfl
        rw [lw_x (k := 2) hx rfl, bo2_s, rIsC hm.c0, hc, bo1_s, if_pos rfl, rIsV hm.v0, hv, bo1_s, if_pos rfl, rShout_2 _ _ _ _ _ hlo, bo2_s]
        exact ⟨_, er_chk h (by decide)⟩
      · have h3 : FX12_isWithin a3 1 20 = true := by
          cases z : FX12_isWithin a3 1 20 with
          | true => rfl
          | false => exact absurd (Or.inl z) hlo
        have h4 : FX12_isWithin a4 1 4 = true := by
          cases z : FX12_isWithin a4 1 4 with
          | true => rfl
          | false => exact absurd (Or.inr z) hlo
        by_cases hw : whyF (row w) ns c v a4 = 0
        · obtain ⟨lo, l1, l2, rfl⟩ := wi_rng (a := 1) (b := 20) (by decide) (by decide) h3
          obtain ⟨od, o1, o2, rfl⟩ := wi_rng (a := 1) (b := 4) (by decide) (by decide) h4
          have hns : ns < 30 := by
            by_cases z : ns = 30
            · exfalso
              unfold whyF at hw
              rw [if_pos z] at hw
              exact absurd hw (by decide)
            · omega
          obtain ⟨w6, x, M', wF, e6, e61, ec, e15, er, ek, hG⟩ := und_ok hn h (fun M => FX6_sell M (nI c) (nI v) (nI lo) (nI od)) (fun w => FX13_sells w (nI c) (nI v) (nI lo) (nI od)) (fun w9 hr => by
            have hN : RelN (w 1) (row w9) nv nc ns bk := by rw [hr]; exact hm.toN
            obtain ⟨t, ht, et⟩ := hm.tm
            have hT : TmOk (row w9) ns t := by rw [hr]; exact hm.tmOk ht et
            obtain ⟨M', w', bk', q1, q2, q3, q4, q5, q6⟩ := sell_pair hN hns hc1 hv1 l1 l2 o1 o2 ht (by rw [hr]; exact et) hT
            exact ⟨_, M', w', q1, q2, q3, nv, nc, ns + 1, bk', q4.toM ht q5 q6⟩)
          have hx : FX12_shout n w (nI c) (nI v) (nI lo) (nI od) = some (.ok (x, sW w6 1 M')) := by
            unfold FX12_shout
            rw [cFS (by omega) hm hc1 hv1 h3 h4, if_pos hw, bo1_s]
            show (bo1 (FX5_remember n w 1) fun w6 => _) = _
            rw [e6, bo1_s, e61, ec, bo2_s, bnd_s]
          have hmA : RelM (w 1) (row (ow (sW w6 1 M') x)) nv nc ns bk := by rw [e15]; exact hm
          rw [lw_o hx, bo2_s, rIsC hmA.c0, hc, bo1_s, if_pos rfl, rIsV hmA.v0, hv, bo1_s, if_pos rfl, rShout_3 h3 h4 (rRefuses (by omega) hmA hc1 hv1 (nI od)), e15, if_pos hw]
          unfold FX13_shout_B76
          rw [gt_ttt, bnd2_s, if_pos rfl, er, bo2_s]
          exact ⟨wF, ek, hG⟩
        · have hx : FX12_shout n w (nI c) (nI v) a3 a4 = some (.error ("java/lang/IllegalStateException", w)) := by
            unfold FX12_shout
            rw [cFS (by omega) hm hc1 hv1 h3 h4, if_neg hw, bo1_s]
            rfl
          rw [lw_x (k := 3) hx rfl, bo2_s, rIsC hm.c0, hc, bo1_s, if_pos rfl, rIsV hm.v0, hv, bo1_s, if_pos rfl, rShout_3 h3 h4 (rRefuses (by omega) hm hc1 hv1 a4), if_neg hw, bo2_s]
          exact ⟨_, er_chk h (by decide)⟩
