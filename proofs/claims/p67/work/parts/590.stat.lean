set_option maxHeartbeats 400000
/-! one statement of a text, side by side -/
def LB (n : Nat) (w20 : Wd) (s24 : Int32) : Option Wd :=
  if s24 = 1 then
    bo1 (FX3_readShout n w20 2) fun w27 =>
    some w27
  else if s24 = 2 then
    bo2 (FX9_takeValley n w20 2) fun x30 w31 =>
    bnd (sW w31 11 (sI (w31 11) 1 3 x30)) fun w33 =>
    bo2 (FX9_takeNumber w33 0 9) fun x36 w37 =>
    bnd (sW w37 11 (sI (w37 11) 1 4 x36)) fun w39 =>
    some w39
  else if s24 = 3 then
    bo2 (FX9_takeValley n w20 2) fun x42 w43 =>
    bnd (sW w43 11 (sI (w43 11) 1 3 x42)) fun w45 =>
    bo2 (FX9_takeNumber w45 1 99) fun x48 w49 =>
    bnd (sW w49 11 (sI (w49 11) 1 4 x48)) fun w51 =>
    some w51
  else if s24 = 4 then
    bo2 (FX9_takeNumber w20 0 20) fun x54 w55 =>
    bnd (sW w55 11 (sI (w55 11) 1 4 x54)) fun w57 =>
    some w57
  else if s24 = 5 then
    bo1 (FX3_readPass w20 2) fun w60 =>
    some w60
  else if s24 = 6 then
    bo1 (FX3_readValley n w20 2) fun w63 =>
    some w63
  else if s24 = 7 then
    bo1 (FX3_readCustomer n w20 2) fun w66 =>
    some w66
  else if s24 = 8 then
    bo1 (FX3_readFake w20 2) fun w69 =>
    some w69
  else
    some w20
theorem b94 {n : Nat} {w w17 : Wd} {m : Nat} {y : Bool} (hf : FX9_failIf w y 5 = some w17) (h0 : (FX9_skip w17 11).1 1 0 = nI m) (hm : m < 12) : FX3_readStatement_B94 n w 2 y = LB n (FX9_skip w17) (swMap.getD m 0) := by
  unfold FX3_readStatement_B94
  rw [hf, bo1_s, bnd_s, h0, nI_c (a := m) (by omega), gd_t (decide_eq_true hm), gd_t (inI hm (by decide)), nI_c (a := m) (by omega), bnd_s]
  rfl
theorem stm_head {n : Nat} {w W : Wd} {m : Nat} (hW : dt w 0 (nI m) = W) (hv : FX9_verb n w = some m) (hm : m < 12) : FX3_readStatement n w 2 = if enD m = true then FX3_readStatement_B30 n W 2 false else FX3_readStatement_B30 n W 2 true := by
  have d0 : (W 11).1 1 0 = nI m := by rw [← hW, dt_at, if_pos rfl]
  unfold FX3_readStatement
  rw [hv, bo1_s, gd_t (decide_eq_true hm), show sW w 11 (sI (w 11) 1 0 (nI m)) = W from hW, bnd_s, d0, nI_c (a := m) (by omega), gd_t (decide_eq_true hm)]
theorem stm_30 {n : Nat} {W : Wd} {m : Nat} (hm : m < 12) (d0 : (W 11).1 1 0 = nI m) (h2 : m = 2 → (W 2).1 0 3 < 8) : FX3_readStatement_B30 n W 2 false = FX3_readStatement_B62 n W 2 false := by
  unfold FX3_readStatement_B30
  rw [fail_f, bo1_s, d0, nI_c (a := m) (by omega), gd_t (decide_eq_true hm)]
  by_cases z : m = 2
  · rw [if_pos z, if_pos (h2 z)]
    rfl
  · rw [if_neg z]
    rfl
theorem stm_62 {n : Nat} {W : Wd} {m : Nat} (hm : m < 12) (d0 : (W 11).1 1 0 = nI m) (h3 : m = 3 → (W 2).1 0 4 < 8) : FX3_readStatement_B62 n W 2 false = FX3_readStatement_B94 n W 2 false := by
  unfold FX3_readStatement_B62
  rw [fail_f, bo1_s, d0, nI_c (a := m) (by omega), gd_t (decide_eq_true hm)]
  by_cases z : m = 3
  · rw [if_pos z, if_pos (h3 z)]
    rfl
  · rw [if_neg z]
    rfl
theorem stm_good {n : Nat} {w W : Wd} {m : Nat} (hW : dt w 0 (nI m) = W) (hv : FX9_verb n w = some m) (hm : m < 12) (he : enD m = true) (h2 : m = 2 → (W 2).1 0 3 < 8) (h3 : m = 3 → (W 2).1 0 4 < 8) (h0 : (FX9_skip W 11).1 1 0 = nI m) : FX3_readStatement n w 2 = LB n (FX9_skip W) (swMap.getD m 0) := by
  have d0 : (W 11).1 1 0 = nI m := by rw [← hW, dt_at, if_pos rfl]
  rw [stm_head hW hv hm, if_pos he, stm_30 hm d0 h2, stm_62 hm d0 h3]
  exact b94 (fail_f W 5) h0 hm
theorem stm_bad {n : Nat} {w W W' : Wd} {m : Nat} (hW : dt w 0 (nI m) = W) (hv : FX9_verb n w = some m) (hm : m < 12) (he : enD m = false) (hf : FX9_failIf W true 1 = some W') (h0 : (W' 11).1 1 0 = nI m) (hs : FX9_skip W' = W') (hsw : swMap.getD m 0 = 0) : FX3_readStatement n w 2 = some W' := by
  have e30 : FX3_readStatement_B30 n W 2 true = FX3_readStatement_B62 n W' 2 false := by
    unfold FX3_readStatement_B30
    rw [hf, bo1_s, h0, nI_c (a := m) (by omega), gd_t (decide_eq_true hm), if_neg (fun z : m = 2 => by rw [z] at he; exact absurd he (by decide))]
    rfl
  have e94 := b94 (n := n) (fail_f W' 5) (by rw [hs]; exact h0) hm
  rw [stm_head hW hv hm, he, if_neg (by decide), e30, stm_62 hm h0 (fun z => by rw [z] at he; exact absurd he (by decide)), e94, hsw, hs]
  rfl
theorem stm_full2 {n : Nat} {w W W' : Wd} (hW : dt w 0 (nI 2) = W) (hv : FX9_verb n w = some 2) (hb : ¬ (W 2).1 0 3 < 8) (hf : FX9_failIf W true 5 = some W') (h0 : (W' 11).1 1 0 = nI 2) (hs : FX9_skip W' = W') : FX3_readStatement n w 2 = bo1 (FX3_readValley n W' 2) fun w63 => some w63 := by
  have d0 : (W 11).1 1 0 = nI 2 := by rw [← hW, dt_at, if_pos rfl]
  have e94 := b94 (n := n) (fail_f W' 5) (m := 2) (by rw [hs]; exact h0) (by decide)
  have e62 : FX3_readStatement_B62 n W 2 true = FX3_readStatement_B94 n W' 2 false := by
    unfold FX3_readStatement_B62
    rw [hf, bo1_s, h0, nI_c (a := 2) (by omega), gd_t (by decide), if_neg (by decide)]
    rfl
  have e30 : FX3_readStatement_B30 n W 2 false = FX3_readStatement_B62 n W 2 true := by
    unfold FX3_readStatement_B30
    rw [fail_f, bo1_s, d0, nI_c (a := 2) (by omega), gd_t (by decide), if_pos rfl, if_neg hb]
  rw [stm_head hW hv (by decide), if_pos (show enD 2 = true from rfl), e30, e62, e94, hs, show swMap.getD 2 0 = 6 from rfl]
  unfold LB
  rw [if_neg (by decide), if_neg (by decide), if_neg (by decide), if_neg (by decide), if_neg (by decide), if_pos rfl]
theorem stm_full3 {n : Nat} {w W W' : Wd} (hW : dt w 0 (nI 3) = W) (hv : FX9_verb n w = some 3) (hb : ¬ (W 2).1 0 4 < 8) (hf : FX9_failIf W true 5 = some W') (h0 : (W' 11).1 1 0 = nI 3) (hs : FX9_skip W' = W') : FX3_readStatement n w 2 = bo1 (FX3_readCustomer n W' 2) fun w66 => some w66 := by
  have d0 : (W 11).1 1 0 = nI 3 := by rw [← hW, dt_at, if_pos rfl]
  have e94 := b94 (n := n) hf (m := 3) (by rw [hs]; exact h0) (by decide)
  have e62 : FX3_readStatement_B62 n W 2 false = FX3_readStatement_B94 n W 2 true := by
    unfold FX3_readStatement_B62
    rw [fail_f, bo1_s, d0, nI_c (a := 3) (by omega), gd_t (by decide), if_pos rfl, if_neg hb]
  rw [stm_head hW hv (by decide), if_pos (show enD 3 = true from rfl), stm_30 (m := 3) (by decide) d0 (fun z => absurd z (by decide)), e62, e94, hs, show swMap.getD 3 0 = 7 from rfl]
  unfold LB
  rw [if_neg (by decide), if_neg (by decide), if_neg (by decide), if_neg (by decide), if_neg (by decide), if_neg (by decide), if_pos rfl]
theorem LnS.up {n : Nat} {b : Nat → Nat} {f l : Nat} {s0 s : Option Nat} {w v w0 v0 w1 v1 : Wd} (h : LnS n b f l s0 w v w1 v1) (hc : CF3 w0 w) (hr : RF2 v0 v) (hs : ∀ i, s0 = some i → ∃ i', s = some i' ∧ i' ≤ i) : LnS n b f l s w0 v0 w1 v1 := by
  obtain ⟨w2, v2, s2, h1, h2, h3, h4, h5, h6⟩ := h
  refine ⟨w2, v2, s2, h1, h2, hc.trans h3, hr.trans h4, h5, fun j hj => ?_⟩
  obtain ⟨⟨i, e1, e2⟩, e3⟩ := h6 j hj
  obtain ⟨i', g1, g2⟩ := hs i e1
  exact ⟨⟨i', g1, by omega⟩, e3⟩
theorem vl_n : lN (pk5 (vl 1)) = 437857460 ∧ lN (pk5 (vl 2)) = 739651769 ∧ lN (pk5 (vl 3)) = 126286804146 ∧ lN (pk5 (vl 4)) = 20201140 ∧ lN (pk5 (vl 5)) = 6631 ∧ lN (pk5 (vl 6)) = 17376357 ∧ lN (pk5 (vl 7)) = 759180 ∧ lN (pk5 (vl 8)) = 525939 ∧ lN (pk5 (vl 9)) = 197989 := by decide +kernel
theorem stat_pair {n : Nat} (hn : 1000 ≤ n) {b : Nat → Nat} {f l i : Nat} {w v : Wd} (h : TG b f l w v i) (hM : RM (w 2) (row v)) : ∃ w1 v1, FX3_readStatement n w 2 = some w1 ∧ FX13_statement n v = some v1 ∧ LnS n b f l (some i) w v w1 v1 := by
  obtain ⟨nv, nc, ns, bk, hm⟩ := hM
  have hbv := hm.bv
  have hbc := hm.bc
  obtain ⟨k, hk, hv, hz, hW⟩ := verb_pair (n := n) (by omega) h
  obtain ⟨-, n2, n3, n4, n5, n6, n7, n8, n9⟩ := vl_n
  have i2 : FX13_isWord v 739651769 = decide (k = 2) := by rw [← n2]; exact hW 2 (by decide) (by decide)
  have i3 : FX13_isWord v 126286804146 = decide (k = 3) := by rw [← n3]; exact hW 3 (by decide) (by decide)
  have i4 : FX13_isWord v 20201140 = decide (k = 4) := by rw [← n4]; exact hW 4 (by decide) (by decide)
  have i5 : FX13_isWord v 6631 = decide (k = 5) := by rw [← n5]; exact hW 5 (by decide) (by decide)
  have i6 : FX13_isWord v 17376357 = decide (k = 6) := by rw [← n6]; exact hW 6 (by decide) (by decide)
  have i7 : FX13_isWord v 759180 = decide (k = 7) := by rw [← n7]; exact hW 7 (by decide) (by decide)
  have i8 : FX13_isWord v 525939 = decide (k = 8) := by rw [← n8]; exact hW 8 (by decide) (by decide)
  have i9 : FX13_isWord v 197989 = decide (k = 9) := by rw [← n9]; exact hW 9 (by decide) (by decide)
  generalize hWd : dt w 0 (nI k) = W
  have tW : TG b f l W v i := by rw [← hWd]; exact St.cl (s := some i) h (dt_o _ _ _ (by decide))
  have hcW : CF3 w W := by rw [← hWd]; exact dt_c3 _ _ _
  have h2W : W 2 = w 2 := hcW 2 (by decide) (by decide)
  have d0 : (W 11).1 1 0 = nI k := by rw [← hWd, dt_at, if_pos rfl]
  -- a good verb, the market is not full
  have go : k ≠ 0 → ∃ v', CF W (FX9_skip W) ∧ FX13_goOnRead n v = some v' ∧ RF v v' ∧ TG b f l (FX9_skip W) v' (i + 1) ∧ RelM (FX9_skip W 2) (row v') nv nc ns bk ∧ (FX9_skip W 11).1 1 0 = nI k := fun z => by
    obtain ⟨k1, k2, v', k3, k4, k5⟩ := skip_pair hn tW (by rw [hz z]; decide)
    refine ⟨v', k2, k3, k4, k5, ?_, ?_⟩
    · rw [k2 2 (by decide), h2W, k4.row]
      exact hm
    · rw [k2 11 (by decide)]
      exact d0
  have up1 : ∀ j, some (i + 1) = some j → ∃ i', some i = some i' ∧ i' ≤ j := fun j hj => ⟨i, rfl, by have := Option.some.inj hj; omega⟩
  by_cases hb : k = 0 ∨ k = 1 ∨ k = 10 ∨ k = 11
  · obtain ⟨w', c1, c2, c3, c4⟩ := fail_pair tW (e := 1) (by decide) (by decide) (fun _ => rfl)
    have c1' : FX9_failIf W true 1 = some w' := c1
    have q0 : (w' 11).1 1 0 = nI k := by rw [c2 11 (by decide)]; exact d0
    refine ⟨w', FX13_wrong v (nI 1), ?_, ?_, LnE.ls hn ⟨none, hcW.trans c2.c3, c3.r2, c4, fun j hj => by cases hj⟩⟩
    · refine stm_bad hWd hv hk ?_ c1' q0 (skip_x c4) ?_
      · rcases hb with z | z | z | z <;> rw [z] <;> rfl
      · rcases hb with z | z | z | z <;> rw [z] <;> rfl
    · unfold FX13_statement
      rw [i2, i3, i4, i5, i6, i7, i8, i9, decide_eq_false (by omega), decide_eq_false (by omega), decide_eq_false (by omega), decide_eq_false (by omega), decide_eq_false (by omega), decide_eq_false (by omega), decide_eq_false (by omega), decide_eq_false (by omega)]
      rfl
  · rcases (by omega : k = 2 ∨ k = 3 ∨ k = 4 ∨ k = 5 ∨ k = 6 ∨ k = 7 ∨ k = 8 ∨ k = 9) with z | z | z | z | z | z | z | z
    · subst z
      have hst : FX13_statement n v = bo1 (FX13_newLine n v 0) fun w50 => some w50 := by
        unfold FX13_statement
        rw [i2, bnd_s, if_pos (by decide)]
      by_cases hf : nv < 8
      · have hlt : (W 2).1 0 3 < 8 := by
          rw [h2W, hm.v1]
          show nI nv < nI 8
          exact nI_lt hf (by decide)
        obtain ⟨v', k2, k3, k4, k5, hm', q0⟩ := go (by decide)
        obtain ⟨w1, v1, r1, r2, r3⟩ := line_valley hn (s := some (i + 1)) k5 hm' (fun _ _ => hf) q0
        refine ⟨w1, v1, ?_, ?_, (r3.ls hn).up (hcW.trans k2.c3) k4.r2 up1⟩
        · rw [stm_good hWd hv hk rfl (fun _ => hlt) (fun y => absurd y (by decide)) q0, show swMap.getD 2 0 = 6 from rfl]
          unfold LB
          rw [if_neg (by decide), if_neg (by decide), if_neg (by decide), if_neg (by decide), if_neg (by decide), if_pos rfl, r1, bo1_s]
        · have hne : ¬ (v 15).1 2 ((0 : Int32).toNatClampNeg) = 8 := by
            show ¬ row v 0 = nI 8
            rw [hm.v0]
            exact nI_ne (by omega) (by omega) (by decide)
          rw [hst]
          unfold FX13_newLine FX13_newLine_B16
          rw [gd0, if_neg hne, (good_g tW).1, bnd_s, if_pos rfl, k3, bo1_s, r2, bo1_s]
      · have hlt : ¬ (W 2).1 0 3 < 8 := by
          rw [h2W, hm.v1]
          show ¬ nI nv < nI 8
          rw [nI_ltI (by omega) (by decide)]
          omega
        obtain ⟨w', c1, c2, c3, c4⟩ := fail_pair tW (e := 5) (by decide) (by decide) (fun y => absurd ((hz (by decide)).symm.trans y) (by decide))
        have c1' : FX9_failIf W true 5 = some w' := c1
        have q0 : (w' 11).1 1 0 = nI 2 := by rw [c2 11 (by decide)]; exact d0
        have hm' : RelM (w' 2) (row (FX13_wrong v (nI 5))) nv nc ns bk := by rw [c2 2 (by decide), h2W, c3.row]; exact hm
        obtain ⟨w1, v1, r1, r2, r3⟩ := line_valley hn (s := none) c4 hm' (fun _ y => by cases y) q0
        refine ⟨w1, v1, ?_, ?_, (r3.ls hn).up (hcW.trans c2.c3) c3.r2 (fun _ y => by cases y)⟩
        · rw [stm_full2 hWd hv hlt c1' q0 (skip_x c4), r1, bo1_s]
        · have hne : (v 15).1 2 ((0 : Int32).toNatClampNeg) = 8 := by
            show row v 0 = nI 8
            rw [hm.v0, show nv = 8 by omega]
          rw [hst]
          unfold FX13_newLine FX13_newLine_B16
          rw [gd0, if_pos hne, show FX13_wrong v 5 = FX13_wrong v (nI 5) from rfl, bnd_s, (good_x c4).1, bnd_s, if_neg (by decide), r2, bo1_s]
    · subst z
      have hst : FX13_statement n v = bo1 (FX13_newLine n v 1) fun w50 => some w50 := by
        unfold FX13_statement
        rw [i2, bnd_s, if_neg (by decide), i3, bnd_s, if_pos (by decide)]
      by_cases hf : nc < 8
      · have hlt : (W 2).1 0 4 < 8 := by
          rw [h2W, hm.c1]
          show nI nc < nI 8
          exact nI_lt hf (by decide)
        obtain ⟨v', k2, k3, k4, k5, hm', q0⟩ := go (by decide)
        obtain ⟨w1, v1, r1, r2, r3⟩ := line_customer hn (s := some (i + 1)) k5 hm' (fun _ _ => hf) q0
        refine ⟨w1, v1, ?_, ?_, (r3.ls hn).up (hcW.trans k2.c3) k4.r2 up1⟩
        · rw [stm_good hWd hv hk rfl (fun y => absurd y (by decide)) (fun _ => hlt) q0, show swMap.getD 3 0 = 7 from rfl]
          unfold LB
          rw [if_neg (by decide), if_neg (by decide), if_neg (by decide), if_neg (by decide), if_neg (by decide), if_neg (by decide), if_pos rfl, r1, bo1_s]
        · have hne : ¬ (v 15).1 2 ((1 : Int32).toNatClampNeg) = 8 := by
            show ¬ row v 1 = nI 8
            rw [hm.c0]
            exact nI_ne (by omega) (by omega) (by decide)
          rw [hst]
          unfold FX13_newLine FX13_newLine_B16
          rw [gd_t (by decide), if_neg hne, (good_g tW).1, bnd_s, if_pos rfl, k3, bo1_s, r2, bo1_s]
      · have hlt : ¬ (W 2).1 0 4 < 8 := by
          rw [h2W, hm.c1]
          show ¬ nI nc < nI 8
          rw [nI_ltI (by omega) (by decide)]
          omega
        obtain ⟨w', c1, c2, c3, c4⟩ := fail_pair tW (e := 5) (by decide) (by decide) (fun y => absurd ((hz (by decide)).symm.trans y) (by decide))
        have c1' : FX9_failIf W true 5 = some w' := c1
        have q0 : (w' 11).1 1 0 = nI 3 := by rw [c2 11 (by decide)]; exact d0
        have hm' : RelM (w' 2) (row (FX13_wrong v (nI 5))) nv nc ns bk := by rw [c2 2 (by decide), h2W, c3.row]; exact hm
        obtain ⟨w1, v1, r1, r2, r3⟩ := line_customer hn (s := none) c4 hm' (fun _ y => by cases y) q0
        refine ⟨w1, v1, ?_, ?_, (r3.ls hn).up (hcW.trans c2.c3) c3.r2 (fun _ y => by cases y)⟩
        · rw [stm_full3 hWd hv hlt c1' q0 (skip_x c4), r1, bo1_s]
        · have hne : (v 15).1 2 ((1 : Int32).toNatClampNeg) = 8 := by
            show row v 1 = nI 8
            rw [hm.c0, show nc = 8 by omega]
          rw [hst]
          unfold FX13_newLine FX13_newLine_B16
          rw [gd_t (by decide), if_pos hne, show FX13_wrong v 5 = FX13_wrong v (nI 5) from rfl, bnd_s, (good_x c4).1, bnd_s, if_neg (by decide), r2, bo1_s]
    · subst z
      obtain ⟨v', k2, k3, k4, k5, hm', q0⟩ := go (by decide)
      obtain ⟨w1, v1, r1, r2, r3⟩ := line_shout hn k3 (s := some (i + 1)) k5 hm' q0
      refine ⟨w1, v1, ?_, ?_, r3.up (hcW.trans k2.c3) k4.r2 up1⟩
      · rw [stm_good hWd hv hk rfl (fun y => absurd y (by decide)) (fun y => absurd y (by decide)) q0, show swMap.getD 4 0 = 1 from rfl]
        unfold LB
        rw [if_pos rfl, r1, bo1_s]
      · unfold FX13_statement
        rw [i2, bnd_s, if_neg (by decide), i3, bnd_s, if_neg (by decide), i4, bnd_s, if_pos (by decide), r2, bo1_s]
    · subst z
      obtain ⟨v', k2, k3, k4, k5, hm', q0⟩ := go (by decide)
      obtain ⟨w1, v1, r1, r2, r3⟩ := line_fp hn (s := some (i + 1)) (lo := 0) (hi := 9) (K := 3) (chg := FX6_changeFog) k3 k5 hm' (by decide) (by decide) (fun w' e => ap_fog (e.trans q0)) (fun v'' q d e hq _ hd => by
        have hm2 : RelM (FX9_skip W 2) (row v'') nv nc ns bk := by rw [e]; exact hm'
        exact fog_m hm2 hq hd)
      refine ⟨w1, v1, ?_, ?_, (r3.ls hn).up (hcW.trans k2.c3) k4.r2 up1⟩
      · rw [stm_good hWd hv hk rfl (fun y => absurd y (by decide)) (fun y => absurd y (by decide)) q0, show swMap.getD 5 0 = 2 from rfl]
        unfold LB
        rw [if_neg (by decide), if_pos rfl]
        exact r1
      · have r2' : FX13_valleyLine n v 3 0 9 = some v1 := r2
        unfold FX13_statement
        rw [i2, bnd_s, if_neg (by decide), i3, bnd_s, if_neg (by decide), i4, bnd_s, if_neg (by decide), i5, bnd_s, if_pos (by decide), r2', bo1_s]
    · subst z
      obtain ⟨v', k2, k3, k4, k5, hm', q0⟩ := go (by decide)
      obtain ⟨w1, v1, r1, r2, r3⟩ := line_fp hn (s := some (i + 1)) (lo := 1) (hi := 99) (K := 2) (chg := FX6_changePrice) k3 k5 hm' (by decide) (by decide) (fun w' e => ap_price (e.trans q0)) (fun v'' q d e hq hd1 hd => by
        have hm2 : RelM (FX9_skip W 2) (row v'') nv nc ns bk := by rw [e]; exact hm'
        exact price_m hm2 hq hd1 hd)
      refine ⟨w1, v1, ?_, ?_, (r3.ls hn).up (hcW.trans k2.c3) k4.r2 up1⟩
      · rw [stm_good hWd hv hk rfl (fun y => absurd y (by decide)) (fun y => absurd y (by decide)) q0, show swMap.getD 6 0 = 3 from rfl]
        unfold LB
        rw [if_neg (by decide), if_neg (by decide), if_pos rfl]
        exact r1
      · have r2' : FX13_valleyLine n v 2 1 99 = some v1 := r2
        unfold FX13_statement
        rw [i2, bnd_s, if_neg (by decide), i3, bnd_s, if_neg (by decide), i4, bnd_s, if_neg (by decide), i5, bnd_s, if_neg (by decide), i6, bnd_s, if_pos (by decide), r2', bo1_s]
    · subst z
      obtain ⟨v', k2, k3, k4, k5, hm', q0⟩ := go (by decide)
      obtain ⟨w1, v1, r1, r2, r3⟩ := line_well hn k3 (s := some (i + 1)) k5 hm' q0
      refine ⟨w1, v1, ?_, ?_, (r3.ls hn).up (hcW.trans k2.c3) k4.r2 up1⟩
      · rw [stm_good hWd hv hk rfl (fun y => absurd y (by decide)) (fun y => absurd y (by decide)) q0, show swMap.getD 7 0 = 4 from rfl]
        unfold LB
        rw [if_neg (by decide), if_neg (by decide), if_neg (by decide), if_pos rfl]
        exact r1
      · unfold FX13_statement
        rw [i2, bnd_s, if_neg (by decide), i3, bnd_s, if_neg (by decide), i4, bnd_s, if_neg (by decide), i5, bnd_s, if_neg (by decide), i6, bnd_s, if_neg (by decide), i7, bnd_s, if_pos (by decide), r2, bo1_s]
    · subst z
      obtain ⟨v', k2, k3, k4, k5, hm', q0⟩ := go (by decide)
      obtain ⟨w1, v1, r1, r2, r3⟩ := line_pass hn k3 k5 hm' q0
      refine ⟨w1, v1, ?_, ?_, (r3.ls hn).up (hcW.trans k2.c3) k4.r2 up1⟩
      · rw [stm_good hWd hv hk rfl (fun y => absurd y (by decide)) (fun y => absurd y (by decide)) q0, show swMap.getD 8 0 = 5 from rfl]
        unfold LB
        rw [if_neg (by decide), if_neg (by decide), if_neg (by decide), if_neg (by decide), if_pos rfl, r1, bo1_s]
      · unfold FX13_statement
        rw [i2, bnd_s, if_neg (by decide), i3, bnd_s, if_neg (by decide), i4, bnd_s, if_neg (by decide), i5, bnd_s, if_neg (by decide), i6, bnd_s, if_neg (by decide), i7, bnd_s, if_neg (by decide), i8, bnd_s, if_pos (by decide), r2, bo1_s]
    · subst z
      obtain ⟨v', k2, k3, k4, k5, hm', q0⟩ := go (by decide)
      obtain ⟨w1, v1, r1, r2, r3⟩ := line_fake hn k3 k5 hm' q0
      refine ⟨w1, v1, ?_, ?_, (r3.ls hn).up (hcW.trans k2.c3) k4.r2 up1⟩
      · rw [stm_good hWd hv hk rfl (fun y => absurd y (by decide)) (fun y => absurd y (by decide)) q0, show swMap.getD 9 0 = 8 from rfl]
        unfold LB
        rw [if_neg (by decide), if_neg (by decide), if_neg (by decide), if_neg (by decide), if_neg (by decide), if_neg (by decide), if_neg (by decide), if_pos rfl, r1, bo1_s]
      · unfold FX13_statement
        rw [i2, bnd_s, if_neg (by decide), i3, bnd_s, if_neg (by decide), i4, bnd_s, if_neg (by decide), i5, bnd_s, if_neg (by decide), i6, bnd_s, if_neg (by decide), i7, bnd_s, if_neg (by decide), i8, bnd_s, if_neg (by decide), i9, bnd_s, if_pos (by decide), r2, bo1_s]
