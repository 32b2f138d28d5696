set_option maxHeartbeats 400000
/-! earnedAfter: the class's formula is what the reference's seconds bring -/
theorem ar7 (a x s : Int32) : (a + x) + (s + (0 - x)) = a + s := by
  rw [Int32.zero_sub, Int32.add_assoc a x, Int32.add_comm s, ← Int32.add_assoc x, Int32.add_right_neg, Int32.zero_add]
theorem tc_step {r : Nat → Int32} {i E b : Nat} (hb : b < 4) : isum 4 (tcI r i E (b + 1)) = isum 4 (tcI r i E b) + (0 - tcI r i E b b) := by
  rw [isum_upd (f := tcI r i E b) (f' := tcI r i E (b + 1)) (i := b) (n := 4) hb (fun j _ hne => by
    unfold tcI
    by_cases z : b ≤ j
    · simp only [z, show b + 1 ≤ j by omega]
    · rw [if_neg (fun y => absurd y.1 (by omega)), if_neg (fun y => absurd y.1 (by omega))]), show tcI r i E (b + 1) b = 0 from if_neg (fun y => absurd y.1 (by omega))]
theorem cToCome {n : Nat} (hn : 100 ≤ n) {M : MM} {r : Nat → Int32} {nv nc ns : Nat} {bk : Nat → Nat} (hm : RelN M r nv nc ns bk) {i E : Nat} (hi : i < ns) (hE : E ≤ 12000) : FX6_earningsToCome n M (20 + i) (nI E) = some (isum 4 (tcI r i E (bk i))) := by
  have hbv := hm.bv
  have hbc := hm.bc
  obtain ⟨c, v, so, wd, pa, lo, od, fg, ea, h1, h2, w1, w2, p1, p2, s1, l1, o1, b1, g1, x1, q0, q1, q2, q3, q4, q5, q7, q8, q9, q10, -⟩ := hm.num hi
  obtain ⟨c', v', so', wd', pa', d1, d2, d3, d4, d5, d6, d7, d8, d9, d10, d11, d12, d13, -, d14, d15, d16, -⟩ := hm.due hi
  have hS := hm.ss i hi
  obtain ⟨z1, z2, z3, z4, -, -⟩ := hm.secs hi
  have e1 : v' = v := (nI_eq (by omega) (by omega)).mp (d10.symm.trans q1)
  subst e1
  have e3 : wd' = wd := (nI_eq (by omega) (by omega)).mp (d11.symm.trans q8)
  subst e3
  have es := sec_e (j := i) q1 (by omega) q5 s1 q8 w2
  have eo : (shF r i 3).toNatClampNeg = od := by rw [q3, nI_c (by omega)]
  have e7 : M.1 (20 + i) 7 = nI (ends r i) := by rw [d16, ← d14, z2]
  have emin : (if M.1 (20 + i) 7 < nI E then M.1 (20 + i) 7 else nI E) = nI (if ends r i < E then ends r i else E) := by
    rw [e7]
    by_cases z : ends r i < E
    · rw [if_pos (nI_lt z (by omega)), if_pos z]
    · rw [if_neg (by rw [nI_ltI (by omega) (by omega)]; exact z), if_neg z]
  have H : ∀ (d b k : Nat) (acc : Int32) (l2 : Int32), b + d = od → d < k → FX6_earningsToCome_L20 n k M (20 + i) l2 (nI (if ends r i < E then ends r i else E)) acc (nI (b + 1)) = some (acc + isum 4 (tcI r i E b)) := by
    intro d
    induction d with
    | zero =>
      intro b k acc l2 hb hk
      obtain ⟨k, rfl⟩ : ∃ k', k = k' + 1 := ⟨k - 1, by omega⟩
      simp only [FX6_earningsToCome_L20]
      rw [hS.e3, q3, if_pos (nI_lt (by omega) (by omega))]
      have : ∀ k, k < 4 → tcI r i E b k = 0 := fun k _ => if_neg (fun y => by
        obtain ⟨y1, y2, -⟩ := y
        rw [eo] at y2
        omega)
      rw [isum_congr (g := fun _ => 0) this]
      exact congrArg some (Int32.add_zero acc).symm
    | succ d ih =>
      intro b k acc l2 hb hk
      obtain ⟨k, rfl⟩ : ∃ k', k = k' + 1 := ⟨k - 1, by omega⟩
      have m1 : wd' * (b + 1) ≤ 60 * 5 := Nat.mul_le_mul (by omega) (by omega)
      have esec : FX8_secondOf M (20 + i) (nI (b + 1)) = nI (sec r i b) := by
        unfold FX8_secondOf
        rw [hS.e6, q5, d15, pk_mul, nI_add, es]
      have hsec : sec r i b ≤ 12000 := by rw [es]; omega
      have step := tc_step (r := r) (i := i) (E := E) (b := b) (by omega)
      have ih' := fun acc => ih (b + 1) k acc l2 (by omega) (by omega)
      simp only [FX6_earningsToCome_L20]
      rw [hS.e3, q3, if_neg (by rw [nI_ltI (by omega) (by omega)]; omega), esec, bnd_s, cHeard hm hi (by omega), nI_1]
      by_cases zt : sec r i b ≤ (if ends r i < E then ends r i else E)
      · have zt2 : sec r i b ≤ E ∧ sec r i b ≤ ends r i := by
          by_cases z : ends r i < E
          · rw [if_pos z] at zt; omega
          · rw [if_neg z] at zt; omega
        rw [if_neg (by
          rw [nI_ltI (by by_cases z : ends r i < E <;> simp only [z, if_true, if_false] <;> omega) (by omega)]
          omega), bo1_s]
        by_cases zh : 2 * (b + 1) + (vaF r (shF r i 1).toNatClampNeg 3).toNatClampNeg + 1 ≤ (shF r i 2).toNatClampNeg
        · have et : tcI r i E b b = shF r i 4 := if_pos ⟨Nat.le_refl _, by omega, zt2.1, zt2.2, zh⟩
          rw [if_pos (decide_eq_true zh), ih', step, et, hS.e4, ar7]
        · have et : tcI r i E b b = 0 := if_neg (fun y => zh y.2.2.2.2)
          rw [if_neg (by rw [decide_eq_false zh]; decide), ih', step, et, ar7]
      · have et : tcI r i E b b = 0 := if_neg (fun y => by
          obtain ⟨-, -, y3, y4, -⟩ := y
          apply zt
          by_cases z : ends r i < E
          · rw [if_pos z]; exact y4
          · rw [if_neg z]; exact y3)
        rw [if_pos (nI_lt (by omega) (by omega)), ih', step, et, ar7]
  unfold FX6_earningsToCome
  rw [emin, hS.e9, q7, nI_1, H (od - bk i) (bk i) n 0 (nI E) (by omega) (by omega), Int32.zero_add]
theorem foldI_sum0 (a0 : Int32) (f : Nat → Int32) : ∀ n, foldI (fun a i => a + f i) n a0 = a0 + isum n f
  | 0 => (Int32.add_zero a0).symm
  | n + 1 => by simp only [foldI, isum, foldI_sum0 a0 f n, Int32.add_assoc]
theorem cUntil {n : Nat} (hn : 100 ≤ n) {M : MM} {r : Nat → Int32} {nv nc ns : Nat} {bk : Nat → Nat} (hm : RelN M r nv nc ns bk) {E : Nat} (hE : E ≤ 12000) : FX6_earningsUntil n M (nI E) = some (Pot r ns E) := by
  have hbs := hm.bs
  unfold FX6_earningsUntil Pot
  rw [← foldI_sum0, ← hm.earn]
  refine loopF (L := fun k a i => FX6_earningsUntil_L7 n k M (nI E) a i) (g := some) (st := fun a j => a + tc r E j) (fun k a => ?_) (fun k a i hi => ?_) (by omega) (M.1 0 8)
  · simp only [FX6_earningsUntil_L7]
    rw [hm.s1, if_pos (Int32.le_refl _)]
  · have hS := hm.ss i hi
    have eb : (shF r i 7).toNatClampNeg = bk i := by
      obtain ⟨_, _, _, _, _, _, _, _, _, _, _, _, _, _, _, _, x1, x2, _⟩ := hS.rest
      rw [hS.back, nI_c (by omega)]
    simp only [FX6_earningsUntil_L7]
    rw [hm.s1, if_neg (le_nI hi (by omega)), gd_t (inI (by omega) (by omega)), nI_c (by omega), nI_1, gd_t (inI (by omega) (by omega)), cToCome hn hm hi hE, bo1_s]
    unfold FX8_isOpen tc
    rw [hS.e8, eb]
    by_cases z : shF r i 6 = 0
    · rw [if_pos z, if_pos z, bnd_s, if_pos rfl]
    · rw [if_neg z, if_neg z, bnd_s, if_neg (by decide)]
theorem earned_back {n : Nat} (hn : 2500 ≤ n) {w : Wd} (h : Good w) {nv nc ns t s : Nat} {bk : Nat → Nat} (hm : RelM (w 1) (row w) nv nc ns bk) (ht : t ≤ 9999) (et : row w 3 = nI t) (hs : s ≤ 240) : ∃ wF, FX13_earnedBehind n w (nI s) = some (Pot (row w) ns (t + s), wF) ∧ Good wF ∧ FX13_thrown wF = FX13_thrown w ∧ wF 16 = w 16 := by
  have hcp := copiesRow_ok (n := n) (by omega) w (j0 := 2) (a := 0) (j2 := 5) (b := 0) (by decide) (by decide) (by decide) (by decide) (by decide)
  generalize hw2 : cpW w 2 0 5 0 390 = w2 at hcp
  have a1 : ∀ r, r ≠ 15 → w2 r = w r := fun r hr => by rw [← hw2]; exact cpW_o _ _ _ _ _ _ hr
  have aj : ∀ j, j ≠ 5 → (w2 15).1 j = (w 15).1 j := fun j hj => by rw [← hw2]; exact cpW_j _ _ _ _ _ _ hj
  have a5 : ∀ k, k < 390 → (w2 15).1 5 k = row w k := fun k hk => by
    have := cpW_in w 2 0 5 0 hk
    rw [Nat.zero_add, hw2] at this
    exact this
  have er : row w2 = row w := aj 2 (by decide)
  have hN : RelN (w 1) (row w2) nv nc ns bk := by rw [er]; exact hm.toN
  obtain ⟨x, M', w6, bk', -, e6, hF, hN6, et6, hT6, hP⟩ := pass_pair (n := n) (by omega) hN (by rw [er]; exact et) (by rw [er]; exact hm.tmOk ht et) hs (by omega)
  have e4 : row w6 4 = Pot (row w) ns (t + s) := by
    rw [← pot_end hN6 (by omega) hT6, hP _ (Nat.le_refl _), er]
  have hF8 : Fr w2 (nt w6 31 x) := hF.trans (Fr.nt31 _ _)
  have e48 : ((nt w6 31 x) 15).1 2 4 = Pot (row w) ns (t + s) := (congrFun (nt_row w6 31 x) 4).trans e4
  generalize hw8 : nt w6 31 x = w8 at hF8 e48
  obtain ⟨w9, e9, p1, p2, p3⟩ := back_ok (n := n) (by omega) w8 (j0 := 5) (a := 0) (by decide) (by decide) (by decide) 0
  obtain ⟨f1, f2, f3, f4⟩ := hF8
  have g1 : ∀ r, r ≠ 15 → w9 r = w r := fun r hr => by rw [p1 r hr, f1 r hr, a1 r hr]
  have gj : ∀ j, j ≠ 0 → j ≠ 2 → j ≠ 5 → (w9 15).1 j = (w 15).1 j := fun j a b c => by rw [p2 j b, f3 j a b, aj j c]
  have gk : ∀ k, k ≠ 20 → k ≠ 31 → (w9 15).1 0 k = (w 15).1 0 k := fun k a b => by rw [p2 0 (by decide), f4 k a b, aj 0 (by decide)]
  have g2 : ∀ k, k < 390 → (w9 15).1 2 k = row w k := fun k hk => by rw [p3 k hk, Nat.zero_add, f3 5 (by decide) (by decide), a5 k hk]
  refine ⟨w9, ?_, ?_, ?_, g1 16 (by decide)⟩
  · unfold FX13_earnedBehind FX13_holds FX13_putBack
    have hcp' : FX13_copiesRow n w 2 0 5 0 = some w2 := hcp
    have e9' : FX13_copiesRow n w8 5 0 2 0 = some w9 := e9
    rw [hcp', bo1_s, bo1_s, e6, bo2_s, show sW w6 15 (sI (w6 15) 0 31 x) = w8 from hw8, bnd_s, gd4, e9', bo1_s, bo2_s, e48]
  · refine Good.mk ?_ (RelT.mk ?_ ?_ ?_) (RelH.mk ?_ ?_) (h.o.keep (g1 14 (by decide)) (gj 14 (by decide) (by decide) (by decide)) (gk 33 (by decide) (by decide)))
    · rw [g1 1 (by decide)]
      exact RM.rows h.m g2
    · rw [g1 10 (by decide), gk 2 (by decide) (by decide), gj 1 (by decide) (by decide) (by decide)]; exact h.t.len
    · rw [g1 10 (by decide), gk 10 (by decide) (by decide)]; exact h.t.code
    · rw [g1 10 (by decide), gk 11 (by decide) (by decide)]; exact h.t.offs
    · obtain ⟨fr, ct, y1, y2, y3, y4, y5, y6⟩ := h.h.cnt
      refine ⟨fr, ct, y1, y2, ?_, ?_, ?_, fun j hj => ?_⟩
      · rw [g1 13 (by decide)]; exact y3
      · rw [g1 13 (by decide)]; exact y4
      · rw [gk 18 (by decide) (by decide)]; exact y5
      · rw [g1 _ (by omega), gj 6 (by decide) (by decide) (by decide)]; exact y6 j hj
    · rw [g1 0 (by decide), g1 3 (by decide), gk 19 (by decide) (by decide), gj 3 (by decide) (by decide) (by decide)]
      exact h.h.sav
  · exact gk 0 (by decide) (by decide)
theorem ob_45 {n : Nat} (hn : 2500 ≤ n) {w : Wd} (h : Good w) (a1 a2 a3 a4 a5 : Int32) : ∃ w9, FLc_45 n w a1 a2 a3 a4 a5 = some w9 ∧ Good w9 := by
  obtain ⟨nv, nc, ns, bk, hm⟩ := h.m
  obtain ⟨t, ht, et⟩ := hm.tm
  show ∃ w9, (bo2 (FL_earnedAfter n w a1) fun k w1 => bo2 (FX13_earnedAfter n w1 a1) fun q w2 => chk k q w2) = some w9 ∧ Good w9
  unfold FL_earnedAfter FX13_earnedAfter
  rw [i64_0, show (240 : Int64) = (240 : Int32).toInt64 by decide, isIn_w]
  cases hd : FX12_isWithin a1 0 240 with
  | false =>
    have hx : FX12_earnedAfter n w a1 = some (.error ("java/lang/IllegalArgumentException", w)) := by
      unfold FX12_earnedAfter
      rw [hd, bnd_s, dA_f]
      rfl
    rw [lwW_er (k := 1) hx (if_pos rfl), bo2_s, bnd_s, goes_f, bnd2_s, if_neg (by decide), bo2_s]
    exact ⟨_, er_chk h (by decide)⟩
  | true =>
    obtain ⟨s, s1, s2, rfl⟩ := wi_rng (a := 0) (b := 240) (by decide) (by decide) hd
    have hx : FX12_earnedAfter n w (nI s) = some (.ok (Pot (row w) ns (t + s))) := by
      unfold FX12_earnedAfter
      rw [hd, bnd_s, dA_t, xo_s, hm.time, et, nI_add, cUntil (by omega) hm.toN (by omega), bo1_s]
    have hG := (h.ow (Pot (row w) ns (t + s))).cd 0
    have hm' : RelM (cd (ow w (Pot (row w) ns (t + s))) 0 1) (row (cd (ow w (Pot (row w) ns (t + s))) 0)) nv nc ns bk := by
      rw [cd_o _ _ (by decide), ow_o _ _ (by decide), cd_row, ow_row]
      exact hm
    obtain ⟨wF, e1, e2, e3, e4⟩ := earned_back hn hG hm' ht (by rw [cd_row, ow_row]; exact et) s2
    rw [lwW_ok hx, bo2_s, bnd_s, goes_t, bnd2_s, if_pos rfl, e1, bo2_s, bo2_s, cd_row, ow_row]
    exact ⟨wF, chk_0 (e3.trans (cd_th _ _)) (by rw [e4]; exact owcd_v _ _ _), e2⟩
