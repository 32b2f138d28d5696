set_option maxHeartbeats 400000
/-! printReceipt: the call -/
theorem gl_b {bs : List Nat} {g : Nat → Nat} {f : Nat} (h : ∀ j, j < f → g j < 128) (hb : ∀ b ∈ bs, b < 128) : ∀ j, j < f + bs.length → gl g f bs j < 128 := gl_bd (f := 0) h hb
theorem gs_b {g : Nat → Nat} {f b : Nat} (h : ∀ j, j < f → g j < 128) (hb : b < 128) : ∀ j, j < f + 1 → gs g f b j < 128 := fun j hj => by
  unfold gs
  by_cases z : j = f
  · rw [if_pos z]; exact hb
  · rw [if_neg z]; exact h j (by omega)
theorem apps_1 (w : Wd) (b : Nat) : apps w [b] = FsbAp w (nI b) := by
  unfold apps apps
  cases FsbAp w (nI b) <;> rfl
theorem apps_app : ∀ (u v : List Nat) (w : Wd), apps w (u ++ v) = bo1 (apps w u) fun w2 => apps w2 v
  | [], v, w => rfl
  | b :: u, v, w => by
    show (bo1 (FsbAp w (nI b)) fun w2 => apps w2 (u ++ v)) = bo1 (bo1 (FsbAp w (nI b)) fun w2 => apps w2 u) fun w2 => apps w2 v
    cases FsbAp w (nI b) with
    | none => rfl
    | some w1 =>
      rw [bo1_s, bo1_s]
      exact apps_app u v w1
/-- the class's marks and the rest of the receipt -/
theorem cMarks {j mk bk od e : Nat} {M : MM} (h9 : M.1 j 9 = nI bk) (h10 : M.1 j 10 = nI mk) (hm : mk < 16) (hb : bk ≤ od) (ho : od ≤ 4) (h3 : M.1 j 3 = nI od) (hE : FX8_earnings M j = nI e) : ∀ (d i : Nat) (w : Wd), i + d = od → w 1 = M → (∀ w2, apps w (mlL mk bk i d) = some w2 → w2 1 = M) → FprK (8 - i) w j (nI (i + 1)) = bo1 (apps w (mlL mk bk i d)) fun w2 => FprT w2 j := by
  intro d
  induction d with
  | zero =>
    intro i w hi hw _
    have hl : (w 1).1 j 3 < nI (i + 1) := by
      rw [hw, h3]
      exact nI_lt (by omega) (by omega)
    have e8 : 8 - i = (8 - (i + 1)) + 1 := by omega
    rw [e8]
    unfold FprK
    rw [if_pos hl]
    rfl
  | succ d ih =>
    intro i w hi hw hw2
    have hl : ¬ (w 1).1 j 3 < nI (i + 1) := by
      rw [hw, h3, nI_ltI (by omega) (by omega)]
      omega
    have e8 : 8 - i = (8 - (i + 1)) + 1 := by omega
    rw [e8]
    unfold FprK mlL apps
    rw [if_neg hl, hw, cMark h9 h10 hm (by omega) (by omega), nI_1]
    cases hz : FsbAp w (nI (mkB mk bk i)) with
    | none => rfl
    | some w1 =>
      have hw1 : w1 1 = M := by
        unfold FsbAp at hz
        obtain ⟨-, hz⟩ := gd_e hz
        rw [← Option.some.inj hz, sW_o _ _ (by decide)]
        exact hw
      rw [bo1_s, bo1_s]
      refine ih (i + 1) w1 (by omega) hw1 (fun w2 h2 => hw2 w2 ?_)
      unfold mlL apps
      rw [hz, bo1_s]
      exact h2
theorem rMarks {n : Nat} (hn : 100 ≤ n) {i0 mk bk od : Nat} {R : Nat → Int32} (hi0 : i0 < 30) (h7 : shF R i0 7 = nI bk) (h8 : shF R i0 8 = nI mk) (hm : mk < 16) (hb : bk ≤ od) (ho : od ≤ 4) (h3 : shF R i0 3 = nI od) : ∀ (d i k : Nat) (v : Wd), i + d = od → d < k → row v = R → FX13_tellReceipt_L55 n k v (nI i0) (nI i) = bo1 (tells v (mlL mk bk i d)) fun w => bo1 (FX13_tell w 32) fun w37 => bo1 (FX13_receiptOf n w37 (nI i0)) fun x40 => bo1 (FX13_tellNumber w37 x40) fun w43 => bo1 (FX13_tell w43 10) fun w46 => some w46 := by
  intro d
  induction d with
  | zero =>
    intro i k v hi hk hR
    obtain ⟨k, rfl⟩ : ∃ k', k = k' + 1 := ⟨k - 1, by omega⟩
    simp only [FX13_tellReceipt_L55]
    rw [rS3 hi0, bo1_s, hR, h3, if_pos (nI_le (by omega) (by omega))]
    rfl
  | succ d ih =>
    intro i k v hi hk hR
    obtain ⟨k, rfl⟩ : ∃ k', k = k' + 1 := ⟨k - 1, by omega⟩
    simp only [FX13_tellReceipt_L55]
    rw [rS3 hi0, bo1_s, hR, h3, if_neg (nI_ge (by omega) (by omega)), rMark hi0 (by rw [hR]; exact h7) (by rw [hR]; exact h8) hm (by omega) (by omega), bo1_s, nI_1]
    unfold mlL tells
    cases hz : FX13_tell v (nI (mkB mk bk i)) with
    | none => rfl
    | some v1 =>
      have hR1 : row v1 = R := by
        unfold FX13_tell at hz
        obtain ⟨-, hz⟩ := gd_e hz
        rw [bnd_s, bnd_s] at hz
        rw [← Option.some.inj hz, ← hR]
        show ((sW (sW v 15 _) 15 _) 15).1 2 = (v 15).1 2
        rw [sW_s, sI_o _ _ _ (by decide), sW_s, sI_o _ _ _ (by decide)]
      rw [bo1_s, bo1_s]
      exact ih (i + 1) k v1 (by omega) (by omega) hR1
theorem ob_60 {n : Nat} (hn : 1000 ≤ n) {w : Wd} (h : Good w) (a1 a2 a3 a4 a5 : Int32) : ∃ w9, FLc_60 n w a1 a2 a3 a4 a5 = some w9 ∧ Good w9 := by
  obtain ⟨nv, nc, ns, bk, hm⟩ := h.m
  have hbs := hm.bs
  have hbv := hm.bv
  have hbc := hm.bc
  show ∃ w9, (bo2 (FL_printReceipt w a1) fun k w1 => bo2 (FX13_printReceipt n w1 a1) fun q w2 => chk k q w2) = some w9 ∧ Good w9
  unfold FL_printReceipt FX13_printReceipt
  rcases cSho hm.s1 hm.bs a1 with ⟨i, hi, rfl, hw, ha⟩ | ⟨hw, ha⟩
  · have hS := hm.ss i hi
    obtain ⟨c, v, lo, od, ea, so, st, mk, wd, pa, tm, h1, h2, l1, l2, o1, o2, b1, ea1, ea2, st1, mk1, so1, so2, q0, q1, q2, q3, q4, q5, q6, q7, -⟩ := hS.rest
    obtain ⟨lc, c1, c2, c3, c4⟩ := (hm.cs c h1).name
    obtain ⟨lv, v1, v2, v3, v4⟩ := (hm.vs v h2).name
    have lc8 := c1.2.1
    have lv8 := v1.2.1
    have lc1 := c1.1
    have lv1 := v1.1
    have hmk : mk < 16 := mk16 mk1 b1 o2
    have hbc4 : bcN mk ≤ 4 := by
      have : ∀ m : Fin 16, bcN m.val ≤ 4 := by decide +kernel
      exact this ⟨mk, hmk⟩
    have hsum : ea * bcN mk ≤ 99 * 4 := Nat.mul_le_mul ea2 hbc4
    have hE : FX8_earnings (w 1) (20 + i) = nI (ea * bcN mk) := by
      unfold FX8_earnings
      rw [hS.e10, q7, cBits hmk, bnd_s, hS.e4, q4, pk_mul]
    obtain ⟨f0, cap, f1, p1, p2, p3, p4, p5, p6⟩ := h.o.len
    -- the class
    have hsl : FsbSl w = some (sW w 14 (sI (w 14) 0 3 0)) := by
      unfold FsbSl sbN sbC
      rw [p3, p4, nI_c (by omega), nI_c (by omega), gd_t (by rw [decide_eq_true (show f0 < 100 by omega), decide_eq_true p1]; rfl)]
    generalize hw1 : sW w 14 (sI (w 14) 0 3 0) = w1 at hsl
    have a1' : ∀ r, r ≠ 14 → w1 r = w r := fun r hr => by rw [← hw1, sW_o _ _ hr]
    have hA1 : OA (w1 14) 0 (fun _ => 0) := by
      refine ⟨⟨cap, p1, Nat.zero_le _, ?_⟩, ?_, fun j hj => absurd hj (Nat.not_lt_zero j)⟩
      · rw [← hw1, sW_s, sI_at, if_neg (by decide)]; exact p4
      · rw [← hw1, sW_s, sI_at, if_pos rfl]; rfl
    obtain ⟨w2, e2, r2, hA2⟩ := cApps (bs := nlL lc 0 lc.length) hA1 (by rw [nlL_len]; omega) (nlL_bd c1 0 _ (by omega))
    rw [nlL_len] at hA2
    obtain ⟨w3, e3, r3, hA3⟩ := cAp (b := 64) hA2 (by omega) (by decide)
    obtain ⟨w4, e4, r4, hA4⟩ := cApps (bs := nlL lv 0 lv.length) hA3 (by rw [nlL_len]; omega) (nlL_bd v1 0 _ (by omega))
    rw [nlL_len] at hA4
    obtain ⟨w5, e5, r5, hA5⟩ := cAp (b := 32) hA4 (by omega) (by decide)
    obtain ⟨w6, e6, r6, hA6⟩ := cApps (bs := mlL mk (bk i) 0 od) hA5 (by rw [mlL_len]; omega) (mlL_bd _ _ 0 od)
    rw [mlL_len] at hA6
    obtain ⟨w7, e7, r7, hA7⟩ := cAp (b := 32) hA6 (by omega) (by decide)
    obtain ⟨w8, e8, r8, hA8⟩ := cNumber (v := ea * bcN mk) hA7 (by omega) (by omega) (by omega)
    have hdl := dg3_le (ea * bcN mk)
    rw [dlL_len] at hA8
    obtain ⟨w9, e9, r9, hA9⟩ := cAp (b := 10) hA8 (by omega) (by decide)
    have k3 : ∀ r, r ≠ 14 → w3 r = w r := fun r hr => by rw [r3 r hr, r2 r hr, a1' r hr]
    have k5 : ∀ r, r ≠ 14 → w5 r = w r := fun r hr => by rw [r5 r hr, r4 r hr, k3 r hr]
    have k7 : ∀ r, r ≠ 14 → w7 r = w r := fun r hr => by rw [r7 r hr, r6 r hr, k5 r hr]
    have k9 : ∀ r, r ≠ 14 → w9 r = w r := fun r hr => by rw [r9 r hr, r8 r hr, k7 r hr]
    have hca : okX (FX12_customerAt w1 ((w1 1).1 (20 + i) 0)) = some (12 + c) := by
      rw [a1' 1 (by decide), hS.e0, q0]
      rcases cCus (w := w1) (nv := nc) (by rw [a1' 1 (by decide)]; exact hm.c1) hbc (nI c) with ⟨j, hj, ej, -, ea'⟩ | ⟨hw', -⟩
      · rw [ea', (nI_eq (by omega) (by omega)).mp ej]
        rfl
      · rw [wi_nI h1 (by omega)] at hw'
        exact absurd hw' (by decide)
    have hva : okX (FX12_valleyAt w3 ((w3 1).1 (20 + i) 1)) = some (4 + v) := by
      rw [k3 1 (by decide), hS.e1, q1]
      rcases cVal (w := w3) (nv := nv) (by rw [k3 1 (by decide)]; exact hm.v1) hbv (nI v) with ⟨j, hj, ej, -, ea'⟩ | ⟨hw', -⟩
      · rw [ea', (nI_eq (by omega) (by omega)).mp ej]
        rfl
      · rw [wi_nI h2 (by omega)] at hw'
        exact absurd hw' (by decide)
    have n1 : FpnK 8 w1 ((w1 1).2 (12 + c) 0) 0 = some w2 := by
      rw [a1' 1 (by decide), show (w 1).2 (12 + c) 0 = lN (pk8 lc) from c2, show (0 : Int32) = nI 0 from rfl]
      exact (cName c1 lc.length 0 w1 (by omega)).trans e2
    have n2 : FpnK 8 w3 ((w3 1).2 (4 + v) 0) 0 = some w4 := by
      rw [k3 1 (by decide), show (w 1).2 (4 + v) 0 = lN (pk8 lv) from v2, show (0 : Int32) = nI 0 from rfl]
      exact (cName v1 lv.length 0 w3 (by omega)).trans e4
    have t64 : FsbAp w2 64 = some w3 := e3
    have t32 : FsbAp w4 32 = some w5 := e5
    have t32b : FsbAp w6 32 = some w7 := e7
    have t10 : FsbAp w8 10 = some w9 := e9
    have hT : FprT w6 (20 + i) = some ((w9 14).1 0 3, w9) := by
      unfold FprT
      rw [t32b, bo1_s, k7 1 (by decide), hE, e8, bo1_s, t10, bo1_s]
    have hK : FprK 8 w5 (20 + i) 1 = some ((w9 14).1 0 3, w9) := by
      have hk := cMarks (M := w 1) (j := 20 + i) (mk := mk) (bk := bk i) (od := od) (e := ea * bcN mk) (by rw [hS.e9, hS.back]) (by rw [hS.e10, q7]) hmk b1 o2 (by rw [hS.e3, q3]) hE od 0 w5 (by omega) (k5 1 (by decide)) (fun x hx => by
        rw [e6] at hx
        rw [← Option.some.inj hx, r6 1 (by decide), k5 1 (by decide)])
      rw [e6, bo1_s, hT] at hk
      exact hk
    have hx : FX12_printReceipt w (nI i) = some (.ok ((w9 14).1 0 3, w9)) := by
      unfold FX12_printReceipt FprM
      rw [ha, xo_s, gd_t (decide_eq_true (by omega)), hsl, bo1_s, hca, bo1_s, gd_t (decide_eq_true (by omega)), n1, bo1_s, t64, bo1_s, hva, bo1_s, gd_t (decide_eq_true (by omega)), n2, bo1_s, t32, bo1_s, hK]
      rfl
    rw [lw_o hx, bo2_s]
    generalize hwA : ow w9 ((w9 14).1 0 3) = wA
    have hA : ∀ r, r ≠ 14 → r ≠ 16 → wA r = w r := fun r a b => by rw [← hwA, ow_o _ _ b, k9 r a]
    have hA14 : wA 14 = w9 14 := by rw [← hwA, ow_o _ _ (by decide)]
    have hA16 : (wA 16).2 0 0 = ((w9 14).1 0 3).toInt64 := by rw [← hwA]; exact ow_v _ _
    have hA15 : wA 15 = w 15 := hA 15 (by decide) (by decide)
    have c15 : cd wA 0 15 = sI (w 15) 0 0 0 := by rw [← hA15]; exact sW_s _ _ _
    -- the reference
    generalize hv1 : sW (cd wA 0) 15 (sI (cd wA 0 15) 0 33 0) = y1
    have y15 : y1 15 = sI (cd wA 0 15) 0 33 0 := by rw [← hv1, sW_s]
    have yo : ∀ r, r ≠ 15 → y1 r = wA r := fun r hr => by rw [← hv1, sW_o _ _ hr, cd_o _ _ hr]
    have yj : ∀ j, j ≠ 0 → (y1 15).1 j = (w 15).1 j := fun j hj => by rw [y15, sI_o _ _ _ hj, c15, sI_o _ _ _ hj]
    have yk : ∀ k, k ≠ 0 → k ≠ 33 → (y1 15).1 0 k = (w 15).1 0 k := fun k a b => by rw [y15, sI_at, if_neg b, c15, sI_at, if_neg a]
    have y00 : (y1 15).1 0 0 = 0 := by rw [y15, sI_at, if_neg (by decide), c15, sI_at, if_pos rfl]
    have yR : row y1 = row w := yj 2 (by decide)
    have hB1 : OB (y1 15) 0 (fun _ => 0) := ⟨by rw [y15, sI_at, if_pos rfl]; rfl, fun j hj => absurd hj (Nat.not_lt_zero j)⟩
    obtain ⟨y2, d2, s2, hB2⟩ := rTells (bs := nlL lc 0 lc.length) hB1 (by rw [nlL_len]; omega)
    rw [nlL_len] at hB2
    obtain ⟨y3, d3, s3, hB3⟩ := rTell (b := 64) hB2 (by omega)
    obtain ⟨y4, d4, s4, hB4⟩ := rTells (bs := nlL lv 0 lv.length) hB3 (by rw [nlL_len]; omega)
    rw [nlL_len] at hB4
    obtain ⟨y5, d5, s5, hB5⟩ := rTell (b := 32) hB4 (by omega)
    obtain ⟨y6, d6, s6, hB6⟩ := rTells (bs := mlL mk (bk i) 0 od) hB5 (by rw [mlL_len]; omega)
    rw [mlL_len] at hB6
    obtain ⟨y7, d7, s7, hB7⟩ := rTell (b := 32) hB6 (by omega)
    obtain ⟨y8, d8, s8, hB8⟩ := rTells (bs := dlL (ea * bcN mk)) hB7 (by rw [dlL_len]; omega)
    rw [dlL_len] at hB8
    obtain ⟨y9, d9, s9, hB9⟩ := rTell (b := 10) hB8 (by omega)
    have z3 : FB y1 y3 := s2.trans s3
    have z5 : FB y1 y5 := (z3.trans s4).trans s5
    have z7 : FB y1 y7 := (z5.trans s6).trans s7
    have z9 : FB y1 y9 := (z7.trans s8).trans s9
    have R : ∀ y, FB y1 y → row y = row w := fun y hy => (hy.2.1 2 (by decide) (by decide)).trans yR
    have m1 : FX13_tellName n y1 (lN (pk5 lc)) = some y2 := by
      unfold FX13_tellName
      rw [show (0 : Int32) = nI 0 from rfl]
      exact (rName (by omega) c1 lc.length 0 n y1 (by omega) (by omega)).trans d2
    have m2 : FX13_tellName n y3 (lN (pk5 lv)) = some y4 := by
      unfold FX13_tellName
      rw [show (0 : Int32) = nI 0 from rfl]
      exact (rName (by omega) v1 lv.length 0 n y3 (by omega) (by omega)).trans d4
    have u64 : FX13_tell y2 64 = some y3 := d3
    have u32 : FX13_tell y4 32 = some y5 := d5
    have u32b : FX13_tell y6 32 = some y7 := d7
    have u10 : FX13_tell y8 10 = some y9 := d9
    have hrec : FX13_receiptOf n y7 (nI i) = some (nI (ea * bcN mk)) := by
      rw [rReceipt (by omega) (by omega) (by rw [R y7 z7]; exact ⟨mk, hmk, q7⟩), R y7 z7, q4, q7, bcI_n hmk, pk_mul]
    have hnum : FX13_tellNumber y7 (nI (ea * bcN mk)) = some y8 := (rNumber (by omega)).trans d8
    have hmk' : FX13_tellReceipt_L55 n n y5 (nI i) 0 = some y9 := by
      have hk := rMarks (n := n) (by omega) (i0 := i) (mk := mk) (bk := bk i) (od := od) (R := row w) (by omega) hS.back q7 hmk b1 o2 q3 od 0 n y5 (by omega) (by omega) (R y5 z5)
      rw [d6, bo1_s, u32b, bo1_s, hrec, bo1_s, hnum, bo1_s, u10, bo1_s] at hk
      exact hk
    have hr : FX13_tellReceipt n (cd wA 0) (nI i) = some y9 := by
      unfold FX13_tellReceipt
      rw [hv1, bnd_s, rS0 (by omega), bo1_s, yR, q0, rNme1, bnd_s, rNameAt (p := pk5 lc) (by omega) (pk5_bd c1).2.2.1 (by rw [yR]; exact c3) (by rw [yR]; exact c4), bo1_s, m1, bo1_s, u64, bo1_s, rS1 (by omega), bo1_s, R y3 z3, q1, rNme0, bnd_s, rNameAt (p := pk5 lv) (by omega) (pk5_bd v1).2.2.1 (by rw [R y3 z3]; exact v3) (by rw [R y3 z3]; exact v4), bo1_s, m2, bo1_s, u32, bo1_s]
      exact hmk'
    rw [rIsS (ns := ns) (by unfold row; rw [hA15]; exact hm.s0), hw, bo1_s, goes_t, bnd2_s, if_pos rfl, hr, bo1_s, bo2_s, hB9.1, hA9.2.1.symm]
    have w9o : ∀ r, r ≠ 15 → y9 r = wA r := fun r hr => by rw [z9.1 r hr, yo r hr]
    have xo : ∀ r, r ≠ 15 → r ≠ 14 → r ≠ 16 → y9 r = w r := fun r a b c => by rw [w9o r a, hA r b c]
    have xj : ∀ j, j ≠ 0 → j ≠ 14 → (y9 15).1 j = (w 15).1 j := fun j a b => by rw [z9.2.1 j a b, yj j a]
    have xk : ∀ k, k ≠ 0 → k ≠ 33 → (y9 15).1 0 k = (w 15).1 0 k := fun k a b => by rw [z9.2.2 k b, yk k a b]
    refine ⟨y9, chk_0 ?_ ?_, ?_⟩
    · show (y9 15).1 0 0 = 0
      rw [z9.2.2 0 (by decide), y00]
    · rw [w9o 16 (by decide), hA16]
    · refine Good.mk ?_ (RelT.mk ?_ ?_ ?_) (RelH.mk ?_ ?_) (RelO.mk ?_)
      · unfold row
        rw [xo 1 (by decide) (by decide) (by decide), xj 2 (by decide) (by decide)]
        exact h.m
      · rw [xo 10 (by decide) (by decide) (by decide), xk 2 (by decide) (by decide), xj 1 (by decide) (by decide)]; exact h.t.len
      · rw [xo 10 (by decide) (by decide) (by decide), xk 10 (by decide) (by decide)]; exact h.t.code
      · rw [xo 10 (by decide) (by decide) (by decide), xk 11 (by decide) (by decide)]; exact h.t.offs
      · obtain ⟨fr, ct, x1, x2, x3, x4, x5, x6⟩ := h.h.cnt
        refine ⟨fr, ct, x1, x2, ?_, ?_, ?_, fun j hj => ?_⟩
        · rw [xo 13 (by decide) (by decide) (by decide)]; exact x3
        · rw [xo 13 (by decide) (by decide) (by decide)]; exact x4
        · rw [xk 18 (by decide) (by decide)]; exact x5
        · rw [xo _ (by omega) (by omega) (by omega), xj 6 (by decide) (by decide)]; exact x6 j hj
      · rw [xo 0 (by decide) (by decide) (by decide), xo 3 (by decide) (by decide) (by decide), xk 19 (by decide) (by decide), xj 3 (by decide) (by decide)]
        exact h.h.sav
      · obtain ⟨⟨cp, g1, g2, g3⟩, g4, g5⟩ := hA9
        obtain ⟨g6, g7⟩ := hB9
        refine ⟨_, cp, ?_, g1, g2, ?_, ?_, g6, fun j hj => ?_⟩
        · omega
        · rw [w9o 14 (by decide), hA14]; exact g4
        · rw [w9o 14 (by decide), hA14]; exact g3
        · rw [w9o 14 (by decide), hA14]
          have B2 := gl_b (bs := nlL lc 0 lc.length) (g := fun _ => 0) (f := 0) (fun _ _ => by decide) (nlL_bd c1 0 _ (by omega))
          rw [nlL_len] at B2
          have B4 := gl_b (bs := nlL lv 0 lv.length) (gs_b (b := 64) B2 (by decide)) (nlL_bd v1 0 _ (by omega))
          rw [nlL_len] at B4
          have B6 := gl_b (bs := mlL mk (bk i) 0 od) (gs_b (b := 32) B4 (by decide)) (mlL_bd _ _ 0 od)
          rw [mlL_len] at B6
          have B8 := gl_b (bs := dlL (ea * bcN mk)) (gs_b (b := 32) B6 (by decide)) (dlL_bd (by omega))
          rw [dlL_len] at B8
          exact ⟨_, gs_b (b := 10) B8 (by decide) j hj, g7 j hj, g5 j hj⟩
  · have hx : FX12_printReceipt w a1 = some (.error ("java/lang/IndexOutOfBoundsException", w)) := by
      unfold FX12_printReceipt
      rw [ha]
      rfl
    rw [lw_x (k := 1) hx (if_pos rfl), bo2_s, rIsS hm.s0, hw, bo1_s, goes_f, bnd2_s, if_neg (by decide), bo2_s]
    exact ⟨_, er_chk h (by decide)⟩
