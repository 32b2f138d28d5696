set_option maxHeartbeats 400000
/-! two loops side by side; all open shouts of a customer cancelled; a fake -/
theorem loop2 {α β γ δ : Type} {L1 : Nat → α → Int32 → Option γ} {L2 : Nat → β → Int32 → Option δ} {g1 : α → Option γ} {g2 : β → Option δ} {ns : Nat} (P : Nat → α → β → Prop)
    (h0a : ∀ k a b, P ns a b → L1 (k + 1) a (nI ns) = g1 a) (h0b : ∀ k a b, P ns a b → L2 (k + 1) b (nI ns) = g2 b)
    (h1 : ∀ a b i, i < ns → P i a b → ∃ a' b', P (i + 1) a' b' ∧ (∀ k, L1 (k + 1) a (nI i) = L1 k a' (nI (i + 1))) ∧ ∀ k, L2 (k + 1) b (nI i) = L2 k b' (nI (i + 1))) {k1 k2 : Nat} (hk1 : ns < k1) (hk2 : ns < k2) (a : α) (b : β) (h : P 0 a b) : ∃ a' b', P ns a' b' ∧ L1 k1 a 0 = g1 a' ∧ L2 k2 b 0 = g2 b' := by
  have H : ∀ d i k1 k2 a b, i + d = ns → d < k1 → d < k2 → P i a b → ∃ a' b', P ns a' b' ∧ L1 k1 a (nI i) = g1 a' ∧ L2 k2 b (nI i) = g2 b' := by
    intro d
    induction d with
    | zero =>
      intro i k1 k2 a b hi q1 q2 hp
      obtain ⟨k1, rfl⟩ : ∃ k', k1 = k' + 1 := ⟨k1 - 1, by omega⟩
      obtain ⟨k2, rfl⟩ : ∃ k', k2 = k' + 1 := ⟨k2 - 1, by omega⟩
      have e : i = ns := by omega
      subst e
      exact ⟨a, b, hp, h0a k1 a b hp, h0b k2 a b hp⟩
    | succ d ih =>
      intro i k1 k2 a b hi q1 q2 hp
      obtain ⟨k1, rfl⟩ : ∃ k', k1 = k' + 1 := ⟨k1 - 1, by omega⟩
      obtain ⟨k2, rfl⟩ : ∃ k', k2 = k' + 1 := ⟨k2 - 1, by omega⟩
      obtain ⟨a1, b1, hp1, e1, e2⟩ := h1 a b i (by omega) hp
      obtain ⟨a2, b2, hp2, e3, e4⟩ := ih (i + 1) k1 k2 a1 b1 (by omega) (by omega) (by omega) hp1
      exact ⟨a2, b2, hp2, (e1 k1).trans e3, (e2 k2).trans e4⟩
  exact H ns 0 k1 k2 a b (by omega) hk1 hk2 h
/-- shouts only end, and come back at most once -/
def Sh (r r' : Nat → Int32) (ns : Nat) : Prop := ∀ j, j < ns → shF r' j 6 = 0 → shF r j 6 = 0 ∧ ∃ d, d ≤ 1 ∧ shF r' j 7 = shF r j 7 + nI d
def Sh0 (r r' : Nat → Int32) (ns : Nat) : Prop := ∀ j, j < ns → shF r' j 6 = 0 → shF r j 6 = 0 ∧ shF r' j 7 = shF r j 7
theorem Sh0.sh {r r' : Nat → Int32} {ns : Nat} (h : Sh0 r r' ns) : Sh r r' ns := fun j hj ho => ⟨(h j hj ho).1, 0, by decide, by rw [(h j hj ho).2, nI_0, Int32.add_zero]⟩
theorem Sh.and0 {r r1 r2 : Nat → Int32} {ns : Nat} (h : Sh r r1 ns) (h2 : Sh0 r1 r2 ns) : Sh r r2 ns := fun j hj ho => by
  obtain ⟨a, b⟩ := h2 j hj ho
  obtain ⟨c, d, e, f⟩ := h j hj a
  exact ⟨c, d, e, b.trans f⟩
theorem TmOk.keep {M : MM} {r r' : Nat → Int32} {nv nc ns t : Nat} {bk : Nat → Nat} (hN : RelN M r nv nc ns bk) (h : TmOk r ns t) (ht : t ≤ 10300) (hD : Dy r r') (ho : Sh r r' ns) : TmOk r' ns t := by
  intro j hj hoj
  have hbv := hN.bv
  have hbc := hN.bc
  have hbs := hN.bs
  obtain ⟨k1, d, hd, k2⟩ := ho j hj hoj
  obtain ⟨x1, x2⟩ := h j hj k1
  obtain ⟨c, v, so, wd, pa, h1, h2, w1, w2, p1, p2, s1, b1, h3, h4, hw, hp, h5, h6, h7, h8, h9, h10⟩ := hN.due hj
  refine ⟨?_, ?_⟩
  · have e : retI r' j = nI (so + wd * (bk j + d + 1)) := by
      unfold retI
      rw [hD.2.2.2 j (by omega) 5 (by decide), hD.2.2.2 j (by omega) 1 (by decide), h4, nI_c (by omega), hD.2.1 v (by omega) 0 (by decide) (by decide) (by decide), hw, k2, (hN.ss j hj).back, nI_add, nI_1, pk_mul, h5, nI_add]
    rw [h6] at x1
    have x1' := (nI_ltI (by omega) (by omega)).mp x1
    have m1 : wd * (bk j + 1) ≤ wd * (bk j + d + 1) := Nat.mul_le_mul_left _ (by omega)
    have m2 : wd * (bk j + d + 1) ≤ 60 * 6 := Nat.mul_le_mul (by omega) (by omega)
    rw [e]
    exact nI_lt (by omega) (by omega)
  · rw [hD.fin (by omega) (by rw [h3, nI_c (by omega)]; omega)]
    exact x2
theorem cancelAll_pair {n : Nat} (hn : 100 ≤ n) {M : MM} {w : Wd} {nv nc ns : Nat} {bk : Nat → Nat} (hm : RelN M (row w) nv nc ns bk) (c : Int32) : ∃ M' w', FX6_callOffAll n M c = some M' ∧ FX13_cancelsAll n w c = some w' ∧ Fr w w' ∧ RelN M' (row w') nv nc ns bk ∧ Dy (row w) (row w') ∧ Sh0 (row w) (row w') ns ∧ ∀ d, d < 8 → cuF (row w') d 2 = cuF (row w) d 2 := by
  have hbs := hm.bs
  unfold FX6_callOffAll FX13_cancelsAll
  obtain ⟨M', w', ⟨p1, p2, p3, p4, p5⟩, e1, e2⟩ := loop2 (L1 := fun k a i => FX6_callOffAll_L2 n k a c i) (L2 := fun k b i => FX13_cancelsAll_L2 n k b c i) (g1 := some) (g2 := some) (ns := ns)
    (fun i (a : MM) (b : Wd) => Fr w b ∧ RelN a (row b) nv nc ns bk ∧ Dy (row w) (row b) ∧ (∀ j, j < ns → shF (row b) j 6 = 0 → shF (row w) j 6 = 0 ∧ shF (row b) j 7 = shF (row w) j 7) ∧ ∀ d, d < 8 → cuF (row b) d 2 = cuF (row w) d 2)
    (fun k a b hp => by
      simp only [FX6_callOffAll_L2]
      rw [hp.2.1.s1, if_pos (Int32.le_refl _)])
    (fun k a b hp => by
      simp only [FX13_cancelsAll_L2]
      rw [gd2, show (b 15).1 2 2 = nI ns from hp.2.1.s0, if_pos (Int32.le_refl _)])
    (fun a b i hi hp => by
      obtain ⟨q1, q2, q3, q4, q5⟩ := hp
      have hS := q2.ss i hi
      have l1 : ∀ k, FX6_callOffAll_L2 n (k + 1) a c (nI i) = if shF (row b) i 6 = 0 then (if shF (row b) i 0 = c then (bo2 (FX6_callOff a (nI i)) fun x7 M8 => FX6_callOffAll_L2 n k M8 c (nI (i + 1))) else FX6_callOffAll_L2 n k a c (nI (i + 1))) else FX6_callOffAll_L2 n k a c (nI (i + 1)) := fun k => by
        simp only [FX6_callOffAll_L2]
        rw [q2.s1, if_neg (le_nI hi (by omega)), gd_t (inI (by omega) (by omega)), nI_c (by omega), nI_1]
        unfold FX8_isOpen
        rw [hS.e8, hS.e0, gd_t (inI (by omega) (by omega))]
        by_cases z : shF (row b) i 6 = 0
        · rw [if_pos z, if_pos z, bnd_s, if_pos rfl]
        · rw [if_neg z, if_neg z, bnd_s, if_neg (by decide)]
      have l2 : ∀ k, FX13_cancelsAll_L2 n (k + 1) b c (nI i) = if shF (row b) i 6 = 0 then (if shF (row b) i 0 = c then (bo2 (FX13_cancels b (nI i)) fun x9 w10 => FX13_cancelsAll_L2 n k (nt w10 31 x9) c (nI (i + 1))) else FX13_cancelsAll_L2 n k b c (nI (i + 1))) else FX13_cancelsAll_L2 n k b c (nI (i + 1)) := fun k => by
        simp only [FX13_cancelsAll_L2]
        rw [gd2, show (b 15).1 2 2 = nI ns from q2.s0, if_neg (le_nI hi (by omega)), rS0 (by omega), bo1_s, rOpen q2.s0 hbs hi, nI_1]
        by_cases z : shF (row b) i 6 = 0
        · rw [if_pos z]
          by_cases z1 : shF (row b) i 0 = c
          · rw [if_pos z1, if_pos z1, bo1_s, decide_eq_true z, if_pos rfl]
            rfl
          · rw [if_neg z1, if_neg z1]
        · rw [if_neg z]
          by_cases z1 : shF (row b) i 0 = c
          · rw [if_pos z1, bo1_s, decide_eq_false z, if_neg (by decide)]
          · rw [if_neg z1]
      by_cases z : shF (row b) i 6 = 0
      · by_cases z1 : shF (row b) i 0 = c
        · obtain ⟨M', w', y1, y2, y3, y4, y5, y6, y7, y8⟩ := cancel_pair q2 hi z
          refine ⟨M', nt w' 31 (lft (row b) i), ⟨q1.trans (y3.trans (Fr.nt31 _ _)), by rw [nt_row]; exact y4, by rw [nt_row]; exact q3.trans y5, ?_, ?_⟩, fun k => ?_, fun k => ?_⟩
          · intro j hj hoj
            rw [nt_row] at hoj ⊢
            by_cases e : j = i
            · subst e
              rw [y7] at hoj
              exact absurd hoj (by decide)
            · rw [y6 j (by omega) e 6 (by decide)] at hoj
              rw [y6 j (by omega) e 7 (by decide)]
              exact q4 j hj hoj
          · intro d hd
            rw [nt_row]
            exact (y8 _ (by omega) (by omega) (fun c hc => by omega) (by omega)).trans (q5 d hd)
          · rw [l1, if_pos z, if_pos z1, y1, bo2_s]
          · rw [l2, if_pos z, if_pos z1, y2, bo2_s]
        · exact ⟨a, b, ⟨q1, q2, q3, q4, q5⟩, fun k => by rw [l1, if_pos z, if_neg z1], fun k => by rw [l2, if_pos z, if_neg z1]⟩
      · exact ⟨a, b, ⟨q1, q2, q3, q4, q5⟩, fun k => by rw [l1, if_neg z], fun k => by rw [l2, if_neg z]⟩)
    (k1 := n) (k2 := n) (by omega) (by omega) M w ⟨Fr.refl w, hm, Dy.refl _, fun j _ h => ⟨h, rfl⟩, fun _ _ => rfl⟩
  exact ⟨M', w', e1, e2, p1, p2, p3, p4, p5⟩
/-- a customer becomes more suspicious -/
theorem RelN.susp {M M' : MM} {r r' : Nat → Int32} {nv nc ns : Nat} {bk : Nat → Nat} (hm : RelN M r nv nc ns bk) {i c : Nat} (hi : i < ns) (hc : c < nc) (h0 : shF r i 0 = nI c) (m2 : M'.2 = M.2) (mo : ∀ j, j ≠ 12 + c → M'.1 j = M.1 j) (mk : ∀ k, k ≠ 4 → M'.1 (12 + c) k = M.1 (12 + c) k) (hr : ∀ k, k ≠ 72 + 6 * c + 2 → r' k = r k) (h4 : M'.1 (12 + c) 4 = cuF r' c 2) : RelN M' r' nv nc ns bk := by
  have hbs := hm.bs
  have hbv := hm.bv
  have hbc := hm.bc
  have hS := hm.ss i hi
  obtain ⟨c9, v, lo, od, ea, so, st, mk9, wd, pa, tm, h1, h2, l1, l2, o1, o2, b1, ea1, ea2, st1, mk1, so1, so2, q0, q1, q2, q3, q4, q5, q6, q7, q8, q9, q10, q11, q12, q13, q14, q15, -⟩ := hS.rest
  have hC := hm.cs c hc
  have hV := hm.vs v h2
  have e6 : shF r' i 6 = shF r i 6 := hr _ (by omega)
  have e7 : shF r' i 7 = shF r i 7 := hr _ (by omega)
  have e8 : shF r' i 8 = shF r i 8 := hr _ (by omega)
  have el : lft r' i = lft r i := by
    unfold lft
    rw [e6, e7, show shF r' i 4 = shF r i 4 from hr _ (by omega), show shF r' i 3 = shF r i 3 from hr _ (by omega)]
  have hU := hm.upd (M' := M') (r' := r') (b' := bk i) hi hc h2 h0 q1 m2 (fun j _ _ b _ => mo j b) (fun k _ => by rw [mo 0 (by omega)]) (fun k _ => by rw [mo (4 + v) (by omega)]) (fun k hk => mk k (by omega)) (fun k _ => by rw [mo (20 + i) (by omega)]) (fun k _ _ _ _ a _ _ _ _ _ _ => hr k a)
    (by rw [mo 0 (by omega), hm.earn]; exact (hr 4 (by omega)).symm) (by rw [mo 0 (by omega), hm.refd]; exact (hr 5 (by omega)).symm) (by rw [mo 0 (by omega), el, ar3]) (by rw [mo 0 (by omega), e8, ar3]) (by rw [mo 0 (by omega), e7, e8, ar3])
    (by rw [mo (4 + v) (by omega), hV.e5]; exact (hr _ (by omega)).symm) (by rw [mo (4 + v) (by omega), hV.e7]; exact (hr _ (by omega)).symm) (by rw [mo (4 + v) (by omega), e8, ar3])
    (by rw [mk 3 (by decide), hC.e3]; exact (hr _ (by omega)).symm) h4 (by rw [mk 6 (by decide), hC.e6]; exact (hr _ (by omega)).symm) (by rw [mk 5 (by decide), el, ar3])
    (by rw [mo (20 + i) (by omega), hS.e8, e6]) (by rw [mo (20 + i) (by omega), hS.e9, e7]) (by rw [mo (20 + i) (by omega), hS.e10, e8]) (by rw [e7]; exact hS.back) (Nat.le_refl _) ⟨st, mk9, st1, mk1, e6.trans q6, e8.trans q7, fun od' h h' => by
      have := (nI_eq (by omega) (by omega)).mp (q3.symm.trans h')
      subst this
      exact ⟨b1, q14, q15⟩⟩ (by
      obtain ⟨a, ha, ea⟩ := hV.rating
      exact ⟨a, by omega, (hr _ (by omega)).trans ea⟩)
  have hbk : (fun j => if j = i then bk i else bk j) = bk := by
    funext j
    by_cases z : j = i
    · rw [if_pos z, z]
    · rw [if_neg z]
  rw [hbk] at hU
  exact hU
theorem fake_pair {n : Nat} (hn : 100 ≤ n) {M : MM} {w : Wd} {nv nc ns : Nat} {bk : Nat → Nat} (hm : RelN M (row w) nv nc ns bk) {i : Nat} (hi : i < ns) (ho : shF (row w) i 6 = 0) : ∃ x M' w' bk', FX6_fakeNext n M (nI i) = some (x, M') ∧ FX13_fakes n w (nI i) = some (x, w') ∧ Fr w w' ∧ RelN M' (row w') nv nc ns bk' ∧ Dy (row w) (row w') ∧ Sh (row w) (row w') ns := by
  have hbs := hm.bs
  have hbv := hm.bv
  have hbc := hm.bc
  have hS := hm.ss i hi
  obtain ⟨c, v, so, wd, pa, h1, h2, -, -, -, -, -, -, q0, q1, -⟩ := hm.due hi
  have hd : M.1 0 7 = row w 6 := hm.depth
  generalize hb : (if row w 6 < 1 then false else true) = b
  obtain ⟨M4, w7, e1, e2, f1, f2, f3, f4, f5, f6, -⟩ := echo_pair hm hi ho hb
  have g0 : shF (row w7) i 0 = nI c := (f3.2.2.2 i (by omega) 0 (by decide)).trans q0
  have hC4 := f2.cs c h1
  have hS4 := f2.ss i hi
  generalize hM5 : (if b = true then sI M4 (12 + c) 4 (M4.1 (12 + c) 4 + 1) else M4) = M5
  generalize hw17 : rs w7 (72 + 6 * c + 2) (cuF (row w7) c 2 + FX13_truth b) = w17
  have r17 : ∀ k, k ≠ 72 + 6 * c + 2 → row w17 k = row w7 k := fun k hk => by rw [← hw17]; exact rs_ne _ _ hk
  have r17c : cuF (row w17) c 2 = cuF (row w7) c 2 + FX13_truth b := by
    show row w17 (72 + 6 * c + 2) = _
    rw [← hw17, rs_row, if_pos rfl]
  have mo : ∀ j, j ≠ 12 + c → M5.1 j = M4.1 j := fun j hj => by
    rw [← hM5]
    cases b with
    | true => rw [if_pos rfl]; exact sI_o _ _ _ hj
    | false => rw [if_neg (by decide)]
  have mk : ∀ k, k ≠ 4 → M5.1 (12 + c) k = M4.1 (12 + c) k := fun k hk => by
    rw [← hM5]
    cases b with
    | true => rw [if_pos rfl, sI_at, if_neg hk]
    | false => rw [if_neg (by decide)]
  have m4 : M5.1 (12 + c) 4 = cuF (row w17) c 2 := by
    rw [r17c, ← hC4.e4, ← hM5]
    cases b with
    | true => rw [if_pos rfl, sI_at, if_pos rfl]; rfl
    | false => rw [if_neg (by decide)]; exact (Int32.add_zero _).symm
  have hN : RelN M5 (row w17) nv nc ns (fun j => if j = i then bk i + 1 else bk j) := f2.susp hi h1 g0 (by
    rw [← hM5]
    cases b with
    | true => rw [if_pos rfl]; rfl
    | false => rw [if_neg (by decide)]) mo mk r17 m4
  have hF : Fr w w17 := by rw [← hw17]; exact f1.to_rs _ _
  have hD7 : Dy (row w7) (row w17) := ⟨fun k _ _ _ => r17 k (by omega), fun u hu k hk _ _ => r17 _ (by omega), fun u hu k hk _ a _ => r17 _ (by omega), fun j hj k hk => r17 _ (by omega)⟩
  have hSh : Sh (row w) (row w17) ns := fun j hj hoj => by
    rw [show shF (row w17) j 6 = shF (row w7) j 6 from r17 _ (by omega)] at hoj
    rw [show shF (row w17) j 7 = shF (row w7) j 7 from r17 _ (by omega)]
    by_cases z : j = i
    · subst z
      exact ⟨ho, 1, by decide, by rw [f5]; rfl⟩
    · rw [f4 j (by omega) z 6 (by decide)] at hoj
      exact ⟨hoj, 0, by decide, by rw [f4 j (by omega) z 7 (by decide), nI_0, Int32.add_zero]⟩
  have hS5 := hN.ss i hi
  have ec : FX6_fakeNext n M (nI i) = bnd (FX2_hasAnger M5 (12 + c)) fun x => if x = true then bo1 (FX6_callOffAll n M5 (M5.1 (20 + i) 0)) fun M10 => some (M10.1 (12 + c) 4, M10) else some (M5.1 (12 + c) 4, M5) := by
    unfold FX6_fakeNext
    rw [gd_t (inI (by omega) (by omega)), nI_c (by omega), hS.e0, q0, gd_t (inI (by omega) (by omega)), nI_c (by omega), hd]
    by_cases z : row w 6 < 1
    · rw [if_pos z] at hb ⊢
      subst hb
      rw [if_neg (by decide)] at hM5
      subst hM5
      rw [e1, bo1_s]
    · rw [if_neg z] at hb ⊢
      subst hb
      rw [if_pos rfl] at hM5
      subst hM5
      rw [e1, bo1_s, bnd_s]
  have er : FX13_fakes n w (nI i) = bo1 (FX13_isAngryNow w17 (nI c)) fun x20 => if x20 = true then bo1 (FX13_cancelsAll n w17 (nI c)) fun w26 => bo1 (FX13_ofCustomer w26 (nI c) 2) fun x29 => some (x29, w26) else bo1 (FX13_ofCustomer w17 (nI c) 2) fun x23 => some (x23, w17) := by
    unfold FX13_fakes
    rw [rS0 (by omega), bo1_s, q0, gd6, show (w 15).1 2 6 = row w 6 from rfl, e2, bo2_s, bnd_s, cst2, gd_t (inI (by omega) (by omega)), bnd_s, gd_t (inI (by omega) (by omega)), nI_c (by omega), rs_fold, show (w7 15).1 2 (72 + 6 * c + 2) = cuF (row w7) c 2 from rfl, hw17, bnd_s]
  have eA : FX2_hasAnger M5 (12 + c) = (if cuF (row w17) c 2 < 3 then false else true) := cAngry m4
  rw [ec, er, rAngry (by omega), bo1_s, eA, bnd_s]
  by_cases z : cuF (row w17) c 2 < 3
  · rw [if_pos z, if_neg (by decide), if_neg (by decide), rC2 (by omega), bo1_s, m4]
    exact ⟨_, M5, w17, _, rfl, rfl, hF, hN, f3.trans hD7, hSh⟩
  · obtain ⟨M', w', y1, y2, y3, y4, y5, y6, y7⟩ := cancelAll_pair hn hN (nI c)
    rw [if_neg z, if_pos rfl, if_pos rfl, hS5.e0, show shF (row w17) i 0 = nI c from (r17 _ (by omega)).trans g0, y1, bo1_s, y2, bo1_s, rC2 (by omega), bo1_s, (y4.cs c h1).e4]
    exact ⟨_, M', w', _, rfl, rfl, hF.trans y3, y4, (f3.trans hD7).trans y5, hSh.and0 y6⟩
theorem ob_54 {n : Nat} (hn : 2500 ≤ n) {w : Wd} (h : Good w) (a1 a2 a3 a4 a5 : Int32) : ∃ w9, FLc_54 n w a1 a2 a3 a4 a5 = some w9 ∧ Good w9 := by
  obtain ⟨nv, nc, ns, bk, hm⟩ := h.m
  have hbs := hm.bs
  show ∃ w9, (bo2 (FL_fake n w a1) fun k w1 => bo2 (FX13_fake n w1 a1) fun q w2 => chk k q w2) = some w9 ∧ Good w9
  unfold FL_fake FX13_fake
  cases hd : FX12_isWithin a1 0 (nI ns - 1) with
  | false =>
    have hx : FX12_fake n w a1 = some (.error ("java/lang/IndexOutOfBoundsException", w)) := by
      unfold FX12_fake
      rw [cFO_x hm.s1 hd, bo1_s]
      rfl
    rw [lw_x (k := 1) hx (if_pos rfl), bo2_s, rIsS hm.s0, hd, bo1_s, rOpen_x hm.s0 hd, bo1_s, gb_f, bnd2_s, if_neg (by decide), bo2_s]
    exact ⟨_, er_chk h (by decide)⟩
  | true =>
    obtain ⟨i, hi, rfl⟩ := wi_in (by omega) hd
    have hS := hm.ss i hi
    by_cases ho : shF (row w) i 6 = 0
    · obtain ⟨w6, x, M', wF, e6, e61, ec, e15, er, ek, hG⟩ := und_ok hn h (fun M => FX6_fakeNext n M (nI i)) (fun w => FX13_fakes n w (nI i)) (fun w9 hr => by
        have hN : RelN (w 1) (row w9) nv nc ns bk := by rw [hr]; exact hm.toN
        obtain ⟨x, M', w', bk', q1, q2, q3, q4, q5, q6⟩ := fake_pair (n := n) (by omega) hN hi (by rw [hr]; exact ho)
        refine ⟨x, M', w', q1, q2, q3, nv, nc, ns, bk', ?_⟩
        obtain ⟨t, ht, et⟩ := hm.tm
        have hT : TmOk (row w9) ns t := by rw [hr]; exact hm.tmOk ht et
        refine q4.toM ht ?_ (hT.keep hN (by omega) q5 q6)
        rw [q5.1 3 (by decide) (by decide) (by decide), hr]
        exact et)
      have hx : FX12_fake n w (nI i) = some (.ok (x, sW w6 1 M')) := by
        unfold FX12_fake
        rw [cFO_i hm.s1 hbs hi hS.e8, if_pos ho, bo1_s]
        show (bo1 (FX5_remember n w 1) fun w6 => _) = _
        rw [e6, bo1_s, e61, ec, bo2_s, bnd_s]
      rw [lw_o hx, bo2_s]
      rw [rIsS (ns := ns) (by rw [e15]; exact hm.s0), hd, bo1_s, rOpen (ns := ns) (by rw [e15]; exact hm.s0) hbs hi, e15, decide_eq_true ho, bo1_s, gb_tt, bnd2_s, if_pos rfl, er, bo2_s]
      exact ⟨wF, ek, hG⟩
    · have hx : FX12_fake n w (nI i) = some (.error ("java/lang/IllegalStateException", w)) := by
        unfold FX12_fake
        rw [cFO_i hm.s1 hbs hi hS.e8, if_neg ho, bo1_s]
        rfl
      rw [lw_x (k := 2) hx rfl, bo2_s, rIsS hm.s0, hd, bo1_s, rOpen hm.s0 hbs hi, decide_eq_false ho, bo1_s, gb_tf, bnd2_s, if_neg (by decide), bo2_s]
      exact ⟨_, er_chk h (by decide)⟩
theorem ob_53 {n : Nat} (hn : 2500 ≤ n) {w : Wd} (h : Good w) (a1 a2 a3 a4 a5 : Int32) : ∃ w9, FLc_53 n w a1 a2 a3 a4 a5 = some w9 ∧ Good w9 := by
  obtain ⟨nv, nc, ns, bk, hm⟩ := h.m
  have hbs := hm.bs
  show ∃ w9, (bo2 (FL_cancel n w a1) fun k w1 => bo2 (FX13_cancel n w1 a1) fun q w2 => chk k q w2) = some w9 ∧ Good w9
  unfold FL_cancel FX13_cancel
  cases hd : FX12_isWithin a1 0 (nI ns - 1) with
  | false =>
    have hx : FX12_cancel n w a1 = some (.error ("java/lang/IndexOutOfBoundsException", w)) := by
      unfold FX12_cancel
      rw [cFO_x hm.s1 hd, bo1_s]
      rfl
    rw [lw_x (k := 1) hx (if_pos rfl), bo2_s, rIsS hm.s0, hd, bo1_s, rOpen_x hm.s0 hd, bo1_s, gb_f, bnd2_s, if_neg (by decide), bo2_s]
    exact ⟨_, er_chk h (by decide)⟩
  | true =>
    obtain ⟨i, hi, rfl⟩ := wi_in (by omega) hd
    have hS := hm.ss i hi
    by_cases ho : shF (row w) i 6 = 0
    · obtain ⟨w6, x, M', wF, e6, e61, ec, e15, er, ek, hG⟩ := und_ok hn h (fun M => FX6_callOff M (nI i)) (fun w => FX13_cancels w (nI i)) (fun w9 hr => by
        have hN : RelN (w 1) (row w9) nv nc ns bk := by rw [hr]; exact hm.toN
        obtain ⟨M', w', q1, q2, q3, q4, q5, q6, q7, q8⟩ := cancel_pair hN hi (by rw [hr]; exact ho)
        refine ⟨_, M', w', q1, q2, q3, nv, nc, ns, bk, ?_⟩
        obtain ⟨t, ht, et⟩ := hm.tm
        have hT : TmOk (row w9) ns t := by rw [hr]; exact hm.tmOk ht et
        refine q4.toM ht ?_ (hT.keep hN (by omega) q5 (Sh0.sh (fun j hj hoj => ?_)))
        · rw [q5.1 3 (by decide) (by decide) (by decide), hr]; exact et
        · by_cases z : j = i
          · subst z
            rw [q7] at hoj
            exact absurd hoj (by decide)
          · rw [q6 j (by omega) z 6 (by decide)] at hoj
            exact ⟨hoj, q6 j (by omega) z 7 (by decide)⟩)
      have hx : FX12_cancel n w (nI i) = some (.ok (x, sW w6 1 M')) := by
        unfold FX12_cancel
        rw [cFO_i hm.s1 hbs hi hS.e8, if_pos ho, bo1_s]
        show (bo1 (FX5_remember n w 1) fun w6 => _) = _
        rw [e6, bo1_s, e61, ec, bo2_s, bnd_s]
      rw [lw_o hx, bo2_s]
      rw [rIsS (ns := ns) (by rw [e15]; exact hm.s0), hd, bo1_s, rOpen (ns := ns) (by rw [e15]; exact hm.s0) hbs hi, e15, decide_eq_true ho, bo1_s, gb_tt, bnd2_s, if_pos rfl, er, bo2_s]
      exact ⟨wF, ek, hG⟩
    · have hx : FX12_cancel n w (nI i) = some (.error ("java/lang/IllegalStateException", w)) := by
        unfold FX12_cancel
        rw [cFO_i hm.s1 hbs hi hS.e8, if_neg ho, bo1_s]
        rfl
      rw [lw_x (k := 2) hx rfl, bo2_s, rIsS hm.s0, hd, bo1_s, rOpen hm.s0 hbs hi, decide_eq_false ho, bo1_s, gb_tf, bnd2_s, if_neg (by decide), bo2_s]
      exact ⟨_, er_chk h (by decide)⟩
