set_option maxHeartbeats 400000
/-! A NEW VALLEY, A NEW CUSTOMER on all three sides -/
theorem und_3 {n : Nat} (hn : 2500 ≤ n) {w : Wd} (h : Good w) (fc : MM → Option (Int32 × MM)) (fr : Wd → Option (Int32 × Wd)) {Pq : Int32 → MM → (Nat → Int32) → Prop} (hp : ∀ w9, row w9 = row w → ∃ x M' w', fc (w 1) = some (x, M') ∧ fr w9 = some (x, w') ∧ Fr w9 w' ∧ RM M' (row w') ∧ Pq x M' (row w')) : ∃ w6 x M' wF, FX5_remember n w 1 = some w6 ∧ (sW w6 10 (sI (w6 10) 0 6 0)) 1 = w 1 ∧ fc (w 1) = some (x, M') ∧ (ow (sW (sW w6 10 (sI (w6 10) 0 6 0)) 1 M') x) 15 = w 15 ∧ (bo1 (FX13_laysAside n (cd (ow (sW (sW w6 10 (sI (w6 10) 0 6 0)) 1 M') x) 0)) fun w12 => bnd (sW w12 15 (sI (w12 15) 0 2 0)) fun w13 => bo2 (fr w13) fun x15 w16 => bo2 (FX13_kept n w16 x15) fun x19 w20 => some (x19, w20)) = some (x, wF) ∧ chk 0 x wF = some wF ∧ (Good wF ∧ (wF 10).1 0 6 = 0) ∧ AG wF (sW (sW w6 10 (sI (w6 10) 0 6 0)) 1 M') ∧ Pq x M' (row wF) := by
  obtain ⟨nv, nc, ns, bk, hm⟩ := h.m
  obtain ⟨f0, ct, hf, hc, h1, h2, h3, h4⟩ := h.h.cnt
  obtain ⟨w6, e6, r6⟩ := remember_ok (n := n) (by omega) w hf hc h1 h2 hm.v1 hm.c1 hm.s1 hm.bv hm.bc hm.bs
  have e61 : (sW w6 10 (sI (w6 10) 0 6 0)) 1 = w 1 := by rw [sW_o _ _ (by decide)]; exact r6.1 1 (by decide) (by omega)
  obtain ⟨x, M', _, ef, _⟩ := hp w rfl
  refine ⟨w6, x, M', ?_⟩
  generalize hwA : ow (sW (sW w6 10 (sI (w6 10) 0 6 0)) 1 M') x = wA
  have hA : ∀ r, r ≠ 1 → r ≠ 10 → r ≠ 16 → wA r = w6 r := fun r a b c => by rw [← hwA, ow_o _ _ c, sW_o _ _ a, sW_o _ _ b]
  have hA1 : wA 1 = M' := by rw [← hwA, ow_o _ _ (by decide), sW_s]
  have hA10 : wA 10 = sI (w 10) 0 6 0 := by rw [← hwA, ow_o _ _ (by decide), sW_o _ _ (by decide), sW_s, r6.1 10 (by decide) (by omega)]
  have hA16 : (wA 16).2 0 0 = x.toInt64 := by rw [← hwA]; exact ow_v _ _
  have hA15 : wA 15 = w 15 := by rw [hA 15 (by decide) (by decide) (by decide), r6.1 15 (by decide) (by omega)]
  obtain ⟨w9, e9, p1, p2, p3, p4, p5, p6⟩ := pre_ok (n := n) (by omega) wA
  generalize hwX : sW w9 15 (sI (w9 15) 0 2 0) = wX
  have x15 : wX 15 = sI (w9 15) 0 2 0 := by rw [← hwX, sW_s]
  have xo : ∀ r, r ≠ 15 → wX r = wA r := fun r hr => by rw [← hwX, sW_o _ _ hr, p1 r hr]
  have xj : ∀ j, j ≠ 0 → j ≠ 4 → (wX 15).1 j = (w 15).1 j := fun j a b => by rw [x15, sI_o _ _ _ a, p3 j a b, hA15]
  have xk : ∀ k, k ≠ 0 → k ≠ 2 → (wX 15).1 0 k = (w 15).1 0 k := fun k a b => by rw [x15, sI_at, if_neg b, p4 k a, hA15]
  have x2 : (wX 15).1 0 2 = 0 := by rw [x15, sI_at, if_pos rfl]
  have x0 : (wX 15).1 0 0 = 0 := by rw [x15, sI_at, if_neg (by decide), p5]
  have x4 : ∀ k, k < 390 → (wX 15).1 4 k = row w k := fun k hk => by
    rw [x15, sI_o _ _ _ (by decide), p6 k hk]
    show (wA 15).1 2 k = _
    rw [hA15]
  have hr9 : row wX = row w := xj 2 (by decide) (by decide)
  obtain ⟨x', M2, wB, ef', er, ⟨f1, f2, f3, f4⟩, hM, hP⟩ := hp wX hr9
  have hj := Option.some.inj (ef'.symm.trans ef)
  have hx : x' = x := congrArg Prod.fst hj
  have hM2 : M2 = M' := congrArg Prod.snd hj
  subst hx
  subst hM2
  have o6 : ∀ r, r ≠ 15 → r ≠ 1 → r ≠ 10 → r ≠ 16 → wB r = w6 r := fun r a b c d => by rw [f1 r a, xo r a, hA r b c d]
  have o0 : ∀ r, r ≠ 15 → r ≠ 1 → r ≠ 10 → r ≠ 16 → r ≠ 13 → r ≠ 4 + f0 → wB r = w r := fun r a b c d e g => by rw [o6 r a b c d, r6.1 r e g]
  have yj : ∀ j, j ≠ 0 → j ≠ 2 → j ≠ 4 → (wB 15).1 j = (w 15).1 j := fun j a b c => by rw [f3 j a b, xj j a c]
  have yk : ∀ k, k ≠ 0 → k ≠ 2 → k ≠ 20 → k ≠ 31 → (wB 15).1 0 k = (w 15).1 0 k := fun k a b c d => by rw [f4 k c d, xk k a b]
  have y10 : wB 10 = sI (w 10) 0 6 0 := by rw [f1 10 (by decide), xo 10 (by decide), hA10]
  obtain ⟨wF, eF, hG, ht, hro⟩ := change_good hn (wB := wB) hf hc h4 hm
    (by rw [o6 13 (by decide) (by decide) (by decide) (by decide)]; exact r6.2.2.1)
    (by rw [o6 13 (by decide) (by decide) (by decide) (by decide)]; exact r6.2.2.2)
    (by rw [o6 (4 + f0) (by omega) (by omega) (by omega) (by omega)]; exact r6.2.1)
    (fun g hg hne => o0 (4 + g) (by omega) (by omega) (by omega) (by omega) (by omega) (by omega))
    (by rw [yk 18 (by decide) (by decide) (by decide) (by decide)]; exact h3)
    (yj 6 (by decide) (by decide) (by decide))
    (fun k hk => by rw [f3 4 (by decide) (by decide), x4 k hk])
    (by
      rw [o0 0 (by decide) (by decide) (by decide) (by decide) (by decide) (by omega), o0 3 (by decide) (by decide) (by decide) (by decide) (by decide) (by omega), yk 19 (by decide) (by decide) (by decide) (by decide), yj 3 (by decide) (by decide) (by decide)]
      exact h.h.sav)
    (by
      refine RelT.mk ⟨0, Nat.zero_le _, ?_, ?_, fun j hj => absurd hj (Nat.not_lt_zero j)⟩ ?_ ?_
      · rw [y10, sI_at, if_pos rfl]; rfl
      · rw [f4 2 (by decide) (by decide), x2]; rfl
      · rw [y10, sI_at, if_neg (by decide), yk 10 (by decide) (by decide) (by decide) (by decide)]; exact h.t.code
      · rw [y10, sI_at, if_neg (by decide), yk 11 (by decide) (by decide) (by decide) (by decide)]; exact h.t.offs)
    (h.o.keep (o0 14 (by decide) (by decide) (by decide) (by decide) (by decide) (by omega)) (yj 14 (by decide) (by decide) (by decide)) (yk 33 (by decide) (by decide) (by decide) (by decide)))
    (by rw [f1 1 (by decide), xo 1 (by decide), hA1]; exact hM)
  have h18 : (wB 15).1 0 18 = nI ct := by rw [yk 18 (by decide) (by decide) (by decide) (by decide)]; exact h3
  obtain ⟨wF2, ct2, eF2, -, k1, -, k3, -⟩ := keeps_ok hn wB hc h18
  have e2 : wF2 = wF := Option.some.inj (eF2.symm.trans eF)
  subst e2
  refine ⟨wF2, e6, e61, ef, hA15, ?_, chk_0 ?_ ?_, ⟨hG, by rw [hro 10 (by decide), y10, sI_at, if_pos rfl]⟩, fun r hr => ?_, ?_⟩
  · rw [e9, bo1_s, hwX, bnd_s, er, bo2_s]
    unfold FX13_kept
    rw [eF, bo1_s, bo2_s]
  · show (wF2 15).1 0 0 = 0
    rw [ht, f4 0 (by decide) (by decide), x0]
  · rw [hro 16 (by decide), f1 16 (by decide), xo 16 (by decide), hA16]
  · rw [hro r (by omega), f1 r (by omega), xo r (by omega), ← hwA, ow_o _ _ (by omega)]
  · rw [show row wF2 = row wB from k3 2 (by decide) (by decide)]
    exact hP
theorem EM.keep {r r' : Nat → Int32} {nc ns : Nat} (h : EM r nc ns) (h4 : r' 4 = r 4) (h5 : r' 5 = r 5) (h7 : r' 7 = r 7) (eC : ∀ c, c < nc → cuF r' c 1 = cuF r c 1) (eS : ∀ i, i < ns → ∀ k, k < 9 → shF r' i k = shF r i k) : EM r' nc ns := by
  obtain ⟨eA, eB, eC', m, L, m1, m2, m3⟩ := h
  have eL : ∀ i, i < ns → lft r' i = lft r i := fun i hi => lft_same (eS i hi)
  refine ⟨?_, ?_, ?_, m, L, fun c hc => by rw [eC c hc]; exact m1 c hc, fun i hi => by rw [eL i hi]; exact m2 i hi, m3⟩
  · rw [h4, h5, isum_congr (g := fun i => shF r i 4 * shF r i 3) (fun i hi => by rw [eS i hi 4 (by decide), eS i hi 3 (by decide)]), isum_congr (g := lft r) eL]
    exact eA
  · rw [h7, h4, isum_congr (g := fun c => cuF r c 1) eC, isum_congr (g := lft r) eL]
    exact eB
  · rw [h4, isum_congr (g := fun i => shF r i 4 * bcI (shF r i 8)) (fun i hi => by rw [eS i hi 4 (by decide), eS i hi 8 (by decide)])]
    exact eC'
section ADDS3
variable {n nv nc ns : Nat}
theorem tw_addV {V : MM} {b : Wd} (h : TW V b nv nc ns) (hnv : nv < 8) {wd wl pr : Nat} (w1 : 1 ≤ wd) (w2 : wd ≤ 60) (l1 : 1 ≤ wl) (l2 : wl ≤ 4) (p1 : 1 ≤ pr) (p2 : pr ≤ 99) : ∃ V' b', FX13_addsValley b (lN (pk5 [22, nv + 1])) (nI wd) (nI wl) (nI pr) = some (nI nv, b') ∧ FW_addValley V (nI wd) (nI wl) (nI pr) = some (nI nv, V') ∧ TW V' b' (nv + 1) nc ns := by
  obtain ⟨hW, hE, hD, hN, M, bk, hm⟩ := id h
  have hbv := hm.bv
  have hbc := hm.bc
  have hbs := hm.bs
  have hls : okName [22, nv + 1] := nm_ok (by decide) hnv
  obtain ⟨M2, w2, q1, q2, q3, q4, -⟩ := valley_pair hm hnv hls w1 w2 l1 l2 p1 p2
  obtain ⟨w', e', hF, r0, r00, s0, s1, s2, s3, s4, s5, s6, s7⟩ := rAddsV (p := pk5 [22, nv + 1]) (wd := nI wd) (wl := nI wl) (pr := nI pr) hm.v0 hnv (pk5_bd hls).2.2.1
  have e2 : w2 = w' := congrArg Prod.snd (Option.some.inj (q2.symm.trans e'))
  subst e2
  have eV : ∀ u, u < nv → ∀ k, k < 8 → vaF (row w2) u k = vaF (row b) u k := fun u hu k hk => r0 _ (by omega) (by omega)
  have eC : ∀ d k, cuF (row w2) d k = cuF (row b) d k := fun d k => r0 _ (by omega) (by omega)
  have eS : ∀ j k, shF (row w2) j k = shF (row b) j k := fun j k => r0 _ (by omega) (by omega)
  generalize hP : putRow V (2 + nv) 6 (row_addValley V (nI wd) (nI wl) (nI pr)) = P
  have p0 : ∀ j, j ≠ 2 + nv → P.1 j = V.1 j := fun j hj => by rw [← hP]; exact putRow_o _ _ _ hj
  have pr1 : ∀ k, k < 6 → P.1 (2 + nv) k = row_addValley V (nI wd) (nI wl) (nI pr) k := fun k hk => by rw [← hP, putRow_s]; exact cpy9 hk
  generalize hV' : sI P 0 0 (P.1 0 0 + 1) = V'
  have v00 : V'.1 0 0 = nI nv + 1 := by rw [← hV', wE, p0 0 (by omega), hW.1 0 (by decide), hm.v0]
  have hadd : FW_addValley V (nI wd) (nI wl) (nI pr) = some (nI nv, V') := by
    unfold FW_addValley
    rw [hW.1 0 (by decide), hm.v0, gd_t (inI (by omega) (by omega)), nI_c (by omega), hP, bnd_s, hV', bnd_s, v00, Int32.add_sub_cancel]
  refine ⟨V', w2, e', hadd, ⟨fun k hk => ?_, fun u hu k hk => ?_, fun d hd k hk => ?_, fun j hj k hk => ?_⟩, hE.keep (r0 4 (by omega) (by omega)) (r0 5 (by omega) (by omega)) (r0 7 (by omega) (by omega)) (fun c _ => eC c 1) (fun i _ k _ => eS i k), fun j hj hoj d hd hd0 => ?_, ⟨fun u hu => ?_, fun d hd => ?_⟩, M2, bk, q4⟩
  · by_cases e : k = 0
    · rw [e, v00, r00, nI_1]
    · rw [← hV', wN _ _ (by omega), p0 0 (by omega), hW.1 k hk]
      exact (r0 k e (by omega)).symm
  · rw [← hV', wN _ _ (by omega)]
    by_cases e : u = nv
    · subst e
      rw [pr1 k hk]
      rcases (show k = 0 ∨ k = 1 ∨ k = 2 ∨ k = 3 ∨ k = 4 ∨ k = 5 by omega) with rfl | rfl | rfl | rfl | rfl | rfl
      · exact s0.symm
      · exact s1.symm
      · exact s2.symm
      · exact s3.symm
      · exact s4.symm
      · exact s5.symm
    · rw [p0 _ (by omega), hW.2.1 u (by omega) k hk, eV u (by omega) k (by omega)]
  · rw [← hV', wN _ _ (by omega), p0 _ (by omega), hW.2.2.1 d hd k hk, eC]
  · rw [← hV', wN _ _ (by omega), p0 _ (by omega), hW.2.2.2 j hj k hk, eS]
  · rw [eC]
    rw [eS] at hoj hd0
    exact hD j hj hoj d hd hd0
  · by_cases e : u = nv
    · subst e; exact ⟨s6, s7⟩
    · rw [eV u (by omega) 6 (by decide), eV u (by omega) 7 (by decide)]; exact hN.1 u (by omega)
  · rw [eC, eC]; exact hN.2 d hd
theorem tw_addC {V : MM} {b : Wd} (h : TW V b nv nc ns) (hnc : nc < 8) {pa mo : Nat} (p1 : 1 ≤ pa) (p2 : pa ≤ 240) (m2 : mo ≤ 9999) : ∃ V' b', FX13_addsCustomer b (lN (pk5 [3, nc + 1])) (nI pa) (nI mo) = some (nI nc, b') ∧ FW_addCustomer V (nI pa) (nI mo) = some (nI nc, V') ∧ TW V' b' nv (nc + 1) ns := by
  obtain ⟨hW, hE, hD, hN, M, bk, hm⟩ := id h
  have hbv := hm.bv
  have hbc := hm.bc
  have hbs := hm.bs
  have hls : okName [3, nc + 1] := nm_ok (by decide) hnc
  obtain ⟨M2, w2, q1, q2, q3, q4, -⟩ := customer_pair (mo := nI mo) hm hnc hls p1 p2
  obtain ⟨w', e', hF, r0, r01, r7, s0, s1, s2, s3, s4, s5⟩ := rAddsC (p := pk5 [3, nc + 1]) (pa := nI pa) (mo := nI mo) hm.c0 hnc (pk5_bd hls).2.2.1
  have e2 : w2 = w' := congrArg Prod.snd (Option.some.inj (q2.symm.trans e'))
  subst e2
  have eV : ∀ u, u < nv → ∀ k, k < 8 → vaF (row w2) u k = vaF (row b) u k := fun u hu k hk => r0 _ (by omega) (by omega) (by omega)
  have eC : ∀ d, d < nc → ∀ k, k < 6 → cuF (row w2) d k = cuF (row b) d k := fun d hd k hk => r0 _ (by omega) (by omega) (by omega)
  have eS : ∀ j k, shF (row w2) j k = shF (row b) j k := fun j k => r0 _ (by omega) (by omega) (by omega)
  generalize hP : putRow V (11 + nc) 4 (row_addCustomer V (nI pa) (nI mo)) = P
  have p0 : ∀ j, j ≠ 11 + nc → P.1 j = V.1 j := fun j hj => by rw [← hP]; exact putRow_o _ _ _ hj
  have pr1 : ∀ k, k < 4 → P.1 (11 + nc) k = row_addCustomer V (nI pa) (nI mo) k := fun k hk => by rw [← hP, putRow_s]; exact cpy9 hk
  generalize hV' : sI (sI P 0 7 (P.1 0 7 + nI mo)) 0 1 ((sI P 0 7 (P.1 0 7 + nI mo)).1 0 1 + 1) = V'
  have v01 : V'.1 0 1 = nI nc + 1 := by rw [← hV', wE, wN _ _ (by omega), p0 0 (by omega), hW.1 1 (by decide), hm.c0]
  have hadd : FW_addCustomer V (nI pa) (nI mo) = some (nI nc, V') := by
    unfold FW_addCustomer
    rw [hW.1 1 (by decide), hm.c0, gd_t (inI (by omega) (by omega)), nI_c (by omega), hP, bnd_s, bnd_s, hV', bnd_s, v01, Int32.add_sub_cancel]
  refine ⟨V', w2, e', hadd, ⟨fun k hk => ?_, fun u hu k hk => ?_, fun d hd k hk => ?_, fun j hj k hk => ?_⟩, ?_, fun j hj hoj d hd hd0 => ?_, ⟨fun u hu => ?_, fun d hd => ?_⟩, M2, bk, q4⟩
  · by_cases e : k = 1
    · rw [e, v01, r01, nI_1]
    · by_cases e7 : k = 7
      · rw [e7, ← hV', wN _ _ (by omega), wE, p0 0 (by omega), hW.1 7 (by decide), r7]
      · rw [← hV', wN _ _ (by omega), wN _ _ (by omega), p0 0 (by omega), hW.1 k hk]
        exact (r0 k e e7 (by omega)).symm
  · rw [← hV', wN _ _ (by omega), wN _ _ (by omega), p0 _ (by omega), hW.2.1 u hu k hk, eV u hu k (by omega)]
  · rw [← hV', wN _ _ (by omega), wN _ _ (by omega)]
    by_cases e : d = nc
    · subst e
      rw [pr1 k hk]
      rcases (show k = 0 ∨ k = 1 ∨ k = 2 ∨ k = 3 by omega) with rfl | rfl | rfl | rfl
      · exact s0.symm
      · exact s1.symm
      · exact s2.symm
      · exact s3.symm
    · rw [p0 _ (by omega), hW.2.2.1 d (by omega) k hk, eC d (by omega) k (by omega)]
  · rw [← hV', wN _ _ (by omega), wN _ _ (by omega), p0 _ (by omega), hW.2.2.2 j hj k hk, eS]
  · obtain ⟨eA, eB, eC', m, L, m1, m2', m3⟩ := hE
    have h4 : row w2 4 = row b 4 := r0 4 (by omega) (by omega) (by omega)
    have h5 : row w2 5 = row b 5 := r0 5 (by omega) (by omega) (by omega)
    have eL : ∀ i, lft (row w2) i = lft (row b) i := fun i => lft_same (fun k _ => eS i k)
    have hmon : isum (nc + 1) (fun c => cuF (row w2) c 1) = isum nc (fun c => cuF (row b) c 1) + nI mo := by
      rw [isum_new (f := fun c => cuF (row b) c 1) (fun d hd => eC d hd 1 (by decide)), s1]
    refine ⟨?_, ?_, ?_, fun d => if d = nc then mo else m d, L, fun d hd => ?_, fun i hi => by rw [eL]; exact m2' i hi, ?_⟩
    · rw [h4, h5, isum_congr (g := fun i => shF (row b) i 4 * shF (row b) i 3) (fun i _ => by rw [eS, eS]), isum_congr (g := lft (row b)) (fun i _ => eL i)]
      exact eA
    · rw [r7, h4, hmon, isum_congr (g := lft (row b)) (fun i _ => eL i), ← eB]
      grind
    · rw [h4, isum_congr (g := fun i => shF (row b) i 4 * bcI (shF (row b) i 8)) (fun i _ => by rw [eS, eS])]
      exact eC'
    · show cuF (row w2) d 1 = nI (if d = nc then mo else m d)
      by_cases e : d = nc
      · subst e; rw [if_pos rfl]; exact s1
      · rw [if_neg e, eC d (by omega) 1 (by decide)]; exact m1 d (by omega)
    · have hu : nsum nc (fun d => if d = nc then mo else m d) = nsum nc m := nsum_congr (fun j hj => if_neg (by omega))
      show (nsum nc (fun d => if d = nc then mo else m d) + (if nc = nc then mo else m nc)) + _ ≤ _
      rw [hu, if_pos rfl]
      omega
  · by_cases e : d = nc
    · subst e; rw [s2]; decide
    · rw [eC d (by omega) 2 (by decide)]
      rw [eS] at hoj hd0
      exact hD j hj hoj d (by omega) hd0
  · rw [eV u hu 6 (by decide), eV u hu 7 (by decide)]; exact hN.1 u hu
  · by_cases e : d = nc
    · subst e; exact ⟨s4, s5⟩
    · rw [eC d (by omega) 4 (by decide), eC d (by omega) 5 (by decide)]; exact hN.2 d (by omega)
end ADDS3
