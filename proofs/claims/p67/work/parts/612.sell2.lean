set_option maxHeartbeats 400000
/-! A SALE on all three sides -/
theorem cpy9 {f g : Nat → Int32} {n k : Nat} (h : k < n) : va_cpy f g 0 0 n k = f k := by
  unfold va_cpy
  rw [if_pos ⟨Nat.zero_le _, by omega⟩]
  congr 1
  omega
theorem nI_lei {a b : Nat} (ha : a < 2 ^ 31) (hb : b < 2 ^ 31) : nI a ≤ nI b ↔ a ≤ b := by
  rw [Int32.le_iff_toInt_le, nI_toInt ha, nI_toInt hb]
  omega
theorem refusal_ok {n : Nat} (hn : 100 ≤ n) {V : MM} {r : Nat → Int32} {M : MM} {nv nc ns : Nat} {bk : Nat → Nat} (hW : WR V r nv nc ns) (hm : RelM M r nv nc ns bk) {c v : Nat} (hc : c < nc) (hv : v < nv) (o : Int32) : FW_refusal n V (nI c) (nI v) o = some (whyF r ns c v o) := by
  have hbs := hm.bs
  have hbv := hm.bv
  have hbc := hm.bc
  have key : ∀ y0 : Int32, FW_refusal_L22 n n V (nI c) (nI v) o y0 0 = some (if ns = 30 then 1 else if o ≤ vaF r v 1 then (if vaF r v 2 * o ≤ cuF r c 1 then (if anyI (opn r (nI c) (nI v)) ns = true then 4 else y0) else 3) else 2) := fun y0 => by
    obtain ⟨b, hb, e⟩ := loopQ (L := fun k a i => FW_refusal_L22 n k V (nI c) (nI v) o a i) (g := fun a => some (if ns = 30 then (1 : Int32) else if o ≤ vaF r v 1 then (if vaF r v 2 * o ≤ cuF r c 1 then a else 3) else 2)) (ns := ns) (fun i a => a = if anyI (opn r (nI c) (nI v)) i = true then 4 else y0)
      (fun k a hp => by
        simp only [FW_refusal_L22, FW_refusal_B106, FW_refusal_B126]
        rw [hW.1 2 (by decide), hm.s0, if_pos (Int32.le_refl _), gd_t (inI (by omega) (by omega)), gd_t (inI (by omega) (by omega)), gd_t (inI (by omega) (by omega)), gd_t (inI (by omega) (by omega)), nI_c (by omega), nI_c (by omega), hW.2.1 v hv 2 (by decide), hW.2.1 v hv 1 (by decide), hW.2.2.1 c hc 1 (by decide)]
        by_cases z : ns = 30
        · have e : nI ns = (30 : Int32) := by rw [z]; rfl
          rw [if_pos z, if_pos e, if_pos e, if_pos e]
          simp only [ite_self]
        · have e : ¬ nI ns = (30 : Int32) := n30_ne (by omega) z
          rw [if_neg z, if_neg e, if_neg e, if_neg e]
          by_cases z1 : o ≤ vaF r v 1
          · rw [if_pos z1, if_pos z1, if_pos z1]
            by_cases z2 : vaF r v 2 * o ≤ cuF r c 1
            · rw [if_pos z2, if_pos z2]
            · rw [if_neg z2, if_neg z2]
          · rw [if_neg z1, if_neg z1, if_neg z1, ite_self])
      (fun k a i hi hp => by
        subst hp
        refine ⟨_, rfl, ?_⟩
        simp only [FW_refusal_L22, FW_refusal_B73]
        rw [hW.1 2 (by decide), hm.s0, if_neg (le_nI hi (by omega)), gd_t (inI (by omega) (by omega)), gd_t (inI (by omega) (by omega)), gd_t (inI (by omega) (by omega)), nI_c (by omega), nI_1, hW.2.2.2 i hi 0 (by decide), hW.2.2.2 i hi 1 (by decide), hW.2.2.2 i hi 6 (by decide)]
        by_cases hy : anyI (opn r (nI c) (nI v)) i = true
        · rw [if_pos hy, if_pos (show anyI (opn r (nI c) (nI v)) (i + 1) = true by simp only [anyI]; rw [hy]; rfl)]
          simp only [ite_self]
        · have hy' : anyI (opn r (nI c) (nI v)) i = false := by
            cases q : anyI (opn r (nI c) (nI v)) i with
            | true => exact absurd q hy
            | false => rfl
          have e9 : (anyI (opn r (nI c) (nI v)) (i + 1) = true) ↔ (shF r i 0 = nI c ∧ shF r i 1 = nI v ∧ shF r i 6 = 0) := by
            simp only [anyI]
            rw [hy', Bool.false_or]
            unfold opn
            simp
          rw [if_neg hy]
          by_cases z : shF r i 0 = nI c
          · rw [if_pos z]
            by_cases z1 : shF r i 1 = nI v
            · rw [if_pos z1]
              by_cases z2 : shF r i 6 = 0
              · rw [if_pos z2, if_pos (e9.mpr ⟨z, z1, z2⟩)]
              · rw [if_neg z2, if_neg (fun y => z2 (e9.mp y).2.2)]
            · rw [if_neg z1, if_neg (fun y => z1 (e9.mp y).2.1)]
          · rw [if_neg z, if_neg (fun y => z (e9.mp y).1)]) (k := n) (by omega) y0 rfl
    subst hb
    exact e
  unfold FW_refusal FW_refusal_B17
  rw [gd_t (inI (by omega) (by omega)), nI_c (by omega), hW.2.2.1 c hc 2 (by decide), key, key]
  unfold whyF
  by_cases z : cuF r c 2 < 3
  · rw [if_pos (le2_lt3.mpr z), if_pos z]
  · rw [if_neg (fun y => z (le2_lt3.mp y)), if_neg z]
section SELL3
variable {n nv nc ns : Nat}
theorem em_sell {r r' : Nat → Int32} {c ea od : Nat} (hE : EM r nc ns) (bc : nc ≤ 8) (hc : c < nc) (hod : od ≤ 4) (hea : ea ≤ 99) (hpay : nI ea * nI od ≤ cuF r c 1) (h4 : r' 4 = r 4) (h5 : r' 5 = r 5) (h7 : r' 7 = r 7) (hcu : ∀ d, d < nc → cuF r' d 1 = if d = c then cuF r c 1 - nI ea * nI od else cuF r d 1) (hS : ∀ j, j < ns → ∀ k, k < 9 → shF r' j k = shF r j k) (s3 : shF r' ns 3 = nI od) (s4 : shF r' ns 4 = nI ea) (s6 : shF r' ns 6 = 0) (s7 : shF r' ns 7 = 0) (s8 : shF r' ns 8 = 0) : EM r' nc (ns + 1) := by
  obtain ⟨eA, eB, eC, m, L, m1, m2, m3⟩ := hE
  have eL : ∀ j, j < ns → lft r' j = lft r j := fun j hj => lft_same (hS j hj)
  have lN : lft r' ns = nI ea * nI od := by rw [lft_open s6, s4, s3, s7, Int32.sub_zero]
  have hsum : isum (ns + 1) (lft r') = isum ns (lft r) + nI ea * nI od := by rw [isum_new (f := lft r) eL, lN]
  have hcost : isum (ns + 1) (fun i => shF r' i 4 * shF r' i 3) = isum ns (fun i => shF r i 4 * shF r i 3) + nI ea * nI od := by
    rw [isum_new (f := fun i => shF r i 4 * shF r i 3) (fun j hj => by rw [hS j hj 4 (by decide), hS j hj 3 (by decide)]), s4, s3]
  have hrec : isum (ns + 1) (fun i => shF r' i 4 * bcI (shF r' i 8)) = isum ns (fun i => shF r i 4 * bcI (shF r i 8)) := by
    rw [isum_new (f := fun i => shF r i 4 * bcI (shF r i 8)) (fun j hj => by rw [hS j hj 4 (by decide), hS j hj 8 (by decide)]), s8, bc0, Int32.mul_zero, Int32.add_zero]
  have hmon : isum nc (fun c => cuF r' c 1) = isum nc (fun c => cuF r c 1) + (cuF r' c 1 - cuF r c 1) := isum_upd (f := fun c => cuF r c 1) (f' := fun c => cuF r' c 1) hc (fun d hd hne => by rw [hcu d hd, if_neg hne])
  have hc1 : cuF r' c 1 = cuF r c 1 - nI ea * nI od := by rw [hcu c hc, if_pos rfl]
  have hmc := nsum_ge (f := m) hc
  have h99 : ea * od ≤ 99 * 4 := Nat.mul_le_mul hea hod
  have hle : ea * od ≤ m c := by
    rw [nI_mul, m1 c hc] at hpay
    exact (nI_lei (by omega) (by omega)).mp hpay
  refine ⟨?_, ?_, ?_, fun d => if d = c then m c - ea * od else m d, fun j => if j = ns then ea * od else L j, fun d hd => ?_, fun j hj => ?_, ?_⟩
  · rw [hcost, h4, h5, hsum, ← eA]
    grind
  · rw [h7, hmon, h4, hsum, hc1, ← eB]
    grind
  · rw [hrec, h4, ← eC]
  · show cuF r' d 1 = nI (if d = c then m c - ea * od else m d)
    rw [hcu d hd]
    by_cases e : d = c
    · rw [if_pos e, if_pos e, m1 c hc, nI_mul, nI_sub hle]
    · rw [if_neg e, if_neg e]; exact m1 d hd
  · show lft r' j = nI (if j = ns then ea * od else L j)
    by_cases e : j = ns
    · subst e; rw [if_pos rfl, lN, nI_mul]
    · rw [if_neg e, eL j (by omega)]; exact m2 j (by omega)
  · have hv := nsum_upd (f := m) (f' := fun d => if d = c then m c - ea * od else m d) hc (fun j hj hne => if_neg hne)
    rw [if_pos rfl] at hv
    have hu : nsum ns (fun j => if j = ns then ea * od else L j) = nsum ns L := nsum_congr (fun j hj => if_neg (by omega))
    show _ + (nsum ns (fun j => if j = ns then ea * od else L j) + (if ns = ns then ea * od else L ns)) ≤ _
    rw [hu, if_pos rfl]
    omega
theorem tw_sell {V : MM} {b : Wd} (h : TW V b nv nc ns) (hns : ns < 30) {c v lo od t : Nat} (hc : c < nc) (hv : v < nv) (l1 : 1 ≤ lo) (l2 : lo ≤ 20) (o1 : 1 ≤ od) (o2 : od ≤ 4) (ht : t ≤ 9999) (et : row b 3 = nI t) (hT : TmOk (row b) ns t) (hw : whyF (row b) ns c v (nI od) = 0) : ∃ V' b', FX13_sells b (nI c) (nI v) (nI lo) (nI od) = some (nI ns, b') ∧ FW_sell V (nI c) (nI v) (nI lo) (nI od) = some (nI ns, V') ∧ TW V' b' nv nc (ns + 1) := by
  obtain ⟨hW, hE, hD, hN, M, bk, hm⟩ := id h
  have hbv := hm.bv
  have hbc := hm.bc
  have hbs := hm.bs
  obtain ⟨ea, ea1, ea2, ea3⟩ := (hm.vs v hv).price
  obtain ⟨w', e', hF, r0, r2, rc, s0, s1, s2, s3, s4, s5, s6, s7, s8⟩ := rSells (c := c) (v := v) (lo := nI lo) (od := nI od) hm.s0 hns (by omega) (by omega)
  obtain ⟨M2, w2, bk2, q1, q2, q3, q4, q5, q6⟩ := sell_pair hm hns hc hv l1 l2 o1 o2 ht et hT
  have e2 : w2 = w' := congrArg Prod.snd (Option.some.inj (q2.symm.trans e'))
  subst e2
  have eV : ∀ u, u < 8 → ∀ k, k < 8 → vaF (row w2) u k = vaF (row b) u k := fun u hu k hk => r0 _ (by omega) (by omega) (by omega)
  have eC : ∀ d, d < 8 → ∀ k, k < 6 → (d = c → k ≠ 1) → cuF (row w2) d k = cuF (row b) d k := fun u hu k hk hn => r0 _ (by omega) (by omega) (by omega)
  have eS : ∀ j, j < ns → ∀ k, k < 9 → shF (row w2) j k = shF (row b) j k := fun u hu k hk => r0 _ (by omega) (by omega) (by omega)
  have hwhy : nI ea * nI od ≤ cuF (row b) c 1 ∧ cuF (row b) c 2 < 3 := by
    unfold whyF at hw
    rw [if_neg (by omega)] at hw
    by_cases z1 : nI od ≤ vaF (row b) v 1
    · rw [if_pos z1] at hw
      by_cases z2 : vaF (row b) v 2 * nI od ≤ cuF (row b) c 1
      · rw [if_pos z2] at hw
        by_cases z3 : anyI (opn (row b) (nI c) (nI v)) ns = true
        · rw [if_pos z3] at hw; exact absurd hw (by decide)
        · rw [if_neg z3] at hw
          by_cases z4 : cuF (row b) c 2 < 3
          · exact ⟨by rw [← ea3]; exact z2, z4⟩
          · rw [if_neg z4] at hw; exact absurd hw (by decide)
      · rw [if_neg z2] at hw; exact absurd hw (by decide)
    · rw [if_neg z1] at hw; exact absurd hw (by decide)
  generalize hP : putRow V (20 + ns) 9 (row_sell V (nI c) (nI v) (nI lo) (nI od)) = P
  have p0 : ∀ j, j ≠ 20 + ns → P.1 j = V.1 j := fun j hj => by rw [← hP]; exact putRow_o _ _ _ hj
  have p1 : ∀ k, k < 9 → P.1 (20 + ns) k = row_sell V (nI c) (nI v) (nI lo) (nI od) k := fun k hk => by rw [← hP, putRow_s]; exact cpy9 hk
  generalize hV' : sI (sI P (11 + c) 1 (P.1 (11 + c) 1 - P.1 (2 + v) 2 * nI od)) 0 2 ((sI P (11 + c) 1 (P.1 (11 + c) 1 - P.1 (2 + v) 2 * nI od)).1 0 2 + 1) = V'
  have v02 : V'.1 0 2 = nI ns + 1 := by rw [← hV', wE, wN _ _ (by omega), p0 0 (by omega), hW.1 2 (by decide), hm.s0]
  have hsell : FW_sell V (nI c) (nI v) (nI lo) (nI od) = some (nI ns, V') := by
    unfold FW_sell
    rw [gd_t (inI (by omega) (by omega)), hW.1 2 (by decide), hm.s0, gd_t (inI (by omega) (by omega)), nI_c (a := ns) (by omega), hP, bnd_s, gd_t (inI (by omega) (by omega)), gd_t (inI (by omega) (by omega)), nI_c (by omega), nI_c (by omega), bnd_s, bnd_s, hV', v02, Int32.add_sub_cancel]
  refine ⟨V', w2, e', hsell, ⟨fun k hk => ?_, fun u hu k hk => ?_, fun d hd k hk => ?_, fun j hj k hk => ?_⟩, em_sell hE hbc hc o2 ea2 hwhy.1 (r0 4 (by omega) (by omega) (by omega)) (r0 5 (by omega) (by omega) (by omega)) (r0 7 (by omega) (by omega) (by omega)) (fun d hd => ?_) eS s3 (s4.trans ea3) s6 s7 s8, fun j hj hoj d hd hd0 => ?_, hN.dy hbv hbc (fun v' hv' k hk _ => eV v' hv' k hk) (fun c' hc' k hk hk3 => eC c' hc' k hk (fun _ => by omega)), M2, bk2, q4⟩
  · by_cases e : k = 2
    · rw [e, v02, r2, nI_1]
    · rw [← hV', wN _ _ (by omega), wN _ _ (by omega), p0 0 (by omega), hW.1 k hk]
      exact (r0 k e (by omega) (by omega)).symm
  · rw [← hV', wN _ _ (by omega), wN _ _ (by omega), p0 _ (by omega), hW.2.1 u hu k hk, eV u (by omega) k (by omega)]
  · rw [← hV', wN _ _ (by omega)]
    by_cases e : d = c ∧ k = 1
    · obtain ⟨rfl, rfl⟩ := e
      rw [wE, p0 _ (by omega), p0 _ (by omega), hW.2.2.1 d hd 1 (by decide), hW.2.1 v hv 2 (by decide)]
      exact rc.symm
    · rw [wN _ _ (by omega), p0 _ (by omega), hW.2.2.1 d hd k hk]
      exact (eC d (by omega) k (by omega) (fun a b => e ⟨a, b⟩)).symm
  · rw [← hV', wN _ _ (by omega), wN _ _ (by omega)]
    by_cases e : j = ns
    · subst e
      rw [p1 k hk]
      have g5 : row b 3 = V.1 0 3 := (hW.1 3 (by decide)).symm
      have g4 : vaF (row b) v 2 = V.1 (2 + (nI v).toNatClampNeg) 2 := by rw [nI_c (by omega)]; exact (hW.2.1 v hv 2 (by decide)).symm
      rw [g5] at s5
      rw [g4] at s4
      rcases (show k = 0 ∨ k = 1 ∨ k = 2 ∨ k = 3 ∨ k = 4 ∨ k = 5 ∨ k = 6 ∨ k = 7 ∨ k = 8 by omega) with rfl | rfl | rfl | rfl | rfl | rfl | rfl | rfl | rfl
      · exact s0.symm
      · exact s1.symm
      · exact s2.symm
      · exact s3.symm
      · exact s4.symm
      · exact s5.symm
      · exact s6.symm
      · exact s7.symm
      · exact s8.symm
    · rw [p0 _ (by omega), hW.2.2.2 j (by omega) k hk, eS j (by omega) k hk]
  · by_cases e : d = c
    · subst e; rw [if_pos rfl, rc, ea3]
    · rw [if_neg e]; exact eC d (by omega) 1 (by decide) (fun y => absurd y e)
  · rw [eC d (by omega) 2 (by decide) (fun _ => by decide)]
    by_cases e : j = ns
    · subst e
      have : d = c := (nI_eq (by omega) (by omega)).mp (hd0.symm.trans s0)
      subst this
      exact hwhy.2
    · rw [eS j (by omega) 6 (by decide)] at hoj
      rw [eS j (by omega) 0 (by decide)] at hd0
      exact hD j (by omega) hoj d hd hd0
theorem st_shout {w : Wd} {V : MM} (hn : 2500 ≤ n) (h : Good w) (hT : TW V w nv nc ns) {c v lo od : Nat} (hc : c < nc) (hv : v < nv) (l1 : 1 ≤ lo) (l2 : lo ≤ 20) (o1 : 1 ≤ od) (o2 : od ≤ 4) (hw : whyF (row w) ns c v (nI od) = 0) : ∃ w' w9 V', FX12_shout n w (nI c) (nI v) (nI lo) (nI od) = some (.ok (nI ns, w')) ∧ FLc_52 n w (nI c) (nI v) (nI lo) (nI od) 0 = some w9 ∧ AG w9 w' ∧ GT w w9 ∧ FW_sell V (nI c) (nI v) (nI lo) (nI od) = some (nI ns, V') ∧ TW V' w9 nv nc (ns + 1) ∧ row w9 3 = row w 3 ∧ ns < 30 := by
  obtain ⟨bk, hm⟩ := tw_nums h hT
  have hbs := hm.bs
  have hbv := hm.bv
  have hbc := hm.bc
  have hns : ns < 30 := by
    by_cases z : ns = 30
    · exfalso
      unfold whyF at hw
      rw [if_pos z] at hw
      exact absurd hw (by decide)
    · omega
  have hc' : FX12_isWithin (nI c) 0 (nI nc - 1) = true := wi_nI hc (by omega)
  have hv' : FX12_isWithin (nI v) 0 (nI nv - 1) = true := wi_nI hv (by omega)
  have h3 : FX12_isWithin (nI lo) 1 20 = true := wi_iff.mpr ⟨nI_nlt (a := lo) (b := 1) l1 (by omega), nI_nlt (a := 20) (b := lo) l2 (by omega)⟩
  have h4 : FX12_isWithin (nI od) 1 4 = true := wi_iff.mpr ⟨nI_nlt (a := od) (b := 1) o1 (by omega), nI_nlt (a := 4) (b := od) o2 (by omega)⟩
  obtain ⟨w6, x, M', wF, e6, e61, ec, e15, er, ek, hG, hA, hx', V', v1, v2, v3⟩ := und_2 (Pq := fun x M' r' => x = nI ns ∧ ∃ V', FW_sell V (nI c) (nI v) (nI lo) (nI od) = some (nI ns, V') ∧ TR V' r' nv nc (ns + 1) ∧ r' 3 = row w 3) hn h (fun M => FX6_sell M (nI c) (nI v) (nI lo) (nI od)) (fun w => FX13_sells w (nI c) (nI v) (nI lo) (nI od)) (fun w9 hr => by
    have hN : RelN (w 1) (row w9) nv nc ns bk := by rw [hr]; exact hm.toN
    obtain ⟨t, ht, et⟩ := hm.tm
    have hTm : TmOk (row w9) ns t := by rw [hr]; exact hm.tmOk ht et
    obtain ⟨M', w', bk', q1, q2, q3, q4, q5, q6⟩ := sell_pair hN hns hc hv l1 l2 o1 o2 ht (by rw [hr]; exact et) hTm
    obtain ⟨V2, b2, p1, p2, p3⟩ := tw_sell (hT.row hr) hns hc hv l1 l2 o1 o2 ht (by rw [hr]; exact et) hTm (by rw [hr]; exact hw)
    have e2 : b2 = w' := congrArg Prod.snd (Option.some.inj (p1.symm.trans q2))
    subst e2
    exact ⟨_, M', b2, q1, q2, q3, ⟨nv, nc, ns + 1, bk', q4.toM ht q5 q6⟩, rfl, V2, p2, p3, q5.trans et.symm⟩)
  have hx : FX12_shout n w (nI c) (nI v) (nI lo) (nI od) = some (.ok (x, sW w6 1 M')) := by
    unfold FX12_shout
    rw [cFS (by omega) hm hc hv h3 h4, if_pos hw, bo1_s]
    show (bo1 (FX5_remember n w 1) fun w6 => _) = _
    rw [e6, bo1_s, e61, ec, bo2_s, bnd_s]
  refine ⟨_, wF, V', by rw [← hx']; exact hx, ?_, hA, hG, v1, v2, v3, hns⟩
  show (bo2 (FL_shout n w (nI c) (nI v) (nI lo) (nI od)) fun k w1 => bo2 (FX13_shout n w1 (nI c) (nI v) (nI lo) (nI od)) fun q w2 => chk k q w2) = some wF
  unfold FL_shout FX13_shout
  have hmA : RelM (w 1) (row (ow (sW w6 1 M') x)) nv nc ns bk := by rw [e15]; exact hm
  rw [lw_o hx, bo2_s, rIsC hmA.c0, hc', bo1_s, if_pos rfl, rIsV hmA.v0, hv', bo1_s, if_pos rfl, rShout_3 h3 h4 (rRefuses (by omega) hmA hc hv (nI od)), e15, if_pos hw]
  unfold FX13_shout_B76
  rw [gt_ttt, bnd2_s, if_pos rfl, er, bo2_s]
  exact ek
end SELL3
