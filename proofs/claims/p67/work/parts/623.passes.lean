set_option maxHeartbeats 400000
/-! some seconds: the foretold ends stay, the echoes are counted -/
theorem passes_F {n : Nat} (hn : 1000 ≤ n) {nv nc ns s : Nat} (hs : s ≤ 240) : ∀ (d j k t : Nat) (M : MM) (w : Wd) (bk : Nat → Nat) (q : Nat), j + d = s → d < k → RelN M (row w) nv nc ns bk → row w 3 = nI t → TmOk (row w) ns t → t + d ≤ 10300 → q + 30 * d < 2 ^ 31 → ∃ q' w', FX13_passes_L4 n k w (nI s) (nI q) (nI j) = some (nI q', w') ∧ FT (row w) (row w') ns ∧ q' ≤ q + 30 * d := by
  intro d
  induction d with
  | zero =>
    intro j k t M w bk q h1 h2 hm et hT ht hq
    obtain ⟨k, rfl⟩ : ∃ k', k = k' + 1 := ⟨k - 1, by omega⟩
    have hj : j = s := by omega
    subst hj
    refine ⟨q, w, ?_, FT.refl hm, by omega⟩
    simp only [FX13_passes_L4]
    rw [if_pos (Int32.le_refl _)]
  | succ d ih =>
    intro j k t M w bk q h1 h2 hm et hT ht hq
    obtain ⟨k, rfl⟩ : ∃ k', k = k' + 1 := ⟨k - 1, by omega⟩
    have hbs := hm.bs
    obtain ⟨x, M1, M2, w1, bk', e1, e2, e3, e4, e5, e6, e7, e8, q1, hq1, rfl⟩ := second_F (n := n) (by omega) hm et (by omega) hT
    obtain ⟨q', w2, f1, f2, f3⟩ := ih (j + 1) k (t + 1) M2 w1 bk' (q + q1) (by omega) (by omega) e5 e6 e7 (by omega) (by omega)
    refine ⟨q', w2, ?_, e8.trans f2, by omega⟩
    simp only [FX13_passes_L4]
    rw [if_neg (nI_ge (by omega) (by omega)), e3, bo2_s, nI_1, nI_add]
    exact f1
/-- pass, with all that is known of the row behind it -/
theorem st_pass2 {n nv nc ns : Nat} {w : Wd} {bk : Nat → Nat} (hn : 2500 ≤ n) (h : Good w) (hm : RelM (w 1) (row w) nv nc ns bk) {t s : Nat} (et : row w 3 = nI t) (s1 : 1 ≤ s) (s2 : s ≤ 240) (hl : t + s ≤ 9999) : ∃ q w' w9, FX12_pass n w (nI s) = some (.ok (nI q, w')) ∧ q ≤ 7200 ∧ FLc_58 n w (nI s) 0 0 0 0 = some w9 ∧ AG w9 w' ∧ GT w w9 ∧ FT (row w) (row w9) ns ∧ row w9 3 = nI (t + s) ∧ TmOk (row w9) ns (t + s) ∧ ∃ M bk', RelN M (row w9) nv nc ns bk' := by
  have hd : FX12_isWithin (nI s) 1 240 = true := wi_iff.mpr ⟨nI_nlt (a := s) (b := 1) s1 (by omega), nI_nlt (a := 240) (b := s) s2 (by omega)⟩
  have hnl : ¬ (9999 : Int32) < nI t + nI s := by
    rw [nI_add]
    show ¬ nI 9999 < nI (t + s)
    rw [nI_ltI (by omega) (by omega)]
    omega
  obtain ⟨w6, x, M', wF, e6, e61, ec, e15, er, ek, hG, hA, ⟨q, hq, rfl⟩, v2, v3, v4⟩ := und_2 (Pq := fun x M' r' => (∃ q, q ≤ 7200 ∧ x = nI q) ∧ FT (row w) r' ns ∧ r' 3 = nI (t + s) ∧ TmOk r' ns (t + s) ∧ ∃ M bk', RelN M r' nv nc ns bk') hn h (fun M => FX6_letPass n M (nI s)) (fun w => FX13_passes n w (nI s)) (fun w9 hr => by
    have hN : RelN (w 1) (row w9) nv nc ns bk := by rw [hr]; exact hm.toN
    have hTm : TmOk (row w9) ns t := by rw [hr]; exact hm.tmOk (by omega) et
    obtain ⟨x, M', w', bk', q1, q2, q3, q4, q5, q6, -⟩ := pass_pair (n := n) (by omega) hN (by rw [hr]; exact et) hTm s2 (by omega)
    obtain ⟨q', b2, p1, p2, p3⟩ := passes_F (n := n) (by omega) s2 s 0 n t (w 1) w9 bk 0 (by omega) (by omega) hN (by rw [hr]; exact et) hTm (by omega) (by omega)
    have hj := Option.some.inj (p1.symm.trans q2)
    have e1 : nI q' = x := congrArg Prod.fst hj
    have e2 : b2 = w' := congrArg Prod.snd hj
    subst e1; subst e2
    exact ⟨_, M', b2, q1, q2, q3, ⟨nv, nc, ns, bk', q4.toM hl q5 q6⟩, ⟨q', by omega, rfl⟩, by rw [← hr]; exact p2, q5, q6, M', bk', q4⟩)
  have hx : FX12_pass n w (nI s) = some (.ok (nI q, sW w6 1 M')) := by
    unfold FX12_pass FX6_faultOfPassing
    rw [hd, bnd_s, bnd_s, if_pos rfl, hm.time, et, if_neg hnl]
    show (bo1 (FX5_remember n w 1) fun w6 => _) = _
    rw [e6, bo1_s, e61, ec, bo2_s, bnd_s]
  refine ⟨q, _, wF, hx, hq, ?_, hA, hG, v2, v3, v4⟩
  show (bo2 (FL_pass n w (nI s)) fun k w1 => bo2 (FX13_pass n w1 (nI s)) fun q w2 => chk k q w2) = some wF
  unfold FL_pass FX13_pass
  have em : FX13_mayPass (ow (sW w6 1 M') (nI q)) (nI s) = some true := by
    unfold FX13_mayPass
    rw [gd3, show (ow (sW w6 1 M') (nI q) 15).1 2 3 = nI t from (congrFun e15 3).trans et, if_neg hnl]
  rw [rPat, hd, lw_o hx, bo2_s, bnd_s, bnd_s, if_pos rfl, em, bo1_s, if_pos rfl, gb_tt, bnd2_s, if_pos rfl, er, bo2_s]
  exact ek
