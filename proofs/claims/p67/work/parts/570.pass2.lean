set_option maxHeartbeats 400000
/-! pass: the two loops -/
theorem pass_loop {n : Nat} (hn : 1000 ≤ n) {nv nc ns secs e0 : Nat} (hsecs : secs ≤ 240) (he : e0 ≤ 10300) : ∀ (d : Nat) (M : MM) (w : Wd) (t i j kc kr : Nat) (bk : Nat → Nat) (cnt : Int32), RelN M (row w) nv nc ns bk → row w 3 = nI t → TmOk (row w) ns t → t + d = e0 → j + d = secs → i ≤ j → d + 1 < kc → d < kr → ∃ x M' w' bk', FX6_letPass_L12 n kc M (nI secs) (nI e0) cnt (nI i) = some (x, M') ∧ FX13_passes_L4 n kr w (nI secs) cnt (nI j) = some (x, w') ∧ Fr w w' ∧ RelN M' (row w') nv nc ns bk' ∧ row w' 3 = nI e0 ∧ TmOk (row w') ns e0 ∧ ∀ E, e0 ≤ E → Pot (row w') ns E = Pot (row w) ns E := by
  intro d
  induction d using Nat.strongRecOn with
  | ind d ih =>
  intro M w t i j kc kr bk cnt hm et hT hd hj hij hkc hkr
  obtain ⟨kc, rfl⟩ : ∃ k', kc = k' + 1 := ⟨kc - 1, by omega⟩
  -- both loops at the end
  have fin : ∀ (kc kr : Nat) (M : MM) (w : Wd) (i : Nat) (cnt : Int32), 0 < kc → 0 < kr → M.1 0 6 = nI e0 → FX6_letPass_L12 n kc M (nI secs) (nI e0) cnt (nI i) = some (cnt, M) ∧ FX13_passes_L4 n kr w (nI secs) cnt (nI secs) = some (cnt, w) := by
    intro kc kr M w i cnt h1 h2 h6
    obtain ⟨kc, rfl⟩ : ∃ k', kc = k' + 1 := ⟨kc - 1, by omega⟩
    obtain ⟨kr, rfl⟩ : ∃ k', kr = k' + 1 := ⟨kr - 1, by omega⟩
    constructor
    · simp only [FX6_letPass_L12]
      by_cases z : nI secs ≤ nI i
      · rw [if_pos z]
      · rw [if_neg z, h6, if_pos (Int32.le_refl _)]
    · simp only [FX13_passes_L4]
      rw [if_pos (Int32.le_refl _)]
  by_cases hd0 : d = 0
  · subst hd0
    have ej : j = secs := by omega
    have e6 : M.1 0 6 = nI e0 := by rw [hm.time, et, show t = e0 by omega]
    obtain ⟨f1, f2⟩ := fin (kc + 1) kr M w i cnt (by omega) (by omega) e6
    rw [ej]
    exact ⟨cnt, M, w, bk, f1, f2, Fr.refl w, hm, by rw [et, show t = e0 by omega], by rw [← show t = e0 by omega]; exact hT, fun _ _ => rfl⟩
  · have hlt : ¬ nI secs ≤ nI i := le_nI (show i < secs by omega) (by omega)
    have htm : ¬ nI e0 ≤ M.1 0 6 := by
      rw [hm.time, et]
      exact nI_ge (by omega) (by omega)
    have hev := cEventN (n := n) (by omega) hm
    -- nothing is due up to the end
    have none_due : TmOk (row w) ns e0 → (FX6_letPass_L12 n (kc + 1) M (nI secs) (nI e0) cnt (nI i) = FX6_letPass_L12 n kc (sI M 0 6 (nI e0)) (nI secs) (nI e0) cnt (nI (i + 1))) → ∃ x M' w' bk', FX6_letPass_L12 n (kc + 1) M (nI secs) (nI e0) cnt (nI i) = some (x, M') ∧ FX13_passes_L4 n kr w (nI secs) cnt (nI j) = some (x, w') ∧ Fr w w' ∧ RelN M' (row w') nv nc ns bk' ∧ row w' 3 = nI e0 ∧ TmOk (row w') ns e0 ∧ ∀ E, e0 ≤ E → Pot (row w') ns E = Pot (row w) ns E := by
      intro hTe hc
      obtain ⟨w', e1, e2, e3, e4⟩ := idle_run (n := n) (by omega) (show secs ≤ 3000 by omega) d (j := j) cnt hm et (by rw [hd]; exact hTe) (by omega) (by omega)
      rw [hd] at e4
      have hN := hm.clock et (show t ≤ e0 by omega) he e3 e4
      obtain ⟨f1, f2⟩ := fin kc (kr - d) (sI M 0 6 (nI e0)) w' (i + 1) cnt (by omega) (by omega) (by rw [sI_at, if_pos rfl])
      have e5 := e1 (kr - d)
      rw [show kr - d + d = kr by omega, hj, f2] at e5
      exact ⟨cnt, sI M 0 6 (nI e0), w', bk, hc.trans f1, e5, e2, hN, e4, hTe.clock e3, fun E _ => pot_clock e3⟩
    rcases ev_ok hm ns (Nat.le_refl _) with ⟨v1, v2⟩ | ⟨e, v1, v2, v3, j0, v4, v5, v6⟩
    · refine none_due (fun q hq hoq => absurd hoq (v2 q hq)) ?_
      simp only [FX6_letPass_L12]
      rw [if_neg hlt, if_neg htm, hev, v1, bo1_s, if_pos rfl, bnd_s, nI_1]
    · have hne : ¬ nI e = (-1 : Int32) := fun z => nI_pos (n := e) (by omega) (by rw [z]; decide)
      have hte : t < e := by
        obtain ⟨h1, h2⟩ := hT j0 v4 v5
        obtain ⟨z1, z2, z3, z4, -, -⟩ := hm.secs v4
        rw [z1] at h1
        rw [z2] at h2
        have h3 := (nI_ltI (by omega) (by omega)).mp h1
        have h4 := (nI_ltI (by omega) (by omega)).mp h2
        omega
      have before : ∀ q, q < e → TmOk (row w) ns q := fun q hq p hp hop => by
        obtain ⟨z1, z2, z3, z4, -, -⟩ := hm.secs hp
        obtain ⟨x1, x2⟩ := v3 p hp hop
        rw [z1, z2]
        exact ⟨nI_lt (by omega) (by omega), nI_lt (by omega) (by omega)⟩
      by_cases hee : e ≤ e0
      · obtain ⟨q, rfl⟩ : ∃ q, e = t + q + 1 := ⟨e - t - 1, by omega⟩
        obtain ⟨w1, e1, e2, e3, e4⟩ := idle_run (n := n) (by omega) (show secs ≤ 3000 by omega) q (j := j) cnt hm et (before _ (by omega)) (by omega) (by omega)
        have hN := hm.clock et (show t ≤ t + q by omega) (by omega) e3 e4
        obtain ⟨x, M1, M2, w2, bk2, g1, g2, g3, g4, g5, g6, g7, g8⟩ := second_pair (n := n) (by omega) hN e4 (by omega) ((before (t + q) (by omega)).clock e3)
        rw [sI_sI] at g1
        obtain ⟨x', M', w', bk', c1, c2, c3, c4, c5, c6, c7⟩ := ih (d - q - 1) (by omega) M2 w2 (t + q + 1) (i + 1) (j + q + 1) kc (kr - q - 1) bk2 (cnt + x) g5 g6 g7 (by omega) (by omega) (by omega) (by omega) (by omega)
        refine ⟨x', M', w', bk', ?_, ?_, (e2.trans g4).trans c3, c4, c5, c6, fun E hE => ?_⟩
        · simp only [FX6_letPass_L12]
          rw [if_neg hlt, if_neg htm, hev, v1, bo1_s, if_neg hne, if_pos (nI_le hee (by omega)), bnd_s, g1, bo2_s, g2, bo1_s, nI_1]
          exact c1
        · have e5 := e1 (kr - q)
          rw [show kr - q + q = kr by omega] at e5
          rw [e5, show kr - q = (kr - q - 1) + 1 by omega]
          simp only [FX13_passes_L4]
          rw [if_neg (le_nI (show j + q < secs by omega) (by omega)), g3, bo2_s, nI_1]
          exact c2
        · rw [c7 E hE, g8 E (by omega), pot_clock e3]
      · refine none_due (before e0 (by omega)) ?_
        simp only [FX6_letPass_L12]
        rw [if_neg hlt, if_neg htm, hev, v1, bo1_s, if_neg hne, if_neg (nI_ge (by omega) (by omega)), bnd_s, nI_1]
theorem pass_pair {n : Nat} (hn : 1000 ≤ n) {M : MM} {w : Wd} {nv nc ns t s : Nat} {bk : Nat → Nat} (hm : RelN M (row w) nv nc ns bk) (et : row w 3 = nI t) (hT : TmOk (row w) ns t) (hs : s ≤ 240) (ht : t + s ≤ 10300) : ∃ x M' w' bk', FX6_letPass n M (nI s) = some (x, M') ∧ FX13_passes n w (nI s) = some (x, w') ∧ Fr w w' ∧ RelN M' (row w') nv nc ns bk' ∧ row w' 3 = nI (t + s) ∧ TmOk (row w') ns (t + s) ∧ ∀ E, t + s ≤ E → Pot (row w') ns E = Pot (row w) ns E := by
  unfold FX6_letPass FX13_passes
  rw [hm.time, et, nI_add]
  exact pass_loop hn hs ht s M w t 0 0 n n bk 0 hm et hT rfl (by omega) (Nat.le_refl _) (by omega) (by omega)
theorem rPat (p : Int32) : FX13_isPatience p = FX12_isWithin p 1 240 := by
  unfold FX13_isPatience
  rw [bnd_s, show (1 : Int64) = (1 : Int32).toInt64 by decide, show (240 : Int64) = (240 : Int32).toInt64 by decide, isIn_w]
theorem ob_58 {n : Nat} (hn : 2500 ≤ n) {w : Wd} (h : Good w) (a1 a2 a3 a4 a5 : Int32) : ∃ w9, FLc_58 n w a1 a2 a3 a4 a5 = some w9 ∧ Good w9 := by
  obtain ⟨nv, nc, ns, bk, hm⟩ := h.m
  obtain ⟨t, ht, et⟩ := hm.tm
  show ∃ w9, (bo2 (FL_pass n w a1) fun k w1 => bo2 (FX13_pass n w1 a1) fun q w2 => chk k q w2) = some w9 ∧ Good w9
  unfold FL_pass FX13_pass
  rw [rPat]
  cases hd : FX12_isWithin a1 1 240 with
  | false =>
    have hx : FX12_pass n w a1 = some (.error ("java/lang/IllegalArgumentException", w)) := by
      unfold FX12_pass FX6_faultOfPassing
      rw [hd, bnd_s, bnd_s, if_neg (by decide)]
      rfl
    rw [lw_x (k := 1) hx (if_pos rfl), bo2_s, bnd_s, bnd_s, if_neg (by decide), gb_f, bnd2_s, if_neg (by decide), bo2_s]
    exact ⟨_, er_chk h (by decide)⟩
  | true =>
    obtain ⟨s, s1, s2, rfl⟩ := wi_rng (a := 1) (b := 240) (by decide) (by decide) hd
    by_cases hl : t + s ≤ 9999
    · have hnl : ¬ (9999 : Int32) < nI t + nI s := by
        rw [nI_add]
        show ¬ nI 9999 < nI (t + s)
        rw [nI_ltI (by omega) (by omega)]
        omega
      obtain ⟨w6, x, M', wF, e6, e61, ec, e15, er, ek, hG⟩ := und_ok hn h (fun M => FX6_letPass n M (nI s)) (fun w => FX13_passes n w (nI s)) (fun w9 hr => by
        have hN : RelN (w 1) (row w9) nv nc ns bk := by rw [hr]; exact hm.toN
        have hT : TmOk (row w9) ns t := by rw [hr]; exact hm.tmOk ht et
        obtain ⟨x, M', w', bk', q1, q2, q3, q4, q5, q6, -⟩ := pass_pair (n := n) (by omega) hN (by rw [hr]; exact et) hT s2 (by omega)
        exact ⟨x, M', w', q1, q2, q3, nv, nc, ns, bk', q4.toM hl q5 q6⟩)
      have hx : FX12_pass n w (nI s) = some (.ok (x, sW w6 1 M')) := by
        unfold FX12_pass FX6_faultOfPassing
        rw [hd, bnd_s, bnd_s, if_pos rfl, hm.time, et, if_neg hnl]
        show (bo1 (FX5_remember n w 1) fun w6 => _) = _
        rw [e6, bo1_s, e61, ec, bo2_s, bnd_s]
      have em : FX13_mayPass (ow (sW w6 1 M') x) (nI s) = some true := by
        unfold FX13_mayPass
        rw [gd3, show (ow (sW w6 1 M') x 15).1 2 3 = nI t from (congrFun e15 3).trans et, if_neg hnl]
      rw [lw_o hx, bo2_s, bnd_s, bnd_s, if_pos rfl, em, bo1_s, if_pos rfl, gb_tt, bnd2_s, if_pos rfl, er, bo2_s]
      exact ⟨wF, ek, hG⟩
    · have hnl : (9999 : Int32) < nI t + nI s := by
        rw [nI_add]
        show nI 9999 < nI (t + s)
        exact nI_lt (by omega) (by omega)
      have hx : FX12_pass n w (nI s) = some (.error ("java/lang/IllegalStateException", w)) := by
        unfold FX12_pass FX6_faultOfPassing
        rw [hd, bnd_s, bnd_s, if_pos rfl, hm.time, et, if_pos hnl]
        rfl
      have em : FX13_mayPass w (nI s) = some false := by
        unfold FX13_mayPass
        rw [gd3, show (w 15).1 2 3 = nI t from et, if_pos hnl]
      rw [lw_x (k := 2) hx rfl, bo2_s, bnd_s, bnd_s, if_pos rfl, em, bo1_s, if_neg (by decide), gb_tf, bnd2_s, if_neg (by decide), bo2_s]
      exact ⟨_, er_chk h (by decide)⟩
