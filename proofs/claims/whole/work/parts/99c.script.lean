set_option maxHeartbeats 400000
/-! a script is read, side by side -/
theorem close_pair {n : Nat} (hn : 1000 ≤ n) {b : Nat → Nat} {f l i : Nat} {w v : Wd} {nv nc : Nat} (t : TG b f l w v i) {c a kp : Nat → Nat} {m h e : Nat} {p r : Nat → Nat} {X : Nat → List Nat} {s : Nat → Nat} (H : SG w v nv nc c a kp m h (e + 1) p r X s) (hz : tK b f (P b f i) = 3 ∧ b (P b f i) = 41) : ∃ w' v' s', FX7_endRepeat n w = some w' ∧ (∀ k, FX13_closes_L0 n (k + 1) v = FX13_closes_L0 n k v') ∧ CF5 w w' ∧ RF3 v v' ∧ St b f l w' v' s' ∧ ∀ j, s' = some j → i < j ∧ SGE w' v' nv nc := by
  have H0 := H
  obtain ⟨⟨h1, h2, h3⟩, ⟨s4, s6, s28, s29, s30⟩, hP, hR, -, -, -, -⟩ := H
  have m60 : m < 60 := by omega
  obtain ⟨r1, r2, r3, r4, -, -⟩ := hR e (by omega)
  generalize hV0 : nt (yt (nt v 30 (nI e)) 7 m (nI 8)) 28 (nI (m + 1)) = V0
  have k0 : ∀ k, (V0 15).1 0 k = if k = 28 then nI (m + 1) else if k = 30 then nI e else (v 15).1 0 k := fun k => by rw [← hV0, nt_k, yt_j _ _ _ _ (by decide), nt_k]
  have j7 : ∀ k, (V0 15).1 7 k = if k = m then nI 8 else (v 15).1 7 k := fun k => by rw [← hV0, nt_j _ _ _ (by decide), yt_at, nt_j _ _ _ (by decide)]
  have jj : ∀ j, j ≠ 0 → j ≠ 7 → (V0 15).1 j = (v 15).1 j := fun j a1 a2 => by rw [← hV0, nt_j _ _ _ a1, yt_j _ _ _ _ a2, nt_j _ _ _ a1]
  have t0 : TG b f l w V0 i := by
    rw [← hV0]
    exact St.nt (s := some i) (St.y (s := some i) (St.nt (s := some i) t _ (by decide)) _ _ (by decide)) _ (by decide)
  have hf0 : RF3 v V0 := by
    rw [← hV0]
    exact ((RF3.nt _ _ (Or.inr (Or.inr rfl))).trans (RF3.yt _ _ _ (by decide) (by decide))).trans (RF3.nt _ _ (Or.inl rfl))
  obtain ⟨il, g2, V1, g3, g4, g5⟩ := skip_pair hn t0 (by rw [hz.1]; decide)
  obtain ⟨W2, V2, s2, p1, p2, p3, p4, p5, p6⟩ := sign_pair hn (s := some (i + 1)) g5 (c := 59) (by decide)
  have p1' : FX9_takeSign (FX9_skip w) 59 = some W2 := p1
  have p2' : FX13_mustSign n V1 59 = some V2 := p2
  have e12 : W2 12 = w 12 := by rw [p3 12 (by decide), g2 12 (by decide)]
  have e6 : (W2 12).1 0 6 - 1 = nI e := by
    rw [e12, s6]
    exact nI_pred e
  generalize hW3 : et W2 0 6 (nI e) = W3
  have q0 : ∀ k, (W3 12).1 0 k = if k = 6 then nI e else (w 12).1 0 k := fun k => by rw [← hW3, et_at, e12]
  have qj : ∀ j, j ≠ 0 → (W3 12).1 j = (w 12).1 j := fun j hj => by rw [← hW3, et_j _ _ _ _ hj, e12]
  have qo : ∀ r, r ≠ 10 → r ≠ 12 → W3 r = w r := fun r a1 a2 => by rw [← hW3, et_o _ _ _ _ a2, p3 r a1, g2 r a1]
  have hP3 : PL W3 kp (cpre X (e + 1) ++ X (e + 1)) := hP.of (by rw [q0, if_neg (by decide)]) (by rw [qj 2 (by decide)])
  obtain ⟨W4, y1, y2, y3⟩ := end_plan (n := n) (by omega) (B := cpre X (e + 1)) (X := X (e + 1)) (j := e) (r := r e) (by omega) r3 r4 (w := W3) (by rw [q0, if_pos rfl]) (by rw [qj 4 (by decide), r2]) (by rw [qj 3 (by decide), r1]) hP3
  refine ⟨W4, V2, s2, ?_, fun k => ?_, ?_, (hf0.trans g4.r3).trans p4.r3, p5.cl (by rw [y2.1 10 (by decide), ← hW3, et_o _ _ _ _ (by decide)]), fun j hj => ?_⟩
  · unfold FX7_endRepeat
    rw [bnd_s, p1', bo1_s, e6, show sW W2 12 (sI (W2 12) 0 6 (nI e)) = W3 from hW3, bnd_s, y1]
  · have hsg : FX13_isSign v 41 = true := by
      have e := rSign t (c := 41) (by decide)
      rw [decide_eq_true hz] at e
      exact e
    have e28 : (nt v 30 (nI e) 15).1 0 28 = nI m := by rw [nt_k, if_neg (by decide), s28]
    have e28b : (yt (nt v 30 (nI e)) 7 m (nI 8) 15).1 0 28 = nI m := by rw [yt_j _ _ _ _ (by decide)]; exact e28
    simp only [FX13_closes_L0]
    rw [s30, if_neg (show ¬ nI (e + 1) ≤ (0 : Int32) from nI_nle (by omega) (by omega)), hsg, bnd_s, if_pos rfl, nI_pred, show sW v 15 (sI (v 15) 0 30 (nI e)) = nt v 30 (nI e) from rfl, bnd_s, e28, gd_t (inI m60 (by decide)), nI_c (a := m) (by omega), show sW (nt v 30 (nI e)) 15 (sI (nt v 30 (nI e) 15) 7 m 8) = yt (nt v 30 (nI e)) 7 m (nI 8) from rfl, bnd_s, e28b, nI_1, show sW (yt (nt v 30 (nI e)) 7 m (nI 8)) 15 (sI (yt (nt v 30 (nI e)) 7 m (nI 8) 15) 0 28 (nI (m + 1))) = V0 from hV0, bnd_s, g3, bo1_s, p2', bo1_s]
  · intro r a1 a2
    rw [y2.1 r a2, qo r a1 a2]
  · obtain ⟨i', x1, x2, x3⟩ := p6 j hj
    have : i + 1 = i' := Option.some.inj x1
    refine ⟨by omega, _, _, _, _, _, _, _, _, _, _, H0.close (w' := W4) (v' := V2) ?_ ?_ (fun j hj => ?_) y3 ?_ ?_ ?_ (fun j k a1 a2 a3 => ?_) ?_⟩
    · rw [y2.2.2 4 (by decide), q0, if_neg (by decide), s4]
    · rw [y2.2.2 6 (by decide), q0, if_pos rfl]
    · rw [y2.2.1 j (by omega) (by omega), qj j (by omega)]
    · rw [p4.2.2 28 (Or.inr (by decide)), g4.2.2 28 (Or.inr (by decide)), k0, if_pos rfl]
    · rw [p4.2.2 29 (Or.inr (by decide)), g4.2.2 29 (Or.inr (by decide)), k0, if_neg (by decide), if_neg (by decide), s29]
    · rw [p4.2.2 30 (Or.inr (by decide)), g4.2.2 30 (Or.inr (by decide)), k0, if_neg (by decide), if_pos rfl]
    · rw [p4.2.1 j (by omega), g4.2.1 j (by omega)]
      by_cases z : j = 7
      · rw [z, j7, if_neg a3]
      · rw [jj j (by omega) z]
    · rw [p4.2.1 7 (by decide), g4.2.1 7 (by decide), j7, if_pos rfl]
/-- the end of the reading -/
def SG0 (w v : Wd) (nv nc : Nat) : Prop := ∃ c a kp m h p r X s, SG w v nv nc c a kp m h 0 p r X s
def Fin3 (b : Nat → Nat) (f l nv nc : Nat) (ok : Bool) (w1 v1 : Wd) : Prop := (ok = true ∧ (∃ i, TG b f l w1 v1 i) ∧ SG0 w1 v1 nv nc) ∨ (ok = false ∧ TX b f l w1 v1)
theorem b84_x {n : Nat} {b : Nat → Nat} {f l : Nat} {w v : Wd} (t : TX b f l w v) (y : Bool) : FX7_read_B84 n w y = some (false, w) := by
  unfold FX7_read_B84
  rw [fail_x t, bo1_s, (good_x t).2, bnd_s, if_pos rfl]
theorem script_x {n : Nat} {b : Nat → Nat} {f l : Nat} {w v : Wd} (t : TX b f l w v) (c : Int32) (k : Nat) : FX7_read_L21 n (k + 1) w 1 c = some (false, w) ∧ (∀ k2 kr, (bo1 (FX13_closes_L0 n (k2 + 1) v) fun x => FX13_runScript_L19 n (kr + 1) x) = FX13_runScript_B82 n v) := by
  obtain ⟨i, e, hi, -, -, h5, h7, h8, -⟩ := t.at
  refine ⟨?_, fun k2 kr => ?_⟩
  · have hm : FX9_hasMore w = some false := by
      unfold FX9_hasMore
      rw [if_neg h7]
    have h71 : FX7_read_B71 n w = some (false, w) := by
      unfold FX7_read_B71
      rw [b84_x t, b84_x t, ite_self]
    simp only [FX7_read_L21]
    rw [h71, hm, bo1_s, if_neg Bool.false_ne_true, ite_self]
  · have hsg : FX13_isSign v 41 = false := by
      unfold FX13_isSign
      rw [if_neg h8]
    have hc : FX13_closes_L0 n (k2 + 1) v = some v := by
      simp only [FX13_closes_L0]
      rw [hsg, bnd_s, if_neg Bool.false_ne_true, ite_self]
    rw [hc, bo1_s]
    simp only [FX13_runScript_L19]
    rw [(good_x t).1, bnd_s, if_neg (by decide)]
    unfold FX13_runScript_B63
    rw [(good_x t).1, bnd_s, if_neg (by decide)]
theorem script_end {n : Nat} {b : Nat → Nat} {f l i : Nat} {w v : Wd} {nv nc : Nat} (t : TG b f l w v i) (hz : tK b f (P b f i) = 0) (H : SGE w v nv nc) : ∃ ok w1 v1, FX7_read_B71 n w = some (ok, w1) ∧ FX13_runScript_B63 n v = FX13_runScript_B82 n v1 ∧ CF5 w w1 ∧ RF3 v v1 ∧ Fin3 b f l nv nc ok w1 v1 := by
  obtain ⟨c, a, kp, m, h, d, p, r, X, s, H⟩ := H
  have H0 := H
  obtain ⟨⟨h1, h2, h3⟩, ⟨s4, s6, s28, s29, s30⟩, -, -, -, -, -, -⟩ := H
  by_cases z : d = 0
  · subst z
    refine ⟨true, w, v, ?_, ?_, fun _ _ _ => rfl, (RF.refl v).r3, Or.inl ⟨rfl, ⟨i, t⟩, _, _, _, _, _, _, _, _, _, H0⟩⟩
    · unfold FX7_read_B71
      rw [s6, if_pos (show nI 0 ≤ (0 : Int32) by decide)]
      unfold FX7_read_B84
      rw [fail_f, bo1_s, (good_g t).2, bnd_s, if_neg (by decide)]
    · unfold FX13_runScript_B63
      rw [(good_g t).1, bnd_s, if_pos rfl, s30, if_pos (show nI 0 ≤ (0 : Int32) by decide)]
  · obtain ⟨w', c1, c2, c3, c4⟩ := fail_pair t (e := 1) (by decide) (by decide) (fun _ => rfl)
    have c1' : FX9_failIf w true 1 = some w' := c1
    refine ⟨false, w', FX13_wrong v (nI 1), ?_, ?_, c2.c5, c3.r3, Or.inr ⟨rfl, c4⟩⟩
    · unfold FX7_read_B71
      rw [s6, if_neg (show ¬ nI d ≤ (0 : Int32) from nI_nle (by omega) (by omega))]
      unfold FX7_read_B84
      rw [c1', bo1_s, (good_x c4).2, bnd_s, if_pos rfl]
    · unfold FX13_runScript_B63
      rw [(good_g t).1, bnd_s, if_pos rfl, s30, if_neg (show ¬ nI d ≤ (0 : Int32) from nI_nle (by omega) (by omega)), show FX13_wrong v 1 = FX13_wrong v (nI 1) from rfl, bnd_s]
theorem script_loop {n : Nat} (hn : 1000 ≤ n) {b : Nat → Nat} {f l nv nc ns : Nat} {bk : Nat → Nat} : ∀ (d i c kc k2 kr : Nat) (w v : Wd), l ≤ i + d → c ≤ i → d + 1 < kc → d + 1 < k2 → d + 1 < kr → d + 1 < n → TG b f l w v i → RelM (w 1) (row v) nv nc ns bk → SGE w v nv nc → ∃ ok w1 v1, FX7_read_L21 n kc w 1 (nI c) = some (ok, w1) ∧ (bo1 (FX13_closes_L0 n k2 v) fun x => FX13_runScript_L19 n kr x) = FX13_runScript_B82 n v1 ∧ CF5 w w1 ∧ RF3 v v1 ∧ Fin3 b f l nv nc ok w1 v1 := by
  intro d
  induction d with
  | zero =>
    intro i c kc k2 kr w v hd hc hkc hk2 hkr hkn t hM H
    obtain ⟨kc, rfl⟩ : ∃ k', kc = k' + 1 := ⟨kc - 1, by omega⟩
    obtain ⟨k2, rfl⟩ : ∃ k', k2 = k' + 1 := ⟨k2 - 1, by omega⟩
    obtain ⟨kr, rfl⟩ : ∃ k', kr = k' + 1 := ⟨kr - 1, by omega⟩
    have hi : i ≤ l := t.2.2.1
    have hPl : P b f l = f := t.2.1.2.2.1
    have z : tK b f (P b f i) = 0 := by rw [show i = l by omega, hPl]; exact tK_0.mpr (Nat.le_refl _)
    obtain ⟨q1, q2, q3⟩ := cKind t
    have r6 : (v 15).1 0 6 = nI (tK b f (P b f i)) := t.2.2.2.2.2.2.1.2.2.2.1
    obtain ⟨ok, w1, v1, e1, e2, e3, e4, e5⟩ := script_end (n := n) t z H
    refine ⟨ok, w1, v1, ?_, ?_, e3, e4, e5⟩
    · have hm : FX9_hasMore w = some false := by
        unfold FX9_hasMore
        rw [if_pos t.2.2.2.2.1, q2, gd_t (inI (by omega) (by omega)), nI_c (by omega), q3, z, if_pos (show nI 0 = (0 : Int32) from rfl)]
      simp only [FX7_read_L21]
      rw [e1, hm, bo1_s, if_neg Bool.false_ne_true, ite_self]
    · have hsg : FX13_isSign v 41 = false := by
        have e := rSign t (c := 41) (by decide)
        rw [decide_eq_false (fun y => absurd (z.symm.trans y.1) (by decide))] at e
        exact e
      have hcl : FX13_closes_L0 n (k2 + 1) v = some v := by
        simp only [FX13_closes_L0]
        rw [hsg, bnd_s, if_neg Bool.false_ne_true, ite_self]
      rw [hcl, bo1_s]
      simp only [FX13_runScript_L19]
      rw [(good_g t).1, bnd_s, if_pos rfl, r6, z, if_pos (show nI 0 = (0 : Int32) from rfl), e2]
  | succ d ih =>
    intro i c kc k2 kr w v hd hc hkc hk2 hkr hkn t hM H
    obtain ⟨kc, rfl⟩ : ∃ k', kc = k' + 2 := ⟨kc - 2, by omega⟩
    obtain ⟨k2, rfl⟩ : ∃ k', k2 = k' + 2 := ⟨k2 - 2, by omega⟩
    obtain ⟨kr, rfl⟩ : ∃ k', kr = k' + 2 := ⟨kr - 2, by omega⟩
    have hi : i ≤ l := t.2.2.1
    have hl : l ≤ 600 := t.2.1.1
    have hPl : P b f l = f := t.2.1.2.2.1
    have hk := tK_le (b := b) (f := f) (p := P b f i)
    obtain ⟨q1, q2, q3⟩ := cKind t
    have r6 : (v 15).1 0 6 = nI (tK b f (P b f i)) := t.2.2.2.2.2.2.1.2.2.2.1
    by_cases z : tK b f (P b f i) = 0
    · obtain ⟨ok, w1, v1, e1, e2, e3, e4, e5⟩ := script_end (n := n) t z H
      refine ⟨ok, w1, v1, ?_, ?_, e3, e4, e5⟩
      · have hm : FX9_hasMore w = some false := by
          unfold FX9_hasMore
          rw [if_pos t.2.2.2.2.1, q2, gd_t (inI (by omega) (by omega)), nI_c (by omega), q3, z, if_pos (show nI 0 = (0 : Int32) from rfl)]
        simp only [FX7_read_L21]
        rw [e1, hm, bo1_s, if_neg Bool.false_ne_true, ite_self]
      · have hsg : FX13_isSign v 41 = false := by
          have e := rSign t (c := 41) (by decide)
          rw [decide_eq_false (fun y => absurd (z.symm.trans y.1) (by decide))] at e
          exact e
        have hcl : FX13_closes_L0 n (k2 + 2) v = some v := by
          rw [show k2 + 2 = (k2 + 1) + 1 from rfl]
          simp only [FX13_closes_L0]
          rw [hsg, bnd_s, if_neg Bool.false_ne_true, ite_self]
        rw [hcl, bo1_s, show kr + 2 = (kr + 1) + 1 from rfl]
        simp only [FX13_runScript_L19]
        rw [(good_g t).1, bnd_s, if_pos rfl, r6, z, if_pos (show nI 0 = (0 : Int32) from rfl), e2]
    · have hil : i < l := by
        by_cases y : i = l
        · exfalso
          apply z
          rw [y, hPl]
          exact tK_0.mpr (Nat.le_refl _)
        · omega
      have hz0 : ¬ nI (tK b f (P b f i)) = (0 : Int32) := nI_ne (b := 0) z (by omega) (by decide)
      have hmore : FX9_hasMore w = some true := by
        unfold FX9_hasMore
        rw [if_pos t.2.2.2.2.1, q2, gd_t (inI (by omega) (by omega)), nI_c (by omega), q3, if_neg hz0]
      have hc600 : ¬ (600 : Int32) ≤ nI c := nI_ge (b := 600) (by omega) (by decide)
      obtain ⟨gc, ga, gk, m, h, dd, p, r, X, s, G⟩ := H
      have G0 := G
      obtain ⟨⟨h1, h2, h3⟩, ⟨s4, s6, s28, s29, s30⟩, -, -, -, -, -, -⟩ := G
      have csg : FX9_isSign w 41 = some (decide (tK b f (P b f i) = 3 ∧ b (P b f i) = 41)) := cSign t (c := 41) (by decide)
      have rsg : FX13_isSign v 41 = decide (tK b f (P b f i) = 3 ∧ b (P b f i) = 41) := rSign t (c := 41) (by decide)
      -- what is alike in both cases
      have nxt : ∀ (w2 v2 : Wd) (s2 : Option Nat) (k2' kr' : Nat), d + 1 < k2' → d + 1 < kr' → CF5 w w2 → RF3 v v2 → St b f l w2 v2 s2 → (∀ j, s2 = some j → i < j ∧ SGE w2 v2 nv nc) → ∃ ok w1 v1, FX7_read_L21 n (kc + 1) w2 1 (nI (c + 1)) = some (ok, w1) ∧ (bo1 (FX13_closes_L0 n k2' v2) fun x => FX13_runScript_L19 n kr' x) = FX13_runScript_B82 n v1 ∧ CF5 w w1 ∧ RF3 v v1 ∧ Fin3 b f l nv nc ok w1 v1 := fun w2 v2 s2 k2' kr' hk2' hkr' cf rf hst hs => by
        cases s2 with
        | none =>
          have t5 : TX b f l w2 v2 := hst
          obtain ⟨k2', rfl⟩ : ∃ k', k2' = k' + 1 := ⟨k2' - 1, by omega⟩
          obtain ⟨kr', rfl⟩ : ∃ k', kr' = k' + 1 := ⟨kr' - 1, by omega⟩
          obtain ⟨x1, x2⟩ := script_x (n := n) t5 (nI (c + 1)) kc
          exact ⟨false, w2, v2, x1, x2 k2' kr', cf, rf, Or.inr ⟨rfl, t5⟩⟩
        | some j =>
          have t5 : TG b f l w2 v2 j := hst
          obtain ⟨ij, hsg⟩ := hs j rfl
          obtain ⟨ok, w1, v1, x1, x2, x3, x4, x5⟩ := ih j (c + 1) (kc + 1) k2' kr' w2 v2 (by omega) (by omega) (by omega) hk2' hkr' (by omega) t5 (by rw [cf 1 (by decide) (by decide), rf.row]; exact hM) hsg
          exact ⟨ok, w1, v1, x1, x2, cf.trans x3, rf.trans x4, x5⟩
      by_cases zc : 0 < dd ∧ (tK b f (P b f i) = 3 ∧ b (P b f i) = 41)
      · obtain ⟨zd, zs⟩ := zc
        obtain ⟨e, rfl⟩ : ∃ e, dd = e + 1 := ⟨dd - 1, by omega⟩
        obtain ⟨w', v', s', y1, y2, y3, y4, y5, y6⟩ := close_pair hn t G0 zs
        rw [decide_eq_true zs] at csg
        obtain ⟨ok, w1, v1, x1, x2, x3, x4, x5⟩ := nxt w' v' s' (k2 + 1) (kr + 2) (by omega) (by omega) y3 y4 y5 y6
        refine ⟨ok, w1, v1, ?_, ?_, x3, x4, x5⟩
        · rw [show kc + 2 = (kc + 1) + 1 from rfl]
          simp only [FX7_read_L21]
          rw [if_neg hc600, hmore, bo1_s, if_pos rfl, s6, if_neg (show ¬ nI (e + 1) ≤ (0 : Int32) from nI_nle (by omega) (by omega)), csg, bo1_s, if_pos rfl, y1, bo1_s, nI_1]
          exact x1
        · rw [show k2 + 2 = (k2 + 1) + 1 from rfl, y2]
          exact x2
      · obtain ⟨w', v', s', y1, y2, y3, y4, y5, y6⟩ := cmd_pair hn t hM G0
        obtain ⟨ok, w1, v1, x1, x2, x3, x4, x5⟩ := nxt w' v' s' n (kr + 1) (by omega) (by omega) y3 y4 y5 y6
        refine ⟨ok, w1, v1, ?_, ?_, x3, x4, x5⟩
        · rw [show kc + 2 = (kc + 1) + 1 from rfl]
          simp only [FX7_read_L21]
          rw [if_neg hc600, hmore, bo1_s, if_pos rfl, s6, y1, bo1_s, nI_1]
          by_cases zd : dd = 0
          · rw [if_pos (show nI dd ≤ (0 : Int32) by rw [zd]; decide)]
            exact x1
          · rw [if_neg (show ¬ nI dd ≤ (0 : Int32) from nI_nle (by omega) (by omega)), csg, decide_eq_false (fun y => zc ⟨by omega, y⟩), bo1_s, if_neg Bool.false_ne_true]
            exact x1
        · have hcl : FX13_closes_L0 n (k2 + 2) v = some v := by
            rw [show k2 + 2 = (k2 + 1) + 1 from rfl]
            simp only [FX13_closes_L0]
            by_cases zd : dd = 0
            · rw [s30, if_pos (show nI dd ≤ (0 : Int32) by rw [zd]; decide)]
            · rw [rsg, decide_eq_false (fun y => zc ⟨by omega, y⟩), bnd_s, if_neg Bool.false_ne_true, ite_self]
          rw [hcl, bo1_s, show kr + 2 = (kr + 1) + 1 from rfl]
          simp only [FX13_runScript_L19]
          rw [(good_g t).1, bnd_s, if_pos rfl, r6, if_neg hz0]
          have e := y2 (kr + 1)
          unfold FX13_closes at e
          exact (show RB2 n (kr + 1) v = _ from e).trans x2
