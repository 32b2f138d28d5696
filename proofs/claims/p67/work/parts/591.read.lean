set_option maxHeartbeats 400000
/-! a whole text, side by side -/
def CF4 (w w' : Wd) : Prop := ∀ r, r ≠ 2 → r ≠ 10 → r ≠ 11 → w' r = w r
theorem CF4.trans {w w1 w2 : Wd} (h : CF4 w w1) (h2 : CF4 w1 w2) : CF4 w w2 := fun r a c d => (h2 r a c d).trans (h r a c d)
theorem CF3.c4 {w w' : Wd} (h : CF3 w w') : CF4 w w' := fun r _ a c => h r a c
/-- the end of the reference's reading -/
def RE (n : Nat) (v : Wd) : Option (Int32 × Wd) :=
  bnd2 (FX13_endsText v) fun x20 w21 =>
  if x20 = true then
    bnd (sW w21 15 (sI (w21 15) 0 18 0)) fun w23 =>
    gd (inb 2 390) <|
    some ((w23 15).1 2 2, w23)
  else
    bo1 (FX13_goesBack n w21) fun w27 =>
    some (0, w27)
def Fin2 (b : Nat → Nat) (f l : Nat) (ok : Bool) (w1 v1 : Wd) : Prop := (ok = true ∧ (∃ i, TG b f l w1 v1 i) ∧ RM (w1 2) (row v1)) ∨ (ok = false ∧ TXw b f l w1 v1)
theorem B87_g {n : Nat} {w : Wd} (h : FX9_hasFailed w = false) : FX3_read_B87 n w = some (true, w) := by
  unfold FX3_read_B87
  rw [h, bnd_s, if_neg (by decide)]
theorem B87_x {n : Nat} {w : Wd} (h : FX9_hasFailed w = true) : FX3_read_B87 n w = some (false, w) := by
  unfold FX3_read_B87
  rw [h, bnd_s, if_pos rfl]
theorem read_x {n : Nat} {b : Nat → Nat} {f l : Nat} {w v : Wd} (h : TXw b f l w v) (c : Int32) (k : Nat) : FX3_read_L40 n (k + 1) w 2 c = some (false, w) ∧ FX13_readText_L25 n (k + 1) v = RE n v := by
  obtain ⟨g1, g2⟩ := good_x h
  obtain ⟨i, e, hi, -, -, h5, h7, h8, -⟩ := h.at
  refine ⟨?_, ?_⟩
  · simp only [FX3_read_L40]
    have hm : FX9_hasMore w = some false := by
      unfold FX9_hasMore
      rw [if_neg h7]
    rw [B87_x g2, hm, bo1_s, if_neg Bool.false_ne_true, ite_self]
  · simp only [FX13_readText_L25]
    rw [g1, bnd_s, if_neg (by decide)]
    rfl
theorem read_loop {n : Nat} (hn : 1000 ≤ n) {b : Nat → Nat} {f l : Nat} : ∀ (d i c kc kr : Nat) (w v : Wd), l ≤ i + d → c ≤ i → d + 1 < kc → d + 1 < kr → TG b f l w v i → RM (w 2) (row v) → ∃ ok w1 v1, FX3_read_L40 n kc w 2 (nI c) = some (ok, w1) ∧ FX13_readText_L25 n kr v = RE n v1 ∧ CF4 w w1 ∧ RF2 v v1 ∧ Fin2 b f l ok w1 v1 := by
  intro d
  induction d with
  | zero =>
    intro i c kc kr w v hd hc hkc hkr h hM
    obtain ⟨kc, rfl⟩ : ∃ k', kc = k' + 1 := ⟨kc - 1, by omega⟩
    obtain ⟨kr, rfl⟩ : ∃ k', kr = k' + 1 := ⟨kr - 1, by omega⟩
    have hi : i ≤ l := h.2.2.1
    have ei : i = l := by omega
    have hPl : P b f l = f := h.2.1.2.2.1
    have z : tK b f (P b f i) = 0 := by rw [ei, hPl]; exact tK_0.mpr (Nat.le_refl _)
    obtain ⟨k1, k2, k3⟩ := cKind h
    have r6 : (v 15).1 0 6 = nI (tK b f (P b f i)) := h.2.2.2.2.2.2.1.2.2.2.1
    refine ⟨true, w, v, ?_, ?_, fun _ _ _ _ => rfl, (RF.refl v).r2, Or.inl ⟨rfl, ⟨i, h⟩, hM⟩⟩
    · have hm : FX9_hasMore w = some false := by
        unfold FX9_hasMore
        rw [if_pos h.2.2.2.2.1, k2, gd_t (inI (by omega) (by omega)), nI_c (by omega), k3, z, if_pos (show nI 0 = (0 : Int32) from rfl)]
      simp only [FX3_read_L40]
      rw [B87_g (good_g h).2, hm, bo1_s, if_neg Bool.false_ne_true, ite_self]
    · simp only [FX13_readText_L25]
      rw [(good_g h).1, bnd_s, if_pos rfl, r6, z, if_pos (show nI 0 = (0 : Int32) from rfl)]
      rfl
  | succ d ih =>
    intro i c kc kr w v hd hc hkc hkr h hM
    obtain ⟨kc, rfl⟩ : ∃ k', kc = k' + 2 := ⟨kc - 2, by omega⟩
    obtain ⟨kr, rfl⟩ : ∃ k', kr = k' + 2 := ⟨kr - 2, by omega⟩
    have hi : i ≤ l := h.2.2.1
    have hl : l ≤ 600 := h.2.1.1
    have hk := tK_le (b := b) (f := f) (p := P b f i)
    obtain ⟨k1, k2, k3⟩ := cKind h
    have r6 : (v 15).1 0 6 = nI (tK b f (P b f i)) := h.2.2.2.2.2.2.1.2.2.2.1
    by_cases z : tK b f (P b f i) = 0
    · refine ⟨true, w, v, ?_, ?_, fun _ _ _ _ => rfl, (RF.refl v).r2, Or.inl ⟨rfl, ⟨i, h⟩, hM⟩⟩
      · have hm : FX9_hasMore w = some false := by
          unfold FX9_hasMore
          rw [if_pos h.2.2.2.2.1, k2, gd_t (inI (by omega) (by omega)), nI_c (by omega), k3, z, if_pos (show nI 0 = (0 : Int32) from rfl)]
        simp only [FX3_read_L40]
        rw [B87_g (good_g h).2, hm, bo1_s, if_neg Bool.false_ne_true, ite_self]
      · simp only [FX13_readText_L25]
        rw [(good_g h).1, bnd_s, if_pos rfl, r6, z, if_pos (show nI 0 = (0 : Int32) from rfl)]
        rfl
    · have hPl : P b f l = f := h.2.1.2.2.1
      have hil : i < l := by
        by_cases y : i = l
        · exfalso
          apply z
          rw [y, hPl]
          exact tK_0.mpr (Nat.le_refl _)
        · omega
      have hz : ¬ nI (tK b f (P b f i)) = (0 : Int32) := nI_ne (b := 0) z (by omega) (by decide)
      have hm : FX9_hasMore w = some true := by
        unfold FX9_hasMore
        rw [if_pos h.2.2.2.2.1, k2, gd_t (inI (by omega) (by omega)), nI_c (by omega), k3, if_neg hz]
      obtain ⟨w1, v1, e1, e2, w2, v2, s2, g1, g2, g3, g4, g5, g6⟩ := stat_pair hn h hM
      have hcl : FX3_read_L40 n (kc + 2) w 2 (nI c) = bnd (FX9_hasFailed w2) fun x35 => if x35 = true then FX3_read_L40 n (kc + 1) w2 2 (nI (c + 1)) else bo1 (FX1_applyTo n w2 11 1 2) fun w38 => FX3_read_L40 n (kc + 1) w38 2 (nI (c + 1)) := by
        rw [show kc + 2 = (kc + 1) + 1 from rfl]
        simp only [FX3_read_L40]
        rw [if_neg (show ¬ (600 : Int32) ≤ nI c from nI_ge (b := 600) (by omega) (by decide)), hm, bo1_s, if_pos rfl, e1, bo1_s, g1, bo1_s, nI_1]
      have hrl : FX13_readText_L25 n (kr + 2) v = FX13_readText_L25 n (kr + 1) v2 := by
        rw [show kr + 2 = (kr + 1) + 1 from rfl]
        simp only [FX13_readText_L25]
        rw [(good_g h).1, bnd_s, if_pos rfl, r6, if_neg hz, e2, bo1_s, g2, bo1_s]
      cases s2 with
      | none =>
        have t5 : TXw b f l w2 v2 := g5
        obtain ⟨q1, q2⟩ := read_x (n := n) t5 (nI (c + 1)) kc
        obtain ⟨-, q3⟩ := read_x (n := n) t5 (nI (c + 1)) kr
        refine ⟨false, w2, v2, ?_, ?_, g3.c4, g4, Or.inr ⟨rfl, t5⟩⟩
        · rw [hcl, (good_x t5).2, bnd_s, if_pos rfl, q1]
        · rw [hrl, q3]
      | some j =>
        have t5 : TG b f l w2 v2 j := g5
        obtain ⟨⟨i', ie, ij⟩, M', m1, m2⟩ := g6 j rfl
        have ei : i' = i := (Option.some.inj ie).symm
        subst ei
        have t6 : TG b f l (sW w2 2 M') v2 j := St.cl (s := some j) t5 (sW_o _ _ (by decide))
        obtain ⟨ok, w3, v3, q1, q2, q3, q4, q5⟩ := ih j (c + 1) (kc + 1) (kr + 1) (sW w2 2 M') v2 (by omega) (by omega) (by omega) (by omega) t6 (by rw [sW_s]; exact m1)
        refine ⟨ok, w3, v3, ?_, ?_, (g3.c4.trans (fun r a _ _ => sW_o _ _ a)).trans q3, g4.trans q4, q5⟩
        · rw [hcl, (good_g t5).2, bnd_s, if_neg (by decide), m2, bo1_s, q1]
        · rw [hrl, q2]
theorem tail_ok {n : Nat} (hn : 1000 ≤ n) {b : Nat → Nat} {f l : Nat} {w v : Wd} (h : TG b f l w v 0) (hM : RM (w 2) (row v)) : ∃ ok w1 v1, (bo1 (FX9_verb n w) fun x10 => gd (decide (x10 < 12)) <| if x10 = 1 then FX3_read_B24 n w 2 false else FX3_read_B24 n w 2 true) = some (ok, w1) ∧ (bo1 (FX13_mustWord n v 437857460) fun w11 => bo1 (FX13_mustSign n w11 59) fun w14 => FX13_readText_L25 n n w14) = RE n v1 ∧ CF4 w w1 ∧ RF2 v v1 ∧ Fin2 b f l ok w1 v1 := by
  obtain ⟨k, hk, hv, hz, hW⟩ := verb_pair (n := n) (by omega) h
  have i1 : FX13_isWord v 437857460 = decide (k = 1) := by rw [← vl_n.1]; exact hW 1 (by decide) (by decide)
  have hl : l ≤ 600 := h.2.1.1
  have hst : ∃ wA vA s, (∀ x, (bo1 (FX9_verb n w) fun x10 => gd (decide (x10 < 12)) <| if x10 = 1 then FX3_read_B24 n w 2 false else FX3_read_B24 n w 2 true) = x ↔ (bo1 (FX9_takeSign wA 59) fun w20 => FX3_read_L40 n n w20 2 0) = x) ∧ FX13_mustWord n v 437857460 = some vA ∧ CF w wA ∧ RF v vA ∧ St b f l wA vA s := by
    by_cases z : k = 1
    · obtain ⟨k1, k2, v', k3, k4, k5⟩ := skip_pair hn h (by rw [hz (by omega)]; decide)
      refine ⟨FX9_skip w, v', some 1, fun x => ?_, ?_, k2, k4, k5⟩
      · rw [hv, bo1_s, gd_t (decide_eq_true hk), if_pos z]
        unfold FX3_read_B24
        rw [fail_f, bo1_s, bnd_s]
      · unfold FX13_mustWord
        rw [(good_g h).1, bnd_s, if_pos rfl, i1, decide_eq_true z, bnd_s, if_pos rfl, bnd_s, if_pos rfl, k3, bo1_s]
    · obtain ⟨w', c1, c2, c3, c4⟩ := fail_pair h (e := 1) (by decide) (by decide) (fun _ => rfl)
      have c1' : FX9_failIf w true 1 = some w' := c1
      refine ⟨w', FX13_wrong v (nI 1), none, fun x => ?_, ?_, c2, c3, c4⟩
      · rw [hv, bo1_s, gd_t (decide_eq_true hk), if_neg z]
        unfold FX3_read_B24
        rw [c1', bo1_s, skip_x c4, bnd_s]
      · unfold FX13_mustWord
        rw [(good_g h).1, bnd_s, if_pos rfl, i1, decide_eq_false z, bnd_s, if_neg (by decide), show FX13_wrong v 1 = FX13_wrong v (nI 1) from rfl, bnd_s, (good_x c4).1, bnd_s, if_neg (by decide)]
  obtain ⟨wA, vA, s, a1, a2, a3, a4, a5⟩ := hst
  obtain ⟨wB, vB, s2, b1, b2, b3, b4, b5, b6⟩ := sign_pair hn a5 (c := 59) (by decide)
  have b1' : FX9_takeSign wA 59 = some wB := b1
  have b2' : FX13_mustSign n vA 59 = some vB := b2
  have hMB : RM (wB 2) (row vB) := by rw [b3 2 (by decide), a3 2 (by decide), b4.row, a4.row]; exact hM
  cases s2 with
  | none =>
    have t5 : TXw b f l wB vB := b5
    obtain ⟨k, rfl⟩ : ∃ k', n = k' + 1 := ⟨n - 1, by omega⟩
    obtain ⟨q1, q2⟩ := read_x (n := k + 1) t5 0 k
    refine ⟨false, wB, vB, (a1 _).mpr ?_, ?_, (a3.c3.trans b3.c3).c4, a4.r2.trans b4.r2, Or.inr ⟨rfl, t5⟩⟩
    · rw [b1', bo1_s, q1]
    · rw [a2, bo1_s, b2', bo1_s, q2]
  | some j =>
    have t5 : TG b f l wB vB j := b5
    obtain ⟨ok, w3, v3, q1, q2, q3, q4, q5⟩ := read_loop hn (l - j) j 0 n n wB vB (by omega) (by omega) (by omega) (by omega) t5 hMB
    refine ⟨ok, w3, v3, (a1 _).mpr ?_, ?_, (a3.c3.trans b3.c3).c4.trans q3, (a4.r2.trans b4.r2).trans q4, q5⟩
    · rw [b1', bo1_s]
      exact q1
    · rw [a2, bo1_s, b2', bo1_s, q2]
theorem begins_ok {n : Nat} (hn : 1000 ≤ n) (w : Wd) : ∃ w', FX13_begins n w = some w' ∧ Fr w w' ∧ ∀ k, k < 390 → row w' k = 0 := by
  obtain ⟨w', ⟨h1, h2⟩, e⟩ := loopQ (L := fun k a i => FX13_begins_L2 n k a i) (g := fun a => some a) (ns := 390) (fun i a => Fr w a ∧ ∀ k, k < i → row a k = 0) (fun k a _ => by
    simp only [FX13_begins_L2]
    rw [if_pos (show (390 : Int32) ≤ nI 390 by decide)]) (fun k a i hi hP => by
    refine ⟨rs a i 0, ⟨hP.1.to_rs i 0, fun q hq => ?_⟩, ?_⟩
    · rw [rs_row]
      by_cases z : q = i
      · rw [if_pos z]
      · rw [if_neg z]
        exact hP.2 q (by omega)
    · simp only [FX13_begins_L2]
      rw [if_neg (show ¬ (390 : Int32) ≤ nI i from nI_ge (b := 390) hi (by decide)), gd_t (inI (by omega) (by omega)), nI_c (by omega), bnd_s, nI_1]
      rfl) (k := n) (by omega) w ⟨Fr.refl w, fun k hk => absurd hk (Nat.not_lt_zero k)⟩
  exact ⟨w', e, h1, h2⟩
theorem clear_ok (M : MM) {r : Nat → Int32} (er : ∀ k, k < 390 → r k = 0) : RelM (FX6_clear M) r 0 0 0 (fun _ => 0) := by
  have z0 : (0 : Int32) = nI 0 := nI_0.symm
  exact RelM.mk (Nat.zero_le _) (Nat.zero_le _) (Nat.zero_le _) ((er 0 (by decide)).trans z0) ((er 1 (by decide)).trans z0) ((er 2 (by decide)).trans z0) z0 z0 z0 (er 3 (by decide)).symm (er 6 (by decide)).symm (er 4 (by decide)).symm (er 5 (by decide)).symm rfl rfl rfl (er 7 (by decide)).symm ⟨0, Nat.zero_le _, (er 3 (by decide)).trans z0⟩ ⟨0, Nat.zero_le _, (er 6 (by decide)).trans z0⟩ (fun v hv => absurd hv (Nat.not_lt_zero v)) (fun v hv => absurd hv (Nat.not_lt_zero v)) (fun v hv => absurd hv (Nat.not_lt_zero v))
theorem beginsText_ok {n : Nat} (hn : 1000 ≤ n) {v : Wd} {b : Nat → Nat} {f : Nat} (hf : f ≤ 600) (h2 : (v 15).1 0 2 = nI f) (hb : ∀ j, j < f → b j < 256 ∧ (v 15).1 1 j = nI (b j)) : ∃ v', FX13_beginsText n v = some v' ∧ (∀ r, r ≠ 15 → v' r = v r) ∧ (∀ j, j ≠ 0 → (v' 15).1 j = (v 15).1 j) ∧ (∀ k, k < 2 ∨ 9 < k → (v' 15).1 0 k = (v 15).1 0 k) ∧ (v' 15).1 0 2 = 0 ∧ RB v' b f (P b f 0) ∧ (v' 15).1 0 8 = 0 ∧ (v' 15).1 0 9 = -1 := by
  generalize hV : nt (nt (nt (nt (nt v 3 ((v 15).1 0 2)) 2 0) 4 0) 8 0) 9 (-1) = V
  have kk : ∀ k, (V 15).1 0 k = if k = 9 then -1 else if k = 8 then 0 else if k = 4 then 0 else if k = 2 then 0 else if k = 3 then nI f else (v 15).1 0 k := fun k => by rw [← hV, nt_k, nt_k, nt_k, nt_k, nt_k, h2]
  have jj : ∀ j, j ≠ 0 → (V 15).1 j = (v 15).1 j := fun j hj => by rw [← hV, nt_j _ _ _ hj, nt_j _ _ _ hj, nt_j _ _ _ hj, nt_j _ _ _ hj, nt_j _ _ _ hj]
  have oo : ∀ r, r ≠ 15 → V r = v r := fun r hr => by rw [← hV, nt_o _ _ _ hr, nt_o _ _ _ hr, nt_o _ _ _ hr, nt_o _ _ _ hr, nt_o _ _ _ hr]
  have T : TB5 V b f := ⟨hf, by rw [kk, if_neg (by decide), if_neg (by decide), if_neg (by decide), if_neg (by decide), if_pos rfl], fun j hj => by rw [jj 1 (by decide)]; exact hb j hj⟩
  obtain ⟨v', c1, c2, c3⟩ := rGo hn f 0 n V (by omega) (by omega) T (by rw [kk, if_neg (by decide), if_neg (by decide), if_pos rfl]; rfl)
  refine ⟨v', ?_, fun r hr => (c2.1 r hr).trans (oo r hr), fun j hj => (c2.2.1 j hj).trans (jj j hj), fun k hk => ?_, ?_, c3, ?_, ?_⟩
  · unfold FX13_beginsText
    show (bo1 (FX13_goOnRead n (nt (nt (nt (nt (nt v 3 ((v 15).1 0 2)) 2 0) 4 0) 8 0) 9 (-1))) fun w12 => some w12) = some v'
    rw [hV]
    unfold FX13_goOnRead
    rw [c1, bo1_s]
  · rw [c2.2.2 k (by omega) (by omega) (by omega) (by omega), kk, if_neg (by omega), if_neg (by omega), if_neg (by omega), if_neg (by omega), if_neg (by omega)]
  · rw [c2.2.2 2 (by decide) (by decide) (by decide) (by decide), kk, if_neg (by decide), if_neg (by decide), if_neg (by decide), if_pos rfl]
  · rw [c2.2.2 8 (by decide) (by decide) (by decide) (by decide), kk, if_neg (by decide), if_pos rfl]
  · rw [c2.2.2 9 (by decide) (by decide) (by decide) (by decide), kk, if_pos rfl]
