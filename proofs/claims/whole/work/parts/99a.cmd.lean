set_option maxHeartbeats 400000
/-! one command is read, side by side -/
def CF5 (w w' : Wd) : Prop := ∀ r, r ≠ 10 → r ≠ 12 → w' r = w r
theorem CF5.trans {w w1 w2 : Wd} (h : CF5 w w1) (h2 : CF5 w1 w2) : CF5 w w2 := fun r a c => (h2 r a c).trans (h r a c)
theorem CF.c5 {w w' : Wd} (h : CF w w') : CF5 w w' := fun r a _ => h r a
def RF3 (v v' : Wd) : Prop := (∀ r, r ≠ 15 → v' r = v r) ∧ (∀ j, j ≠ 0 → j < 7 ∨ 11 < j → (v' 15).1 j = (v 15).1 j) ∧ ∀ k, k < 4 ∨ 9 < k → k ≠ 28 → k ≠ 29 → k ≠ 30 → (v' 15).1 0 k = (v 15).1 0 k
theorem RF3.trans {v v1 v2 : Wd} (h : RF3 v v1) (h2 : RF3 v1 v2) : RF3 v v2 := ⟨fun r a => (h2.1 r a).trans (h.1 r a), fun j a c => (h2.2.1 j a c).trans (h.2.1 j a c), fun k a c d e => (h2.2.2 k a c d e).trans (h.2.2 k a c d e)⟩
theorem RF.r3 {v v' : Wd} (h : RF v v') : RF3 v v' := ⟨h.1, fun j a _ => h.2.1 j a, fun k a _ _ _ => h.2.2 k a⟩
theorem VFm.r3 {m : Nat} {v v' : Wd} (h : VFm m v v') : RF3 v v' := ⟨h.1, fun j a c => h.2.1 j a (by omega), fun k a _ _ _ => h.2.2.2 k a⟩
theorem RF3.nt (v : Wd) {k : Nat} (x : Int32) (hk : k = 28 ∨ k = 29 ∨ k = 30) : RF3 v (nt v k x) := ⟨fun r a => nt_o _ _ _ a, fun j a _ => nt_j _ _ _ a, fun q _ a c d => by rw [nt_k, if_neg (by omega)]⟩
theorem RF3.yt (v : Wd) {j : Nat} (k : Nat) (x : Int32) (h7 : 7 ≤ j) (h11 : j ≤ 11) : RF3 v (yt v j k x) := ⟨fun r a => yt_o _ _ _ _ a, fun i a c => yt_j _ _ _ _ (by omega), fun q _ _ _ _ => by rw [yt_j _ _ _ _ (by omega)]⟩
theorem RF3.row {v v' : Wd} (h : RF3 v v') : row v' = row v := h.2.1 2 (by decide) (Or.inl (by decide))
theorem vl_s : lN (pk5 (vl 10)) = 102173868 ∧ lN (pk5 (vl 11)) = 609752116 := by decide +kernel
theorem here_ok {v : Wd} {k : Nat} (hk : k < 12) (hW : ∀ m, 1 ≤ m → m < 12 → FX13_isWord v (lN (pk5 (vl m))) = decide (k = m)) : FX13_commandHere v = if 4 ≤ k then nI (k - 4) else -1 := by
  obtain ⟨-, n2, n3, n4, n5, n6, n7, n8, n9⟩ := vl_n
  obtain ⟨n10, n11⟩ := vl_s
  have i4 : FX13_isWord v 20201140 = decide (k = 4) := by rw [← n4]; exact hW 4 (by decide) (by decide)
  have i5 : FX13_isWord v 6631 = decide (k = 5) := by rw [← n5]; exact hW 5 (by decide) (by decide)
  have i6 : FX13_isWord v 17376357 = decide (k = 6) := by rw [← n6]; exact hW 6 (by decide) (by decide)
  have i7 : FX13_isWord v 759180 = decide (k = 7) := by rw [← n7]; exact hW 7 (by decide) (by decide)
  have i8 : FX13_isWord v 525939 = decide (k = 8) := by rw [← n8]; exact hW 8 (by decide) (by decide)
  have i9 : FX13_isWord v 197989 = decide (k = 9) := by rw [← n9]; exact hW 9 (by decide) (by decide)
  have i10 : FX13_isWord v 102173868 = decide (k = 10) := by rw [← n10]; exact hW 10 (by decide) (by decide)
  have i11 : FX13_isWord v 609752116 = decide (k = 11) := by rw [← n11]; exact hW 11 (by decide) (by decide)
  unfold FX13_commandHere
  rw [i4, i5, i6, i7, i8, i9, i10, i11]
  rcases (by omega : k = 0 ∨ k = 1 ∨ k = 2 ∨ k = 3 ∨ k = 4 ∨ k = 5 ∨ k = 6 ∨ k = 7 ∨ k = 8 ∨ k = 9 ∨ k = 10 ∨ k = 11) with z | z | z | z | z | z | z | z | z | z | z | z <;> subst z <;> rfl
-- after a fault nothing more happens
theorem c62_x {n k : Nat} {b : Nat → Nat} {f l : Nat} {w v : Wd} (t : TX b f l w v) (y : Bool) : FX7_readCommand_B62 n w 1 k y = some w := by
  unfold FX7_readCommand_B62
  rw [fail_x t, bo1_s, skip_x t, bnd_s, (good_x t).2, bnd_s, if_pos rfl]
theorem c43_x {n k : Nat} {b : Nat → Nat} {f l : Nat} {w v : Wd} (t : TX b f l w v) (y : Bool) : FX7_readCommand_B43 n w 1 k y = some w := by
  unfold FX7_readCommand_B43
  rw [fail_x t, bo1_s, c62_x t, c62_x t, ite_self]
theorem r48_x {n : Nat} {b : Nat → Nat} {f l : Nat} {w v : Wd} (t : TX b f l w v) (q : Int32) : FX13_command_B48 n v q = some v := by
  unfold FX13_command_B48
  rw [(good_x t).1, bnd_s, if_neg (by decide)]
theorem r34_x {n : Nat} {b : Nat → Nat} {f l : Nat} {w v : Wd} (t : TX b f l w v) (q : Int32) : FX13_command_B34 n v q = some v := by
  unfold FX13_command_B34
  rw [wrong_x t, bnd_s, r48_x t, ite_self]
theorem r15_x {n : Nat} {b : Nat → Nat} {f l : Nat} {w v : Wd} (t : TX b f l w v) (q : Int32) : FX13_command_B15 n v q = some v := by
  unfold FX13_command_B15
  rw [wrong_x t, bnd_s, r34_x t, ite_self, ite_self]
theorem must_x {n : Nat} {b : Nat → Nat} {f l : Nat} {w v : Wd} (t : TX b f l w v) (q : Int32) : FX13_mustSign n v q = some v := by
  unfold FX13_mustSign
  rw [(good_x t).1, bnd_s, if_neg (by decide), bnd_s, if_neg (by decide)]
/-- the body of the reference's loop -/
def RB2 (n k : Nat) (v : Wd) : Option (Int32 × Wd) :=
  bo1 (FX13_command n v) fun w34 =>
  if (w34 15).1 0 30 = (v 15).1 0 30 then
    bo1 (FX13_mustSign n w34 59) fun w40 =>
    bo1 (FX13_closes n w40) fun w43 =>
    FX13_runScript_L19 n k w43
  else
    bo1 (FX13_closes n w34) fun w37 =>
    FX13_runScript_L19 n k w37
def SGE (w v : Wd) (nv nc : Nat) : Prop := ∃ c a kp m h d p r X s, SG w v nv nc c a kp m h d p r X s
def CO (n : Nat) (b : Nat → Nat) (f l nv nc i : Nat) (w v : Wd) : Prop := ∃ w' v' s', FX7_readCommand n w 1 = some w' ∧ (∀ k, RB2 n k v = bo1 (FX13_closes n v') fun x => FX13_runScript_L19 n k x) ∧ CF5 w w' ∧ RF3 v v' ∧ St b f l w' v' s' ∧ ∀ j, s' = some j → i < j ∧ SGE w' v' nv nc
theorem RB2_x {n : Nat} {b : Nat → Nat} {f l : Nat} {w v v' : Wd} (t : TX b f l w v') (hc : FX13_command n v = some v') (h30 : (v' 15).1 0 30 = (v 15).1 0 30) (k : Nat) : RB2 n k v = bo1 (FX13_closes n v') fun x => FX13_runScript_L19 n k x := by
  unfold RB2
  rw [hc, bo1_s, if_pos h30, must_x t, bo1_s]
theorem FLD.keep {q J m nv nc : Nat} {w v w' v' : Wd} (h : FLD q J m nv nc w v) (ew : (w' 12).1 J = (w 12).1 J) (ev : ∀ j, 8 ≤ j → j ≤ 11 → (v' 15).1 j = (v 15).1 j) : FLD q J m nv nc w' v' := by
  unfold FLD
  rw [ew, ev 8 (by decide) (by decide), ev 9 (by decide) (by decide), ev 10 (by decide) (by decide), ev 11 (by decide) (by decide)]
  exact h
/-- a plain command -/
theorem cmd_good {n : Nat} (hn : 1000 ≤ n) {b : Nat → Nat} {f l i : Nat} {w v : Wd} {nv nc ns : Nat} {bk : Nat → Nat} (t : TG b f l w v i) (hm : RelM (w 1) (row v) nv nc ns bk) {c a kp : Nat → Nat} {m h d : Nat} {p r : Nat → Nat} {X : Nat → List Nat} {s : Nat → Nat} (H : SG w v nv nc c a kp m h d p r X s) {k : Nat} (hv : FX9_verb n w = some k) (k4 : 4 ≤ k) (k10 : k ≤ 10) (hz : tK b f (P b f i) = 1) (hh : FX13_commandHere v = nI (k - 4)) (h30 : h < 30) : CO n b f l nv nc i w v := by
  obtain ⟨q, rfl⟩ : ∃ q, k = q + 4 := ⟨k - 4, by omega⟩
  rw [Nat.add_sub_cancel] at hh
  have H0 := H
  obtain ⟨⟨h1, h2, h3⟩, ⟨s4, s6, s28, s29, s30⟩, hP, -, hx, -, -, -⟩ := H
  have m60 : m < 60 := by omega
  -- the reference counts the word ahead of going on
  have t29 : TG b f l w (nt v 29 (nI (h + 1))) i := St.nt (s := some i) t _ (by decide)
  obtain ⟨il, g2, V1, g3, g4, g5⟩ := skip_pair hn t29 (by rw [hz]; decide)
  have w15 : ∀ r, r ≠ 10 → FX9_skip w r = w r := g2
  generalize hsk : FX9_skip w = W15 at g2 g5 w15
  have e15 : (W15 12).1 0 4 = nI h := by rw [w15 12 (by decide)]; exact s4
  generalize hW : et (et W15 0 4 (nI (h + 1))) (5 + h) 0 (nI (q + 4)) = W23
  have W23o : ∀ r, r ≠ 10 → r ≠ 12 → W23 r = w r := fun r a1 a2 => by rw [← hW, et_o _ _ _ _ a2, et_o _ _ _ _ a2, w15 r a1]
  have W23j : ∀ j, j ≠ 0 → j ≠ 5 + h → (W23 12).1 j = (w 12).1 j := fun j a1 a2 => by rw [← hW, et_j _ _ _ _ a2, et_j _ _ _ _ a1, w15 12 (by decide)]
  have W23k : ∀ k, (W23 12).1 0 k = if k = 4 then nI (h + 1) else (w 12).1 0 k := fun k => by rw [← hW, et_j _ _ _ _ (by omega), et_at, w15 12 (by decide)]
  have W23c : (W23 12).1 (5 + h) 0 = nI (q + 4) := by rw [← hW, et_at, if_pos rfl]
  have tV : St b f l W23 (yt V1 7 m (nI q)) (some (i + 1)) := (St.cl (s := some (i + 1)) g5 (by rw [← hW, et_o _ _ _ _ (by decide), et_o _ _ _ _ (by decide)])).y m _ (by decide)
  have rV : row (yt V1 7 m (nI q)) = row v := by
    unfold row
    rw [yt_j _ _ _ _ (by decide), g4.2.1 2 (by decide), nt_j _ _ _ (by decide)]
  have hm2 : RelM (W23 1) (row (yt V1 7 m (nI q))) nv nc ns bk := by
    rw [W23o 1 (by decide) (by decide), rV]
    exact hm
  obtain ⟨Wa, V2, s1, e1, e2, e3, e4, e5, e6⟩ := rest_pair hn (J := 5 + h) (m := m) tV hm2 (by omega) W23c m60
  -- the reference's counts behind it
  have hV3 : ∃ V3, (bnd (FX13_isGood V2) fun x19 => if x19 = true then bnd (sW V2 15 (sI (V2 15) 0 28 (((V2 15).1 0 28) + 1))) fun w21 => if nI q = 7 then bnd (FX13_truth true) fun x29 => bnd (sW w21 15 (sI (w21 15) 0 30 (((w21 15).1 0 30) + x29))) fun w31 => some w31 else bnd (FX13_truth false) fun x24 => bnd (sW w21 15 (sI (w21 15) 0 30 (((w21 15).1 0 30) + x24))) fun w26 => some w26 else some V2) = some V3 ∧ RF3 V2 V3 ∧ St b f l Wa V3 s1 ∧ (V3 15).1 0 30 = nI d ∧ (V3 15).1 0 29 = nI (h + 1) ∧ (∀ j, s1 = some j → (V3 15).1 0 28 = nI (m + 1)) ∧ ∀ j, j ≠ 0 → (V3 15).1 j = (V2 15).1 j := by
    have z30 : (V2 15).1 0 30 = nI d := by rw [e4.2.2.2 30 (Or.inr (by decide)), yt_j _ _ _ _ (by decide), g4.2.2 30 (Or.inr (by decide)), nt_k, if_neg (by decide), s30]
    have z29 : (V2 15).1 0 29 = nI (h + 1) := by rw [e4.2.2.2 29 (Or.inr (by decide)), yt_j _ _ _ _ (by decide), g4.2.2 29 (Or.inr (by decide)), nt_k, if_pos rfl]
    have z28 : (V2 15).1 0 28 = nI m := by rw [e4.2.2.2 28 (Or.inr (by decide)), yt_j _ _ _ _ (by decide), g4.2.2 28 (Or.inr (by decide)), nt_k, if_neg (by decide), s28]
    cases s1 with
    | none =>
      have t5 : TX b f l Wa V2 := e5
      refine ⟨V2, ?_, (RF.refl V2).r3, e5, z30, z29, fun j hj => (by cases hj), fun _ _ => rfl⟩
      rw [(good_x t5).1, bnd_s, if_neg (by decide)]
    | some j =>
      have t5 : TG b f l Wa V2 j := e5
      refine ⟨nt (nt V2 28 (nI (m + 1))) 30 (nI d), ?_, (RF3.nt _ _ (Or.inl rfl)).trans (RF3.nt _ _ (Or.inr (Or.inr rfl))), (e5.nt _ (by decide)).nt _ (by decide), by rw [nt_k, if_pos rfl], by rw [nt_k, if_neg (by decide), nt_k, if_neg (by decide), z29], fun _ _ => by rw [nt_k, if_neg (by decide), nt_k, if_pos rfl], fun j hj => by rw [nt_j _ _ _ hj, nt_j _ _ _ hj]⟩
      rw [(good_g t5).1, bnd_s, if_pos rfl, z28, nI_1, show sW V2 15 (sI (V2 15) 0 28 (nI (m + 1))) = nt V2 28 (nI (m + 1)) from rfl, bnd_s, if_neg (show ¬ nI q = (7 : Int32) from nI_ne (b := 7) (by omega) (by omega) (by decide)), show FX13_truth false = (0 : Int32) from rfl, bnd_s, nt_k, if_neg (by decide), z30, Int32.add_zero, bnd_s]
      rfl
  obtain ⟨V3, f1, f2, f3, f4, f5, f6, f7⟩ := hV3
  obtain ⟨Wb, V4, s2, p1, p2, p3, p4, p5, p6⟩ := sign_pair hn f3 (c := 59) (by decide)
  have p1' : FX9_takeSign Wa 59 = some Wb := p1
  have p2' : FX13_mustSign n V3 59 = some V4 := p2
  -- the plan
  have hPb : PL Wb (fset kp m h) (cpre X (d + 1)) := by
    have h0 : PL Wb kp (cpre X (d + 1)) := hP.of (by rw [p3 12 (by decide), e3.2.1 0 (by omega), W23k, if_neg (by decide)]) (by rw [p3 12 (by decide), e3.2.1 2 (by omega), W23j 2 (by decide) (by omega)])
    refine h0.kap (fun x hx' => fset_o _ _ _ ?_)
    obtain ⟨j, j1, j2⟩ := cpre_mem hx'
    have := ((hx j (by omega)).2.2.2.2 x j2).1
    omega
  obtain ⟨Wc, y1, y2, y3⟩ := app_ok hPb m
  rw [fset_s] at y1
  have hS : enS (q + 4) = true := by
    rcases (by omega : q = 0 ∨ q = 1 ∨ q = 2 ∨ q = 3 ∨ q = 4 ∨ q = 5 ∨ q = 6) with z | z | z | z | z | z | z <;> subst z <;> rfl
  have hcl : FX7_readCommand n w 1 = some Wc := by
    unfold FX7_readCommand
    rw [hv, bo1_s, gd_t (decide_eq_true (by omega)), if_pos hS]
    unfold FX7_readCommand_B18
    rw [fail_f, bo1_s, if_neg (show ¬ q + 4 = 11 by omega)]
    unfold FX7_readCommand_B42 FX7_readCommand_B43
    rw [fail_f, bo1_s, s4, if_pos (show nI h < (30 : Int32) from n30_lt h30)]
    unfold FX7_readCommand_B62
    rw [fail_f, bo1_s, hsk, bnd_s, (good_g g5).2, bnd_s, if_neg (by decide), e15, nI_1, show sW W15 12 (sI (W15 12) 0 4 (nI (h + 1))) = et W15 0 4 (nI (h + 1)) from rfl, bnd_s, if_neg (show ¬ q + 4 = 11 by omega), gd_t (inI h30 (by decide)), nI_c (a := h) (by omega), show sW (et W15 0 4 (nI (h + 1))) 12 (sI (et W15 0 4 (nI (h + 1)) 12) (5 + h) 0 (nI (q + 4))) = W23 from hW, bnd_s, gd_t (inI h30 (by decide)), e1, p1', bo1_s, bo1_s, y1, bo1_s]
  have e28 : (V1 15).1 0 28 = nI m := by rw [g4.2.2 28 (Or.inr (by decide)), nt_k, if_neg (by decide), s28]
  have hrl : FX13_command n v = some V3 := by
    unfold FX13_command
    rw [hh, bnd_s, if_neg (nI_m1 (by omega))]
    unfold FX13_command_B15
    rw [if_neg (show ¬ nI q = (7 : Int32) from nI_ne (b := 7) (by omega) (by omega) (by decide))]
    unfold FX13_command_B34
    rw [s29, if_neg (show ¬ nI h = (30 : Int32) from nI_ne (b := 30) (by omega) (by omega) (by decide))]
    unfold FX13_command_B48
    rw [(good_g t).1, bnd_s, if_pos rfl, s29, nI_1, show sW v 15 (sI (v 15) 0 29 (nI (h + 1))) = nt v 29 (nI (h + 1)) from rfl, bnd_s, g3, bo1_s, e28, gd_t (inI m60 (by decide)), nI_c (a := m) (by omega), show sW V1 15 (sI (V1 15) 7 m (nI q)) = yt V1 7 m (nI q) from rfl, bnd_s, e2, bo1_s]
    exact f1
  refine ⟨Wc, V4, s2, hcl, fun kk => ?_, ?_, ?_, p5.cl (y2.1 10 (by decide)), fun j hj => ?_⟩
  · unfold RB2
    rw [hrl, bo1_s, if_pos (by rw [f4, s30]), p2', bo1_s]
  · intro r a1 a2
    rw [y2.1 r a2, p3 r a1, e3.1 r a1 a2, W23o r a1 a2]
  · exact ((((RF3.nt v _ (Or.inr (Or.inl rfl))).trans g4.r3).trans (RF3.yt _ _ _ (by decide) (by decide))).trans e4.r3).trans (f2.trans p4.r3)
  · obtain ⟨i', x1, x2, x3⟩ := p6 j hj
    obtain ⟨⟨i0, x4, x5⟩, x6⟩ := e6 i' x1
    have : i + 1 = i0 := Option.some.inj x4
    refine ⟨by omega, _, _, _, _, _, _, _, _, _, _, H0.push (q := q) (by omega) h30 (w' := Wc) (v' := V4) ?_ ?_ (fun j hj => ?_) y3 ?_ ?_ ?_ (fun j k a1 a2 a3 => ?_) ?_⟩
    · rw [y2.2.2 4 (by decide), p3 12 (by decide), e3.2.1 0 (by omega), W23k, if_pos rfl]
    · rw [y2.2.2 6 (by decide), p3 12 (by decide), e3.2.1 0 (by omega), W23k, if_neg (by decide), s6]
    · rw [y2.2.1 j (by omega) (by omega), p3 12 (by decide), e3.2.1 j (by omega), W23j j (by omega) (by omega)]
    · rw [p4.2.2 28 (Or.inr (by decide)), f6 i' x1]
    · rw [p4.2.2 29 (Or.inr (by decide)), f5]
    · rw [p4.2.2 30 (Or.inr (by decide)), f4]
    · rw [p4.2.1 j (by omega), f7 j (by omega)]
      by_cases z : j = 7
      · rw [z, e4.2.1 7 (by decide) (Or.inl (by decide)), yt_at, if_neg a3, g4.2.1 7 (by decide), nt_j _ _ _ (by decide)]
      · rw [e4.2.2.1 j k (by omega) a2 a3, yt_j _ _ _ _ z, g4.2.1 j (by omega), nt_j _ _ _ (by omega)]
    · unfold CmdR
      rw [fset_s, fset_s]
      refine ⟨by omega, h30, ?_, ?_, x6.keep (w' := Wc) (v' := V4) ?_ (fun j a1 a2 => ?_)⟩
      · rw [p4.2.1 7 (by decide), f7 7 (by decide), e4.2.1 7 (by decide) (Or.inl (by decide)), yt_at, if_pos rfl]
      · rw [y2.2.1 (5 + h) (by omega) (by omega), p3 12 (by decide), e3.2.2, W23c]
      · rw [y2.2.1 (5 + h) (by omega) (by omega), p3 12 (by decide)]
      · rw [p4.2.1 j (by omega), f7 j (by omega)]
