set_option maxHeartbeats 400000
/-! a repeat is opened, side by side; any command -/
theorem bo2_id {β γ : Type} (x : Option (β × γ)) : (bo2 x fun a b => some (a, b)) = x := by
  cases x with
  | none => rfl
  | some p => rfl
theorem cmd_rep {n : Nat} (hn : 1000 ≤ n) {b : Nat → Nat} {f l i : Nat} {w v : Wd} {nv nc : Nat} (t : TG b f l w v i) {c a kp : Nat → Nat} {m h d : Nat} {p r : Nat → Nat} {X : Nat → List Nat} {s : Nat → Nat} (H : SG w v nv nc c a kp m h d p r X s) (hv : FX9_verb n w = some 11) (hz : tK b f (P b f i) = 1) (hh : FX13_commandHere v = nI 7) (h30 : h < 30) (d2 : d < 2) : CO n b f l nv nc i w v := by
  have H0 := H
  obtain ⟨⟨h1, h2, h3⟩, ⟨s4, s6, s28, s29, s30⟩, hP, -, hx, -, -, -⟩ := H
  have m60 : m < 60 := by omega
  have hin : inb (nI m) 60 = true := inI m60 (by decide)
  have hmc : (nI m).toNatClampNeg = m := nI_c (by omega)
  have t29 : TG b f l w (nt v 29 (nI (h + 1))) i := St.nt (s := some i) t _ (by decide)
  obtain ⟨il, g2, V1, g3, g4, g5⟩ := skip_pair hn t29 (by rw [hz]; decide)
  have w15 : ∀ r, r ≠ 10 → FX9_skip w r = w r := g2
  generalize hsk : FX9_skip w = W15 at g2 g5 w15
  have e15 : (W15 12).1 0 4 = nI h := by rw [w15 12 (by decide)]; exact s4
  have tV : St b f l (et W15 0 4 (nI (h + 1))) (yt V1 7 m (nI 7)) (some (i + 1)) := (St.cl (s := some (i + 1)) g5 (et_o _ _ _ _ (by decide))).y m _ (by decide)
  have tG : TG b f l (et W15 0 4 (nI (h + 1))) (yt V1 7 m (nI 7)) (i + 1) := tV
  obtain ⟨x, y, W3, V2, s1, c1, c2, c3, c4, c5, c6⟩ := num_pair hn tV (lo := 1) (hi := 20) (by decide) (by decide)
  have c1' : FX9_takeNumber (et W15 0 4 (nI (h + 1))) 1 20 = some (x, W3) := c1
  have c2' : FX13_number n (yt V1 7 m (nI 7)) 1 20 = some (y, V2) := by
    have e : FX13_more n (yt V1 7 m (nI 7)) 1 20 = some (y, V2) := c2
    unfold FX13_more at e
    rw [(good_g tG).1, bnd_s, if_pos rfl, bo2_id] at e
    exact e
  have k3 : ∀ j, j ≠ 0 → (W3 12).1 j = (w 12).1 j := fun j hj => by rw [c3 12 (by decide), et_j _ _ _ _ hj, w15 12 (by decide)]
  have k30 : ∀ k, (W3 12).1 0 k = if k = 4 then nI (h + 1) else (w 12).1 0 k := fun k => by rw [c3 12 (by decide), et_at, w15 12 (by decide)]
  have e6a : (et W15 0 4 (nI (h + 1)) 12).1 0 6 = nI d := by rw [et_at, if_neg (by decide), w15 12 (by decide), s6]
  have e6b : (et W3 4 d x 12).1 0 6 = nI d := by rw [et_j _ _ _ _ (by decide), k30, if_neg (by decide), s6]
  have e5b : (et W3 4 d x 12).1 0 5 = nI (min 40 (cpre X (d + 1)).length) := by rw [et_j _ _ _ _ (by decide), k30, if_neg (by decide), hP.1]
  have e6c : (et (et W3 4 d x) 3 d (nI (min 40 (cpre X (d + 1)).length)) 12).1 0 6 = nI d := by rw [et_j _ _ _ _ (by decide)]; exact e6b
  generalize hW : et (et (et W3 4 d x) 3 d (nI (min 40 (cpre X (d + 1)).length))) 0 6 (nI (d + 1)) = W11
  have q0 : ∀ k, (W11 12).1 0 k = if k = 6 then nI (d + 1) else if k = 4 then nI (h + 1) else (w 12).1 0 k := fun k => by rw [← hW, et_at, et_j _ _ _ _ (by decide), et_j _ _ _ _ (by decide), k30]
  have q3 : ∀ k, (W11 12).1 3 k = if k = d then nI (min 40 (cpre X (d + 1)).length) else (w 12).1 3 k := fun k => by rw [← hW, et_j _ _ _ _ (by decide), et_at, et_j _ _ _ _ (by decide), k3 3 (by decide)]
  have q4 : ∀ k, (W11 12).1 4 k = if k = d then x else (w 12).1 4 k := fun k => by rw [← hW, et_j _ _ _ _ (by decide), et_j _ _ _ _ (by decide), et_at, k3 4 (by decide)]
  have qj : ∀ j, j ≠ 0 → j ≠ 3 → j ≠ 4 → (W11 12).1 j = (w 12).1 j := fun j a0 a3 a4 => by rw [← hW, et_j _ _ _ _ a0, et_j _ _ _ _ a3, et_j _ _ _ _ a4, k3 j a0]
  have qo : ∀ r, r ≠ 10 → r ≠ 12 → W11 r = w r := fun r a1 a2 => by rw [← hW, et_o _ _ _ _ a2, et_o _ _ _ _ a2, et_o _ _ _ _ a2, c3 r a1, et_o _ _ _ _ a2, w15 r a1]
  have t11 : St b f l W11 (yt V2 8 m y) s1 := (c5.cl (by rw [← hW, et_o _ _ _ _ (by decide), et_o _ _ _ _ (by decide), et_o _ _ _ _ (by decide)])).y m y (by decide)
  obtain ⟨Wb, V3, s2, p1, p2, p3, p4, p5, p6⟩ := sign_pair hn t11 (c := 40) (by decide)
  have p1' : FX9_takeSign W11 40 = some Wb := p1
  have p2' : FX13_mustSign n (yt V2 8 m y) 40 = some V3 := p2
  have z28 : (V3 15).1 0 28 = nI m := by rw [p4.2.2 28 (Or.inr (by decide)), yt_j _ _ _ _ (by decide), c4.2.2 28 (Or.inr (by decide)), yt_j _ _ _ _ (by decide), g4.2.2 28 (Or.inr (by decide)), nt_k, if_neg (by decide), s28]
  have z29 : (V3 15).1 0 29 = nI (h + 1) := by rw [p4.2.2 29 (Or.inr (by decide)), yt_j _ _ _ _ (by decide), c4.2.2 29 (Or.inr (by decide)), yt_j _ _ _ _ (by decide), g4.2.2 29 (Or.inr (by decide)), nt_k, if_pos rfl]
  have z30 : (V3 15).1 0 30 = nI d := by rw [p4.2.2 30 (Or.inr (by decide)), yt_j _ _ _ _ (by decide), c4.2.2 30 (Or.inr (by decide)), yt_j _ _ _ _ (by decide), g4.2.2 30 (Or.inr (by decide)), nt_k, if_neg (by decide), s30]
  have e28 : (V1 15).1 0 28 = nI m := by rw [g4.2.2 28 (Or.inr (by decide)), nt_k, if_neg (by decide), s28]
  have hcl : FX7_readCommand n w 1 = some Wb := by
    unfold FX7_readCommand
    rw [hv, bo1_s, gd_t (by decide), if_pos (show enS 11 = true from rfl)]
    unfold FX7_readCommand_B18
    rw [fail_f, bo1_s, if_pos rfl, s6, if_pos (show nI d < (2 : Int32) from nI_lt (b := 2) d2 (by decide))]
    unfold FX7_readCommand_B42 FX7_readCommand_B43
    rw [fail_f, bo1_s, s4, if_pos (show nI h < (30 : Int32) from n30_lt h30)]
    unfold FX7_readCommand_B62
    rw [fail_f, bo1_s, hsk, bnd_s, (good_g g5).2, bnd_s, if_neg (by decide), e15, nI_1, show sW W15 12 (sI (W15 12) 0 4 (nI (h + 1))) = et W15 0 4 (nI (h + 1)) from rfl, bnd_s, if_pos rfl]
    unfold FX7_beginRepeat
    rw [c1', bo2_s, e6a, gd_t (inI d2 (by decide)), nI_c (a := d) (by omega), show sW W3 12 (sI (W3 12) 4 d x) = et W3 4 d x from rfl, bnd_s, e6b, gd_t (inI d2 (by decide)), nI_c (a := d) (by omega), e5b, show sW (et W3 4 d x) 12 (sI (et W3 4 d x 12) 3 d (nI (min 40 (cpre X (d + 1)).length))) = et (et W3 4 d x) 3 d (nI (min 40 (cpre X (d + 1)).length)) from rfl, bnd_s, e6c, nI_1, show sW (et (et W3 4 d x) 3 d (nI (min 40 (cpre X (d + 1)).length))) 12 (sI (et (et W3 4 d x) 3 d (nI (min 40 (cpre X (d + 1)).length)) 12) 0 6 (nI (d + 1))) = W11 from hW, bnd_s, p1', bo1_s, bo1_s]
  have hrl : FX13_command n v = bnd (FX13_isGood V3) fun x19 => if x19 = true then some (nt (nt V3 28 (nI (m + 1))) 30 (nI (d + 1))) else some V3 := by
    unfold FX13_command
    rw [hh, bnd_s, if_neg (nI_m1 (by omega))]
    unfold FX13_command_B15
    rw [if_pos (show nI 7 = (7 : Int32) from rfl), s30, if_neg (show ¬ nI d = (2 : Int32) from nI_ne (b := 2) (by omega) (by omega) (by decide))]
    unfold FX13_command_B34
    rw [s29, if_neg (show ¬ nI h = (30 : Int32) from nI_ne (b := 30) (by omega) (by omega) (by decide))]
    unfold FX13_command_B48
    have hrr : FX13_readsRest n (yt V1 7 m (nI 7)) (nI m) (nI 7) = some V3 := by
      unfold FX13_readsRest
      simp only [gd_t hin]
      rw [bnd_s, if_neg (show ¬ nI 7 = (0 : Int32) by decide), if_neg (show ¬ nI 7 = (1 : Int32) by decide), if_neg (show ¬ nI 7 = (2 : Int32) by decide), if_neg (show ¬ nI 7 = (3 : Int32) by decide), if_neg (show ¬ nI 7 = (4 : Int32) by decide), if_neg (show ¬ nI 7 = (5 : Int32) by decide), if_neg (show ¬ nI 7 = (6 : Int32) by decide), if_pos (show nI 7 = (7 : Int32) from rfl), hmc, c2', bo2_s, show sW V2 15 (sI (V2 15) 8 m y) = yt V2 8 m y from rfl, bnd_s, p2', bo1_s]
    rw [(good_g t).1, bnd_s, if_pos rfl, s29, nI_1, show sW v 15 (sI (v 15) 0 29 (nI (h + 1))) = nt v 29 (nI (h + 1)) from rfl, bnd_s, g3, bo1_s, e28, gd_t hin, hmc, show sW V1 15 (sI (V1 15) 7 m (nI 7)) = yt V1 7 m (nI 7) from rfl, bnd_s, hrr, bo1_s, z28, nI_1, show sW V3 15 (sI (V3 15) 0 28 (nI (m + 1))) = nt V3 28 (nI (m + 1)) from rfl, bnd_s, bnd_s, bnd_s, if_pos (show nI 7 = (7 : Int32) from rfl), show FX13_truth true = (1 : Int32) from rfl, bnd_s, nt_k, if_neg (show ¬ (30 : Nat) = 28 by decide), z30, nI_1, bnd_s]
    rfl
  have hcf : CF5 w Wb := fun r a1 a2 => by rw [p3 r a1, qo r a1 a2]
  have hrf : RF3 v V3 := ((((RF3.nt v _ (Or.inr (Or.inl rfl))).trans g4.r3).trans (RF3.yt _ _ _ (by decide) (by decide))).trans c4.r3).trans ((RF3.yt _ _ _ (by decide) (by decide)).trans p4.r3)
  cases s2 with
  | none =>
    have t5 : TX b f l Wb V3 := p5
    rw [(good_x t5).1, bnd_s, if_neg (by decide)] at hrl
    exact ⟨Wb, V3, none, hcl, RB2_x t5 hrl (by rw [z30, s30]), hcf, hrf, p5, fun j hj => by cases hj⟩
  | some j =>
    have t5 : TG b f l Wb V3 j := p5
    rw [(good_g t5).1, bnd_s, if_pos rfl] at hrl
    obtain ⟨i1, j1, j2, j3⟩ := p6 j rfl
    obtain ⟨i2, rq, k1, k2, k4, k5, k6, k7, k8⟩ := c6 i1 j1
    have : i + 1 = i2 := Option.some.inj k1
    have v4j : ∀ q, q ≠ 0 → (nt (nt V3 28 (nI (m + 1))) 30 (nI (d + 1)) 15).1 q = (V3 15).1 q := fun q hq => by rw [nt_j _ _ _ hq, nt_j _ _ _ hq]
    refine ⟨Wb, nt (nt V3 28 (nI (m + 1))) 30 (nI (d + 1)), some j, hcl, fun k => ?_, hcf, hrf.trans ((RF3.nt _ _ (Or.inl rfl)).trans (RF3.nt _ _ (Or.inr (Or.inr rfl)))), (p5.nt _ (by decide)).nt _ (by decide), fun j' hj => ?_⟩
    · unfold RB2
      rw [hrl, bo1_s, nt_k, if_pos rfl, s30, if_neg (nI_ne (by omega) (by omega) (by omega))]
    · have ej : j = j' := Option.some.inj hj
      refine ⟨by omega, _, _, _, _, _, _, _, _, _, _, H0.open2 h30 d2 (r0 := rq) k5 k6 (w' := Wb) (v' := nt (nt V3 28 (nI (m + 1))) 30 (nI (d + 1))) ?_ ?_ ?_ ?_ (fun q hq => ⟨?_, ?_⟩) (fun q hq => ?_) ?_ ?_ ?_ ?_ (fun q k a1 a2 a3 => ?_) ?_ ?_⟩
      · rw [p3 12 (by decide), q0, if_neg (by decide), if_pos rfl]
      · rw [p3 12 (by decide), q0, if_pos rfl]
      · rw [p3 12 (by decide), q3, if_pos rfl]
      · rw [p3 12 (by decide), q4, if_pos rfl, k7]
      · rw [p3 12 (by decide), q3, if_neg (by omega)]
      · rw [p3 12 (by decide), q4, if_neg (by omega)]
      · rw [p3 12 (by decide), qj q (by omega) (by omega) (by omega)]
      · exact hP.of (by rw [p3 12 (by decide), q0, if_neg (by decide), if_neg (by decide)]) (by rw [p3 12 (by decide), qj 2 (by decide) (by decide) (by decide)])
      · rw [nt_k, if_neg (by decide), nt_k, if_pos rfl]
      · rw [nt_k, if_neg (by decide), nt_k, if_neg (by decide), z29]
      · rw [nt_k, if_pos rfl]
      · rw [v4j q (by omega), p4.2.1 q (by omega)]
        have e2 : (yt V2 8 m y 15).1 q k = (V2 15).1 q k := by
          by_cases z : q = 8
          · rw [z, yt_at, if_neg a3]
          · rw [yt_j _ _ _ _ z]
        have e1 : (yt V1 7 m (nI 7) 15).1 q k = (V1 15).1 q k := by
          by_cases z : q = 7
          · rw [z, yt_at, if_neg a3]
          · rw [yt_j _ _ _ _ z]
        rw [e2, c4.2.1 q (by omega), e1, g4.2.1 q (by omega), nt_j _ _ _ (by omega)]
      · rw [v4j 7 (by decide), p4.2.1 7 (by decide), yt_j _ _ _ _ (by decide), c4.2.1 7 (by decide), yt_at, if_pos rfl]
      · rw [v4j 8 (by decide), p4.2.1 8 (by decide), yt_at, if_pos rfl, k8]
/-- any command -/
theorem cmd_pair {n : Nat} (hn : 1000 ≤ n) {b : Nat → Nat} {f l i : Nat} {w v : Wd} {nv nc ns : Nat} {bk : Nat → Nat} (t : TG b f l w v i) (hm : RelM (w 1) (row v) nv nc ns bk) {c a kp : Nat → Nat} {m h d : Nat} {p r : Nat → Nat} {X : Nat → List Nat} {s : Nat → Nat} (H : SG w v nv nc c a kp m h d p r X s) : CO n b f l nv nc i w v := by
  obtain ⟨k, hk, hv, hz, hW⟩ := verb_pair (n := n) (by omega) t
  have hh := here_ok hk hW
  have hx := H
  obtain ⟨⟨h1, h2, h3⟩, ⟨s4, s6, s28, s29, s30⟩, -, -, -, -, -, -⟩ := hx
  -- a fault at once
  have bad : ∀ e w', 1 ≤ e → e ≤ 6 → TX b f l w' (FX13_wrong v (nI e)) → CF w w' → RF v (FX13_wrong v (nI e)) → FX7_readCommand n w 1 = some w' → FX13_command n v = some (FX13_wrong v (nI e)) → CO n b f l nv nc i w v := fun e w' _ _ tx cf rf hc hr => ⟨w', _, none, hc, RB2_x tx hr (rf.2.2 30 (Or.inr (by decide))), cf.c5, rf.r3, tx, fun j hj => by cases hj⟩
  by_cases k4 : 4 ≤ k
  · rw [if_pos k4] at hh
    have hz1 : tK b f (P b f i) = 1 := hz (by omega)
    have hS : enS k = true := by
      rcases (by omega : k = 4 ∨ k = 5 ∨ k = 6 ∨ k = 7 ∨ k = 8 ∨ k = 9 ∨ k = 10 ∨ k = 11) with z | z | z | z | z | z | z | z <;> subst z <;> rfl
    have n4 : ∀ e : Nat, tK b f (P b f i) = 4 → e = 1 := fun e y => absurd (hz1.symm.trans y) (by decide)
    by_cases k11 : k = 11 ∧ d = 2
    · obtain ⟨z, z2⟩ := k11
      subst z
      obtain ⟨w', c1, c2, c3, c4⟩ := fail_pair t (e := 3) (by decide) (by decide) (n4 3)
      have c1' : FX9_failIf w true 3 = some w' := c1
      refine bad 3 w' (by decide) (by decide) c4 c2 c3 ?_ ?_
      · unfold FX7_readCommand
        rw [hv, bo1_s, gd_t (by decide), if_pos hS]
        unfold FX7_readCommand_B18
        rw [fail_f, bo1_s, if_pos rfl, s6, z2, if_neg (show ¬ nI 2 < (2 : Int32) by decide)]
        unfold FX7_readCommand_B43
        rw [c1', bo1_s, c62_x c4, c62_x c4, ite_self]
      · unfold FX13_command
        rw [hh, bnd_s, if_neg (show ¬ nI (11 - 4) = (-1 : Int32) by decide)]
        unfold FX13_command_B15
        rw [if_pos (show nI (11 - 4) = (7 : Int32) from rfl), s30, z2, if_pos (show nI 2 = (2 : Int32) from rfl), show FX13_wrong v 3 = FX13_wrong v (nI 3) from rfl, bnd_s, r34_x c4]
    · by_cases h30 : h < 30
      · by_cases z : k = 11
        · subst z
          exact cmd_rep hn t H hv hz1 hh h30 (by omega)
        · exact cmd_good hn t hm H hv k4 (by omega) hz1 hh h30
      · have e30 : h = 30 := by omega
        obtain ⟨w', c1, c2, c3, c4⟩ := fail_pair t (e := 5) (by decide) (by decide) (n4 5)
        have c1' : FX9_failIf w true 5 = some w' := c1
        have e43 : FX7_readCommand_B43 n w 1 k false = some w' := by
          unfold FX7_readCommand_B43
          rw [fail_f, bo1_s, s4, e30, if_neg (show ¬ nI 30 < (30 : Int32) by decide)]
          unfold FX7_readCommand_B62
          rw [c1', bo1_s, skip_x c4, bnd_s, (good_x c4).2, bnd_s, if_pos rfl]
        refine bad 5 w' (by decide) (by decide) c4 c2 c3 ?_ ?_
        · unfold FX7_readCommand
          rw [hv, bo1_s, gd_t (decide_eq_true hk), if_pos hS]
          unfold FX7_readCommand_B18 FX7_readCommand_B42
          rw [fail_f, bo1_s, e43]
          by_cases z : k = 11
          · rw [if_pos z, s6, if_pos (show nI d < (2 : Int32) from nI_lt (b := 2) (by omega) (by decide))]
          · rw [if_neg z]
        · have e34 : FX13_command_B34 n v (nI (k - 4)) = some (FX13_wrong v (nI 5)) := by
            unfold FX13_command_B34
            rw [s29, e30, if_pos (show nI 30 = (30 : Int32) from rfl), show FX13_wrong v 5 = FX13_wrong v (nI 5) from rfl, bnd_s, r48_x c4]
          unfold FX13_command
          rw [hh, bnd_s, if_neg (nI_m1 (by omega))]
          unfold FX13_command_B15
          rw [e34]
          by_cases z : k = 11
          · rw [if_pos (show nI (k - 4) = (7 : Int32) by rw [z]; rfl), s30, if_neg (show ¬ nI d = (2 : Int32) from nI_ne (b := 2) (by omega) (by omega) (by decide))]
          · rw [if_neg (show ¬ nI (k - 4) = (7 : Int32) from nI_ne (b := 7) (by omega) (by omega) (by decide))]
  · rw [if_neg k4] at hh
    have hS : enS k = false := by
      rcases (by omega : k = 0 ∨ k = 1 ∨ k = 2 ∨ k = 3) with z | z | z | z <;> subst z <;> rfl
    obtain ⟨w', c1, c2, c3, c4⟩ := fail_pair t (e := 1) (by decide) (by decide) (fun _ => rfl)
    have c1' : FX9_failIf w true 1 = some w' := c1
    refine bad 1 w' (by decide) (by decide) c4 c2 c3 ?_ ?_
    · unfold FX7_readCommand
      rw [hv, bo1_s, gd_t (decide_eq_true hk), hS, if_neg (by decide)]
      unfold FX7_readCommand_B18 FX7_readCommand_B42
      rw [c1', bo1_s, if_neg (by omega), c43_x c4]
    · unfold FX13_command
      rw [hh, bnd_s, if_pos rfl, show FX13_wrong v 1 = FX13_wrong v (nI 1) from rfl, bnd_s, r15_x c4]
