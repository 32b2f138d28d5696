set_option maxHeartbeats 400000
/-! the lines shout, pass, fake -/
theorem line_shout {n : Nat} (hn : 1000 ≤ n) {b : Nat → Nat} {f l : Nat} {w v v0 : Wd} {s : Option Nat} {nv nc ns : Nat} {bk : Nat → Nat} (hg : FX13_goOnRead n v0 = some v) (h : St b f l w v s) (hm : RelM (w 2) (row v) nv nc ns bk) (h0 : (w 11).1 1 0 = nI 4) :
    ∃ w1 v1, FX3_readShout n w 2 = some w1 ∧ FX13_shoutLine n v0 = some v1 ∧ LnS n b f l s w v w1 v1 := by
  obtain ⟨xa, wa, ya, va, sa, a1, a2, a3, a4, a5, a6⟩ := cname_pair hn h hm
  have a5' : St b f l (dt wa 2 xa) va sa := a5.cl (dt_o _ _ _ (by decide))
  have hma : RelM (dt wa 2 xa 2) (row va) nv nc ns bk := by rw [dt_o _ _ _ (by decide), a3 2 (by decide), a4.row]; exact hm
  obtain ⟨xb, wb, yb, vb, sb, b1, b2, b3, b4, b5, b6⟩ := vname_pair hn a5' hma
  have b5' : St b f l (dt wb 3 xb) vb sb := b5.cl (dt_o _ _ _ (by decide))
  obtain ⟨xc, yc, wc, vc, sc, c1, c2, c3, c4, c5, c6⟩ := num_pair hn b5' (lo := 1) (hi := 20) (by decide) (by decide)
  have c5' : St b f l (dt wc 4 xc) vc sc := c5.cl (dt_o _ _ _ (by decide))
  obtain ⟨xd, yd, wd, vd, sd, d1, d2, d3, d4, d5, d6⟩ := num_pair hn c5' (lo := 1) (hi := 4) (by decide) (by decide)
  have c1' : FX9_takeNumber (dt wb 3 xb) 1 20 = some (xc, wc) := c1
  have d1' : FX9_takeNumber (dt wc 4 xc) 1 4 = some (xd, wd) := d1
  have c2' : FX13_more n vb 1 20 = some (yc, vc) := c2
  have d2' : FX13_more n vc 1 4 = some (yd, vd) := d2
  have hc3 : CF3 w (dt wd 5 xd) := ((((((a3.c3.trans (dt_c3 _ _ _)).trans b3.c3).trans (dt_c3 _ _ _)).trans c3.c3).trans (dt_c3 _ _ _)).trans d3.c3).trans (dt_c3 _ _ _)
  have ed : wd 11 = dt wc 4 xc 11 := d3 11 (by decide)
  have ec : wc 11 = dt wb 3 xb 11 := c3 11 (by decide)
  have eb : wb 11 = dt wa 2 xa 11 := b3 11 (by decide)
  have ea : wa 11 = w 11 := a3 11 (by decide)
  have g0 : (dt wd 5 xd 11).1 1 0 = nI 4 := by rw [dt_at, if_neg (by decide), ed, dt_at, if_neg (by decide), ec, dt_at, if_neg (by decide), eb, dt_at, if_neg (by decide), ea, h0]
  have g2 : (dt wd 5 xd 11).1 1 2 = xa := by rw [dt_at, if_neg (by decide), ed, dt_at, if_neg (by decide), ec, dt_at, if_neg (by decide), eb, dt_at, if_pos rfl]
  have g3 : (dt wd 5 xd 11).1 1 3 = xb := by rw [dt_at, if_neg (by decide), ed, dt_at, if_neg (by decide), ec, dt_at, if_pos rfl]
  have g4 : (dt wd 5 xd 11).1 1 4 = xc := by rw [dt_at, if_neg (by decide), ed, dt_at, if_pos rfl]
  have g5 : (dt wd 5 xd 11).1 1 5 = xd := by rw [dt_at, if_pos rfl]
  have t : St b f l (dt wd 5 xd) vd sd := d5.cl (dt_o _ _ _ (by decide))
  have hrf : RF2 v vd := ((a4.r2.trans b4.r2).trans c4.r2).trans d4.r2
  have hrow : row vd = row v := by rw [d4.row, c4.row, b4.row, a4.row]
  generalize hW : dt wd 5 xd = W at hc3 g0 g2 g3 g4 g5 t
  have hcl : FX3_readShout n w 2 = bo1 (FX9_expectSign W 59) fun w26 => bnd (FX9_hasFailed w26) fun x29 => if x29 = true then some w26 else bo1 (FX6_whyRefused n (w26 2) ((w26 11).1 1 2) ((w26 11).1 1 3) ((w26 11).1 1 5)) fun x32 => if x32 = 0 then bo1 (FX9_failIf w26 false 6) fun w35 => some w35 else bo1 (FX9_failIf w26 true 6) fun w38 => some w38 := by
    unfold FX3_readShout
    rw [a1, bo2_s, show sW wa 11 (sI (wa 11) 1 2 xa) = dt wa 2 xa from rfl, bnd_s, b1, bo2_s, show sW wb 11 (sI (wb 11) 1 3 xb) = dt wb 3 xb from rfl, bnd_s, c1', bo2_s, show sW wc 11 (sI (wc 11) 1 4 xc) = dt wc 4 xc from rfl, bnd_s, d1', bo2_s, show sW wd 11 (sI (wd 11) 1 5 xd) = dt wd 5 xd from rfl, bnd_s, hW]
  have hrl : FX13_shoutLine n v0 = bnd (FX13_isSign vd 59) fun x21 => if x21 = true then bo1 (FX13_refuses n vd ya yb yd) fun x24 => if x24 = 0 then bo2 (FX13_sells vd ya yb yc yd) fun x27 w28 => bnd (sW w28 15 (sI (w28 15) 0 31 x27)) fun w30 => some w30 else bnd (FX13_wrong vd 6) fun w33 => some w33 else some vd := by
    unfold FX13_shoutLine
    rw [hg, bo1_s, a2, bo2_s, b2, bo2_s, c2', bo2_s, d2', bo2_s]
  cases sd with
  | none =>
    have t5 : TXw b f l W vd := t
    obtain ⟨q, eq⟩ := cSign_x t5 59
    obtain ⟨-, -, -, -, -, -, -, h8, -⟩ := t5.at
    refine ⟨W, vd, ?_, ?_, LnE.ls hn ⟨none, hc3, hrf, t, fun j hj => by cases hj⟩⟩
    · rw [hcl]
      unfold FX9_expectSign
      rw [eq, bo1_s]
      simp only [fail_x t5, bo1_s, ite_self, (good_x t5).2, bnd_s, if_true]
    · rw [hrl]
      unfold FX13_isSign
      rw [if_neg h8, bnd_s, if_neg (by decide)]
  | some jd =>
    have t5 : TG b f l W vd jd := t
    obtain ⟨ic, od, ice, jde, icl, odlo, odhi, xde, yde⟩ := d6 jd rfl
    obtain ⟨ib, lo, ibe, ice2, ibl, lolo, lohi, xce, yce⟩ := c6 ic ice
    obtain ⟨ia, q, iae, ibe2, ial, qlt, xbe, ybe⟩ := b6 ib ibe
    obtain ⟨i, c, ie, iae2, il, clt, xae, yae⟩ := a6 ia iae
    have cs : FX9_isSign W 59 = some (decide (tK b f (P b f jd) = 3 ∧ b (P b f jd) = 59)) := cSign t5 (c := 59) (by decide)
    have rsg : FX13_isSign vd 59 = decide (tK b f (P b f jd) = 3 ∧ b (P b f jd) = 59) := rSign t5 (c := 59) (by decide)
    by_cases z : tK b f (P b f jd) = 3 ∧ b (P b f jd) = 59
    · rw [decide_eq_true z] at cs rsg
      have hx : FX9_expectSign W 59 = some W := by
        unfold FX9_expectSign
        rw [cs, bo1_s, if_pos rfl, fail_f, bo1_s]
      have hmd : RelM (w 2) (row vd) nv nc ns bk := by rw [hrow]; exact hm
      have hcr := cRefused (n := n) (by omega) hmd clt qlt (nI od)
      have hrr := rRefuses (n := n) (by omega) hmd clt qlt (nI od)
      rw [hx, bo1_s, (good_g t5).2, bnd_s, if_neg (by decide), g2, g3, g5, hc3 2 (by decide) (by decide), xae, xbe, xde, hcr, bo1_s] at hcl
      rw [rsg, bnd_s, if_pos rfl, yae, ybe, yce, yde, hrr, bo1_s] at hrl
      by_cases hw : whyF (row vd) ns c q (nI od) = 0
      · have hns : ns < 30 := by
          have := hm.bs
          by_cases zz : ns = 30
          · exfalso
            unfold whyF at hw
            rw [if_pos zz] at hw
            exact absurd hw (by decide)
          · omega
        obtain ⟨x, M', v3, r1, r2, r3, r4⟩ := sell_m hmd hns clt qlt lolo lohi odlo odhi
        rw [if_pos hw, fail_f, bo1_s] at hcl
        rw [if_pos hw, r2, bo2_s, bnd_s] at hrl
        refine ⟨W, nt v3 31 x, hcl, hrl, LnE.ls hn ⟨some jd, hc3, hrf.trans (r3.trans (Fr.nt31 v3 x)).r2, t.fr (r3.trans (Fr.nt31 v3 x)), fun j hj => ⟨⟨i, ie, ?_⟩, M', ?_, fun w' e11 e22 => ?_⟩⟩⟩
        · have := Option.some.inj hj
          omega
        · rw [nt_row]
          exact r4
        · rw [ap_sell (by rw [e11, g0]), e11, e22, g2, g3, g4, g5, hc3 2 (by decide) (by decide), xae, xbe, xce, xde, r1, bo2_s]
      · obtain ⟨w', k1, k2, k3, k4⟩ := fail_pair t5 (e := 6) (by decide) (by decide) (fun y => absurd (z.1.symm.trans y) (by decide))
        have k1' : FX9_failIf W true 6 = some w' := k1
        rw [if_neg hw, k1', bo1_s] at hcl
        rw [if_neg hw, bnd_s] at hrl
        exact ⟨w', FX13_wrong vd (nI 6), hcl, hrl, LnE.ls hn ⟨none, hc3.trans k2.c3, hrf.trans k3.r2, k4, fun j hj => by cases hj⟩⟩
    · rw [decide_eq_false z] at cs rsg
      obtain ⟨w', k1, k2, k3, k4⟩ := fail_pair t5 (e := 1) (by decide) (by decide) (fun _ => rfl)
      have k1' : FX9_failIf W true 1 = some w' := k1
      have hx : FX9_expectSign W 59 = some w' := by
        unfold FX9_expectSign
        rw [cs, bo1_s, if_neg (by decide), k1', bo1_s]
      rw [hx, bo1_s, (good_x k4).2, bnd_s, if_pos rfl] at hcl
      rw [rsg, bnd_s, if_neg (by decide)] at hrl
      refine ⟨w', vd, hcl, hrl, w', FX13_wrong vd (nI 1), none, ?_, ?_, hc3.trans k2.c3, hrf.trans k3.r2, k4, fun j hj => by cases hj⟩
      · obtain ⟨q', eq⟩ := cSign_x k4 59
        unfold FX9_takeSign FX9_expectSign
        rw [eq, bo1_s]
        simp only [fail_x k4, bo1_s, ite_self, skip_x k4, bnd_s]
      · unfold FX13_mustSign
        rw [(good_g t5).1, bnd_s, if_pos rfl, rsg, bnd_s, if_neg (by decide), show FX13_wrong vd 1 = FX13_wrong vd (nI 1) from rfl, bnd_s, (good_x k4).1, bnd_s, if_neg (by decide)]
theorem line_pass {n : Nat} (hn : 1000 ≤ n) {b : Nat → Nat} {f l i : Nat} {w v v0 : Wd} {nv nc ns : Nat} {bk : Nat → Nat} (hg : FX13_goOnRead n v0 = some v) (h : TG b f l w v i) (hm : RelM (w 2) (row v) nv nc ns bk) (h0 : (w 11).1 1 0 = nI 8) :
    ∃ w1 v1, FX3_readPass w 2 = some w1 ∧ FX13_passLine n v0 = some v1 ∧ LnE n b f l (some i) w v w1 v1 := by
  have hN := cNum h
  generalize hx2 : (if tK b f (P b f i) = 2 then nI (tN b f (P b f i)) else (-1 : Int32)) = x2 at hN
  have tW : TG b f l (dt w 4 x2) v i := St.cl (s := some i) h (dt_o _ _ _ (by decide))
  obtain ⟨w', v', s', y, c1, c2, c3, c4, c5, c6⟩ := looks_pair tW (nI 1) (nI 240)
  have c1' : FX9_expectNumber (dt w 4 x2) 1 240 = some w' := c1
  have c2' : FX13_looks v 1 240 = (y, v') := c2
  have hcl : FX3_readPass w 2 = bnd (FX6_faultOfPassing (w' 2) ((w' 11).1 1 4)) fun x10 => if x10 = 0 then bo1 (FX9_failIf w' false 6) fun w13 => bnd (FX9_skip w13) fun w16 => some w16 else bo1 (FX9_failIf w' true 6) fun w19 => bnd (FX9_skip w19) fun w22 => some w22 := by
    unfold FX3_readPass
    rw [hN, bo1_s, show sW w 11 (sI (w 11) 1 4 x2) = dt w 4 x2 from rfl, bnd_s, c1', bo1_s]
  rcases c6 with e | ⟨e, ew, ev, z, ey, zw⟩
  · subst e
    have t5 : TXw b f l w' v' := c5
    refine ⟨w', v', ?_, ?_, none, (dt_c3 _ _ _).trans c3.c3, c4.r2, c5, fun j hj => by cases hj⟩
    · rw [hcl]
      simp only [fail_x t5, bo1_s, skip_x t5, bnd_s, ite_self]
    · unfold FX13_passLine
      rw [hg, bo1_s, c2', bnd2_s, (good_x t5).1, bnd_s, if_neg (by decide), bnd_s, if_neg (by decide)]
  · subst ew
    subst ev
    obtain ⟨sc, s1, s2, s3⟩ := wi_rng (a := 1) (b := 240) (by decide) (by decide) zw
    rw [if_pos z, s3] at hx2
    rw [s3] at ey
    obtain ⟨t, ht, et⟩ := hm.tm
    have zw' : FX12_isWithin (nI sc) 1 240 = true := by rw [← s3]; exact zw
    have hfp : FX6_faultOfPassing (dt w 4 x2 2) ((dt w 4 x2 11).1 1 4) = if 9999 < nI t + nI sc then 3 else 0 := by
      unfold FX6_faultOfPassing
      rw [dt_o _ _ _ (show (2 : Nat) ≠ 11 by decide), dt_at, if_pos rfl, ← hx2, zw', bnd_s, if_pos rfl, hm.time, et]
    rw [hfp, bnd_s] at hcl
    by_cases hl : t + sc ≤ 9999
    · have hnl : ¬ (9999 : Int32) < nI t + nI sc := by
        rw [nI_add]
        show ¬ nI 9999 < nI (t + sc)
        rw [nI_ltI (by omega) (by omega)]
        omega
      have em : FX13_mayPass v' (nI sc) = some true := by
        unfold FX13_mayPass
        rw [gd3, show (v' 15).1 2 3 = nI t from et, if_neg hnl]
      obtain ⟨x, M', v3, r1, r2, r3, r4⟩ := pass_m hn hm et s2 hl
      have tF : TG b f l (dt w 4 x2) (nt v3 31 x) i := St.fr (s := some i) tW (r3.trans (Fr.nt31 v3 x))
      obtain ⟨k1, k2, v4, k3, k4, k5⟩ := skip_pair hn tF (by rw [z]; decide)
      rw [if_neg hnl, if_pos rfl, fail_f, bo1_s, bnd_s] at hcl
      refine ⟨_, v4, hcl, ?_, some (i + 1), (dt_c3 _ _ _).trans k2.c3, (r3.trans (Fr.nt31 v3 x)).r2.trans k4.r2, k5, fun j hj => ⟨⟨i, rfl, ?_⟩, M', ?_, fun w' e11 e22 => ?_⟩⟩
      · unfold FX13_passLine
        rw [hg, bo1_s, c2', bnd2_s, (good_g tW).1, bnd_s, if_pos rfl, ey, em, bo1_s, if_pos rfl, bnd_s, if_pos rfl, r2, bo2_s, show sW v3 15 (sI (v3 15) 0 31 x) = nt v3 31 x from rfl, bnd_s, k3, bo1_s]
      · have := Option.some.inj hj
        omega
      · rw [k4.row, nt_row]
        exact r4
      · have g0 : (w' 11).1 1 0 = nI 8 := by rw [e11, k2 11 (by decide), dt_at, if_neg (by decide), h0]
        have g4 : (w' 11).1 1 4 = nI sc := by rw [e11, k2 11 (by decide), dt_at, if_pos rfl, hx2]
        rw [ap_pass g0, g4, e22, k2 2 (by decide), dt_o _ _ _ (show (2 : Nat) ≠ 11 by decide), r1, bo2_s]
    · have hnl : (9999 : Int32) < nI t + nI sc := by
        rw [nI_add]
        show nI 9999 < nI (t + sc)
        exact nI_lt (by omega) (by omega)
      have em : FX13_mayPass v' (nI sc) = some false := by
        unfold FX13_mayPass
        rw [gd3, show (v' 15).1 2 3 = nI t from et, if_pos hnl]
      obtain ⟨w', k1, k2, k3, k4⟩ := fail_pair tW (e := 6) (by decide) (by decide) (fun y => absurd (z.symm.trans y) (by decide))
      have k1' : FX9_failIf (dt w 4 x2) true 6 = some w' := k1
      rw [if_pos hnl, if_neg (by decide), k1', bo1_s, skip_x k4, bnd_s] at hcl
      refine ⟨w', FX13_wrong v' (nI 6), hcl, ?_, none, (dt_c3 _ _ _).trans k2.c3, k3.r2, k4, fun j hj => by cases hj⟩
      unfold FX13_passLine
      rw [hg, bo1_s, c2', bnd2_s, (good_g tW).1, bnd_s, if_pos rfl, ey, em, bo1_s, if_neg (by decide), show FX13_wrong v' 6 = FX13_wrong v' (nI 6) from rfl, bnd_s, (good_x k4).1, bnd_s, if_neg (by decide)]
theorem fo_tot {M : MM} {r : Nat → Int32} {nv nc ns : Nat} {bk : Nat → Nat} (hm : RelM M r nv nc ns bk) (p : Int32) : ∃ k, FX6_faultOfOpen M p = some k := by
  have hbs := hm.bs
  cases hd : FX12_isWithin p 0 (nI ns - 1) with
  | false => exact ⟨_, cFO_x hm.s1 hd⟩
  | true =>
    obtain ⟨i, hi, rfl⟩ := wi_in (by omega) hd
    exact ⟨_, cFO_i hm.s1 hbs hi (hm.ss i hi).e8⟩
theorem line_fake {n : Nat} (hn : 1000 ≤ n) {b : Nat → Nat} {f l i : Nat} {w v v0 : Wd} {nv nc ns : Nat} {bk : Nat → Nat} (hg : FX13_goOnRead n v0 = some v) (h : TG b f l w v i) (hm : RelM (w 2) (row v) nv nc ns bk) (h0 : (w 11).1 1 0 = nI 9) :
    ∃ w1 v1, FX3_readFake w 2 = some w1 ∧ FX13_fakeLine n v0 = some v1 ∧ LnE n b f l (some i) w v w1 v1 := by
  have hbs := hm.bs
  have hN := cNum h
  generalize hx2 : (if tK b f (P b f i) = 2 then nI (tN b f (P b f i)) else (-1 : Int32)) = x2 at hN
  have tW : TG b f l (dt w 4 x2) v i := St.cl (s := some i) h (dt_o _ _ _ (by decide))
  have hW2 : dt w 4 x2 2 = w 2 := dt_o _ _ _ (by decide)
  obtain ⟨w', v', s', y, c1, c2, c3, c4, c5, c6⟩ := looks_pair tW 0 (nI ns - 1)
  have hcl : FX3_readFake w 2 = bo1 (FX6_faultOfOpen (w' 2) ((w' 11).1 1 4)) fun x10 => if x10 = 0 then bo1 (FX9_failIf w' false 6) fun w13 => bnd (FX9_skip w13) fun w16 => some w16 else bo1 (FX9_failIf w' true 6) fun w19 => bnd (FX9_skip w19) fun w22 => some w22 := by
    unfold FX3_readFake
    rw [hN, bo1_s, show sW w 11 (sI (w 11) 1 4 x2) = dt w 4 x2 from rfl, bnd_s, hW2, hm.s1, c1, bo1_s]
  have hrl : FX13_fakeLine n v0 = bnd2 (FX13_looks v 0 (nI ns - 1)) fun x6 w7 =>
  bnd (FX13_isGood w7) fun x10 =>
  if x10 = true then
    bo1 (FX13_isOpen w7 x6) fun x25 =>
    if x25 = true then
      bnd (FX13_isGood w7) fun x28 =>
      if x28 = true then
        bo2 (FX13_fakes n w7 x6) fun x31 w32 =>
        bnd (sW w32 15 (sI (w32 15) 0 31 x31)) fun w34 =>
        bo1 (FX13_goOnRead n w34) fun w37 =>
        some w37
      else
        some w7
    else
      bnd (FX13_wrong w7 6) fun w40 =>
      bnd (FX13_isGood w40) fun x43 =>
      if x43 = true then
        bo2 (FX13_fakes n w40 x6) fun x46 w47 =>
        bnd (sW w47 15 (sI (w47 15) 0 31 x46)) fun w49 =>
        bo1 (FX13_goOnRead n w49) fun w52 =>
        some w52
      else
        some w40
  else
    bnd (FX13_isGood w7) fun x13 =>
    if x13 = true then
      bo2 (FX13_fakes n w7 x6) fun x16 w17 =>
      bnd (sW w17 15 (sI (w17 15) 0 31 x16)) fun w19 =>
      bo1 (FX13_goOnRead n w19) fun w22 =>
      some w22
    else
      some w7 := by
    unfold FX13_fakeLine
    rw [hg, bo1_s, gd2, show (v 15).1 2 2 = nI ns from hm.s0]
  rcases c6 with e | ⟨e, ew, ev, z, ey, zw⟩
  · subst e
    have t5 : TXw b f l w' v' := c5
    obtain ⟨k, hk⟩ := fo_tot hm ((w' 11).1 1 4)
    refine ⟨w', v', ?_, ?_, none, (dt_c3 _ _ _).trans c3.c3, c4.r2, c5, fun j hj => by cases hj⟩
    · rw [hcl, c3 2 (by decide), hW2, hk, bo1_s]
      simp only [fail_x t5, bo1_s, skip_x t5, bnd_s, ite_self]
    · rw [hrl, c2, bnd2_s, (good_x t5).1, bnd_s, if_neg (by decide), bnd_s, if_neg (by decide)]
  · subst ew
    subst ev
    obtain ⟨d, d1, d2⟩ := wi_in (by omega) zw
    rw [if_pos z, d2] at hx2
    rw [d2] at ey
    have g4 : (dt w 4 x2 11).1 1 4 = nI d := by rw [dt_at, if_pos rfl, hx2]
    rw [hW2, g4, cFO_i hm.s1 hbs d1 (hm.ss d d1).e8, bo1_s] at hcl
    rw [c2, bnd2_s, (good_g tW).1, bnd_s, if_pos rfl, ey, rOpen hm.s0 hbs d1, bo1_s] at hrl
    by_cases ho : shF (row v') d 6 = 0
    · obtain ⟨x, M', v3, r1, r2, r3, r4⟩ := fake_m (n := n) (by omega) hm d1 ho
      have tF : TG b f l (dt w 4 x2) (nt v3 31 x) i := St.fr (s := some i) tW (r3.trans (Fr.nt31 v3 x))
      obtain ⟨k1, k2, v4, k3, k4, k5⟩ := skip_pair hn tF (by rw [z]; decide)
      rw [if_pos ho, if_pos rfl, fail_f, bo1_s, bnd_s] at hcl
      rw [decide_eq_true ho, if_pos rfl, bnd_s, if_pos rfl, r2, bo2_s, show sW v3 15 (sI (v3 15) 0 31 x) = nt v3 31 x from rfl, bnd_s, k3, bo1_s] at hrl
      refine ⟨_, v4, hcl, hrl, some (i + 1), (dt_c3 _ _ _).trans k2.c3, (r3.trans (Fr.nt31 v3 x)).r2.trans k4.r2, k5, fun j hj => ⟨⟨i, rfl, ?_⟩, M', ?_, fun w' e11 e22 => ?_⟩⟩
      · have := Option.some.inj hj
        omega
      · rw [k4.row, nt_row]
        exact r4
      · have q0 : (w' 11).1 1 0 = nI 9 := by rw [e11, k2 11 (by decide), dt_at, if_neg (by decide), h0]
        have q4 : (w' 11).1 1 4 = nI d := by rw [e11, k2 11 (by decide), g4]
        rw [ap_fake q0, q4, e22, k2 2 (by decide), hW2, r1, bo2_s]
    · obtain ⟨w', k1, k2, k3, k4⟩ := fail_pair tW (e := 6) (by decide) (by decide) (fun y => absurd (z.symm.trans y) (by decide))
      have k1' : FX9_failIf (dt w 4 x2) true 6 = some w' := k1
      rw [if_neg ho, if_neg (by decide), k1', bo1_s, skip_x k4, bnd_s] at hcl
      rw [decide_eq_false ho, if_neg (by decide), show FX13_wrong v' 6 = FX13_wrong v' (nI 6) from rfl, bnd_s, (good_x k4).1, bnd_s, if_neg (by decide)] at hrl
      exact ⟨w', FX13_wrong v' (nI 6), hcl, hrl, none, (dt_c3 _ _ _).trans k2.c3, k3.r2, k4, fun j hj => by cases hj⟩
