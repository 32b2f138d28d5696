set_option maxHeartbeats 400000
/-! A LINE OF THE TEXT, read by the reference: sales and time -/
section LINES10
variable {n nv nc ns t : Nat} {V : MM} {v : Wd} {e1 e2 X : List Nat}
theorem ne_s1 : ¬ lN (pk5 [19, 8, 15, 21, 20]) = 739651769 := by decide +kernel
theorem ne_s2 : ¬ lN (pk5 [19, 8, 15, 21, 20]) = 126286804146 := by decide +kernel
theorem ne_p1 : ¬ lN (pk5 [16, 1, 19, 19]) = 739651769 := by decide +kernel
theorem ne_p2 : ¬ lN (pk5 [16, 1, 19, 19]) = 126286804146 := by decide +kernel
theorem ne_p3 : ¬ lN (pk5 [16, 1, 19, 19]) = 20201140 := by decide +kernel
theorem ne_p4 : ¬ lN (pk5 [16, 1, 19, 19]) = 6631 := by decide +kernel
theorem ne_p5 : ¬ lN (pk5 [16, 1, 19, 19]) = 17376357 := by decide +kernel
theorem ne_p6 : ¬ lN (pk5 [16, 1, 19, 19]) = 759180 := by decide +kernel
theorem line_S (hn : 1000 ≤ n) (h1 : eOne e1) (h2 : sps e2) {c u lo od : Nat} (hc : c < nc) (hv : u < nv) (l1 : 1 ≤ lo) (l2 : lo ≤ 20) (o1 : 1 ≤ od) (o2 : od ≤ 4) (hw : whyF (row v) ns c u (nI od) = 0) (h : LN v (e2 ++ (tS e1 c u lo od ++ X))) (hR : RV V v nv nc ns t) : ∃ V' v', FW_sell V (nI c) (nI u) (nI lo) (nI od) = some (nI ns, V') ∧ (∀ k, FX13_readText_L25 n (k + 1) v = FX13_readText_L25 n k v') ∧ LN v' X ∧ RV V' v' nv nc (ns + 1) t := by
  rw [tS_eq] at h
  obtain ⟨M, bk, hm⟩ := hR.nums
  have hbv := hm.bv
  have hbc := hm.bc
  obtain ⟨a6, a12, a8, va, ga, Fa, La⟩ := ln_W hn h2 ok_s (nX_sp _) h
  have Ra := hR.go Fa
  have ra : row va = row v := Fa.2.1 2 (by decide)
  obtain ⟨vb, nb, Fb, Lb⟩ := ln_name hn (ls := [3, c + 1]) (g := 1) (q := c) sp1 (nm_ok (by decide) (by omega)) (nX_sp _) (by omega) (U := [32]) La (by
    rw [found_C (by omega) hbc (by rw [ra]; exact hm.c0) Ra.1.2.2.2.1 (by omega), if_pos hc])
  have Rb := Ra.go Fb
  have rb : row vb = row v := (Fb.2.1 2 (by decide)).trans ra
  obtain ⟨vc, nb2, Fc, Lc⟩ := ln_name hn (ls := [22, u + 1]) (g := 0) (q := u) sp1 (nm_ok (by decide) (by omega)) (nX_sp _) (by omega) (U := [32]) Lb (by
    rw [found_V (by omega) hbv (by rw [rb]; exact hm.v0) Rb.1.2.2.2.1 (by omega), if_pos hv])
  have Rc := Rb.go Fc
  have rc : row vc = row v := (Fc.2.1 2 (by decide)).trans rb
  obtain ⟨vd, md, Fd, Ld⟩ := ln_more hn (lo := 1) (hi := 20) sp1 (nX_sp _) l1 l2 (by decide) (P := 1) (Q := 20) rfl rfl (U := [32]) Lc
  have Rd := Rc.go Fd
  have rd : row vd = row v := (Fd.2.1 2 (by decide)).trans rc
  obtain ⟨ve, me, Fe, Le⟩ := ln_more hn (lo := 1) (hi := 4) sp1 (h1.nx X) o1 o2 (by decide) (P := 1) (Q := 4) rfl rfl (U := [32]) Ld
  have Re := Rd.go Fe
  have re : row ve = row v := (Fe.2.1 2 (by decide)).trans rd
  obtain ⟨c6, c7, c8, -⟩ := ln_S hn h1.sp Le
  obtain ⟨M2, bk2, hm2⟩ := Re.nums
  have hrf : FX13_refuses n ve (nI c) (nI u) (nI od) = some 0 := by
    rw [rRefuses (by omega) hm2 hc hv (nI od), re, hw]
  obtain ⟨V', vf, s1, s2, s3, s4⟩ := step_S Re hc hv l1 l2 o1 o2 (by rw [re]; exact hw)
  have Lf : LN (nt vf 31 (nI ns)) (e1 ++ 59 :: X) := (Le.fr s3).fr (Fr.nt31 _ _)
  have Rf : RV V' (nt vf 31 (nI ns)) nv nc (ns + 1) t := s4.ro (nt_row _ _ _)
  obtain ⟨vg, mg, Fg, Lg⟩ := ln_semi hn h1.sp Lf
  have hsl : FX13_shoutLine n v = some (nt vf 31 (nI ns)) := by
    unfold FX13_shoutLine
    rw [ga, bo1_s, nb, bo2_s, nb2, bo2_s, md, bo2_s, me, bo2_s, sgR c6 c7 c8, bnd_s, if_pos rfl, hrf, bo1_s, if_pos rfl, s1, bo2_s]
    rfl
  have hst : FX13_statement n v = some (nt vf 31 (nI ns)) := by
    unfold FX13_statement
    rw [wdR a6 a12 a8, decide_eq_false ne_s1, bnd_s, if_neg (by decide), wdR a6 a12 a8, decide_eq_false ne_s2, bnd_s, if_neg (by decide), wdR a6 a12 a8, decide_eq_true (show lN (pk5 [19, 8, 15, 21, 20]) = 20201140 from vl_n.2.2.2.1), bnd_s, if_pos rfl, hsl, bo1_s]
  exact ⟨V', vg, s2, fun k => turn_ok a6 a8 hst mg k, Lg, Rf.go Fg⟩
theorem line_P (hn : 1000 ≤ n) (h1 : eOne e1) (h2 : sps e2) {s : Nat} (s1 : 1 ≤ s) (s2 : s ≤ 240) (hl : t + s ≤ 9999) (h : LN v (e2 ++ (tP e1 s ++ X))) (hR : RV V v nv nc ns t) : ∃ x V' v', FW_pass n V (nI s) = some (x, V') ∧ (∀ k, FX13_readText_L25 n (k + 1) v = FX13_readText_L25 n k v') ∧ LN v' X ∧ RV V' v' nv nc ns (t + s) := by
  rw [tP_eq] at h
  obtain ⟨a6, a12, a8, va, ga, Fa, La⟩ := ln_W hn h2 ok_p (nX_sp _) h
  have Ra := hR.go Fa
  obtain ⟨b6, b7, b8, -⟩ := ln_N hn sp1 (show s < 10000 by omega) (h1.nx X) (U := [32]) La
  obtain ⟨x, V', vb, q1, q2, q3, q4⟩ := step_P hn Ra s2 hl
  have Lb : LN (nt vb 31 x) ([32] ++ (dgl s ++ (e1 ++ 59 :: X))) := (LN.fr (X := [32] ++ (dgl s ++ (e1 ++ 59 :: X))) La q3).fr (Fr.nt31 _ _)
  have Rb : RV V' (nt vb 31 x) nv nc ns (t + s) := q4.ro (nt_row _ _ _)
  obtain ⟨-, -, -, vc, gc, Fc, Lc⟩ := ln_N hn sp1 (show s < 10000 by omega) (h1.nx X) Lb
  have Rc := Rb.go Fc
  obtain ⟨vg, mg, Fg, Lg⟩ := ln_semi hn h1.sp Lc
  obtain ⟨-, -, t', et, ht⟩ := id Ra
  have hnl : ¬ (9999 : Int32) < nI t' + nI s := by
    rw [nI_add]
    show ¬ nI 9999 < nI (t' + s)
    rw [nI_ltI (by omega) (by omega)]
    omega
  have em : FX13_mayPass va (nI s) = some true := by
    unfold FX13_mayPass
    rw [gd3, show (va 15).1 2 3 = nI t' from et, if_neg hnl]
  have hpl : FX13_passLine n v = some vc := by
    unfold FX13_passLine
    rw [ga, bo1_s, loR b6 b7 b8 s1 s2 (by decide) (P := 1) (Q := 240) rfl rfl, bnd2_s, gdR b8, bnd_s, if_pos rfl, em, bo1_s, if_pos rfl, bnd_s, if_pos rfl, q1, bo2_s, show sW vb 15 (sI (vb 15) 0 31 x) = nt vb 31 x from rfl, bnd_s, gc, bo1_s]
  have hst : FX13_statement n v = some vc := by
    unfold FX13_statement
    rw [wdR a6 a12 a8, decide_eq_false ne_p1, bnd_s, if_neg (by decide), wdR a6 a12 a8, decide_eq_false ne_p2, bnd_s, if_neg (by decide), wdR a6 a12 a8, decide_eq_false ne_p3, bnd_s, if_neg (by decide), wdR a6 a12 a8, decide_eq_false ne_p4, bnd_s, if_neg (by decide), wdR a6 a12 a8, decide_eq_false ne_p5, bnd_s, if_neg (by decide), wdR a6 a12 a8, decide_eq_false ne_p6, bnd_s, if_neg (by decide), wdR a6 a12 a8, decide_eq_true (show lN (pk5 [16, 1, 19, 19]) = 525939 from vl_n.2.2.2.2.2.2.2.1), bnd_s, if_pos rfl, hpl, bo1_s]
  exact ⟨x, V', vg, q2, fun k => turn_ok a6 a8 hst mg k, Lg, Rc.go Fg⟩
end LINES10
