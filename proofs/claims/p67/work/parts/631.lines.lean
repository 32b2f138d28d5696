set_option maxHeartbeats 400000
/-! A LINE OF THE TEXT, read by the reference -/
/-- the letters ahead of a line's semicolon -/
def eOne (e1 : List Nat) : Prop := e1 = [] ∨ e1 = [32]
theorem eOne.sp {e1 : List Nat} (h : eOne e1) : sps e1 := by
  rcases h with e | e
  · rw [e]; exact sps_0
  · rw [e]; exact sps_1 (Or.inl rfl)
theorem eOne.nx {e1 : List Nat} (h : eOne e1) (Y : List Nat) : nX (e1 ++ 59 :: Y) := by
  rcases h with e | e
  · rw [e]; exact nX_se Y
  · rw [e]; exact nX_sp (59 :: Y)
def tV (e1 : List Nat) (k wd wl pr : Nat) : List Nat := wlN 10 ++ ([97 + k] ++ (wlN 0 ++ (dgl wd ++ (wlN 0 ++ (dgl wl ++ (wlN 0 ++ (dgl pr ++ (e1 ++ [59]))))))))
def tC (e1 : List Nat) (k pa mo : Nat) : List Nat := wlN 5 ++ ([97 + k] ++ (wlN 0 ++ (dgl pa ++ (wlN 0 ++ (dgl mo ++ (e1 ++ [59]))))))
def tS (e1 : List Nat) (c u lo od : Nat) : List Nat := wlN 8 ++ ([97 + c] ++ (wlN 2 ++ ([97 + u] ++ (wlN 0 ++ (dgl lo ++ (wlN 0 ++ (dgl od ++ (e1 ++ [59]))))))))
def tP (e1 : List Nat) (s : Nat) : List Nat := wlN 7 ++ (dgl s ++ (e1 ++ [59]))
theorem wl0 : wlN 0 = [32] := by decide
theorem wl2 : wlN 2 = [32, 118] := by decide
theorem wl5 : wlN 5 = [99, 117, 115, 116, 111, 109, 101, 114, 32, 99] := by decide
theorem wl6 : wlN 6 = [109, 97, 114, 107, 101, 116] := by decide
theorem wl7 : wlN 7 = [112, 97, 115, 115, 32] := by decide
theorem wl8 : wlN 8 = [115, 104, 111, 117, 116, 32, 99] := by decide
theorem wl10 : wlN 10 = [118, 97, 108, 108, 101, 121, 32, 118] := by decide
theorem tV_eq (e1 : List Nat) (k wd wl pr : Nat) (X : List Nat) : tV e1 k wd wl pr ++ X = lsB [22, 1, 12, 12, 5, 25] ++ (32 :: (lsB [22, k + 1] ++ (32 :: (dgl wd ++ (32 :: (dgl wl ++ (32 :: (dgl pr ++ (e1 ++ 59 :: X))))))))) := by
  unfold tV
  rw [wl10, wl0, show 97 + k = 96 + (k + 1) by omega]
  simp only [List.append_assoc]
  rfl
theorem tC_eq (e1 : List Nat) (k pa mo : Nat) (X : List Nat) : tC e1 k pa mo ++ X = lsB [3, 21, 19, 20, 15, 13, 5, 18] ++ (32 :: (lsB [3, k + 1] ++ (32 :: (dgl pa ++ (32 :: (dgl mo ++ (e1 ++ 59 :: X))))))) := by
  unfold tC
  rw [wl5, wl0, show 97 + k = 96 + (k + 1) by omega]
  simp only [List.append_assoc]
  rfl
theorem tS_eq (e1 : List Nat) (c u lo od : Nat) (X : List Nat) : tS e1 c u lo od ++ X = lsB [19, 8, 15, 21, 20] ++ (32 :: (lsB [3, c + 1] ++ (32 :: (lsB [22, u + 1] ++ (32 :: (dgl lo ++ (32 :: (dgl od ++ (e1 ++ 59 :: X))))))))) := by
  unfold tS
  rw [wl8, wl2, wl0, show 97 + c = 96 + (c + 1) by omega, show 97 + u = 96 + (u + 1) by omega]
  simp only [List.append_assoc]
  rfl
theorem tP_eq (e1 : List Nat) (s : Nat) (X : List Nat) : tP e1 s ++ X = lsB [16, 1, 19, 19] ++ (32 :: (dgl s ++ (e1 ++ 59 :: X))) := by
  unfold tP
  rw [wl7]
  simp only [List.append_assoc]
  rfl
theorem ok_v : okName [22, 1, 12, 12, 5, 25] := ⟨by decide, by decide, by decide⟩
theorem ok_c : okName [3, 21, 19, 20, 15, 13, 5, 18] := ⟨by decide, by decide, by decide⟩
theorem ok_s : okName [19, 8, 15, 21, 20] := ⟨by decide, by decide, by decide⟩
theorem ok_p : okName [16, 1, 19, 19] := ⟨by decide, by decide, by decide⟩
theorem ok_m : okName [13, 1, 18, 11, 5, 20] := ⟨by decide, by decide, by decide⟩
theorem sp1 : sps [32] := sps_1 (Or.inl rfl)
section LINES9
variable {n nv nc ns t : Nat} {V : MM} {v : Wd} {e1 e2 X : List Nat}
/-- a line that the reference has read: one turn of its loop -/
theorem turn_ok {v1 v2 : Wd} (h6 : (v 15).1 0 6 = 1) (h8 : (v 15).1 0 8 = 0) (hs : FX13_statement n v = some v1) (hm : FX13_mustSign n v1 59 = some v2) (k : Nat) : FX13_readText_L25 n (k + 1) v = FX13_readText_L25 n k v2 := by
  simp only [FX13_readText_L25]
  rw [gdR h8, bnd_s, if_pos rfl, h6, if_neg (show ¬ (1 : Int32) = 0 by decide), hs, bo1_s, hm, bo1_s]
theorem line_V (hn : 1000 ≤ n) (h1 : eOne e1) (h2 : sps e2) {wd wl pr : Nat} (hnv : nv < 8) (w1 : 1 ≤ wd) (w2 : wd ≤ 60) (l1 : 1 ≤ wl) (l2 : wl ≤ 4) (p1 : 1 ≤ pr) (p2 : pr ≤ 99) (h : LN v (e2 ++ (tV e1 nv wd wl pr ++ X))) (hR : RV V v nv nc ns t) : ∃ V' v', FW_addValley V (nI wd) (nI wl) (nI pr) = some (nI nv, V') ∧ (∀ k, FX13_readText_L25 n (k + 1) v = FX13_readText_L25 n k v') ∧ LN v' X ∧ RV V' v' (nv + 1) nc ns t := by
  rw [tV_eq] at h
  obtain ⟨a6, a12, a8, va, ga, Fa, La⟩ := ln_W hn h2 ok_v (nX_sp _) h
  have Ra := hR.go Fa
  obtain ⟨b6, b12, b8, vb, gb, Fb, Lb⟩ := ln_W hn sp1 (nm_ok (a := 22) (v := nv) (by decide) hnv) (nX_sp _) (U := [32]) La
  have Rb := Ra.go Fb
  obtain ⟨vc, mc, Fc, Lc⟩ := ln_more hn (lo := 1) (hi := 60) sp1 (nX_sp _) w1 w2 (by decide) (P := 1) (Q := 60) rfl rfl (U := [32]) Lb
  have Rc := Rb.go Fc
  obtain ⟨vd, md, Fd, Ld⟩ := ln_more hn (lo := 1) (hi := 4) sp1 (nX_sp _) l1 l2 (by decide) (P := 1) (Q := 4) rfl rfl (U := [32]) Lc
  have Rd := Rc.go Fd
  obtain ⟨ve, me, Fe, Le⟩ := ln_more hn (lo := 1) (hi := 99) sp1 (h1.nx X) p1 p2 (by decide) (P := 1) (Q := 99) rfl rfl (U := [32]) Ld
  have Re := Rd.go Fe
  obtain ⟨V', vf, s1, s2, s3, s4⟩ := step_V Re hnv w1 w2 l1 l2 p1 p2
  have Lf : LN (nt vf 31 (nI nv)) (e1 ++ 59 :: X) := (Le.fr s3).fr (Fr.nt31 _ _)
  have Rf : RV V' (nt vf 31 (nI nv)) (nv + 1) nc ns t := s4.ro (nt_row _ _ _)
  obtain ⟨vg, mg, Fg, Lg⟩ := ln_semi hn h1.sp Lf
  obtain ⟨M, bk, hm⟩ := hR.nums
  obtain ⟨M2, bk2, hm2⟩ := Ra.nums
  have hVR : FX13_valleyRest n vb (lN (pk5 [22, nv + 1])) = some (nt vf 31 (nI nv)) := by
    unfold FX13_valleyRest
    rw [mc, bo2_s, md, bo2_s, me, bo2_s, gdR Le.good, bnd_s, if_pos rfl, s1, bo2_s]
    rfl
  have h88 : FX13_newLine_B88 n vb 0 (lN (pk5 [22, nv + 1])) = some (nt vf 31 (nI nv)) := by
    unfold FX13_newLine_B88
    rw [if_pos rfl, hVR, bo1_s]
  have h72 : FX13_newLine_B72 n va 0 = some (nt vf 31 (nI nv)) := by
    unfold FX13_newLine_B72
    rw [gdR b8, bnd_s, if_pos rfl, gb, bo1_s, b12, h88]
  have hfo : FX13_found n va 0 (lN (pk5 [22, nv + 1])) = some (-1) := by
    rw [found_V (by omega) hm2.bv hm2.v0 Ra.1.2.2.2.1 hnv, if_neg (by omega)]
  have h47 : FX13_newLine_B47 n va 0 = some (nt vf 31 (nI nv)) := by
    unfold FX13_newLine_B47
    rw [gdR b8, bnd_s, if_pos rfl, b12, hfo, bo1_s, if_pos rfl, h72]
  have h27 : FX13_newLine_B27 n va 0 = some (nt vf 31 (nI nv)) := by
    unfold FX13_newLine_B27
    rw [gdR b8, bnd_s, if_pos rfl, if_pos b6, h47]
  have h16 : FX13_newLine_B16 n v 0 = some (nt vf 31 (nI nv)) := by
    unfold FX13_newLine_B16
    rw [gdR a8, bnd_s, if_pos rfl, ga, bo1_s, h27]
  have hnl : FX13_newLine n v 0 = some (nt vf 31 (nI nv)) := by
    unfold FX13_newLine
    rw [gd0, show (0 : Int32).toNatClampNeg = 0 from rfl, show (v 15).1 2 0 = nI nv from hm.v0, if_neg (show ¬ nI nv = (8 : Int32) from nI_ne (a := nv) (b := 8) (by omega) (by omega) (by decide)), h16]
  have hst : FX13_statement n v = some (nt vf 31 (nI nv)) := by
    unfold FX13_statement
    rw [wdR a6 a12 a8, decide_eq_true (show lN (pk5 [22, 1, 12, 12, 5, 25]) = 739651769 from vl_n.2.1), bnd_s, if_pos rfl, hnl, bo1_s]
  exact ⟨V', vg, s2, fun k => turn_ok a6 a8 hst mg k, Lg, Rf.go Fg⟩
theorem line_C (hn : 1000 ≤ n) (h1 : eOne e1) (h2 : sps e2) {pa mo : Nat} (hnc : nc < 8) (p1 : 1 ≤ pa) (p2 : pa ≤ 240) (m2 : mo ≤ 9999) (h : LN v (e2 ++ (tC e1 nc pa mo ++ X))) (hR : RV V v nv nc ns t) : ∃ V' v', FW_addCustomer V (nI pa) (nI mo) = some (nI nc, V') ∧ (∀ k, FX13_readText_L25 n (k + 1) v = FX13_readText_L25 n k v') ∧ LN v' X ∧ RV V' v' nv (nc + 1) ns t := by
  rw [tC_eq] at h
  obtain ⟨a6, a12, a8, va, ga, Fa, La⟩ := ln_W hn h2 ok_c (nX_sp _) h
  have Ra := hR.go Fa
  obtain ⟨b6, b12, b8, vb, gb, Fb, Lb⟩ := ln_W hn sp1 (nm_ok (a := 3) (v := nc) (by decide) hnc) (nX_sp _) (U := [32]) La
  have Rb := Ra.go Fb
  obtain ⟨vc, mc, Fc, Lc⟩ := ln_more hn (lo := 1) (hi := 240) sp1 (nX_sp _) p1 p2 (by decide) (P := 1) (Q := 240) rfl rfl (U := [32]) Lb
  have Rc := Rb.go Fc
  obtain ⟨ve, me, Fe, Le⟩ := ln_more hn (lo := 0) (hi := 9999) sp1 (h1.nx X) (Nat.zero_le _) m2 (by decide) (P := 0) (Q := 9999) rfl rfl (U := [32]) Lc
  have Re := Rc.go Fe
  obtain ⟨V', vf, s1, s2, s3, s4⟩ := step_C Re hnc p1 p2 m2
  have Lf : LN (nt vf 31 (nI nc)) (e1 ++ 59 :: X) := (Le.fr s3).fr (Fr.nt31 _ _)
  have Rf : RV V' (nt vf 31 (nI nc)) nv (nc + 1) ns t := s4.ro (nt_row _ _ _)
  obtain ⟨vg, mg, Fg, Lg⟩ := ln_semi hn h1.sp Lf
  obtain ⟨M, bk, hm⟩ := hR.nums
  obtain ⟨M2, bk2, hm2⟩ := Ra.nums
  have hCR : FX13_customerRest n vb (lN (pk5 [3, nc + 1])) = some (nt vf 31 (nI nc)) := by
    unfold FX13_customerRest
    rw [mc, bo2_s, me, bo2_s, gdR Le.good, bnd_s, if_pos rfl, s1, bo2_s]
    rfl
  have h88 : FX13_newLine_B88 n vb 1 (lN (pk5 [3, nc + 1])) = some (nt vf 31 (nI nc)) := by
    unfold FX13_newLine_B88
    rw [if_neg (show ¬ (1 : Int32) = 0 by decide), hCR, bo1_s]
  have h72 : FX13_newLine_B72 n va 1 = some (nt vf 31 (nI nc)) := by
    unfold FX13_newLine_B72
    rw [gdR b8, bnd_s, if_pos rfl, gb, bo1_s, b12, h88]
  have hfo : FX13_found n va 1 (lN (pk5 [3, nc + 1])) = some (-1) := by
    rw [found_C (by omega) hm2.bc hm2.c0 Ra.1.2.2.2.1 hnc, if_neg (by omega)]
  have h47 : FX13_newLine_B47 n va 1 = some (nt vf 31 (nI nc)) := by
    unfold FX13_newLine_B47
    rw [gdR b8, bnd_s, if_pos rfl, b12, hfo, bo1_s, if_pos rfl, h72]
  have h27 : FX13_newLine_B27 n va 1 = some (nt vf 31 (nI nc)) := by
    unfold FX13_newLine_B27
    rw [gdR b8, bnd_s, if_pos rfl, if_pos b6, h47]
  have h16 : FX13_newLine_B16 n v 1 = some (nt vf 31 (nI nc)) := by
    unfold FX13_newLine_B16
    rw [gdR a8, bnd_s, if_pos rfl, ga, bo1_s, h27]
  have hnl : FX13_newLine n v 1 = some (nt vf 31 (nI nc)) := by
    unfold FX13_newLine
    rw [gd1, show (1 : Int32).toNatClampNeg = 1 from rfl, show (v 15).1 2 1 = nI nc from hm.c0, if_neg (show ¬ nI nc = (8 : Int32) from nI_ne (a := nc) (b := 8) (by omega) (by omega) (by decide)), h16]
  have hst : FX13_statement n v = some (nt vf 31 (nI nc)) := by
    unfold FX13_statement
    rw [wdR a6 a12 a8, decide_eq_false (show ¬ lN (pk5 [3, 21, 19, 20, 15, 13, 5, 18]) = 739651769 by decide +kernel), bnd_s, if_neg (by decide), wdR a6 a12 a8, decide_eq_true (show lN (pk5 [3, 21, 19, 20, 15, 13, 5, 18]) = 126286804146 from vl_n.2.2.1), bnd_s, if_pos rfl, hnl, bo1_s]
  exact ⟨V', vg, s2, fun k => turn_ok a6 a8 hst mg k, Lg, Rf.go Fg⟩
end LINES9
