set_option maxHeartbeats 400000
/-! a script is executed on both sides -/
theorem CmdR.keep {w v w' v' : Wd} {c kp : Nat → Nat} {nv nc x : Nat} (h : CmdR w v c kp nv nc x) (e12 : w' 12 = w 12) (er : ∀ j, 7 ≤ j → j ≤ 11 → (v' 15).1 j = (v 15).1 j) : CmdR w' v' c kp nv nc x := by
  unfold CmdR
  rw [e12, er 7 (by decide) (by decide), er 8 (by decide) (by decide), er 9 (by decide) (by decide), er 10 (by decide) (by decide), er 11 (by decide) (by decide)]
  exact h
def ExR (w v : Wd) (c a kp : Nat → Nat) (m nv nc : Nat) (Y : List Nat) : Prop := m ≤ 60 ∧ (v 15).1 0 28 = nI m ∧ PL w kp Y ∧ (∀ x, x < m → c x ≤ 8 ∧ (v 15).1 7 x = nI (c x)) ∧ (∀ x, x < m → c x = 7 → (v 15).1 8 x = nI (a x)) ∧ (∀ x, x < m → c x ≤ 6 → CmdR w v c kp nv nc x)
theorem ExR.keep {w v w' v' : Wd} {c a kp : Nat → Nat} {m nv nc : Nat} {Y : List Nat} (h : ExR w v c a kp m nv nc Y) (e12 : w' 12 = w 12) (er : ∀ j, 7 ≤ j → j ≤ 11 → (v' 15).1 j = (v 15).1 j) (e28 : (v' 15).1 0 28 = (v 15).1 0 28) : ExR w' v' c a kp m nv nc Y := by
  obtain ⟨h1, h2, h3, h4, h5, h6⟩ := h
  refine ⟨h1, e28.trans h2, h3.of (by rw [e12]) (by rw [e12]), fun x hx => ?_, fun x hx hc => ?_, fun x hx hc => (h6 x hx hc).keep e12 er⟩
  · rw [er 7 (by decide) (by decide)]
    exact h4 x hx
  · rw [er 8 (by decide) (by decide)]
    exact h5 x hx hc
def yt (v : Wd) (j k : Nat) (x : Int32) : Wd := sW v 15 (sI (v 15) j k x)
theorem yt_o (v : Wd) (j k : Nat) (x : Int32) {r : Nat} (h : r ≠ 15) : yt v j k x r = v r := sW_o _ _ h
theorem yt_at (v : Wd) (j k : Nat) (x : Int32) (k' : Nat) : (yt v j k x 15).1 j k' = if k' = k then x else (v 15).1 j k' := by
  unfold yt
  rw [sW_s, sI_at]
theorem yt_j (v : Wd) (j k : Nat) (x : Int32) {j' : Nat} (h : j' ≠ j) : (yt v j k x 15).1 j' = (v 15).1 j' := by
  unfold yt
  rw [sW_s, sI_o _ _ _ h]
theorem yt_2 (v : Wd) (j k : Nat) (x : Int32) : (yt v j k x 15).2 = (v 15).2 := by
  unfold yt
  rw [sW_s]
  rfl
def VF (v v' : Wd) : Prop := (∀ r, r ≠ 15 → v' r = v r) ∧ (∀ j, j ≠ 0 → j ≠ 2 → j ≠ 12 → j ≠ 13 → (v' 15).1 j = (v 15).1 j) ∧ ∀ k, k ≠ 20 → k ≠ 31 → (v' 15).1 0 k = (v 15).1 0 k
theorem VF.refl (v : Wd) : VF v v := ⟨fun _ _ => rfl, fun _ _ _ _ _ => rfl, fun _ _ _ => rfl⟩
theorem VF.trans {v v1 v2 : Wd} (h : VF v v1) (h2 : VF v1 v2) : VF v v2 := ⟨fun r hr => (h2.1 r hr).trans (h.1 r hr), fun j a c d e => (h2.2.1 j a c d e).trans (h.2.1 j a c d e), fun k a c => (h2.2.2 k a c).trans (h.2.2 k a c)⟩
theorem VF.yt (v : Wd) {j : Nat} (k : Nat) (x : Int32) (h : j = 12 ∨ j = 13) : VF v (yt v j k x) := ⟨fun r hr => yt_o v j k x hr, fun i _ _ a c => yt_j v j k x (by omega), fun q _ _ => by rw [yt_j v j k x (by omega)]⟩
theorem Fr.vf {v v' : Wd} (h : Fr v v') : VF v v' := ⟨h.1, fun j a c _ _ => h.2.2.1 j a c, fun k a c => h.2.2.2 k a c⟩
theorem exec_ok {n : Nat} (hn : 1000 ≤ n) {c a kp : Nat → Nat} {m nv nc : Nat} {Y : List Nat} : ∀ (F dp pc : Nat) (g h : Nat → Nat) (Z pre : List Nat) (w v : Wd) (t kc kr : Nat), Rem c a m F dp pc g h Z → ExR w v c a kp m nv nc Y → RMc (w 1) (row v) nv nc → dp ≤ 2 → pc ≤ 60 → (∀ i, i < dp → g i < 60 ∧ (v 15).1 12 i = nI (g i) ∧ (v 15).1 13 i = nI (h i)) → Y = pre ++ Z → pre.length = t → t ≤ 40 → 40 < kc + t → F < kr → ∃ x w' v', FX7_execute_L2 n kc w 1 (nI t) = some (x, w') ∧ FX13_doesAll_L9 n kr v (nI t) (nI dp) (nI pc) true = some (x, v') ∧ (∀ r, r ≠ 1 → w' r = w r) ∧ VF v v' ∧ RM (w' 1) (row v') := by
  intro F
  induction F with
  | zero => intro dp pc g h Z pre w v t kc kr hR; exact absurd hR id
  | succ F ih =>
    intro dp pc g h Z pre w v t kc kr hR hE hM hd hpc hst hY ht ht40 hkc hkr
    obtain ⟨kr, rfl⟩ : ∃ k', kr = k' + 1 := ⟨kr - 1, by omega⟩
    obtain ⟨kc, rfl⟩ : ∃ k', kc = k' + 1 := ⟨kc - 1, by omega⟩
    have hE0 := hE
    obtain ⟨m60, e28, hP, hc8, ha, hC⟩ := hE
    have hlen : Y.length = t + Z.length := by rw [hY, List.length_append, ht]
    have stopC : min 40 Y.length = t → FX7_execute_L2 n (kc + 1) w 1 (nI t) = some (nI t, w) := fun e => by
      simp only [FX7_execute_L2]
      rw [hP.1, e, if_pos (Int32.le_refl _)]
    unfold Rem at hR
    by_cases z : m ≤ pc
    · rw [if_pos z] at hR
      have hr : FX13_doesAll_L9 n (kr + 1) v (nI t) (nI dp) (nI pc) true = some (nI t, v) := by
        simp only [FX13_doesAll_L9]
        rw [if_pos trivial, e28, if_pos (nI_le z (by omega))]
      exact ⟨nI t, w, v, stopC (by rw [hlen, hR]; simp only [List.length_nil]; omega), hr, fun _ _ => rfl, VF.refl v, hM.rm⟩
    · rw [if_neg z] at hR
      have hlt : pc < m := by omega
      obtain ⟨q8, q7⟩ := hc8 pc hlt
      by_cases zt : t = 40
      · have hr : FX13_doesAll_L9 n (kr + 1) v (nI t) (nI dp) (nI pc) true = some (nI t, v) := by
          simp only [FX13_doesAll_L9]
          rw [if_pos trivial, e28, if_neg (nI_ge (by omega) (by omega)), zt, if_pos (show (40 : Int32) ≤ nI 40 by decide)]
        exact ⟨nI t, w, v, stopC (by omega), hr, fun _ _ => rfl, VF.refl v, hM.rm⟩
      · have hn40 : ¬ (40 : Int32) ≤ nI t := nI_ge (b := 40) (by omega) (by decide)
        have hin : inb (nI pc) 60 = true := inI (by omega) (by decide)
        have hcl : (nI pc).toNatClampNeg = pc := nI_c (by omega)
        have hne : ∀ q, q ≤ 8 → c pc ≠ q → ¬ nI (c pc) = nI q := fun q hq hz => nI_ne hz (by omega) (by omega)
        by_cases z7 : c pc = 7
        · rw [if_pos z7] at hR
          obtain ⟨hd2, a1, a2, hR⟩ := hR
          have hr : FX13_doesAll_L9 n (kr + 1) v (nI t) (nI dp) (nI pc) true = FX13_doesAll_L9 n kr (yt (yt v 12 dp (nI pc)) 13 dp (nI (a pc))) (nI t) (nI (dp + 1)) (nI (pc + 1)) true := by
            simp only [FX13_doesAll_L9]
            rw [if_pos trivial, e28, if_neg (nI_ge (by omega) (by omega)), if_neg hn40, gd_t hin, hcl, q7, z7, if_pos (show nI 7 = (7 : Int32) from rfl), gd_t (inI (by omega) (by omega)), nI_c (a := dp) (by omega), show sW v 15 (sI (v 15) 12 dp (nI pc)) = yt v 12 dp (nI pc) from rfl, bnd_s, gd_t hin, gd_t (inI (by omega) (by omega)), yt_j v 12 dp (nI pc) (show (8 : Nat) ≠ 12 by decide), ha pc hlt z7, bnd_s, nI_1, nI_1]
            rfl
          generalize hv : yt (yt v 12 dp (nI pc)) 13 dp (nI (a pc)) = v1 at hr
          have F1 : VF v v1 := by rw [← hv]; exact (VF.yt v dp _ (Or.inl rfl)).trans (VF.yt _ dp _ (Or.inr rfl))
          have j1 : ∀ j, j ≠ 12 → j ≠ 13 → (v1 15).1 j = (v 15).1 j := fun j b1 b2 => by rw [← hv, yt_j _ _ _ _ b2, yt_j _ _ _ _ b1]
          have s12 : ∀ i, (v1 15).1 12 i = if i = dp then nI pc else (v 15).1 12 i := fun i => by rw [← hv, yt_j _ _ _ _ (by decide), yt_at]
          have s13 : ∀ i, (v1 15).1 13 i = if i = dp then nI (a pc) else (v 15).1 13 i := fun i => by rw [← hv, yt_at, yt_j _ _ _ _ (by decide)]
          obtain ⟨x, w', v', e1, e2, e3, e4, e5⟩ := ih (dp + 1) (pc + 1) _ _ Z pre w v1 t (kc + 1) kr hR (hE0.keep rfl (fun j b1 b2 => j1 j (by omega) (by omega)) (by rw [j1 0 (by decide) (by decide)])) (by
            unfold row
            rw [j1 2 (by decide) (by decide)]
            exact hM) (by omega) (by omega) (fun i hi => by
            rw [s12, s13]
            by_cases y : i = dp
            · rw [if_pos y, if_pos y, y, fset_s, fset_s]
              exact ⟨by omega, rfl, rfl⟩
            · rw [if_neg y, if_neg y, fset_o _ _ _ y, fset_o _ _ _ y]
              exact hst i (by omega)) hY ht ht40 hkc (by omega)
          exact ⟨x, w', v', e1, hr.trans e2, e3, F1.trans e4, e5⟩
        · rw [if_neg z7] at hR
          by_cases z8 : c pc = 8
          · rw [if_pos z8] at hR
            obtain ⟨d1, d2, h1, h2, hR⟩ := hR
            obtain ⟨e, rfl⟩ : ∃ e, dp = e + 1 := ⟨dp - 1, by omega⟩
            rw [Nat.add_sub_cancel] at h1 h2 hR
            obtain ⟨s1, s2, s3⟩ := hst e (by omega)
            have hpd : nI (e + 1) - 1 = nI e := nI_pred e
            have h13 : (v 15).1 13 e - 1 = nI (h e - 1) := by
              rw [s3]
              exact nI_sub (b := 1) h1
            have hr : FX13_doesAll_L9 n (kr + 1) v (nI t) (nI (e + 1)) (nI pc) true = if nI (h e - 1) ≤ 0 then FX13_doesAll_L9 n kr (yt v 13 e (nI (h e - 1))) (nI t) (nI e) (nI (pc + 1)) true else FX13_doesAll_L9 n kr (yt v 13 e (nI (h e - 1))) (nI t) (nI (e + 1)) (nI (g e + 1)) true := by
              simp only [FX13_doesAll_L9]
              rw [if_pos trivial, e28, if_neg (nI_ge (by omega) (by omega)), if_neg hn40, gd_t hin, hcl, q7, z8, if_neg (show ¬ nI 8 = (7 : Int32) by decide), gd_t hin, if_pos (show nI 8 = (8 : Int32) from rfl), hpd, gd_t (inI (by omega) (by omega)), gd_t (inI (by omega) (by omega)), nI_c (a := e) (by omega), h13, show sW v 15 (sI (v 15) 13 e (nI (h e - 1))) = yt v 13 e (nI (h e - 1)) from rfl, bnd_s, gd_t (inI (by omega) (by omega)), yt_at, if_pos rfl, bnd_s, show FX13_truth true = (1 : Int32) from rfl, hpd, gd_t (inI (by omega) (by omega)), bnd_s, show FX13_truth false = (0 : Int32) from rfl, Int32.sub_zero, yt_j v 13 e _ (show (12 : Nat) ≠ 13 by decide), s2, nI_1, nI_1]
            generalize hv : yt v 13 e (nI (h e - 1)) = v1 at hr
            have F1 : VF v v1 := by rw [← hv]; exact VF.yt v e _ (Or.inr rfl)
            have j1 : ∀ j, j ≠ 13 → (v1 15).1 j = (v 15).1 j := fun j b2 => by rw [← hv, yt_j _ _ _ _ b2]
            have s13 : ∀ i, (v1 15).1 13 i = if i = e then nI (h e - 1) else (v 15).1 13 i := fun i => by rw [← hv, yt_at]
            have hE1 : ExR w v1 c a kp m nv nc Y := hE0.keep rfl (fun j b1 b2 => j1 j (by omega)) (by rw [j1 0 (by decide)])
            have hM1 : RMc (w 1) (row v1) nv nc := by
              unfold row
              rw [j1 2 (by decide)]
              exact hM
            by_cases y1 : h e = 1
            · rw [if_pos y1] at hR
              rw [if_pos (show nI (h e - 1) ≤ (0 : Int32) by rw [y1]; decide)] at hr
              obtain ⟨x, w', v', e1, e2, e3, e4, e5⟩ := ih e (pc + 1) _ _ Z pre w v1 t (kc + 1) kr hR hE1 hM1 (by omega) (by omega) (fun i hi => by
                rw [j1 12 (by decide), s13, if_neg (by omega), fset_o _ _ _ (by omega)]
                exact hst i (by omega)) hY ht ht40 hkc (by omega)
              exact ⟨x, w', v', e1, hr.trans e2, e3, F1.trans e4, e5⟩
            · rw [if_neg y1] at hR
              rw [if_neg (show ¬ nI (h e - 1) ≤ (0 : Int32) from nI_nle (by omega) (by omega))] at hr
              obtain ⟨x, w', v', e1, e2, e3, e4, e5⟩ := ih (e + 1) (g e + 1) _ _ Z pre w v1 t (kc + 1) kr hR hE1 hM1 (by omega) (by omega) (fun i hi => by
                rw [j1 12 (by decide), s13]
                by_cases y : i = e
                · rw [if_pos y, y, fset_s]
                  exact ⟨s1, s2, rfl⟩
                · rw [if_neg y, fset_o _ _ _ y]
                  exact hst i (by omega)) hY ht ht40 hkc (by omega)
              exact ⟨x, w', v', e1, hr.trans e2, e3, F1.trans e4, e5⟩
          · rw [if_neg z8] at hR
            obtain ⟨Z', eZ, hR⟩ := hR
            have n7 : ¬ (v 15).1 7 pc = 7 := by rw [q7]; exact hne 7 (by decide) z7
            have n8 : ¬ (v 15).1 7 pc = 8 := by rw [q7]; exact hne 8 (by decide) z8
            have hl2 : Y.length = t + (Z'.length + 1) := by rw [hlen, eZ, List.length_cons]
            have hgt : Y.getD t 0 = pc := by
              have e0 := apR pre Z 0
              rw [Nat.add_zero, ht] at e0
              rw [hY, e0, eZ]
              rfl
            have hpl := hP.2 t (by omega) (by omega)
            rw [hgt] at hpl
            have hCx := hC pc hlt (by omega)
            have hk30 := hCx.2.1
            obtain ⟨ns, bk, hm⟩ := hM
            obtain ⟨b, e, f1, f2, f3, f4⟩ := one_pair hn hm (by omega) hCx
            have hcx : FX7_execute_L2 n (kc + 1) w 1 (nI t) = if e = 0 then bo1 (FX1_applyTo n w 12 (5 + kp pc) 1) fun w8 => FX7_execute_L2 n kc w8 1 (nI (t + 1)) else some (nI t, w) := by
              simp only [FX7_execute_L2]
              rw [hP.1, if_neg (nI_ge (by omega) (by omega)), gd_t (inI (by omega) (by omega)), nI_c (a := t) (by omega), hpl, gd_t (inI (by omega) (by omega)), nI_c (a := kp pc) (by omega), f1, bo1_s, gd_t (decide_eq_true f2), nI_1]
            have hr : FX13_doesAll_L9 n (kr + 1) v (nI t) (nI dp) (nI pc) true = bo2 (FX13_isDone n v (nI pc)) fun x4 w5 => bnd (FX13_truth x4) fun x8 => FX13_doesAll_L9 n kr w5 (nI t + x8) (nI dp) (nI (pc + 1)) x4 := by
              simp only [FX13_doesAll_L9]
              rw [if_pos trivial, e28, if_neg (nI_ge (by omega) (by omega)), if_neg hn40, gd_t hin, hcl, if_neg n7, gd_t hin, if_neg n8, nI_1]
            rcases f4 with ⟨eb, ee, y, M', v1, g1, g2, g3, g4⟩ | ⟨eb, ee⟩
            · subst eb
              subst ee
              rw [if_pos rfl, g1, bo1_s] at hcx
              have hdn : FX13_isDone n v (nI pc) = some (true, nt v1 31 y) := by
                unfold FX13_isDone
                rw [f3, bo1_s, if_pos rfl, g2, bo2_s, bnd_s]
                rfl
              rw [hdn, bo2_s, show FX13_truth true = (1 : Int32) from rfl, bnd_s, nI_1] at hr
              have hF := g3.trans (Fr.nt31 v1 y)
              obtain ⟨x, w', v', e1, e2, e3, e4, e5⟩ := ih dp (pc + 1) g h Z' (pre ++ [pc]) (sW w 1 M') (nt v1 31 y) (t + 1) kc kr hR (hE0.keep (sW_o _ _ (by decide)) (fun j b1 b2 => hF.2.2.1 j (by omega) (by omega)) (hF.2.2.2 28 (by decide) (by decide))) (by rw [sW_s, nt_row]; exact g4) hd (by omega) (fun i hi => by
                rw [hF.2.2.1 12 (by decide) (by decide), hF.2.2.1 13 (by decide) (by decide)]
                exact hst i hi) (by rw [hY, eZ, List.append_assoc]; rfl) (by rw [List.length_append, ht]; rfl) (by omega) (by omega) (by omega)
              exact ⟨x, w', v', hcx.trans e1, hr.trans e2, fun r hr => (e3 r hr).trans (sW_o _ _ hr), hF.vf.trans e4, e5⟩
            · subst eb
              rw [if_neg ee] at hcx
              have hdn : FX13_isDone n v (nI pc) = some (false, v) := by
                unfold FX13_isDone
                rw [f3, bo1_s, if_neg (by decide)]
              obtain ⟨kr, rfl⟩ : ∃ k', kr = k' + 1 := ⟨kr - 1, by omega⟩
              rw [hdn, bo2_s, show FX13_truth false = (0 : Int32) from rfl, bnd_s, Int32.add_zero] at hr
              have hr2 : FX13_doesAll_L9 n (kr + 1) v (nI t) (nI dp) (nI (pc + 1)) false = some (nI t, v) := by
                simp only [FX13_doesAll_L9]
                rw [if_neg Bool.false_ne_true]
              exact ⟨nI t, w, v, hcx, hr.trans hr2, fun _ _ => rfl, VF.refl v, nv, nc, ns, bk, hm⟩
