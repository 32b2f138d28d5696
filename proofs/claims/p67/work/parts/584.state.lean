set_option maxHeartbeats 400000
/-! both readings side by side -/
def TG (b : Nat → Nat) (f l : Nat) (w v : Wd) (i : Nat) : Prop := TA w b f ∧ TKA w b f l ∧ i ≤ l ∧ (w 10).1 0 5 = nI i ∧ (w 10).1 0 7 = 0 ∧ (w 10).1 0 8 = -1 ∧ RB v b f (P b f i) ∧ (v 15).1 0 8 = 0 ∧ (v 15).1 0 9 = -1
def TXw (b : Nat → Nat) (f l : Nat) (w v : Wd) : Prop := TA w b f ∧ TKA w b f l ∧ ∃ i e o, i ≤ l ∧ 1 ≤ e ∧ e ≤ 6 ∧ (w 10).1 0 5 = nI i ∧ (w 10).1 0 7 = nI e ∧ (w 10).1 0 8 = o ∧ (v 15).1 0 8 = nI e ∧ (v 15).1 0 9 = o
def St (b : Nat → Nat) (f l : Nat) (w v : Wd) (s : Option Nat) : Prop := match s with
  | some i => TG b f l w v i
  | none => TXw b f l w v
def CF (w w' : Wd) : Prop := (∀ r, r ≠ 10 → w' r = w r)
def RF (v v' : Wd) : Prop := (∀ r, r ≠ 15 → v' r = v r) ∧ (∀ j, j ≠ 0 → (v' 15).1 j = (v 15).1 j) ∧ ∀ k, k < 4 ∨ 9 < k → (v' 15).1 0 k = (v 15).1 0 k
theorem RF.refl (v : Wd) : RF v v := ⟨fun _ _ => rfl, fun _ _ => rfl, fun _ _ => rfl⟩
theorem RF.trans {v v1 v2 : Wd} (h : RF v v1) (h2 : RF v1 v2) : RF v v2 := ⟨fun r hr => (h2.1 r hr).trans (h.1 r hr), fun j a => (h2.2.1 j a).trans (h.2.1 j a), fun k a => (h2.2.2 k a).trans (h.2.2 k a)⟩
theorem GoF.rf {v v' : Wd} (h : GoF v v') : RF v v' := ⟨h.1, h.2.1, fun k hk => h.2.2 k (by omega) (by omega) (by omega) (by omega)⟩
theorem RF.row {v v' : Wd} (h : RF v v') : row v' = row v := h.2.1 2 (by decide)
theorem TKA.of {w w' : Wd} {b : Nat → Nat} {f l : Nat} (h : TKA w b f l) (h4 : (w' 10).1 0 4 = (w 10).1 0 4) (h2 : (w' 10).1 2 = (w 10).1 2) (h3 : (w' 10).1 3 = (w 10).1 3) (hv : (w' 10).2 = (w 10).2) : TKA w' b f l := ⟨h.1, h4.trans h.2.1, h.2.2.1, h.2.2.2.1, fun i hi => (h.2.2.2.2 i hi).of (by rw [h2]) (by rw [h3]) (by rw [hv])⟩
theorem TXw.at {b : Nat → Nat} {f l : Nat} {w v : Wd} (h : TXw b f l w v) : ∃ i e, i ≤ 600 ∧ 1 ≤ e ∧ e ≤ 6 ∧ (w 10).1 0 5 = nI i ∧ ¬ (w 10).1 0 7 = 0 ∧ ¬ (v 15).1 0 8 = 0 ∧ ¬ (v 15).1 0 8 ≤ 0 := by
  obtain ⟨-, hK, i, e, o, h1, h2, h3, h4, h5, h6, h7, h8⟩ := h
  have := hK.1
  refine ⟨i, e, by omega, h2, h3, h4, ?_, ?_, ?_⟩
  · rw [h5]; exact nI_ne (b := 0) (by omega) (by omega) (by decide)
  · rw [h7]; exact nI_ne (b := 0) (by omega) (by omega) (by decide)
  · rw [h7]; exact nI_nle (by omega) (by omega)
theorem fail_f (w : Wd) (e : Int32) : FX9_failIf w false e = some w := rfl
theorem fail_x {b : Nat → Nat} {f l : Nat} {w v : Wd} (h : TXw b f l w v) (q : Bool) (e : Int32) : FX9_failIf w q e = some w := by
  obtain ⟨i, e', -, -, -, -, h7, -, -⟩ := h.at
  unfold FX9_failIf
  by_cases z : q = true
  · rw [if_pos z, if_neg h7]
  · rw [if_neg z]
theorem skip_x {b : Nat → Nat} {f l : Nat} {w v : Wd} (h : TXw b f l w v) : FX9_skip w = w := by
  obtain ⟨i, e', -, -, -, -, h7, -, -⟩ := h.at
  unfold FX9_skip
  rw [if_neg h7]
theorem good_x {b : Nat → Nat} {f l : Nat} {w v : Wd} (h : TXw b f l w v) : FX13_isGood v = false ∧ FX9_hasFailed w = true := by
  obtain ⟨i, e', -, -, -, -, h7, h8, -⟩ := h.at
  unfold FX13_isGood FX9_hasFailed
  rw [if_neg h7, if_neg h8]
  exact ⟨rfl, rfl⟩
theorem good_g {b : Nat → Nat} {f l i : Nat} {w v : Wd} (h : TG b f l w v i) : FX13_isGood v = true ∧ FX9_hasFailed w = false := by
  unfold FX13_isGood FX9_hasFailed
  rw [if_pos h.2.2.2.2.1, if_pos h.2.2.2.2.2.2.2.1]
  exact ⟨rfl, rfl⟩
/-- both find the same error -/
theorem fail_pair {b : Nat → Nat} {f l i : Nat} {w v : Wd} (h : TG b f l w v i) {e : Nat} (e1 : 1 ≤ e) (e2 : e ≤ 6) (h4 : tK b f (P b f i) = 4 → e = 1) : ∃ w', FX9_failIf w true (nI e) = some w' ∧ CF w w' ∧ RF v (FX13_wrong v (nI e)) ∧ TXw b f l w' (FX13_wrong v (nI e)) := by
  obtain ⟨hA, hK, hi, a5, a7, a8, hR, r8, r9⟩ := h
  have hl := hK.1
  have e3 : (w 10).1 3 i = nI (P b f i) := (hK.2.2.2.2 i hi).2.1
  generalize hw' : ct (ct w 0 7 (nI e)) 0 8 (nI (P b f i)) = w'
  have cf : FX9_failIf w true (nI e) = some w' := by
    have c5 : (ct w 0 7 (nI e) 10).1 0 5 = nI i := by rw [ct_at, if_neg (by decide)]; exact a5
    have c3 : (ct w 0 7 (nI e) 10).1 3 i = nI (P b f i) := by rw [ct_j _ _ _ _ (by decide)]; exact e3
    unfold FX9_failIf
    rw [if_pos rfl, if_pos a7, show sW w 10 (sI (w 10) 0 7 (nI e)) = ct w 0 7 (nI e) from rfl, bnd_s, c5, gd_t (inI (by omega) (by omega)), nI_c (by omega), c3, bnd_s]
    exact congrArg some hw'
  have co : CF w w' := fun r hr => by rw [← hw', ct_o _ _ _ _ hr, ct_o _ _ _ _ hr]
  have ck : ∀ k, k ≠ 7 → k ≠ 8 → (w' 10).1 0 k = (w 10).1 0 k := fun k a c => by rw [← hw', ct_at, if_neg c, ct_at, if_neg a]
  have cj : ∀ j, j ≠ 0 → (w' 10).1 j = (w 10).1 j := fun j hj => by rw [← hw', ct_j _ _ _ _ hj, ct_j _ _ _ _ hj]
  have c2 : (w' 10).2 = (w 10).2 := by rw [← hw', ct_2, ct_2]
  have c7 : (w' 10).1 0 7 = nI e := by rw [← hw', ct_at, if_neg (by decide), ct_at, if_pos rfl]
  have c8 : (w' 10).1 0 8 = nI (P b f i) := by rw [← hw', ct_at, if_pos rfl]
  have ew : FX13_wrong v (nI e) = nt (nt v 8 (nI e)) 9 (nI (P b f i)) := by
    have q5 : ∀ x, (nt v 8 x 15).1 0 5 = nI (P b f i) := fun x => by rw [nt_k, if_neg (by decide)]; exact hR.2.2.1
    unfold FX13_wrong
    rw [r8, if_pos (Int32.le_refl _), hR.2.2.2.1]
    by_cases z : tK b f (P b f i) = 4
    · have e' := h4 z
      subst e'
      rw [z, if_pos (show nI 4 = (4 : Int32) from rfl), show sW v 15 (sI (v 15) 0 8 1) = nt v 8 1 from rfl, bnd_s, q5, bnd_s]
      rfl
    · have hk := tK_le (b := b) (f := f) (p := P b f i)
      have hz : ¬ nI (tK b f (P b f i)) = (4 : Int32) := nI_ne (b := 4) z (by omega) (by decide)
      rw [if_neg hz, show sW v 15 (sI (v 15) 0 8 (nI e)) = nt v 8 (nI e) from rfl, bnd_s, q5, bnd_s]
      rfl
  refine ⟨w', cf, co, ?_, hA.of (ck 6 (by decide) (by decide)) (cj 1 (by decide)), hK.of (ck 4 (by decide) (by decide)) (cj 2 (by decide)) (cj 3 (by decide)) c2, i, e, _, hi, e1, e2, (ck 5 (by decide) (by decide)).trans a5, c7, c8, ?_, ?_⟩
  · rw [ew]
    exact ⟨fun r hr => by rw [nt_o _ _ _ hr, nt_o _ _ _ hr], fun j hj => by rw [nt_j _ _ _ hj, nt_j _ _ _ hj], fun k hk => by rw [nt_k, if_neg (by omega), nt_k, if_neg (by omega)]⟩
  · rw [ew, nt_k, if_neg (by decide), nt_k, if_pos rfl]
  · rw [ew, nt_k, if_pos rfl]
theorem wrong_x {b : Nat → Nat} {f l : Nat} {w v : Wd} (h : TXw b f l w v) (e : Int32) : FX13_wrong v e = v := by
  obtain ⟨i, e', -, -, -, -, -, -, h8⟩ := h.at
  unfold FX13_wrong
  rw [if_neg h8]
/-- both go on to the next token -/
theorem skip_pair {n : Nat} (hn : 1000 ≤ n) {b : Nat → Nat} {f l i : Nat} {w v : Wd} (h : TG b f l w v i) (hk : ¬ tK b f (P b f i) = 0) : i < l ∧ CF w (FX9_skip w) ∧ ∃ v', FX13_goOnRead n v = some v' ∧ RF v v' ∧ TG b f l (FX9_skip w) v' (i + 1) := by
  obtain ⟨hA, hK, hi, a5, a7, a8, hR, r8, r9⟩ := h
  have hl := hK.1
  have hf := hA.1
  have hil : i < l := by
    by_cases z : i < l
    · exact z
    · exfalso
      apply hk
      rw [show i = l by omega, hK.2.2.1]
      exact tK_0.mpr (Nat.le_refl _)
  have hp : P b f i < f := hK.2.2.2.1 i hil
  have es : FX9_skip w = ct w 0 5 (nI (i + 1)) := by
    unfold FX9_skip
    rw [if_pos a7, hK.2.1, a5, if_neg (nI_ge hil (by omega)), nI_1, bnd_s]
    rfl
  have hE := tE_gt (b := b) hp
  have h4 : (v 15).1 0 4 = nI (tE b f (P b f i)) := by rw [hR.2.1, if_pos hp]
  obtain ⟨v', c1, c2, c3⟩ := rGo hn (f - tE b f (P b f i)) (tE b f (P b f i)) n v (by omega) (by omega) hR.1 h4
  have eP : goto (pS b) f (tE b f (P b f i)) = P b f (i + 1) := by
    show _ = (if P b f i < f then goto (pS b) f (tE b f (P b f i)) else P b f i)
    rw [if_pos hp]
  rw [eP] at c3
  rw [es]
  refine ⟨hil, fun r hr => ct_o _ _ _ _ hr, v', c1, c2.rf, hA.of ?_ ?_, hK.of ?_ ?_ ?_ ?_, by omega, ?_, ?_, ?_, c3, ?_, ?_⟩
  · rw [ct_at, if_neg (by decide)]
  · rw [ct_j _ _ _ _ (by decide)]
  · rw [ct_at, if_neg (by decide)]
  · rw [ct_j _ _ _ _ (by decide)]
  · rw [ct_j _ _ _ _ (by decide)]
  · rw [ct_2]
  · rw [ct_at, if_pos rfl]
  · rw [ct_at, if_neg (by decide)]; exact a7
  · rw [ct_at, if_neg (by decide)]; exact a8
  · rw [c2.2.2 8 (by decide) (by decide) (by decide) (by decide)]; exact r8
  · rw [c2.2.2 9 (by decide) (by decide) (by decide) (by decide)]; exact r9
-- signs
theorem cSign {b : Nat → Nat} {f l i : Nat} {w v : Wd} (h : TG b f l w v i) {c : Nat} (hc : c < 256) : FX9_isSign w (nI c) = some (decide (tK b f (P b f i) = 3 ∧ b (P b f i) = c)) := by
  obtain ⟨hA, hK, hi, a5, a7, a8, hR, r8, r9⟩ := h
  have hl := hK.1
  obtain ⟨t1, t2, t3, t4, t5⟩ := hK.2.2.2.2 i hi
  have hk := tK_le (b := b) (f := f) (p := P b f i)
  unfold FX9_isSign
  rw [a5, gd_t (inI (by omega) (by omega)), nI_c (by omega), t1]
  by_cases z : tK b f (P b f i) = 3
  · have hb := tK_3 z
    rw [z, if_pos (show nI 3 = (3 : Int32) from rfl), gd_t (inI (by omega) (by omega)), t5 z, nI_L (by omega)]
    by_cases z2 : b (P b f i) = c
    · rw [if_pos ((lg_cmp_eq _ _).mpr (by rw [z2])), decide_eq_true ⟨rfl, z2⟩]
    · rw [if_neg (fun y => z2 ((lN_inj (by omega) (by omega)).mp ((lg_cmp_eq _ _).mp y))), decide_eq_false (fun y => z2 y.2)]
  · have hz : ¬ nI (tK b f (P b f i)) = (3 : Int32) := nI_ne (b := 3) z (by omega) (by decide)
    rw [if_neg hz, decide_eq_false (fun y => z y.1)]
theorem rSign {b : Nat → Nat} {f l i : Nat} {w v : Wd} (h : TG b f l w v i) {c : Nat} (hc : c < 256) : FX13_isSign v (nI c) = decide (tK b f (P b f i) = 3 ∧ b (P b f i) = c) := by
  obtain ⟨hA, hK, hi, a5, a7, a8, hR, r8, r9⟩ := h
  have hk := tK_le (b := b) (f := f) (p := P b f i)
  unfold FX13_isSign
  rw [if_pos r8, hR.2.2.2.1]
  by_cases z : tK b f (P b f i) = 3
  · have hb := tK_3 z
    rw [z, if_pos (show nI 3 = (3 : Int32) from rfl), hR.2.2.2.2.2.2 z]
    by_cases z2 : b (P b f i) = c
    · rw [if_pos (by rw [z2]), decide_eq_true ⟨rfl, z2⟩]
    · rw [if_neg (nI_ne z2 (by omega) (by omega)), decide_eq_false (fun y => z2 y.2)]
  · have hz : ¬ nI (tK b f (P b f i)) = (3 : Int32) := nI_ne (b := 3) z (by omega) (by decide)
    rw [if_neg hz, decide_eq_false (fun y => z y.1)]
theorem cSign_x {b : Nat → Nat} {f l : Nat} {w v : Wd} (h : TXw b f l w v) (c : Int32) : ∃ q, FX9_isSign w c = some q := by
  obtain ⟨i, e', hi, -, -, h5, -, -, -⟩ := h.at
  unfold FX9_isSign
  rw [h5, gd_t (inI (by omega) (by omega)), gd_t (inI (by omega) (by omega))]
  by_cases z : (w 10).1 2 ((nI i).toNatClampNeg) = 3
  · rw [if_pos z]
    by_cases z2 : lg_cmp ((w 10).2 4 ((nI i).toNatClampNeg)) c.toInt64 = 0
    · rw [if_pos z2]; exact ⟨_, rfl⟩
    · rw [if_neg z2]; exact ⟨_, rfl⟩
  · rw [if_neg z]; exact ⟨_, rfl⟩
theorem sign_pair {n : Nat} (hn : 1000 ≤ n) {b : Nat → Nat} {f l : Nat} {w v : Wd} {s : Option Nat} (h : St b f l w v s) {c : Nat} (hc : c < 256) : ∃ w' v' s', FX9_takeSign w (nI c) = some w' ∧ FX13_mustSign n v (nI c) = some v' ∧ CF w w' ∧ RF v v' ∧ St b f l w' v' s' ∧ ∀ j, s' = some j → ∃ i, s = some i ∧ j = i + 1 ∧ i < l := by
  cases s with
  | none =>
    have h' : TXw b f l w v := h
    obtain ⟨q, eq⟩ := cSign_x h' (nI c)
    refine ⟨w, v, none, ?_, ?_, fun _ _ => rfl, RF.refl v, h, fun j hj => by cases hj⟩
    · unfold FX9_takeSign FX9_expectSign
      rw [eq, bo1_s]
      simp only [fail_x h', bo1_s, ite_self, skip_x h', bnd_s]
    · unfold FX13_mustSign
      rw [(good_x h').1, bnd_s, if_neg (by decide), bnd_s, if_neg (by decide)]
  | some i =>
    have h' : TG b f l w v i := h
    by_cases z : tK b f (P b f i) = 3 ∧ b (P b f i) = c
    · obtain ⟨k1, k2, v', k3, k4, k5⟩ := skip_pair hn h' (by rw [z.1]; decide)
      refine ⟨FX9_skip w, v', some (i + 1), ?_, ?_, k2, k4, k5, fun j hj => ⟨i, rfl, (Option.some.inj hj).symm, k1⟩⟩
      · unfold FX9_takeSign FX9_expectSign
        rw [cSign h' hc, decide_eq_true z, bo1_s, if_pos rfl, fail_f, bo1_s, bo1_s, bnd_s]
      · unfold FX13_mustSign
        rw [(good_g h').1, bnd_s, if_pos rfl, rSign h' hc, decide_eq_true z, bnd_s, if_pos rfl, bnd_s, if_pos rfl, k3, bo1_s]
    · obtain ⟨w', c1, c2, c3, c4⟩ := fail_pair h' (e := 1) (by decide) (by decide) (fun _ => rfl)
      have c1' : FX9_failIf w true 1 = some w' := c1
      refine ⟨w', FX13_wrong v (nI 1), none, ?_, ?_, c2, c3, c4, fun j hj => by cases hj⟩
      · unfold FX9_takeSign FX9_expectSign
        rw [cSign h' hc, decide_eq_false z, bo1_s, if_neg (by decide), c1', bo1_s, bo1_s, skip_x c4, bnd_s]
      · unfold FX13_mustSign
        rw [(good_g h').1, bnd_s, if_pos rfl, rSign h' hc, decide_eq_false z, bnd_s, if_neg (by decide), show FX13_wrong v 1 = FX13_wrong v (nI 1) from rfl, bnd_s, (good_x c4).1, bnd_s, if_neg (by decide)]
-- numbers
theorem cNum {b : Nat → Nat} {f l i : Nat} {w v : Wd} (h : TG b f l w v i) : FX9_number w = some (if tK b f (P b f i) = 2 then nI (tN b f (P b f i)) else -1) := by
  obtain ⟨hA, hK, hi, a5, a7, a8, hR, r8, r9⟩ := h
  have hl := hK.1
  obtain ⟨t1, t2, t3, t4, t5⟩ := hK.2.2.2.2 i hi
  have hk := tK_le (b := b) (f := f) (p := P b f i)
  unfold FX9_number
  rw [a5, gd_t (inI (by omega) (by omega)), nI_c (by omega), t1, gd_t (inI (by omega) (by omega))]
  by_cases z : tK b f (P b f i) = 2
  · have hb := tN_lt z
    rw [z, if_pos (show nI 2 = (2 : Int32) from rfl), if_pos rfl, t4 z, L_nI (by omega)]
  · have hz : ¬ nI (tK b f (P b f i)) = (2 : Int32) := nI_ne (b := 2) z (by omega) (by decide)
    rw [if_neg hz, if_neg z]
theorem cKind {b : Nat → Nat} {f l i : Nat} {w v : Wd} (h : TG b f l w v i) : i ≤ 600 ∧ (w 10).1 0 5 = nI i ∧ (w 10).1 2 i = nI (tK b f (P b f i)) := by
  obtain ⟨hA, hK, hi, a5, a7, a8, hR, r8, r9⟩ := h
  have hl := hK.1
  exact ⟨by omega, a5, (hK.2.2.2.2 i hi).1⟩
theorem cNum_x {b : Nat → Nat} {f l : Nat} {w v : Wd} (h : TXw b f l w v) : ∃ x, FX9_number w = some x := by
  obtain ⟨i, e', hi, -, -, h5, -, -, -⟩ := h.at
  unfold FX9_number
  rw [h5, gd_t (inI (by omega) (by omega)), gd_t (inI (by omega) (by omega))]
  by_cases z : (w 10).1 2 ((nI i).toNatClampNeg) = 2
  · rw [if_pos z]; exact ⟨_, rfl⟩
  · rw [if_neg z]; exact ⟨_, rfl⟩
theorem expect_x {b : Nat → Nat} {f l : Nat} {w v : Wd} (h : TXw b f l w v) (lo hi : Int32) : FX9_expectNumber w lo hi = some w := by
  obtain ⟨x, hx⟩ := cNum_x h
  obtain ⟨i, e', hi', -, -, h5, -, -, -⟩ := h.at
  unfold FX9_expectNumber
  rw [h5, gd_t (inI (by omega) (by omega))]
  simp only [fail_x h, bo1_s, hx, bnd_s, ite_self]
/-- a number of a range, not yet gone on from -/
theorem looks_pair {b : Nat → Nat} {f l i : Nat} {w v : Wd} (h : TG b f l w v i) (lo hi : Int32) : ∃ w' v' s' y, FX9_expectNumber w lo hi = some w' ∧ FX13_looks v lo hi = (y, v') ∧ CF w w' ∧ RF v v' ∧ St b f l w' v' s' ∧ (s' = none ∨ (s' = some i ∧ w' = w ∧ v' = v ∧ tK b f (P b f i) = 2 ∧ y = nI (tN b f (P b f i)) ∧ FX12_isWithin (nI (tN b f (P b f i))) lo hi = true)) := by
  obtain ⟨k1, k2, k3⟩ := cKind h
  have hN := cNum h
  have hk := tK_le (b := b) (f := f) (p := P b f i)
  obtain ⟨hA, hK, hi', a5, a7, a8, hR, r8, r9⟩ := h
  have h : TG b f l w v i := ⟨hA, hK, hi', a5, a7, a8, hR, r8, r9⟩
  by_cases z : tK b f (P b f i) = 2
  · have hb := tN_lt z
    rw [if_pos z] at hN
    have c2 : (w 10).1 2 i = 2 := by rw [k3, z]; rfl
    have q6 : (v 15).1 0 6 = 2 := by rw [hR.2.2.2.1, z]; rfl
    have q7 := hR.2.2.2.2.2.1 z
    by_cases z2 : FX12_isWithin (nI (tN b f (P b f i))) lo hi = true
    · refine ⟨w, v, some i, nI (tN b f (P b f i)), ?_, ?_, fun _ _ => rfl, RF.refl v, h, Or.inr ⟨rfl, rfl, rfl, z, rfl, z2⟩⟩
      · unfold FX9_expectNumber
        rw [k2, gd_t (inI (by omega) (by omega)), nI_c (by omega), if_pos c2, fail_f, bo1_s, hN, bo1_s, z2, bnd_s, if_pos rfl, fail_f, bo1_s]
      · unfold FX13_looks
        rw [(good_g h).1, bnd_s, if_pos rfl, if_pos q6, bnd_s, if_pos rfl, q7, isIn_w, z2, bnd_s, if_pos rfl]
    · obtain ⟨w', c1, c3, c4, c5⟩ := fail_pair h (e := 2) (by decide) (by decide) (fun y => absurd (z.symm.trans y) (by decide))
      have c1' : FX9_failIf w true 2 = some w' := c1
      refine ⟨w', FX13_wrong v (nI 2), none, ((FX13_wrong v (nI 2)) 15).1 0 7, ?_, ?_, c3, c4, c5, Or.inl rfl⟩
      · unfold FX9_expectNumber
        rw [k2, gd_t (inI (by omega) (by omega)), nI_c (by omega), if_pos c2, fail_f, bo1_s, hN, bo1_s, bnd_s, if_neg z2, c1', bo1_s]
      · unfold FX13_looks
        rw [(good_g h).1, bnd_s, if_pos rfl, if_pos q6, bnd_s, if_pos rfl, q7, isIn_w, bnd_s, if_neg z2, bnd_s]
        rfl
  · obtain ⟨w', c1, c3, c4, c5⟩ := fail_pair h (e := 1) (by decide) (by decide) (fun _ => rfl)
    have c1' : FX9_failIf w true 1 = some w' := c1
    have c2 : ¬ (w 10).1 2 i = 2 := by rw [k3]; exact nI_ne (b := 2) z (by omega) (by decide)
    have q6 : ¬ (v 15).1 0 6 = 2 := by rw [hR.2.2.2.1]; exact nI_ne (b := 2) z (by omega) (by decide)
    obtain ⟨x, hx⟩ := cNum_x c5
    refine ⟨w', FX13_wrong v (nI 1), none, ((FX13_wrong v (nI 1)) 15).1 0 7, ?_, ?_, c3, c4, c5, Or.inl rfl⟩
    · unfold FX9_expectNumber
      rw [k2, gd_t (inI (by omega) (by omega)), nI_c (by omega), if_neg c2, c1', bo1_s, hx, bo1_s]
      simp only [fail_x c5, bo1_s, bnd_s, ite_self]
    · unfold FX13_looks
      rw [(good_g h).1, bnd_s, if_pos rfl, if_neg q6, show FX13_wrong v 1 = FX13_wrong v (nI 1) from rfl, bnd_s, (good_x c5).1, bnd_s, if_neg (by decide)]
theorem num_pair {n : Nat} (hn : 1000 ≤ n) {b : Nat → Nat} {f l : Nat} {w v : Wd} {s : Option Nat} (h : St b f l w v s) {lo hi : Nat} (hlo : lo ≤ 10000) (hhi : hi ≤ 10000) : ∃ x y w' v' s', FX9_takeNumber w (nI lo) (nI hi) = some (x, w') ∧ FX13_more n v (nI lo) (nI hi) = some (y, v') ∧ CF w w' ∧ RF v v' ∧ St b f l w' v' s' ∧ ∀ j, s' = some j → ∃ i q, s = some i ∧ j = i + 1 ∧ i < l ∧ lo ≤ q ∧ q ≤ hi ∧ x = nI q ∧ y = nI q := by
  cases s with
  | none =>
    have h' : TXw b f l w v := h
    obtain ⟨x, hx⟩ := cNum_x h'
    refine ⟨x, nI lo, w, v, none, ?_, ?_, fun _ _ => rfl, RF.refl v, h, fun j hj => by cases hj⟩
    · unfold FX9_takeNumber
      rw [hx, bo1_s, expect_x h', bo1_s, skip_x h', bnd_s]
    · unfold FX13_more
      rw [(good_x h').1, bnd_s, if_neg (by decide)]
  | some i =>
    have h' : TG b f l w v i := h
    obtain ⟨w', v', s', y, c1, c2, c3, c4, c5, c6⟩ := looks_pair h' (nI lo) (nI hi)
    have hN := cNum h'
    have em : FX13_more n v (nI lo) (nI hi) = bo2 (FX13_number n v (nI lo) (nI hi)) fun x5 w6 => some (x5, w6) := by
      unfold FX13_more
      rw [(good_g h').1, bnd_s, if_pos rfl]
    rcases c6 with e | ⟨e, rfl, rfl, z, rfl, z2⟩
    · subst e
      have c5' : TXw b f l w' v' := c5
      generalize (if tK b f (P b f i) = 2 then nI (tN b f (P b f i)) else -1) = x at hN
      refine ⟨x, y, w', v', none, ?_, ?_, c3, c4, c5, fun j hj => by cases hj⟩
      · unfold FX9_takeNumber
        rw [hN, bo1_s, c1, bo1_s, skip_x c5', bnd_s]
      · rw [em]
        unfold FX13_number
        rw [c2, bnd2_s, (good_x c5').1, bnd_s, if_neg (by decide), bo2_s]
    · obtain ⟨q, q1, q2, q3⟩ := wi_rng hlo hhi z2
      obtain ⟨k1, k2, v2, k3, k4, k5⟩ := skip_pair hn h' (by rw [z]; decide)
      rw [if_pos z] at hN
      refine ⟨nI (tN b f (P b f i)), nI (tN b f (P b f i)), FX9_skip w', v2, some (i + 1), ?_, ?_, k2, k4, k5, fun j hj => ⟨i, q, rfl, (Option.some.inj hj).symm, k1, q1, q2, q3, q3⟩⟩
      · unfold FX9_takeNumber
        rw [hN, bo1_s, c1, bo1_s, bnd_s]
      · rw [em]
        unfold FX13_number
        rw [c2, bnd2_s, (good_g h').1, bnd_s, if_pos rfl, k3, bo1_s, bo2_s]
