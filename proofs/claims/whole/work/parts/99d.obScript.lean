set_option maxHeartbeats 400000
/-! runScript -/
def RdF3 (v0 v1 : Wd) : Prop := (∀ r, r ≠ 15 → v1 r = v0 r) ∧ (∀ j, j ≠ 0 → j < 7 ∨ 11 < j → (v1 15).1 j = (v0 15).1 j) ∧ (∀ k, k < 2 ∨ 9 < k → k ≠ 28 → k ≠ 29 → k ≠ 30 → (v1 15).1 0 k = (v0 15).1 0 k) ∧ (v1 15).1 0 2 = 0
theorem script_all {n : Nat} (hn : 1000 ≤ n) {w : Wd} (h : Good w) {nv nc ns : Nat} {bk : Nat → Nat} (hm : RelM (w 1) (row w) nv nc ns bk) {v0 : Wd} (h15 : v0 15 = w 15) : ∃ ok w1 v1 b f l, FX7_read n w 1 = some (ok, w1) ∧ FX13_runScript n v0 = FX13_runScript_B82 n v1 ∧ CF5 w w1 ∧ RdF3 v0 v1 ∧ Fin3 b f l nv nc ok w1 v1 := by
  obtain ⟨f, hf, l1, l2, l3⟩ := h.t.bytes
  generalize hw5 : et (et (et w 0 4 0) 0 5 0) 0 6 0 = w5
  have o5 : ∀ r, r ≠ 12 → w5 r = w r := fun r hr => by rw [← hw5, et_o _ _ _ _ hr, et_o _ _ _ _ hr, et_o _ _ _ _ hr]
  have k5 : ∀ k, (w5 12).1 0 k = if k = 6 then 0 else if k = 5 then 0 else if k = 4 then 0 else (w 12).1 0 k := fun k => by rw [← hw5, et_at, et_at, et_at]
  have T5 : TA w5 (bufb w) f := ⟨hf, by rw [o5 10 (by decide)]; exact l1, fun j hj => by rw [o5 10 (by decide)]; exact ⟨(l3 j hj).1, (l3 j hj).2.2⟩⟩
  obtain ⟨w8, l, e8, o8, T8, s5, s7, s8, K8⟩ := open_ok hn T5
  obtain ⟨vb, eB, b1, b2, b3, b4, b5, b6, b7⟩ := beginsText_ok hn (v := v0) (b := bufb w) (f := f) hf (by rw [h15]; exact l2) (fun j hj => by rw [h15]; exact ⟨(l3 j hj).1, (l3 j hj).2.1⟩)
  generalize hV8 : nt (nt (nt vb 28 0) 29 0) 30 0 = v8
  have k8 : ∀ k, (v8 15).1 0 k = if k = 30 then 0 else if k = 29 then 0 else if k = 28 then 0 else (vb 15).1 0 k := fun k => by rw [← hV8, nt_k, nt_k, nt_k]
  have f8 : RF3 vb v8 := by
    rw [← hV8]
    exact ((RF3.nt _ _ (Or.inl rfl)).trans (RF3.nt _ _ (Or.inr (Or.inl rfl)))).trans (RF3.nt _ _ (Or.inr (Or.inr rfl)))
  have t0 : TG (bufb w) f l w8 vb 0 := ⟨T8, K8, Nat.zero_le _, s5.trans nI_0.symm, s7, s8, b5, b6, b7⟩
  have t8 : TG (bufb w) f l w8 v8 0 := by
    rw [← hV8]
    exact St.nt (s := some 0) (St.nt (s := some 0) (St.nt (s := some 0) t0 _ (by decide)) _ (by decide)) _ (by decide)
  have hr8 : row v8 = row w := by
    rw [f8.row]
    unfold row
    rw [b2 2 (by decide), h15]
  have hm8 : RelM (w8 1) (row v8) nv nc ns bk := by
    rw [o8 1 (by decide), o5 1 (by decide), hr8]
    exact hm
  have hS : SGE w8 v8 nv nc := ⟨_, _, _, _, _, _, _, _, _, _, SG.start (by rw [o8 12 (by decide), k5]; rfl) (by rw [o8 12 (by decide), k5]; rfl) (by rw [o8 12 (by decide), k5]; rfl) (by rw [k8]; rfl) (by rw [k8]; rfl) (by rw [k8]; rfl)⟩
  have hl : l ≤ 600 := K8.1
  obtain ⟨ok, w1, v1, x1, x2, x3, x4, x5⟩ := script_loop hn l 0 0 n n n w8 v8 (by omega) (by omega) (by omega) (by omega) (by omega) (by omega) t8 hm8 hS
  refine ⟨ok, w1, v1, bufb w, f, l, ?_, ?_, ?_, ⟨?_, ?_, ?_, ?_⟩, x5⟩
  · unfold FX7_read
    rw [bnd_s, bnd_s, bnd_s, show sW (sW (sW w 12 (sI (w 12) 0 4 0)) 12 (sI (sW w 12 (sI (w 12) 0 4 0) 12) 0 5 0)) 12 (sI (sW (sW w 12 (sI (w 12) 0 4 0)) 12 (sI (sW w 12 (sI (w 12) 0 4 0) 12) 0 5 0) 12) 0 6 0) = w5 from hw5, e8, bo1_s]
    exact x1
  · have hcl : FX13_closes_L0 n n v8 = some v8 := by
      obtain ⟨k, rfl⟩ : ∃ k', n = k' + 1 := ⟨n - 1, by omega⟩
      simp only [FX13_closes_L0]
      rw [k8, if_pos rfl, if_pos (Int32.le_refl _)]
    rw [hcl, bo1_s] at x2
    unfold FX13_runScript
    rw [eB, bo1_s, bnd_s, bnd_s, bnd_s, show sW (sW (sW vb 15 (sI (vb 15) 0 28 0)) 15 (sI (sW vb 15 (sI (vb 15) 0 28 0) 15) 0 29 0)) 15 (sI (sW (sW vb 15 (sI (vb 15) 0 28 0)) 15 (sI (sW vb 15 (sI (vb 15) 0 28 0) 15) 0 29 0) 15) 0 30 0) = v8 from hV8]
    exact x2
  · intro r a c
    rw [x3 r a c, o8 r a, o5 r c]
  · intro r hr
    rw [x4.1 r hr, f8.1 r hr, b1 r hr]
  · intro j a c
    rw [x4.2.1 j a c, f8.2.1 j a c, b2 j a]
  · intro k a c d e
    rw [x4.2.2 k (by omega) c d e, f8.2.2 k (by omega) c d e, b3 k a]
  · rw [x4.2.2 2 (by decide) (by decide) (by decide) (by decide), f8.2.2 2 (by decide) (by decide) (by decide) (by decide), b4]
theorem ends_g {v : Wd} (h : (v 15).1 0 8 = 0) : FX13_endsText v = (true, nt (E3 v) 0 0) := by
  have e8 : (E3 v 15).1 0 8 = 0 := by rw [E3_k, if_neg (by decide), if_neg (by decide)]; exact h
  unfold FX13_endsText
  show (if (E3 v 15).1 0 8 = 0 then bnd2 (FX13_goes (E3 v) true) fun x10 w11 => (x10, w11) else bnd2 (FX13_goes (E3 v) false) fun x6 w7 => (x6, w7)) = _
  rw [if_pos e8, goes_t, bnd2_s]
  rfl
theorem ends_x {v : Wd} (h : ¬ (v 15).1 0 8 = 0) : FX13_endsText v = (false, nt (E3 v) 0 1) := by
  have e8 : ¬ (E3 v 15).1 0 8 = 0 := by rw [E3_k, if_neg (by decide), if_neg (by decide)]; exact h
  unfold FX13_endsText
  show (if (E3 v 15).1 0 8 = 0 then bnd2 (FX13_goes (E3 v) true) fun x10 w11 => (x10, w11) else bnd2 (FX13_goes (E3 v) false) fun x6 w7 => (x6, w7)) = _
  rw [if_neg e8, goes_f, bnd2_s]
  rfl
/-- the read script is executed on both sides -/
theorem run_all {n : Nat} (hn : 30000 ≤ n) {w1 v1 w9 vL : Wd} {nv nc ns : Nat} {bk : Nat → Nat} (H : SG0 w1 v1 nv nc) (e12 : w9 12 = w1 12) (er : ∀ j, 7 ≤ j → j ≤ 11 → (vL 15).1 j = (v1 15).1 j) (e28 : (vL 15).1 0 28 = (v1 15).1 0 28) (hm : RelM (w9 1) (row vL) nv nc ns bk) : ∃ x w13 v2, FX7_execute n w9 1 = some (x, w13) ∧ FX13_doesAll n vL = some (x, v2) ∧ (∀ r, r ≠ 1 → w13 r = w9 r) ∧ VF vL v2 ∧ RM (w13 1) (row v2) := by
  obtain ⟨c, a, kp, m, h, p, r, X, s, ⟨h1, h2, h3⟩, ⟨s4, s6, s28, s29, s30⟩, hP, -, hx, h5, h6, h7⟩ := H
  obtain ⟨g1, g2, g3, g4, g5⟩ := hx 0 (Nat.le_refl _)
  have e1 : sgE p m 0 0 = m := if_pos rfl
  have e2 : sgS p 0 = 0 := rfl
  rw [e1, e2] at g3 g4
  have hs : s 0 ≤ 24000 := by
    have e : WT 0 = 400 := rfl
    rw [e] at g4
    omega
  have hE0 : ExR w1 v1 c a kp m nv nc (X 0) := ⟨by omega, s28, hP, h5, h6, fun x hx hc => (h7 x hx hc).1⟩
  have hE : ExR w9 vL c a kp m nv nc (X 0) := hE0.keep e12 er e28
  obtain ⟨x, w', v', q1, q2, q3, q4, q5⟩ := exec_ok (n := n) (by omega) (1 + s 0) 0 0 (fun _ => 0) (fun _ => 0) (X 0) [] w9 vL 0 n n (g3.whole _ _) hE ⟨ns, bk, hm⟩ (by decide) (by decide) (fun i hi => absurd hi (Nat.not_lt_zero i)) rfl rfl (by decide) (by omega) (by omega)
  exact ⟨x, w', v', q1, q2, q3, q4, q5⟩
