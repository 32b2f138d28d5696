set_option maxHeartbeats 400000
/-! the events' loop -/
theorem lwC_ok {n nv nc ns B : Nat} (hn : 2500 ≤ n) (hB : B ≤ 9999) : ∀ (d i : Nat) (w : Wd) (bk : Nat → Nat) (t : Nat), Good w → RelM (w 1) (row w) nv nc ns bk → row w 3 = nI t → t ≤ B → (∀ j, j < ns → shF (row w) j 6 = 0 → ends (row w) j ≤ B) → nsum ns (todo (row w)) ≤ d → ∃ w4, lwC n d i w = some w4 ∧ Good w4 ∧ FT (row w) (row w4) ns ∧ (∃ bk', RelM (w4 1) (row w4) nv nc ns bk') ∧ ∀ j, j < ns → shF (row w4) j 6 = 0 → False := by
  intro d
  induction d with
  | zero =>
    intro i w bk t hG hm et ht hE hd
    refine ⟨w, rfl, hG, FT.refl hm.toN, ⟨bk, hm⟩, fun j hj ho => ?_⟩
    have h1 := nsum_ge (f := todo (row w)) hj
    have h2 : 1 ≤ todo (row w) j := by
      unfold todo
      obtain ⟨x, y, a1, a2, a3, a4⟩ := (FT.refl hm.toN).2.2.1 j hj
      rw [if_pos ho, a1, nI_c (by omega)]
      omega
    omega
  | succ d ih =>
    intro i w bk t hG hm et ht hE hd
    have hN := hm.toN
    have hbs := hm.bs
    have hbv := hm.bv
    have hbc := hm.bc
    have eo : FX12_openShouts n w = some (nI (nsum ns (fun i => if shF (row w) i 6 = 0 then 1 else 0))) := by
      rw [o_openShouts (by omega) hm, ← isum_nI]
      congr 1
      refine isum_congr (fun j hj => ?_)
      by_cases z : shF (row w) j 6 = 0
      · rw [if_pos z, if_pos z]; rfl
      · rw [if_neg z, if_neg z, nI_0]
    have hcnt : nsum ns (fun i => if shF (row w) i 6 = 0 then 1 else 0) ≤ ns * 4 := nsum_le (fun j hj => by
      show (if shF (row w) j 6 = 0 then 1 else 0) ≤ 4
      by_cases z : shF (row w) j 6 = 0
      · rw [if_pos z]; decide
      · rw [if_neg z]; decide)
    rcases ev_ok hN ns (Nat.le_refl _) with ⟨v1, v2⟩ | ⟨e, v1, v2, v3, j0, v4, v5, v6⟩
    · refine ⟨w, ?_, hG, FT.refl hN, ⟨bk, hm⟩, fun j hj ho => v2 j hj ho⟩
      have h0 : nsum ns (fun i => if shF (row w) i 6 = 0 then 1 else 0) = 0 := by
        have h9 : nsum ns (fun i => if shF (row w) i 6 = 0 then 1 else 0) ≤ nsum ns (fun _ => 0) := nsum_mono (fun j hj => by
          show (if shF (row w) j 6 = 0 then 1 else 0) ≤ 0
          rw [if_neg (v2 j hj)]; exact Nat.le_refl _)
        have h8 : ∀ m, nsum m (fun _ => 0) = 0 := fun m => by
          induction m with
          | zero => rfl
          | succ m ih => simp only [nsum, ih]
        rw [h8] at h9
        omega
      simp only [lwC]
      rw [eo, h0, bo1_s, nI_0, if_pos (Int32.le_refl _)]
    · have h1 := nsum_ge (f := fun i => if shF (row w) i 6 = 0 then 1 else 0) v4
      replace h1 : (if shF (row w) j0 6 = 0 then 1 else 0) ≤ nsum ns (fun i => if shF (row w) i 6 = 0 then 1 else 0) := h1
      rw [if_pos v5] at h1
      have hpos : ¬ nI (nsum ns (fun i => if shF (row w) i 6 = 0 then 1 else 0)) ≤ 0 := fun z => by
        have := (nI_lei (b := 0) (by omega) (by decide)).mp z
        omega
      have hTm := hm.tmOk (by omega) et
      obtain ⟨z1, z2, z3, z4, -, -⟩ := hN.secs v4
      obtain ⟨x1, x2⟩ := hTm j0 v4 v5
      rw [z1] at x1
      rw [z2] at x2
      have x1' := (nI_ltI (by omega) (by omega)).mp x1
      have x2' := (nI_ltI (by omega) (by omega)).mp x2
      have hte : t < e := by omega
      have heB : e ≤ ends (row w) j0 := (v3 j0 v4 v5).2
      have heB2 := hE j0 v4 v5
      have h240 : ends (row w) j0 ≤ t + 240 := by
        obtain ⟨c, v, lo, od, ea, so, st, mk, wd, pa, tm, h1, h2, l1, l2, o1, o2, b1, ea1, ea2, st1, mk1, so1, so2, q0, q1, q2, q3, q4, q5, q6, q7, q8, q9, q10, q11, q12, q13, q14, q15, q16, q17⟩ := (hN.ss j0 v4).rest
        have etm : tm = t := (nI_eq (by omega) (by omega)).mp (q12.symm.trans et)
        unfold ends
        rw [q5, q0, nI_c (by omega), nI_c (by omega), q10, nI_c (by omega)]
        omega
      have eT : FX12_time w = nI t := hm.time.trans et
      have esub : nI e - FX12_time w = nI (e - t) := by rw [eT, nI_sub (by omega)]
      obtain ⟨q, w', w9, e1, e2, e3, e4, e5, e6, e7, e8, M9, bk0, e9⟩ := st_pass2 (s := e - t) hn hG hm et (by omega) (by omega) (by omega)
      rw [show t + (e - t) = e by omega] at e7 e8
      obtain ⟨bk9, hm9⟩ := rn_nums e5.1 e9
      have eT9 : FX12_time w9 = nI e := hm9.time.trans e7
      have hix := hN.idx v4
      have hky := sec_ky e6.2.2.2 v4 hix.2 hix.1
      have hlt : todo (row w9) j0 < todo (row w) j0 := by
        obtain ⟨x, y, a1, a2, a3, a4⟩ := e6.2.2.1 j0 v4
        have hx : x = bk j0 := (nI_eq (by omega) (by have := (FT.refl hN).2.2.1 j0 v4; obtain ⟨x', y', b1, b2, b3, b4⟩ := this; have := hN.due v4; obtain ⟨_, _, _, _, _, _, _, _, _, _, _, _, g4, _⟩ := this; omega)).mp (a1.symm.trans (hN.ss j0 v4).back)
        unfold todo
        rw [if_pos v5, a1, nI_c (by omega)]
        by_cases z : shF (row w9) j0 6 = 0
        · rw [if_pos z, a2, nI_c (by omega)]
          obtain ⟨y1, y2⟩ := e8 j0 v4 z
          obtain ⟨u1, u2, u3, u4, -, -⟩ := hm9.toN.secs v4
          rw [u1] at y1
          rw [u2, hky.1] at y2
          have y1' := (nI_ltI (by omega) (by omega)).mp y1
          have y2' := (nI_ltI (by omega) (by omega)).mp y2
          have hy : y = bk9 j0 := (nI_eq (by omega) (by have := hm9.toN.due v4; obtain ⟨_, _, _, _, _, _, _, _, _, _, _, _, g4, _⟩ := this; omega)).mp (a2.symm.trans (hm9.ss j0 v4).back)
          rw [hky.2, ← hy] at y1'
          have : x ≠ y := fun exy => by
            rw [← exy, hx] at y1'
            omega
          omega
        · rw [if_neg z]; omega
      have hms : nsum ns (todo (row w9)) < nsum ns (todo (row w)) := nsum_strict v4 (fun j hj => ft_todo e6 hj) hlt
      obtain ⟨w4, f1, f2, f3, f4, f5⟩ := ih (i + 1) w9 bk9 e e5.1 hm9 e7 (by omega) (fun j hj hoj => by
        have hij := hN.idx hj
        rw [(sec_ky e6.2.2.2 hj hij.2 hij.1).1]
        exact hE j hj (e6.2.1 j hj hoj)) (by omega)
      refine ⟨w4, ?_, f2, e6.trans f3, f4, f5⟩
      simp only [lwC]
      rw [eo, bo1_s, if_neg hpos, o_nextEvent (by omega) hm, v1, bo1_s, esub, e1, bx2_s, e3, gh_t e4, gd_t (decide_eq_true eT9), gd_t (decide_eq_true (show (0 : Int32) ≤ nI q from (nI_lei (a := 0) (by decide) (by omega)).mpr (Nat.zero_le _)))]
      exact f1
