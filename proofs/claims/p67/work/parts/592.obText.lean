set_option maxHeartbeats 400000
/-! readText -/
def RdF (v0 v1 : Wd) : Prop := (∀ r, r ≠ 15 → v1 r = v0 r) ∧ (∀ j, j ≠ 0 → j ≠ 2 → j ≠ 4 → (v1 15).1 j = (v0 15).1 j) ∧ (∀ k, k < 390 → (v1 15).1 4 k = row v0 k) ∧ (∀ k, k < 2 ∨ 9 < k → k ≠ 20 → k ≠ 31 → (v1 15).1 0 k = (v0 15).1 0 k) ∧ (v1 15).1 0 2 = 0
theorem lays_ok {n : Nat} (hn : 500 ≤ n) (v : Wd) : FX13_laysAside n v = some (cpW v 2 0 4 0 390) := by
  have hcp : FX13_copiesRow n v 2 0 4 0 = some (cpW v 2 0 4 0 390) := copiesRow_ok (n := n) hn v (j0 := 2) (a := 0) (j2 := 4) (b := 0) (by decide) (by decide) (by decide) (by decide) (by decide)
  unfold FX13_laysAside
  rw [hcp, bo1_s]
theorem goesBack_ok {n : Nat} (hn : 500 ≤ n) (v : Wd) : FX13_goesBack n v = some (cpW v 4 0 2 0 390) := by
  have hcp : FX13_copiesRow n v 4 0 2 0 = some (cpW v 4 0 2 0 390) := copiesRow_ok (n := n) hn v (j0 := 4) (a := 0) (j2 := 2) (b := 0) (by decide) (by decide) (by decide) (by decide) (by decide)
  unfold FX13_goesBack
  rw [hcp, bo1_s]
theorem cpW_0 (w : Wd) (j0 j2 : Nat) {k : Nat} (h : k < 390) : (cpW w j0 0 j2 0 390 15).1 j2 k = (w 15).1 j0 k := by
  have e := cpW_in w j0 0 j2 0 h
  rw [Nat.zero_add] at e
  exact e
theorem read_all {n : Nat} (hn : 1000 ≤ n) {w : Wd} (h : Good w) {v0 : Wd} (h15 : v0 15 = w 15) : ∃ ok w1 v1 b f l, FX3_read n w 2 = some (ok, w1) ∧ FX13_readText n v0 = RE n v1 ∧ CF4 w w1 ∧ RdF v0 v1 ∧ Fin2 b f l ok w1 v1 := by
  obtain ⟨f, hf, l1, l2, l3⟩ := h.t.bytes
  have T4 : TA (sW w 2 (FX6_clear (w 2))) (bufb w) f := ⟨hf, by rw [sW_o _ _ (by decide)]; exact l1, fun j hj => by rw [sW_o _ _ (by decide)]; exact ⟨(l3 j hj).1, (l3 j hj).2.2⟩⟩
  obtain ⟨w7, l, e7, o7, T7, s5, s7, s8, K7⟩ := open_ok hn T4
  have eA := lays_ok (n := n) (by omega) v0
  have A15 : ∀ j, j ≠ 4 → (cpW v0 2 0 4 0 390 15).1 j = (v0 15).1 j := fun j hj => cpW_j _ _ _ _ _ _ hj
  have A4 : ∀ k, k < 390 → (cpW v0 2 0 4 0 390 15).1 4 k = row v0 k := fun k hk => cpW_0 v0 2 4 hk
  have Ao : ∀ r, r ≠ 15 → cpW v0 2 0 4 0 390 r = v0 r := fun r hr => cpW_o _ _ _ _ _ _ hr
  generalize cpW v0 2 0 4 0 390 = va at eA A15 A4 Ao
  obtain ⟨vb, eB, b1, b2, b3, b4, b5, b6, b7⟩ := beginsText_ok hn (v := va) (b := bufb w) (f := f) hf (by rw [A15 0 (by decide), h15]; exact l2) (fun j hj => by rw [A15 1 (by decide), h15]; exact ⟨(l3 j hj).1, (l3 j hj).2.1⟩)
  obtain ⟨vc, eC, c1, c2⟩ := begins_ok hn vb
  have ck := c1.2.2.2
  have t0 : TG (bufb w) f l w7 vc 0 := ⟨T7, K7, Nat.zero_le _, s5.trans nI_0.symm, s7, s8, b5.fr c1, (ck 8 (by decide) (by decide)).trans b6, (ck 9 (by decide) (by decide)).trans b7⟩
  have hM : RM (w7 2) (row vc) := ⟨0, 0, 0, fun _ => 0, by rw [o7 2 (by decide), sW_s]; exact clear_ok _ c2⟩
  obtain ⟨ok, w1, v1, t1, t2, t3, t4, t5⟩ := tail_ok hn t0 hM
  refine ⟨ok, w1, v1, bufb w, f, l, ?_, ?_, ?_, ⟨?_, ?_, ?_, ?_, ?_⟩, t5⟩
  · unfold FX3_read
    rw [bnd_s, bnd_s, e7, bo1_s]
    exact t1
  · unfold FX13_readText
    rw [eA, bo1_s, eB, bo1_s, eC, bo1_s]
    exact t2
  · intro r a c d
    rw [t3 r a c d, o7 r c, sW_o _ _ a]
  · intro r hr
    rw [t4.1 r hr, c1.1 r hr, b1 r hr, Ao r hr]
  · intro j a c d
    rw [t4.2.1 j a c, c1.2.2.1 j a c, b2 j a, A15 j d]
  · intro k hk
    rw [t4.2.1 4 (by decide) (by decide), c1.2.2.1 4 (by decide) (by decide), b2 4 (by decide), A4 k hk]
  · intro k a c d
    rw [t4.2.2 k (by omega) c d, ck k c d, b3 k a, A15 0 (by decide)]
  · rw [t4.2.2 2 (by decide) (by decide) (by decide), ck 2 (by decide) (by decide), b4]
-- the end of the reference's reading
def E3 (v : Wd) : Wd := nt (nt v 10 ((v 15).1 0 8)) 11 ((nt v 10 ((v 15).1 0 8) 15).1 0 9)
theorem E3_k (v : Wd) (k : Nat) : (E3 v 15).1 0 k = if k = 11 then (v 15).1 0 9 else if k = 10 then (v 15).1 0 8 else (v 15).1 0 k := by
  unfold E3
  rw [nt_k, nt_k, nt_k, if_neg (show ¬ (9 : Nat) = 10 by decide)]
theorem E3_j (v : Wd) {j : Nat} (h : j ≠ 0) : (E3 v 15).1 j = (v 15).1 j := by
  unfold E3
  rw [nt_j _ _ _ h, nt_j _ _ _ h]
theorem E3_o (v : Wd) {r : Nat} (h : r ≠ 15) : E3 v r = v r := by
  unfold E3
  rw [nt_o _ _ _ h, nt_o _ _ _ h]
theorem RE_g {n : Nat} {v : Wd} (h : (v 15).1 0 8 = 0) : RE n v = some (row v 2, nt (nt (E3 v) 0 0) 18 0) := by
  have e8 : (E3 v 15).1 0 8 = 0 := by rw [E3_k, if_neg (by decide), if_neg (by decide)]; exact h
  have e : FX13_endsText v = (true, nt (E3 v) 0 0) := by
    unfold FX13_endsText
    show (if (E3 v 15).1 0 8 = 0 then bnd2 (FX13_goes (E3 v) true) fun x10 w11 => (x10, w11) else bnd2 (FX13_goes (E3 v) false) fun x6 w7 => (x6, w7)) = _
    rw [if_pos e8, goes_t, bnd2_s]
    rfl
  unfold RE
  rw [e, bnd2_s, if_pos rfl, bnd_s, gd2]
  show some ((nt (nt (E3 v) 0 0) 18 0 15).1 2 2, nt (nt (E3 v) 0 0) 18 0) = _
  rw [nt_j _ _ _ (show (2 : Nat) ≠ 0 by decide), nt_j _ _ _ (show (2 : Nat) ≠ 0 by decide), E3_j _ (show (2 : Nat) ≠ 0 by decide)]
theorem RE_x {n : Nat} (hn : 500 ≤ n) {v : Wd} (h : ¬ (v 15).1 0 8 = 0) : RE n v = some (0, cpW (nt (E3 v) 0 1) 4 0 2 0 390) := by
  have e8 : ¬ (E3 v 15).1 0 8 = 0 := by rw [E3_k, if_neg (by decide), if_neg (by decide)]; exact h
  have e : FX13_endsText v = (false, nt (E3 v) 0 1) := by
    unfold FX13_endsText
    show (if (E3 v 15).1 0 8 = 0 then bnd2 (FX13_goes (E3 v) true) fun x10 w11 => (x10, w11) else bnd2 (FX13_goes (E3 v) false) fun x6 w7 => (x6, w7)) = _
    rw [if_neg e8, goes_f, bnd2_s]
    rfl
  unfold RE
  rw [e, bnd2_s, if_neg (by decide), goesBack_ok hn, bo1_s]
theorem ob_2 {n : Nat} (hn : 2500 ≤ n) {w : Wd} (h : Good w) (a1 a2 a3 a4 a5 : Int32) : ∃ w9, FLc_2 n w a1 a2 a3 a4 a5 = some w9 ∧ Good w9 := by
  obtain ⟨ok, w1, v1, b, f, l, r1, r2, r3, r4, r5⟩ := read_all (n := n) (by omega) h (v0 := w) rfl
  show ∃ w9, (bo2 (FL_readText n w) fun k w1 => bo2 (FX13_readText n w1) fun q w2 => chk k q w2) = some w9 ∧ Good w9
  unfold FL_readText
  obtain ⟨fr, ct, hf, hc, y1, y2, y3, y4⟩ := h.h.cnt
  generalize hw5 : sW w1 10 (sI (w1 10) 0 6 0) = w5
  have o5 : ∀ r, r ≠ 10 → w5 r = w1 r := fun r hr => by rw [← hw5]; exact sW_o _ _ hr
  have t5 : ∀ k, (w5 10).1 0 k = if k = 6 then 0 else (w1 10).1 0 k := fun k => by rw [← hw5, sW_s, sI_at]
  rcases r5 with ⟨e, ⟨i, tg⟩, hM⟩ | ⟨e, tx⟩
  · subst e
    obtain ⟨nv, nc, ns, bk, hm⟩ := hM
    obtain ⟨M', eM, hE⟩ := copyFrom_ok (n := n) (by omega) (w5 1) (w5 2) (by rw [o5 2 (by decide)]; exact hm.v1) (by rw [o5 2 (by decide)]; exact hm.c1) (by rw [o5 2 (by decide)]; exact hm.s1) hm.bv hm.bc hm.bs
    rw [o5 2 (by decide)] at hE
    generalize hw14 : sW (sW w5 1 M') 13 (sI (sW w5 1 M' 13) 0 2 0) = w14
    have o14 : ∀ r, r ≠ 1 → r ≠ 13 → w14 r = w5 r := fun r a c => by rw [← hw14, sW_o _ _ c, sW_o _ _ a]
    have m14 : w14 1 = M' := by rw [← hw14, sW_o _ _ (by decide), sW_s]
    have q14 : ∀ k, (w14 13).1 0 k = if k = 2 then 0 else (w5 13).1 0 k := fun k => by rw [← hw14, sW_s, sI_at, sW_o _ _ (by decide)]
    have hx : FX12_readText n w = some (.ok ((w14 1).1 0 5, w14)) := by
      unfold FX12_readText
      rw [r1, bo2_s, hw5, bnd_s, dA_t, xo_s, eM, bo1_s, bnd_s]
      unfold FX5_forget
      rw [bnd_s, bnd_s, hw14]
    rw [lw_o hx, bo2_s]
    generalize hwA : ow w14 ((w14 1).1 0 5) = wA
    have oA : ∀ r, r ≠ 16 → wA r = w14 r := fun r hr => by rw [← hwA]; exact ow_o _ _ hr
    have vA : (wA 16).2 0 0 = ((w14 1).1 0 5).toInt64 := by rw [← hwA]; exact ow_v _ _
    have oW : ∀ r, r ≠ 16 → r ≠ 1 → r ≠ 13 → r ≠ 10 → r ≠ 2 → r ≠ 11 → wA r = w r := fun r a c d e g k => by rw [oA r a, o14 r c d, o5 r e, r3 r g e k]
    have h15 : wA 15 = w 15 := oW 15 (by decide) (by decide) (by decide) (by decide) (by decide) (by decide)
    obtain ⟨ok', w1', v2, b', f', l', u1, u2, u3, u4, u5⟩ := read_all (n := n) (by omega) h (v0 := wA) h15
    have eq := r1.symm.trans u1
    have e1 : ok' = true := (congrArg Prod.fst (Option.some.inj eq)).symm
    have e2 : w1' = w1 := (congrArg Prod.snd (Option.some.inj eq)).symm
    subst e1
    subst e2
    have u6 : (∃ i, TG b' f' l' w1' v2 i) ∧ RM (w1' 2) (row v2) := by
      rcases u5 with ⟨-, y⟩ | ⟨z, -⟩
      · exact y
      · cases z
    obtain ⟨⟨i', tg'⟩, hM'⟩ := u6
    obtain ⟨nv', nc', ns', bk', hm'⟩ := hM'
    have bv := hm.bv
    have bc := hm.bc
    have bs := hm.bs
    have bv' := hm'.bv
    have bc' := hm'.bc
    have bs' := hm'.bs
    have ev : nv' = nv := (nI_eq (by omega) (by omega)).mp (hm'.v1.symm.trans hm.v1)
    have ec : nc' = nc := (nI_eq (by omega) (by omega)).mp (hm'.c1.symm.trans hm.c1)
    have es : ns' = ns := (nI_eq (by omega) (by omega)).mp (hm'.s1.symm.trans hm.s1)
    subst ev
    subst ec
    subst es
    obtain ⟨-, -, -, -, x7, x8, -, x9, x10⟩ := tg'
    rw [u2, RE_g x9, bo2_s]
    generalize hvF : nt (nt (E3 v2) 0 0) 18 0 = vF
    have fk : ∀ k, (vF 15).1 0 k = if k = 18 then 0 else if k = 0 then 0 else if k = 11 then -1 else if k = 10 then 0 else (v2 15).1 0 k := fun k => by rw [← hvF, nt_k, nt_k, E3_k, x9, x10]
    have fj : ∀ j, j ≠ 0 → (vF 15).1 j = (v2 15).1 j := fun j hj => by rw [← hvF, nt_j _ _ _ hj, nt_j _ _ _ hj, E3_j _ hj]
    have fo : ∀ r, r ≠ 15 → vF r = wA r := fun r hr => by rw [← hvF, nt_o _ _ _ hr, nt_o _ _ _ hr, E3_o _ hr, u4.1 r hr]
    have fs : ∀ k, k ≠ 18 → k ≠ 0 → k ≠ 10 → k ≠ 11 → k < 2 ∨ 9 < k → k ≠ 20 → k ≠ 31 → (vF 15).1 0 k = (w 15).1 0 k := fun k a c d e g p q => by rw [fk, if_neg a, if_neg c, if_neg e, if_neg d, u4.2.2.2.1 k g p q, h15]
    have fl : ∀ j, j ≠ 0 → j ≠ 2 → j ≠ 4 → (vF 15).1 j = (w 15).1 j := fun j a c d => by rw [fj j a, u4.2.1 j a c d, h15]
    refine ⟨vF, chk_0 ?_ ?_, ?_⟩
    · show (vF 15).1 0 0 = 0
      rw [fk, if_neg (by decide), if_pos rfl]
    · rw [fo 16 (by decide), vA, m14, hE.1 5 (by decide) (by decide), hm.s1, hm'.s0]
    · refine Good.mk ⟨nv', nc', ns', bk', ?_⟩ (RelT.mk ⟨0, Nat.zero_le _, ?_, ?_, fun j hj => absurd hj (Nat.not_lt_zero j)⟩ ?_ ?_) (RelH.mk ⟨fr, 0, hf, Nat.zero_le _, ?_, ?_, ?_, fun j hj => absurd hj (Nat.not_lt_zero j)⟩ ?_) (h.o.keep ?_ ?_ ?_)
      · rw [fo 1 (by decide), oA 1 (by decide), m14]
        exact hm'.congr hE (fun k _ => by
          show (vF 15).1 2 k = row v2 k
          rw [fj 2 (by decide)])
      · rw [fo 10 (by decide), oA 10 (by decide), o14 10 (by decide) (by decide), t5, if_pos rfl]
        exact nI_0.symm
      · rw [fk, if_neg (by decide), if_neg (by decide), if_neg (by decide), if_neg (by decide), u4.2.2.2.2]
        exact nI_0.symm
      · rw [fo 10 (by decide), oA 10 (by decide), o14 10 (by decide) (by decide), t5, if_neg (by decide), x7, fk, if_neg (by decide), if_neg (by decide), if_neg (by decide), if_pos rfl]
      · rw [fo 10 (by decide), oA 10 (by decide), o14 10 (by decide) (by decide), t5, if_neg (by decide), x8, fk, if_neg (by decide), if_neg (by decide), if_pos rfl]
      · rw [fo 13 (by decide), oA 13 (by decide), q14, if_neg (by decide), o5 13 (by decide), r3 13 (by decide) (by decide) (by decide)]
        exact y1
      · rw [fo 13 (by decide), oA 13 (by decide), q14, if_pos rfl]
        exact nI_0.symm
      · rw [fk, if_pos rfl]
        exact nI_0.symm
      · rw [fo 0 (by decide), oW 0 (by decide) (by decide) (by decide) (by decide) (by decide) (by decide), fo 3 (by decide), oW 3 (by decide) (by decide) (by decide) (by decide) (by decide) (by decide), fs 19 (by decide) (by decide) (by decide) (by decide) (by decide) (by decide) (by decide), fl 3 (by decide) (by decide) (by decide)]
        exact h.h.sav
      · rw [fo 14 (by decide), oW 14 (by decide) (by decide) (by decide) (by decide) (by decide) (by decide)]
      · exact fl 14 (by decide) (by decide) (by decide)
      · exact fs 33 (by decide) (by decide) (by decide) (by decide) (by decide) (by decide) (by decide)
  · subst e
    have hx : FX12_readText n w = some (.error ("java/lang/IllegalArgumentException", w5)) := by
      unfold FX12_readText
      rw [r1, bo2_s, hw5, bnd_s, dA_f]
      rfl
    rw [lw_x (k := 1) hx (if_pos rfl), bo2_s]
    have oW : ∀ r, r ≠ 10 → r ≠ 2 → r ≠ 11 → w5 r = w r := fun r e g k => by rw [o5 r e, r3 r g e k]
    have h15 : w5 15 = w 15 := oW 15 (by decide) (by decide) (by decide)
    obtain ⟨ok', w1', v2, b', f', l', u1, u2, u3, u4, u5⟩ := read_all (n := n) (by omega) h (v0 := w5) h15
    have eq := r1.symm.trans u1
    have e1 : ok' = false := (congrArg Prod.fst (Option.some.inj eq)).symm
    have e2 : w1' = w1 := (congrArg Prod.snd (Option.some.inj eq)).symm
    subst e1
    subst e2
    rcases u5 with ⟨z, -⟩ | ⟨-, tx'⟩
    · cases z
    obtain ⟨-, -, -, -, -, -, -, n8, -⟩ := tx'.at
    obtain ⟨-, -, i', e', o', x1, x2, x3, x4, x5, x6, x7, x8⟩ := tx'
    rw [u2, RE_x (by omega) n8, bo2_s]
    generalize hvF : cpW (nt (E3 v2) 0 1) 4 0 2 0 390 = vF
    have fk : ∀ k, (vF 15).1 0 k = if k = 0 then 1 else if k = 11 then o' else if k = 10 then nI e' else (v2 15).1 0 k := fun k => by rw [← hvF, cpW_j _ _ _ _ _ _ (show (0 : Nat) ≠ 2 by decide), nt_k, E3_k, x7, x8]
    have fj : ∀ j, j ≠ 0 → j ≠ 2 → (vF 15).1 j = (v2 15).1 j := fun j hj h2 => by rw [← hvF, cpW_j _ _ _ _ _ _ h2, nt_j _ _ _ hj, E3_j _ hj]
    have f2 : ∀ k, k < 390 → row vF k = row w k := fun k hk => by
      show (vF 15).1 2 k = _
      rw [← hvF, cpW_0 _ 4 2 hk, nt_j _ _ _ (by decide), E3_j _ (by decide), u4.2.2.1 k hk]
      show (w5 15).1 2 k = _
      rw [h15]
    have fo : ∀ r, r ≠ 15 → vF r = w5 r := fun r hr => by rw [← hvF, cpW_o _ _ _ _ _ _ hr, nt_o _ _ _ hr, E3_o _ hr, u4.1 r hr]
    have fs : ∀ k, k ≠ 0 → k ≠ 10 → k ≠ 11 → k < 2 ∨ 9 < k → k ≠ 20 → k ≠ 31 → (vF 15).1 0 k = (w 15).1 0 k := fun k c d e g p q => by rw [fk, if_neg c, if_neg e, if_neg d, u4.2.2.2.1 k g p q, h15]
    have fl : ∀ j, j ≠ 0 → j ≠ 2 → j ≠ 4 → (vF 15).1 j = (w 15).1 j := fun j a c d => by rw [fj j a c, u4.2.1 j a c d, h15]
    have fr2 : ∀ r, r ≠ 15 → r ≠ 10 → r ≠ 2 → r ≠ 11 → vF r = w r := fun r a c d e => by rw [fo r a, oW r c d e]
    refine ⟨vF, chk_k ?_ (by decide), ?_⟩
    · show (vF 15).1 0 0 = 1
      rw [fk, if_pos rfl]
    · refine Good.mk ?_ (RelT.mk ⟨0, Nat.zero_le _, ?_, ?_, fun j hj => absurd hj (Nat.not_lt_zero j)⟩ ?_ ?_) (RelH.mk ⟨fr, ct, hf, hc, ?_, ?_, ?_, fun j hj => ?_⟩ ?_) (h.o.keep ?_ ?_ ?_)
      · rw [fr2 1 (by decide) (by decide) (by decide) (by decide)]
        exact h.m.rows f2
      · rw [fo 10 (by decide), t5, if_pos rfl]
        exact nI_0.symm
      · rw [fk, if_neg (by decide), if_neg (by decide), if_neg (by decide), u4.2.2.2.2]
        exact nI_0.symm
      · rw [fo 10 (by decide), t5, if_neg (by decide), x5, fk, if_neg (by decide), if_neg (by decide), if_pos rfl]
      · rw [fo 10 (by decide), t5, if_neg (by decide), x6, fk, if_neg (by decide), if_pos rfl]
      · rw [fr2 13 (by decide) (by decide) (by decide) (by decide)]
        exact y1
      · rw [fr2 13 (by decide) (by decide) (by decide) (by decide)]
        exact y2
      · rw [fs 18 (by decide) (by decide) (by decide) (by decide) (by decide) (by decide)]
        exact y3
      · rw [fr2 _ (by omega) (by omega) (by omega) (by omega), fl 6 (by decide) (by decide) (by decide)]
        exact y4 j hj
      · rw [fr2 0 (by decide) (by decide) (by decide) (by decide), fr2 3 (by decide) (by decide) (by decide) (by decide), fs 19 (by decide) (by decide) (by decide) (by decide) (by decide) (by decide), fl 3 (by decide) (by decide) (by decide)]
        exact h.h.sav
      · exact fr2 14 (by decide) (by decide) (by decide) (by decide)
      · exact fl 14 (by decide) (by decide) (by decide)
      · exact fs 33 (by decide) (by decide) (by decide) (by decide) (by decide) (by decide)
