set_option maxHeartbeats 400000
/-! readText, where the reference reads to the end -/
theorem read_cl {n : Nat} (hn : 2500 ≤ n) {w : Wd} (h : Good w) {q : Int32} (hT : ∀ v0, v0 15 = w 15 → ∃ vF, FX13_readText n v0 = some (q, vF) ∧ (vF 15).1 0 0 = 0) : ∃ w2 w9, FX12_readText n w = some (.ok (q, w2)) ∧ FLc_2 n w 0 0 0 0 0 = some w9 ∧ AG w9 w2 ∧ Good w9 ∧ (w9 10).1 0 6 = 0 ∧ ∃ vA, vA 15 = w 15 ∧ FX13_readText n vA = some (q, w9) := by
  obtain ⟨ok, w1, v1, b, f, l, r1, r2, r3, r4, r5⟩ := read_all (n := n) (by omega) h (v0 := w) rfl
  obtain ⟨fr, ct, hf, hc, y1, y2, y3, y4⟩ := h.h.cnt
  generalize hw5 : sW w1 10 (sI (w1 10) 0 6 0) = w5
  have o5 : ∀ r, r ≠ 10 → w5 r = w1 r := fun r hr => by rw [← hw5]; exact sW_o _ _ hr
  have t5 : ∀ k, (w5 10).1 0 k = if k = 6 then 0 else (w1 10).1 0 k := fun k => by rw [← hw5, sW_s, sI_at]
  rcases r5 with ⟨e, ⟨i, tg⟩, hM⟩ | ⟨e, tx⟩
  · subst e
    obtain ⟨nv, nc, ns, bk, hm⟩ := hM
    obtain ⟨M', eM, hE⟩ := copyFrom_ok (n := n) (by omega) (w5 1) (w5 2) (by rw [o5 2 (by decide)]; exact hm.v1) (by rw [o5 2 (by decide)]; exact hm.c1) (by rw [o5 2 (by decide)]; exact hm.s1) hm.bv hm.bc hm.bs
    rw [o5 2 (by decide)] at hE
    generalize hw14 : sW (sW w5 1 M') 13 (sI (sW w5 1 M' 13) 0 2 0) = w14
    have o14 : ∀ r, r ≠ 1 → r ≠ 13 → w14 r = w5 r := fun r a c => by rw [← hw14, sW_o _ _ c, sW_o _ _ a]
    have m14 : w14 1 = M' := by rw [← hw14, sW_o _ _ (by decide), sW_s]
    have q14 : ∀ k, (w14 13).1 0 k = if k = 2 then 0 else (w5 13).1 0 k := fun k => by rw [← hw14, sW_s, sI_at, sW_o _ _ (by decide)]
    have hx : FX12_readText n w = some (.ok ((w14 1).1 0 5, w14)) := by
      unfold FX12_readText
      rw [r1, bo2_s, hw5, bnd_s, dA_t, xo_s, eM, bo1_s, bnd_s]
      unfold FX5_forget
      rw [bnd_s, bnd_s, hw14]
    generalize hwA : ow w14 ((w14 1).1 0 5) = wA
    have oA : ∀ r, r ≠ 16 → wA r = w14 r := fun r hr => by rw [← hwA]; exact ow_o _ _ hr
    have vA : (wA 16).2 0 0 = ((w14 1).1 0 5).toInt64 := by rw [← hwA]; exact ow_v _ _
    have oW : ∀ r, r ≠ 16 → r ≠ 1 → r ≠ 13 → r ≠ 10 → r ≠ 2 → r ≠ 11 → wA r = w r := fun r a c d e g k => by rw [oA r a, o14 r c d, o5 r e, r3 r g e k]
    have h15 : wA 15 = w 15 := oW 15 (by decide) (by decide) (by decide) (by decide) (by decide) (by decide)
    obtain ⟨ok', w1', v2, b', f', l', u1, u2, u3, u4, u5⟩ := read_all (n := n) (by omega) h (v0 := wA) h15
    have eq := r1.symm.trans u1
    have e1 : ok' = true := (congrArg Prod.fst (Option.some.inj eq)).symm
    have e2 : w1' = w1 := (congrArg Prod.snd (Option.some.inj eq)).symm
    subst e1
    subst e2
    have u6 : (∃ i, TG b' f' l' w1' v2 i) ∧ RM (w1' 2) (row v2) := by
      rcases u5 with ⟨-, y⟩ | ⟨z, -⟩
      · exact y
      · cases z
    obtain ⟨⟨i', tg'⟩, hM'⟩ := u6
    obtain ⟨nv', nc', ns', bk', hm'⟩ := hM'
    have bv := hm.bv
    have bc := hm.bc
    have bs := hm.bs
    have bv' := hm'.bv
    have bc' := hm'.bc
    have bs' := hm'.bs
    have ev : nv' = nv := (nI_eq (by omega) (by omega)).mp (hm'.v1.symm.trans hm.v1)
    have ec : nc' = nc := (nI_eq (by omega) (by omega)).mp (hm'.c1.symm.trans hm.c1)
    have es : ns' = ns := (nI_eq (by omega) (by omega)).mp (hm'.s1.symm.trans hm.s1)
    subst ev
    subst ec
    subst es
    obtain ⟨-, -, -, -, x7, x8, -, x9, x10⟩ := tg'
    have u9 : FX13_readText n wA = some (row v2 2, nt (nt (E3 v2) 0 0) 18 0) := by rw [u2, RE_g x9]
    generalize hvF : nt (nt (E3 v2) 0 0) 18 0 = vF at u9
    have fk : ∀ k, (vF 15).1 0 k = if k = 18 then 0 else if k = 0 then 0 else if k = 11 then -1 else if k = 10 then 0 else (v2 15).1 0 k := fun k => by rw [← hvF, nt_k, nt_k, E3_k, x9, x10]
    have fj : ∀ j, j ≠ 0 → (vF 15).1 j = (v2 15).1 j := fun j hj => by rw [← hvF, nt_j _ _ _ hj, nt_j _ _ _ hj, E3_j _ hj]
    have fo : ∀ r, r ≠ 15 → vF r = wA r := fun r hr => by rw [← hvF, nt_o _ _ _ hr, nt_o _ _ _ hr, E3_o _ hr, u4.1 r hr]
    have fs : ∀ k, k ≠ 18 → k ≠ 0 → k ≠ 10 → k ≠ 11 → k < 2 ∨ 9 < k → k ≠ 20 → k ≠ 31 → (vF 15).1 0 k = (w 15).1 0 k := fun k a c d e g p q => by rw [fk, if_neg a, if_neg c, if_neg e, if_neg d, u4.2.2.2.1 k g p q, h15]
    have fl : ∀ j, j ≠ 0 → j ≠ 2 → j ≠ 4 → (vF 15).1 j = (w 15).1 j := fun j a c d => by rw [fj j a, u4.2.1 j a c d, h15]
    obtain ⟨vT, t1, -⟩ := hT wA h15
    have hq : row v2 2 = q := (congrArg Prod.fst (Option.some.inj (t1.symm.trans u9))).symm
    rw [hq] at u9
    have hq5 : (w14 1).1 0 5 = q := by rw [m14, hE.1 5 (by decide) (by decide), hm.s1, ← hq, show row v2 2 = nI _ from hm'.s0]
    refine ⟨w14, vF, by rw [← hq5]; exact hx, ?_, fun r hr => by rw [fo r (by omega), oA r (by omega)], ?_, ?_, wA, h15, u9⟩
    · show (bo2 (FL_readText n w) fun k w1 => bo2 (FX13_readText n w1) fun q w2 => chk k q w2) = some vF
      unfold FL_readText
      rw [lw_o hx, bo2_s, hwA, u9, bo2_s]
      refine chk_0 ?_ ?_
      · show (vF 15).1 0 0 = 0
        rw [fk, if_neg (by decide), if_pos rfl]
      · rw [fo 16 (by decide), vA, hq5]
    · refine Good.mk ⟨nv', nc', ns', bk', ?_⟩ (RelT.mk ⟨0, Nat.zero_le _, ?_, ?_, fun j hj => absurd hj (Nat.not_lt_zero j)⟩ ?_ ?_) (RelH.mk ⟨fr, 0, hf, Nat.zero_le _, ?_, ?_, ?_, fun j hj => absurd hj (Nat.not_lt_zero j)⟩ ?_) (h.o.keep ?_ ?_ ?_)
      · rw [fo 1 (by decide), oA 1 (by decide), m14]
        exact hm'.congr hE (fun k _ => by
          show (vF 15).1 2 k = row v2 k
          rw [fj 2 (by decide)])
      · rw [fo 10 (by decide), oA 10 (by decide), o14 10 (by decide) (by decide), t5, if_pos rfl]
        exact nI_0.symm
      · rw [fk, if_neg (by decide), if_neg (by decide), if_neg (by decide), if_neg (by decide), u4.2.2.2.2]
        exact nI_0.symm
      · rw [fo 10 (by decide), oA 10 (by decide), o14 10 (by decide) (by decide), t5, if_neg (by decide), x7, fk, if_neg (by decide), if_neg (by decide), if_neg (by decide), if_pos rfl]
      · rw [fo 10 (by decide), oA 10 (by decide), o14 10 (by decide) (by decide), t5, if_neg (by decide), x8, fk, if_neg (by decide), if_neg (by decide), if_pos rfl]
      · rw [fo 13 (by decide), oA 13 (by decide), q14, if_neg (by decide), o5 13 (by decide), r3 13 (by decide) (by decide) (by decide)]
        exact y1
      · rw [fo 13 (by decide), oA 13 (by decide), q14, if_pos rfl]
        exact nI_0.symm
      · rw [fk, if_pos rfl]
        exact nI_0.symm
      · rw [fo 0 (by decide), oW 0 (by decide) (by decide) (by decide) (by decide) (by decide) (by decide), fo 3 (by decide), oW 3 (by decide) (by decide) (by decide) (by decide) (by decide) (by decide), fs 19 (by decide) (by decide) (by decide) (by decide) (by decide) (by decide) (by decide), fl 3 (by decide) (by decide) (by decide)]
        exact h.h.sav
      · rw [fo 14 (by decide), oW 14 (by decide) (by decide) (by decide) (by decide) (by decide) (by decide)]
      · exact fl 14 (by decide) (by decide) (by decide)
      · exact fs 33 (by decide) (by decide) (by decide) (by decide) (by decide) (by decide) (by decide)
    · rw [fo 10 (by decide), oA 10 (by decide), o14 10 (by decide) (by decide), t5, if_pos rfl]
  · exfalso
    obtain ⟨-, -, -, -, -, -, -, n8, -⟩ := tx.at
    obtain ⟨vT, t1, t2⟩ := hT w rfl
    rw [r2, RE_x (by omega) n8] at t1
    have e9 : cpW (nt (E3 v1) 0 1) 4 0 2 0 390 = vT := congrArg Prod.snd (Option.some.inj t1)
    rw [← e9, cpW_j _ _ _ _ _ _ (show (0 : Nat) ≠ 2 by decide), nt_k, if_pos rfl] at t2
    exact absurd t2 (by decide)
