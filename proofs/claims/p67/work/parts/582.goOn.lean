set_option maxHeartbeats 400000
/-! the reference reads a token -/
theorem nt_15 (v : Wd) (k : Nat) (x : Int32) : nt v k x 15 = sI (v 15) 0 k x := sW_s _ _ _
theorem nt_o (v : Wd) (k : Nat) (x : Int32) {r : Nat} (h : r ≠ 15) : nt v k x r = v r := sW_o _ _ h
theorem nt_k (v : Wd) (k : Nat) (x : Int32) (k' : Nat) : (nt v k x 15).1 0 k' = if k' = k then x else (v 15).1 0 k' := by rw [nt_15, sI_at]
theorem nt_j (v : Wd) (k : Nat) (x : Int32) {j : Nat} (h : j ≠ 0) : (nt v k x 15).1 j = (v 15).1 j := by rw [nt_15, sI_o _ _ _ h]
theorem nt_2 (v : Wd) (k : Nat) (x : Int32) : (nt v k x 15).2 = (v 15).2 := by rw [nt_15]; rfl
def nl (v : Wd) (x : Int64) : Wd := sW v 15 (sL (v 15) 0 12 x)
theorem nl_15 (v : Wd) (x : Int64) : nl v x 15 = sL (v 15) 0 12 x := sW_s _ _ _
theorem nl_o (v : Wd) (x : Int64) {r : Nat} (h : r ≠ 15) : nl v x r = v r := sW_o _ _ h
theorem nl_1 (v : Wd) (x : Int64) : (nl v x 15).1 = (v 15).1 := by rw [nl_15]; rfl
theorem nl_2 (v : Wd) (x : Int64) : (nl v x 15).2 0 12 = x := by rw [nl_15, sL_at, if_pos rfl]
/-- the frame of the reference's reading -/
def GoF (v v' : Wd) : Prop := (∀ r, r ≠ 15 → v' r = v r) ∧ (∀ j, j ≠ 0 → (v' 15).1 j = (v 15).1 j) ∧ ∀ k, k ≠ 4 → k ≠ 5 → k ≠ 6 → k ≠ 7 → (v' 15).1 0 k = (v 15).1 0 k
theorem GoF.refl (v : Wd) : GoF v v := ⟨fun _ _ => rfl, fun _ _ => rfl, fun _ _ _ _ _ => rfl⟩
theorem GoF.trans {v v1 v2 : Wd} (h : GoF v v1) (h2 : GoF v1 v2) : GoF v v2 := ⟨fun r hr => (h2.1 r hr).trans (h.1 r hr), fun j a => (h2.2.1 j a).trans (h.2.1 j a), fun k a b c d => (h2.2.2 k a b c d).trans (h.2.2 k a b c d)⟩
theorem GoF.nt (v : Wd) {k : Nat} (x : Int32) (hk : k = 4 ∨ k = 5 ∨ k = 6 ∨ k = 7) : GoF v (nt v k x) := ⟨fun r hr => nt_o v k x hr, fun j hj => nt_j v k x hj, fun k' a b c d => by rw [nt_k, if_neg (by omega)]⟩
theorem GoF.nl (v : Wd) (x : Int64) : GoF v (nl v x) := ⟨fun r hr => nl_o v x hr, fun j _ => by rw [nl_1], fun k _ _ _ _ => by rw [nl_1]⟩
/-- the bytes of the text on the reference's side -/
def TB5 (v : Wd) (b : Nat → Nat) (f : Nat) : Prop := f ≤ 600 ∧ (v 15).1 0 3 = nI f ∧ ∀ j, j < f → b j < 256 ∧ (v 15).1 1 j = nI (b j)
theorem TB5.go {v v' : Wd} {b : Nat → Nat} {f : Nat} (h : TB5 v b f) (hF : GoF v v') : TB5 v' b f := ⟨h.1, by rw [hF.2.2 3 (by decide) (by decide) (by decide) (by decide)]; exact h.2.1, fun j hj => by rw [hF.2.1 1 (by decide)]; exact h.2.2 j hj⟩
theorem rHere {v : Wd} {b : Nat → Nat} {f a k : Nat} (h : TB5 v b f) (h4 : (v 15).1 0 4 = nI a) (ha : a + k ≤ 2000) : FX13_here v (nI k) = some (if a + k < f then nI (b (a + k)) else -1) := by
  obtain ⟨h1, h2, h3⟩ := h
  unfold FX13_here
  rw [h2, h4, nI_add]
  by_cases z : a + k < f
  · rw [if_neg (nI_ge z (by omega)), gd_t (inI (by omega) (by omega)), nI_c (by omega), (h3 _ z).2, if_pos z]
  · rw [if_pos (nI_le (by omega) (by omega)), if_neg z]
theorem rDig : ∀ b : Fin 256, FX13_isDigit (nI b.val) = decide (48 ≤ b.val ∧ b.val ≤ 57) := by decide +kernel
theorem rDigb {b : Nat} (h : b < 256) : FX13_isDigit (nI b) = decide (isD b) := rDig ⟨b, h⟩
theorem m1_L : FX13_isLetter (-1) = false := by decide
theorem m1_D : FX13_isDigit (-1) = false := by decide
/-- letters -/
theorem rWordL {n : Nat} {b : Nat → Nat} {f p : Nat} (hp : p ≤ f) (x0 : Int32) : ∀ (d m k : Nat) (v : Wd), p + m + d = f → d < k → TB5 v b f → (v 15).1 0 4 = nI p → (∀ q, q < m → isL (b (p + q))) → (m ≤ 8 → (v 15).2 0 12 = lN (pk5 (seg b p m))) → ∃ v', FX13_goOnRead_L76 n k v x0 (nI m) = some v' ∧ GoF v v' ∧ (v' 15).1 0 4 = nI (eL b f (p + m)) ∧ (v' 15).1 0 5 = (v 15).1 0 5 ∧ (v' 15).1 0 6 = nI (if eL b f (p + m) - p ≤ 8 then 1 else 4) ∧ (eL b f (p + m) - p ≤ 8 → (v' 15).2 0 12 = lN (pk5 (seg b p (eL b f (p + m) - p)))) := by
  have stop : ∀ (m : Nat) (v : Wd), p + m ≤ f → f ≤ 600 → (v 15).1 0 4 = nI p → (m ≤ 8 → (v 15).2 0 12 = lN (pk5 (seg b p m))) → ∃ v', (if nI m ≤ 8 then FX13_goOnRead_B133 n v (nI m) 1 else FX13_goOnRead_B133 n v (nI m) 4) = some v' ∧ GoF v v' ∧ (v' 15).1 0 4 = nI (p + m) ∧ (v' 15).1 0 5 = (v 15).1 0 5 ∧ (v' 15).1 0 6 = nI (if p + m - p ≤ 8 then 1 else 4) ∧ (p + m - p ≤ 8 → (v' 15).2 0 12 = lN (pk5 (seg b p (p + m - p)))) := by
    intro m v hm hf h4 hw
    have H : ∀ q : Nat, ∃ v', FX13_goOnRead_B133 n v (nI m) (nI q) = some v' ∧ GoF v v' ∧ (v' 15).1 0 4 = nI (p + m) ∧ (v' 15).1 0 5 = (v 15).1 0 5 ∧ (v' 15).1 0 6 = nI q ∧ (v' 15).2 = (v 15).2 := fun q => by
      refine ⟨nt (nt v 6 (nI q)) 4 (nI (p + m)), ?_, (GoF.nt v _ (by omega)).trans (GoF.nt _ _ (by omega)), ?_, ?_, ?_, ?_⟩
      · unfold FX13_goOnRead_B133 FX13_goOnRead_B239
        rw [bnd_s, bnd_s, show sW v 15 (sI (v 15) 0 6 (nI q)) = nt v 6 (nI q) from rfl, nt_k, if_neg (by decide), h4, nI_add]
        rfl
      · rw [nt_k, if_pos rfl]
      · rw [nt_k, if_neg (by decide), nt_k, if_neg (by decide)]
      · rw [nt_k, if_neg (by decide), nt_k, if_pos rfl]
      · rw [nt_2, nt_2]
    rw [Nat.add_sub_cancel_left]
    by_cases z : m ≤ 8
    · have hz : nI m ≤ (8 : Int32) := nI_le (b := 8) z (by decide)
      obtain ⟨v', e, a1, a2, a3, a4, a5⟩ := H 1
      rw [if_pos hz, if_pos z]
      exact ⟨v', e, a1, a2, a3, a4, fun _ => by rw [a5]; exact hw z⟩
    · have hz : ¬ nI m ≤ (8 : Int32) := nI_ge (a := 8) (by omega) (by omega)
      obtain ⟨v', e, a1, a2, a3, a4, a5⟩ := H 4
      rw [if_neg hz, if_neg z]
      exact ⟨v', e, a1, a2, a3, a4, fun y => absurd y z⟩
  intro d
  induction d with
  | zero =>
    intro m k v hm hk hT h4 ha hw
    obtain ⟨k, rfl⟩ : ∃ k', k = k' + 1 := ⟨k - 1, by omega⟩
    have hf := hT.1
    have e : eL b f (p + m) = p + m := goto_f (fun z => by omega)
    simp only [FX13_goOnRead_L76]
    rw [rHere hT h4 (by omega), if_neg (by omega), bo1_s, m1_L, bnd_s, if_neg (by decide), e]
    exact stop m v (by omega) hf h4 hw
  | succ d ih =>
    intro m k v hm hk hT h4 ha hw
    obtain ⟨k, rfl⟩ : ∃ k', k = k' + 1 := ⟨k - 1, by omega⟩
    have hf := hT.1
    obtain ⟨b1, b2⟩ := hT.2.2 (p + m) (by omega)
    simp only [FX13_goOnRead_L76]
    rw [rHere hT h4 (by omega), if_pos (by omega), bo1_s, rLet b1, bnd_s]
    by_cases z : isL (b (p + m))
    · have e : eL b f (p + m) = eL b f (p + (m + 1)) := goto_t (by omega) (decide_eq_true z)
      have ha' : ∀ q, q < m + 1 → isL (b (p + q)) := fun q hq => by
        by_cases y : q = m
        · rw [y]; exact z
        · exact ha q (by omega)
      rw [if_pos (decide_eq_true z), e]
      by_cases z8 : m < 8
      · have h8 : ¬ (8 : Int32) ≤ nI m := lt8 z8
        have e97 : (nI (b (p + m)) - 97) + 1 = nI (b (p + m) - 96) := by
          have : nI (b (p + m)) - 97 = nI (b (p + m) - 97) := nI_sub (b := 97) (by omega)
          rw [this, nI_1]
          congr 1
          omega
        have hl := seg5_lt (b := b) (s := p) (n := m) (by omega) ha
        rw [if_neg h8, bo1_s, hw (by omega), e97, sh5 (by omega) (by omega), bnd_s, nI_1]
        have hF := GoF.nl v (lN (pk5 (seg b p m) * 32 + (b (p + m) - 96)))
        obtain ⟨v', c1, c2, c3, c4, c5, c6⟩ := ih (m + 1) k (nl v (lN (pk5 (seg b p m) * 32 + (b (p + m) - 96)))) (by omega) (by omega) (hT.go hF) (by rw [nl_1]; exact h4) ha' (fun _ => by
          rw [nl_2]
          show _ = lN (pk5 (seg b p m ++ [b (p + m) - 96]))
          rw [pk5_snoc])
        exact ⟨v', c1, hF.trans c2, c3, by rw [c4, nl_1], c5, c6⟩
      · have h8 : (8 : Int32) ≤ nI m := nI_le (a := 8) (by omega) (by omega)
        rw [if_pos h8, nI_1]
        exact ih (m + 1) k v (by omega) (by omega) hT h4 ha' (fun y => absurd y (by omega))
    · have e : eL b f (p + m) = p + m := goto_f (fun y => z (of_decide_eq_true y.2))
      rw [if_neg (by rw [decide_eq_false z]; decide), e]
      exact stop m v (by omega) hf h4 hw
/-- digits -/
theorem rNumL {n : Nat} {b : Nat → Nat} {f p : Nat} (hp : p ≤ f) (x0 : Int32) : ∀ (d m k : Nat) (v : Wd), p + m + d = f → d < k → TB5 v b f → (v 15).1 0 4 = nI p → (∀ q, q < m → isD (b (p + q))) → (m ≤ 4 → (v 15).1 0 7 = nI (dcm b p m)) → ∃ v', FX13_goOnRead_L146 n k v x0 (nI m) = some v' ∧ GoF v v' ∧ (v' 15).1 0 4 = nI (eD b f (p + m)) ∧ (v' 15).1 0 5 = (v 15).1 0 5 ∧ (v' 15).1 0 6 = nI (if eD b f (p + m) - p ≤ 4 then 2 else 4) ∧ (eD b f (p + m) - p ≤ 4 → (v' 15).1 0 7 = nI (dcm b p (eD b f (p + m) - p))) := by
  have stop : ∀ (m : Nat) (v : Wd), p + m ≤ f → f ≤ 600 → (v 15).1 0 4 = nI p → (m ≤ 4 → (v 15).1 0 7 = nI (dcm b p m)) → ∃ v', (if nI m ≤ 4 then FX13_goOnRead_B199 n v (nI m) 2 else FX13_goOnRead_B199 n v (nI m) 4) = some v' ∧ GoF v v' ∧ (v' 15).1 0 4 = nI (p + m) ∧ (v' 15).1 0 5 = (v 15).1 0 5 ∧ (v' 15).1 0 6 = nI (if p + m - p ≤ 4 then 2 else 4) ∧ (p + m - p ≤ 4 → (v' 15).1 0 7 = nI (dcm b p (p + m - p))) := by
    intro m v hm hf h4 hw
    have H : ∀ q : Nat, ∃ v', FX13_goOnRead_B199 n v (nI m) (nI q) = some v' ∧ GoF v v' ∧ (v' 15).1 0 4 = nI (p + m) ∧ (v' 15).1 0 5 = (v 15).1 0 5 ∧ (v' 15).1 0 6 = nI q ∧ (v' 15).1 0 7 = (v 15).1 0 7 := fun q => by
      refine ⟨nt (nt v 6 (nI q)) 4 (nI (p + m)), ?_, (GoF.nt v _ (by omega)).trans (GoF.nt _ _ (by omega)), ?_, ?_, ?_, ?_⟩
      · unfold FX13_goOnRead_B199 FX13_goOnRead_B239
        rw [bnd_s, bnd_s, show sW v 15 (sI (v 15) 0 6 (nI q)) = nt v 6 (nI q) from rfl, nt_k, if_neg (by decide), h4, nI_add]
        rfl
      · rw [nt_k, if_pos rfl]
      · rw [nt_k, if_neg (by decide), nt_k, if_neg (by decide)]
      · rw [nt_k, if_neg (by decide), nt_k, if_pos rfl]
      · rw [nt_k, if_neg (by decide), nt_k, if_neg (by decide)]
    rw [Nat.add_sub_cancel_left]
    by_cases z : m ≤ 4
    · have hz : nI m ≤ (4 : Int32) := nI_le (b := 4) z (by decide)
      obtain ⟨v', e, a1, a2, a3, a4, a5⟩ := H 2
      rw [if_pos hz, if_pos z]
      exact ⟨v', e, a1, a2, a3, a4, fun _ => by rw [a5]; exact hw z⟩
    · have hz : ¬ nI m ≤ (4 : Int32) := nI_ge (a := 4) (by omega) (by omega)
      obtain ⟨v', e, a1, a2, a3, a4, a5⟩ := H 4
      rw [if_neg hz, if_neg z]
      exact ⟨v', e, a1, a2, a3, a4, fun y => absurd y z⟩
  intro d
  induction d with
  | zero =>
    intro m k v hm hk hT h4 ha hw
    obtain ⟨k, rfl⟩ : ∃ k', k = k' + 1 := ⟨k - 1, by omega⟩
    have hf := hT.1
    have e : eD b f (p + m) = p + m := goto_f (fun z => by omega)
    simp only [FX13_goOnRead_L146]
    rw [rHere hT h4 (by omega), if_neg (by omega), bo1_s, m1_D, bnd_s, if_neg (by decide), e]
    exact stop m v (by omega) hf h4 hw
  | succ d ih =>
    intro m k v hm hk hT h4 ha hw
    obtain ⟨k, rfl⟩ : ∃ k', k = k' + 1 := ⟨k - 1, by omega⟩
    have hf := hT.1
    obtain ⟨b1, b2⟩ := hT.2.2 (p + m) (by omega)
    simp only [FX13_goOnRead_L146]
    rw [rHere hT h4 (by omega), if_pos (by omega), bo1_s, rDigb b1, bnd_s]
    by_cases z : isD (b (p + m))
    · have e : eD b f (p + m) = eD b f (p + (m + 1)) := goto_t (by omega) (decide_eq_true z)
      have ha' : ∀ q, q < m + 1 → isD (b (p + q)) := fun q hq => by
        by_cases y : q = m
        · rw [y]; exact z
        · exact ha q (by omega)
      rw [if_pos (decide_eq_true z), e]
      by_cases z8 : m < 4
      · have h8 : ¬ (4 : Int32) ≤ nI m := nI_ge (b := 4) z8 (by decide)
        have e48 : (10 * nI (dcm b p m) + nI (b (p + m))) - 48 = nI (dcm b p (m + 1)) := by
          have e1 : (10 : Int32) * nI (dcm b p m) = nI (10 * dcm b p m) := pk_mul 10 _
          have e2 : nI (10 * dcm b p m + b (p + m)) - 48 = nI (10 * dcm b p m + b (p + m) - 48) := nI_sub (b := 48) (by omega)
          rw [e1, nI_add, e2]
          congr 1
          show _ = dcm b p m * 10 + (b (p + m) - 48)
          omega
        rw [if_neg h8, bo1_s, hw (by omega), e48, bnd_s, nI_1]
        have hF := GoF.nt v (k := 7) (nI (dcm b p (m + 1))) (by omega)
        obtain ⟨v', c1, c2, c3, c4, c5, c6⟩ := ih (m + 1) k (nt v 7 (nI (dcm b p (m + 1)))) (by omega) (by omega) (hT.go hF) (by rw [nt_k, if_neg (by decide)]; exact h4) ha' (fun _ => by rw [nt_k, if_pos rfl])
        exact ⟨v', c1, hF.trans c2, c3, by rw [c4, nt_k, if_neg (by decide)], c5, c6⟩
      · have h8 : (4 : Int32) ≤ nI m := nI_le (a := 4) (by omega) (by omega)
        rw [if_pos h8, nI_1]
        exact ih (m + 1) k v (by omega) (by omega) hT h4 ha' (fun y => absurd y (by omega))
    · have e : eD b f (p + m) = p + m := goto_f (fun y => z (of_decide_eq_true y.2))
      rw [if_neg (by rw [decide_eq_false z]; decide), e]
      exact stop m v (by omega) hf h4 hw
/-- the reference stands at the token at p -/
def RB (v : Wd) (b : Nat → Nat) (f p : Nat) : Prop := TB5 v b f ∧ (v 15).1 0 4 = nI (if p < f then tE b f p else f) ∧ (v 15).1 0 5 = nI p ∧ (v 15).1 0 6 = nI (tK b f p) ∧ (tK b f p = 1 → (v 15).2 0 12 = v5 (tW b f p)) ∧ (tK b f p = 2 → (v 15).1 0 7 = nI (tN b f p)) ∧ (tK b f p = 3 → (v 15).1 0 7 = nI (b p))
theorem byte_ne : ∀ b : Fin 256, ((nI b.val = (32 : Int32)) ↔ b.val = 32) ∧ ((nI b.val = (10 : Int32)) ↔ b.val = 10) ∧ ((nI b.val = (59 : Int32)) ↔ b.val = 59) ∧ ((nI b.val = (40 : Int32)) ↔ b.val = 40) ∧ ((nI b.val = (41 : Int32)) ↔ b.val = 41) := by decide +kernel
theorem rGo {n : Nat} (hn : 1000 ≤ n) {b : Nat → Nat} {f : Nat} : ∀ (d a k : Nat) (v : Wd), a + d = f → d < k → TB5 v b f → (v 15).1 0 4 = nI a → ∃ v', FX13_goOnRead_L0 n k v = some v' ∧ GoF v v' ∧ RB v' b f (goto (pS b) f a) := by
  intro d
  induction d with
  | zero =>
    intro a k v ha hk hT h4
    obtain ⟨k, rfl⟩ : ∃ k', k = k' + 1 := ⟨k - 1, by omega⟩
    have hf := hT.1
    have e : goto (pS b) f a = a := goto_f (fun z => by omega)
    have hh : FX13_here v 0 = some (-1) := by
      have := rHere (k := 0) hT h4 (by omega)
      rw [if_neg (by omega)] at this
      exact this
    have k0 : tK b f a = 0 := tK_0.mpr (by omega)
    generalize hv1 : nt (nl (nt v 5 (nI a)) 0) 7 0 = v1
    have F1 : GoF v v1 := by rw [← hv1]; exact ((GoF.nt v _ (by omega)).trans (GoF.nl _ _)).trans (GoF.nt _ _ (by omega))
    have s4 : (v1 15).1 0 4 = nI a := by rw [← hv1, nt_k, if_neg (by decide), nl_1, nt_k, if_neg (by decide)]; exact h4
    have s5 : (v1 15).1 0 5 = nI a := by rw [← hv1, nt_k, if_neg (by decide), nl_1, nt_k, if_pos rfl]
    have hh1 : FX13_here v1 0 = some (-1) := by
      have := rHere (k := 0) (hT.go F1) s4 (by omega)
      rw [if_neg (by omega)] at this
      exact this
    have F2 : GoF v (nt v1 6 0) := F1.trans (GoF.nt _ _ (by omega))
    refine ⟨nt v1 6 0, ?_, F2, ?_⟩
    · simp only [FX13_goOnRead_L0]
      rw [hh, bo1_s, if_neg (by decide), bo1_s, if_neg (by decide), h4, bnd_s, bnd_s, bnd_s, show sW (sW (sW v 15 (sI (v 15) 0 5 (nI a))) 15 (sL ((sW v 15 (sI (v 15) 0 5 (nI a))) 15) 0 12 0)) 15 (sI ((sW (sW v 15 (sI (v 15) 0 5 (nI a))) 15 (sL ((sW v 15 (sI (v 15) 0 5 (nI a))) 15) 0 12 0)) 15) 0 7 0) = v1 from hv1, hh1, bo1_s, if_neg (by decide), bnd_s]
      rfl
    · rw [e]
      refine ⟨hT.go F2, ?_, ?_, ?_, fun y => ?_, fun y => ?_, fun y => ?_⟩
      · rw [nt_k, if_neg (by decide), s4, if_neg (by omega), show a = f by omega]
      · rw [nt_k, if_neg (by decide), s5]
      · rw [nt_k, if_pos rfl, k0]; rfl
      · rw [k0] at y; omega
      · rw [k0] at y; omega
      · rw [k0] at y; omega
  | succ d ih =>
    intro a k v ha hk hT h4
    obtain ⟨k, rfl⟩ : ∃ k', k = k' + 1 := ⟨k - 1, by omega⟩
    have hf := hT.1
    obtain ⟨b1, b2⟩ := hT.2.2 a (by omega)
    obtain ⟨n32, n10, n59, n40, n41⟩ := byte_ne ⟨b a, b1⟩
    have n32' : nI (b a) = (32 : Int32) ↔ b a = 32 := n32
    have n10' : nI (b a) = (10 : Int32) ↔ b a = 10 := n10
    have n59' : nI (b a) = (59 : Int32) ↔ b a = 59 := n59
    have n40' : nI (b a) = (40 : Int32) ↔ b a = 40 := n40
    have n41' : nI (b a) = (41 : Int32) ↔ b a = 41 := n41
    have hh : ∀ v1, GoF v v1 → (v1 15).1 0 4 = nI a → FX13_here v1 0 = some (nI (b a)) := fun v1 hF h => by
      have := rHere (k := 0) (hT.go hF) h (by omega)
      rw [if_pos (by omega)] at this
      exact this
    by_cases zs : b a = 32 ∨ b a = 10
    · have e : goto (pS b) f a = goto (pS b) f (a + 1) := goto_t (by omega) (decide_eq_true zs)
      have F1 := GoF.nt v (k := 4) (nI (a + 1)) (by omega)
      obtain ⟨v', c1, c2, c3⟩ := ih (a + 1) k (nt v 4 (nI (a + 1))) (by omega) (by omega) (hT.go F1) (by rw [nt_k, if_pos rfl])
      refine ⟨v', ?_, F1.trans c2, by rw [e]; exact c3⟩
      simp only [FX13_goOnRead_L0]
      rw [hh v (GoF.refl v) h4, bo1_s, h4, nI_1]
      by_cases z : b a = 32
      · rw [if_pos (n32'.mpr z), bnd_s]
        exact c1
      · rw [if_neg (fun y => z (n32'.mp y)), bo1_s, if_pos (n10'.mpr (zs.resolve_left z)), bnd_s]
        exact c1
    · have e : goto (pS b) f a = a := goto_f (fun y => zs (of_decide_eq_true y.2))
      have z32 : ¬ nI (b a) = (32 : Int32) := fun y => zs (Or.inl (n32'.mp y))
      have z10 : ¬ nI (b a) = (10 : Int32) := fun y => zs (Or.inr (n10'.mp y))
      generalize hv1 : nt (nl (nt v 5 (nI a)) 0) 7 0 = v1
      have F1 : GoF v v1 := by rw [← hv1]; exact ((GoF.nt v _ (by omega)).trans (GoF.nl _ _)).trans (GoF.nt _ _ (by omega))
      have s4 : (v1 15).1 0 4 = nI a := by rw [← hv1, nt_k, if_neg (by decide), nl_1, nt_k, if_neg (by decide)]; exact h4
      have s5 : (v1 15).1 0 5 = nI a := by rw [← hv1, nt_k, if_neg (by decide), nl_1, nt_k, if_pos rfl]
      have s7 : (v1 15).1 0 7 = 0 := by rw [← hv1, nt_k, if_pos rfl]
      have s12 : (v1 15).2 0 12 = 0 := by rw [← hv1, nt_2, nl_2]
      have hpos : (0 : Int32) ≤ nI (b a) := nI_pos' (by omega)
      have red : FX13_goOnRead_L0 n (k + 1) v = bnd (FX13_isLetter (nI (b a))) fun x19 => if x19 = true then FX13_goOnRead_L76 n n v1 (nI (b a)) 0 else bnd (FX13_isDigit (nI (b a))) fun x22 => if x22 = true then FX13_goOnRead_L146 n n v1 (nI (b a)) 0 else if nI (b a) = 59 then FX13_goOnRead_B224 n v1 (nI (b a)) else if nI (b a) = 40 then FX13_goOnRead_B224 n v1 (nI (b a)) else if nI (b a) = 41 then FX13_goOnRead_B224 n v1 (nI (b a)) else FX13_goOnRead_B229 n v1 (nI (b a)) 4 := by
        simp only [FX13_goOnRead_L0]
        rw [hh v (GoF.refl v) h4, bo1_s, if_neg z32, bo1_s, if_neg z10, h4, bnd_s, bnd_s, bnd_s, show sW (sW (sW v 15 (sI (v 15) 0 5 (nI a))) 15 (sL ((sW v 15 (sI (v 15) 0 5 (nI a))) 15) 0 12 0)) 15 (sI ((sW (sW v 15 (sI (v 15) 0 5 (nI a))) 15 (sL ((sW v 15 (sI (v 15) 0 5 (nI a))) 15) 0 12 0)) 15) 0 7 0) = v1 from hv1, hh v1 F1 s4, bo1_s, if_pos hpos]
      rw [red, e, rLet b1, bnd_s]
      by_cases zl : isL (b a)
      · rw [if_pos (decide_eq_true zl)]
        obtain ⟨v', c1, c2, c3, c4, c5, c6⟩ := rWordL (n := n) (b := b) (f := f) (p := a) (by omega) (nI (b a)) (f - a) 0 n v1 (by omega) (by omega) (hT.go F1) s4 (fun q hq => absurd hq (Nat.not_lt_zero q)) (fun _ => s12)
        rw [Nat.add_zero] at c3 c5 c6
        have eE : tE b f a = eL b f a := if_pos zl
        have eK : tK b f a = if eL b f a - a ≤ 8 then 1 else 4 := by
          unfold tK
          rw [if_neg (by omega), if_pos zl]
        refine ⟨v', c1, F1.trans c2, hT.go (F1.trans c2), ?_, by rw [c4, s5], by rw [c5, eK], fun y => ?_, fun y => ?_, fun y => ?_⟩
        · rw [if_pos (by omega), eE, c3]
        · have h8 : eL b f a - a ≤ 8 := by
            by_cases z8 : eL b f a - a ≤ 8
            · exact z8
            · rw [eK, if_neg z8] at y; omega
          obtain ⟨ls, hl1, hl2⟩ := tW_ok y
          rw [c6 h8, hl2]
          have : ls = seg b a (eL b f a - a) := by
            unfold tW nmO at hl2
            by_cases zz : 1 ≤ eL b f a - a ∧ eL b f a - a ≤ 8 ∧ ∀ k, k < eL b f a - a → isL (b (a + k))
            · rw [if_pos zz] at hl2
              exact (Option.some.inj hl2).symm
            · rw [if_neg zz] at hl2
              exact absurd hl2 (by simp)
          rw [this]
          rfl
        · by_cases z8 : eL b f a - a ≤ 8
          · rw [eK, if_pos z8] at y; omega
          · rw [eK, if_neg z8] at y; omega
        · by_cases z8 : eL b f a - a ≤ 8
          · rw [eK, if_pos z8] at y; omega
          · rw [eK, if_neg z8] at y; omega
      · rw [if_neg (by rw [decide_eq_false zl]; decide), rDigb b1, bnd_s]
        by_cases zd : isD (b a)
        · rw [if_pos (decide_eq_true zd)]
          obtain ⟨v', c1, c2, c3, c4, c5, c6⟩ := rNumL (n := n) (b := b) (f := f) (p := a) (by omega) (nI (b a)) (f - a) 0 n v1 (by omega) (by omega) (hT.go F1) s4 (fun q hq => absurd hq (Nat.not_lt_zero q)) (fun _ => s7)
          rw [Nat.add_zero] at c3 c5 c6
          have eE : tE b f a = eD b f a := by
            unfold tE
            rw [if_neg zl, if_pos zd]
          have eK : tK b f a = if eD b f a - a ≤ 4 then 2 else 4 := by
            unfold tK
            rw [if_neg (by omega), if_neg zl, if_pos zd]
          refine ⟨v', c1, F1.trans c2, hT.go (F1.trans c2), ?_, by rw [c4, s5], by rw [c5, eK], fun y => ?_, fun y => ?_, fun y => ?_⟩
          · rw [if_pos (by omega), eE, c3]
          · by_cases z8 : eD b f a - a ≤ 4
            · rw [eK, if_pos z8] at y; omega
            · rw [eK, if_neg z8] at y; omega
          · have h8 : eD b f a - a ≤ 4 := by
              by_cases z8 : eD b f a - a ≤ 4
              · exact z8
              · rw [eK, if_neg z8] at y; omega
            rw [c6 h8]
            rfl
          · by_cases z8 : eD b f a - a ≤ 4
            · rw [eK, if_pos z8] at y; omega
            · rw [eK, if_neg z8] at y; omega
        · rw [if_neg (by rw [decide_eq_false zd]; decide)]
          have eE : tE b f a = a + 1 := by
            unfold tE
            rw [if_neg zl, if_neg zd]
          have eK : tK b f a = if b a = 59 ∨ b a = 40 ∨ b a = 41 then 3 else 4 := by
            unfold tK
            rw [if_neg (by omega), if_neg zl, if_neg zd]
          have H : ∀ q : Nat, tK b f a = q → q ≠ 1 → q ≠ 2 → ∃ v', FX13_goOnRead_B229 n v1 (nI (b a)) (nI q) = some v' ∧ GoF v v' ∧ RB v' b f a := fun q hq q1 q2 => by
            have F2 : GoF v (nt (nt (nt v1 6 (nI q)) 7 (nI (b a))) 4 (nI (a + 1))) := ((F1.trans (GoF.nt _ _ (by omega))).trans (GoF.nt _ _ (by omega))).trans (GoF.nt _ _ (by omega))
            refine ⟨_, ?_, F2, hT.go F2, ?_, ?_, ?_, fun y => absurd (hq.symm.trans y) q1, fun y => absurd (hq.symm.trans y) q2, fun _ => ?_⟩
            · unfold FX13_goOnRead_B229 FX13_goOnRead_B239
              rw [bnd_s, bnd_s, bnd_s, show sW v1 15 (sI (v1 15) 0 6 (nI q)) = nt v1 6 (nI q) from rfl, show sW (nt v1 6 (nI q)) 15 (sI (nt v1 6 (nI q) 15) 0 7 (nI (b a))) = nt (nt v1 6 (nI q)) 7 (nI (b a)) from rfl, nt_k, if_neg (by decide), nt_k, if_neg (by decide), s4, nI_1]
              rfl
            · rw [nt_k, if_pos rfl, if_pos (by omega), eE]
            · rw [nt_k, if_neg (by decide), nt_k, if_neg (by decide), nt_k, if_neg (by decide), s5]
            · rw [nt_k, if_neg (by decide), nt_k, if_neg (by decide), nt_k, if_pos rfl, hq]
            · rw [nt_k, if_neg (by decide), nt_k, if_pos rfl]
          by_cases zz : b a = 59 ∨ b a = 40 ∨ b a = 41
          · obtain ⟨v', c1, c2, c3⟩ := H 3 (by rw [eK, if_pos zz]) (by decide) (by decide)
            refine ⟨v', ?_, c2, c3⟩
            have c1' : FX13_goOnRead_B224 n v1 (nI (b a)) = some v' := c1
            by_cases y1 : b a = 59
            · rw [if_pos (n59'.mpr y1), c1']
            · rw [if_neg (fun y => y1 (n59'.mp y))]
              by_cases y2 : b a = 40
              · rw [if_pos (n40'.mpr y2), c1']
              · rw [if_neg (fun y => y2 (n40'.mp y)), if_pos (n41'.mpr (by omega)), c1']
          · obtain ⟨v', c1, c2, c3⟩ := H 4 (by rw [eK, if_neg zz]) (by decide) (by decide)
            refine ⟨v', ?_, c2, c3⟩
            have c1' : FX13_goOnRead_B229 n v1 (nI (b a)) 4 = some v' := c1
            rw [if_neg (fun y => zz (Or.inl (n59'.mp y))), if_neg (fun y => zz (Or.inr (Or.inl (n40'.mp y)))), if_neg (fun y => zz (Or.inr (Or.inr (n41'.mp y)))), c1']
