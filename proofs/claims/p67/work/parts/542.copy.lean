set_option maxHeartbeats 400000
/-! copies -/
theorem loopQ {α β : Type} {L : Nat → α → Int32 → Option β} {g : α → Option β} {ns : Nat} (P : Nat → α → Prop) (h0 : ∀ k a, P ns a → L (k + 1) a (nI ns) = g a) (h1 : ∀ k a i, i < ns → P i a → ∃ a', P (i + 1) a' ∧ L (k + 1) a (nI i) = L k a' (nI (i + 1))) {k : Nat} (hk : ns < k) (a : α) (ha : P 0 a) : ∃ b, P ns b ∧ L k a 0 = g b := by
  have H : ∀ d i k a, i + d = ns → d < k → P i a → ∃ b, P ns b ∧ L k a (nI i) = g b := by
    intro d
    induction d with
    | zero =>
      intro i k a hi hk hp
      obtain ⟨k, rfl⟩ : ∃ k', k = k' + 1 := ⟨k - 1, by omega⟩
      have e : i = ns := by omega
      subst e
      exact ⟨a, hp, h0 k a hp⟩
    | succ d ih =>
      intro i k a hi hk hp
      obtain ⟨k, rfl⟩ : ∃ k', k = k' + 1 := ⟨k - 1, by omega⟩
      obtain ⟨a', hp', e⟩ := h1 k a i (by omega) hp
      obtain ⟨b, hb, e2⟩ := ih (i + 1) k a' (by omega) (by omega) hp'
      exact ⟨b, hb, e.trans e2⟩
  exact H ns 0 k a (by omega) hk ha
theorem sI_at (M : MM) (j k : Nat) (x : Int32) (k' : Nat) : (sI M j k x).1 j k' = if k' = k then x else M.1 j k' := by
  rw [sI_s]
  rfl
theorem sL_at (M : MM) (j k : Nat) (x : Int64) (k' : Nat) : (sL M j k x).2 j k' = if k' = k then x else M.2 j k' := by
  rw [sL_s]
  rfl
theorem cp10 (M MB : MM) (j : Nat) : (∀ k, 1 ≤ k → k ≤ 7 → (FX10_copyFrom M MB j j).1 j k = MB.1 j k) ∧ (FX10_copyFrom M MB j j).2 j 0 = MB.2 j 0 ∧ ∀ i, i ≠ j → (FX10_copyFrom M MB j j).1 i = M.1 i ∧ (FX10_copyFrom M MB j j).2 i = M.2 i := by
  simp only [FX10_copyFrom, bnd_s]
  refine ⟨fun k h1 h2 => ?_, ?_, fun i h => ⟨?_, ?_⟩⟩
  · have hk : k = 1 ∨ k = 2 ∨ k = 3 ∨ k = 4 ∨ k = 5 ∨ k = 6 ∨ k = 7 := by omega
    rcases hk with rfl | rfl | rfl | rfl | rfl | rfl | rfl <;> simp only [sI_at] <;> rfl
  · show (sL M j 0 (MB.2 j 0)).2 j 0 = MB.2 j 0
    rw [sL_at]
    rfl
  · simp only [sI_o _ _ _ h]
    rfl
  · show (sL M j 0 (MB.2 j 0)).2 i = M.2 i
    exact sL_o _ _ _ h
theorem cp2 (M MB : MM) (j : Nat) : (∀ k, 1 ≤ k → k ≤ 6 → (FX2_copyFrom M MB j j).1 j k = MB.1 j k) ∧ (FX2_copyFrom M MB j j).2 j 0 = MB.2 j 0 ∧ ∀ i, i ≠ j → (FX2_copyFrom M MB j j).1 i = M.1 i ∧ (FX2_copyFrom M MB j j).2 i = M.2 i := by
  simp only [FX2_copyFrom, bnd_s]
  refine ⟨fun k h1 h2 => ?_, ?_, fun i h => ⟨?_, ?_⟩⟩
  · have hk : k = 1 ∨ k = 2 ∨ k = 3 ∨ k = 4 ∨ k = 5 ∨ k = 6 := by omega
    rcases hk with rfl | rfl | rfl | rfl | rfl | rfl <;> simp only [sI_at] <;> rfl
  · show (sL M j 0 (MB.2 j 0)).2 j 0 = MB.2 j 0
    rw [sL_at]
    rfl
  · simp only [sI_o _ _ _ h]
    rfl
  · show (sL M j 0 (MB.2 j 0)).2 i = M.2 i
    exact sL_o _ _ _ h
theorem cp8 (M MB : MM) (j : Nat) : (∀ k, k ≤ 10 → (FX8_copyFrom M MB j j).1 j k = MB.1 j k) ∧ (FX8_copyFrom M MB j j).2 = M.2 ∧ ∀ i, i ≠ j → (FX8_copyFrom M MB j j).1 i = M.1 i := by
  simp only [FX8_copyFrom, bnd_s]
  refine ⟨fun k h2 => ?_, rfl, fun i h => ?_⟩
  · have hk : k = 0 ∨ k = 1 ∨ k = 2 ∨ k = 3 ∨ k = 4 ∨ k = 5 ∨ k = 6 ∨ k = 7 ∨ k = 8 ∨ k = 9 ∨ k = 10 := by omega
    rcases hk with rfl | rfl | rfl | rfl | rfl | rfl | rfl | rfl | rfl | rfl | rfl <;> simp only [sI_at] <;> rfl
  · simp only [sI_o _ _ _ h]
/-- the copy of a market agrees with it -/
theorem copyFrom_ok {n : Nat} (hn : 100 ≤ n) (M MB : MM) {nv nc ns : Nat} (hv : MB.1 0 3 = nI nv) (hc : MB.1 0 4 = nI nc) (hs : MB.1 0 5 = nI ns) (bv : nv ≤ 8) (bc : nc ≤ 8) (bs : ns ≤ 30) : ∃ M', FX6_copyFrom n M MB = some M' ∧ EqM MB M' nv nc ns := by
  let P0 : MM → Prop := fun X => ∀ k, 3 ≤ k → k ≤ 12 → X.1 0 k = MB.1 0 k
  let PV : Nat → MM → Prop := fun i X => P0 X ∧ ∀ v, v < i → (∀ k, 1 ≤ k → k ≤ 7 → X.1 (4 + v) k = MB.1 (4 + v) k) ∧ X.2 (4 + v) 0 = MB.2 (4 + v) 0
  let PC : Nat → MM → Prop := fun i X => PV nv X ∧ ∀ c, c < i → (∀ k, 1 ≤ k → k ≤ 6 → X.1 (12 + c) k = MB.1 (12 + c) k) ∧ X.2 (12 + c) 0 = MB.2 (12 + c) 0
  let PS : Nat → MM → Prop := fun i X => PC nc X ∧ ∀ c, c < i → ∀ k, k ≤ 10 → X.1 (20 + c) k = MB.1 (20 + c) k
  have LS : ∀ X, PC nc X → ∃ b, PS ns b ∧ FX6_copyFrom_L144 n MB n X 0 = some b := by
    intro X hX
    refine loopQ (L := fun k a i => FX6_copyFrom_L144 n MB k a i) (g := some) PS (fun k a ha => ?_) (fun k a i hi ha => ?_) (by omega) X ⟨hX, fun c hc => absurd hc (Nat.not_lt_zero c)⟩
    · simp only [FX6_copyFrom_L144]
      rw [ha.1.1.1 5 (by decide) (by decide), hs, if_pos (Int32.le_refl _)]
    · obtain ⟨q1, q2, q3⟩ := cp8 a MB (20 + i)
      refine ⟨FX8_copyFrom a MB (20 + i) (20 + i), ⟨⟨⟨fun k h1 h2 => ?_, fun v hv => ⟨fun k h1 h2 => ?_, ?_⟩⟩, fun c hc => ⟨fun k h1 h2 => ?_, ?_⟩⟩, fun c hc k hk => ?_⟩, ?_⟩
      · rw [q3 0 (by omega)]; exact ha.1.1.1 k h1 h2
      · rw [q3 (4 + v) (by omega)]; exact (ha.1.1.2 v hv).1 k h1 h2
      · rw [q2]; exact (ha.1.1.2 v hv).2
      · rw [q3 (12 + c) (by omega)]; exact (ha.1.2 c hc).1 k h1 h2
      · rw [q2]; exact (ha.1.2 c hc).2
      · by_cases e : c = i
        · subst e; exact q1 k hk
        · rw [q3 (20 + c) (by omega)]; exact ha.2 c (by omega) k hk
      · simp only [FX6_copyFrom_L144]
        rw [ha.1.1.1 5 (by decide) (by decide), hs, if_neg (le_nI hi (by omega)), gd_t (inI (by omega) (by omega)), gd_t (inI (by omega) (by omega)), nI_c (by omega), bnd_s, nI_1]
  have LC : ∀ X, PV nv X → ∃ b, PS ns b ∧ FX6_copyFrom_L113 n MB n X 0 = some b := by
    intro X hX
    obtain ⟨Y, hY, e⟩ := loopQ (L := fun k a i => FX6_copyFrom_L113 n MB k a i) (g := fun a => FX6_copyFrom_L144 n MB n a 0) (ns := nc) (k := n) PC (fun k a ha => by
      simp only [FX6_copyFrom_L113]
      rw [ha.1.1 4 (by decide) (by decide), hc, if_pos (Int32.le_refl _)]) (fun k a i hi ha => by
      obtain ⟨q1, q2, q3⟩ := cp2 a MB (12 + i)
      refine ⟨FX2_copyFrom a MB (12 + i) (12 + i), ⟨⟨fun k h1 h2 => ?_, fun v hv => ⟨fun k h1 h2 => ?_, ?_⟩⟩, fun c hc => ⟨fun k h1 h2 => ?_, ?_⟩⟩, ?_⟩
      · rw [(q3 0 (by omega)).1]; exact ha.1.1 k h1 h2
      · rw [(q3 (4 + v) (by omega)).1]; exact (ha.1.2 v hv).1 k h1 h2
      · rw [(q3 (4 + v) (by omega)).2]; exact (ha.1.2 v hv).2
      · by_cases e : c = i
        · subst e; exact q1 k h1 h2
        · rw [(q3 (12 + c) (by omega)).1]; exact (ha.2 c (by omega)).1 k h1 h2
      · by_cases e : c = i
        · subst e; exact q2
        · rw [(q3 (12 + c) (by omega)).2]; exact (ha.2 c (by omega)).2
      · simp only [FX6_copyFrom_L113]
        rw [ha.1.1 4 (by decide) (by decide), hc, if_neg (le_nI hi (by omega)), gd_t (inI (by omega) (by omega)), gd_t (inI (by omega) (by omega)), nI_c (by omega), bnd_s, nI_1]) (by omega) X ⟨hX, fun c hc => absurd hc (Nat.not_lt_zero c)⟩
    obtain ⟨b, hb, e2⟩ := LS Y hY
    exact ⟨b, hb, e.trans e2⟩
  have LV : ∀ X, P0 X → ∃ b, PS ns b ∧ FX6_copyFrom_L82 n MB n X 0 = some b := by
    intro X hX
    obtain ⟨Y, hY, e⟩ := loopQ (L := fun k a i => FX6_copyFrom_L82 n MB k a i) (g := fun a => FX6_copyFrom_L113 n MB n a 0) (ns := nv) (k := n) PV (fun k a ha => by
      simp only [FX6_copyFrom_L82]
      rw [ha.1 3 (by decide) (by decide), hv, if_pos (Int32.le_refl _)]) (fun k a i hi ha => by
      obtain ⟨q1, q2, q3⟩ := cp10 a MB (4 + i)
      refine ⟨FX10_copyFrom a MB (4 + i) (4 + i), ⟨fun k h1 h2 => ?_, fun v hv => ⟨fun k h1 h2 => ?_, ?_⟩⟩, ?_⟩
      · rw [(q3 0 (by omega)).1]; exact ha.1 k h1 h2
      · by_cases e : v = i
        · subst e; exact q1 k h1 h2
        · rw [(q3 (4 + v) (by omega)).1]; exact (ha.2 v (by omega)).1 k h1 h2
      · by_cases e : v = i
        · subst e; exact q2
        · rw [(q3 (4 + v) (by omega)).2]; exact (ha.2 v (by omega)).2
      · simp only [FX6_copyFrom_L82]
        rw [ha.1 3 (by decide) (by decide), hv, if_neg (le_nI hi (by omega)), gd_t (inI (by omega) (by omega)), gd_t (inI (by omega) (by omega)), nI_c (by omega), bnd_s, nI_1]) (by omega) X ⟨hX, fun c hc => absurd hc (Nat.not_lt_zero c)⟩
    obtain ⟨b, hb, e2⟩ := LC Y hY
    exact ⟨b, hb, e.trans e2⟩
  unfold FX6_copyFrom
  simp only [bnd_s]
  obtain ⟨b, hb, e⟩ := LV (sI (sI (sI (sI (sI (sI (sI (sI (sI (sI M 0 3 (MB.1 0 3)) 0 4 (MB.1 0 4)) 0 5 (MB.1 0 5)) 0 6 (MB.1 0 6)) 0 7 (MB.1 0 7)) 0 8 (MB.1 0 8)) 0 9 (MB.1 0 9)) 0 10 (MB.1 0 10)) 0 11 (MB.1 0 11)) 0 12 (MB.1 0 12)) (fun k h1 h2 => by
    have hk : k = 3 ∨ k = 4 ∨ k = 5 ∨ k = 6 ∨ k = 7 ∨ k = 8 ∨ k = 9 ∨ k = 10 ∨ k = 11 ∨ k = 12 := by omega
    rcases hk with rfl | rfl | rfl | rfl | rfl | rfl | rfl | rfl | rfl | rfl <;> simp only [sI_at] <;> rfl)
  exact ⟨b, e, hb.1.1.1, hb.1.1.2, hb.1.2, hb.2⟩
theorem rowI_s (f : Nat → Nat → Int32) (j : Nat) (a : Nat → Int32) : rowI f j a j = a := if_pos rfl
theorem rowI_o {f : Nat → Nat → Int32} {j x : Nat} {a : Nat → Int32} (h : x ≠ j) : rowI f j a x = f x := if_neg h
/-- a row of the reference copied -/
def cpW (w : Wd) (j0 a j2 b m : Nat) : Wd := sW w 15 (rowI (w 15).1 j2 (fun k => if b ≤ k ∧ k < b + m then (w 15).1 j0 (a + (k - b)) else (w 15).1 j2 k), (w 15).2)
theorem copiesRow_ok {n : Nat} (hn : 500 ≤ n) (w : Wd) {j0 a j2 b : Nat} (hj : j0 ≠ j2) (ha : a + 390 ≤ modLen j0) (hb : b + 390 ≤ modLen j2) (h1 : modLen j0 ≤ 3000) (h2 : modLen j2 ≤ 3000) : FX13_copiesRow n w j0 (nI a) j2 (nI b) = some (cpW w j0 a j2 b 390) := by
  have hz : cpW w j0 a j2 b 0 = w := by
    unfold cpW
    have e : (rowI (w 15).1 j2 (fun k => if b ≤ k ∧ k < b + 0 then (w 15).1 j0 (a + (k - b)) else (w 15).1 j2 k)) = (w 15).1 := by
      funext j k
      unfold rowI
      by_cases z : j = j2
      · rw [if_pos z, z, if_neg (by omega)]
      · rw [if_neg z]
    rw [e]
    exact sW_self w 15
  unfold FX13_copiesRow
  obtain ⟨x, hx, e⟩ := loopQ (L := fun k a9 i => FX13_copiesRow_L3 n k a9 j0 (nI a) j2 (nI b) i) (g := some) (ns := 390) (k := n) (fun i x => x = cpW w j0 a j2 b i) (fun k x hx => by
    simp only [FX13_copiesRow_L3]
    rw [if_pos (show (390 : Int32) ≤ nI 390 from Int32.le_refl _)]) (fun k x i hi hx => by
    refine ⟨_, rfl, ?_⟩
    subst hx
    simp only [FX13_copiesRow_L3]
    rw [show (390 : Int32) = nI 390 from rfl, if_neg (le_nI hi (by decide)), nI_add, nI_add, gd_t (inI (by omega) h1), gd_t (inI (by omega) h2), nI_c (by omega), nI_c (by omega), bnd_s, nI_1]
    congr 1
    unfold cpW
    rw [sW_s, sW_sW]
    congr 1
    refine Prod.ext ?_ rfl
    funext j k2
    show rowI (rowI (w 15).1 j2 (fun k => if b ≤ k ∧ k < b + i then (w 15).1 j0 (a + (k - b)) else (w 15).1 j2 k)) j2 (upd (rowI (w 15).1 j2 (fun k => if b ≤ k ∧ k < b + i then (w 15).1 j0 (a + (k - b)) else (w 15).1 j2 k) j2) (b + i) (rowI (w 15).1 j2 (fun k => if b ≤ k ∧ k < b + i then (w 15).1 j0 (a + (k - b)) else (w 15).1 j2 k) j0 (a + i))) j k2 = rowI (w 15).1 j2 (fun k => if b ≤ k ∧ k < b + (i + 1) then (w 15).1 j0 (a + (k - b)) else (w 15).1 j2 k) j k2
    by_cases z : j = j2
    · rw [z, rowI_s, rowI_s, rowI_s, rowI_o hj]
      show (if k2 = b + i then (w 15).1 j0 (a + i) else (if b ≤ k2 ∧ k2 < b + i then (w 15).1 j0 (a + (k2 - b)) else (w 15).1 j2 k2)) = (if b ≤ k2 ∧ k2 < b + (i + 1) then (w 15).1 j0 (a + (k2 - b)) else (w 15).1 j2 k2)
      by_cases z2 : k2 = b + i
      · rw [if_pos z2, if_pos (by omega), show k2 - b = i by omega]
      · rw [if_neg z2]
        by_cases z3 : b ≤ k2 ∧ k2 < b + i
        · rw [if_pos z3, if_pos (by omega)]
        · rw [if_neg z3, if_neg (by omega)]
    · rw [rowI_o z, rowI_o z, rowI_o z]) (by omega) w hz.symm
  rw [← hx]
  exact e
