set_option maxHeartbeats 400000
/-! the class finds all tokens -/
def ct (w : Wd) (j k : Nat) (x : Int32) : Wd := sW w 10 (sI (w 10) j k x)
theorem ct_10 (w : Wd) (j k : Nat) (x : Int32) : ct w j k x 10 = sI (w 10) j k x := sW_s _ _ _
theorem ct_o (w : Wd) (j k : Nat) (x : Int32) {r : Nat} (h : r ≠ 10) : ct w j k x r = w r := sW_o _ _ h
theorem ct_at (w : Wd) (j k : Nat) (x : Int32) (k' : Nat) : (ct w j k x 10).1 j k' = if k' = k then x else (w 10).1 j k' := by rw [ct_10, sI_at]
theorem ct_j (w : Wd) (j k : Nat) (x : Int32) {j' : Nat} (h : j' ≠ j) : (ct w j k x 10).1 j' = (w 10).1 j' := by rw [ct_10, sI_o _ _ _ h]
theorem ct_2 (w : Wd) (j k : Nat) (x : Int32) : (ct w j k x 10).2 = (w 10).2 := by rw [ct_10]; rfl
def cl (w : Wd) (k : Nat) (x : Int64) : Wd := sW w 10 (sL (w 10) 4 k x)
theorem cl_10 (w : Wd) (k : Nat) (x : Int64) : cl w k x 10 = sL (w 10) 4 k x := sW_s _ _ _
theorem cl_o (w : Wd) (k : Nat) (x : Int64) {r : Nat} (h : r ≠ 10) : cl w k x r = w r := sW_o _ _ h
theorem cl_1 (w : Wd) (k : Nat) (x : Int64) : (cl w k x 10).1 = (w 10).1 := by rw [cl_10]; rfl
theorem cl_at (w : Wd) (k : Nat) (x : Int64) (k' : Nat) : (cl w k x 10).2 4 k' = if k' = k then x else (w 10).2 4 k' := by rw [cl_10, sL_at]
/-- the bytes of the text on the class's side -/
def TA (w : Wd) (b : Nat → Nat) (f : Nat) : Prop := f ≤ 600 ∧ (w 10).1 0 6 = nI f ∧ ∀ j, j < f → b j < 256 ∧ (w 10).1 1 j = (nI (b j)).toInt8.toInt32
theorem TA.of {w w' : Wd} {b : Nat → Nat} {f : Nat} (h : TA w b f) (h6 : (w' 10).1 0 6 = (w 10).1 0 6) (h1 : (w' 10).1 1 = (w 10).1 1) : TA w' b f := ⟨h.1, h6.trans h.2.1, fun j hj => by rw [h1]; exact h.2.2 j hj⟩
theorem cbyte : ∀ b : Fin 256, ((nI b.val).toInt8.toInt32 = (32 : Int32) ↔ b.val = 32) ∧ ((nI b.val).toInt8.toInt32 = (10 : Int32) ↔ b.val = 10) ∧ ((nI b.val).toInt8.toInt32 = (59 : Int32) ↔ b.val = 59) ∧ ((nI b.val).toInt8.toInt32 = (40 : Int32) ↔ b.val = 40) ∧ ((nI b.val).toInt8.toInt32 = (41 : Int32) ↔ b.val = 41) ∧ FX12_isDigit ((nI b.val).toInt8.toInt32) = decide (48 ≤ b.val ∧ b.val ≤ 57) ∧ (b.val < 128 → (nI b.val).toInt8.toInt32 = nI b.val) := by decide +kernel
theorem cSpaces {n : Nat} {w : Wd} {b : Nat → Nat} {f : Nat} (h : TA w b f) (l1 : Int32) : ∀ (d j k : Nat), j + d = f → d < k → FX9_behindSpaces_L2 n k w l1 (nI j) = some (nI (goto (pS b) f j)) := by
  have hf := h.1
  intro d
  induction d with
  | zero =>
    intro j k hj hk
    obtain ⟨k, rfl⟩ : ∃ k', k = k' + 1 := ⟨k - 1, by omega⟩
    simp only [FX9_behindSpaces_L2]
    rw [h.2.1, if_pos (nI_le (by omega) (by omega)), goto_f (fun z => by omega)]
  | succ d ih =>
    intro j k hj hk
    obtain ⟨k, rfl⟩ : ∃ k', k = k' + 1 := ⟨k - 1, by omega⟩
    obtain ⟨b1, b2⟩ := h.2.2 j (by omega)
    obtain ⟨n32, n10, -⟩ := cbyte ⟨b j, b1⟩
    have n32' : (nI (b j)).toInt8.toInt32 = (32 : Int32) ↔ b j = 32 := n32
    have n10' : (nI (b j)).toInt8.toInt32 = (10 : Int32) ↔ b j = 10 := n10
    simp only [FX9_behindSpaces_L2]
    rw [h.2.1, if_neg (nI_ge (by omega) (by omega)), gd_t (inI (by omega) (by omega)), nI_c (by omega), b2, nI_1, gd_t (inI (by omega) (by omega))]
    by_cases zs : b j = 32 ∨ b j = 10
    · have e : goto (pS b) f j = goto (pS b) f (j + 1) := goto_t (by omega) (decide_eq_true zs)
      rw [e]
      by_cases z : b j = 32
      · rw [if_pos (n32'.mpr z)]
        exact ih (j + 1) k (by omega) (by omega)
      · rw [if_neg (fun y => z (n32'.mp y)), if_pos (n10'.mpr (zs.resolve_left z))]
        exact ih (j + 1) k (by omega) (by omega)
    · have e : goto (pS b) f j = j := goto_f (fun y => zs (of_decide_eq_true y.2))
      rw [if_neg (fun y => zs (Or.inl (n32'.mp y))), if_neg (fun y => zs (Or.inr (n10'.mp y))), e]
/-- kind and value of one token are noted -/
def TkW (w w' : Wd) (i kind : Nat) (x : Int64) : Prop := (∀ r, r ≠ 10 → w' r = w r) ∧ (∀ j, j ≠ 2 → (w' 10).1 j = (w 10).1 j) ∧ (∀ k, k ≠ i → (w' 10).1 2 k = (w 10).1 2 k) ∧ (w' 10).1 2 i = nI kind ∧ (∀ k, k ≠ i → (w' 10).2 4 k = (w 10).2 4 k) ∧ (w' 10).2 4 i = x
theorem TkW.lc (w : Wd) (i kind : Nat) (x : Int64) : TkW w (ct (cl w i x) 2 i (nI kind)) i kind x := ⟨fun r hr => by rw [ct_o _ _ _ _ hr, cl_o _ _ _ hr], fun j hj => by rw [ct_j _ _ _ _ hj, cl_1], fun k hk => by rw [ct_at, if_neg hk, cl_1], by rw [ct_at, if_pos rfl], fun k hk => by rw [ct_2, cl_at, if_neg hk], by rw [ct_2, cl_at, if_pos rfl]⟩
theorem TkW.of_cl (w : Wd) (i kind : Nat) (x : Int64) : TkW w (cl (ct w 2 i (nI kind)) i x) i kind x := ⟨fun r hr => by rw [cl_o _ _ _ hr, ct_o _ _ _ _ hr], fun j hj => by rw [cl_1, ct_j _ _ _ _ hj], fun k hk => by rw [cl_1, ct_at, if_neg hk], by rw [cl_1, ct_at, if_pos rfl], fun k hk => by rw [cl_at, if_neg hk, ct_2], by rw [cl_at, if_pos rfl]⟩
theorem cWord {n : Nat} (hn : 1000 ≤ n) {w : Wd} {b : Nat → Nat} {f p i : Nat} (h : TA w b f) (hi : i ≤ 600) (h4 : (w 10).1 0 4 = nI i) (hp : p ≤ f) : ∀ (d m k : Nat), p + m + d = f → d < k → ∃ w', FX9_behindWord_L2 n k w (nI p) (nI (p + m)) = some (nI (eL b f (p + m)), w') ∧ TkW w w' i (if eL b f (p + m) - p ≤ 8 then 1 else 4) (v8 (nmO b p (eL b f (p + m) - p))) := by
  have hf := h.1
  have stop : ∀ m, p + m ≤ f → ∃ w', (bo1 (FX9_nameIn n w (nI p) (nI (p + m))) fun x2 => gd (inb ((w 10).1 0 4) 601) <| bnd (sW w 10 (sL (w 10) 4 (((w 10).1 0 4).toNatClampNeg) x2)) fun w5 => if nI (p + m) - nI p ≤ 8 then gd (inb ((w5 10).1 0 4) 601) <| bnd (sW w5 10 (sI (w5 10) 2 (((w5 10).1 0 4).toNatClampNeg) 1)) fun w8 => some (nI (p + m), w8) else gd (inb ((w5 10).1 0 4) 601) <| bnd (sW w5 10 (sI (w5 10) 2 (((w5 10).1 0 4).toNatClampNeg) 4)) fun w11 => some (nI (p + m), w11)) = some (nI (p + m), w') ∧ TkW w w' i (if p + m - p ≤ 8 then 1 else 4) (v8 (nmO b p (p + m - p))) := fun m hm => by
    have e1 := cNameIn (n := n) (by omega) (w := w) (b := b) (s := p) (m := m) (by omega) (fun k hk => h.2.2 (p + k) (by omega))
    have e2 : (cl w i (v8 (nmO b p m)) 10).1 0 4 = nI i := by rw [cl_1]; exact h4
    rw [e1, bo1_s, h4, gd_t (inI (by omega) (by omega)), nI_c (by omega), show sW w 10 (sL (w 10) 4 i (v8 (nmO b p m))) = cl w i (v8 (nmO b p m)) from rfl, bnd_s, e2, gd_t (inI (by omega) (by omega)), gd_t (inI (by omega) (by omega)), nI_c (by omega), nI_sub (by omega), Nat.add_sub_cancel_left, bnd_s, bnd_s]
    by_cases z : m ≤ 8
    · have hz : nI m ≤ (8 : Int32) := nI_le (b := 8) z (by decide)
      rw [if_pos hz, if_pos z]
      exact ⟨_, rfl, TkW.lc w i 1 _⟩
    · have hz : ¬ nI m ≤ (8 : Int32) := nI_ge (a := 8) (by omega) (by omega)
      rw [if_neg hz, if_neg z]
      exact ⟨_, rfl, TkW.lc w i 4 _⟩
  intro d
  induction d with
  | zero =>
    intro m k hm hk
    obtain ⟨k, rfl⟩ : ∃ k', k = k' + 1 := ⟨k - 1, by omega⟩
    have e : eL b f (p + m) = p + m := goto_f (fun z => by omega)
    simp only [FX9_behindWord_L2]
    rw [h.2.1, if_pos (nI_le (by omega) (by omega)), e]
    exact stop m (by omega)
  | succ d ih =>
    intro m k hm hk
    obtain ⟨k, rfl⟩ : ∃ k', k = k' + 1 := ⟨k - 1, by omega⟩
    obtain ⟨b1, b2⟩ := h.2.2 (p + m) (by omega)
    simp only [FX9_behindWord_L2]
    rw [h.2.1, if_neg (nI_ge (by omega) (by omega)), gd_t (inI (by omega) (by omega)), nI_c (a := p + m) (by omega), b2, cLet b1, bnd_s, nI_1]
    by_cases z : isL (b (p + m))
    · have e : eL b f (p + m) = eL b f (p + (m + 1)) := goto_t (by omega) (decide_eq_true z)
      rw [if_pos (decide_eq_true z), e]
      exact ih (m + 1) k (by omega) (by omega)
    · have e : eL b f (p + m) = p + m := goto_f (fun y => z (of_decide_eq_true y.2))
      rw [if_neg (by rw [decide_eq_false z]; decide), e]
      exact stop m (by omega)
theorem lN_dig {a c : Nat} (hc : 48 ≤ c) : (lN a * 10 + lN c) - 48 = lN (a * 10 + (c - 48)) := by
  have e1 : lN a * 10 = lN (a * 10) := (Int64.ofNat_mul a 10).symm
  have e2 : lN (a * 10) + lN c = lN (a * 10 + c) := (Int64.ofNat_add _ _).symm
  have e3 : lN (a * 10 + c) - 48 = lN (a * 10 + c - 48) := (Int64.ofNat_sub (a * 10 + c) 48 (by omega)).symm
  rw [e1, e2, e3]
  congr 1
  omega
theorem cNumb {n : Nat} (hn : 1000 ≤ n) {w : Wd} {b : Nat → Nat} {f p i : Nat} (h : TA w b f) (hi : i ≤ 600) (h4 : (w 10).1 0 4 = nI i) (hp : p ≤ f) : ∀ (d m k : Nat) (x : Int64), p + m + d = f → d < k → (m ≤ 4 → x = lN (dcm b p m)) → ∃ w' y, FX9_behindNumber_L4 n k w (nI p) (nI (p + m)) x = some (nI (eD b f (p + m)), w') ∧ TkW w w' i (if eD b f (p + m) - p ≤ 4 then 2 else 4) y ∧ (eD b f (p + m) - p ≤ 4 → y = lN (dcm b p (eD b f (p + m) - p))) := by
  have hf := h.1
  have stop : ∀ m (x : Int64), p + m ≤ f → (m ≤ 4 → x = lN (dcm b p m)) → ∃ w' y, (gd (inb ((w 10).1 0 4) 601) <| bnd (sW w 10 (sL (w 10) 4 (((w 10).1 0 4).toNatClampNeg) x)) fun w2 => if nI (p + m) - nI p ≤ 4 then gd (inb ((w2 10).1 0 4) 601) <| bnd (sW w2 10 (sI (w2 10) 2 (((w2 10).1 0 4).toNatClampNeg) 2)) fun w5 => some (nI (p + m), w5) else gd (inb ((w2 10).1 0 4) 601) <| bnd (sW w2 10 (sI (w2 10) 2 (((w2 10).1 0 4).toNatClampNeg) 4)) fun w8 => some (nI (p + m), w8)) = some (nI (p + m), w') ∧ TkW w w' i (if p + m - p ≤ 4 then 2 else 4) y ∧ (p + m - p ≤ 4 → y = lN (dcm b p (p + m - p))) := fun m x hm hx => by
    have e2 : (cl w i x 10).1 0 4 = nI i := by rw [cl_1]; exact h4
    rw [h4, gd_t (inI (by omega) (by omega)), nI_c (by omega), show sW w 10 (sL (w 10) 4 i x) = cl w i x from rfl, bnd_s, e2, gd_t (inI (by omega) (by omega)), gd_t (inI (by omega) (by omega)), nI_c (by omega), nI_sub (by omega), Nat.add_sub_cancel_left, bnd_s, bnd_s]
    by_cases z : m ≤ 4
    · have hz : nI m ≤ (4 : Int32) := nI_le (b := 4) z (by decide)
      rw [if_pos hz, if_pos z]
      exact ⟨_, _, rfl, TkW.lc w i 2 _, hx⟩
    · have hz : ¬ nI m ≤ (4 : Int32) := nI_ge (a := 4) (by omega) (by omega)
      rw [if_neg hz, if_neg z]
      exact ⟨_, _, rfl, TkW.lc w i 4 _, hx⟩
  intro d
  induction d with
  | zero =>
    intro m k x hm hk hx
    obtain ⟨k, rfl⟩ : ∃ k', k = k' + 1 := ⟨k - 1, by omega⟩
    have e : eD b f (p + m) = p + m := goto_f (fun z => by omega)
    simp only [FX9_behindNumber_L4]
    rw [h.2.1, if_pos (nI_le (by omega) (by omega)), e]
    exact stop m x (by omega) hx
  | succ d ih =>
    intro m k x hm hk hx
    obtain ⟨k, rfl⟩ : ∃ k', k = k' + 1 := ⟨k - 1, by omega⟩
    obtain ⟨b1, b2⟩ := h.2.2 (p + m) (by omega)
    obtain ⟨-, -, -, -, -, c6, c7⟩ := cbyte ⟨b (p + m), b1⟩
    have c6' : FX12_isDigit ((nI (b (p + m))).toInt8.toInt32) = decide (isD (b (p + m))) := c6
    have c7' : b (p + m) < 128 → (nI (b (p + m))).toInt8.toInt32 = nI (b (p + m)) := c7
    simp only [FX9_behindNumber_L4]
    rw [h.2.1, if_neg (nI_ge (by omega) (by omega)), gd_t (inI (by omega) (by omega)), nI_c (a := p + m) (by omega), b2, c6', bnd_s, nI_1, gd_t (inI (by omega) (by omega))]
    by_cases z : isD (b (p + m))
    · have e : eD b f (p + m) = eD b f (p + (m + 1)) := goto_t (by omega) (decide_eq_true z)
      rw [if_pos (decide_eq_true z), e]
      refine ih (m + 1) k _ (by omega) (by omega) (fun hm4 => ?_)
      rw [hx (by omega), c7' (by omega), nI_L (by omega), lN_dig z.1]
      rfl
    · have e : eD b f (p + m) = p + m := goto_f (fun y => z (of_decide_eq_true y.2))
      rw [if_neg (by rw [decide_eq_false z]; decide), e]
      exact stop m x (by omega) hx
theorem cToken {n : Nat} (hn : 1000 ≤ n) {w : Wd} {b : Nat → Nat} {f p i : Nat} (h : TA w b f) (hi : i ≤ 600) (h4 : (w 10).1 0 4 = nI i) (hp : p < f) : ∃ w' y, FX9_behindToken n w (nI p) = some (nI (tE b f p), w') ∧ TkW w w' i (tK b f p) y ∧ (tK b f p = 1 → y = v8 (tW b f p)) ∧ (tK b f p = 2 → y = lN (tN b f p)) ∧ (tK b f p = 3 → y = lN (b p)) := by
  have hf := h.1
  obtain ⟨b1, b2⟩ := h.2.2 p hp
  obtain ⟨-, -, c59, c40, c41, c6, c7⟩ := cbyte ⟨b p, b1⟩
  have c6' : FX12_isDigit ((nI (b p)).toInt8.toInt32) = decide (isD (b p)) := c6
  have c7' : b p < 128 → (nI (b p)).toInt8.toInt32 = nI (b p) := c7
  have c59' : (nI (b p)).toInt8.toInt32 = (59 : Int32) ↔ b p = 59 := c59
  have c40' : (nI (b p)).toInt8.toInt32 = (40 : Int32) ↔ b p = 40 := c40
  have c41' : (nI (b p)).toInt8.toInt32 = (41 : Int32) ↔ b p = 41 := c41
  have sg : ∀ q : Nat, ∃ w', (gd (inb ((w 10).1 0 4) 601) <| bnd (sW w 10 (sI (w 10) 2 (((w 10).1 0 4).toNatClampNeg) (nI q))) fun w9 => gd (inb ((w9 10).1 0 4) 601) <| bnd (sW w9 10 (sL (w9 10) 4 (((w9 10).1 0 4).toNatClampNeg) (((nI (b p)).toInt8.toInt32).toInt64))) fun w12 => some (nI (p + 1), w12)) = some (nI (p + 1), w') ∧ TkW w w' i q (((nI (b p)).toInt8.toInt32).toInt64) := fun q => by
    have e2 : (ct w 2 i (nI q) 10).1 0 4 = nI i := by rw [ct_j _ _ _ _ (by decide)]; exact h4
    rw [h4, gd_t (inI (by omega) (by omega)), nI_c (by omega), show sW w 10 (sI (w 10) 2 i (nI q)) = ct w 2 i (nI q) from rfl, bnd_s, e2, gd_t (inI (by omega) (by omega)), nI_c (by omega), bnd_s]
    exact ⟨_, rfl, TkW.of_cl w i q _⟩
  unfold FX9_behindToken
  rw [gd_t (inI (by omega) (by omega)), nI_c (a := p) (by omega), b2, cLet b1, bnd_s]
  by_cases zl : isL (b p)
  · rw [if_pos (decide_eq_true zl)]
    obtain ⟨w', e, ht⟩ := cWord (p := p) hn h hi h4 (by omega) (f - p) 0 n (by omega) (by omega)
    rw [Nat.add_zero] at e ht
    have eE : tE b f p = eL b f p := if_pos zl
    have eK : tK b f p = if eL b f p - p ≤ 8 then 1 else 4 := by
      unfold tK
      rw [if_neg (by omega), if_pos zl]
    unfold FX9_behindWord
    rw [e, bo2_s, eE, eK]
    refine ⟨w', _, rfl, ht, fun _ => rfl, fun y => ?_, fun y => ?_⟩
    · by_cases z8 : eL b f p - p ≤ 8
      · rw [if_pos z8] at y; omega
      · rw [if_neg z8] at y; omega
    · by_cases z8 : eL b f p - p ≤ 8
      · rw [if_pos z8] at y; omega
      · rw [if_neg z8] at y; omega
  · rw [if_neg (by rw [decide_eq_false zl]; decide), c6', bnd_s]
    by_cases zd : isD (b p)
    · rw [if_pos (decide_eq_true zd)]
      obtain ⟨w', y, e, ht, hy⟩ := cNumb (p := p) hn h hi h4 (by omega) (f - p) 0 n 0 (by omega) (by omega) (fun _ => rfl)
      rw [Nat.add_zero] at e ht hy
      have eE : tE b f p = eD b f p := by
        unfold tE
        rw [if_neg zl, if_pos zd]
      have eK : tK b f p = if eD b f p - p ≤ 4 then 2 else 4 := by
        unfold tK
        rw [if_neg (by omega), if_neg zl, if_pos zd]
      unfold FX9_behindNumber
      rw [e, bo2_s, eE, eK]
      refine ⟨w', y, rfl, ht, fun z => ?_, fun z => ?_, fun z => ?_⟩
      · by_cases z8 : eD b f p - p ≤ 4
        · rw [if_pos z8] at z; omega
        · rw [if_neg z8] at z; omega
      · by_cases z8 : eD b f p - p ≤ 4
        · exact hy z8
        · rw [if_neg z8] at z; omega
      · by_cases z8 : eD b f p - p ≤ 4
        · rw [if_pos z8] at z; omega
        · rw [if_neg z8] at z; omega
    · rw [if_neg (by rw [decide_eq_false zd]; decide), nI_1]
      have eE : tE b f p = p + 1 := by
        unfold tE
        rw [if_neg zl, if_neg zd]
      have eK : tK b f p = if b p = 59 ∨ b p = 40 ∨ b p = 41 then 3 else 4 := by
        unfold tK
        rw [if_neg (by omega), if_neg zl, if_neg zd]
      rw [eE, eK]
      by_cases zz : b p = 59 ∨ b p = 40 ∨ b p = 41
      · obtain ⟨w', e, ht⟩ := sg 3
        have hv : ((nI (b p)).toInt8.toInt32).toInt64 = lN (b p) := by rw [c7' (by omega), nI_L (by omega)]
        rw [hv] at ht
        rw [if_pos zz]
        refine ⟨w', _, ?_, ht, fun z => absurd z (by decide), fun z => absurd z (by decide), fun _ => rfl⟩
        by_cases y1 : b p = 59
        · rw [if_pos (c59'.mpr y1)]; exact e
        · rw [if_neg (fun y => y1 (c59'.mp y))]
          by_cases y2 : b p = 40
          · rw [if_pos (c40'.mpr y2)]; exact e
          · rw [if_neg (fun y => y2 (c40'.mp y)), if_pos (c41'.mpr (by omega))]; exact e
      · obtain ⟨w', e, ht⟩ := sg 4
        rw [if_neg zz]
        refine ⟨w', _, ?_, ht, fun z => absurd z (by decide), fun z => absurd z (by decide), fun z => absurd z (by decide)⟩
        rw [if_neg (fun y => zz (Or.inl (c59'.mp y))), if_neg (fun y => zz (Or.inr (Or.inl (c40'.mp y)))), if_neg (fun y => zz (Or.inr (Or.inr (c41'.mp y))))]
        exact e
/-- what the class holds of the i-th token -/
def TkI (w : Wd) (b : Nat → Nat) (f i : Nat) : Prop := (w 10).1 2 i = nI (tK b f (P b f i)) ∧ (w 10).1 3 i = nI (P b f i) ∧ (tK b f (P b f i) = 1 → (w 10).2 4 i = v8 (tW b f (P b f i))) ∧ (tK b f (P b f i) = 2 → (w 10).2 4 i = lN (tN b f (P b f i))) ∧ (tK b f (P b f i) = 3 → (w 10).2 4 i = lN (b (P b f i)))
theorem TkI.of {w w' : Wd} {b : Nat → Nat} {f i : Nat} (h : TkI w b f i) (h2 : (w' 10).1 2 i = (w 10).1 2 i) (h3 : (w' 10).1 3 i = (w 10).1 3 i) (h4 : (w' 10).2 4 i = (w 10).2 4 i) : TkI w' b f i := ⟨h2.trans h.1, h3.trans h.2.1, fun z => h4.trans (h.2.2.1 z), fun z => h4.trans (h.2.2.2.1 z), fun z => h4.trans (h.2.2.2.2 z)⟩
/-- all tokens found -/
def TKA (w : Wd) (b : Nat → Nat) (f l : Nat) : Prop := l ≤ 600 ∧ (w 10).1 0 4 = nI l ∧ P b f l = f ∧ (∀ k, k < l → P b f k < f) ∧ ∀ i, i ≤ l → TkI w b f i
theorem open_ok {n : Nat} (hn : 1000 ≤ n) {w : Wd} {b : Nat → Nat} {f : Nat} (h : TA w b f) : ∃ w' l, FX9_open n w = some w' ∧ (∀ r, r ≠ 10 → w' r = w r) ∧ TA w' b f ∧ (w' 10).1 0 5 = 0 ∧ (w' 10).1 0 7 = 0 ∧ (w' 10).1 0 8 = -1 ∧ TKA w' b f l := by
  obtain ⟨l, l1, l2, l3⟩ := P_last b f
  have hf := h.1
  have H : ∀ (d i k : Nat) (v : Wd), i + d = l → d < k → TA v b f → (v 10).1 0 4 = nI i → (∀ j, j < i → TkI v b f j) → ∃ w', FX9_open_L13 n k v (nI (P b f i)) (nI i) = some w' ∧ (∀ r, r ≠ 10 → w' r = v r) ∧ TA w' b f ∧ (w' 10).1 0 5 = 0 ∧ (w' 10).1 0 7 = 0 ∧ (w' 10).1 0 8 = -1 ∧ TKA w' b f l := by
    intro d
    induction d with
    | zero =>
      intro i k v hi hk hT h4 ha
      obtain ⟨k, rfl⟩ : ∃ k', k = k' + 1 := ⟨k - 1, by omega⟩
      have ei : i = l := by omega
      subst ei
      have k0 : tK b f (P b f i) = 0 := tK_0.mpr (by omega)
      generalize hv5 : ct (ct (ct (ct (ct v 2 i 0) 3 i (nI f)) 0 5 0) 0 7 0) 0 8 (-1) = v5
      have e4 : (ct v 2 i 0 10).1 0 4 = nI i := by rw [ct_j _ _ _ _ (by decide)]; exact h4
      have e6 : (ct v 2 i 0 10).1 0 6 = nI f := by rw [ct_j _ _ _ _ (by decide)]; exact hT.2.1
      have ef : (gd (inb ((v 10).1 0 4) 601) <| bnd (sW v 10 (sI (v 10) 2 (((v 10).1 0 4).toNatClampNeg) 0)) fun w7 => gd (inb ((w7 10).1 0 4) 601) <| bnd (sW w7 10 (sI (w7 10) 3 (((w7 10).1 0 4).toNatClampNeg) ((w7 10).1 0 6))) fun w10 => bnd (sW w10 10 (sI (w10 10) 0 5 0)) fun w12 => bnd (sW w12 10 (sI (w12 10) 0 7 0)) fun w14 => bnd (sW w14 10 (sI (w14 10) 0 8 (-1))) fun w16 => some w16) = some v5 := by
        rw [h4, gd_t (inI (by omega) (by omega)), nI_c (by omega), show sW v 10 (sI (v 10) 2 i 0) = ct v 2 i 0 from rfl, bnd_s, e4, gd_t (inI (by omega) (by omega)), nI_c (by omega), e6, bnd_s, bnd_s, bnd_s, bnd_s]
        exact congrArg some hv5
      have o5 : ∀ r, r ≠ 10 → v5 r = v r := fun r hr => by rw [← hv5, ct_o _ _ _ _ hr, ct_o _ _ _ _ hr, ct_o _ _ _ _ hr, ct_o _ _ _ _ hr, ct_o _ _ _ _ hr]
      have o1 : (v5 10).1 1 = (v 10).1 1 := by rw [← hv5, ct_j _ _ _ _ (by decide), ct_j _ _ _ _ (by decide), ct_j _ _ _ _ (by decide), ct_j _ _ _ _ (by decide), ct_j _ _ _ _ (by decide)]
      have ok : ∀ q, q ≠ 5 → q ≠ 7 → q ≠ 8 → (v5 10).1 0 q = (v 10).1 0 q := fun q a b' c => by rw [← hv5, ct_at, if_neg c, ct_at, if_neg b', ct_at, if_neg a, ct_j _ _ _ _ (by decide), ct_j _ _ _ _ (by decide)]
      have o2 : ∀ q, (v5 10).1 2 q = if q = i then 0 else (v 10).1 2 q := fun q => by rw [← hv5, ct_j _ _ _ _ (by decide), ct_j _ _ _ _ (by decide), ct_j _ _ _ _ (by decide), ct_j _ _ _ _ (by decide), ct_at]
      have o3 : ∀ q, (v5 10).1 3 q = if q = i then nI f else (v 10).1 3 q := fun q => by rw [← hv5, ct_j _ _ _ _ (by decide), ct_j _ _ _ _ (by decide), ct_j _ _ _ _ (by decide), ct_at, ct_j _ _ _ _ (by decide)]
      have o4 : (v5 10).2 = (v 10).2 := by rw [← hv5, ct_2, ct_2, ct_2, ct_2, ct_2]
      refine ⟨v5, ?_, o5, hT.of (ok 6 (by decide) (by decide) (by decide)) o1, ?_, ?_, ?_, by omega, (ok 4 (by decide) (by decide) (by decide)).trans h4, l2, l3, fun j hj => ?_⟩
      · simp only [FX9_open_L13]
        by_cases z : (600 : Int32) ≤ nI i
        · rw [if_pos z]; exact ef
        · rw [if_neg z, hT.2.1, if_pos (by rw [l2]; exact Int32.le_refl _)]; exact ef
      · rw [← hv5, ct_at, if_neg (by decide), ct_at, if_neg (by decide), ct_at, if_pos rfl]
      · rw [← hv5, ct_at, if_neg (by decide), ct_at, if_pos rfl]
      · rw [← hv5, ct_at, if_pos rfl]
      · by_cases z : j = i
        · rw [z]
          refine ⟨by rw [o2, if_pos rfl, k0]; rfl, by rw [o3, if_pos rfl, l2], fun y => ?_, fun y => ?_, fun y => ?_⟩
          · rw [k0] at y; omega
          · rw [k0] at y; omega
          · rw [k0] at y; omega
        · exact (ha j (by omega)).of (by rw [o2, if_neg z]) (by rw [o3, if_neg z]) (by rw [o4])
    | succ d ih =>
      intro i k v hi hk hT h4 ha
      obtain ⟨k, rfl⟩ : ∃ k', k = k' + 1 := ⟨k - 1, by omega⟩
      have hp : P b f i < f := l3 i (by omega)
      have hiP := (P_i i hp).1
      generalize hv1 : ct v 3 i (nI (P b f i)) = v1
      have T1 : TA v1 b f := hT.of (by rw [← hv1, ct_j _ _ _ _ (by decide)]) (by rw [← hv1, ct_j _ _ _ _ (by decide)])
      have e4 : (v1 10).1 0 4 = nI i := by rw [← hv1, ct_j _ _ _ _ (by decide)]; exact h4
      obtain ⟨v2, y, c1, ⟨t1, t2, t3, t4, t5, t6⟩, c3, c4, c5⟩ := cToken hn T1 (by omega) e4 hp
      have T2 : TA v2 b f := T1.of (by rw [t2 0 (by decide)]) (t2 1 (by decide))
      have e5 := cSpaces (n := n) T2 (nI (tE b f (P b f i))) (f - tE b f (P b f i)) (tE b f (P b f i)) n (by have := (tE_gt (b := b) hp).2; omega) (by omega)
      have eP : goto (pS b) f (tE b f (P b f i)) = P b f (i + 1) := by
        show _ = (if P b f i < f then goto (pS b) f (tE b f (P b f i)) else P b f i)
        rw [if_pos hp]
      rw [eP] at e5
      have e24 : (v2 10).1 0 4 = nI i := by rw [t2 0 (by decide)]; exact e4
      have hR : FX9_open_L13 n (k + 1) v (nI (P b f i)) (nI i) = FX9_open_L13 n k (ct v2 0 4 (nI (i + 1))) (nI (P b f (i + 1))) (nI (i + 1)) := by
        simp only [FX9_open_L13]
        unfold FX9_behindSpaces
        rw [if_neg (show ¬ (600 : Int32) ≤ nI i from nI_ge (b := 600) (by omega) (by decide)), hT.2.1, if_neg (nI_ge hp (by omega)), h4, gd_t (inI (by omega) (by omega)), nI_c (by omega), show sW v 10 (sI (v 10) 3 i (nI (P b f i))) = v1 from hv1, bnd_s, c1, bo2_s, e5, bo1_s, e24, nI_1, bnd_s]
        rfl
      have A3 : ∀ q, (v1 10).1 3 q = if q = i then nI (P b f i) else (v 10).1 3 q := fun q => by rw [← hv1, ct_at]
      have B2 : ∀ q, (v1 10).1 2 q = (v 10).1 2 q := fun q => by rw [← hv1, ct_j _ _ _ _ (by decide)]
      have B4 : (v1 10).2 = (v 10).2 := by rw [← hv1, ct_2]
      obtain ⟨w', d1, d2, d3⟩ := ih (i + 1) k (ct v2 0 4 (nI (i + 1))) (by omega) (by omega) (T2.of (by rw [ct_at, if_neg (by decide)]) (by rw [ct_j _ _ _ _ (by decide)])) (by rw [ct_at, if_pos rfl]) (fun j hj => by
        by_cases z : j = i
        · rw [z]
          refine ⟨?_, ?_, fun q => ?_, fun q => ?_, fun q => ?_⟩
          · rw [ct_j _ _ _ _ (by decide)]; exact t4
          · rw [ct_j _ _ _ _ (by decide), t2 3 (by decide), A3, if_pos rfl]
          · rw [ct_2, t6]; exact c3 q
          · rw [ct_2, t6]; exact c4 q
          · rw [ct_2, t6]; exact c5 q
        · exact (ha j (by omega)).of (by rw [ct_j _ _ _ _ (by decide), t3 j z, B2]) (by rw [ct_j _ _ _ _ (by decide), t2 3 (by decide), A3, if_neg z]) (by rw [ct_2, t5 j z, B4]))
      refine ⟨w', hR.trans d1, fun r hr => ?_, d3⟩
      rw [d2 r hr, ct_o _ _ _ _ hr, t1 r hr, ← hv1, ct_o _ _ _ _ hr]
  generalize hw4 : ct w 0 4 0 = w4
  have T4 : TA w4 b f := h.of (by rw [← hw4, ct_at, if_neg (by decide)]) (by rw [← hw4, ct_j _ _ _ _ (by decide)])
  have e0 := cSpaces (n := n) h (nI 0) f 0 n (by omega) (by omega)
  obtain ⟨w', d1, d2, d3⟩ := H l 0 n w4 (by omega) (by omega) T4 (by rw [← hw4, ct_at, if_pos rfl]; rfl) (fun j hj => absurd hj (Nat.not_lt_zero j))
  refine ⟨w', l, ?_, fun r hr => ?_, d3⟩
  · unfold FX9_open FX9_behindSpaces
    rw [show (0 : Int32) = nI 0 from rfl, e0, bo1_s, bnd_s]
    rw [← hw4] at d1
    exact d1
  · rw [d2 r hr, ← hw4, ct_o _ _ _ _ hr]
