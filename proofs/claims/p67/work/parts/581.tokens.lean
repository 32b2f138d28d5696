set_option maxHeartbeats 400000
/-! the tokens of a text, as numbers -/
def rn (p : Nat → Bool) (f : Nat) : Nat → Nat → Nat
  | 0, j => j
  | d + 1, j => if j < f ∧ p j = true then rn p f d (j + 1) else j
def goto (p : Nat → Bool) (f j : Nat) : Nat := rn p f (f - j) j
theorem goto_t {p : Nat → Bool} {f j : Nat} (h : j < f) (hp : p j = true) : goto p f j = goto p f (j + 1) := by
  unfold goto
  rw [show f - j = (f - (j + 1)) + 1 by omega]
  show (if j < f ∧ p j = true then rn p f (f - (j + 1)) (j + 1) else j) = _
  rw [if_pos ⟨h, hp⟩]
theorem goto_f {p : Nat → Bool} {f j : Nat} (h : ¬ (j < f ∧ p j = true)) : goto p f j = j := by
  unfold goto
  cases f - j with
  | zero => rfl
  | succ d =>
    show (if j < f ∧ p j = true then rn p f d (j + 1) else j) = _
    rw [if_neg h]
theorem rn_ge {p : Nat → Bool} {f : Nat} : ∀ d j, j ≤ rn p f d j
  | 0, _ => Nat.le_refl _
  | d + 1, j => by
    unfold rn
    by_cases z : j < f ∧ p j = true
    · rw [if_pos z]
      have := rn_ge (p := p) (f := f) d (j + 1)
      omega
    · rw [if_neg z]
      exact Nat.le_refl _
theorem rn_le {p : Nat → Bool} {f : Nat} : ∀ d j, j ≤ f → rn p f d j ≤ f
  | 0, _, h => h
  | d + 1, j, h => by
    unfold rn
    by_cases z : j < f ∧ p j = true
    · rw [if_pos z]
      exact rn_le d (j + 1) (by omega)
    · rw [if_neg z]
      exact h
theorem goto_ge {p : Nat → Bool} {f : Nat} (j : Nat) : j ≤ goto p f j := rn_ge _ _
theorem goto_le {p : Nat → Bool} {f j : Nat} (h : j ≤ f) : goto p f j ≤ f := rn_le _ _ h
abbrev isD (b : Nat) : Prop := 48 ≤ b ∧ b ≤ 57
def pS (b : Nat → Nat) (j : Nat) : Bool := decide (b j = 32 ∨ b j = 10)
def pL (b : Nat → Nat) (j : Nat) : Bool := decide (isL (b j))
def pD (b : Nat → Nat) (j : Nat) : Bool := decide (isD (b j))
def eL (b : Nat → Nat) (f p : Nat) : Nat := goto (pL b) f p
def eD (b : Nat → Nat) (f p : Nat) : Nat := goto (pD b) f p
/-- the byte behind the token at p -/
def tE (b : Nat → Nat) (f p : Nat) : Nat := if isL (b p) then eL b f p else if isD (b p) then eD b f p else p + 1
/-- its kind: nothing, word, number, sign, none -/
def tK (b : Nat → Nat) (f p : Nat) : Nat := if f ≤ p then 0 else if isL (b p) then (if eL b f p - p ≤ 8 then 1 else 4) else if isD (b p) then (if eD b f p - p ≤ 4 then 2 else 4) else if b p = 59 ∨ b p = 40 ∨ b p = 41 then 3 else 4
def tW (b : Nat → Nat) (f p : Nat) : Option (List Nat) := nmO b p (eL b f p - p)
def dcm (b : Nat → Nat) (p : Nat) : Nat → Nat
  | 0 => 0
  | m + 1 => dcm b p m * 10 + (b (p + m) - 48)
def tN (b : Nat → Nat) (f p : Nat) : Nat := dcm b p (eD b f p - p)
def P (b : Nat → Nat) (f : Nat) : Nat → Nat
  | 0 => goto (pS b) f 0
  | i + 1 => if P b f i < f then goto (pS b) f (tE b f (P b f i)) else P b f i
theorem tE_gt {b : Nat → Nat} {f p : Nat} (h : p < f) : p < tE b f p ∧ tE b f p ≤ f := by
  unfold tE eL eD
  by_cases z : isL (b p)
  · rw [if_pos z, goto_t h (decide_eq_true z)]
    have h1 := goto_ge (p := pL b) (f := f) (p + 1)
    have h2 := goto_le (p := pL b) (f := f) (j := p + 1) h
    omega
  · rw [if_neg z]
    by_cases z2 : isD (b p)
    · rw [if_pos z2, goto_t h (decide_eq_true z2)]
      have h1 := goto_ge (p := pD b) (f := f) (p + 1)
      have h2 := goto_le (p := pD b) (f := f) (j := p + 1) h
      omega
    · rw [if_neg z2]
      omega
theorem P_le {b : Nat → Nat} {f : Nat} : ∀ i, P b f i ≤ f
  | 0 => goto_le (Nat.zero_le _)
  | i + 1 => by
    unfold P
    by_cases z : P b f i < f
    · rw [if_pos z]
      exact goto_le (tE_gt z).2
    · rw [if_neg z]
      exact P_le i
theorem P_lt {b : Nat → Nat} {f i : Nat} (h : P b f i < f) : P b f i < P b f (i + 1) := by
  show _ < (if P b f i < f then goto (pS b) f (tE b f (P b f i)) else P b f i)
  rw [if_pos h]
  have h1 := (tE_gt (b := b) h).1
  have h2 := goto_ge (p := pS b) (f := f) (tE b f (P b f i))
  omega
theorem P_i {b : Nat → Nat} {f : Nat} : ∀ i, P b f i < f → i ≤ P b f i ∧ ∀ k, k < i → P b f k < f
  | 0, _ => ⟨Nat.zero_le _, fun k hk => absurd hk (Nat.not_lt_zero k)⟩
  | i + 1, h => by
    have h0 : P b f i < f := by
      by_cases z : P b f i < f
      · exact z
      · have e : P b f (i + 1) = P b f i := by
          show (if P b f i < f then _ else P b f i) = _
          rw [if_neg z]
        omega
    obtain ⟨h1, h2⟩ := P_i i h0
    have h3 := P_lt h0
    refine ⟨by omega, fun k hk => ?_⟩
    by_cases z : k = i
    · rw [z]; exact h0
    · exact h2 k (by omega)
/-- the number of tokens -/
theorem P_last (b : Nat → Nat) (f : Nat) : ∃ l, l ≤ f ∧ P b f l = f ∧ ∀ k, k < l → P b f k < f := by
  have H : ∀ d i, f - P b f i ≤ d → (∀ k, k < i → P b f k < f) → ∃ l, P b f l = f ∧ ∀ k, k < l → P b f k < f := by
    intro d
    induction d with
    | zero =>
      intro i h hk
      have := P_le (b := b) (f := f) i
      exact ⟨i, by omega, hk⟩
    | succ d ih =>
      intro i h hk
      by_cases z : P b f i < f
      · have := P_lt z
        exact ih (i + 1) (by omega) (fun k hk' => by
          by_cases e : k = i
          · rw [e]; exact z
          · exact hk k (by omega))
      · have := P_le (b := b) (f := f) i
        exact ⟨i, by omega, hk⟩
  obtain ⟨l, h1, h2⟩ := H (f - P b f 0) 0 (Nat.le_refl _) (fun k hk => absurd hk (Nat.not_lt_zero k))
  refine ⟨l, ?_, h1, h2⟩
  cases l with
  | zero => exact Nat.zero_le _
  | succ l =>
    have h3 := h2 l (by omega)
    have := (P_i l h3).1
    omega
theorem tK_0 {b : Nat → Nat} {f p : Nat} : tK b f p = 0 ↔ f ≤ p := by
  unfold tK
  by_cases z : f ≤ p
  · rw [if_pos z]; exact ⟨fun _ => z, fun _ => rfl⟩
  · rw [if_neg z]
    refine ⟨fun h => ?_, fun h => absurd h z⟩
    exfalso
    by_cases z1 : isL (b p)
    · rw [if_pos z1] at h
      by_cases z2 : eL b f p - p ≤ 8
      · rw [if_pos z2] at h; omega
      · rw [if_neg z2] at h; omega
    · rw [if_neg z1] at h
      by_cases z2 : isD (b p)
      · rw [if_pos z2] at h
        by_cases z3 : eD b f p - p ≤ 4
        · rw [if_pos z3] at h; omega
        · rw [if_neg z3] at h; omega
      · rw [if_neg z2] at h
        by_cases z3 : b p = 59 ∨ b p = 40 ∨ b p = 41
        · rw [if_pos z3] at h; omega
        · rw [if_neg z3] at h; omega
theorem tK_le {b : Nat → Nat} {f p : Nat} : tK b f p ≤ 4 := by
  unfold tK
  by_cases z : f ≤ p
  · rw [if_pos z]; omega
  · rw [if_neg z]
    by_cases z1 : isL (b p)
    · rw [if_pos z1]
      by_cases z2 : eL b f p - p ≤ 8
      · rw [if_pos z2]; omega
      · rw [if_neg z2]; omega
    · rw [if_neg z1]
      by_cases z2 : isD (b p)
      · rw [if_pos z2]
        by_cases z3 : eD b f p - p ≤ 4
        · rw [if_pos z3]; omega
        · rw [if_neg z3]; omega
      · rw [if_neg z2]
        by_cases z3 : b p = 59 ∨ b p = 40 ∨ b p = 41
        · rw [if_pos z3]; omega
        · rw [if_neg z3]; omega
theorem eL_all {b : Nat → Nat} {f : Nat} : ∀ (d j : Nat), ∀ k, j ≤ k → k < rn (pL b) f d j → isL (b k)
  | 0, j, k, h1, h2 => absurd h2 (by unfold rn; omega)
  | d + 1, j, k, h1, h2 => by
    unfold rn at h2
    by_cases z : j < f ∧ pL b j = true
    · rw [if_pos z] at h2
      by_cases e : k = j
      · rw [e]; exact of_decide_eq_true z.2
      · exact eL_all d (j + 1) k (by omega) h2
    · rw [if_neg z] at h2
      omega
/-- a word's letters are a name -/
theorem tW_ok {b : Nat → Nat} {f p : Nat} (h : tK b f p = 1) : ∃ ls, okName ls ∧ tW b f p = some ls := by
  have hp : ¬ f ≤ p := fun z => by
    rw [tK_0.mpr z] at h
    omega
  unfold tK at h
  rw [if_neg hp] at h
  by_cases z1 : isL (b p)
  · rw [if_pos z1] at h
    by_cases z2 : eL b f p - p ≤ 8
    · have h1 : p < eL b f p := by
        unfold eL
        rw [goto_t (by omega) (decide_eq_true z1)]
        have := goto_ge (p := pL b) (f := f) (p + 1)
        omega
      have ha : 1 ≤ eL b f p - p ∧ eL b f p - p ≤ 8 ∧ ∀ k, k < eL b f p - p → isL (b (p + k)) := ⟨by omega, z2, fun k hk => eL_all (f := f) (f - p) p (p + k) (by omega) (by unfold eL goto at hk; omega)⟩
      refine ⟨seg b p (eL b f p - p), seg_ok ha.1 ha.2.1 ha.2.2, ?_⟩
      unfold tW nmO
      rw [if_pos ha]
    · rw [if_neg z2] at h; omega
  · rw [if_neg z1] at h
    by_cases z2 : isD (b p)
    · rw [if_pos z2] at h
      by_cases z3 : eD b f p - p ≤ 4
      · rw [if_pos z3] at h; omega
      · rw [if_neg z3] at h; omega
    · rw [if_neg z2] at h
      by_cases z3 : b p = 59 ∨ b p = 40 ∨ b p = 41
      · rw [if_pos z3] at h; omega
      · rw [if_neg z3] at h; omega
theorem eD_all {b : Nat → Nat} {f : Nat} : ∀ (d j : Nat), ∀ k, j ≤ k → k < rn (pD b) f d j → isD (b k)
  | 0, j, k, h1, h2 => absurd h2 (by unfold rn; omega)
  | d + 1, j, k, h1, h2 => by
    unfold rn at h2
    by_cases z : j < f ∧ pD b j = true
    · rw [if_pos z] at h2
      by_cases e : k = j
      · rw [e]; exact of_decide_eq_true z.2
      · exact eD_all d (j + 1) k (by omega) h2
    · rw [if_neg z] at h2
      omega
theorem dcm_lt {b : Nat → Nat} {p : Nat} : ∀ {m : Nat}, (∀ k, k < m → isD (b (p + k))) → dcm b p m < 10 ^ m
  | 0, _ => by
    show 0 < 10 ^ 0
    rw [Nat.pow_zero]
    exact Nat.one_pos
  | m + 1, h => by
    have h1 := dcm_lt (m := m) (fun k hk => h k (by omega))
    have h2 := h m (by omega)
    show dcm b p m * 10 + (b (p + m) - 48) < 10 ^ (m + 1)
    rw [Nat.pow_succ]
    omega
theorem tN_lt {b : Nat → Nat} {f p : Nat} (h : tK b f p = 2) : tN b f p < 10000 := by
  have hp : ¬ f ≤ p := fun z => by
    rw [tK_0.mpr z] at h
    omega
  unfold tK at h
  rw [if_neg hp] at h
  by_cases z1 : isL (b p)
  · rw [if_pos z1] at h
    by_cases z2 : eL b f p - p ≤ 8
    · rw [if_pos z2] at h; omega
    · rw [if_neg z2] at h; omega
  · rw [if_neg z1] at h
    by_cases z2 : isD (b p)
    · rw [if_pos z2] at h
      by_cases z3 : eD b f p - p ≤ 4
      · have h1 := dcm_lt (b := b) (p := p) (m := eD b f p - p) (fun k hk => eD_all (f := f) (f - p) p (p + k) (by omega) (by unfold eD goto at hk; omega))
        have h2 : 10 ^ (eD b f p - p) ≤ 10 ^ 4 := Nat.pow_le_pow_right (by decide) z3
        unfold tN
        omega
      · rw [if_neg z3] at h; omega
    · rw [if_neg z2] at h
      by_cases z3 : b p = 59 ∨ b p = 40 ∨ b p = 41
      · rw [if_pos z3] at h; omega
      · rw [if_neg z3] at h; omega
theorem tK_3 {b : Nat → Nat} {f p : Nat} (h : tK b f p = 3) : b p = 59 ∨ b p = 40 ∨ b p = 41 := by
  have hp : ¬ f ≤ p := fun z => by
    rw [tK_0.mpr z] at h
    omega
  unfold tK at h
  rw [if_neg hp] at h
  by_cases z1 : isL (b p)
  · rw [if_pos z1] at h
    by_cases z2 : eL b f p - p ≤ 8
    · rw [if_pos z2] at h; omega
    · rw [if_neg z2] at h; omega
  · rw [if_neg z1] at h
    by_cases z2 : isD (b p)
    · rw [if_pos z2] at h
      by_cases z3 : eD b f p - p ≤ 4
      · rw [if_pos z3] at h; omega
      · rw [if_neg z3] at h; omega
    · rw [if_neg z2] at h
      by_cases z3 : b p = 59 ∨ b p = 40 ∨ b p = 41
      · exact z3
      · rw [if_neg z3] at h; omega
