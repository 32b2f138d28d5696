set_option maxHeartbeats 400000
/-! names on both sides -/
theorem nI_L {k : Nat} (h : k < 2 ^ 31) : (nI k).toInt64 = lN k := by
  apply Int64.toInt_inj.mp
  rw [Int32.toInt_toInt64, nI_toInt h, pf_lI (by omega)]
theorem L_nI {k : Nat} (h : k < 2 ^ 31) : (lN k).toInt32 = nI k := by
  rw [← nI_L h]
  simp
theorem sh5 {P x : Nat} (hP : P < 2 ^ 50) (hx : x < 32) : (lN P <<< ((5 : Int32).toInt64 &&& 63)) ||| (nI x).toInt64 = lN (P * 32 + x) := by
  have e : lN P <<< ((5 : Int32).toInt64 &&& 63) = lN (P * 32) := wb_shl P (k := 5) (by decide)
  rw [e, nI_L (by omega), g_or (k := 5) (p := 32) rfl hx (by omega)]
theorem sh8 {P x : Nat} (hP : P < 2 ^ 56) (hx : x < 256) : (lN P <<< ((8 : Int32).toInt64 &&& 63)) ||| (nI x).toInt64 = lN (P * 256 + x) := by
  have e : lN P <<< ((8 : Int32).toInt64 &&& 63) = lN (P * 256) := wb_shl P (k := 8) (by decide)
  rw [e, nI_L (by omega), g_or (k := 8) (p := 256) rfl hx (by omega)]
theorem rNameAt {w : Wd} {a p : Nat} (ha : a + 1 < 390) (hp : p < 1099511627776) (h0 : row w a = nI (p / 1048576)) (h1 : row w (a + 1) = nI (p % 1048576)) : FX13_nameAt w (nI a) = some (lN p) := by
  have e : lN (p / 1048576) <<< ((20 : Int32).toInt64 &&& 63) = lN (p / 1048576 * 1048576) := wb_shl (p / 1048576) (k := 20) (by decide)
  have hm : p % 1048576 < 1048576 := Nat.mod_lt _ (by decide)
  have hd := Nat.div_add_mod p 1048576
  unfold FX13_nameAt
  rw [gd_t (inI (by omega) (by omega)), nI_1, gd_t (inI ha (by omega)), nI_c (by omega), nI_c (by omega), show (w 15).1 2 a = _ from h0, show (w 15).1 2 (a + 1) = _ from h1, nI_L (by omega), nI_L (by omega), e, g_or (k := 20) (p := 1048576) rfl hm (by omega), Nat.mul_comm, hd]
theorem rNme0 {k : Nat} : FX13_nme 0 (nI k) = nI (8 + 8 * k + 6) := by
  unfold FX13_nme
  rw [if_pos rfl, bnd_s]
  exact ix (k := 6)
theorem rNme1 {k : Nat} : FX13_nme 1 (nI k) = nI (72 + 6 * k + 4) := by
  unfold FX13_nme
  rw [if_neg (by decide), bnd_s]
  exact ix (k := 4)
abbrev isL (b : Nat) : Prop := 97 ≤ b ∧ b ≤ 122
theorem let_d : ∀ b : Fin 256, FX12_isLetter ((nI b.val).toInt8.toInt32) = decide (97 ≤ b.val ∧ b.val ≤ 122) ∧ FX13_isLetter (nI b.val) = decide (97 ≤ b.val ∧ b.val ≤ 122) ∧ (97 ≤ b.val ∧ b.val ≤ 122 → (nI b.val).toInt8.toInt32 = nI b.val) := by decide +kernel
theorem cLet {b : Nat} (h : b < 256) : FX12_isLetter ((nI b).toInt8.toInt32) = decide (isL b) := (let_d ⟨b, h⟩).1
theorem rLet {b : Nat} (h : b < 256) : FX13_isLetter (nI b) = decide (isL b) := (let_d ⟨b, h⟩).2.1
theorem bLet {b : Nat} (h : b < 256) (hl : isL b) : (nI b).toInt8.toInt32 = nI b := (let_d ⟨b, h⟩).2.2 hl
/-- the letters of a stretch of bytes -/
def seg (b : Nat → Nat) (s : Nat) : Nat → List Nat
  | 0 => []
  | n + 1 => seg b s n ++ [b (s + n) - 96]
theorem seg_len (b : Nat → Nat) (s : Nat) : ∀ n, (seg b s n).length = n
  | 0 => rfl
  | n + 1 => by
    show (seg b s n ++ [b (s + n) - 96]).length = n + 1
    rw [List.length_append, seg_len b s n]
    rfl
theorem seg_mem {b : Nat → Nat} {s : Nat} : ∀ {n : Nat}, (∀ k, k < n → isL (b (s + k))) → ∀ x ∈ seg b s n, 1 ≤ x ∧ x ≤ 26
  | 0, _, x, hx => absurd hx (List.not_mem_nil)
  | n + 1, h, x, hx => by
    rcases List.mem_append.mp hx with z | z
    · exact seg_mem (fun k hk => h k (by omega)) x z
    · have := h n (by omega)
      rw [List.mem_singleton.mp z]
      omega
theorem seg_ok {b : Nat → Nat} {s n : Nat} (h1 : 1 ≤ n) (h2 : n ≤ 8) (h : ∀ k, k < n → isL (b (s + k))) : okName (seg b s n) := ⟨by rw [seg_len]; exact h1, by rw [seg_len]; exact h2, seg_mem h⟩
theorem seg5_lt {b : Nat → Nat} {s n : Nat} (h2 : n ≤ 8) (h : ∀ k, k < n → isL (b (s + k))) : pk5 (seg b s n) < 1099511627776 := by
  have h1 := dg_lt (B := 32) (g := g5) (ls := seg b s n) (fun x hx => by have := seg_mem h x hx; show x < 32; omega)
  rw [seg_len] at h1
  have h3 : (32 : Nat) ^ n ≤ 32 ^ 8 := Nat.pow_le_pow_right (by decide) h2
  have : (32 : Nat) ^ 8 = 1099511627776 := by decide
  exact Nat.lt_of_lt_of_le h1 (by omega)
theorem pk5_snoc (u : List Nat) (x : Nat) : pk5 (u ++ [x]) = pk5 u * 32 + x := dg_snoc 32 g5 0 u x
def raw8 (ls : List Nat) : Nat := dg 256 (fun x => 96 + x) 0 ls
theorem raw8_snoc (u : List Nat) (x : Nat) : raw8 (u ++ [x]) = raw8 u * 256 + (96 + x) := dg_snoc 256 _ 0 u x
theorem raw8_lt {b : Nat → Nat} {s n : Nat} (h2 : n ≤ 8) (h : ∀ k, k < n → isL (b (s + k))) : raw8 (seg b s n) < 256 ^ n := by
  have h1 := dg_lt (B := 256) (g := fun x => 96 + x) (ls := seg b s n) (fun x hx => by have := seg_mem h x hx; show 96 + x < 256; omega)
  rw [seg_len] at h1
  exact h1
/-- the name that a stretch of bytes is, if it is one -/
def nmO (b : Nat → Nat) (s n : Nat) : Option (List Nat) := if 1 ≤ n ∧ n ≤ 8 ∧ ∀ k, k < n → isL (b (s + k)) then some (seg b s n) else none
def v8 (o : Option (List Nat)) : Int64 := match o with
  | none => 0
  | some ls => lN (pk8 ls)
def v5 (o : Option (List Nat)) : Int64 := match o with
  | none => 0
  | some ls => lN (pk5 ls)
theorem nmO_ok {b : Nat → Nat} {s n : Nat} {ls : List Nat} (h : nmO b s n = some ls) : okName ls := by
  unfold nmO at h
  by_cases z : 1 ≤ n ∧ n ≤ 8 ∧ ∀ k, k < n → isL (b (s + k))
  · rw [if_pos z] at h
    rw [← Option.some.inj h]
    exact seg_ok z.1 z.2.1 z.2.2
  · rw [if_neg z] at h
    exact absurd h (by simp)
theorem sub8 {s n : Nat} (h : n ≤ 8) : ((8 : Int32) - nI (s + n)) + nI s = nI (8 - n) := by
  rw [Nat.add_comm s n, ← nI_add, ← Int32.sub_sub, Int32.sub_add_cancel]
  exact nI_sub (a := 8) h
/-- the class reads a name -/
theorem cNameIn {n : Nat} (hn : 100 ≤ n) {w : Wd} {b : Nat → Nat} {s m : Nat} (hs : s + m ≤ 600) (hb : ∀ k, k < m → b (s + k) < 256 ∧ (w 10).1 1 (s + k) = (nI (b (s + k))).toInt8.toInt32) : FX9_nameIn n w (nI s) (nI (s + m)) = some (v8 (nmO b s m)) := by
  unfold FX9_nameIn
  rw [nI_sub (show s ≤ s + m by omega), Nat.add_sub_cancel_left, bnd_s]
  by_cases hw : FX12_isWithin (nI m) 1 8 = true
  · rw [if_pos hw]
    obtain ⟨m', m1, m2, e⟩ := wi_rng (a := 1) (b := 8) (by decide) (by decide) hw
    have em : m = m' := (nI_eq (by omega) (by omega)).mp e
    subst em
    have H : ∀ d i k, i + d = m → d < k → (∀ q, q < i → isL (b (s + q))) → FX9_nameIn_L19 n k w (nI s) (nI (s + m)) (lN (raw8 (seg b s i))) (nI (s + i)) = some (v8 (nmO b s m)) := by
      intro d
      induction d with
      | zero =>
        intro i k hi hk ha
        obtain ⟨k, rfl⟩ : ∃ k', k = k' + 1 := ⟨k - 1, by omega⟩
        have e : i = m := by omega
        subst e
        simp only [FX9_nameIn_L19]
        have e8 : (8 : Int32) * nI (8 - i) = nI (8 * (8 - i)) := pk_mul 8 _
        rw [if_pos (Int32.le_refl _), sub8 m2, e8, wb_shl _ (by omega)]
        unfold nmO v8
        rw [if_pos ⟨m1, m2, ha⟩]
        show some _ = some (lN (pk8 (seg b s i)))
        rw [pk8_dg, seg_len, Nat.pow_mul]
        rfl
      | succ d ih =>
        intro i k hi hk ha
        obtain ⟨k, rfl⟩ : ∃ k', k = k' + 1 := ⟨k - 1, by omega⟩
        obtain ⟨b1, b2⟩ := hb i (by omega)
        simp only [FX9_nameIn_L19]
        rw [if_neg (nI_ge (by omega) (by omega)), gd_t (inI (by omega) (by omega)), nI_c (by omega), b2, cLet b1, bnd_s]
        by_cases z : isL (b (s + i))
        · have ha' : ∀ q, q < i + 1 → isL (b (s + q)) := fun q hq => by
            by_cases e : q = i
            · rw [e]; exact z
            · exact ha q (by omega)
          have hl := raw8_lt (b := b) (s := s) (n := i) (by omega) ha
          have hp : (256 : Nat) ^ i ≤ 256 ^ 7 := Nat.pow_le_pow_right (by decide) (by omega)
          rw [if_pos (decide_eq_true z), gd_t (inI (by omega) (by omega)), bLet b1 z, sh8 (by omega) b1, nI_1]
          have hi' := ih (i + 1) k (by omega) (by omega) ha'
          have er : raw8 (seg b s (i + 1)) = raw8 (seg b s i) * 256 + b (s + i) := by
            show raw8 (seg b s i ++ [b (s + i) - 96]) = _
            rw [raw8_snoc]
            omega
          rw [er] at hi'
          exact hi'
        · rw [if_neg (by rw [decide_eq_false z]; decide)]
          unfold nmO
          rw [if_neg (fun y => z (y.2.2 i (by omega)))]
          rfl
    exact H m 0 n (by omega) (by omega) (fun q hq => absurd hq (Nat.not_lt_zero q))
  · rw [if_neg hw]
    unfold nmO
    rw [if_neg (fun y => hw (wi_iff.mpr ⟨?_, ?_⟩))]
    · rfl
    · show ¬ nI m < nI 1
      rw [nI_ltI (by omega) (by omega)]
      omega
    · show ¬ nI 8 < nI m
      rw [nI_ltI (by omega) (by omega)]
      omega
theorem rBufName {n : Nat} (hn : 100 ≤ n) {w : Wd} {b : Nat → Nat} {f : Nat} (hf : f ≤ 600) (h2 : (w 15).1 0 2 = nI f) (hb : ∀ k, k < f → b k < 256 ∧ (w 15).1 1 k = nI (b k)) : FX13_bufferName n w = some (v5 (nmO b 0 f)) := by
  unfold FX13_bufferName
  rw [h2, show (1 : Int64) = (1 : Int32).toInt64 by decide, show (8 : Int64) = (8 : Int32).toInt64 by decide, isIn_w, bnd_s]
  by_cases hw : FX12_isWithin (nI f) 1 8 = true
  · rw [if_pos hw]
    obtain ⟨m', m1, m2, e⟩ := wi_rng (a := 1) (b := 8) (by decide) (by decide) hw
    have em : f = m' := (nI_eq (by omega) (by omega)).mp e
    subst em
    have H : ∀ d i k, i + d = f → d < k → (∀ q, q < i → isL (b (0 + q))) → FX13_bufferName_L21 n k w (lN (pk5 (seg b 0 i))) (nI i) = some (v5 (nmO b 0 f)) := by
      intro d
      induction d with
      | zero =>
        intro i k hi hk ha
        obtain ⟨k, rfl⟩ : ∃ k', k = k' + 1 := ⟨k - 1, by omega⟩
        have e : i = f := by omega
        subst e
        simp only [FX13_bufferName_L21]
        rw [h2, if_pos (Int32.le_refl _)]
        unfold nmO v5
        rw [if_pos ⟨m1, m2, ha⟩]
      | succ d ih =>
        intro i k hi hk ha
        obtain ⟨k, rfl⟩ : ∃ k', k = k' + 1 := ⟨k - 1, by omega⟩
        obtain ⟨b1, b2⟩ := hb i (by omega)
        simp only [FX13_bufferName_L21]
        rw [h2, if_neg (nI_ge (by omega) (by omega)), gd_t (inI (by omega) (by omega)), nI_c (by omega), b2, rLet b1, bnd_s]
        by_cases z : isL (b i)
        · have ha' : ∀ q, q < i + 1 → isL (b (0 + q)) := fun q hq => by
            by_cases e : q = i
            · rw [e, Nat.zero_add]; exact z
            · exact ha q (by omega)
          have hl := seg5_lt (b := b) (s := 0) (n := i) (by omega) ha
          have e97 : (nI (b i) - 97) + 1 = nI (b i - 96) := by
            have : nI (b i) - 97 = nI (b i - 97) := nI_sub (b := 97) (by omega)
            rw [this, nI_1]
            congr 1
            omega
          rw [if_pos (decide_eq_true z), gd_t (inI (by omega) (by omega)), e97, sh5 (by omega) (by omega), nI_1]
          have hi' := ih (i + 1) k (by omega) (by omega) ha'
          have er : pk5 (seg b 0 (i + 1)) = pk5 (seg b 0 i) * 32 + (b i - 96) := by
            show pk5 (seg b 0 i ++ [b (0 + i) - 96]) = _
            rw [pk5_snoc, Nat.zero_add]
          rw [er] at hi'
          exact hi'
        · rw [if_neg (by rw [decide_eq_false z]; decide)]
          unfold nmO
          rw [if_neg (fun y => z (by have := y.2.2 i (by omega); rw [Nat.zero_add] at this; exact this))]
          rfl
    exact H f 0 n (by omega) (by omega) (fun q hq => absurd hq (Nat.not_lt_zero q))
  · rw [if_neg hw]
    unfold nmO
    rw [if_neg (fun y => hw (wi_iff.mpr ⟨?_, ?_⟩))]
    · rfl
    · show ¬ nI f < nI 1
      rw [nI_ltI (by omega) (by omega)]
      omega
    · show ¬ nI 8 < nI f
      rw [nI_ltI (by omega) (by omega)]
      omega
/-- the first index that answers a test -/
def ff (p : Nat → Bool) : Nat → Nat → Int32
  | 0, _ => -1
  | d + 1, i => if p i = true then nI i else ff p d (i + 1)
theorem loopX {L : Nat → Int32 → Option Int32} {p : Nat → Bool} {ns : Nat} (h0 : ∀ k, L (k + 1) (nI ns) = some (-1)) (h1 : ∀ k i, i < ns → L (k + 1) (nI i) = if p i = true then some (nI i) else L k (nI (i + 1))) {k : Nat} (hk : ns < k) : L k 0 = some (ff p ns 0) := by
  have H : ∀ d i k, i + d = ns → d < k → L k (nI i) = some (ff p d i) := by
    intro d
    induction d with
    | zero =>
      intro i k hi hk
      obtain ⟨k, rfl⟩ : ∃ k', k = k' + 1 := ⟨k - 1, by omega⟩
      have e : i = ns := by omega
      subst e
      exact h0 k
    | succ d ih =>
      intro i k hi hk
      obtain ⟨k, rfl⟩ : ∃ k', k = k' + 1 := ⟨k - 1, by omega⟩
      rw [h1 k i (by omega)]
      unfold ff
      by_cases z : p i = true
      · rw [if_pos z, if_pos z]
      · rw [if_neg z, if_neg z]
        exact ih (i + 1) k (by omega) (by omega)
  exact H ns 0 k (by omega) hk
theorem ff_congr {p q : Nat → Bool} : ∀ {d i : Nat}, (∀ j, i ≤ j → j < i + d → p j = q j) → ff p d i = ff q d i
  | 0, _, _ => rfl
  | d + 1, i, h => by
    unfold ff
    rw [h i (Nat.le_refl _) (by omega), ff_congr (d := d) (i := i + 1) (fun j h1 h2 => h j (by omega) (by omega))]
theorem ff_or {p : Nat → Bool} : ∀ {d i : Nat}, ff p d i = -1 ∨ ∃ j, j < i + d ∧ ff p d i = nI j
  | 0, _ => Or.inl rfl
  | d + 1, i => by
    unfold ff
    by_cases z : p i = true
    · rw [if_pos z]
      exact Or.inr ⟨i, by omega, rfl⟩
    · rw [if_neg z]
      rcases ff_or (p := p) (d := d) (i := i + 1) with h | ⟨j, hj, e⟩
      · exact Or.inl h
      · exact Or.inr ⟨j, by omega, e⟩
theorem nm_test {x : Int64} {a b : Int32} (h : NmR x a b) {o : Option (List Nat)} (ho : ∀ ls, o = some ls → okName ls) : ∃ ls, okName ls ∧ x = lN (pk8 ls) ∧ a = nI (pk5 ls / 1048576) ∧ b = nI (pk5 ls % 1048576) ∧ ((x = v8 o) ↔ (¬ v5 o = 0 ∧ lN (pk5 ls) = v5 o)) := by
  obtain ⟨ls, h1, h2, h3, h4⟩ := h
  refine ⟨ls, h1, h2, h3, h4, ?_⟩
  have hx : x = lN (pk8 ls) := h2
  rw [hx]
  cases o with
  | none =>
    refine ⟨fun e => ?_, fun e => absurd rfl e.1⟩
    have := (lN_inj (pk8_bd h1).2 (b := 0) (by decide)).mp e
    have := (pk8_bd h1).1
    omega
  | some ms =>
    have hm := ho ms rfl
    have b5 := pk5_bd hm
    show (lN (pk8 ls) = lN (pk8 ms)) ↔ (¬ lN (pk5 ms) = 0 ∧ lN (pk5 ls) = lN (pk5 ms))
    rw [nm_eq8 h1 hm, nm_eq5 h1 hm]
    refine ⟨fun e => ⟨fun z => ?_, e⟩, fun e => e.2⟩
    have := (lN_inj (a := pk5 ms) (b := 0) (by omega) (by decide)).mp z
    omega
theorem found_v {n : Nat} (hn : 100 ≤ n) {M : MM} {w : Wd} {nv : Nat} (hb : nv ≤ 8) (h0 : row w 0 = nI nv) (h1 : M.1 0 3 = nI nv) (hN : ∀ v, v < nv → NmR (M.2 (4 + v) 0) (vaF (row w) v 6) (vaF (row w) v 7)) {o : Option (List Nat)} (ho : ∀ ls, o = some ls → okName ls) : ∃ q, FX6_valleyNamed n M (v8 o) = some q ∧ FX13_found n w 0 (v5 o) = some q ∧ (q = -1 ∨ ∃ j, j < nv ∧ q = nI j) := by
  refine ⟨ff (fun i => decide (M.2 (4 + i) 0 = v8 o)) nv 0, ?_, ?_, ?_⟩
  · unfold FX6_valleyNamed
    refine loopX (L := fun k i => FX6_valleyNamed_L2 n k M (v8 o) i) (fun k => ?_) (fun k i hi => ?_) (by omega)
    · simp only [FX6_valleyNamed_L2]
      rw [h1, if_pos (Int32.le_refl _)]
    · simp only [FX6_valleyNamed_L2]
      rw [h1, if_neg (le_nI hi (by omega)), gd_t (inI (by omega) (by omega)), nI_c (by omega), nI_1]
      by_cases z : M.2 (4 + i) 0 = v8 o
      · rw [if_pos ((lg_cmp_eq _ _).mpr z), if_pos (decide_eq_true z)]
      · rw [if_neg (fun y => z ((lg_cmp_eq _ _).mp y)), if_neg (by rw [decide_eq_false z]; decide)]
  · unfold FX13_found
    refine loopX (L := fun k i => FX13_found_L3 n k w 0 (v5 o) i) (fun k => ?_) (fun k i hi => ?_) (by omega)
    · simp only [FX13_found_L3]
      rw [gd0, show (0 : Int32).toNatClampNeg = 0 from rfl, show (w 15).1 2 0 = nI nv from h0, if_pos (Int32.le_refl _)]
    · obtain ⟨ls, q1, q2, q3, q4, q5⟩ := nm_test (hN i hi) ho
      simp only [FX13_found_L3]
      rw [gd0, show (0 : Int32).toNatClampNeg = 0 from rfl, show (w 15).1 2 0 = nI nv from h0, if_neg (le_nI hi (by omega)), nI_1, rNme0, bnd_s, rNameAt (p := pk5 ls) (by omega) (pk5_bd q1).2.2.1 q3 q4, bo1_s]
      by_cases z0 : v5 o = 0
      · rw [if_pos ((lg_cmp_eq _ _).mpr z0), if_neg (by rw [decide_eq_false (fun y => (q5.mp y).1 z0)]; decide)]
      · rw [if_neg (fun y => z0 ((lg_cmp_eq _ _).mp y))]
        by_cases z : lN (pk5 ls) = v5 o
        · rw [if_pos ((lg_cmp_eq _ _).mpr z), if_pos (decide_eq_true (q5.mpr ⟨z0, z⟩))]
        · rw [if_neg (fun y => z ((lg_cmp_eq _ _).mp y)), if_neg (by rw [decide_eq_false (fun y => z (q5.mp y).2)]; decide)]
  · rcases ff_or (p := fun i => decide (M.2 (4 + i) 0 = v8 o)) (d := nv) (i := 0) with h | ⟨j, hj, e⟩
    · exact Or.inl h
    · exact Or.inr ⟨j, by omega, e⟩
theorem found_c {n : Nat} (hn : 100 ≤ n) {M : MM} {w : Wd} {nc : Nat} (hb : nc ≤ 8) (h0 : row w 1 = nI nc) (h1 : M.1 0 4 = nI nc) (hN : ∀ c, c < nc → NmR (M.2 (12 + c) 0) (cuF (row w) c 4) (cuF (row w) c 5)) {o : Option (List Nat)} (ho : ∀ ls, o = some ls → okName ls) : ∃ q, FX6_customerNamed n M (v8 o) = some q ∧ FX13_found n w 1 (v5 o) = some q ∧ (q = -1 ∨ ∃ j, j < nc ∧ q = nI j) := by
  refine ⟨ff (fun i => decide (M.2 (12 + i) 0 = v8 o)) nc 0, ?_, ?_, ?_⟩
  · unfold FX6_customerNamed
    refine loopX (L := fun k i => FX6_customerNamed_L2 n k M (v8 o) i) (fun k => ?_) (fun k i hi => ?_) (by omega)
    · simp only [FX6_customerNamed_L2]
      rw [h1, if_pos (Int32.le_refl _)]
    · simp only [FX6_customerNamed_L2]
      rw [h1, if_neg (le_nI hi (by omega)), gd_t (inI (by omega) (by omega)), nI_c (by omega), nI_1]
      by_cases z : M.2 (12 + i) 0 = v8 o
      · rw [if_pos ((lg_cmp_eq _ _).mpr z), if_pos (decide_eq_true z)]
      · rw [if_neg (fun y => z ((lg_cmp_eq _ _).mp y)), if_neg (by rw [decide_eq_false z]; decide)]
  · unfold FX13_found
    refine loopX (L := fun k i => FX13_found_L3 n k w 1 (v5 o) i) (fun k => ?_) (fun k i hi => ?_) (by omega)
    · simp only [FX13_found_L3]
      rw [gd1, show (1 : Int32).toNatClampNeg = 1 from rfl, show (w 15).1 2 1 = nI nc from h0, if_pos (Int32.le_refl _)]
    · obtain ⟨ls, q1, q2, q3, q4, q5⟩ := nm_test (hN i hi) ho
      simp only [FX13_found_L3]
      rw [gd1, show (1 : Int32).toNatClampNeg = 1 from rfl, show (w 15).1 2 1 = nI nc from h0, if_neg (le_nI hi (by omega)), nI_1, rNme1, bnd_s, rNameAt (p := pk5 ls) (by omega) (pk5_bd q1).2.2.1 q3 q4, bo1_s]
      by_cases z0 : v5 o = 0
      · rw [if_pos ((lg_cmp_eq _ _).mpr z0), if_neg (by rw [decide_eq_false (fun y => (q5.mp y).1 z0)]; decide)]
      · rw [if_neg (fun y => z0 ((lg_cmp_eq _ _).mp y))]
        by_cases z : lN (pk5 ls) = v5 o
        · rw [if_pos ((lg_cmp_eq _ _).mpr z), if_pos (decide_eq_true (q5.mpr ⟨z0, z⟩))]
        · rw [if_neg (fun y => z ((lg_cmp_eq _ _).mp y)), if_neg (by rw [decide_eq_false (fun y => z (q5.mp y).2)]; decide)]
  · rcases ff_or (p := fun i => decide (M.2 (12 + i) 0 = v8 o)) (d := nc) (i := 0) with h | ⟨j, hj, e⟩
    · exact Or.inl h
    · exact Or.inr ⟨j, by omega, e⟩
