set_option maxHeartbeats 200000
/-! why a sale is refused -/
def anyI (p : Nat → Bool) : Nat → Bool
  | 0 => false
  | n + 1 => anyI p n || p n
theorem any_of {p : Nat → Bool} {i : Nat} (hi : p i = true) : ∀ {n : Nat}, i < n → anyI p n = true
  | 0, h => absurd h (Nat.not_lt_zero i)
  | n + 1, h => by
    unfold anyI
    by_cases e : i = n
    · subst e
      rw [hi, Bool.or_true]
    · rw [any_of hi (by omega), Bool.true_or]
theorem loopE {L : Nat → Int32 → Option Bool} {p : Nat → Bool} {ns : Nat} (h0 : ∀ k, L (k + 1) (nI ns) = some false) (h1 : ∀ k i, i < ns → L (k + 1) (nI i) = if p i = true then some true else L k (nI (i + 1))) {k : Nat} (hk : ns < k) : L k 0 = some (anyI p ns) := by
  have H : ∀ d i k, i + d = ns → d < k → anyI p i = false → L k (nI i) = some (anyI p ns) := by
    intro d
    induction d with
    | zero =>
      intro i k hi hk ha
      obtain ⟨k, rfl⟩ : ∃ k', k = k' + 1 := ⟨k - 1, by omega⟩
      have e : i = ns := by omega
      subst e
      rw [h0, ha]
    | succ d ih =>
      intro i k hi hk ha
      obtain ⟨k, rfl⟩ : ∃ k', k = k' + 1 := ⟨k - 1, by omega⟩
      rw [h1 k i (by omega)]
      by_cases z : p i = true
      · rw [if_pos z, any_of z (by omega)]
      · rw [if_neg z]
        refine ih (i + 1) k (by omega) (by omega) ?_
        unfold anyI
        rw [ha, Bool.false_or]
        exact Bool.not_eq_true _ ▸ z
  exact H ns 0 k (by omega) hk rfl
theorem foldI_any (p : Nat → Bool) : ∀ n, foldI (fun b i => b || p i) n false = anyI p n
  | 0 => rfl
  | n + 1 => by simp only [foldI, anyI, foldI_any p n]
def opn (r : Nat → Int32) (c v : Int32) (i : Nat) : Bool := decide (shF r i 0 = c) && (decide (shF r i 1 = v) && decide (shF r i 6 = 0))
theorem rHasOpen {n : Nat} (hn : 100 ≤ n) {w : Wd} {ns : Nat} (hs : row w 2 = nI ns) (hb : ns ≤ 30) (c v : Int32) : FX13_hasOpen n w c v = some (anyI (opn (row w) c v) ns) := by
  unfold FX13_hasOpen
  refine loopE (L := fun k i => FX13_hasOpen_L2 n k w c v i) (fun k => ?_) (fun k i hi => ?_) (by omega)
  · simp only [FX13_hasOpen_L2]
    rw [gd2, show (w 15).1 2 2 = nI ns from hs, if_pos (Int32.le_refl _)]
  · simp only [FX13_hasOpen_L2]
    rw [gd2, show (w 15).1 2 2 = nI ns from hs, if_neg (le_nI hi (by omega)), rS0 (by omega), bo1_s, nI_1]
    unfold opn
    by_cases z : shF (row w) i 0 = c
    · rw [if_pos z, rS1 (by omega), bo1_s, decide_eq_true z, Bool.true_and]
      by_cases z1 : shF (row w) i 1 = v
      · rw [if_pos z1, rS6 (by omega), bo1_s, decide_eq_true z1, Bool.true_and]
        by_cases z2 : shF (row w) i 6 = 0
        · rw [if_pos z2, decide_eq_true z2, if_pos rfl]
        · rw [if_neg z2, decide_eq_false z2, if_neg (by decide)]
      · rw [if_neg z1, decide_eq_false z1, Bool.false_and, if_neg (by decide)]
    · rw [if_neg z, decide_eq_false z, Bool.false_and, if_neg (by decide)]
theorem cHasOpen {n : Nat} (hn : 100 ≤ n) {M : MM} {r : Nat → Int32} {ns : Nat} (hs : M.1 0 5 = nI ns) (hb : ns ≤ 30) (h0 : ∀ i, i < ns → M.1 (20 + i) 0 = shF r i 0 ∧ M.1 (20 + i) 1 = shF r i 1 ∧ M.1 (20 + i) 8 = shF r i 6) (c v : Int32) : FX6_hasOpenShout n M c v = some (anyI (opn r c v) ns) := by
  unfold FX6_hasOpenShout
  rw [← foldI_any]
  refine loopF (L := fun k b i => FX6_hasOpenShout_L5 n k M c v b i) (g := some) (fun k a => ?_) (fun k a i hi => ?_) (by omega) false
  · simp only [FX6_hasOpenShout_L5]
    rw [hs, if_pos (Int32.le_refl _)]
  · simp only [FX6_hasOpenShout_L5]
    obtain ⟨e0, e1, e8⟩ := h0 i hi
    rw [hs, if_neg (le_nI hi (by omega)), gd_t (inI (by omega) (by omega)), nI_c (by omega), nI_1]
    unfold FX8_isOpen opn
    rw [e0, e1, e8, bnd_s]
    cases a with
    | true => rw [if_pos rfl, Bool.true_or]
    | false =>
      rw [if_neg (by decide), Bool.false_or]
      by_cases z2 : shF r i 6 = 0
      · rw [if_pos z2, if_pos rfl, decide_eq_true z2, Bool.and_true]
        by_cases z : shF r i 0 = c
        · rw [if_pos z, decide_eq_true z, Bool.true_and]
          by_cases z1 : shF r i 1 = v
          · rw [if_pos z1, decide_eq_true z1]
          · rw [if_neg z1, decide_eq_false z1]
        · rw [if_neg z, decide_eq_false z, Bool.false_and]
      · rw [if_neg z2, if_neg (by decide), decide_eq_false z2, Bool.and_false, Bool.and_false]
theorem n30_ne {ns : Nat} (h : ns ≤ 30) (z : ¬ ns = 30) : ¬ nI ns = (30 : Int32) := fun e => z ((nI_eq (by omega) (by decide)).mp (show nI ns = nI 30 from e))
theorem n30_lt {ns : Nat} (h : ns < 30) : nI ns < (30 : Int32) := show nI ns < nI 30 from nI_lt h (by decide)
/-- what both say of a sale -/
def whyF (r : Nat → Int32) (ns c v : Nat) (o : Int32) : Int32 :=
  if ns = 30 then 1 else if o ≤ vaF r v 1 then (if vaF r v 2 * o ≤ cuF r c 1 then (if anyI (opn r (nI c) (nI v)) ns = true then 4 else if cuF r c 2 < 3 then 0 else 5) else 3) else 2
theorem rRefuses {n : Nat} (hn : 100 ≤ n) {w : Wd} {M : MM} {nv nc ns : Nat} {bk : Nat → Nat} (hm : RelM M (row w) nv nc ns bk) {c v : Nat} (hc : c < nc) (hv : v < nv) (o : Int32) : FX13_refuses n w (nI c) (nI v) o = some (whyF (row w) ns c v o) := by
  have hb := hm.bs
  have hb1 := hm.bv
  have hb2 := hm.bc
  unfold FX13_refuses whyF
  rw [gd2, show (w 15).1 2 2 = nI ns from hm.s0]
  by_cases z : ns = 30
  · rw [if_pos z, if_pos (by rw [z]; rfl)]
  · rw [if_neg z, if_neg (n30_ne (by omega) z), rV1 (by omega), bo1_s]
    by_cases z1 : o ≤ vaF (row w) v 1
    · rw [if_pos z1, if_pos z1, rC1 (by omega), bo1_s, rV2 (by omega), bo1_s]
      by_cases z2 : vaF (row w) v 2 * o ≤ cuF (row w) c 1
      · rw [if_pos z2, if_pos z2, rHasOpen hn hm.s0 hb, bo1_s]
        by_cases z3 : anyI (opn (row w) (nI c) (nI v)) ns = true
        · rw [if_pos z3, if_pos z3]
        · rw [if_neg z3, if_neg z3]
          unfold FX13_isAngryNow
          rw [rC2 (by omega), bo1_s]
          by_cases z4 : cuF (row w) c 2 < 3
          · rw [if_pos z4, if_pos z4]; rfl
          · rw [if_neg z4, if_neg z4]; rfl
      · rw [if_neg z2, if_neg z2]
    · rw [if_neg z1, if_neg z1]
theorem cRefused {n : Nat} (hn : 100 ≤ n) {r : Nat → Int32} {M : MM} {nv nc ns : Nat} {bk : Nat → Nat} (hm : RelM M r nv nc ns bk) {c v : Nat} (hc : c < nc) (hv : v < nv) (o : Int32) : FX6_whyRefused n M (nI c) (nI v) o = some (whyF r ns c v o) := by
  have hb := hm.bs
  have hb1 := hm.bv
  have hb2 := hm.bc
  have hV := hm.vs v hv
  have hC := hm.cs c hc
  unfold FX6_whyRefused whyF
  rw [hm.s1, nI_c (by omega), nI_c (by omega), hV.e2, hV.e3, hC.e3]
  by_cases z : ns = 30
  · rw [if_pos z, if_neg (by rw [z]; decide)]
  · rw [if_neg z, if_pos (n30_lt (by omega)), gd_t (inI (by omega) (by omega))]
    by_cases z1 : o ≤ vaF r v 1
    · rw [if_pos z1, if_pos z1, gd_t (inI (by omega) (by omega)), gd_t (inI (by omega) (by omega))]
      by_cases z2 : vaF r v 2 * o ≤ cuF r c 1
      · rw [if_pos z2, if_pos z2, cHasOpen hn hm.s1 hb (fun i hi => ⟨(hm.ss i hi).e0, (hm.ss i hi).e1, (hm.ss i hi).e8⟩), bo1_s]
        by_cases z3 : anyI (opn r (nI c) (nI v)) ns = true
        · rw [if_pos z3, if_pos z3]
        · rw [if_neg z3, if_neg z3, gd_t (inI (by omega) (by omega)), bnd_s]
          unfold FX2_hasAnger
          rw [hC.e4]
          by_cases z4 : cuF r c 2 < 3
          · rw [if_pos z4, if_pos z4]; rfl
          · rw [if_neg z4, if_neg z4]; rfl
      · rw [if_neg z2, if_neg z2]
    · rw [if_neg z1, if_neg z1]
theorem gb_tt (w : Wd) : FX13_goesBoth w true true = (true, cd w 0) := by
  unfold FX13_goesBoth
  rw [if_pos rfl, if_pos rfl, bnd_s]
  exact if_pos (cd_th w 0)
theorem gb_tf (w : Wd) : FX13_goesBoth w true false = (false, cd w 2) := by
  unfold FX13_goesBoth
  rw [if_pos rfl, if_neg (by decide), bnd_s]
  refine if_neg ?_
  show ¬ FX13_thrown (cd w 2) = 0
  rw [cd_th]
  decide
theorem gb_f (w : Wd) (b : Bool) : FX13_goesBoth w false b = (false, cd w 1) := by
  unfold FX13_goesBoth
  rw [if_neg (by decide), bnd_s]
  refine if_neg ?_
  show ¬ FX13_thrown (cd w 1) = 0
  rw [cd_th]
  decide
