set_option maxHeartbeats 200000
/-! loops over 0 .. n-1, and what the row's readers answer -/
def foldI {α : Type} (st : α → Nat → α) : Nat → α → α
  | 0, a => a
  | n + 1, a => st (foldI st n a) n
theorem loopF {α β : Type} {L : Nat → α → Int32 → Option β} {g : α → Option β} {st : α → Nat → α} {ns : Nat} (h0 : ∀ k a, L (k + 1) a (nI ns) = g a) (h1 : ∀ k a i, i < ns → L (k + 1) a (nI i) = L k (st a i) (nI (i + 1))) {k : Nat} (hk : ns < k) (a : α) : L k a 0 = g (foldI st ns a) := by
  have H : ∀ d i k, i + d = ns → d < k → L k (foldI st i a) (nI i) = g (foldI st ns a) := by
    intro d
    induction d with
    | zero =>
      intro i k hi hk
      obtain ⟨k, rfl⟩ : ∃ k', k = k' + 1 := ⟨k - 1, by omega⟩
      have e : i = ns := by omega
      subst e
      exact h0 k _
    | succ d ih =>
      intro i k hi hk
      obtain ⟨k, rfl⟩ : ∃ k', k = k' + 1 := ⟨k - 1, by omega⟩
      rw [h1 k _ i (by omega)]
      exact ih (i + 1) k (by omega) (by omega)
  exact H ns 0 k (by omega) hk
theorem foldI_sum (f : Nat → Int32) : ∀ n, foldI (fun a i => a + f i) n 0 = isum n f
  | 0 => rfl
  | n + 1 => by simp only [foldI, isum, foldI_sum f n]
theorem loopS {β : Type} {L : Nat → Int32 → Int32 → Option β} {g : Int32 → Option β} {f : Nat → Int32} {ns : Nat} (h0 : ∀ k a, L (k + 1) a (nI ns) = g a) (h1 : ∀ k a i, i < ns → L (k + 1) a (nI i) = L k (a + f i) (nI (i + 1))) {k : Nat} (hk : ns < k) : L k 0 0 = g (isum ns f) := by
  rw [← foldI_sum f ns]
  exact loopF (st := fun a i => a + f i) h0 h1 hk 0
theorem gd0 {α : Type} (a : Option α) : gd (inb 0 390) a = a := if_pos (by decide)
theorem gd1 {α : Type} (a : Option α) : gd (inb 1 390) a = a := if_pos (by decide)
theorem gd2 {α : Type} (a : Option α) : gd (inb 2 390) a = a := if_pos (by decide)
theorem gd3 {α : Type} (a : Option α) : gd (inb 3 390) a = a := if_pos (by decide)
theorem gd4 {α : Type} (a : Option α) : gd (inb 4 390) a = a := if_pos (by decide)
theorem gd5 {α : Type} (a : Option α) : gd (inb 5 390) a = a := if_pos (by decide)
theorem gd6 {α : Type} (a : Option α) : gd (inb 6 390) a = a := if_pos (by decide)
theorem gd7 {α : Type} (a : Option α) : gd (inb 7 390) a = a := if_pos (by decide)
theorem le_nI {i n : Nat} (h : i < n) (hn : n ≤ 3000) : ¬ nI n ≤ nI i := nI_ge h (by omega)
theorem ix {b m k i : Nat} : (nI b + nI m * nI i) + nI k = nI (b + m * i + k) := by rw [pk_mul, nI_add, nI_add]
theorem rV {w : Wd} {v : Nat} (hv : v < 8) (k : Nat) (hk : k < 8) {K : Int32} (hK : K = nI k) : FX13_ofValley w (nI v) K = some (vaF (row w) v k) := by
  subst hK
  simp only [FX13_ofValley, FX13_vly, bnd]
  rw [show (8 : Int32) + 8 * nI v + nI k = nI (8 + 8 * v + k) from ix, gd_t (inI (by omega) (by omega)), nI_c (by omega)]
theorem rC {w : Wd} {c : Nat} (hc : c < 8) (k : Nat) (hk : k < 6) {K : Int32} (hK : K = nI k) : FX13_ofCustomer w (nI c) K = some (cuF (row w) c k) := by
  subst hK
  simp only [FX13_ofCustomer, FX13_cst, bnd]
  rw [show (72 : Int32) + 6 * nI c + nI k = nI (72 + 6 * c + k) from ix, gd_t (inI (by omega) (by omega)), nI_c (by omega)]
theorem rS {w : Wd} {i : Nat} (hi : i < 30) (k : Nat) (hk : k < 9) {K : Int32} (hK : K = nI k) : FX13_of w (nI i) K = some (shF (row w) i k) := by
  subst hK
  simp only [FX13_of, FX13_sht, bnd]
  rw [show (120 : Int32) + 9 * nI i + nI k = nI (120 + 9 * i + k) from ix, gd_t (inI (by omega) (by omega)), nI_c (by omega)]
theorem rV0 {w : Wd} {v : Nat} (hv : v < 8) : FX13_ofValley w (nI v) 0 = some (vaF (row w) v 0) := rV hv 0 (by decide) rfl
theorem rV1 {w : Wd} {v : Nat} (hv : v < 8) : FX13_ofValley w (nI v) 1 = some (vaF (row w) v 1) := rV hv 1 (by decide) rfl
theorem rV2 {w : Wd} {v : Nat} (hv : v < 8) : FX13_ofValley w (nI v) 2 = some (vaF (row w) v 2) := rV hv 2 (by decide) rfl
theorem rV3 {w : Wd} {v : Nat} (hv : v < 8) : FX13_ofValley w (nI v) 3 = some (vaF (row w) v 3) := rV hv 3 (by decide) rfl
theorem rV4 {w : Wd} {v : Nat} (hv : v < 8) : FX13_ofValley w (nI v) 4 = some (vaF (row w) v 4) := rV hv 4 (by decide) rfl
theorem rV5 {w : Wd} {v : Nat} (hv : v < 8) : FX13_ofValley w (nI v) 5 = some (vaF (row w) v 5) := rV hv 5 (by decide) rfl
theorem rV6 {w : Wd} {v : Nat} (hv : v < 8) : FX13_ofValley w (nI v) 6 = some (vaF (row w) v 6) := rV hv 6 (by decide) rfl
theorem rV7 {w : Wd} {v : Nat} (hv : v < 8) : FX13_ofValley w (nI v) 7 = some (vaF (row w) v 7) := rV hv 7 (by decide) rfl
theorem rC0 {w : Wd} {c : Nat} (hc : c < 8) : FX13_ofCustomer w (nI c) 0 = some (cuF (row w) c 0) := rC hc 0 (by decide) rfl
theorem rC1 {w : Wd} {c : Nat} (hc : c < 8) : FX13_ofCustomer w (nI c) 1 = some (cuF (row w) c 1) := rC hc 1 (by decide) rfl
theorem rC2 {w : Wd} {c : Nat} (hc : c < 8) : FX13_ofCustomer w (nI c) 2 = some (cuF (row w) c 2) := rC hc 2 (by decide) rfl
theorem rC3 {w : Wd} {c : Nat} (hc : c < 8) : FX13_ofCustomer w (nI c) 3 = some (cuF (row w) c 3) := rC hc 3 (by decide) rfl
theorem rC4 {w : Wd} {c : Nat} (hc : c < 8) : FX13_ofCustomer w (nI c) 4 = some (cuF (row w) c 4) := rC hc 4 (by decide) rfl
theorem rC5 {w : Wd} {c : Nat} (hc : c < 8) : FX13_ofCustomer w (nI c) 5 = some (cuF (row w) c 5) := rC hc 5 (by decide) rfl
theorem rS0 {w : Wd} {i : Nat} (hi : i < 30) : FX13_of w (nI i) 0 = some (shF (row w) i 0) := rS hi 0 (by decide) rfl
theorem rS1 {w : Wd} {i : Nat} (hi : i < 30) : FX13_of w (nI i) 1 = some (shF (row w) i 1) := rS hi 1 (by decide) rfl
theorem rS2 {w : Wd} {i : Nat} (hi : i < 30) : FX13_of w (nI i) 2 = some (shF (row w) i 2) := rS hi 2 (by decide) rfl
theorem rS3 {w : Wd} {i : Nat} (hi : i < 30) : FX13_of w (nI i) 3 = some (shF (row w) i 3) := rS hi 3 (by decide) rfl
theorem rS4 {w : Wd} {i : Nat} (hi : i < 30) : FX13_of w (nI i) 4 = some (shF (row w) i 4) := rS hi 4 (by decide) rfl
theorem rS5 {w : Wd} {i : Nat} (hi : i < 30) : FX13_of w (nI i) 5 = some (shF (row w) i 5) := rS hi 5 (by decide) rfl
theorem rS6 {w : Wd} {i : Nat} (hi : i < 30) : FX13_of w (nI i) 6 = some (shF (row w) i 6) := rS hi 6 (by decide) rfl
theorem rS7 {w : Wd} {i : Nat} (hi : i < 30) : FX13_of w (nI i) 7 = some (shF (row w) i 7) := rS hi 7 (by decide) rfl
theorem rS8 {w : Wd} {i : Nat} (hi : i < 30) : FX13_of w (nI i) 8 = some (shF (row w) i 8) := rS hi 8 (by decide) rfl
theorem i64_lt {a b : Int32} : a.toInt64 < b.toInt64 ↔ a < b := by rw [Int64.lt_iff_toInt_lt, Int32.lt_iff_toInt_lt, Int32.toInt_toInt64, Int32.toInt_toInt64]
theorem i64_0 : (0 : Int64) = (0 : Int32).toInt64 := by decide
theorem isIn_w {x a b : Int32} : FX13_isIn x.toInt64 a.toInt64 b.toInt64 = FX12_isWithin x a b := by
  unfold FX13_isIn FX12_isWithin
  simp only [lg_cmp_lt, lg_cmp_gt, i64_lt]
theorem wi_iff {p a b : Int32} : FX12_isWithin p a b = true ↔ ¬ p < a ∧ ¬ b < p := by
  unfold FX12_isWithin
  by_cases h1 : p < a
  · simp [h1]
  · by_cases h2 : b < p
    · simp [h1, h2]
    · simp [h1, h2]
theorem wi_in {p : Int32} {n : Nat} (hn : n ≤ 30) (h : FX12_isWithin p 0 (nI n - 1) = true) : ∃ j, j < n ∧ p = nI j := by
  obtain ⟨h1, h2⟩ := wi_iff.mp h
  obtain ⟨j, hj, rfl⟩ := nI_of h1
  refine ⟨j, ?_, rfl⟩
  cases n with
  | zero =>
    exfalso
    apply h2
    rw [Int32.lt_iff_toInt_lt, nI_toInt hj]
    have : (nI 0 - 1).toInt = -1 := by decide
    omega
  | succ n =>
    rw [nI_pred, nI_ltI (by omega) hj] at h2
    omega
theorem wi_nI {j n : Nat} (h : j < n) (hn : n ≤ 30) : FX12_isWithin (nI j) 0 (nI n - 1) = true := by
  refine wi_iff.mpr ⟨nI_pos (by omega), ?_⟩
  obtain ⟨n, rfl⟩ : ∃ m, n = m + 1 := ⟨n - 1, by omega⟩
  rw [nI_pred, nI_ltI (by omega) (by omega)]
  omega
-- the reference's tests of a number
theorem rIsV {w : Wd} {nv : Nat} (h : row w 0 = nI nv) (p : Int32) : FX13_isValley w p = some (FX12_isWithin p 0 (nI nv - 1)) := by
  unfold FX13_isValley
  rw [gd0, bnd_s, show (w 15).1 2 0 = nI nv from h]
  rw [i64_0, isIn_w]
theorem rIsC {w : Wd} {nc : Nat} (h : row w 1 = nI nc) (p : Int32) : FX13_isCustomer w p = some (FX12_isWithin p 0 (nI nc - 1)) := by
  unfold FX13_isCustomer
  rw [gd1, bnd_s, show (w 15).1 2 1 = nI nc from h]
  rw [i64_0, isIn_w]
theorem rIsS {w : Wd} {ns : Nat} (h : row w 2 = nI ns) (p : Int32) : FX13_isShout0 w p = some (FX12_isWithin p 0 (nI ns - 1)) := by
  unfold FX13_isShout0
  rw [gd2, bnd_s, show (w 15).1 2 2 = nI ns from h]
  rw [i64_0, isIn_w]
/-- the reference's note of a throw -/
def cd (w : Wd) (x : Int32) : Wd := sW w 15 (sI (w 15) 0 0 x)
theorem cd_row (w : Wd) (x : Int32) : row (cd w x) = row w := by
  unfold row cd
  rw [sW_s]
  exact sI_o _ _ _ (by decide)
theorem cd_o (w : Wd) (x : Int32) {r : Nat} (h : r ≠ 15) : cd w x r = w r := sW_o w _ h
theorem cd_th (w : Wd) (x : Int32) : FX13_thrown (cd w x) = x := by
  unfold FX13_thrown cd
  rw [sW_s, sI_s]
  exact if_pos rfl
theorem Good.cd {w : Wd} (h : Good w) (x : Int32) : Good (cd w x) := h.code x
theorem goes_t (w : Wd) : FX13_goes w true = (true, cd w 0) := rfl
theorem goes_f (w : Wd) : FX13_goes w false = (false, cd w 1) := rfl
theorem told_e (w : Wd) (x : Int32) : FX13_told w x = (x, cd w 0) := rfl
/-- the law's check behind a call that may throw -/
def chk (k q : Int32) (w2 : Wd) : Option Wd := if FX13_thrown w2 = k then (if k = 0 then (if lg_cmp ((w2 16).2 0 0) q.toInt64 = 0 then some w2 else none) else some w2) else none
theorem chk_0 {w2 : Wd} {q : Int32} (h : FX13_thrown w2 = 0) (ho : (w2 16).2 0 0 = q.toInt64) : chk 0 q w2 = some w2 := by
  unfold chk
  rw [if_pos h, if_pos rfl, ho, if_pos ((lg_cmp_eq _ _).mpr rfl)]
theorem chk_k {w2 : Wd} {k q : Int32} (h : FX13_thrown w2 = k) (hk : ¬ k = 0) : chk k q w2 = some w2 := by
  unfold chk
  rw [if_pos h, if_neg hk]
/-- the world behind a call of the class that answered x: the law's row -/
def ow (w : Wd) (x : Int32) : Wd := sW w 16 (sL (w 16) 0 0 x.toInt64)
theorem ow_o (w : Wd) (x : Int32) {r : Nat} (h : r ≠ 16) : ow w x r = w r := sW_o w _ h
theorem ow_row (w : Wd) (x : Int32) : row (ow w x) = row w := by
  unfold row
  rw [ow_o w x (by decide)]
theorem ow_v (w : Wd) (x : Int32) : (ow w x 16).2 0 0 = x.toInt64 := by
  unfold ow
  rw [sW_s, sL_s]
  exact if_pos rfl
theorem Good.ow {w : Wd} (h : Good w) (x : Int32) : Good (ow w x) := h.out _
theorem owcd_v (w : Wd) (x : Int32) (y : Int32) : (cd (ow w x) y 16).2 0 0 = x.toInt64 := by
  rw [cd_o _ _ (by decide)]
  exact ow_v w x
theorem lwW_ok {K : String → Option Int32} {w : Wd} {x : Int32} {r : Option (Except (String × Wd) Int32)} (h : r = some (.ok x)) : lwW K (okW w r) = some (0, ow w x) := by rw [h]; rfl
theorem lwW_er {K : String → Option Int32} {w w2 : Wd} {E : String} {k : Int32} {r : Option (Except (String × Wd) Int32)} (h : r = some (.error (E, w2))) (hk : K E = some k) : lwW K (okW w r) = some (k, w2) := by
  rw [h]
  show (match K E with | some k => some (k, w2) | none => none) = some (k, w2)
  rw [hk]
