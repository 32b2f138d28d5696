set_option maxHeartbeats 200000
/-! WHAT MUST HOLD behind each change: by the relation and the money's sums -/
/-- the money's sums, and that angry customers have no open shouts -/
def EX (r : Nat → Int32) (nc ns : Nat) : Prop :=
  isum ns (fun i => shF r i 4 * shF r i 3) - r 4 - r 5 - isum ns (lft r) = 0 ∧
  r 7 - isum nc (fun c => cuF r c 1) - r 4 - isum ns (lft r) = 0 ∧
  isum ns (fun i => shF r i 4 * bcI (shF r i 8)) = r 4 ∧
  (∀ i, i < ns → shF r i 6 = 0 → ∀ c, c < nc → shF r i 0 = nI c → cuF r c 2 < 3) ∧
  (∀ c, c < nc → ¬ cuF r c 1 < 0)
theorem isum_zero (n : Nat) : isum n (fun _ => 0) = 0 := by
  induction n with
  | zero => rfl
  | succ n ih => simp only [isum, ih]; rfl
theorem isum_addF (f g : Nat → Int32) (n : Nat) : isum n (fun i => f i + g i) = isum n f + isum n g := (isum_add f g n).symm
/-- one place of the outer sum has x -/
theorem isum_one {n c : Nat} (hc : c < n) (hn : n ≤ 30) (x : Int32) : isum n (fun j => if nI c = nI j then x else 0) = x := by
  induction n with
  | zero => omega
  | succ n ih =>
    simp only [isum]
    by_cases e : c = n
    · subst e
      rw [if_pos rfl, isum_congr (g := fun _ => 0) (fun j hj => if_neg (nI_ne (by omega) (by omega) (by omega))), isum_zero, Int32.zero_add]
    · rw [ih (by omega) (by omega), if_neg (nI_ne e (by omega) (by omega)), Int32.add_zero]
theorem isum_swap (f : Nat → Int32) {k : Nat → Int32} {nc : Nat} (hnc : nc ≤ 30) : ∀ {ns : Nat}, (∀ i, i < ns → ∃ c, c < nc ∧ k i = nI c) → isum nc (fun c => isum ns (fun i => if k i = nI c then f i else 0)) = isum ns f
  | 0, _ => isum_zero nc
  | ns + 1, h => by
    simp only [isum]
    rw [isum_addF (fun c => isum ns (fun i => if k i = nI c then f i else 0)) (fun c => if k ns = nI c then f ns else 0), isum_swap f hnc (fun i hi => h i (by omega))]
    obtain ⟨c, hc, e⟩ := h ns (by omega)
    rw [e, isum_one hc hnc]
theorem ang_le {x : Int32} (h : x < 3) : x ≤ 2 := by
  have h1 := Int32.lt_iff_toInt_lt.mp h
  exact Int32.le_iff_toInt_le.mpr (by have e3 : (3 : Int32).toInt = 3 := rfl; have e2 : (2 : Int32).toInt = 2 := rfl; omega)
theorem ang_gt {x : Int32} (h : ¬ x < 3) : ¬ x ≤ 2 := fun h2 => h (by
  have h1 := Int32.le_iff_toInt_le.mp h2
  exact Int32.lt_iff_toInt_lt.mpr (by have e3 : (3 : Int32).toInt = 3 := rfl; have e2 : (2 : Int32).toInt = 2 := rfl; omega))
section HOLDS
variable {n : Nat} {w : Wd} {r : Nat → Int32} {nv nc ns : Nat} {bk : Nat → Nat}
theorem unf_0 (hm : RelM (w 1) r nv nc ns bk) : isum ns (unf r) = 0 := by
  rw [isum_congr (g := fun _ => 0) (fun i hi => ?_), isum_zero]
  obtain ⟨c, v, lo, od, ea, so, st, mk, wd, pa, tm, h1, h2, l1, l2, o1, o2, b1, ea1, ea2, st1, mk1, so1, tm1, q0, q1, q2, q3, q4, q5, q6, q7, q8, q9, q10, q11, q12, q13, q14⟩ := (hm.ss i hi).rest
  unfold unf
  by_cases z : shF r i 6 = 1
  · have e1 : st = 1 := (nI_eq (a := st) (b := 1) (by omega) (by omega)).mp (q6.symm.trans z)
    have e2 := q14.1 e1
    rw [if_pos z, q3, (hm.ss i hi).back, e2, if_pos (Int32.le_refl _)]
  · rw [if_neg z]
theorem viol_0 (hn : 100 ≤ n) (hm : RelM (w 1) r nv nc ns bk) (hE : EX r nc ns) : FX12_violations n w = some 0 := by
  rw [o_violations hn hm, hE.1, hE.2.1, unf_0 hm]
  rfl
theorem cu_of (hm : RelM (w 1) r nv nc ns bk) {i : Nat} (hi : i < ns) : ∃ c, c < nc ∧ shF r i 0 = nI c := by
  obtain ⟨c, v, h1, h2, q0, q1, -⟩ := (hm.ss i hi).wh
  exact ⟨c, h1, q0⟩
theorem ev_min {a b x : Int32} (hx : x = if b ≤ a then b else a) : (if b < a then b else a) = x := by rw [hx]; exact mn_e a b
theorem holds_2 (hn : 100 ≤ n) {V : MM} (hm : RelM (w 1) r nv nc ns bk) (hE : EX r nc ns) (rc : (Wd × MM) → Int32 → Int32 → Int32 → Int32 → Int32 → Option Bool) : ∀ (d i : Nat), i + d = nc → ∀ k, d < k → FQ_holds_L146 n rc k (w, V) (isum ns (fun i => if shF r i 6 = 0 then 1 else 0)) (isum i (fun c => isum ns (fun i => if shF r i 0 = nI c then lft r i else 0))) (isum ns (fun i => shF r i 4 * bcI (shF r i 8))) (foldI (evF r) ns (-1)) (nI i) = some true := by
  have hbc := hm.bc
  intro d
  induction d with
  | zero =>
    intro i hi k hk
    have hi : i = nc := by omega
    subst hi
    obtain ⟨k, rfl⟩ : ∃ j, k = j + 1 := ⟨k - 1, by omega⟩
    simp only [FQ_holds_L146, FX12_customerCount, FX12_held, FX12_earned]
    rw [bnd_s, hm.c1, if_pos (Int32.le_refl _), o_openShouts hn hm, bo1_s, if_pos rfl, bnd_s, hm.hold, isum_swap (lft r) (by omega) (fun i hi => cu_of hm hi), if_pos rfl, bnd_s, hm.earn, hE.2.2.1, if_pos rfl, o_nextEvent hn hm, bo1_s, if_pos rfl]
  | succ d ih =>
    intro i hi k hk
    obtain ⟨k, rfl⟩ : ∃ j, k = j + 1 := ⟨k - 1, by omega⟩
    simp only [FQ_holds_L146, FX12_customerCount]
    have hi2 : i < nc := by omega
    have ec := ih (i + 1) (by omega) k (by omega)
    simp only [isum] at ec
    rw [bnd_s, hm.c1, if_neg (le_nI hi2 (by omega)), o_heldFor hm hi2, o_money hm hi2, o_isAngry hm hi2, o_suspicion hm hi2]
    show (if cuF r i 1 < 0 then _ else _) = _
    rw [if_neg (hE.2.2.2.2 i hi2)]
    show (if cuF r i 2 ≤ 2 then _ else _) = _
    unfold FQ_holds_B194
    by_cases z : cuF r i 2 < 3
    · rw [if_pos (ang_le z), if_pos z, if_pos rfl, nI_1]
      exact ec
    · rw [if_neg (ang_gt z), if_neg z, if_pos rfl, nI_1]
      exact ec
theorem evI_gt (hm : RelM (w 1) r nv nc ns bk) {i : Nat} (hi : i < ns) (ho : shF r i 6 = 0) : ¬ evI r i ≤ r 3 := by
  obtain ⟨t, ht, et⟩ := hm.tm
  obtain ⟨h1, h2⟩ := hm.tmOk ht et i hi ho
  rw [et]
  unfold evI
  intro h
  rw [Int32.le_iff_toInt_le] at h
  rw [Int32.lt_iff_toInt_lt] at h1 h2
  by_cases z : endI r i ≤ retI r i
  · rw [if_pos z] at h
    omega
  · rw [if_neg z] at h
    omega
theorem ev_step {a e : Int32} (ha : a = -1 ∨ 0 ≤ a) : (if 0 ≤ a then (if e < a then e else a) else e) = (if a = -1 then e else if a ≤ e then a else e) := by
  rcases ha with h | h
  · rw [h, if_neg (by decide), if_pos rfl]
  · have h1 : ¬ a = -1 := fun z => by rw [z] at h; exact absurd h (by decide)
    rw [if_pos h, if_neg h1]
    by_cases z : a ≤ e
    · rw [if_pos z, if_neg]
      intro y
      rw [Int32.lt_iff_toInt_lt] at y
      rw [Int32.le_iff_toInt_le] at z
      omega
    · rw [if_neg z, if_pos]
      rw [Int32.le_iff_toInt_le] at z
      rw [Int32.lt_iff_toInt_lt]
      omega
theorem evF_open {a : Int32} {i : Nat} (ho : shF r i 6 = 0) (ha : a = -1 ∨ 0 ≤ a) : evF r a i = if 0 ≤ a then (if evI r i < a then evI r i else a) else evI r i := by
  unfold evF
  rw [decide_eq_true ho, if_pos rfl, ev_step ha]
theorem evF_shut {a : Int32} {i : Nat} (ho : ¬ shF r i 6 = 0) : evF r a i = a := by
  unfold evF
  rw [decide_eq_false ho, if_neg (by decide)]
theorem holds_1 (hn : 100 ≤ n) {V : MM} (hm : RelM (w 1) r nv nc ns bk) (hE : EX r nc ns) : ∀ (d i : Nat), i + d = ns → ∀ k, d < k → FQ_holds_L21 n k (w, V) (isum i (fun i => if shF r i 6 = 0 then 1 else 0)) 0 (isum i (fun i => shF r i 4 * bcI (shF r i 8))) (foldI (evF r) i (-1)) (nI i) = some true := by
  have hbc := hm.bc
  have hbs := hm.bs
  intro d
  induction d with
  | zero =>
    intro i hi k hk
    have hi : i = ns := by omega
    subst hi
    obtain ⟨k, rfl⟩ : ∃ j, k = j + 1 := ⟨k - 1, by omega⟩
    simp only [FQ_holds_L21, FX12_shoutCount]
    rw [bnd_s, hm.s1, if_pos (Int32.le_refl _)]
    exact holds_2 hn hm hE _ nc 0 (by omega) n (by omega)
  | succ d ih =>
    intro i hi k hk
    obtain ⟨k, rfl⟩ : ∃ j, k = j + 1 := ⟨k - 1, by omega⟩
    have hi2 : i < ns := by omega
    have ec := ih (i + 1) (by omega) k (by omega)
    simp only [isum, foldI] at ec
    simp only [FQ_holds_L21, FX12_shoutCount]
    rw [bnd_s, hm.s1, if_neg (le_nI hi2 (by omega)), o_receipt hm hi2, o_shoutState hm hi2]
    show (if shF r i 6 = 0 then _ else _) = _
    have e102 : ∀ a1 a3 y, FQ_holds_L21 n k (w, V) a1 0 a3 y (nI i + 1) = some true → shF r i 6 = 0 → FQ_holds_B102 n (FQ_holds_L21 n k) (w, V) a1 0 a3 (nI i) (if endI r i < retI r i then endI r i else retI r i) y = some true := fun a1 a3 y h9 ho => by
      unfold FQ_holds_B102
      obtain ⟨c, v, h1, h2, q0, q1, q2⟩ := o_finalState hm hi2
      have h3 := hE.2.2.2.1 i hi2 ho c h1 q0
      simp only [FX12_time]
      rw [bnd_s, hm.time, ev_min (x := evI r i) rfl, if_neg (evI_gt hm hi2 ho), o_shoutCustomer hm hi2]
      show (bx1 (FX12_isAngry w (shF r i 0)) _) = _
      rw [q0, o_isAngry hm h1, if_pos h3]
      show (bx1 (FX12_finalState w (nI i)) _) = _
      rw [q2, if_pos ho]
      show (if (if cuF r c 0 < vaF r v 0 * shF r i 3 then (2 : Int32) else 1) = 0 then _ else _) = _
      rw [if_neg (by split <;> decide)]
      exact h9
    by_cases ho : shF r i 6 = 0
    · rw [if_pos ho, o_nextReturn hm hi2, if_pos ho, o_patienceEnds hm hi2]
      have ha : foldI (evF r) i (-1) = -1 ∨ 0 ≤ foldI (evF r) i (-1) := by
        rcases ev_ok hm.toN i (by omega) with h | ⟨e, h, he, -⟩
        · exact Or.inl h.1
        · exact Or.inr (by rw [h]; exact nI_pos' (by omega))
      rw [if_pos ho, evF_open ho ha] at ec
      show (if 0 ≤ foldI (evF r) i (-1) then _ else _) = _
      by_cases z : 0 ≤ foldI (evF r) i (-1)
      · rw [if_pos z]
        rw [if_pos z] at ec
        have h9 := e102 (isum i (fun i => if shF r i 6 = 0 then 1 else 0) + 1) (isum i (fun i => shF r i 4 * bcI (shF r i 8)) + shF r i 4 * bcI (shF r i 8)) (if (if endI r i < retI r i then endI r i else retI r i) < foldI (evF r) i (-1) then (if endI r i < retI r i then endI r i else retI r i) else foldI (evF r) i (-1)) (by rw [ev_min (x := evI r i) rfl, nI_1]; exact ec) ho
        exact h9
      · rw [if_neg z]
        rw [if_neg z] at ec
        exact e102 _ _ _ (by rw [ev_min (x := evI r i) rfl, nI_1]; exact ec) ho
    · rw [if_neg ho]
      obtain ⟨c, v, h1, h2, q0, q1, q2⟩ := o_finalState hm hi2
      rw [if_neg ho, Int32.add_zero] at ec
      rw [evF_shut ho] at ec
      show (bx1 (FX12_finalState w (nI i)) _) = _
      rw [q2, if_neg ho]
      show (if shF r i 6 = shF r i 6 then _ else _) = _
      rw [if_pos rfl]
      unfold FQ_holds_B137
      rw [nI_1]
      exact ec
theorem holds_ok (hn : 100 ≤ n) {V : MM} (hm : RelM (w 1) r nv nc ns bk) (hE : EX r nc ns) : FQ_holds n (w, V) = some true := by
  unfold FQ_holds
  show bo1 (FX12_violations n w) _ = _
  rw [viol_0 hn hm hE, bo1_s, if_pos rfl]
  exact holds_1 hn hm hE ns 0 (by omega) n (by have := hm.bs; omega)
end HOLDS
