set_option maxHeartbeats 400000
/-! calls that ask by name or of names -/
def bufb (w : Wd) (j : Nat) : Nat := ((w 15).1 1 j).toNatClampNeg
theorem RelT.bytes {w : Wd} (h : RelT w) : ∃ f, f ≤ 600 ∧ (w 10).1 0 6 = nI f ∧ (w 15).1 0 2 = nI f ∧ ∀ j, j < f → bufb w j < 256 ∧ (w 15).1 1 j = nI (bufb w j) ∧ (w 10).1 1 j = (nI (bufb w j)).toInt8.toInt32 := by
  obtain ⟨f, h1, h2, h3, h4⟩ := h.len
  refine ⟨f, h1, h2, h3, fun j hj => ?_⟩
  obtain ⟨b, b1, b2, b3⟩ := h4 j hj
  have e : bufb w j = b := by
    unfold bufb
    rw [b2, nI_c (by omega)]
  rw [e]
  exact ⟨b1, b2, b3⟩
/-- both read the whole buffer as a name -/
theorem whole_pair {n : Nat} (hn : 100 ≤ n) {w : Wd} (h : RelT w) : ∃ o, (∀ ls, o = some ls → okName ls) ∧ FX9_wholeName n w = some (v8 o) ∧ FX13_bufferName n w = some (v5 o) := by
  obtain ⟨f, h1, h2, h3, h4⟩ := h.bytes
  refine ⟨nmO (bufb w) 0 f, fun ls e => nmO_ok e, ?_, rBufName hn h1 h3 (fun k hk => ⟨(h4 k hk).1, (h4 k hk).2.1⟩)⟩
  have e := cNameIn (n := n) hn (w := w) (b := bufb w) (s := 0) (m := f) (by omega) (fun k hk => by rw [Nat.zero_add]; exact ⟨(h4 k hk).1, (h4 k hk).2.2⟩)
  rw [Nat.zero_add, nI_0] at e
  unfold FX9_wholeName
  rw [h2, e, bo1_s]
theorem ob_16 {n : Nat} (hn : 1000 ≤ n) {w : Wd} (h : Good w) (a1 a2 a3 a4 a5 : Int32) : ∃ w9, FLc_16 n w a1 a2 a3 a4 a5 = some w9 ∧ Good w9 := by
  obtain ⟨nv, nc, ns, bk, hm⟩ := h.m
  obtain ⟨o, o1, o2, o3⟩ := whole_pair (n := n) (by omega) h.t
  obtain ⟨q, q1, q2, -⟩ := found_v (n := n) (by omega) hm.bv hm.v0 hm.v1 (fun v hv => (hm.vs v hv).name) o1
  refine ⟨cd w 0, ?_, h.cd 0⟩
  unfold FLc_16 FX12_findValley FX13_findValley
  rw [o2, bo1_s, q1, bo1_s, bo1_s, o3, bo1_s, q2, bo1_s, told_e, bnd2_s, bo2_s]
  exact if_pos rfl
theorem ob_25 {n : Nat} (hn : 1000 ≤ n) {w : Wd} (h : Good w) (a1 a2 a3 a4 a5 : Int32) : ∃ w9, FLc_25 n w a1 a2 a3 a4 a5 = some w9 ∧ Good w9 := by
  obtain ⟨nv, nc, ns, bk, hm⟩ := h.m
  obtain ⟨o, o1, o2, o3⟩ := whole_pair (n := n) (by omega) h.t
  obtain ⟨q, q1, q2, -⟩ := found_c (n := n) (by omega) hm.bc hm.c0 hm.c1 (fun c hc => (hm.cs c hc).name) o1
  refine ⟨cd w 0, ?_, h.cd 0⟩
  unfold FLc_25 FX12_findCustomer FX13_findCustomer
  rw [o2, bo1_s, q1, bo1_s, bo1_s, o3, bo1_s, q2, bo1_s, told_e, bnd2_s, bo2_s]
  exact if_pos rfl
-- letters
theorem and255 {q : Nat} (h : q < 2 ^ 63) : ((lN q).toInt32 &&& 255) = nI (q % 256) := by
  apply Int32.toBitVec_inj.mp
  apply BitVec.eq_of_toNat_eq
  rw [Int32.toBitVec_and, BitVec.toNat_and]
  have e1 : (lN q).toInt32.toBitVec.toNat = q % 2 ^ 32 := by
    rw [Int64.toBitVec_toInt32, BitVec.signExtend_eq_setWidth_of_le _ (by decide), BitVec.toNat_setWidth, wb_tn (by omega)]
  have e2 : (255 : Int32).toBitVec.toNat = 2 ^ 8 - 1 := by decide
  have e3 : (nI (q % 256)).toBitVec.toNat = q % 256 := by
    show (BitVec.ofNat 32 (q % 256)).toNat = _
    rw [BitVec.toNat_ofNat]
    exact Nat.mod_eq_of_lt (by omega)
  rw [e1, e2, e3, Nat.and_two_pow_sub_one_eq_mod]
  omega
theorem cLetter {ls : List Nat} (h : okName ls) {k : Nat} (hk : k < 8) : FX12_letterOf (lN (pk8 ls)) (nI k) = if k < ls.length then nI (96 + ls.getD k 0) else -1 := by
  have hb := pk8_bd h
  have hw : FX12_isWithin (nI k) 0 7 = true := wi_nI (n := 8) hk (by decide)
  have e7 : (8 : Int32) * (7 - nI k) = nI (8 * (7 - k)) := by
    have : (7 : Int32) - nI k = nI (7 - k) := nI_sub (a := 7) (by omega)
    rw [this]
    exact pk_mul 8 _
  have hd : ∃ x, (pk8 ls / 2 ^ (8 * (7 - k))) % 256 = g8 x ∧ x ≤ 26 ∧ (k < ls.length → x = ls.getD k 0 ∧ 1 ≤ x) ∧ (¬ k < ls.length → x = 0) := by
    obtain ⟨u, x, v, e, hu⟩ := split_at (ls := pad ls) (k := k) (by rw [pad_len h]; exact hk)
    have hv : v.length = 7 - k := by
      have := congrArg List.length e
      rw [pad_len h, List.length_append, List.length_cons] at this
      omega
    have hx : x ≤ 26 := pad_mem h (by rw [e]; exact List.mem_append_right _ (List.mem_cons_self ..))
    have hg := dg_dig (B := 256) (g := g8) (u := u) (v := v) (x := x) (by have := g8_le hx; omega) (fun y hy => by
      have := g8_le (pad_mem h (x := y) (by rw [e]; exact List.mem_append_right _ (List.mem_cons_of_mem _ hy)))
      omega)
    have hx2 : (pad ls).getD k 0 = x := by
      rw [e, ← hu, List.getD_eq_getElem?_getD, List.getElem?_append_right (Nat.le_refl _), Nat.sub_self]
      rfl
    refine ⟨x, ?_, hx, fun hl => ?_, fun hl => ?_⟩
    · rw [pk8_pad h, e, Nat.pow_mul, ← hv]
      exact hg
    · have e2 : (pad ls).getD k 0 = ls.getD k 0 := by
        unfold pad
        rw [List.getD_eq_getElem?_getD, List.getD_eq_getElem?_getD, List.getElem?_append_left hl]
      have e3 : ls.getD k 0 ∈ ls := by
        rw [List.getD_eq_getElem?_getD, List.getElem?_eq_getElem hl]
        exact List.getElem_mem hl
      have := h.2.2 _ e3
      rw [← hx2, e2]
      exact ⟨rfl, this.1⟩
    · rw [← hx2]
      unfold pad
      rw [List.getD_eq_getElem?_getD, List.getElem?_append_right (by omega)]
      rcases hz : (List.replicate (8 - ls.length) 0)[k - ls.length]? with _ | y
      · rfl
      · have := List.mem_of_getElem? hz
        exact (List.mem_replicate.mp this).2
  obtain ⟨x, x1, x2, x3, x4⟩ := hd
  have hq : pk8 ls / 2 ^ (8 * (7 - k)) < 2 ^ 63 := Nat.lt_of_le_of_lt (Nat.div_le_self _ _) hb.2
  unfold FX12_letterOf
  rw [hw, bnd_s, if_pos rfl, e7, wb_shr (by omega) (by omega), and255 hq, x1]
  by_cases z : k < ls.length
  · obtain ⟨y1, y2⟩ := x3 z
    have hne : ¬ nI (96 + x) = (0 : Int32) := nI_ne (a := 96 + x) (b := 0) (by omega) (by omega) (by decide)
    rw [if_pos z, ← y1, show g8 x = 96 + x from if_neg (by omega), if_neg hne]
  · rw [if_neg z, x4 z]
    exact if_pos rfl
theorem rLen {n : Nat} {l0 : Int64} : ∀ (m : Nat) (ls : List Nat) (c k : Nat), ls.length = m → m ≤ 8 → (∀ x ∈ ls, 1 ≤ x ∧ x ≤ 26) → m < k → FX13_lengthOf_L4 n k l0 (nI c) (lN (pk5 ls)) = some (nI (c + m)) := by
  intro m
  induction m with
  | zero =>
    intro ls c k hl _ _ hk
    obtain ⟨k, rfl⟩ : ∃ k', k = k' + 1 := ⟨k - 1, by omega⟩
    have e : ls = [] := List.eq_nil_of_length_eq_zero hl
    subst e
    simp only [FX13_lengthOf_L4]
    rw [if_pos ((lg_cmp_le _ _).mpr (by decide))]
    rfl
  | succ m ih =>
    intro ls c k hl hm hx hk
    obtain ⟨k, rfl⟩ : ∃ k', k = k' + 1 := ⟨k - 1, by omega⟩
    rcases List.eq_nil_or_concat ls with e | ⟨u, x, e⟩
    · rw [e] at hl
      exact absurd hl (by simp)
    · rw [List.concat_eq_append] at e
      subst e
      have hu : u.length = m := by
        rw [List.length_append] at hl
        simpa using hl
      have hx1 := hx x (List.mem_append_right _ (List.mem_singleton.mpr rfl))
      have hlt := dg_lt (B := 32) (g := g5) (ls := u ++ [x]) (fun y hy => by have := hx y hy; show y < 32; omega)
      rw [hl] at hlt
      have h3 : (32 : Nat) ^ (m + 1) ≤ 32 ^ 8 := Nat.pow_le_pow_right (by decide) hm
      have h4 : (32 : Nat) ^ 8 = 1099511627776 := by decide
      have hv : pk5 (u ++ [x]) < 1099511627776 := Nat.lt_of_lt_of_le hlt (by omega)
      have hs : lN (pk5 (u ++ [x])) >>> ((5 : Int32).toInt64 &&& 63) = lN (pk5 u) := by
        rw [pf_shr (d := 5) (by decide) (by omega), pk5_snoc]
        congr 1
        omega
      simp only [FX13_lengthOf_L4]
      rw [if_neg (fun z => by
        have z2 := (lg_cmp_le _ _).mp z
        rw [Int64.le_iff_toInt_le, pf_lI (by omega)] at z2
        have : (0 : Int64).toInt = 0 := by decide
        rw [pk5_snoc] at z2
        omega), hs, nI_1, ih u (c + 1) k hu (by omega) (fun y hy => hx y (List.mem_append_left _ hy)) (by omega), show c + 1 + m = c + (m + 1) by omega]
theorem rLength {n : Nat} (hn : 100 ≤ n) {ls : List Nat} (h : okName ls) : FX13_lengthOf n (lN (pk5 ls)) = some (nI ls.length) := by
  have h8 := h.2.1
  unfold FX13_lengthOf
  have := rLen (n := n) (l0 := lN (pk5 ls)) ls.length ls 0 n rfl h8 h.2.2 (by omega)
  rw [Nat.zero_add, nI_0] at this
  exact this
theorem rLetter {n : Nat} (hn : 100 ≤ n) {ls : List Nat} (h : okName ls) {k : Nat} (hk : k < ls.length) : FX13_letterAt n (lN (pk5 ls)) (nI k) = some (nI (96 + ls.getD k 0)) := by
  have h8 := h.2.1
  have hb := pk5_bd h
  have hw : FX12_isWithin (nI k) 0 (nI ls.length - 1) = true := wi_nI hk (by omega)
  have e5 : (5 : Int32) * ((nI ls.length - 1) - nI k) = nI (5 * (ls.length - 1 - k)) := by
    have e1 : nI ls.length - 1 = nI (ls.length - 1) := nI_sub (b := 1) h.1
    rw [e1, nI_sub (by omega)]
    exact pk_mul 5 _
  obtain ⟨u, x, v, e, hu⟩ := split_at (ls := ls) (k := k) hk
  have hv : v.length = ls.length - 1 - k := by
    have := congrArg List.length e
    rw [List.length_append, List.length_cons] at this
    omega
  have hx : 1 ≤ x ∧ x ≤ 26 := h.2.2 x (by rw [e]; exact List.mem_append_right _ (List.mem_cons_self ..))
  have hg := dg_dig (B := 32) (g := g5) (u := u) (v := v) (x := x) (by show x < 32; omega) (fun y hy => by
    have := h.2.2 y (by rw [e]; exact List.mem_append_right _ (List.mem_cons_of_mem _ hy))
    show y < 32
    omega)
  have hx2 : ls.getD k 0 = x := by
    rw [e, ← hu, List.getD_eq_getElem?_getD, List.getElem?_append_right (Nat.le_refl _), Nat.sub_self]
    rfl
  have hm : 5 * (ls.length - 1 - k) < 64 := by omega
  have hs : lN (pk5 ls) >>> ((nI (5 * (ls.length - 1 - k))).toInt64 &&& 63) = lN (pk5 ls / 2 ^ (5 * (ls.length - 1 - k))) := by
    refine pf_shr ?_ (by omega)
    rw [wb_c _ hm, wb_tb, wb_sm _ hm, BitVec.toNat_ofNat]
    exact Nat.mod_eq_of_lt (by omega)
  have hq : pk5 ls / 2 ^ (5 * (ls.length - 1 - k)) < 2 ^ 64 := Nat.lt_of_le_of_lt (Nat.div_le_self _ _) (by omega)
  have hand : lN (pk5 ls / 2 ^ (5 * (ls.length - 1 - k))) &&& 31 = lN x := by
    have : lN (pk5 ls / 2 ^ (5 * (ls.length - 1 - k))) &&& lN (32 - 1) = lN (pk5 ls / 2 ^ (5 * (ls.length - 1 - k)) % 32) := g_mask (s := 5) rfl (by decide) hq
    refine this.trans ?_
    congr 1
    rw [Nat.pow_mul, ← hv]
    have : dg 32 g5 0 ls / 32 ^ v.length % 32 = x := by
      rw [e]
      exact hg
    exact this
  unfold FX13_letterAt
  rw [rLength hn h, bo1_s, i64_0, isIn_w, hw, bnd_s, if_pos rfl, e5, hs, hand, L_nI (by omega), hx2]
  show some (nI 96 + nI x) = _
  rw [nI_add]
theorem rLetter_x {n : Nat} (hn : 100 ≤ n) {ls : List Nat} (h : okName ls) {p : Int32} (hw : FX12_isWithin p 0 (nI ls.length - 1) = false) : FX13_letterAt n (lN (pk5 ls)) p = some (-1) := by
  unfold FX13_letterAt
  rw [rLength hn h, bo1_s, i64_0, isIn_w, hw, bnd_s, if_neg (by decide)]
theorem cLetter_x {x : Int64} {p : Int32} (hw : FX12_isWithin p 0 7 = false) : FX12_letterOf x p = -1 := by
  unfold FX12_letterOf
  rw [hw, bnd_s, if_neg (by decide)]
theorem letter_pair {n : Nat} (hn : 100 ≤ n) {ls : List Nat} (h : okName ls) (p : Int32) : FX13_letterAt n (lN (pk5 ls)) p = some (FX12_letterOf (lN (pk8 ls)) p) := by
  have h8 := h.2.1
  cases hw : FX12_isWithin p 0 7 with
  | false =>
    rw [cLetter_x hw]
    refine rLetter_x hn h ?_
    cases hw2 : FX12_isWithin p 0 (nI ls.length - 1) with
    | false => rfl
    | true =>
      obtain ⟨j, hj, rfl⟩ := wi_in (by omega) hw2
      have : FX12_isWithin (nI j) 0 7 = true := wi_nI (n := 8) (by omega) (by decide)
      rw [hw] at this
      exact absurd this (by decide)
  | true =>
    obtain ⟨k, hk, rfl⟩ := wi_in (n := 8) (by decide) hw
    rw [cLetter h hk]
    by_cases z : k < ls.length
    · rw [if_pos z, rLetter hn h z]
    · rw [if_neg z]
      refine rLetter_x hn h ?_
      cases hw2 : FX12_isWithin (nI k) 0 (nI ls.length - 1) with
      | false => rfl
      | true =>
        obtain ⟨j, hj, e⟩ := wi_in (by omega) hw2
        have := (nI_eq (by omega) (by omega)).mp e
        omega
theorem ob_15 {n : Nat} (hn : 1000 ≤ n) {w : Wd} (h : Good w) (a1 a2 a3 a4 a5 : Int32) : ∃ w9, FLc_15 n w a1 a2 a3 a4 a5 = some w9 ∧ Good w9 := by
  obtain ⟨nv, nc, ns, bk, hm⟩ := h.m
  have hb1 := hm.bv
  show ∃ w9, (bo2 (FL_valleyByte w a1 a2) fun k w1 => bo2 (FX13_valleyByte n w1 a1 a2) fun q w2 => chk k q w2) = some w9 ∧ Good w9
  unfold FL_valleyByte FX13_valleyByte
  rcases cVal hm.v1 hm.bv a1 with ⟨j, hj, rfl, hw, ha⟩ | ⟨hw, ha⟩
  · obtain ⟨ls, q1, q2, q3, q4⟩ := (hm.vs j hj).name
    have hx : FX12_valleyByte w (nI j) a2 = some (.ok (FX12_letterOf (lN (pk8 ls)) a2)) := by
      unfold FX12_valleyByte
      rw [ha, xo_s, gd_t (decide_eq_true (by omega)), show (w 1).2 (4 + j) 0 = lN (pk8 ls) from q2, bnd_s]
    generalize hz : FX12_letterOf (lN (pk8 ls)) a2 = z at hx
    rw [lwW_ok hx, bo2_s, rIsV (w := ow w z) ((congrFun (ow_row w _) _).trans hm.v0), hw, bo1_s, goes_t, bnd2_s, if_pos rfl, rNme0, bnd_s, rNameAt (w := cd (ow w z) 0) (p := pk5 ls) (by omega) (pk5_bd q1).2.2.1 (by rw [cd_row, ow_row]; exact q3) (by rw [cd_row, ow_row]; exact q4), bo1_s, letter_pair (by omega) q1, bo1_s, hz, bo2_s]
    exact ⟨_, ok_chk h⟩
  · have hx : FX12_valleyByte w a1 a2 = some (.error ("java/lang/IndexOutOfBoundsException", w)) := by
      unfold FX12_valleyByte
      rw [ha]
      rfl
    rw [lwW_er (k := 1) hx (if_pos rfl), bo2_s, rIsV hm.v0, hw, bo1_s, goes_f, bnd2_s, if_neg (by decide), bo2_s]
    exact ⟨_, er_chk h (by decide)⟩
theorem rWidened {n : Nat} (hn : 100 ≤ n) {w : Wd} {i : Nat} (hi : i < 8) {ls : List Nat} (h : okName ls) (q3 : vaF (row w) i 6 = nI (pk5 ls / 1048576)) (q4 : vaF (row w) i 7 = nI (pk5 ls % 1048576)) : FX13_widened n w (nI i) = some (lN (wid ls)) := by
  have h8 := h.2.1
  have h1 := h.1
  have e5 : (5 : Int32) * (8 - nI ls.length) = nI (5 * (8 - ls.length)) := by
    have : (8 : Int32) - nI ls.length = nI (8 - ls.length) := nI_sub (a := 8) h8
    rw [this]
    exact pk_mul 5 _
  unfold FX13_widened
  rw [rNme0, bnd_s, rNameAt (p := pk5 ls) (by omega) (pk5_bd h).2.2.1 q3 q4, bo1_s, rLength hn h, bo1_s, e5, wb_shl _ (by omega)]
  unfold wid
  rw [Nat.pow_mul]
theorem ob_24 {n : Nat} (hn : 1000 ≤ n) {w : Wd} (h : Good w) (a1 a2 a3 a4 a5 : Int32) : ∃ w9, FLc_24 n w a1 a2 a3 a4 a5 = some w9 ∧ Good w9 := by
  obtain ⟨nv, nc, ns, bk, hm⟩ := h.m
  have hb1 := hm.bv
  have cnt : ∀ i, i < nv → FX6_namesBefore n (w 1) ((w 1).2 (4 + i) 0) = some (isum nv (fun j => if (w 1).2 (4 + j) 0 < (w 1).2 (4 + i) 0 then 1 else 0)) := fun i hi => by
    unfold FX6_namesBefore
    refine loopS (L := fun k a j => FX6_namesBefore_L5 n k (w 1) ((w 1).2 (4 + i) 0) a j) (g := some) (fun k a => ?_) (fun k a j hj => ?_) (by omega)
    · simp only [FX6_namesBefore_L5]
      rw [hm.v1, if_pos (Int32.le_refl _)]
    · simp only [FX6_namesBefore_L5]
      rw [hm.v1, if_neg (le_nI hj (by omega)), gd_t (inI (by omega) (by omega)), nI_c (by omega), nI_1]
      by_cases z : (w 1).2 (4 + j) 0 < (w 1).2 (4 + i) 0
      · rw [if_neg (fun y => by
          have := (lg_cmp_ge _ _).mp y
          rw [Int64.le_iff_toInt_le] at this
          rw [Int64.lt_iff_toInt_lt] at z
          omega), if_pos z]
      · rw [if_pos ((lg_cmp_ge _ _).mpr (by
          rw [Int64.lt_iff_toInt_lt] at z
          rw [Int64.le_iff_toInt_le]
          omega)), if_neg z]
  have ahd : ∀ i, i < nv → FX13_ahead n (cd w 0) (nI i) = some (isum nv (fun j => if (w 1).2 (4 + j) 0 < (w 1).2 (4 + i) 0 then 1 else 0)) := fun i hi => by
    obtain ⟨li, q1, q2, q3, q4⟩ := (hm.vs i hi).name
    unfold FX13_ahead
    refine loopS (L := fun k a j => FX13_ahead_L4 n k (cd w 0) (nI i) a j) (g := some) (fun k a => ?_) (fun k a j hj => ?_) (by omega)
    · simp only [FX13_ahead_L4]
      rw [gd0, show (cd w 0 15).1 2 0 = nI nv from (congrFun (cd_row w 0) 0).trans hm.v0, if_pos (Int32.le_refl _)]
    · obtain ⟨lj, y1, y2, y3, y4⟩ := (hm.vs j hj).name
      have eq2 : (w 1).2 (4 + i) 0 = lN (pk8 li) := q2
      have ey2 : (w 1).2 (4 + j) 0 = lN (pk8 lj) := y2
      have ho := nm_ord y1 q1
      simp only [FX13_ahead_L4]
      rw [gd0, show (cd w 0 15).1 2 0 = nI nv from (congrFun (cd_row w 0) 0).trans hm.v0, if_neg (le_nI hj (by omega)), rWidened (by omega) (by omega) y1 (by rw [cd_row]; exact y3) (by rw [cd_row]; exact y4), bo1_s, rWidened (by omega) (by omega) q1 (by rw [cd_row]; exact q3) (by rw [cd_row]; exact q4), bo1_s, nI_1, eq2, ey2, bnd_s, bnd_s]
      by_cases z : lN (wid lj) < lN (wid li)
      · rw [if_neg (fun y => by
          have := (lg_cmp_ge _ _).mp y
          rw [Int64.le_iff_toInt_le] at this
          rw [Int64.lt_iff_toInt_lt] at z
          omega), if_pos (ho.mpr z)]
        rfl
      · rw [if_pos ((lg_cmp_ge _ _).mpr (by
          rw [Int64.lt_iff_toInt_lt] at z
          rw [Int64.le_iff_toInt_le]
          omega)), if_neg (fun y => z (ho.mp y))]
        rfl
  have e1 : FX6_valleyRanked n (w 1) a1 = some (ff (fun i => decide (isum nv (fun j => if (w 1).2 (4 + j) 0 < (w 1).2 (4 + i) 0 then 1 else 0) = a1)) nv 0) := by
    unfold FX6_valleyRanked
    refine loopX (L := fun k i => FX6_valleyRanked_L2 n k (w 1) a1 i) (fun k => ?_) (fun k i hi => ?_) (by omega)
    · simp only [FX6_valleyRanked_L2]
      rw [hm.v1, if_pos (Int32.le_refl _)]
    · simp only [FX6_valleyRanked_L2]
      rw [hm.v1, if_neg (le_nI hi (by omega)), gd_t (inI (by omega) (by omega)), nI_c (by omega), cnt i hi, bo1_s, nI_1]
      by_cases z : isum nv (fun j => if (w 1).2 (4 + j) 0 < (w 1).2 (4 + i) 0 then 1 else 0) = a1
      · rw [if_pos z, if_pos (decide_eq_true z)]
      · rw [if_neg z, if_neg (by rw [decide_eq_false z]; decide)]
  have e2 : FX13_valleyByName n w a1 = some (ff (fun i => decide (isum nv (fun j => if (w 1).2 (4 + j) 0 < (w 1).2 (4 + i) 0 then 1 else 0) = a1)) nv 0, cd w 0) := by
    have hl : ∀ k, nv < k → (FX13_valleyByName_L7 n k (cd w 0) a1 0).map Prod.fst = some (ff (fun i => decide (isum nv (fun j => if (w 1).2 (4 + j) 0 < (w 1).2 (4 + i) 0 then 1 else 0) = a1)) nv 0) := fun k hk => by
      refine loopX (L := fun k i => (FX13_valleyByName_L7 n k (cd w 0) a1 i).map Prod.fst) (fun k => ?_) (fun k i hi => ?_) hk
      · simp only [FX13_valleyByName_L7]
        rw [gd0, show (cd w 0 15).1 2 0 = nI nv from (congrFun (cd_row w 0) 0).trans hm.v0, if_pos (Int32.le_refl _)]
        rfl
      · simp only [FX13_valleyByName_L7]
        rw [gd0, show (cd w 0 15).1 2 0 = nI nv from (congrFun (cd_row w 0) 0).trans hm.v0, if_neg (le_nI hi (by omega)), ahd i hi, bo1_s, nI_1]
        by_cases z : isum nv (fun j => if (w 1).2 (4 + j) 0 < (w 1).2 (4 + i) 0 then 1 else 0) = a1
        · rw [if_pos z, if_pos (decide_eq_true z)]
          rfl
        · rw [if_neg z, if_neg (by rw [decide_eq_false z]; decide)]
    have hw : ∀ k (i : Int32) q, FX13_valleyByName_L7 n k (cd w 0) a1 i = some q → q.2 = cd w 0 := by
      intro k
      induction k with
      | zero => intro i q e; exact absurd e (by simp [FX13_valleyByName_L7])
      | succ k ih =>
        intro i q e
        simp only [FX13_valleyByName_L7] at e
        rw [gd0] at e
        by_cases z : (cd w 0 15).1 2 0 ≤ i
        · rw [if_pos z] at e
          rw [← Option.some.inj e]
        · rw [if_neg z] at e
          obtain ⟨x, -, e⟩ := bo1_e e
          by_cases z2 : x = a1
          · rw [if_pos z2] at e
            rw [← Option.some.inj e]
          · rw [if_neg z2] at e
            exact ih _ _ e
    unfold FX13_valleyByName
    rw [show sW w 15 (sI (w 15) 0 0 0) = cd w 0 from rfl, bnd_s]
    have h1 := hl n (by omega)
    rcases hz : FX13_valleyByName_L7 n n (cd w 0) a1 0 with _ | q
    · rw [hz] at h1
      exact absurd h1 (by simp)
    · rw [hz] at h1
      have h2 := hw n 0 q hz
      have h3 : q.1 = _ := Option.some.inj h1
      rw [← h3, ← h2]
  refine ⟨cd w 0, ?_, h.cd 0⟩
  unfold FLc_24 FX12_valleyByName
  rw [e1, bo1_s, bo1_s, e2, bo2_s]
  exact if_pos rfl
