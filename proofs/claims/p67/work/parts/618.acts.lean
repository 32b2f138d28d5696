set_option maxHeartbeats 400000
/-! ONE ACT: numbers picked, and what each act does to world and class -/
theorem nI_div {a b : Nat} (ha : a < 2 ^ 31) (hb : b < 2 ^ 31) : nI a / nI b = nI (a / b) := by
  apply Int32.toInt_inj.mp
  have hd : a / b < 2 ^ 31 := Nat.lt_of_le_of_lt (Nat.div_le_self a b) ha
  rw [Int32.toInt_div, nI_toInt ha, nI_toInt hb, nI_toInt hd]
  show (((a / b : Nat) : Int)).bmod (2 ^ 32) = _
  generalize a / b = q at hd
  exact Int.bmod_eq_of_le (by omega) (by omega)
theorem nI_mod {a b : Nat} (ha : a < 2 ^ 31) (hb : b < 2 ^ 31) : nI a - nI a / nI b * nI b = nI (a % b) := by
  rw [nI_div ha hb, nI_mul, nI_sub (Nat.div_mul_le_self a b)]
  congr 1
  have h1 := Nat.div_add_mod a b
  rw [Nat.mul_comm] at h1
  omega
theorem and_max (x : Int32) : ∃ y, y < 2 ^ 31 ∧ x &&& 2147483647 = nI y := by
  have h : (x &&& 2147483647).toBitVec.toNat < 2 ^ 31 := by
    rw [Int32.toBitVec_and, BitVec.toNat_and]
    have e2 : (2147483647 : Int32).toBitVec.toNat = 2 ^ 31 - 1 := by decide
    rw [e2, Nat.and_two_pow_sub_one_eq_mod]
    omega
  refine ⟨(x &&& 2147483647).toBitVec.toNat, h, ?_⟩
  apply Int32.toBitVec_inj.mp
  apply BitVec.eq_of_toNat_eq
  show _ = (BitVec.ofNat 32 _).toNat
  rw [BitVec.toNat_ofNat]
  omega
theorem pick_ok (N : Nat) (hN : N ≤ 3000) (f : Nat → Int32) {p m : Nat} (hp : p < 3000) (m1 : 1 ≤ m) (m2 : m < 2 ^ 31) : ∃ q, FQ_pick N f (nI p) (nI m) = some (nI q) ∧ q < m ∧ q < 2 ^ 31 := by
  obtain ⟨x, hx⟩ : ∃ x, FQ_cell N f (nI p) = some x := by
    unfold FQ_cell
    by_cases z : nI N ≤ nI p
    · rw [if_pos z]; exact ⟨_, rfl⟩
    · rw [if_neg z]
      have : p < N := by
        by_cases h : N ≤ p
        · exact absurd ((nI_lei (by omega) (by omega)).mpr h) z
        · omega
      rw [gd_t (inI this hN)]; exact ⟨_, rfl⟩
  obtain ⟨y, y1, y2⟩ := and_max x
  refine ⟨y % m, ?_, Nat.mod_lt _ (by omega), by have := Nat.mod_lt y (show m > 0 by omega); omega⟩
  unfold FQ_pick
  rw [hx, bo1_s, y2, nI_mod y1 m2]
  have : (!decide (nI m = 0)) = true := by
    rw [decide_eq_false (show ¬ nI m = 0 from nI_ne (a := m) (b := 0) (by omega) m2 (by decide))]; rfl
  rw [gd_t this]
/-- what holds between two acts -/
def AI (z : Wd × MM) (t : Nat) : Prop := ∃ nv nc ns s, Good z.1 ∧ TW z.2 z.1 nv nc ns ∧ (z.1 10).1 0 6 = 0 ∧ row z.1 3 = nI s ∧ s ≤ t
theorem AI.le {z : Wd × MM} {t t' : Nat} (h : AI z t) (ht : t ≤ t') : AI z t' := by
  obtain ⟨nv, nc, ns, s, h1, h2, h3, h4, h5⟩ := h
  exact ⟨nv, nc, ns, s, h1, h2, h3, h4, by omega⟩
section ACTS1
variable {n : Nat} {z : Wd × MM} {t : Nat}
theorem pa_ok (hn : 2500 ≤ n) (h : AI z t) {s : Nat} (s1 : 1 ≤ s) (s2 : s ≤ 240) (hl : t + s ≤ 9999) : ∃ z2, (bx2 (FX12_pass n z.1 (nI s)) fun x w => gh (FLc_58 n z.1 (nI s) 0 0 0 0) w fun w9 => bnd (w9, z.2) fun z' => bo2 (FW_pass n z'.2 (nI s)) fun y M => bnd (z'.1, M) fun z'' => if x = y then some (true, z'') else some (false, z'')) = some (true, z2) ∧ AI z2 (t + s) := by
  obtain ⟨nv, nc, ns, s0, h1, h2, h3, h4, h5⟩ := h
  obtain ⟨x, w', w9, V', e1, e2, e3, e4, e5, e6, e7⟩ := st_pass hn h1 h2 h4 s1 s2 (by omega)
  refine ⟨(w9, V'), ?_, nv, nc, ns, s0 + s, e4.1, e6, (congrArg (fun M : MM => M.1 0 6) e4.2).trans h3, e7, by omega⟩
  rw [e1, bx2_s, e2, gh_t e3, bnd_s, e5, bo2_s, bnd_s, if_pos rfl]
theorem can_ok (hn : 2500 ≤ n) {nv nc ns i : Nat} (h1 : Good z.1) (h2 : TW z.2 z.1 nv nc ns) (h3 : (z.1 10).1 0 6 = 0) {s : Nat} (h4 : row z.1 3 = nI s) (h5 : s ≤ t) (hi : i < ns) (ho : shF (row z.1) i 6 = 0) : ∃ z2, (bx2 (FX12_cancel n z.1 (nI i)) fun x w => gh (FLc_53 n z.1 (nI i) 0 0 0 0) w fun w9 => bnd (w9, z.2) fun z' => bo2 (FW_cancel z'.2 (nI i)) fun y M => bnd (z'.1, M) fun z'' => if x = y then some (true, z'') else some (false, z'')) = some (true, z2) ∧ AI z2 t := by
  obtain ⟨x, w', w9, V', e1, e2, e3, e4, e5, e6, e7⟩ := st_cancel hn h1 h2 hi ho
  refine ⟨(w9, V'), ?_, nv, nc, ns, s, e4.1, e6, (congrArg (fun M : MM => M.1 0 6) e4.2).trans h3, e7.trans h4, h5⟩
  rw [e1, bx2_s, e2, gh_t e3, bnd_s, e5, bo2_s, bnd_s, if_pos rfl]
theorem fak_ok (hn : 2500 ≤ n) {nv nc ns i : Nat} (h1 : Good z.1) (h2 : TW z.2 z.1 nv nc ns) (h3 : (z.1 10).1 0 6 = 0) {s : Nat} (h4 : row z.1 3 = nI s) (h5 : s ≤ t) (hi : i < ns) (ho : shF (row z.1) i 6 = 0) : ∃ z2, (bx2 (FX12_fake n z.1 (nI i)) fun x w => gh (FLc_54 n z.1 (nI i) 0 0 0 0) w fun w9 => bnd (w9, z.2) fun z' => bo2 (FW_fake n z'.2 (nI i)) fun y M => bnd (z'.1, M) fun z'' => if x = y then some (true, z'') else some (false, z'')) = some (true, z2) ∧ AI z2 t := by
  obtain ⟨x, w', w9, V', e1, e2, e3, e4, e5, e6, e7⟩ := st_fake hn h1 h2 hi ho
  refine ⟨(w9, V'), ?_, nv, nc, ns, s, e4.1, e6, (congrArg (fun M : MM => M.1 0 6) e4.2).trans h3, e7.trans h4, h5⟩
  rw [e1, bx2_s, e2, gh_t e3, bnd_s, e5, bo2_s, bnd_s, if_pos rfl]
theorem sho_ok (hn : 2500 ≤ n) {nv nc ns : Nat} (h1 : Good z.1) (h2 : TW z.2 z.1 nv nc ns) (h3 : (z.1 10).1 0 6 = 0) {s : Nat} (h4 : row z.1 3 = nI s) (h5 : s ≤ t) {c v lo od : Nat} (hc : c < nc) (hv : v < nv) (l1 : 1 ≤ lo) (l2 : lo ≤ 20) (o1 : 1 ≤ od) (o2 : od ≤ 4) (hw : whyF (row z.1) ns c v (nI od) = 0) : ∃ z2, (bx2 (FX12_shout n z.1 (nI c) (nI v) (nI lo) (nI od)) fun x w => gh (FLc_52 n z.1 (nI c) (nI v) (nI lo) (nI od) 0) w fun w9 => bnd (w9, z.2) fun z' => bo2 (FW_sell z'.2 (nI c) (nI v) (nI lo) (nI od)) fun y M => bnd (z'.1, M) fun z'' => if x = y then some (true, z'') else some (false, z'')) = some (true, z2) ∧ AI z2 t := by
  obtain ⟨w', w9, V', e1, e2, e3, e4, e5, e6, e7, e8⟩ := st_shout hn h1 h2 hc hv l1 l2 o1 o2 hw
  refine ⟨(w9, V'), ?_, nv, nc, ns + 1, s, e4.1, e6, (congrArg (fun M : MM => M.1 0 6) e4.2).trans h3, e7.trans h4, h5⟩
  rw [e1, bx2_s, e2, gh_t e3, bnd_s, e5, bo2_s, bnd_s, if_pos rfl]
end ACTS1
