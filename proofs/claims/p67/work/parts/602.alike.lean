set_option maxHeartbeats 200000
/-! THE LAW's WORLD and the reference's row; class and world alike -/
/-- the world holds the row's numbers -/
def WR (V : MM) (r : Nat → Int32) (nv nc ns : Nat) : Prop :=
  (∀ k, k < 8 → V.1 0 k = r k) ∧ (∀ v, v < nv → ∀ k, k < 6 → V.1 (2 + v) k = vaF r v k) ∧ (∀ c, c < nc → ∀ k, k < 4 → V.1 (11 + c) k = cuF r c k) ∧ (∀ i, i < ns → ∀ k, k < 9 → V.1 (20 + i) k = shF r i k)
/-- the names va, vb .. and ca, cb .. -/
def NM (r : Nat → Int32) (nv nc : Nat) : Prop :=
  (∀ v, v < nv → vaF r v 6 = nI (pk5 [22, v + 1] / 1048576) ∧ vaF r v 7 = nI (pk5 [22, v + 1] % 1048576)) ∧ (∀ c, c < nc → cuF r c 4 = nI (pk5 [3, c + 1] / 1048576) ∧ cuF r c 5 = nI (pk5 [3, c + 1] % 1048576))
theorem nm_ok {a v : Nat} (ha : 1 ≤ a ∧ a ≤ 26) (hv : v < 8) : okName [a, v + 1] := ⟨show 1 ≤ 2 by decide, show 2 ≤ 8 by decide, fun x hx => by
  rcases List.mem_cons.mp hx with rfl | hx
  · exact ha
  · rcases List.mem_cons.mp hx with rfl | hx
    · omega
    · cases hx⟩
theorem nm_let {v : Nat} (hv : v < 8) : FX12_letterOf (lN (pk8 [22, v + 1])) 1 = 97 + nI v := by
  revert hv
  revert v
  decide +kernel
section ALIKE
variable {n : Nat} {w : Wd} {r : Nat → Int32} {nv nc ns : Nat} {bk : Nat → Nat} {V : MM}
theorem wHeld (hn : 100 ≤ n) (hW : WR V r nv nc ns) (hs : r 2 = nI ns) (hb : ns ≤ 30) (x : Int32) : FW_held n V x = some (isum ns (fun i => if shF r i 6 = 0 then (if x < 0 then shF r i 4 * (shF r i 3 - shF r i 7) else if shF r i 0 = x then shF r i 4 * (shF r i 3 - shF r i 7) else 0) else 0)) := by
  have hs0 : V.1 0 2 = nI ns := (hW.1 2 (by decide)).trans hs
  unfold FW_held
  refine loopS (L := fun k a i => FW_held_L4 n k V x a i) (g := some) (fun k a => ?_) (fun k a i hi => ?_) (by omega)
  · simp only [FW_held_L4]
    rw [hs0, if_pos (Int32.le_refl _)]
  · have e := hW.2.2.2 i hi
    have g := inI (n := 30) (show i < 30 by omega) (by omega)
    simp only [FW_held_L4, FW_held_B41, FW_held_B71, FW_held_B72]
    rw [hs0, if_neg (le_nI hi (by omega)), gd_t g, gd_t g, nI_c (by omega), gd_t g, gd_t g, gd_t g, e 6 (by decide), e 0 (by decide), e 3 (by decide), e 4 (by decide), e 7 (by decide), nI_1]
    by_cases z : shF r i 6 = 0
    · rw [if_pos z, if_pos z]
      by_cases z1 : x < 0
      · rw [if_pos z1, if_pos z1]
      · rw [if_neg z1, if_neg z1]
        by_cases z2 : shF r i 0 = x
        · rw [if_pos z2, if_pos z2]
        · rw [if_neg z2, if_neg z2]
    · rw [if_neg z, if_neg z]
theorem wHeldAll (hn : 100 ≤ n) (hW : WR V r nv nc ns) (hs : r 2 = nI ns) (hb : ns ≤ 30) : FW_held n V (-1) = some (isum ns (lft r)) := by
  rw [wHeld hn hW hs hb]
  refine congrArg some (isum_congr fun i hi => ?_)
  unfold lft
  rw [if_pos (show (-1 : Int32) < 0 by decide)]
theorem wHeldOf (hn : 100 ≤ n) (hW : WR V r nv nc ns) (hs : r 2 = nI ns) (hb : ns ≤ 30) {c : Nat} (hc : c < 8) : FW_held n V (nI c) = some (isum ns (fun i => if shF r i 0 = nI c then lft r i else 0)) := by
  rw [wHeld hn hW hs hb]
  refine congrArg some (isum_congr fun i hi => ?_)
  unfold lft
  rw [if_neg (nI_pos (by omega))]
  by_cases z : shF r i 6 = 0
  · rw [if_pos z, if_pos z]
  · rw [if_neg z, if_neg z]
    split <;> rfl
theorem wDue (hW : WR V r nv nc ns) (hv : nv ≤ 8) {i v : Nat} (hi : i < ns) (h : v < nv) (h1 : shF r i 1 = nI v) : FW_due V (20 + i) = some (retI r i) := by
  have e := hW.2.2.2 i hi
  unfold FW_due retI
  rw [e 1 (by decide), e 5 (by decide), e 7 (by decide), h1, gd_t (inI (by omega) (by omega)), nI_c (by omega), hW.2.1 v h 0 (by decide)]
theorem wEnd (hW : WR V r nv nc ns) (hc : nc ≤ 8) {i c : Nat} (hi : i < ns) (h : c < nc) (h0 : shF r i 0 = nI c) : FW_end V (20 + i) = some (endI r i) := by
  have e := hW.2.2.2 i hi
  unfold FW_end endI
  rw [e 0 (by decide), e 5 (by decide), h0, gd_t (inI (by omega) (by omega)), nI_c (by omega), hW.2.2.1 c h 0 (by decide)]
theorem alike_3 (hm : RelM (w 1) r nv nc ns bk) (hW : WR V r nv nc ns) (r1 : (Wd × MM) → Int32 → Option Bool) (r2 : (Wd × MM) → Int32 → Option Bool) : ∀ (d i : Nat), i + d = ns → ∀ k, d < k → FQ_alike_L288 n r1 r2 k (w, V) (nI i) = some true := by
  have hb := hm.bs
  have hbv := hm.bv
  have hbc := hm.bc
  have hs0 : V.1 0 2 = nI ns := (hW.1 2 (by decide)).trans hm.s0
  intro d
  induction d with
  | zero =>
    intro i hi k hk
    have hi : i = ns := by omega
    subst hi
    obtain ⟨k, rfl⟩ : ∃ j, k = j + 1 := ⟨k - 1, by omega⟩
    simp only [FQ_alike_L288]
    rw [hs0, if_pos (Int32.le_refl _)]
  | succ d ih =>
    intro i hi k hk
    obtain ⟨k, rfl⟩ : ∃ j, k = j + 1 := ⟨k - 1, by omega⟩
    have hi2 : i < ns := by omega
    have ec := ih (i + 1) (by omega) k (by omega)
    have e := hW.2.2.2 i hi2
    obtain ⟨c, v, h1, h2, q0, q1, -⟩ := (hm.ss i hi2).wh
    obtain ⟨mk, m1, m2⟩ := (hm.ss i hi2).mark
    have eB : FJ6_bitCount_0f7a4 (V.1 (20 + i) 8) = bcI (shF r i 8) := by rw [e 8 (by decide), m2, cBits m1, bcI_n m1]
    simp only [FQ_alike_L288, FQ_alike_B389]
    rw [hs0, if_neg (le_nI hi2 (by omega)), gd_t (inI (by omega) (by omega)), nI_c (by omega), o_shoutCustomer hm hi2, o_shoutValley hm hi2, o_shoutState hm hi2, o_returns hm hi2, o_receipt hm hi2, o_nextReturn hm hi2, o_patienceEnds hm hi2, eB, e 0 (by decide), e 1 (by decide), e 6 (by decide), e 7 (by decide), e 4 (by decide), wDue hW hbv hi2 h2 q1, wEnd hW hbc hi2 h1 q0]
    simp only [bx1, bnd_s, bo1_s, if_true]
    by_cases z : shF r i 6 = 0
    · rw [if_pos z, if_pos z, if_pos rfl, nI_1]
      exact ec
    · rw [if_neg z, if_neg z, if_pos rfl, nI_1]
      exact ec
theorem alike_2 (hn : 100 ≤ n) (hm : RelM (w 1) r nv nc ns bk) (hW : WR V r nv nc ns) (r2 : (Wd × MM) → Int32 → Option Bool) : ∀ (d i : Nat), i + d = nc → ∀ k, d < k → FQ_alike_L186 n r2 k (w, V) (nI i) = some true := by
  have hb := hm.bs
  have hbv := hm.bv
  have hbc := hm.bc
  have hs0 : V.1 0 1 = nI nc := (hW.1 1 (by decide)).trans hm.c0
  intro d
  induction d with
  | zero =>
    intro i hi k hk
    have hi : i = nc := by omega
    subst hi
    obtain ⟨k, rfl⟩ : ∃ j, k = j + 1 := ⟨k - 1, by omega⟩
    simp only [FQ_alike_L186]
    rw [hs0, if_pos (Int32.le_refl _)]
    exact alike_3 hm hW _ _ ns 0 (by omega) n (by omega)
  | succ d ih =>
    intro i hi k hk
    obtain ⟨k, rfl⟩ : ∃ j, k = j + 1 := ⟨k - 1, by omega⟩
    have hi2 : i < nc := by omega
    have ec := ih (i + 1) (by omega) k (by omega)
    have e := hW.2.2.1 i hi2
    simp only [FQ_alike_L186, FQ_alike_B262]
    rw [hs0, if_neg (le_nI hi2 (by omega)), gd_t (inI (by omega) (by omega)), nI_c (by omega), o_patience hm hi2, o_money hm hi2, o_suspicion hm hi2, o_echoesHeard hm hi2, o_isAngry hm hi2, o_heldFor hm hi2, wHeldOf hn hW hm.s0 hb (by omega), e 0 (by decide), e 1 (by decide), e 2 (by decide), e 3 (by decide)]
    simp only [bx1, bnd_s, bo1_s, if_true]
    by_cases z : cuF r i 2 < 3
    · rw [if_pos (ang_le z), if_pos z, if_pos rfl, nI_1]
      exact ec
    · rw [if_neg (ang_gt z), if_neg z, if_pos rfl, nI_1]
      exact ec
theorem alike_1 (hn : 100 ≤ n) (hm : RelM (w 1) r nv nc ns bk) (hW : WR V r nv nc ns) (hN : NM r nv nc) : ∀ (d i : Nat), i + d = nv → ∀ k, d < k → FQ_alike_L93 n k (w, V) (nI i) = some true := by
  have hb := hm.bs
  have hbv := hm.bv
  have hbc := hm.bc
  have hs0 : V.1 0 0 = nI nv := (hW.1 0 (by decide)).trans hm.v0
  intro d
  induction d with
  | zero =>
    intro i hi k hk
    have hi : i = nv := by omega
    subst hi
    obtain ⟨k, rfl⟩ : ∃ j, k = j + 1 := ⟨k - 1, by omega⟩
    simp only [FQ_alike_L93]
    rw [hs0, if_pos (Int32.le_refl _)]
    exact alike_2 hn hm hW _ nc 0 (by omega) n (by omega)
  | succ d ih =>
    intro i hi k hk
    obtain ⟨k, rfl⟩ : ∃ j, k = j + 1 := ⟨k - 1, by omega⟩
    have hi2 : i < nv := by omega
    have ec := ih (i + 1) (by omega) k (by omega)
    have e := hW.2.1 i hi2
    simp only [FQ_alike_L93]
    rw [hs0, if_neg (le_nI hi2 (by omega)), gd_t (inI (by omega) (by omega)), nI_c (by omega), o_width hm hi2, o_walls hm hi2, o_price hm hi2, o_rating hm hi2, o_echoesLost hm hi2, o_valleyByte hm hi2 (nm_ok (by omega) (by omega)) (hN.1 i hi2).1 (hN.1 i hi2).2, nm_let (by omega), e 0 (by decide), e 1 (by decide), e 2 (by decide), e 4 (by decide), e 5 (by decide), nI_1]
    simp only [bx1, if_true]
    exact ec
theorem alike_ok (hn : 100 ≤ n) (hm : RelM (w 1) r nv nc ns bk) (hW : WR V r nv nc ns) (hN : NM r nv nc) : FQ_alike n (w, V) = some true := by
  unfold FQ_alike FX12_valleyCount FX12_customerCount FX12_shoutCount FX12_time FX12_earned FX12_refunded FX12_held FX12_wellDepth
  have e := hW.1
  simp only [bnd_s]
  rw [e 0 (by decide), e 1 (by decide), e 2 (by decide), e 3 (by decide), e 4 (by decide), e 5 (by decide), e 6 (by decide), hm.v1, hm.c1, hm.s1, hm.time, hm.earn, hm.refd, hm.hold, hm.depth, hm.v0, hm.c0, hm.s0, wHeldAll hn hW hm.s0 hm.bs]
  simp only [bo1_s, if_true]
  exact alike_1 hn hm hW hN nv 0 (by omega) n (by have := hm.bv; omega)
end ALIKE
