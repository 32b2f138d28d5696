set_option maxHeartbeats 200000
/-! THE CLASS's ANSWERS, by the relation of its market to a row -/
theorem pkn_inj {p q : List Nat} (hp : okName p) (hq : okName q) (e1 : nI (pk5 p / 1048576) = nI (pk5 q / 1048576)) (e2 : nI (pk5 p % 1048576) = nI (pk5 q % 1048576)) : p = q := by
  have h1 := (pk5_bd hp).2.2.1
  have h2 := (pk5_bd hq).2.2.1
  have f1 := (nI_eq (by omega) (by omega)).mp e1
  have f2 := (nI_eq (by omega) (by omega)).mp e2
  exact pk5_inj hp hq (by omega)
section CLS
variable {n : Nat} {w : Wd} {r : Nat → Int32} {nv nc ns : Nat} {bk : Nat → Nat}
theorem vOk (hm : RelM (w 1) r nv nc ns bk) {j : Nat} (hj : j < nv) : FX12_valleyAt w (nI j) = some (.ok (4 + j)) := by
  have hb := hm.bv
  unfold FX12_valleyAt FX6_hasValley
  rw [hm.v1]
  simp only [bnd_s]
  rw [wi_nI hj (by omega)]
  show gd (inb (nI j) 8) _ = _
  rw [gd_t (inI (by omega) (by omega)), nI_c (by omega)]
theorem cOk (hm : RelM (w 1) r nv nc ns bk) {j : Nat} (hj : j < nc) : FX12_customerAt w (nI j) = some (.ok (12 + j)) := by
  have hb := hm.bc
  unfold FX12_customerAt FX6_hasCustomer
  rw [hm.c1]
  simp only [bnd_s]
  rw [wi_nI hj (by omega)]
  show gd (inb (nI j) 8) _ = _
  rw [gd_t (inI (by omega) (by omega)), nI_c (by omega)]
theorem sOk (hm : RelM (w 1) r nv nc ns bk) {j : Nat} (hj : j < ns) : FX12_shoutAt w (nI j) = some (.ok (20 + j)) := by
  have hb := hm.bs
  unfold FX12_shoutAt FX6_hasShout
  rw [hm.s1]
  simp only [bnd_s]
  rw [wi_nI hj (by omega)]
  show gd (inb (nI j) 30) _ = _
  rw [gd_t (inI (by omega) (by omega)), nI_c (by omega)]
theorem o_width (hm : RelM (w 1) r nv nc ns bk) {j : Nat} (hj : j < nv) : FX12_width w (nI j) = some (.ok (vaF r j 0)) := by
  have hb := hm.bv
  unfold FX12_width
  rw [vOk hm hj, xo_s, gd_t (by simp; omega), (hm.vs j hj).e1]
theorem o_walls (hm : RelM (w 1) r nv nc ns bk) {j : Nat} (hj : j < nv) : FX12_walls w (nI j) = some (.ok (vaF r j 1)) := by
  have hb := hm.bv
  unfold FX12_walls
  rw [vOk hm hj, xo_s, gd_t (by simp; omega), (hm.vs j hj).e2]
theorem o_price (hm : RelM (w 1) r nv nc ns bk) {j : Nat} (hj : j < nv) : FX12_price w (nI j) = some (.ok (vaF r j 2)) := by
  have hb := hm.bv
  unfold FX12_price
  rw [vOk hm hj, xo_s, gd_t (by simp; omega), (hm.vs j hj).e3]
theorem o_rating (hm : RelM (w 1) r nv nc ns bk) {j : Nat} (hj : j < nv) : FX12_rating w (nI j) = some (.ok (vaF r j 4)) := by
  have hb := hm.bv
  unfold FX12_rating
  rw [vOk hm hj, xo_s, gd_t (by simp; omega), (hm.vs j hj).e5]
theorem o_echoesLost (hm : RelM (w 1) r nv nc ns bk) {j : Nat} (hj : j < nv) : FX12_echoesLost w (nI j) = some (.ok (vaF r j 5)) := by
  have hb := hm.bv
  unfold FX12_echoesLost
  rw [vOk hm hj, xo_s, gd_t (by simp; omega), (hm.vs j hj).e7]
theorem o_patience (hm : RelM (w 1) r nv nc ns bk) {j : Nat} (hj : j < nc) : FX12_patience w (nI j) = some (.ok (cuF r j 0)) := by
  have hb := hm.bc
  unfold FX12_patience
  rw [cOk hm hj, xo_s, gd_t (by simp; omega), (hm.cs j hj).e1]
theorem o_money (hm : RelM (w 1) r nv nc ns bk) {j : Nat} (hj : j < nc) : FX12_money w (nI j) = some (.ok (cuF r j 1)) := by
  have hb := hm.bc
  unfold FX12_money
  rw [cOk hm hj, xo_s, gd_t (by simp; omega), (hm.cs j hj).e3]
theorem o_suspicion (hm : RelM (w 1) r nv nc ns bk) {j : Nat} (hj : j < nc) : FX12_suspicion w (nI j) = some (.ok (cuF r j 2)) := by
  have hb := hm.bc
  unfold FX12_suspicion
  rw [cOk hm hj, xo_s, gd_t (by simp; omega), (hm.cs j hj).e4]
theorem o_echoesHeard (hm : RelM (w 1) r nv nc ns bk) {j : Nat} (hj : j < nc) : FX12_echoesHeard w (nI j) = some (.ok (cuF r j 3)) := by
  have hb := hm.bc
  unfold FX12_echoesHeard
  rw [cOk hm hj, xo_s, gd_t (by simp; omega), (hm.cs j hj).e6]
theorem o_shoutCustomer (hm : RelM (w 1) r nv nc ns bk) {j : Nat} (hj : j < ns) : FX12_shoutCustomer w (nI j) = some (.ok (shF r j 0)) := by
  have hb := hm.bs
  unfold FX12_shoutCustomer
  rw [sOk hm hj, xo_s, gd_t (by simp; omega), (hm.ss j hj).e0]
theorem o_shoutValley (hm : RelM (w 1) r nv nc ns bk) {j : Nat} (hj : j < ns) : FX12_shoutValley w (nI j) = some (.ok (shF r j 1)) := by
  have hb := hm.bs
  unfold FX12_shoutValley
  rw [sOk hm hj, xo_s, gd_t (by simp; omega), (hm.ss j hj).e1]
theorem o_shoutState (hm : RelM (w 1) r nv nc ns bk) {j : Nat} (hj : j < ns) : FX12_shoutState w (nI j) = some (.ok (shF r j 6)) := by
  have hb := hm.bs
  unfold FX12_shoutState
  rw [sOk hm hj, xo_s, gd_t (by simp; omega), (hm.ss j hj).e8]
theorem o_returns (hm : RelM (w 1) r nv nc ns bk) {j : Nat} (hj : j < ns) : FX12_returns w (nI j) = some (.ok (shF r j 7)) := by
  have hb := hm.bs
  unfold FX12_returns
  rw [sOk hm hj, xo_s, gd_t (by simp; omega), (hm.ss j hj).e9]
theorem o_heldFor (hm : RelM (w 1) r nv nc ns bk) {j : Nat} (hj : j < nc) : FX12_heldFor w (nI j) = some (.ok (isum ns (fun i => if shF r i 0 = nI j then lft r i else 0))) := by
  have hb := hm.bc
  unfold FX12_heldFor
  rw [cOk hm hj, xo_s, gd_t (by simp; omega), (hm.cs j hj).e5]
theorem o_isAngry (hm : RelM (w 1) r nv nc ns bk) {j : Nat} (hj : j < nc) : FX12_isAngry w (nI j) = some (.ok (if cuF r j 2 < 3 then false else true)) := by
  have hb := hm.bc
  unfold FX12_isAngry
  rw [cOk hm hj, xo_s, gd_t (by simp; omega), cAngry (hm.cs j hj).e4, bnd_s]
theorem o_receipt (hm : RelM (w 1) r nv nc ns bk) {j : Nat} (hj : j < ns) : FX12_receipt w (nI j) = some (.ok (shF r j 4 * bcI (shF r j 8))) := by
  have hb := hm.bs
  unfold FX12_receipt
  rw [sOk hm hj, xo_s, gd_t (by simp; omega)]
  obtain ⟨mk, q1, q2⟩ := (hm.ss j hj).mark
  rw [bnd_s]
  unfold FX8_earnings
  rw [(hm.ss j hj).e10, q2, cBits q1, bnd_s, (hm.ss j hj).e4, bcI_n q1]
theorem o_patienceEnds (hm : RelM (w 1) r nv nc ns bk) {j : Nat} (hj : j < ns) : FX12_patienceEnds w (nI j) = some (.ok (endI r j)) := by
  have hb := hm.bs
  unfold FX12_patienceEnds
  rw [sOk hm hj, xo_s, gd_t (by simp; omega)]
  rw [cEnd (hm.ss j hj) hm.bc]
theorem o_nextReturn (hm : RelM (w 1) r nv nc ns bk) {j : Nat} (hj : j < ns) : FX12_nextReturn w (nI j) = some (.ok (if shF r j 6 = 0 then retI r j else -1)) := by
  have hb := hm.bs
  unfold FX12_nextReturn
  rw [sOk hm hj, xo_s, gd_t (by simp; omega)]
  rw [cOpen (hm.ss j hj), bnd_s, cRet (hm.ss j hj) hm.bv, bnd_s]
  by_cases z : shF r j 6 = 0
  · rw [decide_eq_true z, if_pos rfl, if_pos z]
  · rw [decide_eq_false z, if_neg (by decide), if_neg z]
theorem o_finalState (hm : RelM (w 1) r nv nc ns bk) {j : Nat} (hj : j < ns) : ∃ c v, c < nc ∧ v < nv ∧ shF r j 0 = nI c ∧ shF r j 1 = nI v ∧ FX12_finalState w (nI j) = some (.ok (if shF r j 6 = 0 then (if cuF r c 0 < vaF r v 0 * shF r j 3 then 2 else 1) else shF r j 6)) := by
  have hb := hm.bs
  have hS := hm.ss j hj
  obtain ⟨c, v, h1, h2, q0, q1, q2⟩ := hS.en hm.vs hm.cs
  refine ⟨c, v, h1, h2, q0, q1, ?_⟩
  unfold FX12_finalState FX8_stateInTheEnd FX8_secondOf
  rw [sOk hm hj, xo_s, gd_t (by simp; omega), bnd_s, cOpen hS, bnd_s, bnd_s, hS.e8]
  by_cases z : shF r j 6 = 0
  · rw [decide_eq_true z, if_pos rfl, if_pos z]
    by_cases z1 : cuF r c 0 < vaF r v 0 * shF r j 3
    · rw [if_pos z1, if_pos (q2.mpr z1)]
    · rw [if_neg z1, if_neg (fun e => z1 (q2.mp e))]
  · rw [decide_eq_false z, if_neg (by decide), if_neg z]
theorem o_valleyByte (hm : RelM (w 1) r nv nc ns bk) {j : Nat} (hj : j < nv) {ls : List Nat} (hl : okName ls) (h6 : vaF r j 6 = nI (pk5 ls / 1048576)) (h7 : vaF r j 7 = nI (pk5 ls % 1048576)) (a : Int32) : FX12_valleyByte w (nI j) a = some (.ok (FX12_letterOf (lN (pk8 ls)) a)) := by
  have hb := hm.bv
  obtain ⟨l2, q1, q2, q3, q4⟩ := (hm.vs j hj).name
  have e : l2 = ls := pkn_inj q1 hl (q3.symm.trans h6) (q4.symm.trans h7)
  subst e
  unfold FX12_valleyByte
  rw [vOk hm hj, xo_s, gd_t (decide_eq_true (by omega)), show (w 1).2 (4 + j) 0 = lN (pk8 l2) from q2, bnd_s]
theorem o_openShouts (hn : 100 ≤ n) (hm : RelM (w 1) r nv nc ns bk) : FX12_openShouts n w = some (isum ns (fun i => if shF r i 6 = 0 then 1 else 0)) := by
  unfold FX12_openShouts
  rw [cOpenInAll hm.s1 hm.bs (by have := hm.bs; omega) (fun i hi => (hm.ss i hi).e8), bo1_s]
theorem o_nextEvent (hn : 100 ≤ n) (hm : RelM (w 1) r nv nc ns bk) : FX12_nextEvent n w = some (foldI (evF r) ns (-1)) := by
  unfold FX12_nextEvent
  rw [cEvent hn hm, bo1_s]
theorem o_violations (hn : 100 ≤ n) (hm : RelM (w 1) r nv nc ns bk) : FX12_violations n w = some (FX13_without (isum ns (fun i => shF r i 4 * shF r i 3) - r 4 - r 5 - isum ns (lft r)) + FX13_without (r 7 - isum nc (fun c => cuF r c 1) - r 4 - isum ns (lft r)) + isum ns (unf r)) := by
  have hb := hm.bs
  have hbc := hm.bc
  have c2 : ∀ a b : Int32, FX6_brokenInvariants_L74 n n (w 1) a b 0 0 0 = some (FX13_without (a - r 4 - r 5 - isum ns (lft r)) + FX13_without (r 7 - isum nc (fun c => cuF r c 1) - r 4 - isum ns (lft r)) + b) := by
    intro a b
    have hg : foldI (fun (x : Int32 × Int32) c => (x.1 + (w 1).1 (12 + c) 2, x.2 + (w 1).1 (12 + c) 3)) nc (0, 0) = (r 7, isum nc (fun c => cuF r c 1)) := by
      have H : ∀ m, m ≤ nc → foldI (fun (x : Int32 × Int32) c => (x.1 + (w 1).1 (12 + c) 2, x.2 + (w 1).1 (12 + c) 3)) m (0, 0) = (isum m (fun c => (w 1).1 (12 + c) 2), isum m (fun c => cuF r c 1)) := by
        intro m
        induction m with
        | zero => exact fun _ => rfl
        | succ m ih =>
          intro hm2
          simp only [foldI, isum]
          rw [ih (by omega), (hm.cs m (by omega)).e3]
      rw [H nc (Nat.le_refl _), hm.frst]
    have hl := loopF (L := fun k (x : Int32 × Int32) i => FX6_brokenInvariants_L74 n k (w 1) a b x.1 x.2 i) (g := fun x => some (FX13_without (a - r 4 - r 5 - isum ns (lft r)) + FX13_without (x.1 - x.2 - r 4 - isum ns (lft r)) + b)) (st := fun x c => (x.1 + (w 1).1 (12 + c) 2, x.2 + (w 1).1 (12 + c) 3)) (ns := nc) (fun k x => ?_) (fun k x i hi => ?_) (k := n) (by omega) (0, 0)
    · rw [hg] at hl
      exact hl
    · simp only [FX6_brokenInvariants_L74]
      rw [hm.c1, if_pos (Int32.le_refl _), hm.earn, hm.refd, hm.hold, rg3, rg3, rg1, ← Int32.sub_sub]
    · simp only [FX6_brokenInvariants_L74]
      rw [hm.c1, if_neg (le_nI hi (by omega)), gd_t (inI (by omega) (by omega)), gd_t (inI (by omega) (by omega)), nI_c (by omega), nI_1]
  have c1 : FX6_brokenInvariants n (w 1) = some (FX13_without (isum ns (fun i => shF r i 4 * shF r i 3) - r 4 - r 5 - isum ns (lft r)) + FX13_without (r 7 - isum nc (fun c => cuF r c 1) - r 4 - isum ns (lft r)) + isum ns (unf r)) := by
    unfold FX6_brokenInvariants
    have hg : foldI (fun (x : Int32 × Int32) i => (x.1 + shF r i 4 * shF r i 3, x.2 + unf r i)) ns (0, 0) = (isum ns (fun i => shF r i 4 * shF r i 3), isum ns (unf r)) := by
      have H : ∀ m, foldI (fun (x : Int32 × Int32) i => (x.1 + shF r i 4 * shF r i 3, x.2 + unf r i)) m (0, 0) = (isum m (fun i => shF r i 4 * shF r i 3), isum m (unf r)) := by
        intro m
        induction m with
        | zero => rfl
        | succ m ih => simp only [foldI, isum]; rw [ih]
      exact H ns
    have hl := loopF (L := fun k (x : Int32 × Int32) i => FX6_brokenInvariants_L6 n k (w 1) x.1 x.2 i) (g := fun x => FX6_brokenInvariants_L74 n n (w 1) x.1 x.2 0 0 0) (st := fun x i => (x.1 + shF r i 4 * shF r i 3, x.2 + unf r i)) (ns := ns) (fun k x => ?_) (fun k x i hi => ?_) (k := n) (by omega) (0, 0)
    · rw [hg] at hl
      exact hl.trans (c2 _ _)
    · simp only [FX6_brokenInvariants_L6]
      rw [hm.s1, if_pos (Int32.le_refl _)]
    · have hS := hm.ss i hi
      simp only [FX6_brokenInvariants_L6]
      unfold FX8_cost unf
      rw [hm.s1, if_neg (le_nI hi (by omega)), gd_t (inI (by omega) (by omega)), nI_c (by omega), nI_1, bnd_s, hS.e4, hS.e3, hS.e8, hS.e9]
      by_cases z : shF r i 6 = 1
      · rw [if_pos z, if_pos z]
        by_cases z1 : shF r i 3 ≤ shF r i 7
        · rw [if_pos z1, if_pos z1]
        · rw [if_neg z1, if_neg z1]
      · rw [if_neg z, if_neg z]
  unfold FX12_violations
  rw [c1, bo1_s]
end CLS
