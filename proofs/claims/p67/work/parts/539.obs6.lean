set_option maxHeartbeats 200000
/-! next events, measures, checks -/
theorem mn_e (a b : Int32) : (if b < a then b else a) = (if b ≤ a then b else a) := by
  simp only [Int32.lt_iff_toInt_lt, Int32.le_iff_toInt_le]
  by_cases h1 : b.toInt < a.toInt
  · rw [if_pos h1, if_pos (by omega)]
  · rw [if_neg h1]
    by_cases h2 : b.toInt ≤ a.toInt
    · rw [if_pos h2]
      exact Int32.toInt_inj.mp (by omega)
    · rw [if_neg h2]
def evI (r : Nat → Int32) (i : Nat) : Int32 := if endI r i ≤ retI r i then endI r i else retI r i
def evF (r : Nat → Int32) (a : Int32) (i : Nat) : Int32 := if decide (shF r i 6 = 0) = true then (if a = -1 then evI r i else if a ≤ evI r i then a else evI r i) else a
theorem cEvent {n : Nat} (hn : 100 ≤ n) {r : Nat → Int32} {M : MM} {nv nc ns : Nat} {bk : Nat → Nat} (hm : RelM M r nv nc ns bk) : FX6_secondOfNextEvent n M = some (foldI (evF r) ns (-1)) := by
  have hb := hm.bs
  unfold FX6_secondOfNextEvent
  refine loopF (L := fun k a i => FX6_secondOfNextEvent_L4 n k M a i) (g := some) (fun k a => ?_) (fun k a i hi => ?_) (by omega) (-1)
  · simp only [FX6_secondOfNextEvent_L4]
    rw [hm.s1, if_pos (Int32.le_refl _)]
  · simp only [FX6_secondOfNextEvent_L4]
    rw [hm.s1, if_neg (le_nI hi (by omega)), gd_t (inI (by omega) (by omega)), nI_c (by omega), nI_1, cRet (hm.ss i hi) hm.bv, bnd_s, cOpen (hm.ss i hi), bnd_s, cEnd (hm.ss i hi) hm.bc, mn_e]
    unfold evF
    rw [show (if endI r i ≤ retI r i then endI r i else retI r i) = evI r i from rfl]
    by_cases z : decide (shF r i 6 = 0) = true
    · rw [if_pos z, if_pos z]
      by_cases z1 : a = -1
      · rw [if_pos z1, if_pos z1]
      · rw [if_neg z1, if_neg z1]
        by_cases z2 : a ≤ evI r i
        · rw [if_pos z2, if_pos z2]
        · rw [if_neg z2, if_neg z2]
    · rw [if_neg z, if_neg z]
theorem rEvent {n : Nat} (hn : 100 ≤ n) {w : Wd} {M : MM} {nv nc ns : Nat} {bk : Nat → Nat} (hm : RelM M (row w) nv nc ns bk) : FX13_nextEvent n w = some (foldI (evF (row w)) ns (-1), cd w 0) := by
  have hb := hm.bs
  have hbv := hm.bv
  have hbc := hm.bc
  unfold FX13_nextEvent
  refine loopF (L := fun k a i => FX13_nextEvent_L4 n k w a i) (g := fun a => some (a, cd w 0)) (fun k a => ?_) (fun k a i hi => ?_) (by omega) (-1)
  · simp only [FX13_nextEvent_L4]
    rw [gd2, show (w 15).1 2 2 = nI ns from hm.s0, if_pos (Int32.le_refl _), told_e, bnd2_s]
  · obtain ⟨c, v, q1, q2, q3, q4, -⟩ := (hm.ss i hi).wh
    simp only [FX13_nextEvent_L4]
    rw [gd2, show (w 15).1 2 2 = nI ns from hm.s0, if_neg (le_nI hi (by omega)), nI_1, rOpen hm.s0 hb hi, bo1_s]
    unfold evF
    by_cases z : decide (shF (row w) i 6 = 0) = true
    · rw [if_pos z, if_pos z, rRet (v := v) (by omega) (by omega) q4, bo1_s, rEnd (c := c) (by omega) (by omega) q3, bo1_s, bnd_s, show FX13_smaller (retI (row w) i) (endI (row w) i) = evI (row w) i from rfl]
      by_cases z1 : a = -1
      · rw [if_pos z1, if_pos z1]
      · rw [if_neg z1, if_neg z1, bnd_s]
        rfl
    · rw [if_neg z, if_neg z]
theorem ob_44 {n : Nat} (hn : 1000 ≤ n) {w : Wd} (h : Good w) (a1 a2 a3 a4 a5 : Int32) : ∃ w9, FLc_44 n w a1 a2 a3 a4 a5 = some w9 ∧ Good w9 := by
  obtain ⟨nv, nc, ns, bk, hm⟩ := h.m
  refine ⟨cd w 0, ?_, h.cd 0⟩
  unfold FLc_44 FX12_nextEvent
  rw [cEvent (by omega) hm, bo1_s, bo1_s, rEvent (by omega) hm, bo2_s]
  exact if_pos rfl
-- sums
theorem isum_add (f g : Nat → Int32) : ∀ n, isum n f + isum n g = isum n (fun i => f i + g i)
  | 0 => rfl
  | n + 1 => by
    simp only [isum, ← isum_add f g n]
    rw [Int32.add_assoc, Int32.add_assoc]
    congr 1
    rw [← Int32.add_assoc, Int32.add_comm (f n), Int32.add_assoc]
theorem sub_back (a b : Int32) : a + (b - a) = b := by rw [Int32.add_comm, Int32.sub_add_cancel]
theorem rReturnsAll {n : Nat} (hn : 100 ≤ n) {w : Wd} {ns : Nat} (hs : row w 2 = nI ns) (hb : ns ≤ 30) : FX13_returnsAll n w = some (isum ns (fun i => shF (row w) i 7)) := by
  unfold FX13_returnsAll
  refine loopS (L := fun k a i => FX13_returnsAll_L4 n k w a i) (g := some) (fun k a => ?_) (fun k a i hi => ?_) (by omega)
  · simp only [FX13_returnsAll_L4]
    rw [gd2, show (w 15).1 2 2 = nI ns from hs, if_pos (Int32.le_refl _)]
  · simp only [FX13_returnsAll_L4]
    rw [gd2, show (w 15).1 2 2 = nI ns from hs, if_neg (le_nI hi (by omega)), rS7 (by omega), bo1_s, nI_1]
theorem rHeardAll {n : Nat} (hn : 100 ≤ n) {w : Wd} {ns : Nat} (hs : row w 2 = nI ns) (hb : ns ≤ 30) (hm : ∀ i, i < ns → ∃ mk, mk < 16 ∧ shF (row w) i 8 = nI mk) : FX13_heardAll n w = some (isum ns (fun i => bcI (shF (row w) i 8))) := by
  unfold FX13_heardAll
  refine loopS (L := fun k a i => FX13_heardAll_L4 n k w a i) (g := some) (fun k a => ?_) (fun k a i hi => ?_) (by omega)
  · simp only [FX13_heardAll_L4]
    rw [gd2, show (w 15).1 2 2 = nI ns from hs, if_pos (Int32.le_refl _)]
  · obtain ⟨mk, h1, h2⟩ := hm i hi
    simp only [FX13_heardAll_L4]
    rw [gd2, show (w 15).1 2 2 = nI ns from hs, if_neg (le_nI hi (by omega)), rS8 (by omega), bo1_s, nI_1, h2, rBits (by omega) h1, bo1_s, bcI_n h1]
theorem rg1 (a b c d : Int32) : a - (b + c) - d = a - b - d - c := by
  simp only [Int32.sub_sub]
  rw [Int32.add_assoc, Int32.add_comm c d, ← Int32.add_assoc]
theorem rg3 (x : Int32) : (if 0 ≤ x then x else 0 - x) = FX13_without x := by
  unfold FX13_without
  rw [Int32.zero_sub]
def unf (r : Nat → Int32) (i : Nat) : Int32 := if shF r i 6 = 1 then (if shF r i 3 ≤ shF r i 7 then 0 else 1) else 0
theorem ob_47 {n : Nat} (hn : 1000 ≤ n) {w : Wd} (h : Good w) (a1 a2 a3 a4 a5 : Int32) : ∃ w9, FLc_47 n w a1 a2 a3 a4 a5 = some w9 ∧ Good w9 := by
  obtain ⟨nv, nc, ns, bk, hm⟩ := h.m
  have hb := hm.bs
  have hbc := hm.bc
  have hh : FX13_heldAll n w = some (isum ns (lft (row w))) := rHeldAll hm.s0 hb (by omega)
  have e1 : FX13_costGap n w = some (FX13_without (isum ns (fun i => shF (row w) i 4 * shF (row w) i 3) - row w 4 - row w 5 - isum ns (lft (row w)))) := by
    unfold FX13_costGap
    refine loopS (L := fun k a i => FX13_costGap_L4 n k w a i) (g := fun a => some (FX13_without (a - row w 4 - row w 5 - isum ns (lft (row w))))) (fun k a => ?_) (fun k a i hi => ?_) (by omega)
    · simp only [FX13_costGap_L4]
      rw [gd2, show (w 15).1 2 2 = nI ns from hm.s0, if_pos (Int32.le_refl _), gd4, gd5, hh, bo1_s, bnd_s]
    · simp only [FX13_costGap_L4]
      rw [gd2, show (w 15).1 2 2 = nI ns from hm.s0, if_neg (le_nI hi (by omega)), rS4 (by omega), bo1_s, rS3 (by omega), bo1_s, nI_1]
  have e2 : FX13_moneyGap n w = some (FX13_without (row w 7 - isum nc (fun c => cuF (row w) c 1) - row w 4 - isum ns (lft (row w)))) := by
    unfold FX13_moneyGap
    refine loopS (L := fun k a i => FX13_moneyGap_L4 n k w a i) (g := fun a => some (FX13_without (row w 7 - a - row w 4 - isum ns (lft (row w))))) (fun k a => ?_) (fun k a i hi => ?_) (by omega)
    · simp only [FX13_moneyGap_L4]
      rw [gd1, show (w 15).1 2 1 = nI nc from hm.c0, if_pos (Int32.le_refl _), gd7, gd4, hh, bo1_s, bnd_s]
    · simp only [FX13_moneyGap_L4]
      rw [gd1, show (w 15).1 2 1 = nI nc from hm.c0, if_neg (le_nI hi (by omega)), rC1 (by omega), bo1_s, nI_1]
  have e3 : FX13_unfinished n w = some (isum ns (unf (row w))) := by
    unfold FX13_unfinished
    refine loopS (L := fun k a i => FX13_unfinished_L4 n k w a i) (g := some) (fun k a => ?_) (fun k a i hi => ?_) (by omega)
    · simp only [FX13_unfinished_L4]
      rw [gd2, show (w 15).1 2 2 = nI ns from hm.s0, if_pos (Int32.le_refl _)]
    · simp only [FX13_unfinished_L4]
      rw [gd2, show (w 15).1 2 2 = nI ns from hm.s0, if_neg (le_nI hi (by omega)), rS6 (by omega), bo1_s, nI_1]
      unfold unf
      by_cases z : shF (row w) i 6 = 1
      · rw [if_pos z, if_pos z, rS7 (by omega), bo1_s, rS3 (by omega), bo1_s]
        by_cases z1 : shF (row w) i 3 ≤ shF (row w) i 7
        · rw [if_pos z1, if_pos z1]; rfl
        · rw [if_neg z1, if_neg z1]; rfl
      · rw [if_neg z, if_neg z]; rfl
  have c2 : ∀ a b : Int32, FX6_brokenInvariants_L74 n n (w 1) a b 0 0 0 = some (FX13_without (a - row w 4 - row w 5 - isum ns (lft (row w))) + FX13_without (row w 7 - isum nc (fun c => cuF (row w) c 1) - row w 4 - isum ns (lft (row w))) + b) := by
    intro a b
    have hg : foldI (fun (x : Int32 × Int32) c => (x.1 + (w 1).1 (12 + c) 2, x.2 + (w 1).1 (12 + c) 3)) nc (0, 0) = (row w 7, isum nc (fun c => cuF (row w) c 1)) := by
      have H : ∀ m, m ≤ nc → foldI (fun (x : Int32 × Int32) c => (x.1 + (w 1).1 (12 + c) 2, x.2 + (w 1).1 (12 + c) 3)) m (0, 0) = (isum m (fun c => (w 1).1 (12 + c) 2), isum m (fun c => cuF (row w) c 1)) := by
        intro m
        induction m with
        | zero => exact fun _ => rfl
        | succ m ih =>
          intro hm2
          simp only [foldI, isum]
          rw [ih (by omega), (hm.cs m (by omega)).e3]
      rw [H nc (Nat.le_refl _), hm.frst]
    have hl := loopF (L := fun k (x : Int32 × Int32) i => FX6_brokenInvariants_L74 n k (w 1) a b x.1 x.2 i) (g := fun x => some (FX13_without (a - row w 4 - row w 5 - isum ns (lft (row w))) + FX13_without (x.1 - x.2 - row w 4 - isum ns (lft (row w))) + b)) (st := fun x c => (x.1 + (w 1).1 (12 + c) 2, x.2 + (w 1).1 (12 + c) 3)) (ns := nc) (fun k x => ?_) (fun k x i hi => ?_) (k := n) (by omega) (0, 0)
    · rw [hg] at hl
      exact hl
    · simp only [FX6_brokenInvariants_L74]
      rw [hm.c1, if_pos (Int32.le_refl _), hm.earn, hm.refd, hm.hold, rg3, rg3, rg1, ← Int32.sub_sub]
    · simp only [FX6_brokenInvariants_L74]
      rw [hm.c1, if_neg (le_nI hi (by omega)), gd_t (inI (by omega) (by omega)), gd_t (inI (by omega) (by omega)), nI_c (by omega), nI_1]
  have c1 : FX6_brokenInvariants n (w 1) = some (FX13_without (isum ns (fun i => shF (row w) i 4 * shF (row w) i 3) - row w 4 - row w 5 - isum ns (lft (row w))) + FX13_without (row w 7 - isum nc (fun c => cuF (row w) c 1) - row w 4 - isum ns (lft (row w))) + isum ns (unf (row w))) := by
    unfold FX6_brokenInvariants
    have hg : foldI (fun (x : Int32 × Int32) i => (x.1 + shF (row w) i 4 * shF (row w) i 3, x.2 + unf (row w) i)) ns (0, 0) = (isum ns (fun i => shF (row w) i 4 * shF (row w) i 3), isum ns (unf (row w))) := by
      have H : ∀ m, foldI (fun (x : Int32 × Int32) i => (x.1 + shF (row w) i 4 * shF (row w) i 3, x.2 + unf (row w) i)) m (0, 0) = (isum m (fun i => shF (row w) i 4 * shF (row w) i 3), isum m (unf (row w))) := by
        intro m
        induction m with
        | zero => rfl
        | succ m ih => simp only [foldI, isum]; rw [ih]
      exact H ns
    have hl := loopF (L := fun k (x : Int32 × Int32) i => FX6_brokenInvariants_L6 n k (w 1) x.1 x.2 i) (g := fun x => FX6_brokenInvariants_L74 n n (w 1) x.1 x.2 0 0 0) (st := fun x i => (x.1 + shF (row w) i 4 * shF (row w) i 3, x.2 + unf (row w) i)) (ns := ns) (fun k x => ?_) (fun k x i hi => ?_) (k := n) (by omega) (0, 0)
    · rw [hg] at hl
      exact hl.trans (c2 _ _)
    · simp only [FX6_brokenInvariants_L6]
      rw [hm.s1, if_pos (Int32.le_refl _)]
    · have hS := hm.ss i hi
      simp only [FX6_brokenInvariants_L6]
      unfold FX8_cost unf
      rw [hm.s1, if_neg (le_nI hi (by omega)), gd_t (inI (by omega) (by omega)), nI_c (by omega), nI_1, bnd_s, hS.e4, hS.e3, hS.e8, hS.e9]
      by_cases z : shF (row w) i 6 = 1
      · rw [if_pos z, if_pos z]
        by_cases z1 : shF (row w) i 3 ≤ shF (row w) i 7
        · rw [if_pos z1, if_pos z1]
        · rw [if_neg z1, if_neg z1]
      · rw [if_neg z, if_neg z]
  refine ⟨cd w 0, ?_, h.cd 0⟩
  unfold FLc_47 FX12_violations FX13_violations
  rw [c1, bo1_s, bo1_s, e1, bo1_s, e2, bo1_s, e3, bo1_s, told_e, bnd2_s, bo2_s]
  exact if_pos rfl

