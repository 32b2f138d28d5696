set_option maxHeartbeats 400000
/-! MONEY: the sums stay, echo by echo, cancelling by cancelling -/
/-- what customers hold and what is held for them, as numbers -/
def MO (r : Nat → Int32) (nc ns : Nat) : Prop := ∃ m L : Nat → Nat, (∀ c, c < nc → cuF r c 1 = nI (m c)) ∧ (∀ i, i < ns → lft r i = nI (L i)) ∧ nsum nc m + nsum ns L ≤ 9999 * nc
def EM (r : Nat → Int32) (nc ns : Nat) : Prop :=
  isum ns (fun i => shF r i 4 * shF r i 3) - r 4 - r 5 - isum ns (lft r) = 0 ∧
  r 7 - isum nc (fun c => cuF r c 1) - r 4 - isum ns (lft r) = 0 ∧
  isum ns (fun i => shF r i 4 * bcI (shF r i 8)) = r 4 ∧ MO r nc ns
/-- angry customers have no open shouts -/
def DA (r : Nat → Int32) (nc ns : Nat) : Prop := ∀ i, i < ns → shF r i 6 = 0 → ∀ c, c < nc → shF r i 0 = nI c → cuF r c 2 < 3
theorem nsum_ge {n c : Nat} {f : Nat → Nat} (h : c < n) : f c ≤ nsum n f := by
  induction n with
  | zero => omega
  | succ n ih =>
    simp only [nsum]
    by_cases e : c = n
    · subst e; omega
    · have := ih (by omega)
      omega
theorem EM.ex {r : Nat → Int32} {nc ns : Nat} (h : EM r nc ns) (hD : DA r nc ns) (bc : nc ≤ 8) : EX r nc ns := by
  obtain ⟨a, b, c, m, L, m1, m2, m3⟩ := h
  refine ⟨a, b, c, hD, fun c hc => ?_⟩
  have := nsum_ge (f := m) hc
  rw [m1 c hc]
  exact nI_pos (by omega)
theorem nI_mul (a b : Nat) : nI a * nI b = nI (a * b) := pk_mul a b
section MONEY
variable {r r' : Nat → Int32} {nc ns i c v ea od b mk : Nat} {bb : Bool}
theorem lft_same {j : Nat} (h : ∀ k, k < 9 → shF r' j k = shF r j k) : lft r' j = lft r j := by
  unfold lft
  rw [h 6 (by decide), h 4 (by decide), h 3 (by decide), h 7 (by decide)]
theorem em_echo (hE : EM r nc ns) (bc : nc ≤ 8) (bs : ns ≤ 30) (hi : i < ns) (hc : c < nc) (h3 : shF r i 3 = nI od) (h4 : shF r i 4 = nI ea) (h7 : shF r i 7 = nI b) (h8 : shF r i 8 = nI mk) (hmk : mk < 2 ^ b) (hb : b < od) (hod : od ≤ 4) (hea : ea ≤ 99) (ho : shF r i 6 = 0) (hS : EcS r r' i c v bb) : EM r' nc ns := by
  obtain ⟨eA, eB, eC, m, L, m1, m2, m3⟩ := hE
  obtain ⟨s0, s1, s2, s3⟩ := hS
  have g4 : shF r' i 4 = shF r i 4 := by rw [s3 i (by omega) 4 (by decide), if_neg (by omega), if_neg (by omega), if_neg (by omega)]
  have g3 : shF r' i 3 = shF r i 3 := by rw [s3 i (by omega) 3 (by decide), if_neg (by omega), if_neg (by omega), if_neg (by omega)]
  have g7 : shF r' i 7 = nI (b + 1) := by rw [s3 i (by omega) 7 (by decide), if_neg (by omega), if_pos ⟨rfl, rfl⟩, h7, nI_1]
  have g6 : shF r' i 6 = if shF r i 7 + 1 = shF r i 3 then 1 else 0 := by rw [s3 i (by omega) 6 (by decide), if_pos ⟨rfl, rfl⟩]
  have gj : ∀ j, j < ns → j ≠ i → ∀ k, k < 9 → shF r' j k = shF r j k := fun j hj hne k hk => by rw [s3 j (by omega) k hk, if_neg (by omega), if_neg (by omega), if_neg (by omega)]
  have l0 : lft r i = nI (ea * (od - b)) := lftN h4 h3 h7 (by omega) (Or.inl ho)
  have l1 : lft r' i = nI (ea * (od - (b + 1))) := lftN (g4.trans h4) (g3.trans h3) g7 (by omega) (by
    by_cases z : b + 1 = od
    · exact Or.inr z
    · left
      rw [g6, h7, h3, nI_1, if_neg (nI_ne z (by omega) (by omega))])
  have hmul : ea * (od - b) = ea * (od - (b + 1)) + ea := by
    obtain ⟨d, rfl⟩ : ∃ d, od = b + 1 + d := ⟨od - (b + 1), by omega⟩
    rw [show b + 1 + d - b = d + 1 by omega, show b + 1 + d - (b + 1) = d by omega, Nat.mul_succ]
  have hx : lft r i = lft r' i + shF r i 4 := by rw [l0, l1, h4, nI_add, ← hmul]
  have hsum : isum ns (lft r') = isum ns (lft r) + (lft r' i - lft r i) := isum_upd hi (fun j hj hne => lft_same (gj j hj hne))
  have hcost : isum ns (fun i => shF r' i 4 * shF r' i 3) = isum ns (fun i => shF r i 4 * shF r i 3) := isum_congr (fun j hj => by
    by_cases e : j = i
    · subst e; rw [g4, g3]
    · rw [gj j hj e 4 (by decide), gj j hj e 3 (by decide)])
  have h07 : r' 7 = r 7 := by rw [s0 7 (by decide), if_neg (by omega), if_neg (by omega)]
  cases bb with
  | true =>
    have h04 : r' 4 = r 4 + shF r i 4 := by rw [s0 4 (by decide), if_pos ⟨rfl, rfl⟩]
    have h05 : r' 5 = r 5 := by rw [s0 5 (by decide), if_neg (by omega), if_neg (fun y => by cases y.1)]
    have hcu : ∀ d, d < nc → cuF r' d 1 = cuF r d 1 := fun d hd => by rw [s2 d (by omega) 1 (by decide), if_neg (by omega), if_neg (fun y => by cases y.1)]
    have hmon : isum nc (fun c => cuF r' c 1) = isum nc (fun c => cuF r c 1) := isum_congr (fun d hd => hcu d hd)
    have g8 : shF r' i 8 = nI (mk + 2 ^ b) := by rw [s3 i (by omega) 8 (by decide), if_neg (by omega), if_neg (by omega), if_pos ⟨rfl, rfl, rfl⟩, h8, h7, (mark_up (by omega) hmk).1]
    have hrec : isum ns (fun i => shF r' i 4 * bcI (shF r' i 8)) = isum ns (fun i => shF r i 4 * bcI (shF r i 8)) + (shF r' i 4 * bcI (shF r' i 8) - shF r i 4 * bcI (shF r i 8)) := isum_upd (f := fun i => shF r i 4 * bcI (shF r i 8)) (f' := fun i => shF r' i 4 * bcI (shF r' i 8)) hi (fun j hj hne => by rw [gj j hj hne 4 (by decide), gj j hj hne 8 (by decide)])
    have hb8 : bcI (shF r' i 8) = bcI (shF r i 8) + 1 := by rw [g8, (mark_up (by omega) hmk).2.2, h8]
    refine ⟨?_, ?_, ?_, m, fun j => if j = i then ea * (od - (b + 1)) else L j, fun d hd => (hcu d hd).trans (m1 d hd), fun j hj => ?_, ?_⟩
    · rw [hcost, h04, h05, hsum, ← eA]
      grind
    · rw [h07, hmon, h04, hsum, ← eB]
      grind
    · rw [hrec, h04, ← eC, hb8, g4]
      grind
    · show lft r' j = nI (if j = i then ea * (od - (b + 1)) else L j)
      by_cases e : j = i
      · subst e; rw [if_pos rfl]; exact l1
      · rw [if_neg e, lft_same (gj j hj e)]; exact m2 j hj
    · have hu := nsum_upd (f := L) (f' := fun j => if j = i then ea * (od - (b + 1)) else L j) hi (fun j hj hne => if_neg hne)
      rw [if_pos rfl] at hu
      have hL : L i = ea * (od - b) := by
        have h9 := (m2 i hi).symm.trans l0
        have := nsum_ge (f := L) hi
        have h99 : ea * (od - b) ≤ 99 * 4 := Nat.mul_le_mul hea (by omega)
        exact (nI_eq (by omega) (by omega)).mp h9
      omega
  | false =>
    have h04 : r' 4 = r 4 := by rw [s0 4 (by decide), if_neg (fun y => by cases y.1), if_neg (by omega)]
    have h05 : r' 5 = r 5 + shF r i 4 := by rw [s0 5 (by decide), if_neg (fun y => by cases y.1), if_pos ⟨rfl, rfl⟩]
    have hcu : ∀ d, d < nc → cuF r' d 1 = if d = c then cuF r c 1 + shF r i 4 else cuF r d 1 := fun d hd => by
      rw [s2 d (by omega) 1 (by decide), if_neg (fun y => by cases y.1)]
      by_cases e : d = c
      · rw [if_pos ⟨rfl, e, rfl⟩, if_pos e]
      · rw [if_neg (fun y => e y.2.1), if_neg e]
    have hmon : isum nc (fun c => cuF r' c 1) = isum nc (fun c => cuF r c 1) + (cuF r' c 1 - cuF r c 1) := isum_upd (f := fun c => cuF r c 1) (f' := fun c => cuF r' c 1) hc (fun d hd hne => by rw [hcu d hd, if_neg hne])
    have hc1 : cuF r' c 1 = cuF r c 1 + shF r i 4 := by rw [hcu c hc, if_pos rfl]
    have hrec : isum ns (fun i => shF r' i 4 * bcI (shF r' i 8)) = isum ns (fun i => shF r i 4 * bcI (shF r i 8)) := isum_congr (fun j hj => by
      by_cases e : j = i
      · subst e; rw [g4, s3 j (by omega) 8 (by decide), if_neg (by omega), if_neg (by omega), if_neg (fun y => by cases y.1)]
      · rw [gj j hj e 4 (by decide), gj j hj e 8 (by decide)])
    refine ⟨?_, ?_, ?_, fun d => if d = c then m c + ea else m d, fun j => if j = i then ea * (od - (b + 1)) else L j, fun d hd => ?_, fun j hj => ?_, ?_⟩
    · rw [hcost, h04, h05, hsum, ← eA]
      grind
    · rw [h07, hmon, h04, hsum, hc1, ← eB]
      grind
    · rw [hrec, h04, ← eC]
    · show cuF r' d 1 = nI (if d = c then m c + ea else m d)
      rw [hcu d hd]
      by_cases e : d = c
      · rw [if_pos e, if_pos e, m1 c hc, h4, nI_add]
      · rw [if_neg e, if_neg e]; exact m1 d hd
    · show lft r' j = nI (if j = i then ea * (od - (b + 1)) else L j)
      by_cases e : j = i
      · subst e; rw [if_pos rfl]; exact l1
      · rw [if_neg e, lft_same (gj j hj e)]; exact m2 j hj
    · have hu := nsum_upd (f := L) (f' := fun j => if j = i then ea * (od - (b + 1)) else L j) hi (fun j hj hne => if_neg hne)
      have hv := nsum_upd (f := m) (f' := fun d => if d = c then m c + ea else m d) hc (fun j hj hne => if_neg hne)
      rw [if_pos rfl] at hu hv
      have hL : L i = ea * (od - b) := by
        have h9 := (m2 i hi).symm.trans l0
        have := nsum_ge (f := L) hi
        have h99 : ea * (od - b) ≤ 99 * 4 := Nat.mul_le_mul hea (by omega)
        exact (nI_eq (by omega) (by omega)).mp h9
      omega
theorem em_cancel (hE : EM r nc ns) (bc : nc ≤ 8) (bs : ns ≤ 30) (hi : i < ns) (hc : c < nc) (h3 : shF r i 3 = nI od) (h4 : shF r i 4 = nI ea) (h7 : shF r i 7 = nI b) (hb : b < od) (hod : od ≤ 4) (hea : ea ≤ 99) (ho : shF r i 6 = 0) (hS : CaS r r' i c) : EM r' nc ns := by
  obtain ⟨eA, eB, eC, m, L, m1, m2, m3⟩ := hE
  obtain ⟨s0, s1, s2, s3⟩ := hS
  have gj : ∀ j, j < ns → j ≠ i → ∀ k, k < 9 → shF r' j k = shF r j k := fun j hj hne k hk => by rw [s3 j (by omega) k hk, if_neg (by omega)]
  have gi : ∀ k, k < 9 → k ≠ 6 → shF r' i k = shF r i k := fun k hk h6 => by rw [s3 i (by omega) k hk, if_neg (by omega)]
  have l0 : lft r i = nI (ea * (od - b)) := lftN h4 h3 h7 (by omega) (Or.inl ho)
  have lo : lft r i = shF r i 4 * (shF r i 3 - shF r i 7) := lft_open ho
  have l1 : lft r' i = 0 := lft_shut (by rw [s3 i (by omega) 6 (by decide), if_pos ⟨rfl, rfl⟩]; decide)
  have hsum : isum ns (lft r') = isum ns (lft r) + (lft r' i - lft r i) := isum_upd hi (fun j hj hne => lft_same (gj j hj hne))
  have hcost : isum ns (fun i => shF r' i 4 * shF r' i 3) = isum ns (fun i => shF r i 4 * shF r i 3) := isum_congr (fun j hj => by
    by_cases e : j = i
    · subst e; rw [gi 4 (by decide) (by decide), gi 3 (by decide) (by decide)]
    · rw [gj j hj e 4 (by decide), gj j hj e 3 (by decide)])
  have hrec : isum ns (fun i => shF r' i 4 * bcI (shF r' i 8)) = isum ns (fun i => shF r i 4 * bcI (shF r i 8)) := isum_congr (fun j hj => by
    by_cases e : j = i
    · subst e; rw [gi 4 (by decide) (by decide), gi 8 (by decide) (by decide)]
    · rw [gj j hj e 4 (by decide), gj j hj e 8 (by decide)])
  have h07 : r' 7 = r 7 := by rw [s0 7 (by decide), if_neg (by omega)]
  have h04 : r' 4 = r 4 := by rw [s0 4 (by decide), if_neg (by omega)]
  have h05 : r' 5 = r 5 + lft r i := by rw [s0 5 (by decide), if_pos rfl, lo]
  have hcu : ∀ d, d < nc → cuF r' d 1 = if d = c then cuF r c 1 + lft r i else cuF r d 1 := fun d hd => by
    rw [s2 d (by omega) 1 (by decide), lo]
    by_cases e : d = c
    · rw [if_pos ⟨e, rfl⟩, if_pos e]
    · rw [if_neg (fun y => e y.1), if_neg e]
  have hmon : isum nc (fun c => cuF r' c 1) = isum nc (fun c => cuF r c 1) + (cuF r' c 1 - cuF r c 1) := isum_upd (f := fun c => cuF r c 1) (f' := fun c => cuF r' c 1) hc (fun d hd hne => by rw [hcu d hd, if_neg hne])
  have hc1 : cuF r' c 1 = cuF r c 1 + lft r i := by rw [hcu c hc, if_pos rfl]
  refine ⟨?_, ?_, ?_, fun d => if d = c then m c + ea * (od - b) else m d, fun j => if j = i then 0 else L j, fun d hd => ?_, fun j hj => ?_, ?_⟩
  · rw [hcost, h04, h05, hsum, l1, ← eA]
    grind
  · rw [h07, hmon, h04, hsum, hc1, l1, ← eB]
    grind
  · rw [hrec, h04, ← eC]
  · show cuF r' d 1 = nI (if d = c then m c + ea * (od - b) else m d)
    rw [hcu d hd]
    by_cases e : d = c
    · rw [if_pos e, if_pos e, m1 c hc, l0, nI_add]
    · rw [if_neg e, if_neg e]; exact m1 d hd
  · show lft r' j = nI (if j = i then 0 else L j)
    by_cases e : j = i
    · subst e; rw [if_pos rfl, nI_0]; exact l1
    · rw [if_neg e, lft_same (gj j hj e)]; exact m2 j hj
  · have hu := nsum_upd (f := L) (f' := fun j => if j = i then 0 else L j) hi (fun j hj hne => if_neg hne)
    have hv := nsum_upd (f := m) (f' := fun d => if d = c then m c + ea * (od - b) else m d) hc (fun j hj hne => if_neg hne)
    rw [if_pos rfl] at hu hv
    have hL : L i = ea * (od - b) := by
      have h9 := (m2 i hi).symm.trans l0
      have := nsum_ge (f := L) hi
      have h99 : ea * (od - b) ≤ 99 * 4 := Nat.mul_le_mul hea (by omega)
      exact (nI_eq (by omega) (by omega)).mp h9
    omega
end MONEY
