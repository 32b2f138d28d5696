set_option maxHeartbeats 400000
/-! THE FORETOLD END of a shout stays, echo by echo, cancelling by cancelling -/
/-- the state that the shout j comes to in the end -/
def fate (r : Nat → Int32) (j : Nat) : Int32 := if shF r j 6 = 0 then (if cuF r (shF r j 0).toNatClampNeg 0 < vaF r (shF r j 1).toNatClampNeg 0 * shF r j 3 then 2 else 1) else shF r j 6
/-- what never changes while time passes -/
def KY (r r' : Nat → Int32) (ns : Nat) : Prop := (∀ j, j < ns → ∀ k, k < 6 → shF r' j k = shF r j k) ∧ (∀ v, v < 8 → vaF r' v 0 = vaF r v 0) ∧ ∀ c, c < 8 → cuF r' c 0 = cuF r c 0
theorem Dy.ky {r r' : Nat → Int32} {ns : Nat} (h : Dy r r') (hb : ns ≤ 30) : KY r r' ns := ⟨fun j hj k hk => h.2.2.2 j (by omega) k hk, fun v hv => h.2.1 v hv 0 (by decide) (by decide) (by decide), fun c hc => h.2.2.1 c hc 0 (by decide) (by decide) (by decide) (by decide)⟩
/-- from r to r' ends stay foretold, closed shouts closed, echoes only more -/
def FT (r r' : Nat → Int32) (ns : Nat) : Prop := (∀ j, j < ns → fate r' j = fate r j) ∧ (∀ j, j < ns → shF r' j 6 = 0 → shF r j 6 = 0) ∧ (∀ j, j < ns → ∃ x y, shF r j 7 = nI x ∧ shF r' j 7 = nI y ∧ x ≤ y ∧ y ≤ 4) ∧ KY r r' ns
theorem FT.trans {r r1 r2 : Nat → Int32} {ns : Nat} (h : FT r r1 ns) (h2 : FT r1 r2 ns) : FT r r2 ns := ⟨fun j hj => (h2.1 j hj).trans (h.1 j hj), fun j hj ho => h.2.1 j hj (h2.2.1 j hj ho), fun j hj => by
  obtain ⟨x, y, a1, a2, a3, a4⟩ := h.2.2.1 j hj
  obtain ⟨x', y', b1, b2, b3, b4⟩ := h2.2.2.1 j hj
  have e : x' = y := (nI_eq (by omega) (by omega)).mp (b1.symm.trans a2)
  exact ⟨x, y', a1, b2, by omega, b4⟩, fun j hj k hk => (h2.2.2.2.1 j hj k hk).trans (h.2.2.2.1 j hj k hk), fun v hv => (h2.2.2.2.2.1 v hv).trans (h.2.2.2.2.1 v hv), fun c hc => (h2.2.2.2.2.2 c hc).trans (h.2.2.2.2.2 c hc)⟩
section FATES
variable {M : MM} {r r' : Nat → Int32} {nv nc ns i : Nat} {bk : Nat → Nat}
theorem FT.refl (h : RelN M r nv nc ns bk) : FT r r ns := ⟨fun _ _ => rfl, fun _ _ g => g, fun j hj => by
  obtain ⟨c, v, so, wd, pa, -, -, -, -, -, -, -, b4, -⟩ := h.due hj
  exact ⟨bk j, bk j, (h.ss j hj).back, (h.ss j hj).back, Nat.le_refl _, b4⟩, fun _ _ _ _ => rfl, fun _ _ => rfl, fun _ _ => rfl⟩
theorem fate_same (h : RelN M r nv nc ns bk) {j : Nat} (hj : j < ns) (hD : Dy r r') (h6 : shF r' j 6 = shF r j 6) : fate r' j = fate r j := by
  have hbv := h.bv
  have hbc := h.bc
  have hbs := h.bs
  obtain ⟨c, v, so, wd, pa, h1, h2, -, -, -, -, -, -, k0, k1, -⟩ := h.due hj
  unfold fate
  rw [h6, hD.2.2.2 j (by omega) 0 (by decide), hD.2.2.2 j (by omega) 1 (by decide), hD.2.2.2 j (by omega) 3 (by decide), k0, k1, nI_c (by omega), nI_c (by omega), hD.2.1 v (by omega) 0 (by decide) (by decide) (by decide), hD.2.2.1 c (by omega) 0 (by decide) (by decide) (by decide) (by decide)]
theorem FT.clock (h : RelN M r nv nc ns bk) (hr : ∀ k, k ≠ 3 → r' k = r k) : FT r r' ns := ⟨fun j hj => by
  have eS : ∀ k, shF r' j k = shF r j k := fun k => hr _ (by omega)
  unfold fate
  rw [eS, eS, eS, eS, show ∀ v, vaF r' v 0 = vaF r v 0 from fun v => hr _ (by omega), show ∀ v, cuF r' v 0 = cuF r v 0 from fun v => hr _ (by omega)], fun j hj g => by rw [← show shF r' j 6 = shF r j 6 from hr _ (by omega)]; exact g, fun j hj => by
  obtain ⟨x, y, a1, a2, a3, a4⟩ := (FT.refl h).2.2.1 j hj
  exact ⟨x, y, a1, (show shF r' j 7 = shF r j 7 from hr _ (by omega)).trans a2, a3, a4⟩, fun j hj k hk => hr _ (by omega), fun v hv => hr _ (by omega), fun c hc => hr _ (by omega)⟩
/-- an echo that comes no later than patience ends -/
theorem FT.echo (h : RelN M r nv nc ns bk) (hi : i < ns) (ho : shF r i 6 = 0) (hD : Dy r r') (hS : So r r' i) (h7 : shF r' i 7 = shF r i 7 + 1) (h6 : shF r' i 6 = if shF r i 7 + 1 = shF r i 3 then 1 else 0) (hP : sec r i (bk i) ≤ ends r i) : FT r r' ns := by
  have hbv := h.bv
  have hbc := h.bc
  have hbs := h.bs
  have hB := h.ss i hi
  obtain ⟨c, v, lo, od, ea, so, st, mk, wd, pa, tm, h1, h2, l1, l2, o1, o2, b1, ea1, ea2, st1, mk1, so1, so2, q0, q1, q2, q3, q4, q5, q6, q7, q8, q9, q10, q11, q12, q13, q14, q15, -⟩ := hB.rest
  obtain ⟨c', v', so', wd', pa', g1, g2, w1, w2, p1, p2, s1, b4, k0, k1, k2, k3, k4, -⟩ := h.due hi
  have hst : st = 0 := (nI_eq (a := st) (b := 0) (by omega) (by decide)).mp (q6.symm.trans ho)
  have hbo := q14 hst
  have hback := hB.back
  refine ⟨fun j hj => ?_, fun j hj hoj => ?_, fun j hj => ?_, hD.ky hbs⟩
  · by_cases e : j = i
    · subst e
      by_cases z : bk j + 1 = od
      · have hs : shF r' j 6 = 1 := by rw [h6, hback, q3, nI_1, z, if_pos rfl]
        have hle : wd' * od ≤ pa' := by
          unfold sec ends at hP
          rw [k4, k1, k0, nI_c (by omega), nI_c (by omega), nI_c (by omega), k2, k3, nI_c (by omega), nI_c (by omega), z] at hP
          omega
        unfold fate
        rw [hs, if_neg (by decide), if_pos ho, k0, k1, q3, nI_c (by omega), nI_c (by omega), k2, k3, nI_mul, if_neg ?_]
        have : wd' * od ≤ 60 * 4 := Nat.mul_le_mul w2 o2
        rw [nI_ltI (by omega) (by omega)]
        omega
      · refine fate_same h hj hD ?_
        rw [h6, hback, q3, nI_1, if_neg (nI_ne z (by omega) (by omega)), ho]
    · exact fate_same h hj hD (hS j (by omega) e 6 (by decide))
  · by_cases e : j = i
    · subst e; exact ho
    · rw [← hS j (by omega) e 6 (by decide)]; exact hoj
  · by_cases e : j = i
    · subst e
      exact ⟨bk j, bk j + 1, hback, by rw [h7, hback, nI_1], by omega, by omega⟩
    · obtain ⟨x, y, a1, a2, a3, a4⟩ := (FT.refl h).2.2.1 j hj
      exact ⟨x, y, a1, (hS j (by omega) e 7 (by decide)).trans a2, a3, a4⟩
/-- patience ends ahead of the next echo -/
theorem FT.cancel (h : RelN M r nv nc ns bk) (hi : i < ns) (ho : shF r i 6 = 0) (hD : Dy r r') (hS : So r r' i) (h7 : shF r' i 7 = shF r i 7) (h6 : shF r' i 6 = 2) (hP : ends r i < sec r i (bk i)) : FT r r' ns := by
  have hbv := h.bv
  have hbc := h.bc
  have hbs := h.bs
  have hB := h.ss i hi
  obtain ⟨c, v, lo, od, ea, so, st, mk, wd, pa, tm, h1, h2, l1, l2, o1, o2, b1, ea1, ea2, st1, mk1, so1, so2, q0, q1, q2, q3, q4, q5, q6, q7, q8, q9, q10, q11, q12, q13, q14, q15, -⟩ := hB.rest
  obtain ⟨c', v', so', wd', pa', g1, g2, w1, w2, p1, p2, s1, b4, k0, k1, k2, k3, k4, -⟩ := h.due hi
  have hst : st = 0 := (nI_eq (a := st) (b := 0) (by omega) (by decide)).mp (q6.symm.trans ho)
  have hbo := q14 hst
  refine ⟨fun j hj => ?_, fun j hj hoj => ?_, fun j hj => ?_, hD.ky hbs⟩
  · by_cases e : j = i
    · subst e
      have hlt : pa' < wd' * od := by
        unfold sec ends at hP
        rw [k4, k1, k0, nI_c (by omega), nI_c (by omega), nI_c (by omega), k2, k3, nI_c (by omega), nI_c (by omega)] at hP
        have : wd' * (bk j + 1) ≤ wd' * od := Nat.mul_le_mul (Nat.le_refl _) (by omega)
        omega
      have : wd' * od ≤ 60 * 4 := Nat.mul_le_mul w2 o2
      unfold fate
      rw [h6, if_neg (by decide), if_pos ho, k0, k1, q3, nI_c (by omega), nI_c (by omega), k2, k3, nI_mul, if_pos (nI_lt hlt (by omega))]
    · exact fate_same h hj hD (hS j (by omega) e 6 (by decide))
  · by_cases e : j = i
    · subst e
      rw [h6] at hoj
      exact absurd hoj (by decide)
    · rw [← hS j (by omega) e 6 (by decide)]; exact hoj
  · obtain ⟨x, y, a1, a2, a3, a4⟩ := (FT.refl h).2.2.1 j hj
    by_cases e : j = i
    · subst e; exact ⟨x, y, a1, h7.trans a2, a3, a4⟩
    · exact ⟨x, y, a1, (hS j (by omega) e 7 (by decide)).trans a2, a3, a4⟩
end FATES
