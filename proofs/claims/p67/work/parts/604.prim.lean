set_option maxHeartbeats 400000
/-! THE WORLD's STEPS: each does to the world what the row's does to the row -/
theorem wU (M : MM) (j k : Nat) (x : Int32) (j' k' : Nat) : (sI M j k x).1 j' k' = if j' = j ∧ k' = k then x else M.1 j' k' := by
  by_cases h : j' = j
  · subst h
    rw [sI_s]
    by_cases h2 : k' = k
    · subst h2; rw [upd_eq, if_pos ⟨rfl, rfl⟩]
    · rw [upd_ne h2, if_neg (fun z => h2 z.2)]
  · rw [sI_o _ _ _ h, if_neg (fun z => h z.1)]
theorem wE (M : MM) (j k : Nat) (x : Int32) : (sI M j k x).1 j k = x := by rw [wU, if_pos ⟨rfl, rfl⟩]
theorem wN (M : MM) {j k : Nat} (x : Int32) {j' k' : Nat} (h : ¬ (j' = j ∧ k' = k)) : (sI M j k x).1 j' k' = M.1 j' k' := by rw [wU, if_neg h]
/-- what an echo does to a row -/
def EcS (r r' : Nat → Int32) (i c v : Nat) (b : Bool) : Prop :=
  (∀ k, k < 8 → r' k = if b = true ∧ k = 4 then r 4 + shF r i 4 else if b = false ∧ k = 5 then r 5 + shF r i 4 else r k) ∧
  (∀ v', v' < 8 → ∀ k, k < 8 → vaF r' v' k = if v' = v ∧ k = 4 then (if b = true then vaF r v 4 + 1 else if 2 ≤ vaF r v 4 then vaF r v 4 - 2 else 0) else if b = false ∧ v' = v ∧ k = 5 then vaF r v 5 + 1 else vaF r v' k) ∧
  (∀ c', c' < 8 → ∀ k, k < 6 → cuF r' c' k = if b = true ∧ c' = c ∧ k = 3 then cuF r c 3 + 1 else if b = false ∧ c' = c ∧ k = 1 then cuF r c 1 + shF r i 4 else cuF r c' k) ∧
  (∀ i', i' < 30 → ∀ k, k < 9 → shF r' i' k = if i' = i ∧ k = 6 then (if shF r i 7 + 1 = shF r i 3 then 1 else 0) else if i' = i ∧ k = 7 then shF r i 7 + 1 else if b = true ∧ i' = i ∧ k = 8 then shF r i 8 ||| 1 <<< (shF r i 7 &&& 31) else shF r i' k)
/-- the reference's echo -/
theorem ec_ref {w w' : Wd} {i c v : Nat} {b : Bool} {x : Int32} (hi : i < 30) (hc : c < 8) (hv : v < 8) (h0 : shF (row w) i 0 = nI c) (h1 : shF (row w) i 1 = nI v) (ho : shF (row w) i 6 = 0) (hb : (if x < 1 then false else true) = b) (he : FX13_comesBack w (nI i) x = some (b, w')) : EcS (row w) (row w') i c v b := by
  cases b with
  | true =>
    rw [rComes hi hb (by rw [if_pos rfl]; exact rHears hi hc hv h0 h1)] at he
    have e := (Prod.mk.inj (Option.some.inj he)).2
    subst e
    generalize hw2 : rs (rs (rs (rs w 4 (row w 4 + shF (row w) i 4)) (8 + 8 * v + 4) (vaF (row w) v 4 + 1)) (72 + 6 * c + 3) (cuF (row w) c 3 + 1)) (120 + 9 * i + 8) (shF (row w) i 8 ||| 1 <<< (shF (row w) i 7 &&& 31)) = w2
    have g : ∀ k, row w2 k = if k = 120 + 9 * i + 8 then shF (row w) i 8 ||| 1 <<< (shF (row w) i 7 &&& 31) else if k = 72 + 6 * c + 3 then cuF (row w) c 3 + 1 else if k = 8 + 8 * v + 4 then vaF (row w) v 4 + 1 else if k = 4 then row w 4 + shF (row w) i 4 else row w k := fun k => by
      rw [← hw2]
      show (rs _ _ _ 15).1 2 k = _
      rw [rs_at]
      split
      · rfl
      · rw [rs_at]
        split
        · rfl
        · rw [rs_at]
          split
          · rfl
          · exact rs_at _ _ _ _
    have e7 : shF (row w2) i 7 = shF (row w) i 7 := by
      show row w2 (120 + 9 * i + 7) = _
      rw [g, if_neg (by omega), if_neg (by omega), if_neg (by omega), if_neg (by omega)]
    have e3 : shF (row w2) i 3 = shF (row w) i 3 := by
      show row w2 (120 + 9 * i + 3) = _
      rw [g, if_neg (by omega), if_neg (by omega), if_neg (by omega), if_neg (by omega)]
    have e6 : shF (row w2) i 6 = shF (row w) i 6 := by
      show row w2 (120 + 9 * i + 6) = _
      rw [g, if_neg (by omega), if_neg (by omega), if_neg (by omega), if_neg (by omega)]
    refine ⟨fun k hk => ?_, fun v' hv' k hk => ?_, fun c' hc' k hk => ?_, fun i' hi' k hk => ?_⟩
    · rw [bkR_o w2 (by omega) (by omega), g, if_neg (by omega), if_neg (by omega), if_neg (by omega)]
      by_cases z : k = 4
      · rw [if_pos z, if_pos ⟨rfl, z⟩]
      · rw [if_neg z, if_neg (fun y => z y.2), if_neg (fun y => by cases y.1)]
    · show row (bkR w2 i) (8 + 8 * v' + k) = _
      rw [bkR_o w2 (by omega) (by omega), g, if_neg (by omega), if_neg (by omega)]
      by_cases z : v' = v ∧ k = 4
      · rw [if_pos (by omega), if_pos z, if_pos rfl]
      · rw [if_neg (by omega), if_neg (by omega), if_neg z, if_neg (fun y => by cases y.1)]
    · show row (bkR w2 i) (72 + 6 * c' + k) = _
      rw [bkR_o w2 (by omega) (by omega), g, if_neg (by omega)]
      by_cases z : c' = c ∧ k = 3
      · rw [if_pos (by omega), if_pos ⟨rfl, z⟩]
      · rw [if_neg (by omega), if_neg (by omega), if_neg (by omega), if_neg (fun y => z y.2), if_neg (fun y => by cases y.1)]
    · by_cases z6 : i' = i ∧ k = 6
      · obtain ⟨rfl, rfl⟩ := z6
        rw [if_pos ⟨rfl, rfl⟩, bkR_6, e7, e3, e6, ho]
      · rw [if_neg z6]
        by_cases z7 : i' = i ∧ k = 7
        · obtain ⟨rfl, rfl⟩ := z7
          rw [if_pos ⟨rfl, rfl⟩, bkR_7, e7]
        · rw [if_neg z7]
          show row (bkR w2 i) (120 + 9 * i' + k) = _
          rw [bkR_o w2 (by omega) (by omega), g]
          by_cases z8 : i' = i ∧ k = 8
          · rw [if_pos (by omega), if_pos ⟨rfl, z8⟩]
          · rw [if_neg (by omega), if_neg (by omega), if_neg (by omega), if_neg (by omega), if_neg (fun y => z8 y.2)]
  | false =>
    rw [rComes hi hb (by rw [if_neg (by decide)]; exact rLoses hi hc hv h0 h1)] at he
    have e := (Prod.mk.inj (Option.some.inj he)).2
    subst e
    generalize hw2 : rs (rs (rs (rs w 5 (row w 5 + shF (row w) i 4)) (72 + 6 * c + 1) (cuF (row w) c 1 + shF (row w) i 4)) (8 + 8 * v + 5) (vaF (row w) v 5 + 1)) (8 + 8 * v + 4) (if 2 ≤ vaF (row w) v 4 then vaF (row w) v 4 - 2 else 0) = w2
    have g : ∀ k, row w2 k = if k = 8 + 8 * v + 4 then (if 2 ≤ vaF (row w) v 4 then vaF (row w) v 4 - 2 else 0) else if k = 8 + 8 * v + 5 then vaF (row w) v 5 + 1 else if k = 72 + 6 * c + 1 then cuF (row w) c 1 + shF (row w) i 4 else if k = 5 then row w 5 + shF (row w) i 4 else row w k := fun k => by
      rw [← hw2]
      show (rs _ _ _ 15).1 2 k = _
      rw [rs_at]
      split
      · rfl
      · rw [rs_at]
        split
        · rfl
        · rw [rs_at]
          split
          · rfl
          · exact rs_at _ _ _ _
    have e7 : shF (row w2) i 7 = shF (row w) i 7 := by
      show row w2 (120 + 9 * i + 7) = _
      rw [g, if_neg (by omega), if_neg (by omega), if_neg (by omega), if_neg (by omega)]
    have e3 : shF (row w2) i 3 = shF (row w) i 3 := by
      show row w2 (120 + 9 * i + 3) = _
      rw [g, if_neg (by omega), if_neg (by omega), if_neg (by omega), if_neg (by omega)]
    have e6 : shF (row w2) i 6 = shF (row w) i 6 := by
      show row w2 (120 + 9 * i + 6) = _
      rw [g, if_neg (by omega), if_neg (by omega), if_neg (by omega), if_neg (by omega)]
    refine ⟨fun k hk => ?_, fun v' hv' k hk => ?_, fun c' hc' k hk => ?_, fun i' hi' k hk => ?_⟩
    · rw [bkR_o w2 (by omega) (by omega), g, if_neg (by omega), if_neg (by omega), if_neg (by omega), if_neg (c := false = true ∧ k = 4) (fun y => by cases y.1)]
      by_cases z : k = 5
      · rw [if_pos z, if_pos ⟨rfl, z⟩]
      · rw [if_neg z, if_neg (fun y => z y.2)]
    · show row (bkR w2 i) (8 + 8 * v' + k) = _
      rw [bkR_o w2 (by omega) (by omega), g]
      by_cases z : v' = v ∧ k = 4
      · rw [if_pos (by omega), if_pos z, if_neg (c := false = true) (by decide)]
      · rw [if_neg (by omega), if_neg z]
        by_cases z5 : v' = v ∧ k = 5
        · rw [if_pos (by omega), if_pos ⟨rfl, z5⟩]
        · rw [if_neg (by omega), if_neg (by omega), if_neg (by omega), if_neg (fun y => z5 y.2)]
    · show row (bkR w2 i) (72 + 6 * c' + k) = _
      rw [bkR_o w2 (by omega) (by omega), g, if_neg (by omega), if_neg (by omega), if_neg (c := false = true ∧ c' = c ∧ k = 3) (fun y => by cases y.1)]
      by_cases z : c' = c ∧ k = 1
      · rw [if_pos (by omega), if_pos ⟨rfl, z⟩]
      · rw [if_neg (by omega), if_neg (by omega), if_neg (fun y => z y.2)]
    · by_cases z6 : i' = i ∧ k = 6
      · obtain ⟨rfl, rfl⟩ := z6
        rw [if_pos ⟨rfl, rfl⟩, bkR_6, e7, e3, e6, ho]
      · rw [if_neg z6]
        by_cases z7 : i' = i ∧ k = 7
        · obtain ⟨rfl, rfl⟩ := z7
          rw [if_pos ⟨rfl, rfl⟩, bkR_7, e7]
        · rw [if_neg z7, if_neg (c := false = true ∧ i' = i ∧ k = 8) (fun y => by cases y.1)]
          show row (bkR w2 i) (120 + 9 * i' + k) = _
          rw [bkR_o w2 (by omega) (by omega), g, if_neg (by omega), if_neg (by omega), if_neg (by omega), if_neg (by omega)]
theorem ec_tail (A : MM) {i v : Nat} (hv : v < 8) (y0 y1 : Int32) : ∃ V', FW_back_B106 A (20 + i) y0 y1 (2 + v) = some V' ∧ ∀ j k, V'.1 j k = if j = 20 + i ∧ k = 6 then (if A.1 (20 + i) 7 + 1 = A.1 (20 + i) 3 then 1 else 0) else if j = 20 + i ∧ k = 7 then A.1 (20 + i) 7 + 1 else if j = 2 + v ∧ k = 4 then (if 0 < y1 + y0 then y1 + y0 else 0) else A.1 j k := by
  unfold FW_back_B106
  simp only [bnd_s]
  rw [wE, wN _ _ (show ¬ (20 + i = 20 + i ∧ 3 = 7) by omega), wN _ _ (show ¬ (20 + i = 2 + v ∧ 7 = 4) by omega), wN _ _ (show ¬ (20 + i = 2 + v ∧ 3 = 4) by omega)]
  have g : ∀ x j k, (sI (sI (sI A (2 + v) 4 (if 0 < y1 + y0 then y1 + y0 else 0)) (20 + i) 7 (A.1 (20 + i) 7 + 1)) (20 + i) 6 x).1 j k = if j = 20 + i ∧ k = 6 then x else if j = 20 + i ∧ k = 7 then A.1 (20 + i) 7 + 1 else if j = 2 + v ∧ k = 4 then (if 0 < y1 + y0 then y1 + y0 else 0) else A.1 j k := fun x j k => by rw [wU, wU, wU]
  by_cases z : A.1 (20 + i) 7 + 1 = A.1 (20 + i) 3
  · rw [if_pos z, if_pos z]
    exact ⟨_, rfl, g 1⟩
  · rw [if_neg z, if_neg z]
    exact ⟨_, rfl, g 0⟩
/-- the world's echo -/
theorem ec_law {V : MM} {r r' : Nat → Int32} {nv nc ns i c v a : Nat} {b : Bool} (h : WR V r nv nc ns) (bv : nv ≤ 8) (bc : nc ≤ 8) (bs : ns ≤ 30) (hi : i < ns) (hc : c < nc) (hv : v < nv) (h0 : shF r i 0 = nI c) (h1 : shF r i 1 = nI v) (ha : a ≤ 2000) (hr : vaF r v 4 = nI a) (hS : EcS r r' i c v b) : ∃ V', FW_back V (20 + i) b = some V' ∧ WR V' r' nv nc ns := by
  obtain ⟨w0, w1, w2, w3⟩ := h
  obtain ⟨s0, s1, s2, s3⟩ := hS
  have e0 := (w3 i hi 0 (by decide)).trans h0
  have e1 := (w3 i hi 1 (by decide)).trans h1
  have eR := rate_dn (a := a) (by omega)
  unfold FW_back
  rw [e1, gd_t (inI (by omega) (by omega)), nI_c (by omega)]
  cases b with
  | true =>
    simp only [if_true, bnd_s]
    have e2 : (sI V 0 4 (V.1 0 4 + V.1 (20 + i) 4)).1 (20 + i) 0 = nI c := by rw [wN _ _ (by omega), e0]
    rw [e2, gd_t (inI (by omega) (by omega)), nI_c (by omega)]
    unfold FW_back_B90
    simp only [if_true]
    generalize hA : sI (sI (sI V 0 4 (V.1 0 4 + V.1 (20 + i) 4)) (11 + c) 3 ((sI V 0 4 (V.1 0 4 + V.1 (20 + i) 4)).1 (11 + c) 3 + 1)) (20 + i) 8 ((sI (sI V 0 4 (V.1 0 4 + V.1 (20 + i) 4)) (11 + c) 3 ((sI V 0 4 (V.1 0 4 + V.1 (20 + i) 4)).1 (11 + c) 3 + 1)).1 (20 + i) 8 ||| 1 <<< ((sI (sI V 0 4 (V.1 0 4 + V.1 (20 + i) 4)) (11 + c) 3 ((sI V 0 4 (V.1 0 4 + V.1 (20 + i) 4)).1 (11 + c) 3 + 1)).1 (20 + i) 7 &&& 31)) = A
    have gA : ∀ j k, A.1 j k = if j = 20 + i ∧ k = 8 then shF r i 8 ||| 1 <<< (shF r i 7 &&& 31) else if j = 11 + c ∧ k = 3 then cuF r c 3 + 1 else if j = 0 ∧ k = 4 then r 4 + shF r i 4 else V.1 j k := fun j k => by
      rw [← hA, wU]
      by_cases z : j = 20 + i ∧ k = 8
      · rw [if_pos z, if_pos z, wN _ _ (by omega), wN _ _ (by omega), wN _ _ (by omega), wN _ _ (by omega), w3 i hi 8 (by decide), w3 i hi 7 (by decide)]
      · rw [if_neg z, if_neg z, wU]
        by_cases z2 : j = 11 + c ∧ k = 3
        · rw [if_pos z2, if_pos z2, wN _ _ (by omega), w2 c hc 3 (by decide)]
        · rw [if_neg z2, if_neg z2, wU, w0 4 (by decide), w3 i hi 4 (by decide)]
    have a4 : A.1 (2 + v) 4 = nI a := by rw [gA, if_neg (by omega), if_neg (by omega), if_neg (by omega), w1 v hv 4 (by decide), hr]
    have a7 : A.1 (20 + i) 7 = shF r i 7 := by rw [gA, if_neg (by omega), if_neg (by omega), if_neg (by omega), w3 i hi 7 (by decide)]
    have a3 : A.1 (20 + i) 3 = shF r i 3 := by rw [gA, if_neg (by omega), if_neg (by omega), if_neg (by omega), w3 i hi 3 (by decide)]
    obtain ⟨V', q1, q2⟩ := ec_tail A (i := i) (v := v) (by omega) 1 (A.1 (2 + v) 4)
    have e4 : (if 0 < A.1 (2 + v) 4 + 1 then A.1 (2 + v) 4 + 1 else (0 : Int32)) = vaF r v 4 + 1 := by
      rw [a4, hr, nI_1, if_pos (by rw [← nI_0]; exact nI_lt (by omega) (by omega))]
    rw [e4, a7, a3] at q2
    refine ⟨V', q1, fun k hk => ?_, fun v' hv' k hk => ?_, fun c' hc' k hk => ?_, fun i' hi' k hk => ?_⟩
    · rw [q2, if_neg (by omega), if_neg (by omega), if_neg (by omega), gA, if_neg (by omega), if_neg (by omega), s0 k hk]
      by_cases z : k = 4
      · rw [if_pos ⟨rfl, z⟩, if_pos ⟨rfl, z⟩]
      · rw [if_neg (fun y => z y.2), if_neg (fun y => z y.2), if_neg (fun y => by cases y.1), w0 k hk]
    · rw [q2, if_neg (by omega), if_neg (by omega), s1 v' (by omega) k (by omega)]
      by_cases z : v' = v ∧ k = 4
      · rw [if_pos (by omega), if_pos z, if_pos rfl]
      · rw [if_neg (by omega), if_neg z, if_neg (fun y => by cases y.1), gA, if_neg (by omega), if_neg (by omega), if_neg (by omega), w1 v' hv' k hk]
    · rw [q2, if_neg (by omega), if_neg (by omega), if_neg (by omega), s2 c' (by omega) k (by omega), gA, if_neg (by omega)]
      by_cases z : c' = c ∧ k = 3
      · rw [if_pos (by omega), if_pos ⟨rfl, z⟩]
      · rw [if_neg (by omega), if_neg (by omega), if_neg (fun y => z y.2), if_neg (fun y => by cases y.1), w2 c' hc' k hk]
    · rw [q2, s3 i' (by omega) k hk]
      by_cases z : i' = i ∧ k = 6
      · rw [if_pos (by omega), if_pos z]
      · rw [if_neg (by omega), if_neg z]
        by_cases z7 : i' = i ∧ k = 7
        · rw [if_pos (by omega), if_pos z7]
        · rw [if_neg (by omega), if_neg z7, if_neg (by omega), gA]
          by_cases z8 : i' = i ∧ k = 8
          · rw [if_pos (by omega), if_pos ⟨rfl, z8⟩]
          · rw [if_neg (by omega), if_neg (by omega), if_neg (by omega), if_neg (fun y => z8 y.2), w3 i' hi' k hk]
  | false =>
    simp only [Bool.false_eq_true, if_false, bnd_s]
    have e2 : (sI V 0 5 (V.1 0 5 + V.1 (20 + i) 4)).1 (20 + i) 0 = nI c := by rw [wN _ _ (by omega), e0]
    rw [e2, gd_t (inI (by omega) (by omega)), nI_c (by omega)]
    unfold FW_back_B90
    simp only [Bool.false_eq_true, if_false]
    generalize hA : sI (sI (sI V 0 5 (V.1 0 5 + V.1 (20 + i) 4)) (11 + c) 1 ((sI V 0 5 (V.1 0 5 + V.1 (20 + i) 4)).1 (11 + c) 1 + (sI V 0 5 (V.1 0 5 + V.1 (20 + i) 4)).1 (20 + i) 4)) (2 + v) 5 ((sI (sI V 0 5 (V.1 0 5 + V.1 (20 + i) 4)) (11 + c) 1 ((sI V 0 5 (V.1 0 5 + V.1 (20 + i) 4)).1 (11 + c) 1 + (sI V 0 5 (V.1 0 5 + V.1 (20 + i) 4)).1 (20 + i) 4)).1 (2 + v) 5 + 1) = A
    have gA : ∀ j k, A.1 j k = if j = 2 + v ∧ k = 5 then vaF r v 5 + 1 else if j = 11 + c ∧ k = 1 then cuF r c 1 + shF r i 4 else if j = 0 ∧ k = 5 then r 5 + shF r i 4 else V.1 j k := fun j k => by
      rw [← hA, wU]
      by_cases z : j = 2 + v ∧ k = 5
      · rw [if_pos z, if_pos z, wN _ _ (by omega), wN _ _ (by omega), w1 v hv 5 (by decide)]
      · rw [if_neg z, if_neg z, wU]
        by_cases z2 : j = 11 + c ∧ k = 1
        · rw [if_pos z2, if_pos z2, wN _ _ (by omega), wN _ _ (by omega), w2 c hc 1 (by decide), w3 i hi 4 (by decide)]
        · rw [if_neg z2, if_neg z2, wU, w0 5 (by decide), w3 i hi 4 (by decide)]
    have a4 : A.1 (2 + v) 4 = nI a := by rw [gA, if_neg (by omega), if_neg (by omega), if_neg (by omega), w1 v hv 4 (by decide), hr]
    have a7 : A.1 (20 + i) 7 = shF r i 7 := by rw [gA, if_neg (by omega), if_neg (by omega), if_neg (by omega), w3 i hi 7 (by decide)]
    have a3 : A.1 (20 + i) 3 = shF r i 3 := by rw [gA, if_neg (by omega), if_neg (by omega), if_neg (by omega), w3 i hi 3 (by decide)]
    obtain ⟨V', q1, q2⟩ := ec_tail A (i := i) (v := v) (by omega) (-2) (A.1 (2 + v) 4)
    have e4 : (if 0 < A.1 (2 + v) 4 + (-2) then A.1 (2 + v) 4 + (-2) else (0 : Int32)) = if 2 ≤ vaF r v 4 then vaF r v 4 - 2 else 0 := by
      rw [a4, hr, eR.2, ← eR.1, show nI a + (-2) = nI a - 2 from (Int32.sub_eq_add_neg _ _).symm]
    rw [e4, a7, a3] at q2
    refine ⟨V', q1, fun k hk => ?_, fun v' hv' k hk => ?_, fun c' hc' k hk => ?_, fun i' hi' k hk => ?_⟩
    · rw [q2, if_neg (by omega), if_neg (by omega), if_neg (by omega), gA, if_neg (by omega), if_neg (by omega), s0 k hk, if_neg (c := false = true ∧ k = 4) (fun y => by cases y.1)]
      by_cases z : k = 5
      · rw [if_pos ⟨rfl, z⟩, if_pos ⟨rfl, z⟩]
      · rw [if_neg (fun y => z y.2), if_neg (fun y => z y.2), w0 k hk]
    · rw [q2, if_neg (by omega), if_neg (by omega), s1 v' (by omega) k (by omega)]
      by_cases z : v' = v ∧ k = 4
      · rw [if_pos (by omega), if_pos z, if_neg (c := false = true) (by decide)]
      · rw [if_neg (by omega), if_neg z, gA]
        by_cases z5 : v' = v ∧ k = 5
        · rw [if_pos (by omega), if_pos ⟨rfl, z5⟩]
        · rw [if_neg (by omega), if_neg (by omega), if_neg (by omega), if_neg (fun y => z5 y.2), w1 v' hv' k hk]
    · rw [q2, if_neg (by omega), if_neg (by omega), if_neg (by omega), s2 c' (by omega) k (by omega), gA, if_neg (by omega), if_neg (c := false = true ∧ c' = c ∧ k = 3) (fun y => by cases y.1)]
      by_cases z : c' = c ∧ k = 1
      · rw [if_pos (by omega), if_pos ⟨rfl, z⟩]
      · rw [if_neg (by omega), if_neg (by omega), if_neg (fun y => z y.2), w2 c' hc' k hk]
    · rw [q2, s3 i' (by omega) k hk]
      by_cases z : i' = i ∧ k = 6
      · rw [if_pos (by omega), if_pos z]
      · rw [if_neg (by omega), if_neg z]
        by_cases z7 : i' = i ∧ k = 7
        · rw [if_pos (by omega), if_pos z7]
        · rw [if_neg (by omega), if_neg z7, if_neg (by omega), gA, if_neg (by omega), if_neg (by omega), if_neg (by omega), if_neg (c := false = true ∧ i' = i ∧ k = 8) (fun y => by cases y.1), w3 i' hi' k hk]
/-- what a cancelling does to a row -/
def CaS (r r' : Nat → Int32) (i c : Nat) : Prop :=
  (∀ k, k < 8 → r' k = if k = 5 then r 5 + shF r i 4 * (shF r i 3 - shF r i 7) else r k) ∧
  (∀ v', v' < 8 → ∀ k, k < 8 → vaF r' v' k = vaF r v' k) ∧
  (∀ c', c' < 8 → ∀ k, k < 6 → cuF r' c' k = if c' = c ∧ k = 1 then cuF r c 1 + shF r i 4 * (shF r i 3 - shF r i 7) else cuF r c' k) ∧
  (∀ i', i' < 30 → ∀ k, k < 9 → shF r' i' k = if i' = i ∧ k = 6 then 2 else shF r i' k)
theorem ca_ref {w w' : Wd} {i c : Nat} {x : Int32} (hi : i < 30) (hc : c < 8) (h0 : shF (row w) i 0 = nI c) (ho : shF (row w) i 6 = 0) (he : FX13_cancels w (nI i) = some (x, w')) : x = shF (row w) i 4 * (shF (row w) i 3 - shF (row w) i 7) ∧ CaS (row w) (row w') i c := by
  have g1 : ∀ k, row (rs w (120 + 9 * i + 6) 2) k = if k = 120 + 9 * i + 6 then 2 else row w k := fun k => rs_row _ _ _ _
  have e : FX13_cancels w (nI i) = some (lft (row w) i, rs (rs (rs w (120 + 9 * i + 6) 2) 5 (row (rs w (120 + 9 * i + 6) 2) 5 + lft (row w) i)) (72 + 6 * c + 1) (cuF (row (rs w (120 + 9 * i + 6) 2)) c 1 + lft (row w) i)) := by
    unfold FX13_cancels
    rw [rLeft hi, bo1_s, bnd_s, sht6, gd_t (inI (by omega) (by omega)), nI_c (by omega), bnd_s, rs_fold, rRefunds hi hc (by show row (rs w (120 + 9 * i + 6) 2) (120 + 9 * i + 0) = _; rw [g1, if_neg (by omega)]; exact h0), bo1_s]
  rw [e] at he
  obtain ⟨e1, e2⟩ := Prod.mk.inj (Option.some.inj he)
  subst e2
  rw [lft_open ho] at e1
  refine ⟨e1.symm, ?_⟩
  rw [lft_open ho]
  have g : ∀ k, row (rs (rs (rs w (120 + 9 * i + 6) 2) 5 (row (rs w (120 + 9 * i + 6) 2) 5 + shF (row w) i 4 * (shF (row w) i 3 - shF (row w) i 7))) (72 + 6 * c + 1) (cuF (row (rs w (120 + 9 * i + 6) 2)) c 1 + shF (row w) i 4 * (shF (row w) i 3 - shF (row w) i 7))) k = if k = 72 + 6 * c + 1 then cuF (row w) c 1 + shF (row w) i 4 * (shF (row w) i 3 - shF (row w) i 7) else if k = 5 then row w 5 + shF (row w) i 4 * (shF (row w) i 3 - shF (row w) i 7) else if k = 120 + 9 * i + 6 then 2 else row w k := fun k => by
    rw [rs_row]
    by_cases z : k = 72 + 6 * c + 1
    · rw [if_pos z, if_pos z]
      show row (rs w (120 + 9 * i + 6) 2) (72 + 6 * c + 1) + _ = _
      rw [g1, if_neg (by omega)]
    · rw [if_neg z, if_neg z, rs_row]
      by_cases z5 : k = 5
      · rw [if_pos z5, if_pos z5, g1, if_neg (by omega)]
      · rw [if_neg z5, if_neg z5, g1]
  refine ⟨fun k hk => ?_, fun v' hv' k hk => ?_, fun c' hc' k hk => ?_, fun i' hi' k hk => ?_⟩
  · rw [g, if_neg (by omega)]
    by_cases z : k = 5
    · rw [if_pos z, if_pos z]
    · rw [if_neg z, if_neg z, if_neg (by omega)]
  · show row _ (8 + 8 * v' + k) = _
    rw [g, if_neg (by omega), if_neg (by omega), if_neg (by omega)]
  · show row _ (72 + 6 * c' + k) = _
    rw [g]
    by_cases z : c' = c ∧ k = 1
    · rw [if_pos (by omega), if_pos z]
    · rw [if_neg (by omega), if_neg (by omega), if_neg (by omega), if_neg z]
  · show row _ (120 + 9 * i' + k) = _
    rw [g, if_neg (by omega), if_neg (by omega)]
    by_cases z : i' = i ∧ k = 6
    · rw [if_pos (by omega), if_pos z]
    · rw [if_neg (by omega), if_neg z]
theorem ca_law {V : MM} {r r' : Nat → Int32} {nv nc ns i c : Nat} (h : WR V r nv nc ns) (bv : nv ≤ 8) (bc : nc ≤ 8) (bs : ns ≤ 30) (hi : i < ns) (hc : c < nc) (h0 : shF r i 0 = nI c) (hS : CaS r r' i c) : ∃ V', FW_cancel V (nI i) = some (shF r i 4 * (shF r i 3 - shF r i 7), V') ∧ WR V' r' nv nc ns := by
  obtain ⟨w0, w1, w2, w3⟩ := h
  obtain ⟨s0, s1, s2, s3⟩ := hS
  have e0 := (w3 i hi 0 (by decide)).trans h0
  unfold FW_cancel
  rw [gd_t (inI (by omega) (by omega)), nI_c (by omega), w3 i hi 4 (by decide), w3 i hi 3 (by decide), w3 i hi 7 (by decide)]
  simp only [bnd_s]
  generalize hx : shF r i 4 * (shF r i 3 - shF r i 7) = x at *
  rw [show ∀ y, (sI (sI V (20 + i) 6 2) 0 5 y).1 (20 + i) 0 = nI c from fun y => by rw [wN _ _ (by omega), wN _ _ (by omega), e0], gd_t (inI (by omega) (by omega)), nI_c (by omega)]
  refine ⟨_, rfl, ?_⟩
  have g : ∀ j k, (sI (sI (sI V (20 + i) 6 2) 0 5 ((sI V (20 + i) 6 2).1 0 5 + x)) (11 + c) 1 ((sI (sI V (20 + i) 6 2) 0 5 ((sI V (20 + i) 6 2).1 0 5 + x)).1 (11 + c) 1 + x)).1 j k = if j = 11 + c ∧ k = 1 then cuF r c 1 + x else if j = 0 ∧ k = 5 then r 5 + x else if j = 20 + i ∧ k = 6 then 2 else V.1 j k := fun j k => by
    rw [wU]
    by_cases z : j = 11 + c ∧ k = 1
    · rw [if_pos z, if_pos z, wN _ _ (by omega), wN _ _ (by omega), w2 c hc 1 (by decide)]
    · rw [if_neg z, if_neg z, wU]
      by_cases z5 : j = 0 ∧ k = 5
      · rw [if_pos z5, if_pos z5, wN _ _ (by omega), w0 5 (by decide)]
      · rw [if_neg z5, if_neg z5, wU]
  refine ⟨fun k hk => ?_, fun v' hv' k hk => ?_, fun c' hc' k hk => ?_, fun i' hi' k hk => ?_⟩
  · rw [g, if_neg (by omega), s0 k hk]
    by_cases z : k = 5
    · rw [if_pos ⟨rfl, z⟩, if_pos z]
    · rw [if_neg (fun y => z y.2), if_neg z, if_neg (by omega), w0 k hk]
  · rw [g, if_neg (by omega), if_neg (by omega), if_neg (by omega), s1 v' (by omega) k (by omega), w1 v' hv' k hk]
  · rw [g, s2 c' (by omega) k (by omega)]
    by_cases z : c' = c ∧ k = 1
    · rw [if_pos (by omega), if_pos z]
    · rw [if_neg (by omega), if_neg (by omega), if_neg (by omega), if_neg z, w2 c' hc' k hk]
  · rw [g, if_neg (by omega), if_neg (by omega), s3 i' (by omega) k hk]
    by_cases z : i' = i ∧ k = 6
    · rw [if_pos (by omega), if_pos z]
    · rw [if_neg (by omega), if_neg z, w3 i' hi' k hk]
