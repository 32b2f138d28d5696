set_option maxHeartbeats 400000
/-! what holds while a script is read -/
def lset (X : Nat → List Nat) (i : Nat) (L : List Nat) : Nat → List Nat := fun k => if k = i then L else X k
theorem lset_s (X : Nat → List Nat) (i : Nat) (L : List Nat) : lset X i L i = L := if_pos rfl
theorem lset_o (X : Nat → List Nat) (i : Nat) (L : List Nat) {k : Nat} (h : k ≠ i) : lset X i L k = X k := if_neg h
def cpre (X : Nat → List Nat) : Nat → List Nat
  | 0 => []
  | d + 1 => cpre X d ++ X d
theorem cpre_lset (X : Nat → List Nat) (L : List Nat) {i : Nat} : ∀ {d : Nat}, d ≤ i → cpre (lset X i L) d = cpre X d
  | 0, _ => rfl
  | d + 1, h => by
    show cpre (lset X i L) d ++ lset X i L d = cpre X d ++ X d
    rw [cpre_lset X L (by omega), lset_o _ _ _ (by omega)]
theorem cpre_set (X : Nat → List Nat) (L : List Nat) (d : Nat) : cpre (lset X d L) (d + 1) = cpre X d ++ L := by
  show cpre (lset X d L) d ++ lset X d L d = _
  rw [cpre_lset X L (Nat.le_refl d), lset_s]
theorem cpre_mem {X : Nat → List Nat} {x : Nat} : ∀ {d : Nat}, x ∈ cpre X d → ∃ j, j < d ∧ x ∈ X j
  | 0, h => absurd h List.not_mem_nil
  | d + 1, h => by
    rcases List.mem_append.mp h with z | z
    · obtain ⟨j, h1, h2⟩ := cpre_mem z
      exact ⟨j, by omega, h2⟩
    · exact ⟨d, by omega, z⟩
theorem rep_mem {X : List Nat} {x : Nat} : ∀ {r : Nat}, x ∈ rep r X → x ∈ X
  | 0, h => absurd h List.not_mem_nil
  | r + 1, h => by
    rcases List.mem_append.mp h with z | z
    · exact z
    · exact rep_mem z
def WT : Nat → Nat
  | 0 => 400
  | 1 => 20
  | _ => 1
theorem WT_pos (j : Nat) : 1 ≤ WT j := by
  match j with
  | 0 => decide
  | 1 => decide
  | _ + 2 => exact Nat.le_refl 1
def sgS (p : Nat → Nat) : Nat → Nat
  | 0 => 0
  | j + 1 => p j + 1
def sgE (p : Nat → Nat) (m d j : Nat) : Nat := if j = d then m else p j
theorem sgS_fset (p : Nat → Nat) (x : Nat) {d : Nat} : ∀ {j : Nat}, j ≤ d → sgS (fset p d x) j = sgS p j
  | 0, _ => rfl
  | j + 1, h => by
    show fset p d x j + 1 = p j + 1
    rw [fset_o _ _ _ (by omega)]
theorem CmdR.mv {w v w' v' : Wd} {c kp c' kp' : Nat → Nat} {nv nc x : Nat} (h : CmdR w v c kp nv nc x) (ec : c' x = c x) (ek : kp' x = kp x) (ew : (w' 12).1 (5 + kp x) = (w 12).1 (5 + kp x)) (ev : ∀ j, 7 ≤ j → j ≤ 11 → (v' 15).1 j x = (v 15).1 j x) : CmdR w' v' c' kp' nv nc x := by
  unfold CmdR
  rw [ec, ek, ew, ev 7 (by decide) (by decide), ev 8 (by decide) (by decide), ev 9 (by decide) (by decide), ev 10 (by decide) (by decide), ev 11 (by decide) (by decide)]
  exact h
def SG (w v : Wd) (nv nc : Nat) (c a kp : Nat → Nat) (m h d : Nat) (p r : Nat → Nat) (X : Nat → List Nat) (s : Nat → Nat) : Prop :=
  (h ≤ 30 ∧ m + d ≤ 2 * h ∧ d ≤ 2) ∧
  ((w 12).1 0 4 = nI h ∧ (w 12).1 0 6 = nI d ∧ (v 15).1 0 28 = nI m ∧ (v 15).1 0 29 = nI h ∧ (v 15).1 0 30 = nI d) ∧
  PL w kp (cpre X (d + 1)) ∧
  (∀ j, j < d → (w 12).1 3 j = nI (min 40 (cpre X (j + 1)).length) ∧ (w 12).1 4 j = nI (r j) ∧ 1 ≤ r j ∧ r j ≤ 20 ∧ c (p j) = 7 ∧ a (p j) = r j) ∧
  (∀ j, j ≤ d → sgS p j ≤ sgE p m d j ∧ sgE p m d j ≤ m ∧ Seg j c a (sgS p j) (sgE p m d j) (X j) (s j) ∧ s j ≤ (sgE p m d j - sgS p j) * WT j ∧ ∀ x, x ∈ X j → x < m ∧ c x ≤ 6) ∧
  (∀ x, x < m → c x ≤ 8 ∧ (v 15).1 7 x = nI (c x)) ∧
  (∀ x, x < m → c x = 7 → (v 15).1 8 x = nI (a x)) ∧
  (∀ x, x < m → c x ≤ 6 → CmdR w v c kp nv nc x ∧ kp x < h)
theorem SG.start {w v : Wd} {nv nc : Nat} (w4 : (w 12).1 0 4 = 0) (w5 : (w 12).1 0 5 = 0) (w6 : (w 12).1 0 6 = 0) (v28 : (v 15).1 0 28 = 0) (v29 : (v 15).1 0 29 = 0) (v30 : (v 15).1 0 30 = 0) : SG w v nv nc (fun _ => 0) (fun _ => 0) (fun _ => 0) 0 0 0 (fun _ => 0) (fun _ => 0) (fun _ => []) (fun _ => 0) := by
  refine ⟨⟨by omega, by omega, by omega⟩, ⟨w4, w6, v28, v29, v30⟩, ⟨w5, fun t _ ht => absurd ht (Nat.not_lt_zero t)⟩, fun j hj => absurd hj (Nat.not_lt_zero j), fun j hj => ?_, fun x hx => absurd hx (Nat.not_lt_zero x), fun x hx => absurd hx (Nat.not_lt_zero x), fun x hx => absurd hx (Nat.not_lt_zero x)⟩
  rw [show j = 0 by omega]
  exact ⟨Nat.le_refl _, Nat.le_refl _, Seg.nil 0 _ _ 0, Nat.zero_le _, fun x hx => absurd hx List.not_mem_nil⟩
/-- a command more -/
theorem SG.push {w v : Wd} {nv nc : Nat} {c a kp : Nat → Nat} {m h d : Nat} {p r : Nat → Nat} {X : Nat → List Nat} {s : Nat → Nat} (H : SG w v nv nc c a kp m h d p r X s) {q : Nat} (hq : q ≤ 6) (hh : h < 30) {w' v' : Wd}
    (w4 : (w' 12).1 0 4 = nI (h + 1)) (w6 : (w' 12).1 0 6 = nI d) (wr : ∀ j, j = 3 ∨ j = 4 ∨ (5 ≤ j ∧ j ≠ 5 + h) → (w' 12).1 j = (w 12).1 j) (hP : PL w' (fset kp m h) (cpre X (d + 1) ++ [m]))
    (v28 : (v' 15).1 0 28 = nI (m + 1)) (v29 : (v' 15).1 0 29 = nI (h + 1)) (v30 : (v' 15).1 0 30 = nI d) (vr : ∀ j k, 7 ≤ j → j ≤ 11 → k ≠ m → (v' 15).1 j k = (v 15).1 j k) (hC : CmdR w' v' (fset c m q) (fset kp m h) nv nc m) :
    SG w' v' nv nc (fset c m q) a (fset kp m h) (m + 1) (h + 1) d p r (lset X d (X d ++ [m])) (fset s d (s d + 1)) := by
  obtain ⟨⟨k1, k2, k3⟩, ⟨-, -, -, -, -⟩, -, h3, h4, h5, h6, h7⟩ := H
  have pj : ∀ j, j < d → p j < m := fun j hj => by
    have := (h4 (j + 1) (by omega)).1
    have h2 := (h4 (j + 1) (by omega)).2.1
    have e : sgS p (j + 1) = p j + 1 := rfl
    omega
  refine ⟨⟨by omega, by omega, by omega⟩, ⟨w4, w6, v28, v29, v30⟩, ?_, fun j hj => ?_, fun j hj => ?_, fun x hx => ?_, fun x hx hc => ?_, fun x hx hc => ?_⟩
  · rw [cpre_set, ← List.append_assoc]
    exact hP
  · obtain ⟨g1, g2, g3, g4, g5, g6⟩ := h3 j hj
    rw [wr 3 (Or.inl rfl), wr 4 (Or.inr (Or.inl rfl)), cpre_lset _ _ (by omega), fset_o _ _ _ (Nat.ne_of_lt (pj j hj))]
    exact ⟨g1, g2, g3, g4, g5, g6⟩
  · obtain ⟨g1, g2, g3, g4, g5⟩ := h4 j hj
    by_cases z : j = d
    · subst z
      have e1 : sgE p m j j = m := if_pos rfl
      have e2 : sgE p (m + 1) j j = m + 1 := if_pos rfl
      rw [e1] at g1 g2 g3 g4
      rw [e2, lset_s, fset_s]
      have hs := g3.keep (c2 := fset c m q) (a2 := a) (fun k _ hk => ⟨fset_o _ _ _ (by omega), rfl⟩)
      refine ⟨by omega, Nat.le_refl _, hs.cmd g1 (by rw [fset_s]; omega) (by rw [fset_s]; omega), ?_, fun x hx => ?_⟩
      · have hw := WT_pos j
        rw [show m + 1 - sgS p j = (m - sgS p j) + 1 by omega, Nat.succ_mul]
        omega
      · rcases List.mem_append.mp hx with y | y
        · have := (g5 x y).1
          rw [fset_o _ _ _ (by omega)]
          exact ⟨by omega, (g5 x y).2⟩
        · rw [List.mem_singleton.mp y, fset_s]
          exact ⟨by omega, hq⟩
    · have e1 : sgE p m d j = p j := if_neg z
      have e2 : sgE p (m + 1) d j = p j := if_neg z
      rw [e1] at g1 g2 g3 g4
      rw [e2, lset_o _ _ _ z, fset_o _ _ _ z]
      refine ⟨g1, by omega, g3.keep (fun k _ hk => ⟨fset_o _ _ _ (by omega), rfl⟩), g4, fun x hx => ?_⟩
      have := (g5 x hx).1
      rw [fset_o _ _ _ (by omega)]
      exact ⟨by omega, (g5 x hx).2⟩
  · by_cases z : x = m
    · rw [z, fset_s]
      have := hC.2.2.1
      rw [fset_s] at this
      exact ⟨by omega, this⟩
    · rw [fset_o _ _ _ z, vr 7 x (by decide) (by decide) z]
      exact h5 x (by omega)
  · by_cases z : x = m
    · rw [z, fset_s] at hc
      omega
    · rw [fset_o _ _ _ z] at hc
      rw [vr 8 x (by decide) (by decide) z]
      exact h6 x (by omega) hc
  · by_cases z : x = m
    · rw [z, fset_s]
      exact ⟨hC, by omega⟩
    · rw [fset_o _ _ _ z] at hc
      obtain ⟨y1, y2⟩ := h7 x (by omega) hc
      rw [fset_o kp _ _ z]
      exact ⟨y1.mv (fset_o _ _ _ z) (fset_o _ _ _ z) (wr _ (by omega)) (fun j a1 a2 => vr j x a1 a2 z), by omega⟩
/-- a repeat is opened -/
theorem SG.open2 {w v : Wd} {nv nc : Nat} {c a kp : Nat → Nat} {m h d : Nat} {p r : Nat → Nat} {X : Nat → List Nat} {s : Nat → Nat} (H : SG w v nv nc c a kp m h d p r X s) (hh : h < 30) (hd : d < 2) {r0 : Nat} (r1 : 1 ≤ r0) (r2 : r0 ≤ 20) {w' v' : Wd}
    (w4 : (w' 12).1 0 4 = nI (h + 1)) (w6 : (w' 12).1 0 6 = nI (d + 1)) (w3s : (w' 12).1 3 d = nI (min 40 (cpre X (d + 1)).length)) (w4s : (w' 12).1 4 d = nI r0) (wo : ∀ j, j < d → (w' 12).1 3 j = (w 12).1 3 j ∧ (w' 12).1 4 j = (w 12).1 4 j) (wr : ∀ j, 5 ≤ j → (w' 12).1 j = (w 12).1 j) (hP : PL w' kp (cpre X (d + 1)))
    (v28 : (v' 15).1 0 28 = nI (m + 1)) (v29 : (v' 15).1 0 29 = nI (h + 1)) (v30 : (v' 15).1 0 30 = nI (d + 1)) (vr : ∀ j k, 7 ≤ j → j ≤ 11 → k ≠ m → (v' 15).1 j k = (v 15).1 j k) (v7 : (v' 15).1 7 m = nI 7) (v8 : (v' 15).1 8 m = nI r0) :
    SG w' v' nv nc (fset c m 7) (fset a m r0) kp (m + 1) (h + 1) (d + 1) (fset p d m) (fset r d r0) (lset X (d + 1) []) (fset s (d + 1) 0) := by
  obtain ⟨⟨k1, k2, k3⟩, ⟨-, -, -, -, -⟩, -, h3, h4, h5, h6, h7⟩ := H
  have pj : ∀ j, j < d → p j < m := fun j hj => by
    have := (h4 (j + 1) (by omega)).1
    have h2 := (h4 (j + 1) (by omega)).2.1
    have e : sgS p (j + 1) = p j + 1 := rfl
    omega
  refine ⟨⟨by omega, by omega, by omega⟩, ⟨w4, w6, v28, v29, v30⟩, ?_, fun j hj => ?_, fun j hj => ?_, fun x hx => ?_, fun x hx hc => ?_, fun x hx hc => ?_⟩
  · rw [cpre_set, List.append_nil]
    exact hP
  · rw [cpre_lset _ _ (by omega)]
    by_cases z : j = d
    · subst z
      rw [fset_s, fset_s, fset_s, fset_s]
      exact ⟨w3s, w4s, r1, r2, rfl, rfl⟩
    · obtain ⟨g1, g2, g3, g4, g5, g6⟩ := h3 j (by omega)
      have hp := pj j (by omega)
      rw [fset_o r _ _ z, fset_o p _ _ z, fset_o c _ _ (by omega), fset_o a _ _ (by omega), (wo j (by omega)).1, (wo j (by omega)).2]
      exact ⟨g1, g2, g3, g4, g5, g6⟩
  · by_cases z : j = d + 1
    · subst z
      have e1 : sgS (fset p d m) (d + 1) = m + 1 := by
        show fset p d m d + 1 = m + 1
        rw [fset_s]
      have e2 : sgE (fset p d m) (m + 1) (d + 1) (d + 1) = m + 1 := if_pos rfl
      rw [e1, e2, lset_s, fset_s]
      exact ⟨Nat.le_refl _, Nat.le_refl _, Seg.nil _ _ _ _, Nat.zero_le _, fun x hx => absurd hx List.not_mem_nil⟩
    · obtain ⟨g1, g2, g3, g4, g5⟩ := h4 j (by omega)
      have e1 : sgS (fset p d m) j = sgS p j := sgS_fset p m (by omega)
      have e2 : sgE (fset p d m) (m + 1) (d + 1) j = sgE p m d j := by
        unfold sgE
        rw [if_neg z]
        by_cases y : j = d
        · rw [if_pos y, y, fset_s]
        · rw [if_neg y, fset_o _ _ _ y]
      rw [e1, e2, lset_o _ _ _ z, fset_o _ _ _ z]
      refine ⟨g1, by omega, g3.keep (fun k _ hk => ⟨fset_o _ _ _ (by omega), fset_o _ _ _ (by omega)⟩), g4, fun x hx => ?_⟩
      have := (g5 x hx).1
      rw [fset_o _ _ _ (by omega)]
      exact ⟨by omega, (g5 x hx).2⟩
  · by_cases z : x = m
    · rw [z, fset_s]
      exact ⟨by omega, v7⟩
    · rw [fset_o _ _ _ z, vr 7 x (by decide) (by decide) z]
      exact h5 x (by omega)
  · by_cases z : x = m
    · rw [z, fset_s]
      exact v8
    · rw [fset_o _ _ _ z] at hc
      rw [vr 8 x (by decide) (by decide) z, fset_o _ _ _ z]
      exact h6 x (by omega) hc
  · by_cases z : x = m
    · rw [z, fset_s] at hc
      omega
    · rw [fset_o _ _ _ z] at hc
      obtain ⟨y1, y2⟩ := h7 x (by omega) hc
      exact ⟨y1.mv (fset_o _ _ _ z) rfl (wr _ (by omega)) (fun j a1 a2 => vr j x a1 a2 z), by omega⟩
/-- a repeat is closed -/
theorem SG.close {w v : Wd} {nv nc : Nat} {c a kp : Nat → Nat} {m h e : Nat} {p r : Nat → Nat} {X : Nat → List Nat} {s : Nat → Nat} (H : SG w v nv nc c a kp m h (e + 1) p r X s) {w' v' : Wd}
    (w4 : (w' 12).1 0 4 = nI h) (w6 : (w' 12).1 0 6 = nI e) (wr : ∀ j, 3 ≤ j → (w' 12).1 j = (w 12).1 j) (hP : PL w' kp (cpre X (e + 1) ++ rep (r e) (X (e + 1))))
    (v28 : (v' 15).1 0 28 = nI (m + 1)) (v29 : (v' 15).1 0 29 = nI h) (v30 : (v' 15).1 0 30 = nI e) (vr : ∀ j k, 7 ≤ j → j ≤ 11 → k ≠ m → (v' 15).1 j k = (v 15).1 j k) (v7 : (v' 15).1 7 m = nI 8) :
    SG w' v' nv nc (fset c m 8) a kp (m + 1) h e p r (lset X e (X e ++ rep (r e) (X (e + 1)))) (fset s e (r e * (s (e + 1) + 1) + 1 + s e)) := by
  obtain ⟨⟨k1, k2, k3⟩, ⟨-, -, -, -, -⟩, -, h3, h4, h5, h6, h7⟩ := H
  obtain ⟨a1, a2, a3, a4, a5⟩ := h4 e (by omega)
  obtain ⟨b1, b2, b3, b4, b5⟩ := h4 (e + 1) (Nat.le_refl _)
  have e1 : sgE p m (e + 1) e = p e := if_neg (by omega)
  have e2 : sgE p m (e + 1) (e + 1) = m := if_pos rfl
  have e3 : sgS p (e + 1) = p e + 1 := rfl
  rw [e1] at a1 a2 a3 a4
  rw [e2, e3] at b1 b3 b4
  refine ⟨⟨by omega, by omega, by omega⟩, ⟨w4, w6, v28, v29, v30⟩, ?_, fun j hj => ?_, fun j hj => ?_, fun x hx => ?_, fun x hx hc => ?_, fun x hx hc => ?_⟩
  · rw [cpre_set, ← List.append_assoc]
    exact hP
  · obtain ⟨g1, g2, g3, g4, g5, g6⟩ := h3 j (by omega)
    have hp : p j < m := by
      have y1 := (h4 (j + 1) (by omega)).1
      have y2 := (h4 (j + 1) (by omega)).2.1
      have y3 : sgS p (j + 1) = p j + 1 := rfl
      omega
    rw [wr 3 (by decide), wr 4 (by decide), cpre_lset _ _ (by omega), fset_o _ _ _ (Nat.ne_of_lt hp)]
    exact ⟨g1, g2, g3, g4, g5, g6⟩
  · by_cases z : j = e
    · subst z
      obtain ⟨g1, g2, g3, g4, g5, g6⟩ := h3 j (by omega)
      have e4 : sgE p (m + 1) j j = m + 1 := if_pos rfl
      rw [e4, lset_s, fset_s]
      have hl := Seg.loop (c := fset c m 8) (a := a) (p := p j) (q := m) (r := r j) (b3.keep (fun k _ hk => ⟨fset_o _ _ _ (by omega), rfl⟩)) (by omega) (by omega) (by rw [fset_o _ _ _ (by omega)]; exact g5) g6 g3 g4 (fset_s _ _ _)
      have ha := (a3.keep (c2 := fset c m 8) (a2 := a) (fun k _ hk => ⟨fset_o _ _ _ (by omega), rfl⟩)).app hl (by omega) (by omega)
      refine ⟨by omega, Nat.le_refl _, ha, ?_, fun x hx => ?_⟩
      · have hr : r j * (s (j + 1) + 1) ≤ 20 * (s (j + 1) + 1) := Nat.mul_le_mul_right _ g4
        generalize r j * (s (j + 1) + 1) = u at hr
        rcases (by omega : j = 0 ∨ j = 1) with y | y
        · subst y
          have x1 : WT 0 = 400 := rfl
          have x2 : WT (0 + 1) = 20 := rfl
          rw [x1] at a4 ⊢
          rw [x2] at b4
          omega
        · subst y
          have x1 : WT 1 = 20 := rfl
          have x2 : WT (1 + 1) = 1 := rfl
          rw [x1] at a4 ⊢
          rw [x2] at b4
          omega
      · rcases List.mem_append.mp hx with y | y
        · have := (a5 x y).1
          rw [fset_o _ _ _ (by omega)]
          exact ⟨by omega, (a5 x y).2⟩
        · have y2 := b5 x (rep_mem y)
          have := y2.1
          rw [fset_o _ _ _ (by omega)]
          exact ⟨by omega, y2.2⟩
    · obtain ⟨g1, g2, g3, g4, g5⟩ := h4 j (by omega)
      have q1 : sgE p m (e + 1) j = p j := if_neg (by omega)
      have q2 : sgE p (m + 1) e j = p j := if_neg z
      rw [q1] at g1 g2 g3 g4
      rw [q2, lset_o _ _ _ z, fset_o _ _ _ z]
      refine ⟨g1, by omega, g3.keep (fun k _ hk => ⟨fset_o _ _ _ (by omega), rfl⟩), g4, fun x hx => ?_⟩
      have := (g5 x hx).1
      rw [fset_o _ _ _ (by omega)]
      exact ⟨by omega, (g5 x hx).2⟩
  · by_cases z : x = m
    · rw [z, fset_s]
      exact ⟨by omega, v7⟩
    · rw [fset_o _ _ _ z, vr 7 x (by decide) (by decide) z]
      exact h5 x (by omega)
  · by_cases z : x = m
    · rw [z, fset_s] at hc
      omega
    · rw [fset_o _ _ _ z] at hc
      rw [vr 8 x (by decide) (by decide) z]
      exact h6 x (by omega) hc
  · by_cases z : x = m
    · rw [z, fset_s] at hc
      omega
    · rw [fset_o _ _ _ z] at hc
      obtain ⟨y1, y2⟩ := h7 x (by omega) hc
      exact ⟨y1.mv (fset_o _ _ _ z) rfl (wr _ (by omega)) (fun j a1 a2 => vr j x a1 a2 z), y2⟩
