set_option maxHeartbeats 400000
/-! THE REFERENCE READS: what is left of a text, as a list -/
/-- behind the byte a the text is X -/
def SF (b : Nat → Nat) (f a : Nat) (X : List Nat) : Prop := a + X.length = f ∧ ∀ j, j < X.length → b (a + j) = X.getD j 0
theorem gtD_l : ∀ {U X : List Nat} {j : Nat}, j < U.length → (U ++ X).getD j 0 = U.getD j 0
  | [], _, j, h => absurd h (Nat.not_lt_zero j)
  | _ :: _, _, 0, _ => rfl
  | _ :: U, X, j + 1, h => by
    show (U ++ X).getD j 0 = U.getD j 0
    exact gtD_l (Nat.lt_of_succ_lt_succ h)
theorem gtD_r : ∀ {U X : List Nat} {j : Nat}, (U ++ X).getD (U.length + j) 0 = X.getD j 0
  | [], X, j => by
    rw [List.nil_append, List.length_nil, Nat.zero_add]
  | a :: U, X, j => by
    rw [List.length_cons, show U.length + 1 + j = (U.length + j) + 1 by omega]
    show (U ++ X).getD (U.length + j) 0 = X.getD j 0
    exact gtD_r
theorem SF.drop {b : Nat → Nat} {f a : Nat} {U X : List Nat} (h : SF b f a (U ++ X)) : SF b f (a + U.length) X := by
  obtain ⟨h1, h2⟩ := h
  rw [List.length_append] at h1
  refine ⟨by omega, fun j hj => ?_⟩
  rw [Nat.add_assoc, h2 (U.length + j) (by rw [List.length_append]; omega)]
  exact gtD_r
theorem SF.bt {b : Nat → Nat} {f a : Nat} {U X : List Nat} (h : SF b f a (U ++ X)) {j : Nat} (hj : j < U.length) : b (a + j) = U.getD j 0 ∧ a + j < f := by
  obtain ⟨h1, h2⟩ := h
  rw [List.length_append] at h1
  refine ⟨?_, by omega⟩
  rw [h2 j (by rw [List.length_append]; omega)]
  exact gtD_l hj
theorem SF.hd {b : Nat → Nat} {f a x : Nat} {X : List Nat} (h : SF b f a (x :: X)) : b a = x ∧ a < f ∧ SF b f (a + 1) X := by
  have h1 : SF b f a ([x] ++ X) := h
  have h2 : b (a + 0) = [x].getD 0 0 ∧ a + 0 < f := h1.bt (j := 0) Nat.one_pos
  exact ⟨h2.1, h2.2, h1.drop⟩
theorem goto_run {p : Nat → Bool} {f : Nat} : ∀ (m a : Nat), (∀ j, j < m → a + j < f ∧ p (a + j) = true) → goto p f a = goto p f (a + m)
  | 0, _, _ => rfl
  | m + 1, a, h => by
    have h0 : a < f ∧ p a = true := h 0 (by omega)
    rw [goto_t h0.1 h0.2, goto_run m (a + 1) (fun j hj => by
      have := h (j + 1) (by omega)
      rw [show a + 1 + j = a + (j + 1) by omega]
      exact this), show a + 1 + m = a + (m + 1) by omega]
theorem goto_end {p : Nat → Bool} {f m a : Nat} (h : ∀ j, j < m → a + j < f ∧ p (a + j) = true) (h2 : ¬ (a + m < f ∧ p (a + m) = true)) : goto p f a = a + m := (goto_run m a h).trans (goto_f h2)
/-- blanks and line ends -/
def sps (U : List Nat) : Prop := ∀ j, j < U.length → U.getD j 0 = 32 ∨ U.getD j 0 = 10
theorem sps_0 : sps [] := fun j hj => absurd hj (Nat.not_lt_zero j)
theorem sps_1 {x : Nat} (h : x = 32 ∨ x = 10) : sps [x] := fun j hj => by
  have h1 : j < 1 := hj
  have e : j = 0 := by omega
  subst e
  exact h
/-- a sign that ends words and numbers -/
def nX (Y : List Nat) : Prop := ∃ y Y', Y = y :: Y' ∧ ¬ isL y ∧ ¬ isD y
theorem nX_sp (Y : List Nat) : nX (32 :: Y) := ⟨32, Y, rfl, by decide, by decide⟩
theorem nX_se (Y : List Nat) : nX (59 :: Y) := ⟨59, Y, rfl, by decide, by decide⟩
/-- the reference has read the first token of X, the rest of the text -/
def LN (v : Wd) (X : List Nat) : Prop := ∃ b f a, RB v b f (goto (pS b) f a) ∧ SF b f a X ∧ (v 15).1 0 8 = 0
theorem LN.good {v : Wd} {X : List Nat} (h : LN v X) : (v 15).1 0 8 = 0 := by
  obtain ⟨_, _, _, _, _, h8⟩ := h
  exact h8
theorem LN.fr {v v' : Wd} {X : List Nat} (h : LN v X) (hF : Fr v v') : LN v' X := by
  obtain ⟨b, f, a, h1, h2, h8⟩ := h
  exact ⟨b, f, a, h1.fr hF, h2, (hF.2.2.2 8 (by decide) (by decide)).trans h8⟩
theorem LN.tok {v : Wd} {U X : List Nat} {x : Nat} (hU : sps U) (h32 : x ≠ 32) (h10 : x ≠ 10) (h : LN v (U ++ x :: X)) : ∃ b f p, RB v b f p ∧ SF b f p (x :: X) ∧ (v 15).1 0 8 = 0 := by
  obtain ⟨b, f, a, h1, h2, h3⟩ := h
  have h4 := h2.drop
  have h5 := h4.hd
  have e : goto (pS b) f a = a + U.length := goto_end (fun j hj => ⟨(h2.bt hj).2, decide_eq_true (by rw [(h2.bt hj).1]; exact hU j hj)⟩) (fun z => by
    have z2 : b (a + U.length) = 32 ∨ b (a + U.length) = 10 := of_decide_eq_true z.2
    rw [h5.1] at z2
    omega)
  rw [e] at h1
  exact ⟨b, f, a + U.length, h1, h4, h3⟩
theorem ln_next {n : Nat} (hn : 1000 ≤ n) {v : Wd} {b : Nat → Nat} {f p e : Nat} {X : List Nat} (h : RB v b f p) (hp : p < f) (he : tE b f p = e) (hX : SF b f e X) (h8 : (v 15).1 0 8 = 0) : ∃ v', FX13_goOnRead n v = some v' ∧ GoF v v' ∧ LN v' X := by
  obtain ⟨hT, h4, -⟩ := h
  rw [if_pos hp, he] at h4
  have hf := hT.1
  have hl := hX.1
  obtain ⟨v', c1, c2, c3⟩ := rGo hn X.length e n v hl (by omega) hT h4
  exact ⟨v', c1, c2, b, f, e, c3, hX, (c2.2.2 8 (by decide) (by decide) (by decide) (by decide)).trans h8⟩
/-- the letters of a name, as bytes -/
def lsB (ls : List Nat) : List Nat := ls.map (fun x => 96 + x)
theorem lsB_len (ls : List Nat) : (lsB ls).length = ls.length := by
  unfold lsB
  rw [List.length_map]
theorem lsB_at : ∀ {ls : List Nat} {j : Nat}, j < ls.length → (lsB ls).getD j 0 = 96 + ls.getD j 0
  | [], j, h => absurd h (Nat.not_lt_zero j)
  | _ :: _, 0, _ => rfl
  | _ :: ls, j + 1, h => by
    show (lsB ls).getD j 0 = 96 + ls.getD j 0
    exact lsB_at (Nat.lt_of_succ_lt_succ h)
theorem seg_at {b : Nat → Nat} {p : Nat} : ∀ {m j : Nat}, j < m → (seg b p m).getD j 0 = b (p + j) - 96
  | 0, j, h => absurd h (Nat.not_lt_zero j)
  | m + 1, j, h => by
    show (seg b p m ++ [b (p + m) - 96]).getD j 0 = _
    by_cases z : j < m
    · rw [gtD_l (by rw [seg_len]; exact z)]
      exact seg_at z
    · have e : j = m := by omega
      subst e
      have h1 := gtD_r (U := seg b p j) (X := [b (p + j) - 96]) (j := 0)
      rw [seg_len] at h1
      exact h1
theorem seg_map {b : Nat → Nat} {p : Nat} {ls : List Nat} (h : ∀ j, j < ls.length → b (p + j) = 96 + ls.getD j 0) : seg b p ls.length = ls := list_eq (seg_len b p _) (fun j hj => by rw [seg_at hj, h j hj]; omega)
theorem ln_W {n : Nat} (hn : 1000 ≤ n) {v : Wd} {U ls Y : List Nat} (hU : sps U) (hls : okName ls) (hY : nX Y) (h : LN v (U ++ (lsB ls ++ Y))) : (v 15).1 0 6 = 1 ∧ (v 15).2 0 12 = lN (pk5 ls) ∧ (v 15).1 0 8 = 0 ∧ ∃ v', FX13_goOnRead n v = some v' ∧ GoF v v' ∧ LN v' Y := by
  obtain ⟨x, t, e, x1, x2⟩ := ok_cons hls
  have h' : LN v (U ++ (96 + x) :: (lsB t ++ Y)) := by rw [e] at h; exact h
  obtain ⟨b, f, p, r, s, h8⟩ := h'.tok hU (by omega) (by omega)
  have s' : SF b f p (lsB ls ++ Y) := by rw [e]; exact s
  have hb : ∀ j, j < ls.length → b (p + j) = 96 + ls.getD j 0 ∧ p + j < f := fun j hj => by
    have h1 := s'.bt (j := j) (by rw [lsB_len]; exact hj)
    rw [lsB_at hj] at h1
    exact h1
  have hl : ∀ j, j < ls.length → isL (b (p + j)) := fun j hj => by
    have h1 := ok_getD hls hj
    rw [(hb j hj).1]
    exact ⟨by omega, by omega⟩
  obtain ⟨y, Y', eY, y1, y2⟩ := hY
  have sY := s'.drop
  rw [lsB_len] at sY
  have hy : b (p + ls.length) = y := by
    rw [eY] at sY
    exact sY.hd.1
  have hE : eL b f p = p + ls.length := goto_end (fun j hj => ⟨(hb j hj).2, decide_eq_true (hl j hj)⟩) (fun z => y1 (by
    have z2 : isL (b (p + ls.length)) := of_decide_eq_true z.2
    rw [hy] at z2
    exact z2))
  have hp : p < f := (hb 0 hls.1).2
  have l0 : isL (b p) := hl 0 hls.1
  have hK : tK b f p = 1 := by
    unfold tK
    rw [if_neg (by omega), if_pos l0, hE, if_pos (by have := hls.2.1; omega)]
  have hEE : tE b f p = p + ls.length := by
    unfold tE
    rw [if_pos l0, hE]
  have hW : tW b f p = some ls := by
    unfold tW nmO
    rw [hE, Nat.add_sub_cancel_left, if_pos ⟨hls.1, hls.2.1, hl⟩, seg_map (fun j hj => (hb j hj).1)]
  refine ⟨by rw [r.2.2.2.1, hK]; rfl, by rw [r.2.2.2.2.1 hK, hW]; rfl, h8, ln_next hn r hp hEE sY h8⟩
/-- the digits of a number below 10000 -/
theorem dgl_ok {x : Nat} (hx : x < 10000) {b : Nat → Nat} {p : Nat} (hb : ∀ j, j < (dgl x).length → b (p + j) = (dgl x).getD j 0) : (∀ j, j < (dgl x).length → isD (b (p + j))) ∧ dcm b p (dgl x).length = x ∧ 1 ≤ (dgl x).length ∧ (dgl x).length ≤ 4 := by
  by_cases z1 : x < 10
  · have e : dgl x = [48 + x] := by unfold dgl; rw [if_pos z1]
    rw [e] at hb ⊢
    have h0 : b (p + 0) = 48 + x := hb 0 (by show 0 < 1; omega)
    refine ⟨fun j hj => ?_, ?_, by show 1 ≤ 1; omega, by show 1 ≤ 4; omega⟩
    · have h1 : j < 1 := hj
      have ej : j = 0 := by omega
      subst ej
      rw [h0]
      exact ⟨by omega, by omega⟩
    · show 0 * 10 + (b (p + 0) - 48) = x
      rw [h0]
      omega
  · by_cases z2 : x < 100
    · have e : dgl x = [48 + x / 10, 48 + x % 10] := by unfold dgl; rw [if_neg z1, if_pos z2]
      rw [e] at hb ⊢
      have h0 : b (p + 0) = 48 + x / 10 := hb 0 (by show 0 < 2; omega)
      have h1 : b (p + 1) = 48 + x % 10 := hb 1 (by show 1 < 2; omega)
      refine ⟨fun j hj => ?_, ?_, by show 1 ≤ 2; omega, by show 2 ≤ 4; omega⟩
      · have h1' : j < 2 := hj
        rcases (show j = 0 ∨ j = 1 by omega) with ej | ej
        · subst ej; rw [h0]; exact ⟨by omega, by omega⟩
        · subst ej; rw [h1]; exact ⟨by omega, by omega⟩
      · show (0 * 10 + (b (p + 0) - 48)) * 10 + (b (p + 1) - 48) = x
        rw [h0, h1]
        omega
    · by_cases z3 : x < 1000
      · have e : dgl x = [48 + x / 100, 48 + x / 10 % 10, 48 + x % 10] := by unfold dgl; rw [if_neg z1, if_neg z2, if_pos z3]
        rw [e] at hb ⊢
        have h0 : b (p + 0) = 48 + x / 100 := hb 0 (by show 0 < 3; omega)
        have h1 : b (p + 1) = 48 + x / 10 % 10 := hb 1 (by show 1 < 3; omega)
        have h2 : b (p + 2) = 48 + x % 10 := hb 2 (by show 2 < 3; omega)
        refine ⟨fun j hj => ?_, ?_, by show 1 ≤ 3; omega, by show 3 ≤ 4; omega⟩
        · have h1' : j < 3 := hj
          rcases (show j = 0 ∨ j = 1 ∨ j = 2 by omega) with ej | ej | ej
          · subst ej; rw [h0]; exact ⟨by omega, by omega⟩
          · subst ej; rw [h1]; exact ⟨by omega, by omega⟩
          · subst ej; rw [h2]; exact ⟨by omega, by omega⟩
        · show ((0 * 10 + (b (p + 0) - 48)) * 10 + (b (p + 1) - 48)) * 10 + (b (p + 2) - 48) = x
          rw [h0, h1, h2]
          omega
      · have e : dgl x = [48 + x / 1000, 48 + x / 100 % 10, 48 + x / 10 % 10, 48 + x % 10] := by unfold dgl; rw [if_neg z1, if_neg z2, if_neg z3]
        rw [e] at hb ⊢
        have h0 : b (p + 0) = 48 + x / 1000 := hb 0 (by show 0 < 4; omega)
        have h1 : b (p + 1) = 48 + x / 100 % 10 := hb 1 (by show 1 < 4; omega)
        have h2 : b (p + 2) = 48 + x / 10 % 10 := hb 2 (by show 2 < 4; omega)
        have h3 : b (p + 3) = 48 + x % 10 := hb 3 (by show 3 < 4; omega)
        refine ⟨fun j hj => ?_, ?_, by show 1 ≤ 4; omega, by show 4 ≤ 4; omega⟩
        · have h1' : j < 4 := hj
          rcases (show j = 0 ∨ j = 1 ∨ j = 2 ∨ j = 3 by omega) with ej | ej | ej | ej
          · subst ej; rw [h0]; exact ⟨by omega, by omega⟩
          · subst ej; rw [h1]; exact ⟨by omega, by omega⟩
          · subst ej; rw [h2]; exact ⟨by omega, by omega⟩
          · subst ej; rw [h3]; exact ⟨by omega, by omega⟩
        · show (((0 * 10 + (b (p + 0) - 48)) * 10 + (b (p + 1) - 48)) * 10 + (b (p + 2) - 48)) * 10 + (b (p + 3) - 48) = x
          rw [h0, h1, h2, h3]
          omega
theorem dgl_cons {x : Nat} (hx : x < 10000) : ∃ d t, dgl x = d :: t ∧ 48 ≤ d ∧ d ≤ 57 := by
  unfold dgl
  by_cases z1 : x < 10
  · rw [if_pos z1]; exact ⟨_, _, rfl, by omega, by omega⟩
  · rw [if_neg z1]
    by_cases z2 : x < 100
    · rw [if_pos z2]; exact ⟨_, _, rfl, by omega, by omega⟩
    · rw [if_neg z2]
      by_cases z3 : x < 1000
      · rw [if_pos z3]; exact ⟨_, _, rfl, by omega, by omega⟩
      · rw [if_neg z3]; exact ⟨_, _, rfl, by omega, by omega⟩
theorem ln_N {n : Nat} (hn : 1000 ≤ n) {v : Wd} {U Y : List Nat} {x : Nat} (hU : sps U) (hx : x < 10000) (hY : nX Y) (h : LN v (U ++ (dgl x ++ Y))) : (v 15).1 0 6 = 2 ∧ (v 15).1 0 7 = nI x ∧ (v 15).1 0 8 = 0 ∧ ∃ v', FX13_goOnRead n v = some v' ∧ GoF v v' ∧ LN v' Y := by
  obtain ⟨d, t, e, d1, d2⟩ := dgl_cons hx
  have h' : LN v (U ++ d :: (t ++ Y)) := by rw [e] at h; exact h
  obtain ⟨b, f, p, r, s, h8⟩ := h'.tok hU (by omega) (by omega)
  have s' : SF b f p (dgl x ++ Y) := by rw [e]; exact s
  obtain ⟨hd, hv, m1, m4⟩ := dgl_ok hx (b := b) (p := p) (fun j hj => (s'.bt hj).1)
  obtain ⟨y, Y', eY, y1, y2⟩ := hY
  have sY := s'.drop
  have hy : b (p + (dgl x).length) = y := by
    rw [eY] at sY
    exact sY.hd.1
  have hE : eD b f p = p + (dgl x).length := goto_end (fun j hj => ⟨(s'.bt hj).2, decide_eq_true (hd j hj)⟩) (fun z => y2 (by
    have z2 : isD (b (p + (dgl x).length)) := of_decide_eq_true z.2
    rw [hy] at z2
    exact z2))
  have hp : p < f := (s'.bt (j := 0) (by omega)).2
  have l0 : isD (b p) := hd 0 (by omega)
  have lL : ¬ isL (b p) := fun z => by
    have z1 := z.1
    have z2 := l0.2
    omega
  have hK : tK b f p = 2 := by
    unfold tK
    rw [if_neg (by omega), if_neg lL, if_pos l0, hE, if_pos (by omega)]
  have hEE : tE b f p = p + (dgl x).length := by
    unfold tE
    rw [if_neg lL, if_pos l0, hE]
  have hN : tN b f p = x := by
    unfold tN
    rw [hE, Nat.add_sub_cancel_left, hv]
  refine ⟨by rw [r.2.2.2.1, hK]; rfl, by rw [r.2.2.2.2.2.1 hK, hN], h8, ln_next hn r hp hEE sY h8⟩
theorem ln_S {n : Nat} (hn : 1000 ≤ n) {v : Wd} {U Y : List Nat} (hU : sps U) (h : LN v (U ++ 59 :: Y)) : (v 15).1 0 6 = 3 ∧ (v 15).1 0 7 = 59 ∧ (v 15).1 0 8 = 0 ∧ ∃ v', FX13_goOnRead n v = some v' ∧ GoF v v' ∧ LN v' Y := by
  obtain ⟨b, f, p, r, s, h8⟩ := h.tok hU (by decide) (by decide)
  obtain ⟨hb, hp, sY⟩ := s.hd
  have lL : ¬ isL (b p) := by rw [hb]; decide
  have lD : ¬ isD (b p) := by rw [hb]; decide
  have hK : tK b f p = 3 := by
    unfold tK
    rw [if_neg (by omega), if_neg lL, if_neg lD, if_pos (Or.inl hb)]
  have hEE : tE b f p = p + 1 := by
    unfold tE
    rw [if_neg lL, if_neg lD]
  refine ⟨by rw [r.2.2.2.1, hK]; rfl, by rw [r.2.2.2.2.2.2 hK, hb]; rfl, h8, ln_next hn r hp hEE sY h8⟩
theorem ln_E {v : Wd} {U : List Nat} (hU : sps U) (h : LN v U) : (v 15).1 0 6 = 0 ∧ (v 15).1 0 8 = 0 := by
  obtain ⟨b, f, a, r, s, h8⟩ := h
  have hl := s.1
  have hs : ∀ j, j < U.length → b (a + j) = U.getD j 0 := s.2
  have e : goto (pS b) f a = a + U.length := goto_end (fun j hj => ⟨by omega, decide_eq_true (by rw [hs j hj]; exact hU j hj)⟩) (fun z => by
    have z2 := z.1
    omega)
  rw [e] at r
  have hK : tK b f (a + U.length) = 0 := tK_0.mpr (by omega)
  exact ⟨by rw [r.2.2.2.1, hK]; rfl, h8⟩
