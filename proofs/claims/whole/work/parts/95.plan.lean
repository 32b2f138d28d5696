set_option maxHeartbeats 400000
/-! the class's plan: the first forty of those commands -/
def et (w : Wd) (j k : Nat) (x : Int32) : Wd := sW w 12 (sI (w 12) j k x)
theorem et_12 (w : Wd) (j k : Nat) (x : Int32) : et w j k x 12 = sI (w 12) j k x := sW_s _ _ _
theorem et_o (w : Wd) (j k : Nat) (x : Int32) {r : Nat} (h : r ≠ 12) : et w j k x r = w r := sW_o _ _ h
theorem et_at (w : Wd) (j k : Nat) (x : Int32) (k' : Nat) : (et w j k x 12).1 j k' = if k' = k then x else (w 12).1 j k' := by rw [et_12, sI_at]
theorem et_j (w : Wd) (j k : Nat) (x : Int32) {j' : Nat} (h : j' ≠ j) : (et w j k x 12).1 j' = (w 12).1 j' := by rw [et_12, sI_o _ _ _ h]
def PF (w w' : Wd) : Prop := (∀ r, r ≠ 12 → w' r = w r) ∧ (∀ j, j ≠ 0 → j ≠ 2 → (w' 12).1 j = (w 12).1 j) ∧ ∀ k, k ≠ 5 → (w' 12).1 0 k = (w 12).1 0 k
theorem PF.refl (w : Wd) : PF w w := ⟨fun _ _ => rfl, fun _ _ _ => rfl, fun _ _ => rfl⟩
theorem PF.trans {w w1 w2 : Wd} (h : PF w w1) (h2 : PF w1 w2) : PF w w2 := ⟨fun r hr => (h2.1 r hr).trans (h.1 r hr), fun j a c => (h2.2.1 j a c).trans (h.2.1 j a c), fun k a => (h2.2.2 k a).trans (h.2.2 k a)⟩
def PL (w : Wd) (kp : Nat → Nat) (Y : List Nat) : Prop := (w 12).1 0 5 = nI (min 40 Y.length) ∧ ∀ t, t < 40 → t < Y.length → (w 12).1 2 t = nI (kp (Y.getD t 0))
theorem apL {Y R : List Nat} {t : Nat} (h : t < Y.length) : (Y ++ R).getD t 0 = Y.getD t 0 := by
  rw [List.getD_eq_getElem?_getD, List.getD_eq_getElem?_getD, List.getElem?_append_left h]
theorem apR (Y R : List Nat) (t : Nat) : (Y ++ R).getD (Y.length + t) 0 = R.getD t 0 := by
  rw [List.getD_eq_getElem?_getD, List.getD_eq_getElem?_getD, List.getElem?_append_right (Nat.le_add_right _ _), Nat.add_sub_cancel_left]
theorem getD_in {Y : List Nat} {t : Nat} (h : t < Y.length) : Y.getD t 0 ∈ Y := by
  rw [List.getD_eq_getElem?_getD, List.getElem?_eq_getElem h]
  exact List.getElem_mem h
theorem PL.of {w w' : Wd} {kp : Nat → Nat} {Y : List Nat} (h : PL w kp Y) (h5 : (w' 12).1 0 5 = (w 12).1 0 5) (h2 : (w' 12).1 2 = (w 12).1 2) : PL w' kp Y := ⟨h5.trans h.1, fun t a c => by rw [h2]; exact h.2 t a c⟩
theorem PL.kap {w : Wd} {kp kp' : Nat → Nat} {Y : List Nat} (h : PL w kp Y) (e : ∀ x, x ∈ Y → kp' x = kp x) : PL w kp' Y := ⟨h.1, fun t a c => by rw [e _ (getD_in c)]; exact h.2 t a c⟩
theorem PL.more {w : Wd} {kp : Nat → Nat} {Y : List Nat} (h : PL w kp Y) (hl : 40 ≤ Y.length) (R : List Nat) : PL w kp (Y ++ R) := by
  refine ⟨?_, fun t a _ => ?_⟩
  · rw [h.1, List.length_append, show min 40 Y.length = min 40 (Y.length + R.length) by omega]
  · rw [apL (by omega)]
    exact h.2 t a (by omega)
theorem app_full {w : Wd} (h : (w 12).1 0 5 = nI 40) (x : Int32) : FX7_appendToPlan w x = some w := by
  unfold FX7_appendToPlan
  rw [h, if_pos (show (40 : Int32) ≤ nI 40 by decide)]
theorem app_ok {w : Wd} {kp : Nat → Nat} {Y : List Nat} (h : PL w kp Y) (x : Nat) : ∃ w', FX7_appendToPlan w (nI (kp x)) = some w' ∧ PF w w' ∧ PL w' kp (Y ++ [x]) := by
  by_cases z : 40 ≤ Y.length
  · exact ⟨w, app_full (by rw [h.1, show min 40 Y.length = 40 by omega]) _, PF.refl w, h.more z [x]⟩
  · have h5 : (w 12).1 0 5 = nI Y.length := by rw [h.1, show min 40 Y.length = Y.length by omega]
    refine ⟨et (et w 2 Y.length (nI (kp x))) 0 5 (nI (Y.length + 1)), ?_, ⟨fun r hr => by rw [et_o _ _ _ _ hr, et_o _ _ _ _ hr], fun j a c => by rw [et_j _ _ _ _ a, et_j _ _ _ _ c], fun k a => by rw [et_at, if_neg a, et_j _ _ _ _ (by decide)]⟩, ?_, fun t t1 t2 => ?_⟩
    · have e5 : (et w 2 Y.length (nI (kp x)) 12).1 0 5 = nI Y.length := by rw [et_j _ _ _ _ (by decide)]; exact h5
      unfold FX7_appendToPlan
      rw [h5, if_neg (show ¬ (40 : Int32) ≤ nI Y.length from nI_ge (b := 40) (by omega) (by decide)), gd_t (inI (by omega) (by omega)), nI_c (by omega), show sW w 12 (sI (w 12) 2 Y.length (nI (kp x))) = et w 2 Y.length (nI (kp x)) from rfl, bnd_s, e5, nI_1, bnd_s]
      rfl
    · rw [et_at, if_pos rfl, List.length_append, List.length_singleton, show min 40 (Y.length + 1) = Y.length + 1 by omega]
    · rw [List.length_append, List.length_singleton] at t2
      rw [et_j _ _ _ _ (by decide), et_at]
      by_cases y : t = Y.length
      · have e := apR Y [x] 0
        rw [Nat.add_zero] at e
        rw [if_pos y, y, e]
        rfl
      · rw [if_neg y, apL (by omega)]
        exact h.2 t t1 (by omega)
/-- one lap more of a body -/
theorem copy_ok {n : Nat} (rc : Wd → Int32 → Int32 → Option Wd) {kp : Nat → Nat} {B X R : List Nat} (hl : B.length + X.length ≤ 40) (l3 : Int32) : ∀ (X2 X1 : List Nat) (kf : Nat) (w : Wd), X = X1 ++ X2 → X2.length < kf → PL w kp (B ++ X ++ (R ++ X1)) → ∃ w', FX7_endRepeat_L51 n rc kf w (nI (B.length + X.length)) l3 (nI (B.length + X1.length)) = rc w' (nI (B.length + X.length)) (l3 + 1) ∧ PF w w' ∧ PL w' kp (B ++ X ++ (R ++ X)) := by
  intro X2
  induction X2 with
  | nil =>
    intro X1 kf w e hk h
    obtain ⟨kf, rfl⟩ : ∃ k', kf = k' + 1 := ⟨kf - 1, by omega⟩
    rw [List.append_nil] at e
    subst e
    refine ⟨w, ?_, PF.refl w, h⟩
    simp only [FX7_endRepeat_L51]
    rw [if_pos (Int32.le_refl _)]
  | cons x X3 ih =>
    intro X1 kf w e hk h
    obtain ⟨kf, rfl⟩ : ∃ k', kf = k' + 1 := ⟨kf - 1, by omega⟩
    have hlen : X.length = X1.length + (X3.length + 1) := by rw [e, List.length_append, List.length_cons]
    rw [List.length_cons] at hk
    have hx : (B ++ X ++ (R ++ X1)).getD (B.length + X1.length) 0 = x := by
      rw [List.append_assoc, apR, apL (by omega), e]
      have e0 := apR X1 (x :: X3) 0
      rw [Nat.add_zero] at e0
      rw [e0]
      rfl
    have hp := h.2 (B.length + X1.length) (by omega) (by rw [List.length_append, List.length_append]; omega)
    rw [hx] at hp
    obtain ⟨w1, a1, a2, a3⟩ := app_ok h x
    obtain ⟨w2, b1, b2, b3⟩ := ih (X1 ++ [x]) kf w1 (by rw [e, List.append_assoc]; rfl) (by omega) (by
      rw [List.append_assoc (B ++ X), List.append_assoc R] at a3
      exact a3)
    rw [List.length_append, List.length_singleton, ← Nat.add_assoc] at b1
    refine ⟨w2, ?_, a2.trans b2, b3⟩
    simp only [FX7_endRepeat_L51]
    rw [if_neg (nI_ge (by omega) (by omega)), gd_t (inI (by omega) (by omega)), nI_c (by omega), hp, a1, bo1_s, nI_1]
    exact b1
theorem copy_full {n : Nat} (rc : Wd → Int32 → Int32 → Option Wd) {w : Wd} (h : (w 12).1 0 5 = nI 40) (l3 : Int32) : ∀ (d i kf : Nat), i + d = 40 → d < kf → FX7_endRepeat_L51 n rc kf w (nI 40) l3 (nI i) = rc w (nI 40) (l3 + 1) := by
  intro d
  induction d with
  | zero =>
    intro i kf hi hk
    obtain ⟨kf, rfl⟩ : ∃ k', kf = k' + 1 := ⟨kf - 1, by omega⟩
    simp only [FX7_endRepeat_L51]
    rw [show i = 40 by omega, if_pos (Int32.le_refl _)]
  | succ d ih =>
    intro i kf hi hk
    obtain ⟨kf, rfl⟩ : ∃ k', kf = k' + 1 := ⟨kf - 1, by omega⟩
    simp only [FX7_endRepeat_L51]
    rw [if_neg (nI_ge (by omega) (by omega)), gd_t (inI (by omega) (by omega)), app_full h, bo1_s, nI_1]
    exact ih (i + 1) kf (by omega) (by omega)
theorem laps_ok {n : Nat} (hn : 100 ≤ n) {kp : Nat → Nat} {B X : List Nat} (hl : B.length + X.length ≤ 40) {j r : Nat} (hj : j < 2) (hr : r ≤ 20) : ∀ (d i kf : Nat) (w : Wd), i + 1 + d = r → d < kf → (w 12).1 0 6 = nI j → (w 12).1 4 j = nI r → (w 12).1 3 j = nI B.length → PL w kp (B ++ X ++ rep i X) → ∃ w', FX7_endRepeat_L27 n kf w (nI (B.length + X.length)) (nI (i + 1)) = some w' ∧ PF w w' ∧ PL w' kp (B ++ X ++ rep (r - 1) X) := by
  intro d
  induction d with
  | zero =>
    intro i kf w hi hk h6 h4 h3 h
    obtain ⟨kf, rfl⟩ : ∃ k', kf = k' + 1 := ⟨kf - 1, by omega⟩
    refine ⟨w, ?_, PF.refl w, by rw [show r - 1 = i by omega]; exact h⟩
    simp only [FX7_endRepeat_L27]
    rw [h6, gd_t (inI (by omega) (by omega)), nI_c (by omega), h4, show r = i + 1 by omega, if_pos (Int32.le_refl _)]
  | succ d ih =>
    intro i kf w hi hk h6 h4 h3 h
    obtain ⟨kf, rfl⟩ : ∃ k', kf = k' + 1 := ⟨kf - 1, by omega⟩
    obtain ⟨w1, a1, a2, a3⟩ := copy_ok (n := n) (FX7_endRepeat_L27 n kf) (R := rep i X) hl (nI (i + 1)) X [] n w rfl (by omega) (by rw [List.append_nil]; exact h)
    obtain ⟨w2, b1, b2, b3⟩ := ih (i + 1) kf w1 (by omega) (by omega) ((a2.2.2 6 (by decide)).trans h6) (by rw [a2.2.1 4 (by decide) (by decide)]; exact h4) (by rw [a2.2.1 3 (by decide) (by decide)]; exact h3) (by rw [rep_snoc]; exact a3)
    refine ⟨w2, ?_, a2.trans b2, b3⟩
    simp only [FX7_endRepeat_L27]
    rw [h6, gd_t (inI (by omega) (by omega)), nI_c (by omega), h4, if_neg (nI_ge (by omega) (by omega)), gd_t (inI (by omega) (by omega)), h3]
    rw [nI_1] at a1
    exact a1.trans b1
theorem laps_full {n : Nat} (hn : 100 ≤ n) {j r : Nat} (hj : j < 2) (hr : r ≤ 20) {w : Wd} (h6 : (w 12).1 0 6 = nI j) (h4 : (w 12).1 4 j = nI r) {bs : Nat} (hb : bs ≤ 40) (h3 : (w 12).1 3 j = nI bs) (h5 : (w 12).1 0 5 = nI 40) : ∀ (d i kf : Nat), i + 1 + d = r → d < kf → FX7_endRepeat_L27 n kf w (nI 40) (nI (i + 1)) = some w := by
  intro d
  induction d with
  | zero =>
    intro i kf hi hk
    obtain ⟨kf, rfl⟩ : ∃ k', kf = k' + 1 := ⟨kf - 1, by omega⟩
    simp only [FX7_endRepeat_L27]
    rw [h6, gd_t (inI (by omega) (by omega)), nI_c (by omega), h4, show r = i + 1 by omega, if_pos (Int32.le_refl _)]
  | succ d ih =>
    intro i kf hi hk
    obtain ⟨kf, rfl⟩ : ∃ k', kf = k' + 1 := ⟨kf - 1, by omega⟩
    simp only [FX7_endRepeat_L27]
    rw [h6, gd_t (inI (by omega) (by omega)), nI_c (by omega), h4, if_neg (nI_ge (by omega) (by omega)), gd_t (inI (by omega) (by omega)), h3, copy_full _ h5 _ (40 - bs) bs n (by omega) (by omega), nI_1]
    exact ih (i + 1) kf (by omega) (by omega)
/-- the end of a repeat -/
theorem end_plan {n : Nat} (hn : 100 ≤ n) {kp : Nat → Nat} {B X : List Nat} {j r : Nat} (hj : j < 2) (r1 : 1 ≤ r) (hr : r ≤ 20) {w : Wd} (h6 : (w 12).1 0 6 = nI j) (h4 : (w 12).1 4 j = nI r) (h3 : (w 12).1 3 j = nI (min 40 B.length)) (h : PL w kp (B ++ X)) : ∃ w', FX7_endRepeat_L27 n n w ((w 12).1 0 5) 1 = some w' ∧ PF w w' ∧ PL w' kp (B ++ rep r X) := by
  have er : B ++ rep r X = B ++ X ++ rep (r - 1) X := by
    rw [List.append_assoc]
    have : rep r X = X ++ rep (r - 1) X := by
      obtain ⟨q, rfl⟩ : ∃ q, r = q + 1 := ⟨r - 1, by omega⟩
      rfl
    rw [this]
  rw [er]
  by_cases z : B.length + X.length ≤ 40
  · have e5 : (w 12).1 0 5 = nI (B.length + X.length) := by rw [h.1, List.length_append, show min 40 (B.length + X.length) = B.length + X.length by omega]
    rw [e5]
    exact laps_ok hn z hj hr (r - 1) 0 n w (by omega) (by omega) h6 h4 (by rw [h3, show min 40 B.length = B.length by omega]) (by
      show PL w kp (B ++ X ++ [])
      rw [List.append_nil]
      exact h)
  · have e5 : (w 12).1 0 5 = nI 40 := by rw [h.1, List.length_append, show min 40 (B.length + X.length) = 40 by omega]
    rw [e5]
    refine ⟨w, laps_full hn hj hr h6 h4 (by omega) h3 e5 (r - 1) 0 n (by omega) (by omega), PF.refl w, h.more (by rw [List.length_append]; omega) _⟩
