set_option maxHeartbeats 400000
/-! the commands that a script of repeats leads to, in their order -/
def fset (g : Nat → Nat) (i x : Nat) : Nat → Nat := fun k => if k = i then x else g k
theorem fset_s (g : Nat → Nat) (i x : Nat) : fset g i x i = x := if_pos rfl
theorem fset_o (g : Nat → Nat) (i x : Nat) {k : Nat} (h : k ≠ i) : fset g i x k = g k := if_neg h
def Rem (c a : Nat → Nat) (m : Nat) : Nat → Nat → Nat → (Nat → Nat) → (Nat → Nat) → List Nat → Prop
  | 0, _, _, _, _, _ => False
  | F + 1, dp, pc, g, h, Z =>
    if m ≤ pc then Z = []
    else if c pc = 7 then dp < 2 ∧ 1 ≤ a pc ∧ a pc ≤ 20 ∧ Rem c a m F (dp + 1) (pc + 1) (fset g dp pc) (fset h dp (a pc)) Z
    else if c pc = 8 then 1 ≤ dp ∧ dp ≤ 2 ∧ 1 ≤ h (dp - 1) ∧ h (dp - 1) ≤ 20 ∧ (if h (dp - 1) = 1 then Rem c a m F (dp - 1) (pc + 1) g (fset h (dp - 1) 0) Z else Rem c a m F dp (g (dp - 1) + 1) g (fset h (dp - 1) (h (dp - 1) - 1)) Z)
    else ∃ Z', Z = pc :: Z' ∧ Rem c a m F dp (pc + 1) g h Z'
def rep : Nat → List Nat → List Nat
  | 0, _ => []
  | r + 1, X => X ++ rep r X
theorem rep_snoc (X : List Nat) : ∀ r, rep (r + 1) X = rep r X ++ X
  | 0 => by
    show X ++ [] = [] ++ X
    rw [List.append_nil, List.nil_append]
  | r + 1 => by
    show X ++ rep (r + 1) X = (X ++ rep r X) ++ X
    rw [rep_snoc X r, List.append_assoc]
/-- from p to q at depth j the commands X come, in s steps -/
def Seg (j : Nat) (c a : Nat → Nat) (p q : Nat) (X : List Nat) (s : Nat) : Prop := ∀ (c' a' : Nat → Nat), (∀ k, p ≤ k → k < q → c' k = c k ∧ a' k = a k) → ∀ m, q ≤ m → ∀ (g h : Nat → Nat) (Z : List Nat) (F : Nat), (∀ g' h', (∀ i, i < j → g' i = g i ∧ h' i = h i) → Rem c' a' m F j q g' h' Z) → Rem c' a' m (F + s) j p g h (X ++ Z)
theorem Seg.nil (j : Nat) (c a : Nat → Nat) (p : Nat) : Seg j c a p p [] 0 := fun _ _ _ _ _ g h _ _ H => H g h (fun _ _ => ⟨rfl, rfl⟩)
theorem Seg.keep {j : Nat} {c a c2 a2 : Nat → Nat} {p q : Nat} {X : List Nat} {s : Nat} (h : Seg j c a p q X s) (e : ∀ k, p ≤ k → k < q → c2 k = c k ∧ a2 k = a k) : Seg j c2 a2 p q X s := fun c' a' e' => h c' a' (fun k h1 h2 => ⟨(e' k h1 h2).1.trans (e k h1 h2).1, (e' k h1 h2).2.trans (e k h1 h2).2⟩)
theorem Seg.cmd {j : Nat} {c a : Nat → Nat} {p q : Nat} {X : List Nat} {s : Nat} (hs : Seg j c a p q X s) (hpq : p ≤ q) (h7 : c q ≠ 7) (h8 : c q ≠ 8) : Seg j c a p (q + 1) (X ++ [q]) (s + 1) := by
  intro c' a' e m hm g h Z F H
  have h1 := hs c' a' (fun k k1 k2 => e k k1 (by omega)) m (by omega) g h (q :: Z) (F + 1) (fun g' h' hh => by
    unfold Rem
    rw [if_neg (by omega), (e q hpq (by omega)).1, if_neg h7, if_neg h8]
    exact ⟨Z, rfl, H g' h' hh⟩)
  rw [List.append_assoc, show F + (s + 1) = F + 1 + s by omega]
  exact h1
theorem Seg.app {j : Nat} {c a : Nat → Nat} {p q u : Nat} {X Y : List Nat} {s s' : Nat} (h1 : Seg j c a p q X s) (h2 : Seg j c a q u Y s') (hpq : p ≤ q) (hqu : q ≤ u) : Seg j c a p u (X ++ Y) (s' + s) := by
  intro c' a' e m hm g h Z F H
  have h3 := h1 c' a' (fun k k1 k2 => e k k1 (by omega)) m (by omega) g h (Y ++ Z) (F + s') (fun g' h' hh => h2 c' a' (fun k k1 k2 => e k (by omega) k2) m hm g' h' Z F (fun g2 h2 hh2 => H g2 h2 (fun i hi => ⟨(hh2 i hi).1.trans (hh i hi).1, (hh2 i hi).2.trans (hh i hi).2⟩)))
  rw [List.append_assoc, show F + (s' + s) = F + s' + s by omega]
  exact h3
theorem Seg.loop {j : Nat} {c a : Nat → Nat} {p q : Nat} {X : List Nat} {s r : Nat} (hb : Seg (j + 1) c a (p + 1) q X s) (hpq : p + 1 ≤ q) (hj : j < 2) (h7 : c p = 7) (ha : a p = r) (r1 : 1 ≤ r) (r2 : r ≤ 20) (h8 : c q = 8) : Seg j c a p (q + 1) (rep r X) (r * (s + 1) + 1) := by
  intro c' a' e m hm g h Z F H
  have laps : ∀ t, t ≤ 20 → 1 ≤ t → ∀ g1 h1, g1 j = p → h1 j = t → (∀ i, i < j → g1 i = g i ∧ h1 i = h i) → Rem c' a' m (F + t * (s + 1)) (j + 1) (p + 1) g1 h1 (rep t X ++ Z) := by
    intro t
    induction t with
    | zero => intro _ h1; exact absurd h1 (by decide)
    | succ t ih =>
      intro t20 _ g1 h1 eg eh ag
      have h3 := hb c' a' (fun k k1 k2 => e k (by omega) (by omega)) m (by omega) g1 h1 (rep t X ++ Z) (F + t * (s + 1) + 1) (fun g2 h2 hh => by
        have e2g := (hh j (by omega)).1.trans eg
        have e2h := (hh j (by omega)).2.trans eh
        unfold Rem
        rw [if_neg (by omega), (e q (by omega) (by omega)).1, h8, if_neg (by decide), if_pos rfl, Nat.add_sub_cancel, e2g, e2h]
        refine ⟨by omega, by omega, by omega, by omega, ?_⟩
        by_cases z : t + 1 = 1
        · rw [if_pos z, show t = 0 by omega, Nat.zero_mul, Nat.add_zero]
          exact H g2 _ (fun i hi => ⟨(hh i (by omega)).1.trans (ag i hi).1, by rw [fset_o _ _ _ (by omega)]; exact (hh i (by omega)).2.trans (ag i hi).2⟩)
        · rw [if_neg z, Nat.add_sub_cancel]
          exact ih (by omega) (by omega) g2 _ e2g (fset_s _ _ _) (fun i hi => ⟨(hh i (by omega)).1.trans (ag i hi).1, by rw [fset_o _ _ _ (by omega)]; exact (hh i (by omega)).2.trans (ag i hi).2⟩))
      have ef : F + (t + 1) * (s + 1) = F + t * (s + 1) + 1 + s := by
        rw [Nat.succ_mul]
        omega
      rw [ef]
      show Rem c' a' m _ (j + 1) (p + 1) g1 h1 ((X ++ rep t X) ++ Z)
      rw [List.append_assoc]
      exact h3
  rw [show F + (r * (s + 1) + 1) = (F + r * (s + 1)) + 1 by omega]
  unfold Rem
  rw [if_neg (by omega), (e p (Nat.le_refl _) (by omega)).1, h7, if_pos rfl, (e p (Nat.le_refl _) (by omega)).2, ha]
  exact ⟨hj, r1, r2, laps r r2 r1 _ _ (fset_s _ _ _) (fset_s _ _ _) (fun i hi => ⟨fset_o _ _ _ (by omega), fset_o _ _ _ (by omega)⟩)⟩
theorem Seg.whole {c a : Nat → Nat} {m : Nat} {X : List Nat} {s : Nat} (h : Seg 0 c a 0 m X s) (g h' : Nat → Nat) : Rem c a m (1 + s) 0 0 g h' X := by
  have h1 := h c a (fun _ _ _ => ⟨rfl, rfl⟩) m (Nat.le_refl _) g h' [] 1 (fun g2 h2 _ => by
    unfold Rem
    rw [if_pos (Nat.le_refl _)])
  rw [List.append_nil] at h1
  exact h1
