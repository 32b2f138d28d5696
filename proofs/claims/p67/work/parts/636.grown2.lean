set_option maxHeartbeats 400000
/-! GROWN, from its start to its end -/
theorem txW {β : Type} {V : MM} {s w : List Nat} {F : MM × List Nat → Option β} {r : Option β} {a b : Nat} (hs : 3 ≤ s.length ∧ s.length ≤ a) (ha : a < 500) (hw : w.length ≤ b) (k : 3 ≤ (s ++ w).length ∧ (s ++ w).length ≤ a + b → F (V, s ++ w) = r) : (gd (decide (s.length < 500)) <| bnd ((V, s ++ w)) fun y => F y) = r := by
  rw [gd_t (decide_eq_true (show s.length < 500 by omega)), bnd_s]
  exact k (by rw [List.length_append]; omega)
theorem txC {β : Type} {V : MM} {s : List Nat} {x : Nat} {c : Bool} {F : MM × List Nat → Option β} {r : Option β} {a : Nat} (hs : 3 ≤ s.length ∧ s.length ≤ a) (ha : a < 500) (hc : c = true) (k : 3 ≤ (s ++ [x]).length ∧ (s ++ [x]).length ≤ a + 1 → F (V, s ++ [x]) = r) : (gd (decide (s.length < 500) && c) <| bnd ((V, s ++ [x])) fun y => F y) = r := by
  rw [gd_t (Bool.and_eq_true_iff.mpr ⟨decide_eq_true (show s.length < 500 by omega), hc⟩), bnd_s]
  exact k (by rw [List.length_append]; simp only [List.length_cons, List.length_nil]; omega)
theorem txD {β : Type} {V : MM} {s w : List Nat} {c : Bool} {F : MM × List Nat → Option β} {r : Option β} {a b : Nat} (hs : 3 ≤ s.length ∧ s.length ≤ a) (ha : a < 500) (hc : c = true) (hw : w.length ≤ b) (k : 3 ≤ (s ++ w).length ∧ (s ++ w).length ≤ a + b → F (V, s ++ w) = r) : (gd (decide (3 ≤ s.length ∧ s.length < 500) && c) <| bnd ((V, s ++ w)) fun y => F y) = r := by
  rw [gd_t (Bool.and_eq_true_iff.mpr ⟨decide_eq_true (show 3 ≤ s.length ∧ s.length < 500 from ⟨hs.1, by omega⟩), hc⟩), bnd_s]
  exact k (by rw [List.length_append]; omega)
theorem one_nI (q : Nat) : (1 : Int32) + nI q = nI (1 + q) := nI_add 1 q
theorem pk_ok {N : Nat} (hN : N ≤ 3000) {f : Nat → Int32} {A M : Int32} {p m : Nat} (hA : A = nI p) (hM : M = nI m) (hp : p < 3000) (m1 : 1 ≤ m) (m2 : m < 2 ^ 31) : ∃ q, FQ_pick N f A M = some (nI q) ∧ q < m := by
  rw [hA, hM]
  obtain ⟨q, h1, h2, h3⟩ := pick_ok N hN f hp m1 m2
  exact ⟨q, h1, h2⟩
section GROWN2
variable {n N nv nc ns m t B l2 : Nat} {f : Nat → Int32} {e1 e2 : List Nat} {y : MM × List Nat}
theorem g134 (hn : 1000 ≤ n) (he : EP l2 e1 e2) (h : GWT n e2 y nv nc ns m t B) (hB : B ≤ 470) (hnv : nv < 8) (rc53 : (MM × List Nat) → Nat → Int32 → Int32 → Option (MM × List Nat)) (l4 Y0 Y1 : Int32) {wd wl q : Nat} (w1 : 1 ≤ wd) (w2 : wd ≤ 60) (p1 : 1 ≤ wl) (p2 : wl ≤ 4) (hp : FQ_pick N f Y1 Y0 = some (nI q)) (q2 : q < 99) : ∃ y', FW_grown_B134 n N f rc53 y l2 l4 (nI nv) (nI wd) (nI wl) Y0 Y1 = rc53 y' l2 l4 (nI (nv + 1)) ∧ GWT n e2 y' (nv + 1) nc ns (m + 1) t (B + 20) := by
  obtain ⟨V', hadd, hG⟩ := gr_V hn he h hnv w1 w2 p1 p2 (pr := 1 + q) (by omega) (by omega)
  have hb := h.len
  refine ⟨_, ?_, hG⟩
  unfold FW_grown_B134
  rw [hp, bo1_s, one_nI, hadd, bo2_s, nI_c (a := nv) (by omega), nI_c (a := wd) (by omega), nI_c (a := wl) (by omega), nI_c (a := 1 + q) (by omega), bnd_s]
  refine txW hb (by omega) (Nat.le_of_eq ll10) (fun h1 => ?_)
  refine txC h1 (by omega) (inbN (by omega) (by decide)) (fun h2 => ?_)
  refine txW h2 (by omega) (Nat.le_of_eq ll0) (fun h3 => ?_)
  refine txD h3 (by omega) (inbN (by omega) (by decide)) (dl2 (by omega)) (fun h4 => ?_)
  refine txW h4 (by omega) (Nat.le_of_eq ll0) (fun h5 => ?_)
  refine txD h5 (by omega) (inbN (by omega) (by decide)) (dl1 (by omega)) (fun h6 => ?_)
  refine txW h6 (by omega) (Nat.le_of_eq ll0) (fun h7 => ?_)
  refine txD h7 (by omega) (inbN (by omega) (by decide)) (dl2 (by omega)) (fun h8 => ?_)
  refine txW h8 (by omega) he.2.2.2.1 (fun h9 => ?_)
  exact congrArg (fun z => rc53 _ l2 l4 z) (nI_1 nv)
theorem g301 (hn : 1000 ≤ n) (he : EP l2 e1 e2) (h : GWT n e2 y nv nc ns m t B) (hB : B ≤ 470) (hnc : nc < 8) (rc220 : (MM × List Nat) → Nat → Int32 → Int32 → Int32 → Option (MM × List Nat)) (rc53 : (MM × List Nat) → Nat → Int32 → Int32 → Option (MM × List Nat)) (l4 l5 : Int32) {pa mo : Nat} (p1 : 1 ≤ pa) (p2 : pa ≤ 240) (m2 : mo ≤ 9999) : ∃ y', FW_grown_B301 n N f rc220 rc53 y l2 l4 l5 (nI nc) (nI pa) (nI mo) = rc220 y' l2 l4 l5 (nI (nc + 1)) ∧ GWT n e2 y' nv (nc + 1) ns (m + 1) t (B + 23) := by
  obtain ⟨V', hadd, hG⟩ := gr_C hn he h hnc p1 p2 m2
  have hb := h.len
  refine ⟨_, ?_, hG⟩
  unfold FW_grown_B301
  rw [hadd, bo2_s, nI_c (a := nc) (by omega), nI_c (a := pa) (by omega), nI_c (a := mo) (by omega), bnd_s]
  refine txW hb (by omega) (Nat.le_of_eq ll5) (fun h1 => ?_)
  refine txC h1 (by omega) (inbN (by omega) (by decide)) (fun h2 => ?_)
  refine txW h2 (by omega) (Nat.le_of_eq ll0) (fun h3 => ?_)
  refine txD h3 (by omega) (inbN (by omega) (by decide)) (dl3 (by omega)) (fun h4 => ?_)
  refine txW h4 (by omega) (Nat.le_of_eq ll0) (fun h5 => ?_)
  refine txD h5 (by omega) (inbN (by omega) (by decide)) (dl4 mo) (fun h6 => ?_)
  refine txW h6 (by omega) he.2.2.2.1 (fun h9 => ?_)
  exact congrArg (fun z => rc220 _ l2 l4 l5 z) (nI_1 nc)
theorem g529 (hn : 1000 ≤ n) (hN : N ≤ 3000) (he : EP l2 e1 e2) (h : GWT n e2 y nv nc ns m t B) (hB : B ≤ 470) (ht : t ≤ 9000) (rc385 : (MM × List Nat) → Nat → Int32 → Int32 → Int32 → Int32 → Option (MM × List Nat)) (rc220 : (MM × List Nat) → Nat → Int32 → Int32 → Int32 → Option (MM × List Nat)) (rc53 : (MM × List Nat) → Nat → Int32 → Int32 → Option (MM × List Nat)) (l4 l5 l6 : Int32) {j : Nat} (hj : j < 100) : ∃ y' m' t', FW_grown_B529 n N f rc385 rc220 rc53 y l2 l4 l5 l6 (nI j) = rc385 y' l2 l4 l5 l6 (nI (j + 1)) ∧ GWT n e2 y' nv nc ns m' t' (B + 10) ∧ m' ≤ m + 1 ∧ t' ≤ t + 20 := by
  obtain ⟨q, hp1, q1⟩ := pk_ok (A := 140 + nI j) (M := 3) hN (f := f) (p := 140 + j) (m := 3) (nI_add 140 j) rfl (by omega) (by decide) (by decide)
  obtain ⟨r, hp2, r1⟩ := pk_ok (A := 150 + nI j) (M := 20) hN (f := f) (p := 150 + j) (m := 20) (nI_add 150 j) rfl (by omega) (by decide) (by decide)
  have hb := h.len
  by_cases z : nI q ≤ 0
  · obtain ⟨x, V', hV, hG⟩ := gr_P hn he h (s := 1 + r) (by omega) (by omega) (by omega)
    refine ⟨_, m + 1, t + (1 + r), ?_, hG, by omega, by omega⟩
    unfold FW_grown_B529
    rw [hp1, bo1_s, if_pos z, hp2, bo1_s, one_nI, hV, bo2_s, bnd_s]
    refine txW hb (by omega) (Nat.le_of_eq ll7) (fun h1 => ?_)
    rw [bo1_s, one_nI, nI_c (a := 1 + r) (by omega)]
    refine txD h1 (by omega) (inbN (by omega) (by decide)) (dl2 (by omega)) (fun h2 => ?_)
    refine txW h2 (by omega) he.2.2.2.1 (fun h3 => ?_)
    exact congrArg (fun z => rc385 _ l2 l4 l5 l6 z) (nI_1 j)
  · refine ⟨y, m, t, ?_, h.le (by omega), by omega, by omega⟩
    unfold FW_grown_B529
    rw [hp1, bo1_s, if_neg z]
    exact congrArg (fun z => rc385 y l2 l4 l5 l6 z) (nI_1 j)
theorem g385 (hn : 1000 ≤ n) (hN : N ≤ 3000) (he : EP l2 e1 e2) (rc220 : (MM × List Nat) → Nat → Int32 → Int32 → Int32 → Option (MM × List Nat)) (rc53 : (MM × List Nat) → Nat → Int32 → Int32 → Option (MM × List Nat)) {more : Nat} (hmo : more ≤ 5) (hnv8 : nv ≤ 8) (hnc8 : nc ≤ 8) (hv : 0 < more → 0 < nv ∧ 0 < nc) : ∀ (d j k : Nat) (y : MM × List Nat) (ns m t B : Nat), j + d = more → d < k → GWT n e2 y nv nc ns m t B → B + 29 * d ≤ 460 → t + 20 * d ≤ 200 → ∃ y' ns' m' t', FW_grown_L385 n N f rc220 rc53 k y l2 (nI nv) (nI nc) (nI more) (nI j) = some y' ∧ GWT n e2 y' nv nc ns' m' t' 460 ∧ m' ≤ m + 2 * d ∧ t' ≤ t + 20 * d := by
  intro d
  induction d with
  | zero =>
    intro j k y ns m t B hj hk h hB ht
    obtain ⟨k, rfl⟩ : ∃ k', k = k' + 1 := ⟨k - 1, by omega⟩
    have e : j = more := by omega
    subst e
    refine ⟨y, ns, m, t, ?_, h.le (by omega), by omega, by omega⟩
    simp only [FW_grown_L385]
    rw [if_pos (Int32.le_refl _)]
  | succ d ih =>
    intro j k y ns m t B hj hk h hB ht
    obtain ⟨k, rfl⟩ : ∃ k', k = k' + 1 := ⟨k - 1, by omega⟩
    obtain ⟨v1, c1⟩ := hv (by omega)
    obtain ⟨c, hpc, hc⟩ := pk_ok (A := 100 + nI j) (M := nI nc) hN (f := f) (p := 100 + j) (m := nc) (nI_add 100 j) rfl (by omega) (by omega) (by omega)
    obtain ⟨u, hpu, hu⟩ := pk_ok (A := 110 + nI j) (M := nI nv) hN (f := f) (p := 110 + j) (m := nv) (nI_add 110 j) rfl (by omega) (by omega) (by omega)
    obtain ⟨lo, hpl, hlo⟩ := pk_ok (A := 120 + nI j) (M := 20) hN (f := f) (p := 120 + j) (m := 20) (nI_add 120 j) rfl (by omega) (by decide) (by decide)
    obtain ⟨od, hpo, hod⟩ := pk_ok (A := 130 + nI j) (M := 4) hN (f := f) (p := 130 + j) (m := 4) (nI_add 130 j) rfl (by omega) (by decide) (by decide)
    obtain ⟨T, eT, ⟨w, hw⟩, hRT⟩ := id h
    have hwhy := hw.why (n := n) (by omega) hc hu (nI (1 + od))
    have hb := h.len
    have hstep : ∃ y2 ns2 m2 t2, FW_grown_L385 n N f rc220 rc53 (k + 1) y l2 (nI nv) (nI nc) (nI more) (nI j) = FW_grown_L385 n N f rc220 rc53 k y2 l2 (nI nv) (nI nc) (nI more) (nI (j + 1)) ∧ GWT n e2 y2 nv nc ns2 m2 t2 (B + 29) ∧ m2 ≤ m + 2 ∧ t2 ≤ t + 20 := by
      by_cases z : whyF (row w) ns c u (nI (1 + od)) = 0
      · rw [z] at hwhy
        obtain ⟨V', hV, hG⟩ := gr_S hn he h hc hu (lo := 1 + lo) (od := 1 + od) (by omega) (by omega) (by omega) (by omega) hwhy
        obtain ⟨y2, m2, t2, g1, g2, g3, g4⟩ := g529 (f := f) hn hN he hG (by omega) (by omega) (FW_grown_L385 n N f rc220 rc53 k) rc220 rc53 (nI nv) (nI nc) (nI more) (j := j) (by omega)
        refine ⟨y2, _, m2, t2, ?_, g2, by omega, g4⟩
        rw [← g1]
        simp only [FW_grown_L385]
        rw [if_neg (nI_ge (by omega) (by omega)), hpc, bo1_s, hpu, bo1_s, hpl, bo1_s, hpo, bo1_s, one_nI, one_nI, hwhy, bo1_s, if_pos rfl, hV, bo2_s, nI_c (a := c) (by omega), nI_c (a := u) (by omega), nI_c (a := 1 + lo) (by omega), nI_c (a := 1 + od) (by omega), bnd_s]
        refine txW hb (by omega) (Nat.le_of_eq ll8) (fun h1 => ?_)
        refine txC h1 (by omega) (inbN (by omega) (by decide)) (fun h2 => ?_)
        refine txW h2 (by omega) (Nat.le_of_eq ll2) (fun h3 => ?_)
        refine txC h3 (by omega) (inbN (by omega) (by decide)) (fun h4 => ?_)
        refine txW h4 (by omega) (Nat.le_of_eq ll0) (fun h5 => ?_)
        refine txD h5 (by omega) (inbN (by omega) (by decide)) (dl2 (by omega)) (fun h6 => ?_)
        refine txW h6 (by omega) (Nat.le_of_eq ll0) (fun h7 => ?_)
        refine txD h7 (by omega) (inbN (by omega) (by decide)) (dl1 (by omega)) (fun h8 => ?_)
        refine txW h8 (by omega) he.2.2.2.1 (fun h9 => ?_)
        rfl
      · obtain ⟨y2, m2, t2, g1, g2, g3, g4⟩ := g529 (f := f) hn hN he h (by omega) (by omega) (FW_grown_L385 n N f rc220 rc53 k) rc220 rc53 (nI nv) (nI nc) (nI more) (j := j) (by omega)
        refine ⟨y2, _, m2, t2, ?_, g2.le (by omega), by omega, g4⟩
        rw [← g1]
        simp only [FW_grown_L385]
        rw [if_neg (nI_ge (by omega) (by omega)), hpc, bo1_s, hpu, bo1_s, hpl, bo1_s, hpo, bo1_s, one_nI, hwhy, bo1_s, if_neg z]
    obtain ⟨y2, ns2, m2, t2, g1, g2, g3, g4⟩ := hstep
    obtain ⟨y', ns', m', t', i1, i2, i3, i4⟩ := ih (j + 1) k y2 ns2 m2 t2 (B + 29) (by omega) (by omega) g2 (by omega) (by omega)
    exact ⟨y', ns', m', t', g1.trans i1, i2, by omega, by omega⟩
/-- what grown gives back -/
def GE (n : Nat) (e2 : List Nat) (y : MM × List Nat) : Prop := ∃ nv nc ns m t, GWT n e2 y nv nc ns m t 460 ∧ m ≤ 100 ∧ t ≤ 200
theorem g220 (hn : 1000 ≤ n) (hN : N ≤ 3000) (he : EP l2 e1 e2) (rc53 : (MM × List Nat) → Nat → Int32 → Int32 → Option (MM × List Nat)) {people : Nat} (hpe : people ≤ 6) (hnv8 : nv ≤ 8) : ∀ (d nc k : Nat) (y : MM × List Nat) (ns m t B : Nat), nc + d = people → d < k → GWT n e2 y nv nc ns m t B → B + 23 * d + 145 ≤ 460 → t ≤ 100 → m + d ≤ 80 → ∃ y', FW_grown_L220 n N f rc53 k y l2 (nI nv) (nI people) (nI nc) = some y' ∧ GE n e2 y' := by
  intro d
  induction d with
  | zero =>
    intro nc k y ns m t B hj hk h hB ht hm
    obtain ⟨k, rfl⟩ : ∃ k', k = k' + 1 := ⟨k - 1, by omega⟩
    have e : nc = people := by omega
    subst e
    have h385 : ∀ more : Nat, more ≤ 5 → (0 < more → 0 < nv ∧ 0 < nc) → ∃ y', FW_grown_L385 n N f (FW_grown_L220 n N f rc53 k) rc53 n y l2 (nI nv) (nI nc) (nI more) (nI 0) = some y' ∧ GE n e2 y' := fun more h5 hp => by
      obtain ⟨y', ns', m', t', i1, i2, i3, i4⟩ := g385 (f := f) hn hN he (FW_grown_L220 n N f rc53 k) rc53 (more := more) h5 hnv8 (by omega) hp more 0 n y ns m t B (by omega) (by omega) h (by omega) (by omega)
      exact ⟨y', i1, nv, nc, ns', m', t', i2, by omega, by omega⟩
    simp only [FW_grown_L220]
    rw [if_pos (Int32.le_refl _)]
    have h0 : ∃ y', FW_grown_B369 n N f (FW_grown_L220 n N f rc53 k) rc53 y l2 (nI nv) (nI nc) = some y' ∧ GE n e2 y' := h385 0 (by decide) (fun z => absurd z (Nat.lt_irrefl 0))
    by_cases z1 : nI nv = 0
    · rw [if_pos z1]
      exact h0
    · rw [if_neg z1]
      by_cases z2 : nI nc = 0
      · rw [if_pos z2]
        exact h0
      · rw [if_neg z2]
        obtain ⟨q, hp, hq⟩ := pk_ok (A := 4) (M := 6) hN (f := f) (p := 4) (m := 6) rfl rfl (by decide) (by decide) (by decide)
        rw [hp, bo1_s]
        refine h385 q (by omega) (fun _ => ⟨?_, ?_⟩)
        · by_cases y0 : nv = 0
          · exact absurd (by rw [y0]; exact nI_0) z1
          · omega
        · by_cases y0 : nc = 0
          · exact absurd (by rw [y0]; exact nI_0) z2
          · omega
  | succ d ih =>
    intro nc k y ns m t B hj hk h hB ht hm
    obtain ⟨k, rfl⟩ : ∃ k', k = k' + 1 := ⟨k - 1, by omega⟩
    have h301 : ∀ pa mo : Nat, 1 ≤ pa → pa ≤ 240 → mo ≤ 9999 → ∃ y', FW_grown_B301 n N f (FW_grown_L220 n N f rc53 k) rc53 y l2 (nI nv) (nI people) (nI nc) (nI pa) (nI mo) = some y' ∧ GE n e2 y' := fun pa mo p1 p2 p3 => by
      obtain ⟨y2, g1, g2⟩ := g301 (N := N) (f := f) hn he h (by omega) (by omega) (FW_grown_L220 n N f rc53 k) rc53 (nI nv) (nI people) p1 p2 p3
      obtain ⟨y', i1, i2⟩ := ih (nc + 1) k y2 ns (m + 1) t (B + 23) (by omega) (by omega) g2 (by omega) ht (by omega)
      exact ⟨y', g1.trans i1, i2⟩
    have h255 : ∀ (Y0 : Int32) (M : Nat), Y0 = nI M → 1 ≤ M → M ≤ 240 → ∃ y', FW_grown_B255 n N f (FW_grown_L220 n N f rc53 k) rc53 y l2 (nI nv) (nI people) (nI nc) Y0 (60 + nI nc) = some y' ∧ GE n e2 y' := fun Y0 M hY m1 m2 => by
      obtain ⟨q, hp, hq⟩ := pk_ok (A := 60 + nI nc) (M := Y0) hN (f := f) (p := 60 + nc) (m := M) (nI_add 60 nc) hY (by omega) m1 (by omega)
      obtain ⟨r, hr, hr3⟩ := pk_ok (A := 80 + nI nc) (M := 3) hN (f := f) (p := 80 + nc) (m := 3) (nI_add 80 nc) rfl (by omega) (by decide) (by decide)
      unfold FW_grown_B255
      rw [hp, bo1_s, hr, bo1_s]
      by_cases z : nI r = 0
      · obtain ⟨o, ho, ho2⟩ := pk_ok (A := 90 + nI nc) (M := 10000) hN (f := f) (p := 90 + nc) (m := 10000) (nI_add 90 nc) rfl (by omega) (by decide) (by decide)
        rw [if_pos z, ho, bo1_s, one_nI]
        exact h301 (1 + q) o (by omega) (by omega) (by omega)
      · obtain ⟨o, ho, ho2⟩ := pk_ok (A := 90 + nI nc) (M := 300) hN (f := f) (p := 90 + nc) (m := 300) (nI_add 90 nc) rfl (by omega) (by decide) (by decide)
        rw [if_neg z, ho, bo1_s, one_nI]
        exact h301 (1 + q) o (by omega) (by omega) (by omega)
    obtain ⟨q, hp, hq⟩ := pk_ok (A := 70 + nI nc) (M := 2) hN (f := f) (p := 70 + nc) (m := 2) (nI_add 70 nc) rfl (by omega) (by decide) (by decide)
    simp only [FW_grown_L220]
    rw [if_neg (nI_ge (by omega) (by omega)), hp, bo1_s]
    by_cases z : nI q = 0
    · rw [if_pos z]
      exact h255 240 240 rfl (by decide) (by decide)
    · rw [if_neg z]
      exact h255 30 30 rfl (by decide) (by decide)
theorem g53 (hn : 1000 ≤ n) (hN : N ≤ 3000) (he : EP l2 e1 e2) {many : Nat} (hma : many ≤ 8) : ∀ (d nv k : Nat) (y : MM × List Nat) (m t B : Nat), nv + d = many → d < k → GWT n e2 y nv 0 0 m t B → B + 20 * d + 138 + 145 ≤ 460 → t ≤ 100 → m + d ≤ 60 → ∃ y', FW_grown_L53 n N f k y l2 (nI many) (nI nv) = some y' ∧ GE n e2 y' := by
  intro d
  induction d with
  | zero =>
    intro nv k y m t B hj hk h hB ht hm
    obtain ⟨k, rfl⟩ : ∃ k', k = k' + 1 := ⟨k - 1, by omega⟩
    have e : nv = many := by omega
    subst e
    obtain ⟨q, hp, hq⟩ := pk_ok (A := 3) (M := 7) hN (f := f) (p := 3) (m := 7) rfl rfl (by decide) (by decide) (by decide)
    simp only [FW_grown_L53]
    rw [if_pos (Int32.le_refl _), hp, bo1_s]
    exact g220 (f := f) hn hN he (FW_grown_L53 n N f k) (people := q) (by omega) (by omega) q 0 n y 0 m t B (by omega) (by omega) h (by omega) ht (by omega)
  | succ d ih =>
    intro nv k y m t B hj hk h hB ht hm
    obtain ⟨k, rfl⟩ : ∃ k', k = k' + 1 := ⟨k - 1, by omega⟩
    have h134 : ∀ (Y0 : Int32) (M wd wl : Nat), Y0 = nI M → 1 ≤ M → M ≤ 99 → 1 ≤ wd → wd ≤ 60 → 1 ≤ wl → wl ≤ 4 → ∃ y', FW_grown_B134 n N f (FW_grown_L53 n N f k) y l2 (nI many) (nI nv) (nI wd) (nI wl) Y0 (40 + nI nv) = some y' ∧ GE n e2 y' := fun Y0 M wd wl hY m1 m2 a1 a2 b1 b2 => by
      obtain ⟨q, hp, hq⟩ := pk_ok (A := 40 + nI nv) (M := Y0) hN (f := f) (p := 40 + nv) (m := M) (nI_add 40 nv) hY (by omega) m1 (by omega)
      obtain ⟨y2, g1, g2⟩ := g134 hn he h (by omega) (by omega) (FW_grown_L53 n N f k) (nI many) Y0 (40 + nI nv) a1 a2 b1 b2 hp (by omega)
      obtain ⟨y', i1, i2⟩ := ih (nv + 1) k y2 (m + 1) t (B + 20) (by omega) (by omega) g2 (by omega) ht (by omega)
      exact ⟨y', g1.trans i1, i2⟩
    have h87 : ∀ (Y0 : Int32) (M : Nat), Y0 = nI M → 1 ≤ M → M ≤ 60 → ∃ y', FW_grown_B87 n N f (FW_grown_L53 n N f k) y l2 (nI many) (nI nv) Y0 (10 + nI nv) = some y' ∧ GE n e2 y' := fun Y0 M hY m1 m2 => by
      obtain ⟨q, hp, hq⟩ := pk_ok (A := 10 + nI nv) (M := Y0) hN (f := f) (p := 10 + nv) (m := M) (nI_add 10 nv) hY (by omega) m1 (by omega)
      obtain ⟨r, hr, hr4⟩ := pk_ok (A := 30 + nI nv) (M := 4) hN (f := f) (p := 30 + nv) (m := 4) (nI_add 30 nv) rfl (by omega) (by decide) (by decide)
      obtain ⟨s, hs, hs2⟩ := pk_ok (A := 50 + nI nv) (M := 2) hN (f := f) (p := 50 + nv) (m := 2) (nI_add 50 nv) rfl (by omega) (by decide) (by decide)
      unfold FW_grown_B87
      rw [hp, bo1_s, hr, bo1_s, hs, bo1_s, one_nI, one_nI]
      by_cases z : nI s = 0
      · rw [if_pos z]
        exact h134 99 99 (1 + q) (1 + r) rfl (by decide) (by decide) (by omega) (by omega) (by omega) (by omega)
      · rw [if_neg z]
        exact h134 9 9 (1 + q) (1 + r) rfl (by decide) (by decide) (by omega) (by omega) (by omega) (by omega)
    obtain ⟨q, hp, hq⟩ := pk_ok (A := 20 + nI nv) (M := 2) hN (f := f) (p := 20 + nv) (m := 2) (nI_add 20 nv) rfl (by omega) (by decide) (by decide)
    simp only [FW_grown_L53]
    rw [if_neg (nI_ge (by omega) (by omega)), hp, bo1_s]
    by_cases z : nI q = 0
    · rw [if_pos z]
      exact h87 60 60 rfl (by decide) (by decide)
    · rw [if_neg z]
      exact h87 9 9 rfl (by decide) (by decide)
theorem w0_row : ∀ k, k < 390 → row w0 k = 0 := fun k _ => by
  show (sI (sI zM 0 9 (-1)) 0 11 (-1)).1 2 k = 0
  rw [sI_o _ _ _ (by decide), sI_o _ _ _ (by decide)]
  rfl
theorem g24 (hn : 1000 ≤ n) (hN : N ≤ 3000) (he : EP l2 e1 e2) : ∃ y', FW_grown_B24 n N f (V0, []) l2 = some y' ∧ GE n e2 y' := by
  obtain ⟨h1, h2, hl, hl3, hlb⟩ := id he
  obtain ⟨q, hp, hq⟩ := pk_ok (A := 2) (M := 9) hN (f := f) (p := 2) (m := 9) rfl rfl (by decide) (by decide) (by decide)
  have hG : GWT n e2 (V0, wlN 6 ++ wlN l2) 0 0 0 0 0 9 := by
    refine ⟨wlN 6 ++ (e1 ++ [59]), ?_, ⟨w0, RV.zero w0_row⟩, rt_0 hn h1, ⟨?_, ?_⟩, ?_⟩
    · show wlN 6 ++ wlN l2 = _
      rw [hl]
      simp only [List.append_assoc]
    · show 3 ≤ (wlN 6 ++ wlN l2).length
      rw [List.length_append, ll6]
      omega
    · show (wlN 6 ++ wlN l2).length ≤ 9
      rw [List.length_append, ll6]
      omega
    · exact by_app by_6 hlb
  obtain ⟨y', i1, i2⟩ := g53 (f := f) hn hN he (many := q) (by omega) q 0 n (V0, wlN 6 ++ wlN l2) 0 0 9 (by omega) (by omega) hG (by omega) (by omega) (by omega)
  refine ⟨y', ?_, i2⟩
  unfold FW_grown_B24
  rw [gd_t (decide_eq_true (show ([] : List Nat).length < 500 by decide)), bnd_s]
  show gd (decide ((wlN 6).length < 500)) (bnd (V0, wlN 6 ++ wlN l2) fun y7 => bo1 (FQ_pick N f 2 9) fun x10 => FW_grown_L53 n N f n y7 l2 x10 0) = some y'
  rw [gd_t (decide_eq_true (show (wlN 6).length < 500 by rw [ll6]; decide)), bnd_s, hp, bo1_s]
  exact i1
theorem grown_ok (hn : 1000 ≤ n) (hN : N ≤ 3000) : ∃ y e2, FW_grown n N f (V0, []) = some y ∧ sps e2 ∧ GE n e2 y := by
  obtain ⟨q, hp, hq⟩ := pk_ok (A := 1) (M := 2) hN (f := f) (p := 1) (m := 2) rfl rfl (by decide) (by decide) (by decide)
  unfold FW_grown
  rw [hp, bo1_s]
  by_cases z : nI q = 0
  · rw [if_pos z]
    obtain ⟨y, i1, i2⟩ := g24 (f := f) hn hN ep_3
    exact ⟨y, [], i1, sps_0, i2⟩
  · rw [if_neg z]
    obtain ⟨y, i1, i2⟩ := g24 (f := f) hn hN ep_1
    exact ⟨y, [10], i1, sps_1 (Or.inr rfl), i2⟩
end GROWN2
