set_option maxHeartbeats 400000
/-! WHAT grown WRITES: line after line -/
def by256 (L : List Nat) : Prop := ∀ x, x ∈ L → x < 256
theorem by_app {A B : List Nat} (h1 : by256 A) (h2 : by256 B) : by256 (A ++ B) := fun x hx => by
  rcases List.mem_append.mp hx with z | z
  · exact h1 x z
  · exact h2 x z
theorem by_one {k : Nat} (h : k < 20) : by256 [97 + k] := fun x hx => by
  rw [List.mem_singleton.mp hx]
  omega
theorem by_dgl {q : Nat} (h : q < 10000) : by256 (dgl q) := fun x hx => by
  unfold dgl at hx
  by_cases z1 : q < 10
  · rw [if_pos z1] at hx
    simp only [List.mem_cons, List.not_mem_nil, or_false] at hx
    omega
  · rw [if_neg z1] at hx
    by_cases z2 : q < 100
    · rw [if_pos z2] at hx
      simp only [List.mem_cons, List.not_mem_nil, or_false] at hx
      omega
    · rw [if_neg z2] at hx
      by_cases z3 : q < 1000
      · rw [if_pos z3] at hx
        simp only [List.mem_cons, List.not_mem_nil, or_false] at hx
        omega
      · rw [if_neg z3] at hx
        simp only [List.mem_cons, List.not_mem_nil, or_false] at hx
        omega
theorem by_0 : by256 (wlN 0) := by rw [wl0]; unfold by256; decide
theorem by_2 : by256 (wlN 2) := by rw [wl2]; unfold by256; decide
theorem by_5 : by256 (wlN 5) := by rw [wl5]; unfold by256; decide
theorem by_6 : by256 (wlN 6) := by rw [wl6]; unfold by256; decide
theorem by_7 : by256 (wlN 7) := by rw [wl7]; unfold by256; decide
theorem by_8 : by256 (wlN 8) := by rw [wl8]; unfold by256; decide
theorem by_10 : by256 (wlN 10) := by rw [wl10]; unfold by256; decide
theorem by_at : ∀ {L : List Nat}, by256 L → ∀ j, j < L.length → L.getD j 0 < 256
  | [], _, j, h => absurd h (Nat.not_lt_zero j)
  | a :: _, hb, 0, _ => hb a (List.mem_cons_self ..)
  | _ :: L, hb, j + 1, h => by
    show L.getD j 0 < 256
    exact by_at (L := L) (fun x hx => hb x (List.mem_cons_of_mem _ hx)) j (Nat.lt_of_succ_lt_succ h)
theorem ll0 : (wlN 0).length = 1 := by rw [wl0]; rfl
theorem ll2 : (wlN 2).length = 2 := by rw [wl2]; rfl
theorem ll5 : (wlN 5).length = 10 := by rw [wl5]; rfl
theorem ll6 : (wlN 6).length = 6 := by rw [wl6]; rfl
theorem ll7 : (wlN 7).length = 5 := by rw [wl7]; rfl
theorem ll8 : (wlN 8).length = 7 := by rw [wl8]; rfl
theorem ll10 : (wlN 10).length = 8 := by rw [wl10]; rfl
theorem dl1 {q : Nat} (h : q < 10) : (dgl q).length ≤ 1 := by
  rw [dgl_len]
  unfold dg3
  rw [if_pos h]
  exact Nat.le_refl _
theorem dl2 {q : Nat} (h : q < 100) : (dgl q).length ≤ 2 := by
  by_cases z : q < 10
  · have := dl1 z
    omega
  · rw [dgl_len]
    unfold dg3
    rw [if_neg z, if_pos h]
    exact Nat.le_refl _
theorem dl3 {q : Nat} (h : q < 1000) : (dgl q).length ≤ 3 := by
  by_cases z : q < 100
  · have := dl2 z
    omega
  · rw [dgl_len]
    unfold dg3
    rw [if_neg (by omega), if_neg z, if_pos h]
    exact Nat.le_refl _
theorem dl4 (q : Nat) : (dgl q).length ≤ 4 := by
  rw [dgl_len]
  exact (dg3_le q).1
/-- the two ways to end a line -/
def EP (l2 : Nat) (e1 e2 : List Nat) : Prop := eOne e1 ∧ sps e2 ∧ wlN l2 = e1 ++ ([59] ++ e2) ∧ (wlN l2).length ≤ 3 ∧ by256 (wlN l2)
theorem ep_3 : EP 3 [] [] := ⟨Or.inl rfl, sps_0, by decide, by decide, by unfold by256; decide⟩
theorem ep_1 : EP 1 [32] [10] := ⟨Or.inr rfl, sps_1 (Or.inr rfl), by decide, by decide, by unfold by256; decide⟩
/-- the text so far makes the world so far -/
def GWT (n : Nat) (e2 : List Nat) (y : MM × List Nat) (nv nc ns m t B : Nat) : Prop := ∃ T, y.2 = T ++ e2 ∧ (∃ u, RV y.1 u nv nc ns t) ∧ RT n T m y.1 nv nc ns t ∧ (3 ≤ y.2.length ∧ y.2.length ≤ B) ∧ by256 y.2
theorem GWT.le {n : Nat} {e2 : List Nat} {y : MM × List Nat} {nv nc ns m t B B' : Nat} (h : GWT n e2 y nv nc ns m t B) (hB : B ≤ B') : GWT n e2 y nv nc ns m t B' := by
  obtain ⟨T, h1, h2, h3, ⟨h4, h5⟩, h6⟩ := h
  exact ⟨T, h1, h2, h3, ⟨h4, by omega⟩, h6⟩
theorem GWT.len {n : Nat} {e2 : List Nat} {y : MM × List Nat} {nv nc ns m t B : Nat} (h : GWT n e2 y nv nc ns m t B) : 3 ≤ y.2.length ∧ y.2.length ≤ B := by
  obtain ⟨T, h1, h2, h3, h4, h6⟩ := h
  exact h4
section GROW
variable {n nv nc ns m t B l2 : Nat} {e1 e2 : List Nat} {y : MM × List Nat}
theorem gr_V (hn : 1000 ≤ n) (he : EP l2 e1 e2) (h : GWT n e2 y nv nc ns m t B) (hnv : nv < 8) {wd wl pr : Nat} (w1 : 1 ≤ wd) (w2 : wd ≤ 60) (p1 : 1 ≤ wl) (p2 : wl ≤ 4) (q1 : 1 ≤ pr) (q2 : pr ≤ 99) : ∃ V', FW_addValley y.1 (nI wd) (nI wl) (nI pr) = some (nI nv, V') ∧ GWT n e2 (V', y.2 ++ wlN 10 ++ [97 + nv] ++ wlN 0 ++ dgl wd ++ wlN 0 ++ dgl wl ++ wlN 0 ++ dgl pr ++ wlN l2) (nv + 1) nc ns (m + 1) t (B + 20) := by
  obtain ⟨h1, h2, hl, hl3, hlb⟩ := he
  obtain ⟨T, eT, ⟨u, hu⟩, hRT, ⟨b1, b2⟩, hb⟩ := h
  obtain ⟨V', u', s1, s2, s3, s4⟩ := step_V hu hnv w1 w2 p1 p2 q1 q2
  have k1 := dl2 (q := wd) (by omega)
  have k2 := dl1 (q := wl) (by omega)
  have k3 := dl2 (q := pr) (by omega)
  refine ⟨V', s2, T ++ (e2 ++ tV e1 nv wd wl pr), ?_, ⟨u', s4⟩, rt_V hn h1 h2 hRT hnv w1 w2 p1 p2 q1 q2 s2, ⟨?_, ?_⟩, ?_⟩
  · show y.2 ++ wlN 10 ++ [97 + nv] ++ wlN 0 ++ dgl wd ++ wlN 0 ++ dgl wl ++ wlN 0 ++ dgl pr ++ wlN l2 = _
    rw [eT, hl]
    unfold tV
    simp only [List.append_assoc]
  · show 3 ≤ (y.2 ++ wlN 10 ++ [97 + nv] ++ wlN 0 ++ dgl wd ++ wlN 0 ++ dgl wl ++ wlN 0 ++ dgl pr ++ wlN l2).length
    simp only [List.length_append]
    omega
  · show (y.2 ++ wlN 10 ++ [97 + nv] ++ wlN 0 ++ dgl wd ++ wlN 0 ++ dgl wl ++ wlN 0 ++ dgl pr ++ wlN l2).length ≤ _
    simp only [List.length_append, ll10, ll0, List.length_cons, List.length_nil]
    omega
  · exact by_app (by_app (by_app (by_app (by_app (by_app (by_app (by_app (by_app hb by_10) (by_one (by omega))) by_0) (by_dgl (by omega))) by_0) (by_dgl (by omega))) by_0) (by_dgl (by omega))) hlb
theorem gr_C (hn : 1000 ≤ n) (he : EP l2 e1 e2) (h : GWT n e2 y nv nc ns m t B) (hnc : nc < 8) {pa mo : Nat} (p1 : 1 ≤ pa) (p2 : pa ≤ 240) (m2 : mo ≤ 9999) : ∃ V', FW_addCustomer y.1 (nI pa) (nI mo) = some (nI nc, V') ∧ GWT n e2 (V', y.2 ++ wlN 5 ++ [97 + nc] ++ wlN 0 ++ dgl pa ++ wlN 0 ++ dgl mo ++ wlN l2) nv (nc + 1) ns (m + 1) t (B + 23) := by
  obtain ⟨h1, h2, hl, hl3, hlb⟩ := he
  obtain ⟨T, eT, ⟨u, hu⟩, hRT, ⟨b1, b2⟩, hb⟩ := h
  obtain ⟨V', u', s1, s2, s3, s4⟩ := step_C hu hnc p1 p2 m2
  have k1 := dl3 (q := pa) (by omega)
  have k2 := dl4 mo
  refine ⟨V', s2, T ++ (e2 ++ tC e1 nc pa mo), ?_, ⟨u', s4⟩, rt_C hn h1 h2 hRT hnc p1 p2 m2 s2, ⟨?_, ?_⟩, ?_⟩
  · show y.2 ++ wlN 5 ++ [97 + nc] ++ wlN 0 ++ dgl pa ++ wlN 0 ++ dgl mo ++ wlN l2 = _
    rw [eT, hl]
    unfold tC
    simp only [List.append_assoc]
  · show 3 ≤ (y.2 ++ wlN 5 ++ [97 + nc] ++ wlN 0 ++ dgl pa ++ wlN 0 ++ dgl mo ++ wlN l2).length
    simp only [List.length_append]
    omega
  · show (y.2 ++ wlN 5 ++ [97 + nc] ++ wlN 0 ++ dgl pa ++ wlN 0 ++ dgl mo ++ wlN l2).length ≤ _
    simp only [List.length_append, ll5, ll0, List.length_cons, List.length_nil]
    omega
  · exact by_app (by_app (by_app (by_app (by_app (by_app (by_app hb by_5) (by_one (by omega))) by_0) (by_dgl (by omega))) by_0) (by_dgl (by omega))) hlb
theorem gr_S (hn : 1000 ≤ n) (he : EP l2 e1 e2) (h : GWT n e2 y nv nc ns m t B) {c u lo od : Nat} (hc : c < nc) (hv : u < nv) (l1 : 1 ≤ lo) (l3 : lo ≤ 20) (o1 : 1 ≤ od) (o2 : od ≤ 4) (hw : FW_refusal n y.1 (nI c) (nI u) (nI od) = some 0) : ∃ V', FW_sell y.1 (nI c) (nI u) (nI lo) (nI od) = some (nI ns, V') ∧ GWT n e2 (V', y.2 ++ wlN 8 ++ [97 + c] ++ wlN 2 ++ [97 + u] ++ wlN 0 ++ dgl lo ++ wlN 0 ++ dgl od ++ wlN l2) nv nc (ns + 1) (m + 1) t (B + 19) := by
  obtain ⟨h1, h2, hl, hl3, hlb⟩ := he
  obtain ⟨T, eT, ⟨u0, hu⟩, hRT, ⟨b1, b2⟩, hb⟩ := h
  obtain ⟨M, bk, hm⟩ := hu.nums
  have hbv := hm.bv
  have hbc := hm.bc
  have hw1 : whyF (row u0) ns c u (nI od) = 0 := Option.some.inj ((hu.why (n := n) (by omega) hc hv (nI od)).symm.trans hw)
  obtain ⟨V', u', s1, s2, s3, s4⟩ := step_S hu hc hv l1 l3 o1 o2 hw1
  have k1 := dl2 (q := lo) (by omega)
  have k2 := dl1 (q := od) (by omega)
  refine ⟨V', s2, T ++ (e2 ++ tS e1 c u lo od), ?_, ⟨u', s4⟩, rt_S hn h1 h2 hRT hc hv l1 l3 o1 o2 hw s2, ⟨?_, ?_⟩, ?_⟩
  · show y.2 ++ wlN 8 ++ [97 + c] ++ wlN 2 ++ [97 + u] ++ wlN 0 ++ dgl lo ++ wlN 0 ++ dgl od ++ wlN l2 = _
    rw [eT, hl]
    unfold tS
    simp only [List.append_assoc]
  · show 3 ≤ (y.2 ++ wlN 8 ++ [97 + c] ++ wlN 2 ++ [97 + u] ++ wlN 0 ++ dgl lo ++ wlN 0 ++ dgl od ++ wlN l2).length
    simp only [List.length_append]
    omega
  · show (y.2 ++ wlN 8 ++ [97 + c] ++ wlN 2 ++ [97 + u] ++ wlN 0 ++ dgl lo ++ wlN 0 ++ dgl od ++ wlN l2).length ≤ _
    simp only [List.length_append, ll8, ll2, ll0, List.length_cons, List.length_nil]
    omega
  · exact by_app (by_app (by_app (by_app (by_app (by_app (by_app (by_app (by_app hb by_8) (by_one (by omega))) by_2) (by_one (by omega))) by_0) (by_dgl (by omega))) by_0) (by_dgl (by omega))) hlb
theorem gr_P (hn : 1000 ≤ n) (he : EP l2 e1 e2) (h : GWT n e2 y nv nc ns m t B) {s : Nat} (s1 : 1 ≤ s) (s2 : s ≤ 20) (ht : t + s ≤ 9999) : ∃ x V', FW_pass n y.1 (nI s) = some (x, V') ∧ GWT n e2 (V', y.2 ++ wlN 7 ++ dgl s ++ wlN l2) nv nc ns (m + 1) (t + s) (B + 10) := by
  obtain ⟨h1, h2, hl, hl3, hlb⟩ := he
  obtain ⟨T, eT, ⟨u0, hu⟩, hRT, ⟨b1, b2⟩, hb⟩ := h
  obtain ⟨x, V', u', r1, r2, r3, r4⟩ := step_P hn hu (s := s) (by omega) ht
  have k1 := dl2 (q := s) (by omega)
  refine ⟨x, V', r2, T ++ (e2 ++ tP e1 s), ?_, ⟨u', r4⟩, rt_P hn h1 h2 hRT s1 (by omega) ht r2, ⟨?_, ?_⟩, ?_⟩
  · show y.2 ++ wlN 7 ++ dgl s ++ wlN l2 = _
    rw [eT, hl]
    unfold tP
    simp only [List.append_assoc]
  · show 3 ≤ (y.2 ++ wlN 7 ++ dgl s ++ wlN l2).length
    simp only [List.length_append]
    omega
  · show (y.2 ++ wlN 7 ++ dgl s ++ wlN l2).length ≤ _
    simp only [List.length_append, ll7]
    omega
  · exact by_app (by_app (by_app hb by_7) (by_dgl (by omega))) hlb
end GROW
