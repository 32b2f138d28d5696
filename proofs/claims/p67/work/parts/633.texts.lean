set_option maxHeartbeats 400000
/-! A WHOLE TEXT, as the reference reads it -/
/-- the reference's reading, from its first word on -/
def hdR (n k : Nat) (v : Wd) : Option (Int32 × Wd) := bo1 (FX13_mustWord n v 437857460) fun w11 => bo1 (FX13_mustSign n w11 59) fun w14 => FX13_readText_L25 n k w14
/-- the text T, read from an empty row, m lines of it, makes the world V -/
def RT (n : Nat) (T : List Nat) (m : Nat) (V : MM) (nv nc ns t : Nat) : Prop := ∀ (X : List Nat) (v : Wd), LN v (T ++ X) → (∀ k, k < 390 → row v k = 0) → ∃ v', (∀ k, hdR n (k + m) v = FX13_readText_L25 n k v') ∧ LN v' X ∧ RV V v' nv nc ns t
section TEXTS
variable {n nv nc ns t m : Nat} {V : MM} {e1 e2 T : List Nat}
theorem RV.zero {v : Wd} (h : ∀ k, k < 390 → row v k = 0) : RV V0 v 0 0 0 0 := by
  have hc := clear_ok (FX6_clear zM) h
  refine ⟨⟨⟨fun k hk => (h k (by omega)).symm, fun u hu => absurd hu (Nat.not_lt_zero u), fun u hu => absurd hu (Nat.not_lt_zero u), fun u hu => absurd hu (Nat.not_lt_zero u)⟩, ⟨?_, ?_, ?_, fun _ => 0, fun _ => 0, fun u hu => absurd hu (Nat.not_lt_zero u), fun u hu => absurd hu (Nat.not_lt_zero u), Nat.zero_le _⟩, fun u hu => absurd hu (Nat.not_lt_zero u), ⟨fun u hu => absurd hu (Nat.not_lt_zero u), fun u hu => absurd hu (Nat.not_lt_zero u)⟩, _, _, hc.toN⟩, ⟨_, 0, 0, 0, _, hc⟩, 0, (h 3 (by decide)).trans nI_0.symm, Nat.le_refl _⟩
  · show (0 : Int32) - row v 4 - row v 5 - 0 = 0
    rw [h 4 (by decide), h 5 (by decide)]
    decide
  · show row v 7 - 0 - row v 4 - 0 = 0
    rw [h 7 (by decide), h 4 (by decide)]
    decide
  · show (0 : Int32) = row v 4
    exact (h 4 (by decide)).symm
theorem rt_0 (hn : 1000 ≤ n) (h1 : eOne e1) : RT n (wlN 6 ++ (e1 ++ [59])) 0 V0 0 0 0 0 := by
  intro X v h hz
  have e : (wlN 6 ++ (e1 ++ [59])) ++ X = [] ++ (lsB [13, 1, 18, 11, 5, 20] ++ (e1 ++ 59 :: X)) := by
    rw [wl6]
    simp only [List.append_assoc]
    rfl
  rw [e] at h
  obtain ⟨va, ga, Fa, La⟩ := ln_word hn sps_0 ok_m (h1.nx X) vl_n.1 h
  obtain ⟨vb, gb, Fb, Lb⟩ := ln_semi hn h1.sp La
  refine ⟨vb, fun k => ?_, Lb, ((RV.zero hz).go Fa).go Fb⟩
  unfold hdR
  rw [ga, bo1_s, gb, bo1_s]
  rfl
theorem rt_V (hn : 1000 ≤ n) (h1 : eOne e1) (h2 : sps e2) (h : RT n T m V nv nc ns t) {wd wl pr : Nat} (hnv : nv < 8) (w1 : 1 ≤ wd) (w2 : wd ≤ 60) (l1 : 1 ≤ wl) (l2 : wl ≤ 4) (p1 : 1 ≤ pr) (p2 : pr ≤ 99) {V' : MM} (hV : FW_addValley V (nI wd) (nI wl) (nI pr) = some (nI nv, V')) : RT n (T ++ (e2 ++ tV e1 nv wd wl pr)) (m + 1) V' (nv + 1) nc ns t := by
  intro X v hl hz
  rw [List.append_assoc, List.append_assoc] at hl
  obtain ⟨v1, a1, a2, a3⟩ := h _ v hl hz
  obtain ⟨V2, v2, b1, b2, b3, b4⟩ := line_V hn h1 h2 hnv w1 w2 l1 l2 p1 p2 a2 a3
  have e : V2 = V' := congrArg Prod.snd (Option.some.inj (b1.symm.trans hV))
  subst e
  refine ⟨v2, fun k => ?_, b3, b4⟩
  rw [show k + (m + 1) = (k + 1) + m by omega, a1 (k + 1), b2 k]
theorem rt_C (hn : 1000 ≤ n) (h1 : eOne e1) (h2 : sps e2) (h : RT n T m V nv nc ns t) {pa mo : Nat} (hnc : nc < 8) (p1 : 1 ≤ pa) (p2 : pa ≤ 240) (m2 : mo ≤ 9999) {V' : MM} (hV : FW_addCustomer V (nI pa) (nI mo) = some (nI nc, V')) : RT n (T ++ (e2 ++ tC e1 nc pa mo)) (m + 1) V' nv (nc + 1) ns t := by
  intro X v hl hz
  rw [List.append_assoc, List.append_assoc] at hl
  obtain ⟨v1, a1, a2, a3⟩ := h _ v hl hz
  obtain ⟨V2, v2, b1, b2, b3, b4⟩ := line_C hn h1 h2 hnc p1 p2 m2 a2 a3
  have e : V2 = V' := congrArg Prod.snd (Option.some.inj (b1.symm.trans hV))
  subst e
  refine ⟨v2, fun k => ?_, b3, b4⟩
  rw [show k + (m + 1) = (k + 1) + m by omega, a1 (k + 1), b2 k]
theorem rt_S (hn : 1000 ≤ n) (h1 : eOne e1) (h2 : sps e2) (h : RT n T m V nv nc ns t) {c u lo od : Nat} (hc : c < nc) (hv : u < nv) (l1 : 1 ≤ lo) (l2 : lo ≤ 20) (o1 : 1 ≤ od) (o2 : od ≤ 4) (hw : FW_refusal n V (nI c) (nI u) (nI od) = some 0) {V' : MM} (hV : FW_sell V (nI c) (nI u) (nI lo) (nI od) = some (nI ns, V')) : RT n (T ++ (e2 ++ tS e1 c u lo od)) (m + 1) V' nv nc (ns + 1) t := by
  intro X v hl hz
  rw [List.append_assoc, List.append_assoc] at hl
  obtain ⟨v1, a1, a2, a3⟩ := h _ v hl hz
  have hw1 : whyF (row v1) ns c u (nI od) = 0 := Option.some.inj ((a3.why (n := n) (by omega) hc hv (nI od)).symm.trans hw)
  obtain ⟨V2, v2, b1, b2, b3, b4⟩ := line_S hn h1 h2 hc hv l1 l2 o1 o2 hw1 a2 a3
  have e : V2 = V' := congrArg Prod.snd (Option.some.inj (b1.symm.trans hV))
  subst e
  refine ⟨v2, fun k => ?_, b3, b4⟩
  rw [show k + (m + 1) = (k + 1) + m by omega, a1 (k + 1), b2 k]
theorem rt_P (hn : 1000 ≤ n) (h1 : eOne e1) (h2 : sps e2) (h : RT n T m V nv nc ns t) {s : Nat} (s1 : 1 ≤ s) (s2 : s ≤ 240) (hl : t + s ≤ 9999) {x : Int32} {V' : MM} (hV : FW_pass n V (nI s) = some (x, V')) : RT n (T ++ (e2 ++ tP e1 s)) (m + 1) V' nv nc ns (t + s) := by
  intro X v hX hz
  rw [List.append_assoc, List.append_assoc] at hX
  obtain ⟨v1, a1, a2, a3⟩ := h _ v hX hz
  obtain ⟨x2, V2, v2, b1, b2, b3, b4⟩ := line_P hn h1 h2 s1 s2 hl a2 a3
  have e : V2 = V' := congrArg Prod.snd (Option.some.inj (b1.symm.trans hV))
  subst e
  refine ⟨v2, fun k => ?_, b3, b4⟩
  rw [show k + (m + 1) = (k + 1) + m by omega, a1 (k + 1), b2 k]
/-- the text from its start to its end -/
theorem text_ok (hn : 1000 ≤ n) (h2 : sps e2) (h : RT n T m V nv nc ns t) (hm : m < n) (hL : (T ++ e2).length ≤ 600) (h256 : ∀ j, j < (T ++ e2).length → (T ++ e2).getD j 0 < 256) {v0 : Wd} (hT : TE v0 (T ++ e2)) : ∃ vF, FX13_readText n v0 = some (nI ns, vF) ∧ (vF 15).1 0 0 = 0 ∧ RV V vF nv nc ns t := by
  have eA := lays_ok (n := n) (by omega) v0
  have A15 : ∀ j, j ≠ 4 → (cpW v0 2 0 4 0 390 15).1 j = (v0 15).1 j := fun j hj => cpW_j _ _ _ _ _ _ hj
  generalize cpW v0 2 0 4 0 390 = va at eA A15
  obtain ⟨vb, eB, b1, b2, b3, b4, b5, b6, b7⟩ := beginsText_ok hn (v := va) (b := fun j => (T ++ e2).getD j 0) (f := (T ++ e2).length) hL (by rw [A15 0 (by decide)]; exact hT.1) (fun j hj => by rw [A15 1 (by decide)]; exact ⟨h256 j hj, hT.2 j hj⟩)
  obtain ⟨vc, eC, c1, c2⟩ := begins_ok hn vb
  have hLN : LN vc (T ++ e2) := ⟨_, _, 0, b5.fr c1, ⟨Nat.zero_add _, fun j _ => by rw [Nat.zero_add]⟩, (c1.2.2.2 8 (by decide) (by decide)).trans b6⟩
  obtain ⟨vd, d1, d2, d3⟩ := h e2 vc hLN c2
  obtain ⟨k, rfl⟩ : ∃ k, n = (k + 1) + m := ⟨n - m - 1, by omega⟩
  obtain ⟨d6, d8⟩ := ln_E h2 d2
  have hE : FX13_readText_L25 (k + 1 + m) (k + 1) vd = RE (k + 1 + m) vd := by
    simp only [FX13_readText_L25]
    rw [gdR d8, bnd_s, if_pos rfl, if_pos d6]
    rfl
  obtain ⟨M, bk, hmm⟩ := d3.nums
  refine ⟨nt (nt (E3 vd) 0 0) 18 0, ?_, ?_, d3.ro ?_⟩
  · unfold FX13_readText
    rw [eA, bo1_s, eB, bo1_s, eC, bo1_s]
    show hdR (k + 1 + m) (k + 1 + m) vc = _
    rw [d1 (k + 1), hE, RE_g d8, show row vd 2 = nI ns from hmm.s0]
  · rw [nt_k, if_neg (by decide), nt_k, if_pos rfl]
  · rw [nt_row, nt_row]
    exact E3_j vd (show (2 : Nat) ≠ 0 by decide)
end TEXTS
