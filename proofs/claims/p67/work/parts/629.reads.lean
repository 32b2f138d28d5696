set_option maxHeartbeats 400000
/-! THE REFERENCE READS: words, numbers, signs, names -/
section READS
variable {n : Nat} {v : Wd}
theorem gdR (h : (v 15).1 0 8 = 0) : FX13_isGood v = true := by
  unfold FX13_isGood
  rw [if_pos h]
theorem wdR {p : Nat} (h6 : (v 15).1 0 6 = 1) (h12 : (v 15).2 0 12 = lN p) (h8 : (v 15).1 0 8 = 0) (c : Int64) : FX13_isWord v c = decide (lN p = c) := by
  unfold FX13_isWord
  rw [if_pos h8, if_pos h6, h12]
  by_cases z : lN p = c
  · rw [if_pos ((lg_cmp_eq _ _).mpr z), decide_eq_true z]
  · rw [if_neg (fun y => z ((lg_cmp_eq _ _).mp y)), decide_eq_false z]
theorem sgR {c : Int32} (h6 : (v 15).1 0 6 = 3) (h7 : (v 15).1 0 7 = c) (h8 : (v 15).1 0 8 = 0) : FX13_isSign v c = true := by
  unfold FX13_isSign
  rw [if_pos h8, if_pos h6, if_pos h7]
theorem ln_word (hn : 1000 ≤ n) {U ls Y : List Nat} (hU : sps U) (hls : okName ls) (hY : nX Y) {c : Int64} (hc : lN (pk5 ls) = c) (h : LN v (U ++ (lsB ls ++ Y))) : ∃ v', FX13_mustWord n v c = some v' ∧ GoF v v' ∧ LN v' Y := by
  obtain ⟨a6, a12, a8, v', g, F, L⟩ := ln_W hn hU hls hY h
  refine ⟨v', ?_, F, L⟩
  unfold FX13_mustWord
  rw [gdR a8, bnd_s, if_pos rfl, wdR a6 a12 a8, decide_eq_true hc, bnd_s, if_pos rfl, bnd_s, if_pos rfl, g, bo1_s]
theorem ln_semi (hn : 1000 ≤ n) {U Y : List Nat} (hU : sps U) (h : LN v (U ++ 59 :: Y)) : ∃ v', FX13_mustSign n v 59 = some v' ∧ GoF v v' ∧ LN v' Y := by
  obtain ⟨a6, a7, a8, v', g, F, L⟩ := ln_S hn hU h
  refine ⟨v', ?_, F, L⟩
  unfold FX13_mustSign
  rw [gdR a8, bnd_s, if_pos rfl, sgR a6 a7 a8, bnd_s, if_pos rfl, bnd_s, if_pos rfl, g, bo1_s]
theorem loR {x lo hi : Nat} (h6 : (v 15).1 0 6 = 2) (h7 : (v 15).1 0 7 = nI x) (h8 : (v 15).1 0 8 = 0) (h1 : lo ≤ x) (h2 : x ≤ hi) (h3 : hi < 20000) {P Q : Int32} (hP : P = nI lo) (hQ : Q = nI hi) : FX13_looks v P Q = (nI x, v) := by
  have hw : FX12_isWithin (nI x) P Q = true := by
    rw [hP, hQ]
    exact wi_iff.mpr ⟨nI_nlt (a := x) (b := lo) h1 (by omega), nI_nlt (a := hi) (b := x) h2 (by omega)⟩
  unfold FX13_looks
  rw [gdR h8, bnd_s, if_pos rfl, if_pos h6, bnd_s, if_pos rfl, h7, isIn_w, hw, bnd_s, if_pos rfl]
theorem ln_more (hn : 1000 ≤ n) {U Y : List Nat} {x lo hi : Nat} (hU : sps U) (hY : nX Y) (h1 : lo ≤ x) (h2 : x ≤ hi) (h3 : hi < 10000) {P Q : Int32} (hP : P = nI lo) (hQ : Q = nI hi) (h : LN v (U ++ (dgl x ++ Y))) : ∃ v', FX13_more n v P Q = some (nI x, v') ∧ GoF v v' ∧ LN v' Y := by
  obtain ⟨a6, a7, a8, v', g, F, L⟩ := ln_N hn hU (by omega) hY h
  refine ⟨v', ?_, F, L⟩
  unfold FX13_more FX13_number
  rw [gdR a8, bnd_s, if_pos rfl, loR a6 a7 a8 h1 h2 (by omega) hP hQ, bnd2_s, gdR a8, bnd_s, if_pos rfl, g, bo1_s, bo2_s]
theorem ff_hit {q : Nat} : ∀ (d i : Nat), i ≤ q → ff (fun j => decide (j = q)) d i = if q < i + d then nI q else -1
  | 0, i, h => by
    rw [if_neg (by omega)]
    rfl
  | d + 1, i, h => by
    unfold ff
    by_cases z : i = q
    · rw [if_pos (decide_eq_true z), if_pos (by omega), z]
    · rw [if_neg (by rw [decide_eq_false z]; decide), ff_hit d (i + 1) (by omega)]
      by_cases y : q < i + (d + 1)
      · rw [if_pos y, if_pos (by omega)]
      · rw [if_neg y, if_neg (by omega)]
theorem nm_hit {a x y : Nat} (ha : 1 ≤ a ∧ a ≤ 26) (hx : x < 8) (hy : y < 8) : (lN (pk5 [a, x + 1]) = lN (pk5 [a, y + 1])) ↔ x = y := by
  rw [nm_eq5 (nm_ok ha hx) (nm_ok ha hy)]
  refine ⟨fun e => ?_, fun e => by rw [e]⟩
  have e2 : x + 1 = y + 1 := (List.cons.inj (List.cons.inj e).2).1
  omega
theorem nm_n0 {a x : Nat} (ha : 1 ≤ a ∧ a ≤ 26) (hx : x < 8) : ¬ lN (pk5 [a, x + 1]) = 0 := fun z => by
  have b5 := pk5_bd (nm_ok ha hx)
  have := (lN_inj (a := pk5 [a, x + 1]) (b := 0) (by omega) (by decide)).mp z
  omega
theorem found_V (hn : 100 ≤ n) {nv nc q : Nat} (hb : nv ≤ 8) (h0 : row v 0 = nI nv) (hN : NM (row v) nv nc) (hq : q < 8) : FX13_found n v 0 (lN (pk5 [22, q + 1])) = some (if q < nv then nI q else -1) := by
  have e : ff (fun j => decide (j = q)) nv 0 = if q < nv then nI q else -1 := by rw [ff_hit nv 0 (by omega), Nat.zero_add]
  rw [← e]
  unfold FX13_found
  refine loopX (L := fun k i => FX13_found_L3 n k v 0 (lN (pk5 [22, q + 1])) i) (fun k => ?_) (fun k i hi => ?_) (by omega)
  · simp only [FX13_found_L3]
    rw [gd0, show (0 : Int32).toNatClampNeg = 0 from rfl, show (v 15).1 2 0 = nI nv from h0, if_pos (Int32.le_refl _)]
  · have hm := hN.1 i hi
    have hx := nm_hit (a := 22) (x := i) (y := q) (by decide) (by omega) hq
    simp only [FX13_found_L3]
    rw [gd0, show (0 : Int32).toNatClampNeg = 0 from rfl, show (v 15).1 2 0 = nI nv from h0, if_neg (le_nI hi (by omega)), nI_1, rNme0, bnd_s, rNameAt (p := pk5 [22, i + 1]) (by omega) (pk5_bd (nm_ok (by decide) (by omega))).2.2.1 hm.1 hm.2, bo1_s, if_neg (fun y => nm_n0 (a := 22) (by decide) hq ((lg_cmp_eq _ _).mp y))]
    by_cases z : i = q
    · rw [if_pos ((lg_cmp_eq _ _).mpr (hx.mpr z)), if_pos (decide_eq_true z)]
    · rw [if_neg (fun y => z (hx.mp ((lg_cmp_eq _ _).mp y))), if_neg (by rw [decide_eq_false z]; decide)]
theorem found_C (hn : 100 ≤ n) {nv nc q : Nat} (hb : nc ≤ 8) (h0 : row v 1 = nI nc) (hN : NM (row v) nv nc) (hq : q < 8) : FX13_found n v 1 (lN (pk5 [3, q + 1])) = some (if q < nc then nI q else -1) := by
  have e : ff (fun j => decide (j = q)) nc 0 = if q < nc then nI q else -1 := by rw [ff_hit nc 0 (by omega), Nat.zero_add]
  rw [← e]
  unfold FX13_found
  refine loopX (L := fun k i => FX13_found_L3 n k v 1 (lN (pk5 [3, q + 1])) i) (fun k => ?_) (fun k i hi => ?_) (by omega)
  · simp only [FX13_found_L3]
    rw [gd1, show (1 : Int32).toNatClampNeg = 1 from rfl, show (v 15).1 2 1 = nI nc from h0, if_pos (Int32.le_refl _)]
  · have hm := hN.2 i hi
    have hx := nm_hit (a := 3) (x := i) (y := q) (by decide) (by omega) hq
    simp only [FX13_found_L3]
    rw [gd1, show (1 : Int32).toNatClampNeg = 1 from rfl, show (v 15).1 2 1 = nI nc from h0, if_neg (le_nI hi (by omega)), nI_1, rNme1, bnd_s, rNameAt (p := pk5 [3, i + 1]) (by omega) (pk5_bd (nm_ok (by decide) (by omega))).2.2.1 hm.1 hm.2, bo1_s, if_neg (fun y => nm_n0 (a := 3) (by decide) hq ((lg_cmp_eq _ _).mp y))]
    by_cases z : i = q
    · rw [if_pos ((lg_cmp_eq _ _).mpr (hx.mpr z)), if_pos (decide_eq_true z)]
    · rw [if_neg (fun y => z (hx.mp ((lg_cmp_eq _ _).mp y))), if_neg (by rw [decide_eq_false z]; decide)]
/-- a name that is known -/
theorem ln_name (hn : 1000 ≤ n) {U ls Y : List Nat} (hU : sps U) (hls : okName ls) (hY : nX Y) {g : Int32} {q : Nat} (hq : q < 8) (h : LN v (U ++ (lsB ls ++ Y))) (hf : FX13_found n v g (lN (pk5 ls)) = some (nI q)) : ∃ v', FX13_nameHere n v g = some (nI q, v') ∧ GoF v v' ∧ LN v' Y := by
  obtain ⟨a6, a12, a8, v', e, F, L⟩ := ln_W hn hU hls hY h
  have hg := gdR a8
  have h58 : FX13_nameHere_B58 n v (nI q) = some (nI q, v') := by
    unfold FX13_nameHere_B58
    rw [hg, bnd_s, if_pos rfl, e, bo1_s]
  have h40 : FX13_nameHere_B40 n v (nI q) = some (nI q, v') := by
    unfold FX13_nameHere_B40
    rw [hg, bnd_s, if_pos rfl, if_neg (nI_m1 (j := q) (by omega)), h58]
  have h20 : FX13_nameHere_B20 n v g = some (nI q, v') := by
    unfold FX13_nameHere_B20
    rw [hg, bnd_s, if_pos rfl, a12, hf, bo1_s, h40]
  refine ⟨v', ?_, F, L⟩
  unfold FX13_nameHere
  rw [hg, bnd_s, if_pos rfl, if_pos a6, h20]
end READS
