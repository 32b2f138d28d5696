set_option maxHeartbeats 400000
/-! names and verbs of a text -/
theorem cWordV {b : Nat → Nat} {f l : Nat} {w v : Wd} {s : Option Nat} (h : St b f l w v s) : ∃ o, (∀ ls, o = some ls → okName ls) ∧ FX9_word w = some (v8 o) ∧ ∀ i, s = some i → tK b f (P b f i) = 1 → (v 15).2 0 12 = v5 o ∧ ∃ ls, o = some ls := by
  have core : ∀ i, TKA w b f l → i ≤ l → (w 10).1 0 5 = nI i → FX9_word w = some (if tK b f (P b f i) = 1 then v8 (tW b f (P b f i)) else 0) := fun i hK hi h5 => by
    have hl := hK.1
    obtain ⟨t1, t2, t3, t4, t5⟩ := hK.2.2.2.2 i hi
    have hk := tK_le (b := b) (f := f) (p := P b f i)
    unfold FX9_word
    rw [h5, gd_t (inI (by omega) (by omega)), nI_c (by omega), t1, gd_t (inI (by omega) (by omega))]
    by_cases z : tK b f (P b f i) = 1
    · rw [if_pos z, z, if_pos (show nI 1 = (1 : Int32) from rfl), t3 z]
    · have hz : ¬ nI (tK b f (P b f i)) = (1 : Int32) := nI_ne (b := 1) z (by omega) (by decide)
      rw [if_neg z, if_neg hz]
  cases s with
  | none =>
    obtain ⟨-, hK, i, e, o, h1, -, -, h5, -⟩ := h
    have c := core i hK h1 h5
    by_cases z : tK b f (P b f i) = 1
    · obtain ⟨ls, k1, k2⟩ := tW_ok z
      refine ⟨some ls, fun ms e => by rw [← Option.some.inj e]; exact k1, ?_, fun j hj => by cases hj⟩
      rw [c, if_pos z, k2]
    · refine ⟨none, fun ms e => (by cases e), ?_, fun j hj => by cases hj⟩
      rw [c, if_neg z]
      rfl
  | some i =>
    have h' : TG b f l w v i := h
    obtain ⟨hA, hK, hi, a5, a7, a8, hR, r8, r9⟩ := h'
    have c := core i hK hi a5
    by_cases z : tK b f (P b f i) = 1
    · obtain ⟨ls, k1, k2⟩ := tW_ok z
      refine ⟨some ls, fun ms e => by rw [← Option.some.inj e]; exact k1, ?_, fun j hj _ => ?_⟩
      · rw [c, if_pos z, k2]
      · have e := Option.some.inj hj
        subst e
        rw [hR.2.2.2.2.1 z, k2]
        exact ⟨rfl, ls, rfl⟩
    · refine ⟨none, fun ms e => (by cases e), ?_, fun j hj hz => ?_⟩
      · rw [c, if_neg z]
        rfl
      · have e := Option.some.inj hj
        subst e
        exact absurd hz z
theorem named_v {n : Nat} (hn : 100 ≤ n) {M : MM} {nv : Nat} (hb : nv ≤ 8) (h1 : M.1 0 3 = nI nv) (x : Int64) : ∃ q, FX6_valleyNamed n M x = some q := by
  refine ⟨ff (fun i => decide (M.2 (4 + i) 0 = x)) nv 0, ?_⟩
  unfold FX6_valleyNamed
  refine loopX (L := fun k i => FX6_valleyNamed_L2 n k M x i) (fun k => ?_) (fun k i hi => ?_) (by omega)
  · simp only [FX6_valleyNamed_L2]
    rw [h1, if_pos (Int32.le_refl _)]
  · simp only [FX6_valleyNamed_L2]
    rw [h1, if_neg (le_nI hi (by omega)), gd_t (inI (by omega) (by omega)), nI_c (by omega), nI_1]
    by_cases z : M.2 (4 + i) 0 = x
    · rw [if_pos ((lg_cmp_eq _ _).mpr z), if_pos (decide_eq_true z)]
    · rw [if_neg (fun y => z ((lg_cmp_eq _ _).mp y)), if_neg (by rw [decide_eq_false z]; decide)]
theorem named_c {n : Nat} (hn : 100 ≤ n) {M : MM} {nc : Nat} (hb : nc ≤ 8) (h1 : M.1 0 4 = nI nc) (x : Int64) : ∃ q, FX6_customerNamed n M x = some q := by
  refine ⟨ff (fun i => decide (M.2 (12 + i) 0 = x)) nc 0, ?_⟩
  unfold FX6_customerNamed
  refine loopX (L := fun k i => FX6_customerNamed_L2 n k M x i) (fun k => ?_) (fun k i hi => ?_) (by omega)
  · simp only [FX6_customerNamed_L2]
    rw [h1, if_pos (Int32.le_refl _)]
  · simp only [FX6_customerNamed_L2]
    rw [h1, if_neg (le_nI hi (by omega)), gd_t (inI (by omega) (by omega)), nI_c (by omega), nI_1]
    by_cases z : M.2 (12 + i) 0 = x
    · rw [if_pos ((lg_cmp_eq _ _).mpr z), if_pos (decide_eq_true z)]
    · rw [if_neg (fun y => z ((lg_cmp_eq _ _).mp y)), if_neg (by rw [decide_eq_false z]; decide)]
/-- a name that must be known -/
theorem known_core {n : Nat} (hn : 1000 ≤ n) {b : Nat → Nat} {f l : Nat} {w v : Wd} {s : Option Nat} (h : St b f l w v s) (g q : Int32) (hq : ∀ i, s = some i → tK b f (P b f i) = 1 → FX13_found n v g ((v 15).2 0 12) = some q) : ∃ w' v' y s', FX9_takeKnownName w q = some w' ∧ FX13_nameHere n v g = some (y, v') ∧ CF w w' ∧ RF v v' ∧ St b f l w' v' s' ∧ ∀ j, s' = some j → ∃ i, s = some i ∧ j = i + 1 ∧ i < l ∧ ¬ q = -1 ∧ y = q := by
  cases s with
  | none =>
    have h' : TXw b f l w v := h
    obtain ⟨i, e', hi, -, -, h5, -, -, -⟩ := h'.at
    refine ⟨w, v, -1, none, ?_, ?_, fun _ _ => rfl, RF.refl v, h, fun j hj => by cases hj⟩
    · unfold FX9_takeKnownName
      rw [h5, gd_t (inI (by omega) (by omega))]
      simp only [fail_x h', bo1_s, skip_x h', bnd_s, ite_self]
    · unfold FX13_nameHere FX13_nameHere_B20 FX13_nameHere_B40 FX13_nameHere_B58
      rw [(good_x h').1]
      simp only [bnd_s]
      rfl
  | some i =>
    have h' : TG b f l w v i := h
    obtain ⟨k1, k2, k3⟩ := cKind h'
    have hk := tK_le (b := b) (f := f) (p := P b f i)
    have r6 : (v 15).1 0 6 = nI (tK b f (P b f i)) := h'.2.2.2.2.2.2.1.2.2.2.1
    by_cases z : tK b f (P b f i) = 1
    · have hf := hq i rfl z
      have c2 : (w 10).1 2 i = 1 := by rw [k3, z]; rfl
      have q6 : (v 15).1 0 6 = 1 := by rw [r6, z]; rfl
      have e1 : FX13_nameHere n v g = FX13_nameHere_B40 n v q := by
        unfold FX13_nameHere FX13_nameHere_B20
        rw [(good_g h').1, bnd_s, if_pos rfl, if_pos q6, bnd_s, if_pos rfl, hf, bo1_s]
      by_cases zq : q = -1
      · obtain ⟨w', c1, c3, c4, c5⟩ := fail_pair h' (e := 4) (by decide) (by decide) (fun y => absurd (z.symm.trans y) (by decide))
        have c1' : FX9_failIf w true 4 = some w' := c1
        refine ⟨w', FX13_wrong v (nI 4), q, none, ?_, ?_, c3, c4, c5, fun j hj => by cases hj⟩
        · unfold FX9_takeKnownName
          rw [k2, gd_t (inI (by omega) (by omega)), nI_c (by omega), if_pos c2, fail_f, bo1_s, if_pos zq, c1', bo1_s, skip_x c5, bnd_s]
        · rw [e1]
          unfold FX13_nameHere_B40 FX13_nameHere_B58
          rw [(good_g h').1, bnd_s, if_pos rfl, if_pos zq, show FX13_wrong v 4 = FX13_wrong v (nI 4) from rfl, bnd_s, (good_x c5).1, bnd_s, if_neg (by decide)]
      · obtain ⟨d1, d2, v', d3, d4, d5⟩ := skip_pair hn h' (by rw [z]; decide)
        refine ⟨FX9_skip w, v', q, some (i + 1), ?_, ?_, d2, d4, d5, fun j hj => ⟨i, rfl, (Option.some.inj hj).symm, d1, zq, rfl⟩⟩
        · unfold FX9_takeKnownName
          rw [k2, gd_t (inI (by omega) (by omega)), nI_c (by omega), if_pos c2, fail_f, bo1_s, if_neg zq, fail_f, bo1_s, bnd_s]
        · rw [e1]
          unfold FX13_nameHere_B40 FX13_nameHere_B58
          rw [(good_g h').1, bnd_s, if_pos rfl, if_neg zq, bnd_s, if_pos rfl, d3, bo1_s]
    · obtain ⟨w', c1, c3, c4, c5⟩ := fail_pair h' (e := 1) (by decide) (by decide) (fun _ => rfl)
      have c1' : FX9_failIf w true 1 = some w' := c1
      have c2 : ¬ (w 10).1 2 i = 1 := by rw [k3]; exact nI_ne (b := 1) z (by omega) (by decide)
      have q6 : ¬ (v 15).1 0 6 = 1 := by rw [r6]; exact nI_ne (b := 1) z (by omega) (by decide)
      refine ⟨w', FX13_wrong v (nI 1), -1, none, ?_, ?_, c3, c4, c5, fun j hj => by cases hj⟩
      · unfold FX9_takeKnownName
        rw [k2, gd_t (inI (by omega) (by omega)), nI_c (by omega), if_neg c2, c1', bo1_s]
        simp only [fail_x c5, bo1_s, skip_x c5, bnd_s, ite_self]
      · unfold FX13_nameHere FX13_nameHere_B20 FX13_nameHere_B40 FX13_nameHere_B58
        rw [(good_g h').1, bnd_s, if_pos rfl, if_neg q6, show FX13_wrong v 1 = FX13_wrong v (nI 1) from rfl, bnd_s, (good_x c5).1]
        simp only [bnd_s]
        rfl
/-- a name that must be new -/
theorem new_core {n : Nat} (hn : 1000 ≤ n) {b : Nat → Nat} {f l : Nat} {w v : Wd} {s : Option Nat} (h : St b f l w v s) (g q : Int32) {o : Option (List Nat)} (ho : ∀ ls, o = some ls → okName ls) (hw : FX9_word w = some (v8 o)) (hv : ∀ i, s = some i → tK b f (P b f i) = 1 → (v 15).2 0 12 = v5 o ∧ ∃ ls, o = some ls) (hq : ∀ i, s = some i → tK b f (P b f i) = 1 → FX13_found n v g ((v 15).2 0 12) = some q) : ∃ w' v' y s', FX9_takeNewName w q = some (v8 o, w') ∧ FX13_newLine_B27 n v g = FX13_newLine_B88 n v' g y ∧ CF w w' ∧ RF v v' ∧ St b f l w' v' s' ∧ ∀ j, s' = some j → ∃ i ls, s = some i ∧ j = i + 1 ∧ i < l ∧ q = -1 ∧ o = some ls ∧ okName ls ∧ y = lN (pk5 ls) := by
  cases s with
  | none =>
    have h' : TXw b f l w v := h
    obtain ⟨i, e', hi, -, -, h5, -, -, -⟩ := h'.at
    refine ⟨w, v, (v 15).2 0 12, none, ?_, ?_, fun _ _ => rfl, RF.refl v, h, fun j hj => by cases hj⟩
    · unfold FX9_takeNewName
      rw [hw, bo1_s, h5, gd_t (inI (by omega) (by omega))]
      simp only [fail_x h', bo1_s, skip_x h', bnd_s, ite_self]
    · unfold FX13_newLine_B27 FX13_newLine_B47 FX13_newLine_B72
      rw [(good_x h').1]
      simp only [bnd_s]
      rfl
  | some i =>
    have h' : TG b f l w v i := h
    obtain ⟨k1, k2, k3⟩ := cKind h'
    have hk := tK_le (b := b) (f := f) (p := P b f i)
    have r6 : (v 15).1 0 6 = nI (tK b f (P b f i)) := h'.2.2.2.2.2.2.1.2.2.2.1
    by_cases z : tK b f (P b f i) = 1
    · have hf := hq i rfl z
      obtain ⟨hv1, ls, hv2⟩ := hv i rfl z
      have c2 : (w 10).1 2 i = 1 := by rw [k3, z]; rfl
      have q6 : (v 15).1 0 6 = 1 := by rw [r6, z]; rfl
      by_cases zq : q = -1
      · obtain ⟨d1, d2, v', d3, d4, d5⟩ := skip_pair hn h' (by rw [z]; decide)
        refine ⟨FX9_skip w, v', (v 15).2 0 12, some (i + 1), ?_, ?_, d2, d4, d5, fun j hj => ⟨i, ls, rfl, (Option.some.inj hj).symm, d1, zq, hv2, ho ls hv2, by rw [hv1, hv2]; rfl⟩⟩
        · unfold FX9_takeNewName
          rw [hw, bo1_s, k2, gd_t (inI (by omega) (by omega)), nI_c (by omega), if_pos c2, fail_f, bo1_s, if_pos zq, fail_f, bo1_s, bnd_s]
        · unfold FX13_newLine_B27 FX13_newLine_B47 FX13_newLine_B72
          rw [(good_g h').1, bnd_s, if_pos rfl, if_pos q6, bnd_s, if_pos rfl, hf, bo1_s, if_pos zq, bnd_s, if_pos rfl, d3, bo1_s]
      · obtain ⟨w', c1, c3, c4, c5⟩ := fail_pair h' (e := 3) (by decide) (by decide) (fun y => absurd (z.symm.trans y) (by decide))
        have c1' : FX9_failIf w true 3 = some w' := c1
        refine ⟨w', FX13_wrong v (nI 3), ((FX13_wrong v (nI 3)) 15).2 0 12, none, ?_, ?_, c3, c4, c5, fun j hj => by cases hj⟩
        · unfold FX9_takeNewName
          rw [hw, bo1_s, k2, gd_t (inI (by omega) (by omega)), nI_c (by omega), if_pos c2, fail_f, bo1_s, if_neg zq, c1', bo1_s, skip_x c5, bnd_s]
        · unfold FX13_newLine_B27 FX13_newLine_B47 FX13_newLine_B72
          rw [(good_g h').1, bnd_s, if_pos rfl, if_pos q6, bnd_s, if_pos rfl, hf, bo1_s, if_neg zq, show FX13_wrong v 3 = FX13_wrong v (nI 3) from rfl, bnd_s, (good_x c5).1, bnd_s, if_neg (by decide)]
    · obtain ⟨w', c1, c3, c4, c5⟩ := fail_pair h' (e := 1) (by decide) (by decide) (fun _ => rfl)
      have c1' : FX9_failIf w true 1 = some w' := c1
      have c2 : ¬ (w 10).1 2 i = 1 := by rw [k3]; exact nI_ne (b := 1) z (by omega) (by decide)
      have q6 : ¬ (v 15).1 0 6 = 1 := by rw [r6]; exact nI_ne (b := 1) z (by omega) (by decide)
      refine ⟨w', FX13_wrong v (nI 1), ((FX13_wrong v (nI 1)) 15).2 0 12, none, ?_, ?_, c3, c4, c5, fun j hj => by cases hj⟩
      · unfold FX9_takeNewName
        rw [hw, bo1_s, k2, gd_t (inI (by omega) (by omega)), nI_c (by omega), if_neg c2, c1', bo1_s]
        simp only [fail_x c5, bo1_s, skip_x c5, bnd_s, ite_self]
      · unfold FX13_newLine_B27 FX13_newLine_B47 FX13_newLine_B72
        rw [(good_g h').1, bnd_s, if_pos rfl, if_neg q6, show FX13_wrong v 1 = FX13_wrong v (nI 1) from rfl, bnd_s, (good_x c5).1]
        simp only [bnd_s]
        rfl
-- verbs
def vl : Nat → List Nat
  | 1 => [13, 1, 18, 11, 5, 20]
  | 2 => [22, 1, 12, 12, 5, 25]
  | 3 => [3, 21, 19, 20, 15, 13, 5, 18]
  | 4 => [19, 8, 15, 21, 20]
  | 5 => [6, 15, 7]
  | 6 => [16, 18, 9, 3, 5]
  | 7 => [23, 5, 12, 12]
  | 8 => [16, 1, 19, 19]
  | 9 => [6, 1, 11, 5]
  | 10 => [3, 1, 14, 3, 5, 12]
  | 11 => [18, 5, 16, 5, 1, 20]
  | _ => []
theorem vl_len : ∀ k : Fin 12, enLen.getD k.val 0 = (vl k.val).length ∧ (vl k.val).length ≤ 8 := by decide +kernel
theorem vl_C : ∀ k : Fin 12, ∀ i : Fin 8, i.val < (vl k.val).length → enC k.val i.val = nI (96 + (vl k.val).getD i.val 0) := by decide +kernel
theorem vl_ne : ∀ k j : Fin 12, k.val ≠ j.val → vl k.val = vl j.val → False := by decide +kernel
theorem vl_ok : ∀ k : Fin 12, k.val ≠ 0 → 1 ≤ (vl k.val).length ∧ (vl k.val).length ≤ 8 ∧ ∀ x ∈ vl k.val, 1 ≤ x ∧ x ≤ 26 := by decide +kernel
/-- letter by letter the same -/
def same (ls ms : List Nat) : Nat → Nat → Bool
  | _, 0 => true
  | i, d + 1 => decide (i < ls.length ∧ ls.getD i 0 = ms.getD i 0) && same ls ms (i + 1) d
theorem same_iff {ls ms : List Nat} : ∀ {d i : Nat}, same ls ms i d = true ↔ ∀ j, i ≤ j → j < i + d → j < ls.length ∧ ls.getD j 0 = ms.getD j 0
  | 0, i => ⟨fun _ j h1 h2 => absurd h2 (by omega), fun _ => rfl⟩
  | d + 1, i => by
    unfold same
    rw [Bool.and_eq_true, decide_eq_true_iff, same_iff]
    refine ⟨fun h j h1 h2 => ?_, fun h => ⟨h i (Nat.le_refl _) (by omega), fun j h1 h2 => h j (by omega) (by omega)⟩⟩
    by_cases z : j = i
    · rw [z]; exact h.1
    · exact h.2 j (by omega) (by omega)
theorem list_eq {ls ms : List Nat} (hl : ls.length = ms.length) (h : ∀ j, j < ms.length → ls.getD j 0 = ms.getD j 0) : ls = ms := by
  refine List.ext_getElem hl (fun i h1 h2 => ?_)
  have := h i h2
  rw [List.getD_eq_getElem?_getD, List.getD_eq_getElem?_getD, List.getElem?_eq_getElem h1, List.getElem?_eq_getElem h2] at this
  exact this
theorem cSpelled {n : Nat} (hn : 100 ≤ n) {w : Wd} {ls : List Nat} (h : okName ls) {k : Nat} (hk : k < 12) : FX11_isSpelled n w k (lN (pk8 ls)) = some (decide (ls = vl k)) := by
  obtain ⟨e1, e2⟩ := vl_len ⟨k, hk⟩
  have e1' : enLen.getD k 0 = (vl k).length := e1
  have e2' : (vl k).length ≤ 8 := e2
  have h8 := h.2.1
  have H : ∀ (d i fu : Nat) (a : Bool), i + d = (vl k).length → d < fu → FX11_isSpelled_L24 n fu w k (lN (pk8 ls)) a (nI i) = some (a && same ls (vl k) i d) := by
    intro d
    induction d with
    | zero =>
      intro i fu a hi hf
      obtain ⟨fu, rfl⟩ : ∃ k', fu = k' + 1 := ⟨fu - 1, by omega⟩
      simp only [FX11_isSpelled_L24]
      rw [e1', if_pos (nI_le (by omega) (by omega))]
      unfold same
      rw [Bool.and_true]
    | succ d ih =>
      intro i fu a hi hf
      obtain ⟨fu, rfl⟩ : ∃ k', fu = k' + 1 := ⟨fu - 1, by omega⟩
      have hC : enC k i = nI (96 + (vl k).getD i 0) := vl_C ⟨k, hk⟩ ⟨i, by omega⟩ (by show i < (vl k).length; omega)
      simp only [FX11_isSpelled_L24]
      rw [e1', if_neg (nI_ge (by omega) (by omega)), nI_1]
      cases a with
      | false =>
        rw [if_neg (by decide), ih (i + 1) fu false (by omega) (by omega), Bool.false_and, Bool.false_and]
      | true =>
        rw [if_pos rfl, cLetter h (by omega), bnd_s, gd_t (inI (by omega) (by omega)), nI_c (by omega), hC, Bool.true_and]
        unfold same
        by_cases z : i < ls.length
        · have hg := ok_getD h z
          have hv : (vl k).getD i 0 ≤ 255 := by
            have : ∀ k : Fin 12, ∀ i : Fin 8, (vl k.val).getD i.val 0 ≤ 255 := by decide +kernel
            exact this ⟨k, hk⟩ ⟨i, by omega⟩
          rw [if_pos z]
          by_cases z2 : ls.getD i 0 = (vl k).getD i 0
          · rw [if_pos (by rw [z2]), ih (i + 1) fu true (by omega) (by omega), Bool.true_and, decide_eq_true ⟨z, z2⟩, Bool.true_and]
          · rw [if_neg (nI_ne (fun y => z2 (by omega)) (by omega) (by omega)), ih (i + 1) fu false (by omega) (by omega), Bool.false_and, decide_eq_false (fun y => z2 y.2), Bool.false_and]
        · have hm : ¬ (-1 : Int32) = nI (96 + (vl k).getD i 0) := fun y => by
            have hv : (vl k).getD i 0 ≤ 255 := by
              have : ∀ k : Fin 12, ∀ i : Fin 8, (vl k.val).getD i.val 0 ≤ 255 := by decide +kernel
              exact this ⟨k, hk⟩ ⟨i, by omega⟩
            exact nI_m1 (j := 96 + (vl k).getD i 0) (by omega) y.symm
          rw [if_neg z, if_neg hm, ih (i + 1) fu false (by omega) (by omega), Bool.false_and, decide_eq_false (fun y => z y.1), Bool.false_and]
  have hL : ∀ a, FX11_isSpelled_L24 n n w k (lN (pk8 ls)) a 0 = some (a && same ls (vl k) 0 (vl k).length) := fun a => H (vl k).length 0 n a (by omega) (by omega)
  have hend : (FX12_letterOf (lN (pk8 ls)) (nI (vl k).length) = -1) ↔ ls.length ≤ (vl k).length := by
    by_cases z : (vl k).length < 8
    · rw [cLetter h z]
      by_cases z2 : (vl k).length < ls.length
      · have hg := ok_getD h z2
        rw [if_pos z2]
        exact ⟨fun y => absurd y (nI_m1 (by omega)), fun y => absurd z2 (by omega)⟩
      · rw [if_neg z2]
        exact ⟨fun _ => by omega, fun _ => rfl⟩
    · refine ⟨fun _ => by omega, fun _ => cLetter_x ?_⟩
      rw [show (vl k).length = 8 by omega]
      decide
  unfold FX11_isSpelled
  rw [e1', bnd_s, hL, hL, Bool.false_and, Bool.true_and]
  by_cases z : ls.length ≤ (vl k).length
  · rw [if_pos (hend.mpr z)]
    congr 1
    by_cases z2 : ls = vl k
    · rw [decide_eq_true z2]
      refine same_iff.mpr (fun j _ hj => ?_)
      rw [z2]
      exact ⟨by omega, rfl⟩
    · rw [decide_eq_false z2]
      cases hs : same ls (vl k) 0 (vl k).length with
      | false => rfl
      | true =>
        exfalso
        have hs' := same_iff.mp hs
        apply z2
        by_cases z3 : (vl k).length = 0
        · have := h.1
          omega
        · have h1 := (hs' ((vl k).length - 1) (by omega) (by omega)).1
          exact list_eq (by omega) (fun j hj => (hs' j (by omega) (by omega)).2)
  · rw [if_neg (fun y => z (hend.mp y)), decide_eq_false (fun y => z (by rw [y]; exact Nat.le_refl _))]
def fv (p : Nat → Bool) : Nat → Nat → Nat
  | 0, _ => 0
  | d + 1, i => if p i = true then i else fv p d (i + 1)
theorem fv_k {p : Nat → Bool} {k : Nat} (hp : p k = true) (hne : ∀ j, j ≠ k → j < 12 → p j = false) (hk : k < 12) : ∀ d i, i + d = 12 → i ≤ k → fv p d i = k
  | 0, i, h1, h2 => by omega
  | d + 1, i, h1, h2 => by
    unfold fv
    by_cases z : i = k
    · rw [z, if_pos hp]
    · rw [if_neg (by rw [hne i z (by omega)]; decide)]
      exact fv_k hp hne hk d (i + 1) (by omega) (by omega)
theorem fv_0 {p : Nat → Bool} (hne : ∀ j, j < 12 → p j = false) : ∀ d i, i + d = 12 → fv p d i = 0
  | 0, i, _ => rfl
  | d + 1, i, h => by
    unfold fv
    rw [if_neg (by rw [hne i (by omega)]; decide)]
    exact fv_0 hne d (i + 1) (by omega)
theorem verb_L {n : Nat} {w : Wd} {i : Nat} (hi : i ≤ 600) (h5 : (w 10).1 0 5 = nI i) {p : Nat → Bool} (hp : ∀ k, k < 12 → ((w 10).1 2 i = 1 → FX11_isSpelled n w k ((w 10).2 4 i) = some (p k)) ∧ (¬ (w 10).1 2 i = 1 → p k = false)) : ∀ (d j fu : Nat), j + d = 12 → d < fu → FX9_verb_L9 n fu w 12 (nI j) = some (fv p d j) := by
  intro d
  induction d with
  | zero =>
    intro j fu hj hf
    obtain ⟨fu, rfl⟩ : ∃ k', fu = k' + 1 := ⟨fu - 1, by omega⟩
    simp only [FX9_verb_L9]
    rw [show j = 12 by omega, if_pos (show (12 : Int32) ≤ nI 12 by decide)]
    rfl
  | succ d ih =>
    intro j fu hj hf
    obtain ⟨fu, rfl⟩ : ∃ k', fu = k' + 1 := ⟨fu - 1, by omega⟩
    obtain ⟨p1, p2⟩ := hp j (by omega)
    simp only [FX9_verb_L9]
    rw [if_neg (show ¬ (12 : Int32) ≤ nI j from nI_ge (b := 12) (by omega) (by decide)), gd_t (inI (by omega) (by omega)), h5, gd_t (inI (by omega) (by omega)), nI_c (a := i) (by omega), gd_t (inI (by omega) (by omega)), nI_c (a := j) (by omega), nI_1]
    unfold fv
    by_cases z : (w 10).1 2 i = 1
    · rw [if_pos z, p1 z, bo1_s]
      by_cases z2 : p j = true
      · rw [if_pos z2, if_pos z2]
      · rw [if_neg z2, if_neg z2]
        exact ih (j + 1) fu (by omega) (by omega)
    · rw [if_neg z, if_neg (by rw [p2 z]; decide)]
      exact ih (j + 1) fu (by omega) (by omega)
/-- the verb of a token, on both sides -/
theorem verb_pair {n : Nat} (hn : 100 ≤ n) {b : Nat → Nat} {f l i : Nat} {w v : Wd} (h : TG b f l w v i) : ∃ k, k < 12 ∧ FX9_verb n w = some k ∧ (k ≠ 0 → tK b f (P b f i) = 1) ∧ ∀ m, 1 ≤ m → m < 12 → FX13_isWord v (lN (pk5 (vl m))) = decide (k = m) := by
  obtain ⟨k1, k2, k3⟩ := cKind h
  have hk := tK_le (b := b) (f := f) (p := P b f i)
  obtain ⟨hA, hK, hi, a5, a7, a8, hR, r8, r9⟩ := h
  obtain ⟨t1, t2, t3, t4, t5⟩ := hK.2.2.2.2 i hi
  have r6 := hR.2.2.2.1
  by_cases z : tK b f (P b f i) = 1
  · obtain ⟨ls, s1, s2⟩ := tW_ok z
    have c2 : (w 10).1 2 i = 1 := by rw [k3, z]; rfl
    have q6 : (v 15).1 0 6 = 1 := by rw [r6, z]; rfl
    have e4 : (w 10).2 4 i = lN (pk8 ls) := by rw [t3 z, s2]; rfl
    have e12 : (v 15).2 0 12 = lN (pk5 ls) := by rw [hR.2.2.2.2.1 z, s2]; rfl
    have hL := verb_L (n := n) k1 k2 (p := fun k => decide (ls = vl k)) (fun k hk' => ⟨fun _ => by rw [e4]; exact cSpelled hn s1 hk', fun y => absurd c2 y⟩) 12 0 n (by omega) (by omega)
    have hw : ∀ m, 1 ≤ m → m < 12 → FX13_isWord v (lN (pk5 (vl m))) = decide (ls = vl m) := fun m m1 m2 => by
      have hok : okName (vl m) := vl_ok ⟨m, m2⟩ (by show m ≠ 0; omega)
      unfold FX13_isWord
      rw [if_pos r8, if_pos q6, e12]
      by_cases y : ls = vl m
      · rw [if_pos ((lg_cmp_eq _ _).mpr (by rw [y])), decide_eq_true y]
      · rw [if_neg (fun x => y ((nm_eq5 s1 hok).mp ((lg_cmp_eq _ _).mp x))), decide_eq_false y]
    by_cases ex : ∃ m, 1 ≤ m ∧ m < 12 ∧ ls = vl m
    · obtain ⟨m, m1, m2, m3⟩ := ex
      have hfv : fv (fun k => decide (ls = vl k)) 12 0 = m := fv_k (decide_eq_true m3) (fun j hj hj2 => decide_eq_false (fun y => vl_ne ⟨j, hj2⟩ ⟨m, m2⟩ hj (y.symm.trans m3))) m2 12 0 (by omega) (by omega)
      refine ⟨m, m2, ?_, fun _ => z, fun q q1 q2 => ?_⟩
      · unfold FX9_verb
        rw [← hfv]
        exact hL
      · rw [hw q q1 q2]
        by_cases y : m = q
        · rw [decide_eq_true y, decide_eq_true (by rw [← y]; exact m3)]
        · rw [decide_eq_false y, decide_eq_false (fun x => vl_ne ⟨m, m2⟩ ⟨q, q2⟩ y (m3.symm.trans x))]
    · have hno : ∀ m, 1 ≤ m → m < 12 → ¬ ls = vl m := fun m m1 m2 y => ex ⟨m, m1, m2, y⟩
      have hfv : fv (fun k => decide (ls = vl k)) 12 0 = 0 := fv_0 (fun j hj => by
        refine decide_eq_false (fun y => ?_)
        by_cases z0 : j = 0
        · rw [z0] at y
          have := s1.1
          rw [y] at this
          exact absurd this (by decide)
        · exact hno j (by omega) hj y) 12 0 (by omega)
      refine ⟨0, by decide, ?_, fun y => absurd rfl y, fun q q1 q2 => ?_⟩
      · unfold FX9_verb
        rw [← hfv]
        exact hL
      · rw [hw q q1 q2, decide_eq_false (hno q q1 q2), decide_eq_false (by omega)]
  · have c2 : ¬ (w 10).1 2 i = 1 := by rw [k3]; exact nI_ne (b := 1) z (by omega) (by decide)
    have q6 : ¬ (v 15).1 0 6 = 1 := by rw [r6]; exact nI_ne (b := 1) z (by omega) (by decide)
    have hL := verb_L (n := n) k1 k2 (p := fun _ => false) (fun k hk' => ⟨fun y => absurd y c2, fun _ => rfl⟩) 12 0 n (by omega) (by omega)
    refine ⟨0, by decide, ?_, fun y => absurd rfl y, fun q q1 q2 => ?_⟩
    · unfold FX9_verb
      rw [fv_0 (fun _ _ => rfl) 12 0 (by omega)] at hL
      exact hL
    · unfold FX13_isWord
      rw [if_pos r8, if_neg q6, decide_eq_false (by omega)]
