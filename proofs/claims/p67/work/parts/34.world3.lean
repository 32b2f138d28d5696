theorem p_1014 : Cond.code yX13_init cX13_init 1 none ∈ WALL := WALL_in (List.mem_append_right _ (List.mem_append_right _ (List.mem_append_right _ (List.mem_append_right _ (List.mem_append_right _ (List.mem_append_left _ (List.mem_of_getElem? (i := 30) rfl))))))) rfl
theorem p_1015 : Cond.methodLink RX13 1 ⟨"java/lang/Object", "<init>", "()V"⟩ ∈ WALL := WALL_in (List.mem_append_right _ (List.mem_append_right _ (List.mem_append_right _ (List.mem_append_right _ (List.mem_append_right _ (List.mem_append_left _ (List.mem_of_getElem? (i := 31) rfl))))))) rfl
theorem p_1016 : Cond.classLink RX13 7 "[[I" ∈ WALL := WALL_in (List.mem_append_right _ (List.mem_append_right _ (List.mem_append_right _ (List.mem_append_right _ (List.mem_append_right _ (List.mem_append_left _ (List.mem_of_getElem? (i := 32) rfl))))))) rfl
theorem p_1018 : Cond.classLink RX13 20 RJ4 ∈ WALL := WALL_in (List.mem_append_right _ (List.mem_append_right _ (List.mem_append_right _ (List.mem_append_right _ (List.mem_append_right _ (List.mem_append_left _ (List.mem_of_getElem? (i := 34) rfl))))))) rfl
theorem p_1019 : Cond.methodLink RX13 22 yJ4_init_da8c8 ∈ WALL := WALL_in (List.mem_append_right _ (List.mem_append_right _ (List.mem_append_right _ (List.mem_append_right _ (List.mem_append_right _ (List.mem_append_left _ (List.mem_of_getElem? (i := 35) rfl))))))) rfl
theorem p_1041 : Cond.fieldLink RX13 23 RX13 "text" "Ljava/lang/StringBuilder;" ∈ WALL := WALL_in (List.mem_append_right _ (List.mem_append_right _ (List.mem_append_right _ (List.mem_append_right _ (List.mem_append_right _ (List.mem_append_left _ (List.mem_of_getElem? (i := 57) rfl))))))) rfl
/-! THE LAW's WORLD is made: its object, three rows of rows, a builder -/
theorem arrV_ext (c : ClassId) {n : Nat} {f g : Nat → Value} (h : ∀ j, j < n → f j = g j) : arrV c n f = arrV c n g := by
  have e : (Array.ofFn (n := n) fun j => f j.val) = Array.ofFn (n := n) fun j => g j.val := by
    congr 1
    funext j
    exact h j.val j.isLt
  show ({ cls := c, slots := Array.ofFn (n := n) fun j => f j.val, vm := .none } : Cell) = _
  rw [e]
  rfl
def mnf (G : GG) (f : Nat → va_E) (k N M : Nat) : Nat → va_E := fun i => if i < k then f i else if i = k then aR G 8 N (fun j => gn G + (k + 1 + j)) else aI G M (fun _ => 0)
section MNB
variable {G : GG} {own : String} {cc : ByteArray} {p : Program} {l : Launch} {e : Env} {R : Room} {s : State} {m : MethodId} {args : Array Value} {below : List Frame} {meth : Method} {c : Code} {nL cells slots : Nat} {Q : State → Prop} {pc t : Nat} {lc : List (Nat × Value)} {st : List Value} {k : Nat} {f : Nat → va_E}
theorem N_mna (hX : FX G own cc nL p s m args c) {index N M : Nat} {x y : Int32} (hcl : Cond.classLink own index "[[I" ∈ WALL) (harr : Cond.arrayClass .int ∈ WALL) (hn : ¬ x < 0) (hk : ¬ y < 0) (hN : x.toNatClampNeg = N) (hM : y.toNatClampNeg = M) (hb1 : N * 4 ≤ 536870912) (hb2 : M * 4 ≤ 536870912) (hroom : cells + (1 + N) ≤ R.cells ∧ slots + (N + N * M) ≤ R.slots) (hdg : decode cc pc = .ok (.multianewarray index 2, 4)) (ht : pc + 4 = t)
    (kk : J G p l e R s m args below meth c nL (cells + 1 + N) (slots + N + N * M) Q (NB G (k + 1 + N) (mnf G f k N M)) t lc (.ref (gn G + k) :: st)) : J G p l e R s m args below meth c nL cells slots Q (NB G k f) pc lc (.int y :: .int x :: st) := by
  subst ht
  intro H locs ls h1 h2 h3
  have hAOI : AOI G s := hX.G2.2.2.2.2.2.2.2.2.2.2.2.2.1
  have f8 := (hX.2.2.2.2.2.1.2 8 _ rfl).2
  have f0 := (hX.2.2.2.2.2.1.2 0 _ rfl).2
  have hz9 : gz G ≤ H.size := by rw [h2.1]; exact Nat.le_trans h2.2.1 (Nat.le_add_right _ _)
  refine W_mna hX.1 hX.2.1 hX.2.2.2.1 (hX.2.2.2.2.1 _ hcl) (hX.2.2.2.2.1 _ harr) (cA := gc G 8) (cI := gc G 0) f8 f0 hAOI hn hk hN hM hb1 hb2 hroom.1 hroom.2 hdg fun H1 locs1 z o a1 a2 hl => ?_
  have r := kk H1 locs1 ls h1 ⟨by rw [z, h2.1]; omega, h2.2.1, fun i hi => by
    by_cases e1 : i < k
    · show va_at _ _ (_, if i < k then _ else _) _
      rw [if_pos e1]
      exact (h2.2.2 i e1).kept (o _ (by show gn G + i < H.size; rw [h2.1]; omega))
    · by_cases e2 : i = k
      · subst e2
        show va_at _ _ (_, if i < i then _ else if i = i then _ else _) _
        rw [if_neg (Nat.lt_irrefl _), if_pos rfl]
        show H1[gn G + i]? = some (vp_cell _ _)
        rw [← h2.1, a1, vp_cell_q]
        refine congrArg some (arrV_ext _ fun j hj => ?_)
        show (if j < N then Value.ref (H.size + 1 + j) else .null) = Value.ref (gn G + (i + 1 + j))
        rw [if_pos hj, h2.1]
        have e9 : gn G + i + 1 + j = gn G + (i + 1 + j) := by omega
        rw [e9]
      · show va_at _ _ (_, if i < k then _ else if i = k then _ else _) _
        rw [if_neg e1, if_neg e2]
        have := a2 (i - k - 1) (by omega)
        rw [h2.1, show gn G + k + 1 + (i - k - 1) = gn G + i by omega] at this
        exact this⟩ ⟨Nat.le_trans h3.1 (by omega), fun q a b => by rw [o q (Nat.lt_of_lt_of_le a h3.1)]; exact h3.2.1 q a b, fun q hq => (hl q hq).elim (h3.2.2 q) (fun e => by rw [e]; exact hX.2.2.2.2.2.2.2.2.2 _ hz9)⟩
  rw [← h2.1] at r
  exact r
end MNB
theorem dfX13 : ∀ j, j < 12 → defaultValue (tyX13 j) = vp_V [.int 0, .int 0, .int 0, .int 0, .int 0, .int 0, .int 0, .int 0, .null, .null, .null, .null] j := fun j hj => match j, hj with
  | 0, _ => rfl
  | 1, _ => rfl
  | 2, _ => rfl
  | 3, _ => rfl
  | 4, _ => rfl
  | 5, _ => rfl
  | 6, _ => rfl
  | 7, _ => rfl
  | 8, _ => rfl
  | 9, _ => rfl
  | 10, _ => rfl
  | 11, _ => rfl
  | _ + 12, h => absurd h (by omega)
def V0 : MM := (fun _ _ => 0, fun _ _ => 0)

theorem miX13_init : MI yX13_init cX13_init 1 none 0 := ⟨p_1014, p_25, by decide +kernel, by decide +kernel, by decide +kernel, by decide +kernel⟩
theorem wi_cells {G : GG} (hg : gn G = g0 G) {f f1 f2 f3 : Nat → va_E} {x1 x2 : va_E} (hf1 : f1 = mnf G (f) 1 8 6) (hf2 : f2 = mnf G (nf f1 0 x1) 10 8 4) (hf3 : f3 = mnf G (nf f2 0 x2) 19 30 9) (i : Nat) (h1 : 1 ≤ i) (h2 : i < 50) : f3 i = cellW G i (fun _ => 0) := by
  subst hf3; subst hf2; subst hf1
  unfold mnf cellW adW
  rw [hg]
  by_cases a1 : i = 1
  · subst a1
    rfl
  by_cases a2 : i < 10
  · rw [if_pos (by omega), nf_o (by omega), if_pos (by omega), nf_o (by omega), if_neg (by omega), if_neg a1, if_neg (by omega), if_neg a1, if_pos a2]
  by_cases a3 : i = 10
  · subst a3
    rfl
  by_cases a4 : i < 19
  · rw [if_pos a4, nf_o (by omega), if_neg a2, if_neg a3, if_neg (by omega), if_neg a1, if_neg a2, if_neg a3, if_pos a4]
  by_cases a5 : i = 19
  · subst a5
    rfl
  rw [if_neg a4, if_neg a5, if_neg (by omega), if_neg a1, if_neg a2, if_neg a3, if_neg a4]
abbrev rmX13_init : Room := { frames := 3, cells := 51, slots := 474, locals := 160 }
theorem cnX13_init {G : GG} {l : Launch} {f : Nat → va_E} (hg : gn G = g0 G) (hf : f 0 = .inr (10, [.int 0, .int 0, .int 0, .int 0, .int 0, .int 0, .int 0, .int 0, .null, .null, .null, .null])) : CTN G l yX13_init cX13_init 1 none rmX13_init 51 474 [.ref (gn G + 0)] (NB G 1 f) (fun v H => v = none ∧ PB G (WH G Tr V0) (g0 G + 51) (g0 G + 50) [] H) := by
  refine CTN.of miX13_init [(0, .ref (gn G + 0))] rfl (Nat.le_of_ble_eq_true rfl) ?_
  intro p e s m args below meth c hX hAO hnm hR hlk
  have hX : FX G RX13 cX13_init 1 p s m args c := hX
  refine J_aload_n hX dX13_init_0 0 rfl (t := 1) rfl ?_
  refine N_obj hX p_1015 ⟨Nat.le_of_ble_eq_true rfl, Nat.le_of_ble_eq_true rfl⟩ dX13_init_1 (t := 4) rfl ?_
  refine J_aload_n hX dX13_init_4 0 rfl (t := 5) rfl ?_
  refine J_bipush (v := 8) hX dX13_init_5 (by decide) (t := 7) rfl ?_
  refine J_bipush (v := 6) hX dX13_init_7 (by decide) (t := 9) rfl ?_
  refine N_mna (k := 1) (f := f) hX p_1016 p_101 (by decide) (by decide) (N := 8) (M := 6) rfl rfl (by decide) (by decide) ⟨Nat.le_of_ble_eq_true rfl, Nat.le_of_ble_eq_true rfl⟩ dX13_init_9 (t := 13) rfl ?_
  obtain ⟨f1, hf1⟩ : ∃ z, z = mnf G (f) 1 8 6 := ⟨_, rfl⟩
  rw [← hf1]
  have e1 : f1 0 = .inr (10, [.int 0, .int 0, .int 0, .int 0, .int 0, .int 0, .int 0, .int 0, .null, .null, .null, .null]) := by rw [hf1]; show (if 0 < 1 then _ else _) = _; rw [if_pos (by decide)]; exact hf
  refine N_put (k := 10) hX cb10 (o := 0) (by decide) (fs := [.int 0, .int 0, .int 0, .int 0, .int 0, .int 0, .int 0, .int 0, .null, .null, .null, .null]) (fs2 := [.int 0, .int 0, .int 0, .int 0, .int 0, .int 0, .int 0, .int 0, .ref (gn G + 1), .null, .null, .null]) e1 8 (by decide) p_1035 rfl (ty := .array (.array .int)) rfl rfl rfl (by show 8 < 12; decide) rfl dX13_init_13 (t := 16) rfl ?_
  refine J_aload_n hX dX13_init_16 0 rfl (t := 17) rfl ?_
  refine J_bipush (v := 8) hX dX13_init_17 (by decide) (t := 19) rfl ?_
  refine J_iconst (v := 4) hX dX13_init_19 (by decide) (t := 20) rfl ?_
  refine N_mna (k := 10) (f := nf f1 0 (.inr (10, [.int 0, .int 0, .int 0, .int 0, .int 0, .int 0, .int 0, .int 0, .ref (gn G + 1), .null, .null, .null]))) hX p_1016 p_101 (by decide) (by decide) (N := 8) (M := 4) rfl rfl (by decide) (by decide) ⟨Nat.le_of_ble_eq_true rfl, Nat.le_of_ble_eq_true rfl⟩ dX13_init_20 (t := 24) rfl ?_
  obtain ⟨f2, hf2⟩ : ∃ z, z = mnf G (nf f1 0 (.inr (10, [.int 0, .int 0, .int 0, .int 0, .int 0, .int 0, .int 0, .int 0, .ref (gn G + 1), .null, .null, .null]))) 10 8 4 := ⟨_, rfl⟩
  rw [← hf2]
  have e2 : f2 0 = .inr (10, [.int 0, .int 0, .int 0, .int 0, .int 0, .int 0, .int 0, .int 0, .ref (gn G + 1), .null, .null, .null]) := by rw [hf2]; show (if 0 < 10 then _ else _) = _; rw [if_pos (by decide)]; exact nf_s
  refine N_put (k := 19) hX cb10 (o := 0) (by decide) (fs := [.int 0, .int 0, .int 0, .int 0, .int 0, .int 0, .int 0, .int 0, .ref (gn G + 1), .null, .null, .null]) (fs2 := [.int 0, .int 0, .int 0, .int 0, .int 0, .int 0, .int 0, .int 0, .ref (gn G + 1), .ref (gn G + 10), .null, .null]) e2 9 (by decide) p_1037 rfl (ty := .array (.array .int)) rfl rfl rfl (by show 9 < 12; decide) rfl dX13_init_24 (t := 27) rfl ?_
  refine J_aload_n hX dX13_init_27 0 rfl (t := 28) rfl ?_
  refine J_bipush (v := 30) hX dX13_init_28 (by decide) (t := 30) rfl ?_
  refine J_bipush (v := 9) hX dX13_init_30 (by decide) (t := 32) rfl ?_
  refine N_mna (k := 19) (f := nf f2 0 (.inr (10, [.int 0, .int 0, .int 0, .int 0, .int 0, .int 0, .int 0, .int 0, .ref (gn G + 1), .ref (gn G + 10), .null, .null]))) hX p_1016 p_101 (by decide) (by decide) (N := 30) (M := 9) rfl rfl (by decide) (by decide) ⟨Nat.le_of_ble_eq_true rfl, Nat.le_of_ble_eq_true rfl⟩ dX13_init_32 (t := 36) rfl ?_
  obtain ⟨f3, hf3⟩ : ∃ z, z = mnf G (nf f2 0 (.inr (10, [.int 0, .int 0, .int 0, .int 0, .int 0, .int 0, .int 0, .int 0, .ref (gn G + 1), .ref (gn G + 10), .null, .null]))) 19 30 9 := ⟨_, rfl⟩
  rw [← hf3]
  have e3 : f3 0 = .inr (10, [.int 0, .int 0, .int 0, .int 0, .int 0, .int 0, .int 0, .int 0, .ref (gn G + 1), .ref (gn G + 10), .null, .null]) := by rw [hf3]; show (if 0 < 19 then _ else _) = _; rw [if_pos (by decide)]; exact nf_s
  refine N_put (k := 50) hX cb10 (o := 0) (by decide) (fs := [.int 0, .int 0, .int 0, .int 0, .int 0, .int 0, .int 0, .int 0, .ref (gn G + 1), .ref (gn G + 10), .null, .null]) (fs2 := [.int 0, .int 0, .int 0, .int 0, .int 0, .int 0, .int 0, .int 0, .ref (gn G + 1), .ref (gn G + 10), .ref (gn G + 19), .null]) e3 10 (by decide) p_1039 rfl (ty := .array (.array .int)) rfl rfl rfl (by show 10 < 12; decide) rfl dX13_init_36 (t := 39) rfl ?_
  refine J_aload_n hX dX13_init_39 0 rfl (t := 40) rfl ?_
  refine N_new (k := 50) hX cb11 p_1018 p_402 p_27 [.null, .int 0, .int 0, .int 0] dfJ4 ⟨Nat.le_of_ble_eq_true rfl, Nat.le_of_ble_eq_true rfl⟩ dX13_init_40 (t := 43) rfl ?_
  obtain ⟨f4, hf4⟩ : ∃ z, z = nf f3 0 (.inr (10, [.int 0, .int 0, .int 0, .int 0, .int 0, .int 0, .int 0, .int 0, .ref (gn G + 1), .ref (gn G + 10), .ref (gn G + 19), .null])) := ⟨_, rfl⟩
  rw [← hf4]
  have e4 : f4 0 = .inr (10, [.int 0, .int 0, .int 0, .int 0, .int 0, .int 0, .int 0, .int 0, .ref (gn G + 1), .ref (gn G + 10), .ref (gn G + 19), .null]) := by rw [hf4]; exact nf_s
  refine J_areaI (φ := gz G ≤ gn G) (fun H h => h.2.1) fun hgz => ?_
  refine J_imp (I2 := fun H => (∀ o, o < 50 → va_at (gD G) jcl (gn G + o, f4 o) H) ∧ va_at (gD G) jcl (gn G + 50, .inr (11, [.null, .int 0, .int 0, .int 0])) H) (fun H h => ⟨fun o ho => by have := h.2.2 o (by omega); rw [nf_o (by omega)] at this; exact this, by have := h.2.2 50 (by decide); rw [nf_s] at this; exact this⟩) ?_
  refine J_dup hX dX13_init_43 rfl (t := 44) rfl ?_
  refine N_call hX hAO [] [.ref (gn G + 50), .ref (gn G + 0)] (cnJ4_initI (I := fun H => ∀ o, o < 50 → va_at (gD G) jcl (gn G + o, f4 o) H) (k1 := gn G + 50) (fun H H1 h hz hq o ho => (h o ho).kept (hq _ (by show gn G + o < gn G + 50; omega))) (Nat.le_refl _) (hX.newA hgz 50)) miJ4_init_da8c8 p_404 rfl p_1019 ⟨rfl, rfl, Nat.le_of_ble_eq_true rfl, Nat.le_of_ble_eq_true rfl⟩ rfl rfl (Nat.le_of_ble_eq_true rfl) ⟨Nat.le_of_ble_eq_true rfl, Nat.le_of_ble_eq_true rfl⟩ dX13_init_44 (t := 47) rfl (fun v => J_pure fun hv => J_exE fun q => J_pure fun hq => ?_)
  subst hv
  have c1 : ∀ i, 1 ≤ i → i < 50 → f4 i = f3 i := fun i h1 h2 => by rw [hf4]; exact nf_o (by omega)
  refine J_putI (I2 := fun H => ((SOb G (gn G + 50) q 0 0 H ∧ SAr G q 16 (fun _ => 0) H) ∧ ∀ o, 1 ≤ o → o < 50 → va_at (gD G) jcl (gn G + o, f3 o) H) ∧ va_at (gD G) jcl (gn G + 0, .inr (10, [.int 0, .int 0, .int 0, .int 0, .int 0, .int 0, .int 0, .int 0, .ref (gn G + 1), .ref (gn G + 10), .ref (gn G + 19), .ref (gn G + 50)])) H) hX cb10 (fs := [.int 0, .int 0, .int 0, .int 0, .int 0, .int 0, .int 0, .int 0, .ref (gn G + 1), .ref (gn G + 10), .ref (gn G + 19), .null]) (fun H h => by have := h.2 0 (by decide); rw [e4] at this; exact this) (hX.newA hgz 0) 11 (by decide) p_1041 rfl (ty := .object RJ4) rfl rfl rfl (by show 11 < 12; decide) (fun H H1 h e hz ho => ⟨⟨⟨h.1.1.kept (ho _ (by show gn G + 50 ≠ gn G + 0; omega)), h.1.2.kept (ho _ (by show q ≠ gn G + 0; omega))⟩, fun i h1 h2 => by rw [← c1 i h1 h2]; exact (h.2 i h2).kept (ho _ (by show gn G + i ≠ gn G + 0; omega))⟩, e⟩) dX13_init_47 (t := 50) rfl ?_
  have hc : ∀ i, 1 ≤ i → i < 50 → f3 i = cellW G i (fun _ => 0) := fun i h1 h2 => wi_cells hg hf1 hf2 hf3 i h1 h2
  refine J_wid (k := 51) (n := 474) (Nat.le_of_ble_eq_true rfl) (Nat.le_of_ble_eq_true rfl) ?_
  refine J_vretP hX hR hlk (fun H h => ⟨rfl, q, 16, 0, fun _ => 0, ⟨⟨⟨by omega, by omega⟩, by rw [← hg]; exact hX.newA hgz 50, hq.2.2⟩, ⟨fun _ => rfl, by decide, by decide, by decide⟩, fun j hj => absurd hj (Nat.not_lt_zero _)⟩, ⟨by rw [← hg]; exact h.1.1.1, h.1.1.2⟩, ⟨⟨fun j hj => ?_, fun j hj => by unfold adW; rw [← hg]; exact hX.newA hgz j⟩, trivial⟩⟩) dX13_init_50
  by_cases ej : j = 0
  · subst ej
    have h9 := h.2
    unfold adW
    rw [← hg]
    have ew : fWorld G (V0.1 0) = [.int 0, .int 0, .int 0, .int 0, .int 0, .int 0, .int 0, .int 0, .ref (gn G + 1), .ref (gn G + 10), .ref (gn G + 19), .ref (gn G + 50)] := by unfold fWorld adW V0; rw [hg]
    show va_at _ _ (_, .inr (10, fWorld G (V0.1 0))) _
    rw [ew]
    exact h9
  · have h9 := h.1.2 j (by omega) hj
    rw [hc j (by omega) hj, hg] at h9
    exact h9
