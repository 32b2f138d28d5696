theorem p_101 : Cond.arrayClass FieldType.int ∈ WALL := WALL_in (List.mem_append_right _ (List.mem_append_left _ (List.mem_of_getElem? (i := 77) rfl))) rfl
theorem p_1020 : Cond.fieldLink RX13 81 RX13 "valleys" "I" ∈ WALL := WALL_in (List.mem_append_right _ (List.mem_append_right _ (List.mem_append_right _ (List.mem_append_right _ (List.mem_append_right _ (List.mem_append_left _ (List.mem_of_getElem? (i := 36) rfl))))))) rfl
theorem p_1023 : Cond.fieldLink RX13 85 RX13 "customers" "I" ∈ WALL := WALL_in (List.mem_append_right _ (List.mem_append_right _ (List.mem_append_right _ (List.mem_append_right _ (List.mem_append_right _ (List.mem_append_left _ (List.mem_of_getElem? (i := 39) rfl))))))) rfl
theorem p_1034 : Cond.fieldLink RX13 103 RX13 "brought" "I" ∈ WALL := WALL_in (List.mem_append_right _ (List.mem_append_right _ (List.mem_append_right _ (List.mem_append_right _ (List.mem_append_right _ (List.mem_append_left _ (List.mem_of_getElem? (i := 50) rfl))))))) rfl
theorem p_1178 : Cond.instanceMethod yX13_addValley ∈ WALL := WALL_in (List.mem_append_right _ (List.mem_append_right _ (List.mem_append_right _ (List.mem_append_right _ (List.mem_append_right _ (List.mem_append_left _ (List.mem_of_getElem? (i := 194) rfl))))))) rfl
theorem p_1179 : Cond.selects RX13 yX13_addValley yX13_addValley ∈ WALL := WALL_in (List.mem_append_right _ (List.mem_append_right _ (List.mem_append_right _ (List.mem_append_right _ (List.mem_append_right _ (List.mem_append_left _ (List.mem_of_getElem? (i := 195) rfl))))))) rfl
theorem p_1180 : Cond.code yX13_addValley cX13_addValley 5 (some .int) ∈ WALL := WALL_in (List.mem_append_right _ (List.mem_append_right _ (List.mem_append_right _ (List.mem_append_right _ (List.mem_append_right _ (List.mem_append_left _ (List.mem_of_getElem? (i := 196) rfl))))))) rfl
theorem p_1181 : Cond.methodLink RX13 106 ⟨RJ10, "arraycopy", "(Ljava/lang/Object;ILjava/lang/Object;II)V"⟩ ∈ WALL := WALL_in (List.mem_append_right _ (List.mem_append_right _ (List.mem_append_right _ (List.mem_append_right _ (List.mem_append_right _ (List.mem_append_left _ (List.mem_of_getElem? (i := 197) rfl))))))) rfl
theorem p_1223 : Cond.instanceMethod yX13_addCustomer ∈ WALL := WALL_in (List.mem_append_right _ (List.mem_append_right _ (List.mem_append_right _ (List.mem_append_right _ (List.mem_append_right _ (List.mem_append_left _ (List.mem_of_getElem? (i := 239) rfl))))))) rfl
theorem p_1224 : Cond.selects RX13 yX13_addCustomer yX13_addCustomer ∈ WALL := WALL_in (List.mem_append_right _ (List.mem_append_right _ (List.mem_append_right _ (List.mem_append_right _ (List.mem_append_right _ (List.mem_append_right _ (List.mem_append_left _ (List.mem_of_getElem? (i := 0) rfl)))))))) rfl
theorem p_1225 : Cond.code yX13_addCustomer cX13_addCustomer 4 (some .int) ∈ WALL := WALL_in (List.mem_append_right _ (List.mem_append_right _ (List.mem_append_right _ (List.mem_append_right _ (List.mem_append_right _ (List.mem_append_right _ (List.mem_append_left _ (List.mem_of_getElem? (i := 1) rfl)))))))) rfl
theorem p_1232 : Cond.instanceMethod yX13_sell ∈ WALL := WALL_in (List.mem_append_right _ (List.mem_append_right _ (List.mem_append_right _ (List.mem_append_right _ (List.mem_append_right _ (List.mem_append_right _ (List.mem_append_left _ (List.mem_of_getElem? (i := 8) rfl)))))))) rfl
theorem p_1233 : Cond.selects RX13 yX13_sell yX13_sell ∈ WALL := WALL_in (List.mem_append_right _ (List.mem_append_right _ (List.mem_append_right _ (List.mem_append_right _ (List.mem_append_right _ (List.mem_append_right _ (List.mem_append_left _ (List.mem_of_getElem? (i := 9) rfl)))))))) rfl
theorem p_1234 : Cond.code yX13_sell cX13_sell 6 (some .int) ∈ WALL := WALL_in (List.mem_append_right _ (List.mem_append_right _ (List.mem_append_right _ (List.mem_append_right _ (List.mem_append_right _ (List.mem_append_right _ (List.mem_append_left _ (List.mem_of_getElem? (i := 10) rfl)))))))) rfl
/-! THE LAW's WORLD: what makes a row of its own and copies it -/
section ICOPY
variable {G : GG} {own : String} {cc : ByteArray} {p : Program} {l : Launch} {e : Env} {R : Room} {s : State} {m : MethodId} {args : Array Value} {below : List Frame} {meth : Method} {c : Code} {nL cells slots : Nat} {Q : State → Prop} {pc t : Nat} {lc : List (Nat × Value)} {st : List Value} {I I2 : Heap → Prop}
theorem J_icopyI (hX : FX G own cc nL p s m args c) {a0 a1 n0 n1 : Nat} {f g : Nat → Int32} (hI0 : ∀ H, I H → va_at (gD G) jcl (a0, aI G n0 f) H) (hI1 : ∀ H, I H → va_at (gD G) jcl (a1, aI G n1 g) H) (hA : gA G a1) {index : Nat} {k : Nat} {x : Int32} (hx : x = nI k) (hk : k ≤ n0) (hk2 : k ≤ n1) (hc : n0 < 2 ^ 31) (hI2 : ∀ H H1 : Heap, I H → va_at (gD G) jcl (a1, aI G n1 (va_cpy f g 0 0 k)) H1 → H1.size = H.size → (∀ q : Nat, q ≠ a1 → H1[q]? = H[q]?) → I2 H1) (hw : Cond.methodLink own index arraycopyName ∈ WALL ∧ Cond.native arraycopyName ∈ WALL ∧ Cond.static arraycopyName ∈ WALL ∧ Cond.initialized "java/lang/System" ∈ WALL) (hroom : 1 ≤ R.frames ∧ (st.map fun v => v.category).sum + (nativeFrameWords "java/lang/System" "arraycopy" 5 + 11) ≤ R.locals) (hdg : decode cc pc = .ok (.invokestatic index, 3)) (ht : pc + 3 = t)
    (kk : J G p l e R s m args below meth c nL cells slots Q I2 t lc st) : J G p l e R s m args below meth c nL cells slots Q I pc lc (.int x :: .int 0 :: .ref a1 :: .int 0 :: .ref a0 :: st) := by
  subst ht; subst hx
  intro H locs ls h1 h2 h3 T hT X
  have ek : (nI k).toNatClampNeg = k := nI_clamp (by omega)
  have c0 : H[a0]? = some (arrV (gc G 0) n0 (fun j => .int (f j))) := hI0 H h2
  have c1 : H[a1]? = some (arrV (gc G 0) n1 (fun j => .int (g j))) := hI1 H h2
  obtain ⟨-, k0, hk0, cm0, hkk0⟩ := (hX.2.2.2.2.2.1.2 0 _ rfl).1 n0 (fun j => .int (f j))
  obtain ⟨-, k1, hk1, cm1, hkk1⟩ := (hX.2.2.2.2.2.1.2 0 _ rfl).1 n1 (fun j => .int (g j))
  have z0 : ¬ (0 : Int32) < 0 := by decide
  have zk : ¬ nI k < 0 := nI_pos (by omega)
  have tk : (nI k).toInt = (k : Int) := nI_toInt (by omega)
  have t0 : (0 : Int32).toInt = 0 := rfl
  have e0 : (0 : Int32).toNatClampNeg = 0 := rfl
  obtain ⟨vm', X', step⟩ := X.arraycopy hX.1 hX.2.2.2.1 (hX.2.2.2.2.1 _ hw.1) (hX.2.2.2.2.1 _ hw.2.1) (hX.2.2.2.2.1 _ hw.2.2.1) (hX.2.2.2.2.1 _ hw.2.2.2) (srcPos := 0) (destPos := 0) (n := nI k) (by rw [hT]; exact c0) (by rw [hT]; exact c1)
    (fun _ h => by cases h) (fun _ h => by cases h) (fun h => by cases h) (fun h => by cases h) hk0 hk1 hkk0 hkk1 (by simp [refKind]) z0 z0 zk
    (by rw [arrV_size, tk, t0]; omega) (by rw [arrV_size, tk, t0]; omega)
    (fun vm₁ _ i hi => by
      rw [ek] at hi
      have e : (arrV (gc G 0) n0 (fun j => .int (f j))).slots.getD ((0 : Int32).toNatClampNeg + i) .null = .int (f i) := by
        rw [e0, Nat.zero_add, Array.getD_eq_getD_getElem?, arrV_read _ _ (by omega)]
        rfl
      rw [e]
      exact ⟨rfl, trivial⟩)
    (g := F0 m pc ls (.int (nI k) :: .int 0 :: .ref a1 :: .int 0 :: .ref a0 :: st)) rfl (by rw [hX.2.2.1]; exact h1.1) (rest := st) rfl (by rw [hX.2.1]; exact hdg) hroom.1 (by show 2 * 0 + _ + _ ≤ _; have := hroom.2; omega)
  have e1 : copied (arrV (gc G 0) n0 (fun j => .int (f j))) (arrV (gc G 0) n1 (fun j => .int (g j))) 0 0 (nI k) = arrV (gc G 0) n1 (fun j => .int (va_cpy f g 0 0 k j)) := by
    have h := va_copied (fun z => Value.int z) (gc G 0) (gc G 0) (n0 := n0) (n1 := n1) (sp := (0 : Int32).toNatClampNeg) (dp := (0 : Int32).toNatClampNeg) (n := (nI k).toNatClampNeg) f g (by rw [e0, ek]; omega)
    rw [e0, ek] at h
    unfold copied
    rw [e0, ek]
    exact h
  rw [e1] at X' step
  have hl : a1 < H.size := (Array.getElem?_eq_some_iff.mp c1).1
  obtain ⟨H1, hH1⟩ : ∃ z, z = H.setIfInBounds a1 (arrV (gc G 0) n1 (fun j => .int (va_cpy f g 0 0 k j))) := ⟨_, rfl⟩
  have oq : ∀ x : Nat, x ≠ a1 → H1[x]? = H[x]? := fun x hx => by rw [hH1]; simp [Array.getElem?_setIfInBounds, Ne.symm hx]
  have on : H1[a1]? = some (arrV (gc G 0) n1 (fun j => .int (va_cpy f g 0 0 k j))) := by rw [hH1]; simp [Array.getElem?_setIfInBounds, hl]
  have hz : H1.size = H.size := by rw [hH1]; simp
  obtain ⟨t, a, b⟩ := kk H1 _ ls h1 (hI2 H H1 h2 on hz oq) ⟨by rw [hz]; exact h3.1, fun x g1 g2 => by
      rw [oq x (fun e => g2 (by rw [e]; exact hA))]
      exact h3.2.1 x g1 g2, fun x hx => by
      rcases List.mem_append.mp hx with h | h
      · exact h3.2.2 x h
      · obtain ⟨z, -, hz⟩ := List.mem_map.mp h
        rw [← hz]
        exact hA⟩ _ (by rw [hH1, ← hT]; rfl) X'
  exact ⟨t, step t a, b⟩
theorem J_areaI {φ : Prop} (h : ∀ H, I H → φ) (kk : φ → J G p l e R s m args below meth c nL cells slots Q I pc lc st) : J G p l e R s m args below meth c nL cells slots Q I pc lc st := fun H locs ls h1 h2 h3 => kk (h H h2) H locs ls h1 h2 h3
end ICOPY
/-- the world beside a new row at q -/
def WQ (G : GG) (V : MM) (q n : Nat) (f : Nat → Int32) (H : Heap) : Prop := (WH G Tr V H ∧ va_at (gD G) jcl (q, aI G n f) H) ∧ g0 G + 50 ≤ q
theorem WQ_st {G : GG} {V : MM} {q n : Nat} {f f2 : Nat → Int32} : ∀ H H1 : Heap, WQ G V q n f H → va_at (gD G) jcl (q, aI G n f2) H1 → H1.size = H.size → (∀ x : Nat, x ≠ q → H1[x]? = H[x]?) → WQ G V q n f2 H1 := fun H H1 h e z o => ⟨⟨⟨h.1.1.1.kept (fun x hx _ => o x (fun e9 => by have h1 := hx.2; have h2 := h.2; omega)), trivial⟩, e⟩, h.2⟩
theorem VH.last {G : GG} {V : MM} {H : Heap} (h : VH G V H) : g0 G + 50 ≤ H.size := by
  have h9 := (h.1 49 (by decide)).lt
  unfold adW at h9
  omega
theorem WQ_rd {G : GG} {V : MM} {q n : Nat} {f : Nat → Int32} : ∀ H, WQ G V q n f H → va_at (gD G) jcl (q, aI G n f) H := fun _ h => h.1.2
/-- a row copied into the world's cell j -/
theorem WQ_cp {G : GG} {V V2 : MM} {q n j : Nat} {f : Nat → Int32} (hk : RK G j n) (hV : V2.1 j = va_cpy f (V.1 j) 0 0 n) (ho : ∀ i, i ≠ j → V2.1 i = V.1 i) : ∀ H H1 : Heap, WQ G V q n f H → va_at (gD G) jcl (adW G j, aI G n (va_cpy f (V.1 j) 0 0 n)) H1 → H1.size = H.size → (∀ x : Nat, x ≠ adW G j → H1[x]? = H[x]?) → WH G Tr V2 H1 := fun H H1 h e z o => ⟨h.1.1.1.put hk.1 (by rw [hk.2, hV]; exact e) ho o, trivial⟩
/-- the world's cell j begins with these ints -/
def putRow (V : MM) (j n : Nat) (f : Nat → Int32) : MM := (rowI V.1 j (va_cpy f (V.1 j) 0 0 n), V.2)
theorem putRow_s (V : MM) (j n : Nat) (f : Nat → Int32) : (putRow V j n f).1 j = va_cpy f (V.1 j) 0 0 n := if_pos rfl
theorem putRow_o (V : MM) {i j : Nat} (n : Nat) (f : Nat → Int32) (h : i ≠ j) : (putRow V j n f).1 i = V.1 i := if_neg h

abbrev rmX13_addValley : Room := { frames := 1, cells := 1, slots := 6, locals := 80 }
theorem miX13_addValley : MI yX13_addValley cX13_addValley 5 (some .int) 3 := ⟨p_1180, p_25, by decide +kernel, by decide +kernel, by decide +kernel, by decide +kernel⟩
theorem mvX13_addValley : MV yX13_addValley := ⟨p_1178, p_1179⟩
def row_addValley (M : MM) (p1 : Int32) (p2 : Int32) (p3 : Int32) : Nat → Int32 := upd (upd (upd (upd (upd (upd (fun _ => 0) 0 p1) 1 p2) 2 p3) 3 0) 4 10) 5 0
def FW_addValley (M : MM) (p1 : Int32) (p2 : Int32) (p3 : Int32) : Option (Int32 × MM) := gd (inb (M.1 0 0) 8) <| bnd (putRow M (2 + (M.1 0 0).toNatClampNeg) 6 (row_addValley M p1 p2 p3)) fun M1 =>
  bnd (sI M1 0 0 ((M1.1 0 0) + 1)) fun M2 =>
  some ((M2.1 0 0) - 1, M2)
set_option maxHeartbeats 4000000 in
set_option maxRecDepth 100000 in
theorem ctW_addValley {G : GG} {l : Launch} (M : MM) (p1 : Int32) (p2 : Int32) (p3 : Int32) {rx : Int32} {rw : MM} (hF : FW_addValley M p1 p2 p3 = some (rx, rw)) : CTP G l yX13_addValley cX13_addValley 5 (some .int) rmX13_addValley 1 6 [.ref (adW G 0), .int p1, .int p2, .int p3] (WH G Tr M) (fun v9 H => v9 = some (.int rx) ∧ WH G Tr rw H) := by
  refine CTP.of miX13_addValley [(0, .ref (adW G 0)), (1, .int p1), (2, .int p2), (3, .int p3)] rfl (Nat.le_of_ble_eq_true rfl) ?_
  intro p e s m args below meth c hX hR hlk
  have hX : FX G RX13 cX13_addValley 5 p s m args c := hX
  unfold FW_addValley at hF
  obtain ⟨g1, hF⟩ := gd_e hF
  obtain ⟨M1, e1, hF⟩ := bnd_e hF
  refine J_bipush (v := 6) hX dX13_addValley_0 (by decide) (t := 2) rfl ?_
  refine J_newII (N := 6) (Φ := fun q => g0 G + 50 ≤ q) hX (by decide) (by decide) (by decide) p_101 ⟨Nat.le_of_ble_eq_true rfl, Nat.le_of_ble_eq_true rfl⟩ (WH.grows hTr) (fun H h => h.1.last) dX13_addValley_2 (t := 4) rfl (fun q hq hlo => ?_)
  refine J_imp (I2 := WQ G M q 6 (fun _ => 0)) (fun H h => ⟨h, hlo⟩) ?_
  refine J_dup hX dX13_addValley_4 rfl (t := 5) rfl ?_
  refine J_iconst (v := 0) hX dX13_addValley_5 (by decide) (t := 6) rfl ?_
  refine J_iload_n hX dX13_addValley_6 1 rfl (t := 7) rfl ?_
  refine J_iastI (I2 := WQ G M q 6 (upd (fun _ => 0) 0 p1)) (n := 6) (f := (fun _ => 0)) hX WQ_rd hq (by decide) WQ_st dX13_addValley_7 (t := 8) rfl ?_
  refine J_dup hX dX13_addValley_8 rfl (t := 9) rfl ?_
  refine J_iconst (v := 1) hX dX13_addValley_9 (by decide) (t := 10) rfl ?_
  refine J_iload_n hX dX13_addValley_10 2 rfl (t := 11) rfl ?_
  refine J_iastI (I2 := WQ G M q 6 (upd (upd (fun _ => 0) 0 p1) 1 p2)) (n := 6) (f := (upd (fun _ => 0) 0 p1)) hX WQ_rd hq (by decide) WQ_st dX13_addValley_11 (t := 12) rfl ?_
  refine J_dup hX dX13_addValley_12 rfl (t := 13) rfl ?_
  refine J_iconst (v := 2) hX dX13_addValley_13 (by decide) (t := 14) rfl ?_
  refine J_iload_n hX dX13_addValley_14 3 rfl (t := 15) rfl ?_
  refine J_iastI (I2 := WQ G M q 6 (upd (upd (upd (fun _ => 0) 0 p1) 1 p2) 2 p3)) (n := 6) (f := (upd (upd (fun _ => 0) 0 p1) 1 p2)) hX WQ_rd hq (by decide) WQ_st dX13_addValley_15 (t := 16) rfl ?_
  refine J_dup hX dX13_addValley_16 rfl (t := 17) rfl ?_
  refine J_iconst (v := 3) hX dX13_addValley_17 (by decide) (t := 18) rfl ?_
  refine J_iconst (v := 0) hX dX13_addValley_18 (by decide) (t := 19) rfl ?_
  refine J_iastI (I2 := WQ G M q 6 (upd (upd (upd (upd (fun _ => 0) 0 p1) 1 p2) 2 p3) 3 0)) (n := 6) (f := (upd (upd (upd (fun _ => 0) 0 p1) 1 p2) 2 p3)) hX WQ_rd hq (by decide) WQ_st dX13_addValley_19 (t := 20) rfl ?_
  refine J_dup hX dX13_addValley_20 rfl (t := 21) rfl ?_
  refine J_iconst (v := 4) hX dX13_addValley_21 (by decide) (t := 22) rfl ?_
  refine J_bipush (v := 10) hX dX13_addValley_22 (by decide) (t := 24) rfl ?_
  refine J_iastI (I2 := WQ G M q 6 (upd (upd (upd (upd (upd (fun _ => 0) 0 p1) 1 p2) 2 p3) 3 0) 4 10)) (n := 6) (f := (upd (upd (upd (upd (fun _ => 0) 0 p1) 1 p2) 2 p3) 3 0)) hX WQ_rd hq (by decide) WQ_st dX13_addValley_24 (t := 25) rfl ?_
  refine J_dup hX dX13_addValley_25 rfl (t := 26) rfl ?_
  refine J_iconst (v := 5) hX dX13_addValley_26 (by decide) (t := 27) rfl ?_
  refine J_iconst (v := 0) hX dX13_addValley_27 (by decide) (t := 28) rfl ?_
  refine J_iastI (I2 := WQ G M q 6 (upd (upd (upd (upd (upd (upd (fun _ => 0) 0 p1) 1 p2) 2 p3) 3 0) 4 10) 5 0)) (n := 6) (f := (upd (upd (upd (upd (upd (fun _ => 0) 0 p1) 1 p2) 2 p3) 3 0) 4 10)) hX WQ_rd hq (by decide) WQ_st dX13_addValley_28 (t := 29) rfl ?_
  refine J_astore (lc2 := [(4, .ref q), (0, .ref (adW G 0)), (1, .int p1), (2, .int p2), (3, .int p3)]) hX dX13_addValley_29 (Nat.le_of_ble_eq_true rfl) rfl (t := 31) rfl ?_
  refine J_aload hX dX13_addValley_31 0 rfl (t := 33) rfl ?_
  refine J_iconst (v := 0) hX dX13_addValley_33 (by decide) (t := 34) rfl ?_
  refine J_aload_n hX dX13_addValley_34 1 rfl (t := 35) rfl ?_
  refine J_getI (fs := fWorld G (M.1 0)) hX cb10 (fun H h => kW0 H h.1.1) 8 (by decide) p_1035 rfl dX13_addValley_35 (t := 38) rfl ?_
  refine J_aload_n hX dX13_addValley_38 1 rfl (t := 39) rfl ?_
  refine J_getI (fs := fWorld G (M.1 0)) hX cb10 (fun H h => kW0 H h.1.1) 0 (by decide) p_1020 rfl dX13_addValley_39 (t := 42) rfl ?_
  refine J_aaldI (n := 8) (f := fun i => adW G (2 + i)) hX (fun H h => h.1.1.1.1 1 (by decide)) g1 dX13_addValley_42 (t := 43) rfl ?_
  refine J_iconst (v := 0) hX dX13_addValley_43 (by decide) (t := 44) rfl ?_
  refine J_bipush (v := 6) hX dX13_addValley_44 (by decide) (t := 46) rfl ?_
  have hk : RK G (2 + (M.1 0 0).toNatClampNeg) 6 := kWv (inbR g1)
  have e1s : M1.1 (2 + (M.1 0 0).toNatClampNeg) = va_cpy (row_addValley M p1 p2 p3) (M.1 (2 + (M.1 0 0).toNatClampNeg)) 0 0 6 := by rw [← e1]; exact putRow_s _ _ _ _
  have e1o : ∀ i, i ≠ (2 + (M.1 0 0).toNatClampNeg) → M1.1 i = M.1 i := fun i hi => by rw [← e1]; exact putRow_o _ _ _ hi
  clear e1
  refine J_areaI (fun H h => h.1.1.1.2 _ hk.1) (fun hA9 => ?_)
  refine J_icopyI (k := 6) (n0 := 6) (n1 := 6) (f := row_addValley M p1 p2 p3) (g := M.1 (2 + (M.1 0 0).toNatClampNeg)) (I2 := WH G Tr M1) hX WQ_rd (fun H h => by have h9 := h.1.1.1.1 _ hk.1; rw [hk.2] at h9; exact h9) hA9 rfl (by decide) (by decide) (by decide) (WQ_cp hk e1s e1o) ⟨p_1181, p_1121, p_1120, p_33⟩ ⟨Nat.le_of_ble_eq_true rfl, Nat.le_of_ble_eq_true rfl⟩ dX13_addValley_46 (t := 49) rfl ?_
  refine J_aload_n hX dX13_addValley_49 1 rfl (t := 50) rfl ?_
  refine J_dup hX dX13_addValley_50 rfl (t := 51) rfl ?_
  refine J_wGet hX 0 (by decide) p_1020 rfl dX13_addValley_51 (t := 54) rfl ?_
  refine J_iconst (v := 1) hX dX13_addValley_54 (by decide) (t := 55) rfl ?_
  refine J_iadd hX dX13_addValley_55 (t := 56) rfl ?_
  obtain ⟨M2, e3, hF⟩ := bnd_e hF
  refine J_wPut hX hTr 0 (by decide) p_1020 rfl rfl e3 rfl dX13_addValley_56 (t := 59) rfl ?_
  refine J_aload_n hX dX13_addValley_59 1 rfl (t := 60) rfl ?_
  refine J_wGet hX 0 (by decide) p_1020 rfl dX13_addValley_60 (t := 63) rfl ?_
  refine J_iconst (v := 1) hX dX13_addValley_63 (by decide) (t := 64) rfl ?_
  refine J_isub hX dX13_addValley_64 (t := 65) rfl ?_
  replace hF := Option.some.inj hF
  obtain ⟨hF, hF2⟩ := Prod.mk.inj hF
  subst hF
  subst hF2
  exact J_iretP hX hR hlk (fun H h => ⟨rfl, h⟩) dX13_addValley_65
abbrev rmX13_addCustomer : Room := { frames := 1, cells := 1, slots := 4, locals := 80 }
theorem miX13_addCustomer : MI yX13_addCustomer cX13_addCustomer 4 (some .int) 2 := ⟨p_1225, p_25, by decide +kernel, by decide +kernel, by decide +kernel, by decide +kernel⟩
theorem mvX13_addCustomer : MV yX13_addCustomer := ⟨p_1223, p_1224⟩
def row_addCustomer (M : MM) (p1 : Int32) (p2 : Int32) : Nat → Int32 := upd (upd (upd (upd (fun _ => 0) 0 p1) 1 p2) 2 0) 3 0
def FW_addCustomer (M : MM) (p1 : Int32) (p2 : Int32) : Option (Int32 × MM) := gd (inb (M.1 0 1) 8) <| bnd (putRow M (11 + (M.1 0 1).toNatClampNeg) 4 (row_addCustomer M p1 p2)) fun M1 =>
  bnd (sI M1 0 7 ((M1.1 0 7) + p2)) fun M2 =>
  bnd (sI M2 0 1 ((M2.1 0 1) + 1)) fun M4 =>
  some ((M4.1 0 1) - 1, M4)
set_option maxHeartbeats 4000000 in
set_option maxRecDepth 100000 in
theorem ctW_addCustomer {G : GG} {l : Launch} (M : MM) (p1 : Int32) (p2 : Int32) {rx : Int32} {rw : MM} (hF : FW_addCustomer M p1 p2 = some (rx, rw)) : CTP G l yX13_addCustomer cX13_addCustomer 4 (some .int) rmX13_addCustomer 1 4 [.ref (adW G 0), .int p1, .int p2] (WH G Tr M) (fun v9 H => v9 = some (.int rx) ∧ WH G Tr rw H) := by
  refine CTP.of miX13_addCustomer [(0, .ref (adW G 0)), (1, .int p1), (2, .int p2)] rfl (Nat.le_of_ble_eq_true rfl) ?_
  intro p e s m args below meth c hX hR hlk
  have hX : FX G RX13 cX13_addCustomer 4 p s m args c := hX
  unfold FW_addCustomer at hF
  obtain ⟨g1, hF⟩ := gd_e hF
  obtain ⟨M1, e1, hF⟩ := bnd_e hF
  refine J_iconst (v := 4) hX dX13_addCustomer_0 (by decide) (t := 1) rfl ?_
  refine J_newII (N := 4) (Φ := fun q => g0 G + 50 ≤ q) hX (by decide) (by decide) (by decide) p_101 ⟨Nat.le_of_ble_eq_true rfl, Nat.le_of_ble_eq_true rfl⟩ (WH.grows hTr) (fun H h => h.1.last) dX13_addCustomer_1 (t := 3) rfl (fun q hq hlo => ?_)
  refine J_imp (I2 := WQ G M q 4 (fun _ => 0)) (fun H h => ⟨h, hlo⟩) ?_
  refine J_dup hX dX13_addCustomer_3 rfl (t := 4) rfl ?_
  refine J_iconst (v := 0) hX dX13_addCustomer_4 (by decide) (t := 5) rfl ?_
  refine J_iload_n hX dX13_addCustomer_5 1 rfl (t := 6) rfl ?_
  refine J_iastI (I2 := WQ G M q 4 (upd (fun _ => 0) 0 p1)) (n := 4) (f := (fun _ => 0)) hX WQ_rd hq (by decide) WQ_st dX13_addCustomer_6 (t := 7) rfl ?_
  refine J_dup hX dX13_addCustomer_7 rfl (t := 8) rfl ?_
  refine J_iconst (v := 1) hX dX13_addCustomer_8 (by decide) (t := 9) rfl ?_
  refine J_iload_n hX dX13_addCustomer_9 2 rfl (t := 10) rfl ?_
  refine J_iastI (I2 := WQ G M q 4 (upd (upd (fun _ => 0) 0 p1) 1 p2)) (n := 4) (f := (upd (fun _ => 0) 0 p1)) hX WQ_rd hq (by decide) WQ_st dX13_addCustomer_10 (t := 11) rfl ?_
  refine J_dup hX dX13_addCustomer_11 rfl (t := 12) rfl ?_
  refine J_iconst (v := 2) hX dX13_addCustomer_12 (by decide) (t := 13) rfl ?_
  refine J_iconst (v := 0) hX dX13_addCustomer_13 (by decide) (t := 14) rfl ?_
  refine J_iastI (I2 := WQ G M q 4 (upd (upd (upd (fun _ => 0) 0 p1) 1 p2) 2 0)) (n := 4) (f := (upd (upd (fun _ => 0) 0 p1) 1 p2)) hX WQ_rd hq (by decide) WQ_st dX13_addCustomer_14 (t := 15) rfl ?_
  refine J_dup hX dX13_addCustomer_15 rfl (t := 16) rfl ?_
  refine J_iconst (v := 3) hX dX13_addCustomer_16 (by decide) (t := 17) rfl ?_
  refine J_iconst (v := 0) hX dX13_addCustomer_17 (by decide) (t := 18) rfl ?_
  refine J_iastI (I2 := WQ G M q 4 (upd (upd (upd (upd (fun _ => 0) 0 p1) 1 p2) 2 0) 3 0)) (n := 4) (f := (upd (upd (upd (fun _ => 0) 0 p1) 1 p2) 2 0)) hX WQ_rd hq (by decide) WQ_st dX13_addCustomer_18 (t := 19) rfl ?_
  refine J_astore_n (lc2 := [(3, .ref q), (0, .ref (adW G 0)), (1, .int p1), (2, .int p2)]) hX dX13_addCustomer_19 rfl (Nat.le_of_ble_eq_true rfl) rfl (t := 20) rfl ?_
  refine J_aload_n hX dX13_addCustomer_20 0 rfl (t := 21) rfl ?_
  refine J_iconst (v := 0) hX dX13_addCustomer_21 (by decide) (t := 22) rfl ?_
  refine J_aload_n hX dX13_addCustomer_22 1 rfl (t := 23) rfl ?_
  refine J_getI (fs := fWorld G (M.1 0)) hX cb10 (fun H h => kW0 H h.1.1) 9 (by decide) p_1037 rfl dX13_addCustomer_23 (t := 26) rfl ?_
  refine J_aload_n hX dX13_addCustomer_26 1 rfl (t := 27) rfl ?_
  refine J_getI (fs := fWorld G (M.1 0)) hX cb10 (fun H h => kW0 H h.1.1) 1 (by decide) p_1023 rfl dX13_addCustomer_27 (t := 30) rfl ?_
  refine J_aaldI (n := 8) (f := fun i => adW G (11 + i)) hX (fun H h => h.1.1.1.1 10 (by decide)) g1 dX13_addCustomer_30 (t := 31) rfl ?_
  refine J_iconst (v := 0) hX dX13_addCustomer_31 (by decide) (t := 32) rfl ?_
  refine J_iconst (v := 4) hX dX13_addCustomer_32 (by decide) (t := 33) rfl ?_
  have hk : RK G (11 + (M.1 0 1).toNatClampNeg) 4 := kWc (inbR g1)
  have e1s : M1.1 (11 + (M.1 0 1).toNatClampNeg) = va_cpy (row_addCustomer M p1 p2) (M.1 (11 + (M.1 0 1).toNatClampNeg)) 0 0 4 := by rw [← e1]; exact putRow_s _ _ _ _
  have e1o : ∀ i, i ≠ (11 + (M.1 0 1).toNatClampNeg) → M1.1 i = M.1 i := fun i hi => by rw [← e1]; exact putRow_o _ _ _ hi
  clear e1
  refine J_areaI (fun H h => h.1.1.1.2 _ hk.1) (fun hA9 => ?_)
  refine J_icopyI (k := 4) (n0 := 4) (n1 := 4) (f := row_addCustomer M p1 p2) (g := M.1 (11 + (M.1 0 1).toNatClampNeg)) (I2 := WH G Tr M1) hX WQ_rd (fun H h => by have h9 := h.1.1.1.1 _ hk.1; rw [hk.2] at h9; exact h9) hA9 rfl (by decide) (by decide) (by decide) (WQ_cp hk e1s e1o) ⟨p_1181, p_1121, p_1120, p_33⟩ ⟨Nat.le_of_ble_eq_true rfl, Nat.le_of_ble_eq_true rfl⟩ dX13_addCustomer_33 (t := 36) rfl ?_
  refine J_aload_n hX dX13_addCustomer_36 1 rfl (t := 37) rfl ?_
  refine J_dup hX dX13_addCustomer_37 rfl (t := 38) rfl ?_
  refine J_wGet hX 7 (by decide) p_1034 rfl dX13_addCustomer_38 (t := 41) rfl ?_
  refine J_iload_n hX dX13_addCustomer_41 3 rfl (t := 42) rfl ?_
  refine J_iadd hX dX13_addCustomer_42 (t := 43) rfl ?_
  obtain ⟨M2, e3, hF⟩ := bnd_e hF
  refine J_wPut hX hTr 7 (by decide) p_1034 rfl rfl e3 rfl dX13_addCustomer_43 (t := 46) rfl ?_
  refine J_aload_n hX dX13_addCustomer_46 1 rfl (t := 47) rfl ?_
  refine J_dup hX dX13_addCustomer_47 rfl (t := 48) rfl ?_
  refine J_wGet hX 1 (by decide) p_1023 rfl dX13_addCustomer_48 (t := 51) rfl ?_
  refine J_iconst (v := 1) hX dX13_addCustomer_51 (by decide) (t := 52) rfl ?_
  refine J_iadd hX dX13_addCustomer_52 (t := 53) rfl ?_
  obtain ⟨M4, e5, hF⟩ := bnd_e hF
  refine J_wPut hX hTr 1 (by decide) p_1023 rfl rfl e5 rfl dX13_addCustomer_53 (t := 56) rfl ?_
  refine J_aload_n hX dX13_addCustomer_56 1 rfl (t := 57) rfl ?_
  refine J_wGet hX 1 (by decide) p_1023 rfl dX13_addCustomer_57 (t := 60) rfl ?_
  refine J_iconst (v := 1) hX dX13_addCustomer_60 (by decide) (t := 61) rfl ?_
  refine J_isub hX dX13_addCustomer_61 (t := 62) rfl ?_
  replace hF := Option.some.inj hF
  obtain ⟨hF, hF2⟩ := Prod.mk.inj hF
  subst hF
  subst hF2
  exact J_iretP hX hR hlk (fun H h => ⟨rfl, h⟩) dX13_addCustomer_62
abbrev rmX13_sell : Room := { frames := 1, cells := 1, slots := 9, locals := 80 }
theorem miX13_sell : MI yX13_sell cX13_sell 6 (some .int) 4 := ⟨p_1234, p_25, by decide +kernel, by decide +kernel, by decide +kernel, by decide +kernel⟩
theorem mvX13_sell : MV yX13_sell := ⟨p_1232, p_1233⟩
def row_sell (M : MM) (p1 : Int32) (p2 : Int32) (p3 : Int32) (p4 : Int32) : Nat → Int32 := upd (upd (upd (upd (upd (upd (upd (upd (upd (fun _ => 0) 0 p1) 1 p2) 2 p3) 3 p4) 4 (M.1 (2 + p2.toNatClampNeg) 2)) 5 (M.1 0 3)) 6 0) 7 0) 8 0
def FW_sell (M : MM) (p1 : Int32) (p2 : Int32) (p3 : Int32) (p4 : Int32) : Option (Int32 × MM) := gd (inb p2 8) <| gd (inb (M.1 0 2) 30) <| bnd (putRow M (20 + (M.1 0 2).toNatClampNeg) 9 (row_sell M p1 p2 p3 p4)) fun M1 =>
  gd (inb p1 8) <|
  gd (inb p2 8) <|
  bnd (sI M1 (11 + p1.toNatClampNeg) 1 ((M1.1 (11 + p1.toNatClampNeg) 1) - ((M1.1 (2 + p2.toNatClampNeg) 2) * p4))) fun M4 =>
  bnd (sI M4 0 2 ((M4.1 0 2) + 1)) fun M6 =>
  some ((M6.1 0 2) - 1, M6)
set_option maxHeartbeats 4000000 in
set_option maxRecDepth 100000 in
theorem ctW_sell {G : GG} {l : Launch} (M : MM) (p1 : Int32) (p2 : Int32) (p3 : Int32) (p4 : Int32) {rx : Int32} {rw : MM} (hF : FW_sell M p1 p2 p3 p4 = some (rx, rw)) : CTP G l yX13_sell cX13_sell 6 (some .int) rmX13_sell 1 9 [.ref (adW G 0), .int p1, .int p2, .int p3, .int p4] (WH G Tr M) (fun v9 H => v9 = some (.int rx) ∧ WH G Tr rw H) := by
  refine CTP.of miX13_sell [(0, .ref (adW G 0)), (1, .int p1), (2, .int p2), (3, .int p3), (4, .int p4)] rfl (Nat.le_of_ble_eq_true rfl) ?_
  intro p e s m args below meth c hX hR hlk
  have hX : FX G RX13 cX13_sell 6 p s m args c := hX
  unfold FW_sell at hF
  obtain ⟨g2, hF⟩ := gd_e hF
  obtain ⟨g1, hF⟩ := gd_e hF
  obtain ⟨M1, e1, hF⟩ := bnd_e hF
  refine J_bipush (v := 9) hX dX13_sell_0 (by decide) (t := 2) rfl ?_
  refine J_newII (N := 9) (Φ := fun q => g0 G + 50 ≤ q) hX (by decide) (by decide) (by decide) p_101 ⟨Nat.le_of_ble_eq_true rfl, Nat.le_of_ble_eq_true rfl⟩ (WH.grows hTr) (fun H h => h.1.last) dX13_sell_2 (t := 4) rfl (fun q hq hlo => ?_)
  refine J_imp (I2 := WQ G M q 9 (fun _ => 0)) (fun H h => ⟨h, hlo⟩) ?_
  refine J_dup hX dX13_sell_4 rfl (t := 5) rfl ?_
  refine J_iconst (v := 0) hX dX13_sell_5 (by decide) (t := 6) rfl ?_
  refine J_iload_n hX dX13_sell_6 1 rfl (t := 7) rfl ?_
  refine J_iastI (I2 := WQ G M q 9 (upd (fun _ => 0) 0 p1)) (n := 9) (f := (fun _ => 0)) hX WQ_rd hq (by decide) WQ_st dX13_sell_7 (t := 8) rfl ?_
  refine J_dup hX dX13_sell_8 rfl (t := 9) rfl ?_
  refine J_iconst (v := 1) hX dX13_sell_9 (by decide) (t := 10) rfl ?_
  refine J_iload_n hX dX13_sell_10 2 rfl (t := 11) rfl ?_
  refine J_iastI (I2 := WQ G M q 9 (upd (upd (fun _ => 0) 0 p1) 1 p2)) (n := 9) (f := (upd (fun _ => 0) 0 p1)) hX WQ_rd hq (by decide) WQ_st dX13_sell_11 (t := 12) rfl ?_
  refine J_dup hX dX13_sell_12 rfl (t := 13) rfl ?_
  refine J_iconst (v := 2) hX dX13_sell_13 (by decide) (t := 14) rfl ?_
  refine J_iload_n hX dX13_sell_14 3 rfl (t := 15) rfl ?_
  refine J_iastI (I2 := WQ G M q 9 (upd (upd (upd (fun _ => 0) 0 p1) 1 p2) 2 p3)) (n := 9) (f := (upd (upd (fun _ => 0) 0 p1) 1 p2)) hX WQ_rd hq (by decide) WQ_st dX13_sell_15 (t := 16) rfl ?_
  refine J_dup hX dX13_sell_16 rfl (t := 17) rfl ?_
  refine J_iconst (v := 3) hX dX13_sell_17 (by decide) (t := 18) rfl ?_
  refine J_iload hX dX13_sell_18 4 rfl (t := 20) rfl ?_
  refine J_iastI (I2 := WQ G M q 9 (upd (upd (upd (upd (fun _ => 0) 0 p1) 1 p2) 2 p3) 3 p4)) (n := 9) (f := (upd (upd (upd (fun _ => 0) 0 p1) 1 p2) 2 p3)) hX WQ_rd hq (by decide) WQ_st dX13_sell_20 (t := 21) rfl ?_
  refine J_dup hX dX13_sell_21 rfl (t := 22) rfl ?_
  refine J_iconst (v := 4) hX dX13_sell_22 (by decide) (t := 23) rfl ?_
  refine J_aload_n hX dX13_sell_23 0 rfl (t := 24) rfl ?_
  refine J_getI (fs := fWorld G (M.1 0)) hX cb10 (fun H h => kW0 H h.1.1) 8 (by decide) p_1035 rfl dX13_sell_24 (t := 27) rfl ?_
  refine J_iload_n hX dX13_sell_27 2 rfl (t := 28) rfl ?_
  refine J_aaldI (n := 8) (f := fun i => adW G (2 + i)) hX (fun H h => h.1.1.1.1 1 (by decide)) g2 dX13_sell_28 (t := 29) rfl ?_
  refine J_iconst (v := 2) hX dX13_sell_29 (by decide) (t := 30) rfl ?_
  refine J_ialdI (n := 6) (f := M.1 (2 + p2.toNatClampNeg)) (v := M.1 (2 + p2.toNatClampNeg) 2) hX (fun H h => by have h9 := h.1.1.1.1 _ (kWv (G := G) (inbR g2)).1; rw [(kWv (G := G) (inbR g2)).2] at h9; exact h9) (by decide) rfl dX13_sell_30 (t := 31) rfl ?_
  refine J_iastI (I2 := WQ G M q 9 (upd (upd (upd (upd (upd (fun _ => 0) 0 p1) 1 p2) 2 p3) 3 p4) 4 (M.1 (2 + p2.toNatClampNeg) 2))) (n := 9) (f := (upd (upd (upd (upd (fun _ => 0) 0 p1) 1 p2) 2 p3) 3 p4)) hX WQ_rd hq (by decide) WQ_st dX13_sell_31 (t := 32) rfl ?_
  refine J_dup hX dX13_sell_32 rfl (t := 33) rfl ?_
  refine J_iconst (v := 5) hX dX13_sell_33 (by decide) (t := 34) rfl ?_
  refine J_aload_n hX dX13_sell_34 0 rfl (t := 35) rfl ?_
  refine J_getI (fs := fWorld G (M.1 0)) hX cb10 (fun H h => kW0 H h.1.1) 3 (by decide) p_1027 rfl dX13_sell_35 (t := 38) rfl ?_
  refine J_iastI (I2 := WQ G M q 9 (upd (upd (upd (upd (upd (upd (fun _ => 0) 0 p1) 1 p2) 2 p3) 3 p4) 4 (M.1 (2 + p2.toNatClampNeg) 2)) 5 (M.1 0 3))) (n := 9) (f := (upd (upd (upd (upd (upd (fun _ => 0) 0 p1) 1 p2) 2 p3) 3 p4) 4 (M.1 (2 + p2.toNatClampNeg) 2))) hX WQ_rd hq (by decide) WQ_st dX13_sell_38 (t := 39) rfl ?_
  refine J_dup hX dX13_sell_39 rfl (t := 40) rfl ?_
  refine J_bipush (v := 6) hX dX13_sell_40 (by decide) (t := 42) rfl ?_
  refine J_iconst (v := 0) hX dX13_sell_42 (by decide) (t := 43) rfl ?_
  refine J_iastI (I2 := WQ G M q 9 (upd (upd (upd (upd (upd (upd (upd (fun _ => 0) 0 p1) 1 p2) 2 p3) 3 p4) 4 (M.1 (2 + p2.toNatClampNeg) 2)) 5 (M.1 0 3)) 6 0)) (n := 9) (f := (upd (upd (upd (upd (upd (upd (fun _ => 0) 0 p1) 1 p2) 2 p3) 3 p4) 4 (M.1 (2 + p2.toNatClampNeg) 2)) 5 (M.1 0 3))) hX WQ_rd hq (by decide) WQ_st dX13_sell_43 (t := 44) rfl ?_
  refine J_dup hX dX13_sell_44 rfl (t := 45) rfl ?_
  refine J_bipush (v := 7) hX dX13_sell_45 (by decide) (t := 47) rfl ?_
  refine J_iconst (v := 0) hX dX13_sell_47 (by decide) (t := 48) rfl ?_
  refine J_iastI (I2 := WQ G M q 9 (upd (upd (upd (upd (upd (upd (upd (upd (fun _ => 0) 0 p1) 1 p2) 2 p3) 3 p4) 4 (M.1 (2 + p2.toNatClampNeg) 2)) 5 (M.1 0 3)) 6 0) 7 0)) (n := 9) (f := (upd (upd (upd (upd (upd (upd (upd (fun _ => 0) 0 p1) 1 p2) 2 p3) 3 p4) 4 (M.1 (2 + p2.toNatClampNeg) 2)) 5 (M.1 0 3)) 6 0)) hX WQ_rd hq (by decide) WQ_st dX13_sell_48 (t := 49) rfl ?_
  refine J_dup hX dX13_sell_49 rfl (t := 50) rfl ?_
  refine J_bipush (v := 8) hX dX13_sell_50 (by decide) (t := 52) rfl ?_
  refine J_iconst (v := 0) hX dX13_sell_52 (by decide) (t := 53) rfl ?_
  refine J_iastI (I2 := WQ G M q 9 (upd (upd (upd (upd (upd (upd (upd (upd (upd (fun _ => 0) 0 p1) 1 p2) 2 p3) 3 p4) 4 (M.1 (2 + p2.toNatClampNeg) 2)) 5 (M.1 0 3)) 6 0) 7 0) 8 0)) (n := 9) (f := (upd (upd (upd (upd (upd (upd (upd (upd (fun _ => 0) 0 p1) 1 p2) 2 p3) 3 p4) 4 (M.1 (2 + p2.toNatClampNeg) 2)) 5 (M.1 0 3)) 6 0) 7 0)) hX WQ_rd hq (by decide) WQ_st dX13_sell_53 (t := 54) rfl ?_
  refine J_astore (lc2 := [(5, .ref q), (0, .ref (adW G 0)), (1, .int p1), (2, .int p2), (3, .int p3), (4, .int p4)]) hX dX13_sell_54 (Nat.le_of_ble_eq_true rfl) rfl (t := 56) rfl ?_
  refine J_aload hX dX13_sell_56 0 rfl (t := 58) rfl ?_
  refine J_iconst (v := 0) hX dX13_sell_58 (by decide) (t := 59) rfl ?_
  refine J_aload_n hX dX13_sell_59 1 rfl (t := 60) rfl ?_
  refine J_getI (fs := fWorld G (M.1 0)) hX cb10 (fun H h => kW0 H h.1.1) 10 (by decide) p_1039 rfl dX13_sell_60 (t := 63) rfl ?_
  refine J_aload_n hX dX13_sell_63 1 rfl (t := 64) rfl ?_
  refine J_getI (fs := fWorld G (M.1 0)) hX cb10 (fun H h => kW0 H h.1.1) 2 (by decide) p_1025 rfl dX13_sell_64 (t := 67) rfl ?_
  refine J_aaldI (n := 30) (f := fun i => adW G (20 + i)) hX (fun H h => h.1.1.1.1 19 (by decide)) g1 dX13_sell_67 (t := 68) rfl ?_
  refine J_iconst (v := 0) hX dX13_sell_68 (by decide) (t := 69) rfl ?_
  refine J_bipush (v := 9) hX dX13_sell_69 (by decide) (t := 71) rfl ?_
  have hk : RK G (20 + (M.1 0 2).toNatClampNeg) 9 := kWs (inbR g1)
  have e1s : M1.1 (20 + (M.1 0 2).toNatClampNeg) = va_cpy (row_sell M p1 p2 p3 p4) (M.1 (20 + (M.1 0 2).toNatClampNeg)) 0 0 9 := by rw [← e1]; exact putRow_s _ _ _ _
  have e1o : ∀ i, i ≠ (20 + (M.1 0 2).toNatClampNeg) → M1.1 i = M.1 i := fun i hi => by rw [← e1]; exact putRow_o _ _ _ hi
  clear e1
  refine J_areaI (fun H h => h.1.1.1.2 _ hk.1) (fun hA9 => ?_)
  refine J_icopyI (k := 9) (n0 := 9) (n1 := 9) (f := row_sell M p1 p2 p3 p4) (g := M.1 (20 + (M.1 0 2).toNatClampNeg)) (I2 := WH G Tr M1) hX WQ_rd (fun H h => by have h9 := h.1.1.1.1 _ hk.1; rw [hk.2] at h9; exact h9) hA9 rfl (by decide) (by decide) (by decide) (WQ_cp hk e1s e1o) ⟨p_1181, p_1121, p_1120, p_33⟩ ⟨Nat.le_of_ble_eq_true rfl, Nat.le_of_ble_eq_true rfl⟩ dX13_sell_71 (t := 74) rfl ?_
  refine J_aload_n hX dX13_sell_74 1 rfl (t := 75) rfl ?_
  refine J_wGet hX 9 (by decide) p_1037 rfl dX13_sell_75 (t := 78) rfl ?_
  refine J_iload_n hX dX13_sell_78 2 rfl (t := 79) rfl ?_
  obtain ⟨g2, hF⟩ := gd_e hF
  refine J_wAc hX g2 dX13_sell_79 (t := 80) rfl ?_
  refine J_iconst (v := 1) hX dX13_sell_80 (by decide) (t := 81) rfl ?_
  refine J_dup2 hX dX13_sell_81 rfl rfl (t := 82) rfl ?_
  refine J_wAld (n := 4) hX (kWc (inbR g2)) (by decide) rfl dX13_sell_82 (t := 83) rfl ?_
  refine J_aload_n hX dX13_sell_83 1 rfl (t := 84) rfl ?_
  refine J_wGet hX 8 (by decide) p_1035 rfl dX13_sell_84 (t := 87) rfl ?_
  refine J_iload_n hX dX13_sell_87 3 rfl (t := 88) rfl ?_
  obtain ⟨g3, hF⟩ := gd_e hF
  refine J_wAv hX g3 dX13_sell_88 (t := 89) rfl ?_
  refine J_iconst (v := 2) hX dX13_sell_89 (by decide) (t := 90) rfl ?_
  refine J_wAld (n := 6) hX (kWv (inbR g3)) (by decide) rfl dX13_sell_90 (t := 91) rfl ?_
  refine J_iload hX dX13_sell_91 5 rfl (t := 93) rfl ?_
  refine J_imul hX dX13_sell_93 (t := 94) rfl ?_
  refine J_isub hX dX13_sell_94 (t := 95) rfl ?_
  obtain ⟨M4, e5, hF⟩ := bnd_e hF
  refine J_wAst (n := 4) hX hTr (kWc (inbR g2)) (by decide) rfl e5 dX13_sell_95 (t := 96) rfl ?_
  refine J_aload_n hX dX13_sell_96 1 rfl (t := 97) rfl ?_
  refine J_dup hX dX13_sell_97 rfl (t := 98) rfl ?_
  refine J_wGet hX 2 (by decide) p_1025 rfl dX13_sell_98 (t := 101) rfl ?_
  refine J_iconst (v := 1) hX dX13_sell_101 (by decide) (t := 102) rfl ?_
  refine J_iadd hX dX13_sell_102 (t := 103) rfl ?_
  obtain ⟨M6, e7, hF⟩ := bnd_e hF
  refine J_wPut hX hTr 2 (by decide) p_1025 rfl rfl e7 rfl dX13_sell_103 (t := 106) rfl ?_
  refine J_aload_n hX dX13_sell_106 1 rfl (t := 107) rfl ?_
  refine J_wGet hX 2 (by decide) p_1025 rfl dX13_sell_107 (t := 110) rfl ?_
  refine J_iconst (v := 1) hX dX13_sell_110 (by decide) (t := 111) rfl ?_
  refine J_isub hX dX13_sell_111 (t := 112) rfl ?_
  replace hF := Option.some.inj hF
  obtain ⟨hF, hF2⟩ := Prod.mk.inj hF
  subst hF
  subst hF2
  exact J_iretP hX hR hlk (fun H h => ⟨rfl, h⟩) dX13_sell_112
