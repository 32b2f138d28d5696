theorem p_32 : Cond.initialized RJ7 ∈ WALL := WALL_in (List.mem_append_right _ (List.mem_append_left _ (List.mem_of_getElem? (i := 8) rfl))) rfl
theorem p_100 : Cond.arrayClass FieldType.byte ∈ WALL := WALL_in (List.mem_append_right _ (List.mem_append_left _ (List.mem_of_getElem? (i := 76) rfl))) rfl
theorem p_1118 : Cond.methodLink RJ7 304 yJ9_min_7cf53 ∈ WALL := WALL_in (List.mem_append_right _ (List.mem_append_right _ (List.mem_append_right _ (List.mem_append_right _ (List.mem_append_right _ (List.mem_append_left _ (List.mem_of_getElem? (i := 134) rfl))))))) rfl
theorem p_1119 : Cond.methodLink RJ7 150 ⟨RJ10, "arraycopy", "(Ljava/lang/Object;ILjava/lang/Object;II)V"⟩ ∈ WALL := WALL_in (List.mem_append_right _ (List.mem_append_right _ (List.mem_append_right _ (List.mem_append_right _ (List.mem_append_right _ (List.mem_append_left _ (List.mem_of_getElem? (i := 135) rfl))))))) rfl
theorem p_1123 : Cond.instanceMethod yJ5_isLatin1_aae02 ∈ WALL := WALL_in (List.mem_append_right _ (List.mem_append_right _ (List.mem_append_right _ (List.mem_append_right _ (List.mem_append_right _ (List.mem_append_left _ (List.mem_of_getElem? (i := 139) rfl))))))) rfl
theorem p_1125 : Cond.selects RJ4 yJ5_isLatin1_aae02 yJ5_isLatin1_aae02 ∈ WALL := WALL_in (List.mem_append_right _ (List.mem_append_right _ (List.mem_append_right _ (List.mem_append_right _ (List.mem_append_right _ (List.mem_append_left _ (List.mem_of_getElem? (i := 141) rfl))))))) rfl
theorem p_1278 : Cond.code yJ5_length_8abf5 cJ5_length_8abf5 1 (some .int) ∈ WALL := WALL_in (List.mem_append_right _ (List.mem_append_right _ (List.mem_append_right _ (List.mem_append_right _ (List.mem_append_right _ (List.mem_append_right _ (List.mem_append_left _ (List.mem_of_getElem? (i := 54) rfl)))))))) rfl
theorem p_1459 : Cond.instanceMethod yJ4_toString_0e30d ∈ WALL := WALL_in (List.mem_append_right _ (List.mem_append_right _ (List.mem_append_right _ (List.mem_append_right _ (List.mem_append_right _ (List.mem_append_right _ (List.mem_append_left _ (List.mem_of_getElem? (i := 235) rfl)))))))) rfl
theorem p_1460 : Cond.selects RJ4 yJ4_toString_0e30d yJ4_toString_0e30d ∈ WALL := WALL_in (List.mem_append_right _ (List.mem_append_right _ (List.mem_append_right _ (List.mem_append_right _ (List.mem_append_right _ (List.mem_append_right _ (List.mem_append_left _ (List.mem_of_getElem? (i := 236) rfl)))))))) rfl
theorem p_1461 : Cond.code yJ4_toString_0e30d cJ4_toString_0e30d 1 (some (.object RJ0)) ∈ WALL := WALL_in (List.mem_append_right _ (List.mem_append_right _ (List.mem_append_right _ (List.mem_append_right _ (List.mem_append_right _ (List.mem_append_right _ (List.mem_append_left _ (List.mem_of_getElem? (i := 237) rfl)))))))) rfl
theorem p_1462 : Cond.classLink RJ4 18 RJ0 ∈ WALL := WALL_in (List.mem_append_right _ (List.mem_append_right _ (List.mem_append_right _ (List.mem_append_right _ (List.mem_append_right _ (List.mem_append_right _ (List.mem_append_left _ (List.mem_of_getElem? (i := 238) rfl)))))))) rfl
theorem p_1463 : Cond.instantiable RJ0 4 ∈ WALL := WALL_in (List.mem_append_right _ (List.mem_append_right _ (List.mem_append_right _ (List.mem_append_right _ (List.mem_append_right _ (List.mem_append_right _ (List.mem_append_left _ (List.mem_of_getElem? (i := 239) rfl)))))))) rfl
theorem p_1464 : Cond.methodLink RJ4 137 yJ0_init_81219 ∈ WALL := WALL_in (List.mem_append_right _ (List.mem_append_right _ (List.mem_append_right _ (List.mem_append_right _ (List.mem_append_right _ (List.mem_append_right _ (List.mem_append_right _ (List.mem_of_getElem? (i := 0) rfl)))))))) rfl
theorem p_1465 : Cond.instanceMethod yJ0_init_81219 ∈ WALL := WALL_in (List.mem_append_right _ (List.mem_append_right _ (List.mem_append_right _ (List.mem_append_right _ (List.mem_append_right _ (List.mem_append_right _ (List.mem_append_right _ (List.mem_of_getElem? (i := 1) rfl)))))))) rfl
theorem p_1466 : Cond.code yJ0_init_81219 cJ0_init_81219 2 none ∈ WALL := WALL_in (List.mem_append_right _ (List.mem_append_right _ (List.mem_append_right _ (List.mem_append_right _ (List.mem_append_right _ (List.mem_append_right _ (List.mem_append_right _ (List.mem_of_getElem? (i := 2) rfl)))))))) rfl
theorem p_1467 : Cond.methodLink RJ0 489 yJ0_init_db425 ∈ WALL := WALL_in (List.mem_append_right _ (List.mem_append_right _ (List.mem_append_right _ (List.mem_append_right _ (List.mem_append_right _ (List.mem_append_right _ (List.mem_append_right _ (List.mem_of_getElem? (i := 3) rfl)))))))) rfl
theorem p_1468 : Cond.instanceMethod yJ0_init_db425 ∈ WALL := WALL_in (List.mem_append_right _ (List.mem_append_right _ (List.mem_append_right _ (List.mem_append_right _ (List.mem_append_right _ (List.mem_append_right _ (List.mem_append_right _ (List.mem_of_getElem? (i := 4) rfl)))))))) rfl
theorem p_1469 : Cond.code yJ0_init_db425 cJ0_init_db425 5 none ∈ WALL := WALL_in (List.mem_append_right _ (List.mem_append_right _ (List.mem_append_right _ (List.mem_append_right _ (List.mem_append_right _ (List.mem_append_right _ (List.mem_append_right _ (List.mem_of_getElem? (i := 5) rfl)))))))) rfl
theorem p_1470 : Cond.methodLink RJ0 1 ⟨"java/lang/Object", "<init>", "()V"⟩ ∈ WALL := WALL_in (List.mem_append_right _ (List.mem_append_right _ (List.mem_append_right _ (List.mem_append_right _ (List.mem_append_right _ (List.mem_append_right _ (List.mem_append_right _ (List.mem_of_getElem? (i := 6) rfl)))))))) rfl
theorem p_1471 : Cond.methodLink RJ0 552 yJ5_getValue_6d5f1 ∈ WALL := WALL_in (List.mem_append_right _ (List.mem_append_right _ (List.mem_append_right _ (List.mem_append_right _ (List.mem_append_right _ (List.mem_append_right _ (List.mem_append_right _ (List.mem_of_getElem? (i := 7) rfl)))))))) rfl
theorem p_1472 : Cond.instanceMethod yJ5_getValue_6d5f1 ∈ WALL := WALL_in (List.mem_append_right _ (List.mem_append_right _ (List.mem_append_right _ (List.mem_append_right _ (List.mem_append_right _ (List.mem_append_right _ (List.mem_append_right _ (List.mem_of_getElem? (i := 8) rfl)))))))) rfl
theorem p_1474 : Cond.selects RJ4 yJ5_getValue_6d5f1 yJ5_getValue_6d5f1 ∈ WALL := WALL_in (List.mem_append_right _ (List.mem_append_right _ (List.mem_append_right _ (List.mem_append_right _ (List.mem_append_right _ (List.mem_append_right _ (List.mem_append_right _ (List.mem_of_getElem? (i := 10) rfl)))))))) rfl
theorem p_1475 : Cond.code yJ5_getValue_6d5f1 cJ5_getValue_6d5f1 1 (some (Jvm.ClassFile.FieldType.array Jvm.ClassFile.FieldType.byte)) ∈ WALL := WALL_in (List.mem_append_right _ (List.mem_append_right _ (List.mem_append_right _ (List.mem_append_right _ (List.mem_append_right _ (List.mem_append_right _ (List.mem_append_right _ (List.mem_of_getElem? (i := 11) rfl)))))))) rfl
theorem p_1476 : Cond.methodLink RJ0 549 yJ5_length_8abf5 ∈ WALL := WALL_in (List.mem_append_right _ (List.mem_append_right _ (List.mem_append_right _ (List.mem_append_right _ (List.mem_append_right _ (List.mem_append_right _ (List.mem_append_right _ (List.mem_of_getElem? (i := 12) rfl)))))))) rfl
theorem p_1477 : Cond.methodLink RJ0 1047 yJ5_isLatin1_aae02 ∈ WALL := WALL_in (List.mem_append_right _ (List.mem_append_right _ (List.mem_append_right _ (List.mem_append_right _ (List.mem_append_right _ (List.mem_append_right _ (List.mem_append_right _ (List.mem_of_getElem? (i := 13) rfl)))))))) rfl
theorem p_1478 : Cond.methodLink RJ0 54 yJ7_copyOfRange_39247 ∈ WALL := WALL_in (List.mem_append_right _ (List.mem_append_right _ (List.mem_append_right _ (List.mem_append_right _ (List.mem_append_right _ (List.mem_append_right _ (List.mem_append_right _ (List.mem_of_getElem? (i := 14) rfl)))))))) rfl
theorem p_1479 : Cond.static yJ7_copyOfRange_39247 ∈ WALL := WALL_in (List.mem_append_right _ (List.mem_append_right _ (List.mem_append_right _ (List.mem_append_right _ (List.mem_append_right _ (List.mem_append_right _ (List.mem_append_right _ (List.mem_of_getElem? (i := 15) rfl)))))))) rfl
theorem p_1480 : Cond.code yJ7_copyOfRange_39247 cJ7_copyOfRange_39247 3 (some (Jvm.ClassFile.FieldType.array Jvm.ClassFile.FieldType.byte)) ∈ WALL := WALL_in (List.mem_append_right _ (List.mem_append_right _ (List.mem_append_right _ (List.mem_append_right _ (List.mem_append_right _ (List.mem_append_right _ (List.mem_append_right _ (List.mem_of_getElem? (i := 16) rfl)))))))) rfl
theorem p_1481 : Cond.methodLink RJ7 339 yJ7_copyOfRangeByte_39247 ∈ WALL := WALL_in (List.mem_append_right _ (List.mem_append_right _ (List.mem_append_right _ (List.mem_append_right _ (List.mem_append_right _ (List.mem_append_right _ (List.mem_append_right _ (List.mem_of_getElem? (i := 17) rfl)))))))) rfl
theorem p_1482 : Cond.static yJ7_copyOfRangeByte_39247 ∈ WALL := WALL_in (List.mem_append_right _ (List.mem_append_right _ (List.mem_append_right _ (List.mem_append_right _ (List.mem_append_right _ (List.mem_append_right _ (List.mem_append_right _ (List.mem_of_getElem? (i := 18) rfl)))))))) rfl
theorem p_1483 : Cond.code yJ7_copyOfRangeByte_39247 cJ7_copyOfRangeByte_39247 5 (some (Jvm.ClassFile.FieldType.array Jvm.ClassFile.FieldType.byte)) ∈ WALL := WALL_in (List.mem_append_right _ (List.mem_append_right _ (List.mem_append_right _ (List.mem_append_right _ (List.mem_append_right _ (List.mem_append_right _ (List.mem_append_right _ (List.mem_of_getElem? (i := 19) rfl)))))))) rfl
theorem p_1484 : Cond.methodLink RJ7 343 yJ7_checkLength_df160 ∈ WALL := WALL_in (List.mem_append_right _ (List.mem_append_right _ (List.mem_append_right _ (List.mem_append_right _ (List.mem_append_right _ (List.mem_append_right _ (List.mem_append_right _ (List.mem_of_getElem? (i := 20) rfl)))))))) rfl
theorem p_1485 : Cond.static yJ7_checkLength_df160 ∈ WALL := WALL_in (List.mem_append_right _ (List.mem_append_right _ (List.mem_append_right _ (List.mem_append_right _ (List.mem_append_right _ (List.mem_append_right _ (List.mem_append_right _ (List.mem_of_getElem? (i := 21) rfl)))))))) rfl
theorem p_1486 : Cond.code yJ7_checkLength_df160 cJ7_checkLength_df160 2 none ∈ WALL := WALL_in (List.mem_append_right _ (List.mem_append_right _ (List.mem_append_right _ (List.mem_append_right _ (List.mem_append_right _ (List.mem_append_right _ (List.mem_append_right _ (List.mem_of_getElem? (i := 22) rfl)))))))) rfl
theorem p_1615 : Cond.selects RJ4 yJ5_length_8abf5 yJ4_length_8abf5 ∈ WALL := WALL_in (List.mem_append_right _ (List.mem_append_right _ (List.mem_append_right _ (List.mem_append_right _ (List.mem_append_right _ (List.mem_append_right _ (List.mem_append_right _ (List.mem_of_getElem? (i := 151) rfl)))))))) rfl
/-! toString of a builder: a new String of its letters -/
/-- what a picture says lies before k1 -/
def SKI (k1 : Nat) (I : Heap → Prop) : Prop := ∀ H H1 : Heap, I H → H.size ≤ H1.size → (∀ x : Nat, x < k1 → H1[x]? = H[x]?) → I H1
def MK (k1 : Nat) (I : Heap → Prop) (H : Heap) : Prop := ∃ H0 : Heap, I H0 ∧ H0.size = k1 ∧ k1 ≤ H.size ∧ ∀ q : Nat, q < k1 → H[q]? = H0[q]?
theorem MK.ski {k1 : Nat} {I : Heap → Prop} : SKI k1 (MK k1 I) := fun H H1 ⟨H0, h1, h2, h3, h4⟩ hz hq => ⟨H0, h1, h2, Nat.le_trans h3 hz, fun q h => (hq q h).trans (h4 q h)⟩
theorem MK.le {k1 : Nat} {I : Heap → Prop} {H : Heap} (h : MK k1 I H) : k1 ≤ H.size := by
  obtain ⟨H0, h1, h2, h3, h4⟩ := h
  exact h3
theorem MK.back {k1 : Nat} {I : Heap → Prop} {H : Heap} (hg : grows I) (h : MK k1 I H) : I H := by
  obtain ⟨H0, h1, h2, h3, h4⟩ := h
  exact hg H0 H h1 (by omega) (fun q hq => h4 q (by omega))
theorem dfJ0 : ∀ j, j < 4 → defaultValue (tyJ0 j) = vp_V [.null, .int 0, .int 0, .int 0] j := fun j hj => match j, hj with
  | 0, _ => rfl
  | 1, _ => rfl
  | 2, _ => rfl
  | 3, _ => rfl
  | _ + 4, h => absurd h (by omega)
section STRROWS
variable {G : GG} {own : String} {cc : ByteArray} {p : Program} {l : Launch} {e : Env} {R : Room} {s : State} {m : MethodId} {args : Array Value} {below : List Frame} {meth : Method} {c : Code} {nL cells slots : Nat} {Q : State → Prop} {pc t : Nat} {lc : List (Nat × Value)} {st : List Value} {I I2 : Heap → Prop} {a b : Nat}
theorem FX.ao (hX : FX G own cc nL p s m args c) : AO s := hX.G2.2.2.2.2.2.2.2.2.2.2.2.1
theorem J_markI (kk : ∀ k1, (∀ P : Nat → Prop, (∀ H, I H → P H.size) → P k1) → J G p l e R s m args below meth c nL cells slots Q (MK k1 I) pc lc st) : J G p l e R s m args below meth c nL cells slots Q I pc lc st := fun H locs ls h1 h2 h3 => kk H.size (fun P h => h H h2) H locs ls h1 ⟨H, h2, rfl, Nat.le_refl _, fun _ _ => rfl⟩ h3
theorem J_putFI (hX : FX G own cc nL p s m args c) (hnm : meth.name = "<init>") {ci index : Nat} {C : String} {T : u_T} {N : Nat} {ty0 : Nat → FieldType} (cb : CB ci C T N ty0) {fs : List Value} (hI : ∀ H, I H → va_at (gD G) jcl (a, .inr (ci, fs)) H) (hA : gA G a) (k : Nat) (hk : k < N) (hw : Cond.fieldLink own index (T k).1 (T k).2.1 (T k).2.2.1 ∈ WALL) (hfin : (T k).2.2.2 = true) (hdecl : (T k).1 = own) {ty : FieldType} {v : Value} (hty : ty0 k = ty) (hn : narrow ty v = v) (hfit : fits ty v = true) (hl : k < fs.length) (hI2 : ∀ H H1 : Heap, I H → va_at (gD G) jcl (a, .inr (ci, fs.set k v)) H1 → H1.size = H.size → (∀ q : Nat, q ≠ a → H1[q]? = H[q]?) → I2 H1) (hdg : decode cc pc = .ok (.putfield index, 3)) (ht : pc + 3 = t)
    (kk : J G p l e R s m args below meth c nL cells slots Q I2 t lc st) : J G p l e R s m args below meth c nL cells slots Q I pc lc (v :: .ref a :: st) := by
  subst ht
  intro H locs ls h1 h2 h3
  exact W_putF1 hX hnm cb (hI H h2) hA h3 k hk hw hfin hdecl (by rw [cb.2.2.1 k hk, hty]) hn hfit hl hdg fun H1 locs1 e1 e2 e3 e4 => kk H1 locs1 ls h1 (hI2 H H1 h2 e1 e2 e3) e4
theorem J_null (hX : FX G own cc nL p s m args c) (hdg : decode cc pc = .ok (.aconst_null, 1)) (ht : pc + 1 = t) (kk : J G p l e R s m args below meth c nL cells slots Q I t lc (.null :: st)) : J G p l e R s m args below meth c nL cells slots Q I pc lc st := by
  subst ht
  intro H locs ls h1 h2 h3
  exact lv_null hX.1 hX.2.1 hdg (kk H locs ls h1 h2 h3)

theorem J_bcopyI (hX : FX G own cc nL p s m args c) {a0 a1 n0 n1 : Nat} {f g : Nat → Int32} (hI0 : ∀ H, I H → va_at (gD G) jcl (a0, aB G n0 f) H) (hI1 : ∀ H, I H → va_at (gD G) jcl (a1, aB G n1 g) H) (hA : gA G a1) {index : Nat} {k : Nat} {x : Int32} (hx : x = nI k) (hk : k ≤ n0) (hk2 : k ≤ n1) (hc : n0 < 2 ^ 31) (hfit : sb_Fit f) (hI2 : ∀ H H1 : Heap, I H → va_at (gD G) jcl (a1, aB G n1 (va_cpy f g 0 0 k)) H1 → H1.size = H.size → (∀ q : Nat, q ≠ a1 → H1[q]? = H[q]?) → I2 H1) (hw : Cond.methodLink own index arraycopyName ∈ WALL ∧ Cond.native arraycopyName ∈ WALL ∧ Cond.static arraycopyName ∈ WALL ∧ Cond.initialized "java/lang/System" ∈ WALL) (hroom : 1 ≤ R.frames ∧ (st.map fun v => v.category).sum + (nativeFrameWords "java/lang/System" "arraycopy" 5 + 11) ≤ R.locals) (hdg : decode cc pc = .ok (.invokestatic index, 3)) (ht : pc + 3 = t)
    (kk : J G p l e R s m args below meth c nL cells slots Q I2 t lc st) : J G p l e R s m args below meth c nL cells slots Q I pc lc (.int x :: .int 0 :: .ref a1 :: .int 0 :: .ref a0 :: st) := by
  subst ht; subst hx
  intro H locs ls h1 h2 h3 T hT X
  have ek : (nI k).toNatClampNeg = k := nI_clamp (by omega)
  have c0 : H[a0]? = some (arrV (gc G 1) n0 (fun j => .int (f j))) := hI0 H h2
  have c1 : H[a1]? = some (arrV (gc G 1) n1 (fun j => .int (g j))) := hI1 H h2
  obtain ⟨-, k0, hk0, cm0, hkk0⟩ := (hX.2.2.2.2.2.1.2 1 _ rfl).1 n0 (fun j => .int (f j))
  obtain ⟨-, k1, hk1, cm1, hkk1⟩ := (hX.2.2.2.2.2.1.2 1 _ rfl).1 n1 (fun j => .int (g j))
  have z0 : ¬ (0 : Int32) < 0 := by decide
  have zk : ¬ nI k < 0 := nI_pos (by omega)
  have tk : (nI k).toInt = (k : Int) := nI_toInt (by omega)
  have t0 : (0 : Int32).toInt = 0 := rfl
  have e0 : (0 : Int32).toNatClampNeg = 0 := rfl
  obtain ⟨vm', X', step⟩ := X.arraycopy hX.1 hX.2.2.2.1 (hX.2.2.2.2.1 _ hw.1) (hX.2.2.2.2.1 _ hw.2.1) (hX.2.2.2.2.1 _ hw.2.2.1) (hX.2.2.2.2.1 _ hw.2.2.2) (srcPos := 0) (destPos := 0) (n := nI k) (by rw [hT]; exact c0) (by rw [hT]; exact c1)
    (fun _ h => by cases h) (fun _ h => by cases h) (fun h => by cases h) (fun h => by cases h) hk0 hk1 hkk0 hkk1 (by simp [refKind]) z0 z0 zk
    (by rw [arrV_size, tk, t0]; omega) (by rw [arrV_size, tk, t0]; omega)
    (fun vm₁ _ i hi => by
      rw [ek] at hi
      have e : (arrV (gc G 1) n0 (fun j => .int (f j))).slots.getD ((0 : Int32).toNatClampNeg + i) .null = .int (f i) := by
        rw [e0, Nat.zero_add, Array.getD_eq_getD_getElem?, arrV_read _ _ (by omega)]
        rfl
      rw [e]
      exact ⟨hfit i, trivial⟩)
    (g := F0 m pc ls (.int (nI k) :: .int 0 :: .ref a1 :: .int 0 :: .ref a0 :: st)) rfl (by rw [hX.2.2.1]; exact h1.1) (rest := st) rfl (by rw [hX.2.1]; exact hdg) hroom.1 (by show 2 * 0 + _ + _ ≤ _; have := hroom.2; omega)
  have e1 : copied (arrV (gc G 1) n0 (fun j => .int (f j))) (arrV (gc G 1) n1 (fun j => .int (g j))) 0 0 (nI k) = arrV (gc G 1) n1 (fun j => .int (va_cpy f g 0 0 k j)) := by
    have h := va_copied (fun z => Value.int z) (gc G 1) (gc G 1) (n0 := n0) (n1 := n1) (sp := (0 : Int32).toNatClampNeg) (dp := (0 : Int32).toNatClampNeg) (n := (nI k).toNatClampNeg) f g (by rw [e0, ek]; omega)
    rw [e0, ek] at h
    unfold copied
    rw [e0, ek]
    exact h
  rw [e1] at X' step
  have hl : a1 < H.size := (Array.getElem?_eq_some_iff.mp c1).1
  obtain ⟨H1, hH1⟩ : ∃ z, z = H.setIfInBounds a1 (arrV (gc G 1) n1 (fun j => .int (va_cpy f g 0 0 k j))) := ⟨_, rfl⟩
  have oq : ∀ x : Nat, x ≠ a1 → H1[x]? = H[x]? := fun x hx => by rw [hH1]; simp [Array.getElem?_setIfInBounds, Ne.symm hx]
  have on : H1[a1]? = some (arrV (gc G 1) n1 (fun j => .int (va_cpy f g 0 0 k j))) := by rw [hH1]; simp [Array.getElem?_setIfInBounds, hl]
  have hz : H1.size = H.size := by rw [hH1]; simp
  obtain ⟨t, a, b⟩ := kk H1 _ ls h1 (hI2 H H1 h2 on hz oq) ⟨by rw [hz]; exact h3.1, fun x g1 g2 => by
      rw [oq x (fun e => g2 (by rw [e]; exact hA))]
      exact h3.2.1 x g1 g2, fun x hx => by
      rcases List.mem_append.mp hx with h | h
      · exact h3.2.2 x h
      · obtain ⟨z, -, hz⟩ := List.mem_map.mp h
        rw [← hz]
        exact hA⟩ _ (by rw [hH1, ← hT]; rfl) X'
  exact ⟨t, step t a, b⟩

end STRROWS
theorem miJ5_getValue_6d5f1 : MI yJ5_getValue_6d5f1 cJ5_getValue_6d5f1 1 (some (FieldType.array FieldType.byte)) 0 := ⟨p_1475, p_26, by decide +kernel, by decide +kernel, by decide +kernel, by decide +kernel⟩
theorem miJ7_copyOfRange_39247 : MI yJ7_copyOfRange_39247 cJ7_copyOfRange_39247 3 (some (FieldType.array FieldType.byte)) 3 := ⟨p_1480, p_32, by decide +kernel, by decide +kernel, by decide +kernel, by decide +kernel⟩
theorem miJ7_copyOfRangeByte_39247 : MI yJ7_copyOfRangeByte_39247 cJ7_copyOfRangeByte_39247 5 (some (FieldType.array FieldType.byte)) 3 := ⟨p_1483, p_32, by decide +kernel, by decide +kernel, by decide +kernel, by decide +kernel⟩
theorem miJ7_checkLength_df160 : MI yJ7_checkLength_df160 cJ7_checkLength_df160 2 none 2 := ⟨p_1486, p_32, by decide +kernel, by decide +kernel, by decide +kernel, by decide +kernel⟩
theorem miJ0_init_81219 : MI yJ0_init_81219 cJ0_init_81219 2 none 1 := ⟨p_1466, p_28, by decide +kernel, by decide +kernel, by decide +kernel, by decide +kernel⟩
theorem miJ0_init_db425 : MI yJ0_init_db425 cJ0_init_db425 5 none 2 := ⟨p_1469, p_28, by decide +kernel, by decide +kernel, by decide +kernel, by decide +kernel⟩
theorem miJ4_toString_0e30d : MI yJ4_toString_0e30d cJ4_toString_0e30d 1 (some (.object RJ0)) 0 := ⟨p_1461, p_27, by decide +kernel, by decide +kernel, by decide +kernel, by decide +kernel⟩
theorem mvJ4_toString_0e30d : MV yJ4_toString_0e30d := ⟨p_1459, p_1460⟩
theorem ct_gvI {G : GG} {l : Launch} {I : Heap → Prop} {b q : Nat} {ml n : Int32} (hI : ∀ H, I H → va_at (gD G) jcl (b, .inr (11, [.ref q, .int 0, .int ml, .int n])) H) : CTP G l yJ5_getValue_6d5f1 cJ5_getValue_6d5f1 1 (some (FieldType.array FieldType.byte)) rmO 0 0 [.ref b] I (fun v H => v = some (.ref q) ∧ I H) := by
  refine CTP.of miJ5_getValue_6d5f1 [(0, .ref b)] rfl (Nat.le_of_ble_eq_true rfl) ?_
  intro p e s m args below meth c hX hR hlk
  have hX : FX G RJ5 cJ5_getValue_6d5f1 1 p s m args c := hX
  refine J_aload_n hX dJ5_getValue_6d5f1_0 0 rfl (t := 1) rfl ?_
  refine J_getI hX cb11 hI 0 (by decide) p_419 rfl dJ5_getValue_6d5f1_1 (t := 4) rfl ?_
  exact J_aretP hX hR (Or.inr ⟨_, rfl⟩) hlk (fun H h => ⟨rfl, h⟩) dJ5_getValue_6d5f1_4
theorem ct_l1I {G : GG} {l : Launch} {I : Heap → Prop} {b q : Nat} {ml n : Int32} (hI : ∀ H, I H → va_at (gD G) jcl (b, .inr (11, [.ref q, .int 0, .int ml, .int n])) H) : CTP G l yJ5_isLatin1_aae02 cJ5_isLatin1_aae02 1 (some .boolean) rmO 0 0 [.ref b] I (fun v H => v = some (.int (bI true)) ∧ I H) := by
  refine CTP.of miJ5_isLatin1_aae02 [(0, .ref b)] rfl (Nat.le_of_ble_eq_true rfl) ?_
  intro p e s m args below meth c hX hR hlk
  have hX : FX G RJ5 cJ5_isLatin1_aae02 1 p s m args c := hX
  refine J_gst hX hX.G2.1 p_410 dJ5_isLatin1_aae02_0 (t := 3) rfl ?_
  refine J_if_eq (tgt := 17) hX dJ5_isLatin1_aae02_3 (by decide) (t := 6) rfl (fun z => absurd z (by decide)) (fun z => ?_)
  refine J_aload_n hX dJ5_isLatin1_aae02_6 0 rfl (t := 7) rfl ?_
  refine J_getI hX cb11 hI 1 (by decide) p_420 rfl dJ5_isLatin1_aae02_7 (t := 10) rfl ?_
  refine J_if_ne (tgt := 17) hX dJ5_isLatin1_aae02_10 (by decide) (t := 13) rfl (fun z => absurd rfl z) (fun z => ?_)
  refine J_iconst (v := 1) hX dJ5_isLatin1_aae02_13 (by decide) (t := 14) rfl ?_
  refine J_goto (tgt := 18) hX dJ5_isLatin1_aae02_14 (by decide) ?_
  exact J_zretP (b := true) hX hR hlk (fun H h => ⟨rfl, h⟩) dJ5_isLatin1_aae02_18
theorem ct_ckl {G : GG} {l : Launch} {I : Heap → Prop} {a : Nat} (ha : a ≤ 1040) : CTP G l yJ7_checkLength_df160 cJ7_checkLength_df160 2 none rmO 0 0 [.int 0, .int (nI a)] I (fun v H => v = none ∧ I H) := by
  refine CTP.of miJ7_checkLength_df160 [(0, .int 0), (1, .int (nI a))] rfl (Nat.le_of_ble_eq_true rfl) ?_
  intro p e s m args below meth c hX hR hlk
  have hX : FX G RJ7 cJ7_checkLength_df160 2 p s m args c := hX
  refine J_iload_n hX dJ7_checkLength_df160_0 1 rfl (t := 1) rfl ?_
  refine J_iload_n hX dJ7_checkLength_df160_1 0 rfl (t := 2) rfl ?_
  refine J_icmp_ge (tgt := 37) hX dJ7_checkLength_df160_2 (by decide) (t := 5) rfl (fun z => ?_) (fun z => absurd (nI_pos' (by omega)) z)
  exact J_vretP hX hR hlk (fun H h => ⟨rfl, h⟩) dJ7_checkLength_df160_37
theorem ct_crb {G : GG} {l : Launch} {I : Heap → Prop} {k1 q cap a : Nat} {bs : Nat → Int32} (hs : SKI k1 I) (hk : ∀ H, I H → k1 ≤ H.size) (hB : ∀ H, I H → va_at (gD G) jcl (q, aB G cap bs) H) (ha : a < cap) (ha2 : a ≤ 1040) (hc : cap < 2 ^ 20) (hf : sb_Fit bs) : CTP G l yJ7_copyOfRangeByte_39247 cJ7_copyOfRangeByte_39247 5 (some (FieldType.array FieldType.byte)) rbc 1 1040 [.ref q, .int 0, .int (nI a)] I (fun v H => ∃ r, v = some (.ref r) ∧ k1 ≤ r ∧ (I H ∧ va_at (gD G) jcl (r, aB G a (va_cpy bs (fun _ => 0) 0 0 a)) H)) := by
  refine CTP.of miJ7_copyOfRangeByte_39247 [(0, .ref q), (1, .int 0), (2, .int (nI a))] rfl (Nat.le_of_ble_eq_true rfl) ?_
  intro p e s m args below meth c hX hR hlk
  have hX : FX G RJ7 cJ7_copyOfRangeByte_39247 5 p s m args c := hX
  refine J_iload_n hX dJ7_copyOfRangeByte_39247_0 1 rfl (t := 1) rfl ?_
  refine J_iload_n hX dJ7_copyOfRangeByte_39247_1 2 rfl (t := 2) rfl ?_
  refine J_callSP hX [.int 0, .int (nI a)] [] (ct_ckl ha2) miJ7_checkLength_df160 p_1485 p_1484 ⟨rfl, rfl, Nat.le_of_ble_eq_true rfl, Nat.le_of_ble_eq_true rfl⟩ rfl rfl (Nat.le_of_ble_eq_true rfl) ⟨Nat.le_of_ble_eq_true rfl, Nat.le_of_ble_eq_true rfl⟩ dJ7_copyOfRangeByte_39247_2 (t := 5) rfl (fun v => J_pure fun hv => ?_)
  subst hv
  refine J_iload_n hX dJ7_copyOfRangeByte_39247_5 2 rfl (t := 6) rfl ?_
  refine J_iload_n hX dJ7_copyOfRangeByte_39247_6 1 rfl (t := 7) rfl ?_
  refine J_isub hX dJ7_copyOfRangeByte_39247_7 (t := 8) rfl ?_
  refine J_val (Int32.sub_zero _) ?_
  refine J_istore_n (lc2 := [(3, .int (nI a)), (0, .ref q), (1, .int 0), (2, .int (nI a))]) hX dJ7_copyOfRangeByte_39247_8 rfl (Nat.le_of_ble_eq_true rfl) rfl (t := 9) rfl ?_
  refine J_iload_n hX dJ7_copyOfRangeByte_39247_9 0 rfl (t := 10) rfl ?_
  refine J_newBI hX (nI_pos (by omega)) (nI_clamp (by omega)) (by show a * 1 ≤ _; omega) p_100 ⟨Nat.le_of_ble_eq_true rfl, by show 0 + a ≤ 1040; omega⟩ (fun H H1 h hz ho => hs H H1 h hz (fun x hx => ho x (Nat.lt_of_lt_of_le hx (hk H h)))) (Φ := fun r => k1 ≤ r) hk dJ7_copyOfRangeByte_39247_10 (t := 12) rfl (fun r hA hr => ?_)
  refine J_astore (lc2 := [(4, .ref r), (3, .int (nI a)), (0, .ref q), (1, .int 0), (2, .int (nI a))]) hX dJ7_copyOfRangeByte_39247_12 (Nat.le_of_ble_eq_true rfl) rfl (t := 14) rfl ?_
  refine J_aload_n hX dJ7_copyOfRangeByte_39247_14 2 rfl (t := 15) rfl ?_
  refine J_iload_n hX dJ7_copyOfRangeByte_39247_15 3 rfl (t := 16) rfl ?_
  refine J_aload hX dJ7_copyOfRangeByte_39247_16 0 rfl (t := 18) rfl ?_
  refine J_iconst (v := 0) hX dJ7_copyOfRangeByte_39247_18 (by decide) (t := 19) rfl ?_
  refine J_aload_n hX dJ7_copyOfRangeByte_39247_19 2 rfl (t := 20) rfl ?_
  refine J_alenBI hX (fun H h => hB H h.1) rfl dJ7_copyOfRangeByte_39247_20 (t := 21) rfl ?_
  refine J_iload_n hX dJ7_copyOfRangeByte_39247_21 3 rfl (t := 22) rfl ?_
  refine J_isub hX dJ7_copyOfRangeByte_39247_22 (t := 23) rfl ?_
  refine J_val (Int32.sub_zero _) ?_
  refine J_iload_n hX dJ7_copyOfRangeByte_39247_23 1 rfl (t := 24) rfl ?_
  refine J_min hX ⟨p_1118, p_772, p_31, p_773⟩ ⟨Nat.le_of_ble_eq_true rfl, Nat.le_of_ble_eq_true rfl, Nat.le_of_ble_eq_true rfl, by show 0 + a ≤ 1040; omega⟩ dJ7_copyOfRangeByte_39247_24 (t := 27) rfl ?_
  refine J_val (show (if nI a < nI cap then nI a else nI cap) = nI a from if_pos (nI_lt ha (by omega))) ?_
  refine J_bcopyI (I2 := fun H => I H ∧ va_at (gD G) jcl (r, aB G a (va_cpy bs (fun _ => 0) 0 0 a)) H) hX (fun H h => hB H h.1) (fun H h => h.2) hA rfl (by omega) (Nat.le_refl _) (by omega) hf (fun H H1 h e hz ho => ⟨hs H H1 h.1 (by omega) (fun x hx => ho x (by omega)), e⟩) ⟨p_1119, p_1121, p_1120, p_33⟩ ⟨Nat.le_of_ble_eq_true rfl, Nat.le_of_ble_eq_true rfl⟩ dJ7_copyOfRangeByte_39247_27 (t := 30) rfl ?_
  refine J_aload hX dJ7_copyOfRangeByte_39247_30 0 rfl (t := 32) rfl ?_
  refine J_wid (k := 1) (n := 1040) (Nat.le_refl _) (by show 0 + a ≤ 1040; omega) ?_
  exact J_aretP hX hR (Or.inr ⟨_, rfl⟩) hlk (fun H h => ⟨r, rfl, hr, h⟩) dJ7_copyOfRangeByte_39247_32
theorem ct_cr {G : GG} {l : Launch} {I : Heap → Prop} {k1 q cap a : Nat} {bs : Nat → Int32} (hs : SKI k1 I) (hk : ∀ H, I H → k1 ≤ H.size) (hB : ∀ H, I H → va_at (gD G) jcl (q, aB G cap bs) H) (ha : a < cap) (ha2 : a ≤ 1040) (hc : cap < 2 ^ 20) (hf : sb_Fit bs) : CTP G l yJ7_copyOfRange_39247 cJ7_copyOfRange_39247 3 (some (FieldType.array FieldType.byte)) { frames := 2, cells := 1, slots := 1040, locals := 160 } 1 1040 [.ref q, .int 0, .int (nI a)] I (fun v H => ∃ r, v = some (.ref r) ∧ k1 ≤ r ∧ (I H ∧ va_at (gD G) jcl (r, aB G a (va_cpy bs (fun _ => 0) 0 0 a)) H)) := by
  refine CTP.of miJ7_copyOfRange_39247 [(0, .ref q), (1, .int 0), (2, .int (nI a))] rfl (Nat.le_of_ble_eq_true rfl) ?_
  intro p e s m args below meth c hX hR hlk
  have hX : FX G RJ7 cJ7_copyOfRange_39247 3 p s m args c := hX
  refine J_iload_n hX dJ7_copyOfRange_39247_0 1 rfl (t := 1) rfl ?_
  refine J_if_ne (tgt := 10) hX dJ7_copyOfRange_39247_1 (by decide) (t := 4) rfl (fun z => absurd rfl z) (fun z => ?_)
  refine J_iload_n hX dJ7_copyOfRange_39247_4 2 rfl (t := 5) rfl ?_
  refine J_aload_n hX dJ7_copyOfRange_39247_5 0 rfl (t := 6) rfl ?_
  refine J_alenBI hX hB rfl dJ7_copyOfRange_39247_6 (t := 7) rfl ?_
  refine J_icmp_eq (tgt := 17) hX dJ7_copyOfRange_39247_7 (by decide) (t := 10) rfl (fun z => absurd ((nI_eq (by omega) (by omega)).mp z) (by omega)) (fun z => ?_)
  refine J_aload_n hX dJ7_copyOfRange_39247_10 0 rfl (t := 11) rfl ?_
  refine J_iload_n hX dJ7_copyOfRange_39247_11 1 rfl (t := 12) rfl ?_
  refine J_iload_n hX dJ7_copyOfRange_39247_12 2 rfl (t := 13) rfl ?_
  refine J_callSP hX [.ref q, .int 0, .int (nI a)] [] (ct_crb hs hk hB ha ha2 hc hf) miJ7_copyOfRangeByte_39247 p_1482 p_1481 ⟨rfl, rfl, Nat.le_of_ble_eq_true rfl, Nat.le_of_ble_eq_true rfl⟩ rfl rfl (Nat.le_of_ble_eq_true rfl) ⟨Nat.le_of_ble_eq_true rfl, Nat.le_of_ble_eq_true rfl⟩ dJ7_copyOfRange_39247_13 (t := 16) rfl (fun v => J_exE fun r => J_pure fun hv => ?_)
  subst hv
  exact J_aretP hX hR (Or.inr ⟨_, rfl⟩) hlk (fun H h => ⟨r, rfl, h⟩) dJ7_copyOfRange_39247_16
theorem cnJ0_init2 {G : GG} {l : Launch} {I : Heap → Prop} {k1 o b q cap a : Nat} {ml : Int32} {bs : Nat → Int32} (hs : SKI k1 I) (ho : k1 ≤ o) (hA : gA G o) (hI : ∀ H, I H → va_at (gD G) jcl (b, .inr (11, [.ref q, .int 0, .int ml, .int (nI a)])) H) (hB : ∀ H, I H → va_at (gD G) jcl (q, aB G cap bs) H) (ha : a < cap) (ha2 : a ≤ 1040) (hc : cap < 2 ^ 20) (hf : sb_Fit bs) : CTN G l yJ0_init_db425 cJ0_init_db425 5 none { frames := 3, cells := 1, slots := 1040, locals := 240 } 1 1040 [.ref o, .ref b, .null] (fun H => I H ∧ va_at (gD G) jcl (o, .inr (12, [.null, .int 0, .int 0, .int 0])) H) (fun v H => v = none ∧ ∃ r, (k1 ≤ r ∧ o < r) ∧ (I H ∧ va_at (gD G) jcl (o, .inr (12, [.ref r, .int 0, .int 0, .int 0])) H) ∧ va_at (gD G) jcl (r, aB G a (va_cpy bs (fun _ => 0) 0 0 a)) H) := by
  refine CTN.of miJ0_init_db425 [(0, .ref o), (1, .ref b), (2, .null)] rfl (Nat.le_of_ble_eq_true rfl) ?_
  intro p e s m args below meth c hX hAO hnm hR hlk
  have hX : FX G RJ0 cJ0_init_db425 5 p s m args c := hX
  have hnm : meth.name = "<init>" := hnm
  refine J_aload_n hX dJ0_init_db425_0 0 rfl (t := 1) rfl ?_
  refine N_obj hX p_1470 ⟨Nat.le_of_ble_eq_true rfl, Nat.le_of_ble_eq_true rfl⟩ dJ0_init_db425_1 (t := 4) rfl ?_
  refine J_aload_n hX dJ0_init_db425_4 1 rfl (t := 5) rfl ?_
  refine J_callVP hX [] [] (ct_gvI (fun H h => hI H h.1)) miJ5_getValue_6d5f1 p_1472 (hX.2.2.2.2.1 _ p_1474) (fun H h => ⟨_, hI H h.1⟩) p_1471 ⟨rfl, rfl, Nat.le_of_ble_eq_true rfl, Nat.le_of_ble_eq_true rfl⟩ rfl rfl (Nat.le_of_ble_eq_true rfl) ⟨Nat.le_of_ble_eq_true rfl, Nat.le_of_ble_eq_true rfl⟩ dJ0_init_db425_5 (t := 8) rfl (fun v => J_pure fun hv => ?_)
  subst hv
  refine J_astore_n (lc2 := [(3, .ref q), (0, .ref o), (1, .ref b), (2, .null)]) hX dJ0_init_db425_8 rfl (Nat.le_of_ble_eq_true rfl) rfl (t := 9) rfl ?_
  refine J_aload_n hX dJ0_init_db425_9 2 rfl (t := 10) rfl ?_
  refine J_callOv hX [] [] (ct_ln4I (fun H h => hI H h.1)) miJ4_length_8abf5 p_1273 p_1615 p_1613 p_1277 p_1278 (by decide +kernel) (fun H h => ⟨_, hI H h.1⟩) p_1476 ⟨rfl, rfl, Nat.le_of_ble_eq_true rfl, Nat.le_of_ble_eq_true rfl⟩ rfl rfl (Nat.le_of_ble_eq_true rfl) ⟨Nat.le_of_ble_eq_true rfl, Nat.le_of_ble_eq_true rfl⟩ dJ0_init_db425_10 (t := 13) rfl (fun v => J_pure fun hv => ?_)
  subst hv
  refine J_istore (lc2 := [(4, .int (nI a)), (3, .ref q), (0, .ref o), (1, .ref b), (2, .null)]) hX dJ0_init_db425_13 (Nat.le_of_ble_eq_true rfl) rfl (t := 15) rfl ?_
  refine J_aload_n hX dJ0_init_db425_15 3 rfl (t := 16) rfl ?_
  refine J_callVP hX [] [] (ct_l1I (fun H h => hI H h.1)) miJ5_isLatin1_aae02 p_1123 (hX.2.2.2.2.1 _ p_1125) (fun H h => ⟨_, hI H h.1⟩) p_1477 ⟨rfl, rfl, Nat.le_of_ble_eq_true rfl, Nat.le_of_ble_eq_true rfl⟩ rfl rfl (Nat.le_of_ble_eq_true rfl) ⟨Nat.le_of_ble_eq_true rfl, Nat.le_of_ble_eq_true rfl⟩ dJ0_init_db425_16 (t := 19) rfl (fun v => J_pure fun hv => ?_)
  subst hv
  refine J_if_eq (tgt := 41) hX dJ0_init_db425_19 (by decide) (t := 22) rfl (fun z => absurd z (by decide)) (fun z => ?_)
  refine J_aload_n hX dJ0_init_db425_22 2 rfl (t := 23) rfl ?_
  refine J_iconst (v := 0) hX dJ0_init_db425_23 (by decide) (t := 24) rfl ?_
  refine J_putFI (I2 := fun H => I H ∧ va_at (gD G) jcl (o, .inr (12, [.null, .int 0, .int 0, .int 0])) H) hX hnm cb12 (fs := [.null, .int 0, .int 0, .int 0]) (fun H h => h.2) hA 1 (by decide) p_1498 rfl rfl (ty := .byte) rfl rfl rfl (by show 1 < 4; decide) (fun H H1 h e hz hq => ⟨hs H H1 h.1 (by omega) (fun x hx => hq x (by omega)), e⟩) dJ0_init_db425_24 (t := 27) rfl ?_
  refine J_aload_n hX dJ0_init_db425_27 2 rfl (t := 28) rfl ?_
  refine J_aload_n hX dJ0_init_db425_28 1 rfl (t := 29) rfl ?_
  refine J_iconst (v := 0) hX dJ0_init_db425_29 (by decide) (t := 30) rfl ?_
  refine J_iload hX dJ0_init_db425_30 0 rfl (t := 32) rfl ?_
  refine J_callSP hX [.ref q, .int 0, .int (nI a)] [.ref o] (ct_cr (k1 := o + 1) (I := fun H => I H ∧ va_at (gD G) jcl (o, .inr (12, [.null, .int 0, .int 0, .int 0])) H) (fun H H1 h hz hq => ⟨hs H H1 h.1 hz (fun x hx => hq x (by omega)), h.2.kept (hq o (Nat.lt_succ_self _))⟩) (fun H h => h.2.lt) (fun H h => hB H h.1) ha ha2 hc hf) miJ7_copyOfRange_39247 p_1479 p_1478 ⟨rfl, rfl, Nat.le_of_ble_eq_true rfl, Nat.le_of_ble_eq_true rfl⟩ rfl rfl (Nat.le_of_ble_eq_true rfl) ⟨Nat.le_of_ble_eq_true rfl, Nat.le_of_ble_eq_true rfl⟩ dJ0_init_db425_32 (t := 35) rfl (fun v => J_exE fun r => J_pure fun hv => J_pure fun hr => ?_)
  subst hv
  refine J_putFI (I2 := fun H => (I H ∧ va_at (gD G) jcl (o, .inr (12, [.ref r, .int 0, .int 0, .int 0])) H) ∧ va_at (gD G) jcl (r, aB G a (va_cpy bs (fun _ => 0) 0 0 a)) H) hX hnm cb12 (fs := [.null, .int 0, .int 0, .int 0]) (fun H h => h.1.2) hA 0 (by decide) p_1497 rfl rfl (ty := .array .byte) rfl rfl rfl (by show 0 < 4; decide) (fun H H1 h e hz hq => ⟨⟨hs H H1 h.1.1 (by omega) (fun x hx => hq x (by omega)), e⟩, h.2.kept (hq r (by omega))⟩) dJ0_init_db425_35 (t := 38) rfl ?_
  refine J_goto (tgt := 97) hX dJ0_init_db425_38 (by decide) ?_
  exact J_vretP hX hR hlk (fun H h => ⟨rfl, r, ⟨by omega, hr⟩, h⟩) dJ0_init_db425_97
theorem cnJ0_init1 {G : GG} {l : Launch} {I : Heap → Prop} {k1 o b q cap a : Nat} {ml : Int32} {bs : Nat → Int32} (hs : SKI k1 I) (ho : k1 ≤ o) (hA : gA G o) (hI : ∀ H, I H → va_at (gD G) jcl (b, .inr (11, [.ref q, .int 0, .int ml, .int (nI a)])) H) (hB : ∀ H, I H → va_at (gD G) jcl (q, aB G cap bs) H) (ha : a < cap) (ha2 : a ≤ 1040) (hc : cap < 2 ^ 20) (hf : sb_Fit bs) : CTN G l yJ0_init_81219 cJ0_init_81219 2 none { frames := 4, cells := 1, slots := 1040, locals := 300 } 1 1040 [.ref o, .ref b] (fun H => I H ∧ va_at (gD G) jcl (o, .inr (12, [.null, .int 0, .int 0, .int 0])) H) (fun v H => v = none ∧ ∃ r, (k1 ≤ r ∧ o < r) ∧ (I H ∧ va_at (gD G) jcl (o, .inr (12, [.ref r, .int 0, .int 0, .int 0])) H) ∧ va_at (gD G) jcl (r, aB G a (va_cpy bs (fun _ => 0) 0 0 a)) H) := by
  refine CTN.of miJ0_init_81219 [(0, .ref o), (1, .ref b)] rfl (Nat.le_of_ble_eq_true rfl) ?_
  intro p e s m args below meth c hX hAO hnm hR hlk
  have hX : FX G RJ0 cJ0_init_81219 2 p s m args c := hX
  have hnm : meth.name = "<init>" := hnm
  refine J_aload_n hX dJ0_init_81219_0 0 rfl (t := 1) rfl ?_
  refine J_aload_n hX dJ0_init_81219_1 1 rfl (t := 2) rfl ?_
  refine J_null hX dJ0_init_81219_2 (t := 3) rfl ?_
  refine N_call hX hAO [.ref b, .null] [] (cnJ0_init2 hs ho hA hI hB ha ha2 hc hf) miJ0_init_db425 p_1468 rfl p_1467 ⟨rfl, rfl, Nat.le_of_ble_eq_true rfl, Nat.le_of_ble_eq_true rfl⟩ rfl rfl (Nat.le_of_ble_eq_true rfl) ⟨Nat.le_of_ble_eq_true rfl, Nat.le_of_ble_eq_true rfl⟩ dJ0_init_81219_3 (t := 6) rfl (fun v => J_pure fun hv => ?_)
  subst hv
  exact J_vretP hX hR hlk (fun H h => ⟨rfl, h⟩) dJ0_init_81219_6
theorem ct_tsI {G : GG} {l : Launch} {I : Heap → Prop} {k0 b q cap a : Nat} {ml : Int32} {bs : Nat → Int32} (hg : grows I) (hk0 : ∀ H, I H → k0 ≤ H.size) (hI : ∀ H, I H → va_at (gD G) jcl (b, .inr (11, [.ref q, .int 0, .int ml, .int (nI a)])) H) (hB : ∀ H, I H → va_at (gD G) jcl (q, aB G cap bs) H) (ha : a < cap) (ha2 : a ≤ 1040) (hc : cap < 2 ^ 20) (hf : sb_Fit bs) : CTP G l yJ4_toString_0e30d cJ4_toString_0e30d 1 (some (.object RJ0)) { frames := 5, cells := 2, slots := 1044, locals := 360 } 2 1044 [.ref b] I (fun v H => ∃ o, ∃ r, v = some (.ref o) ∧ (k0 ≤ o ∧ k0 ≤ r ∧ o < r) ∧ (I H ∧ va_at (gD G) jcl (o, .inr (12, [.ref r, .int 0, .int 0, .int 0])) H ∧ va_at (gD G) jcl (r, aB G a (va_cpy bs (fun _ => 0) 0 0 a)) H)) := by
  refine CTP.of miJ4_toString_0e30d [(0, .ref b)] rfl (Nat.le_of_ble_eq_true rfl) ?_
  intro p e s m args below meth c hX hR hlk
  have hX : FX G RJ4 cJ4_toString_0e30d 1 p s m args c := hX
  refine J_markI fun k1 hk => ?_
  refine J_newOI hX cb12 p_1462 p_1463 p_28 [.null, .int 0, .int 0, .int 0] dfJ0 ⟨Nat.le_of_ble_eq_true rfl, Nat.le_of_ble_eq_true rfl⟩ (fun H H1 h hz hq => MK.ski H H1 h hz (fun x hx => hq x (Nat.lt_of_lt_of_le hx h.le))) (Φ := fun o => k1 ≤ o) (fun H h => h.le) dJ4_toString_0e30d_0 (t := 3) rfl (fun o hA ho => ?_)
  refine J_dup hX dJ4_toString_0e30d_3 rfl (t := 4) rfl ?_
  refine J_aload_n hX dJ4_toString_0e30d_4 0 rfl (t := 5) rfl ?_
  refine N_call hX hX.ao [.ref b] [.ref o] (cnJ0_init1 MK.ski ho hA (fun H h => hI H (h.back hg)) (fun H h => hB H (h.back hg)) ha ha2 hc hf) miJ0_init_81219 p_1465 rfl p_1464 ⟨rfl, rfl, Nat.le_of_ble_eq_true rfl, Nat.le_of_ble_eq_true rfl⟩ rfl rfl (Nat.le_of_ble_eq_true rfl) ⟨Nat.le_of_ble_eq_true rfl, Nat.le_of_ble_eq_true rfl⟩ dJ4_toString_0e30d_5 (t := 8) rfl (fun v => J_pure fun hv => J_exE fun r => J_pure fun hr => ?_)
  subst hv
  exact J_aretP hX hR (Or.inl ⟨_, rfl⟩) hlk (fun H h => ⟨o, r, rfl, ⟨hk _ hk0 |> Nat.le_trans <| ho, Nat.le_trans (hk _ hk0) hr.1, hr.2⟩, (h.1.1.back hg), h.1.2, h.2⟩) dJ4_toString_0e30d_8
