theorem miJ5_ensureCapacityInternal_d00df : MI yJ5_ensureCapacityInternal_d00df cJ5_ensureCapacityInternal_d00df 3 none 1 := ⟨q_1690, q_148, by decide +kernel, by decide +kernel, by decide +kernel, by decide +kernel⟩
theorem miJ5_newCapacity_0f7a4 : MI yJ5_newCapacity_0f7a4 cJ5_newCapacity_0f7a4 6 (some .int) 1 := ⟨q_1694, q_148, by decide +kernel, by decide +kernel, by decide +kernel, by decide +kernel⟩
theorem miJ8_newLength_cabcc : MI yJ8_newLength_cabcc cJ8_newLength_cabcc 4 (some .int) 3 := ⟨q_1697, q_166, by decide +kernel, by decide +kernel, by decide +kernel, by decide +kernel⟩
theorem miJ7_copyOf_9075b : MI yJ7_copyOf_9075b cJ7_copyOf_9075b 3 (some (FieldType.array FieldType.byte)) 2 := ⟨q_1706, q_167, by decide +kernel, by decide +kernel, by decide +kernel, by decide +kernel⟩
theorem miJ5_isLatin1_aae02 : MI yJ5_isLatin1_aae02 cJ5_isLatin1_aae02 1 (some .boolean) 0 := ⟨q_1722, q_148, by decide +kernel, by decide +kernel, by decide +kernel, by decide +kernel⟩
theorem miJ1_canEncode_fc78d : MI yJ1_canEncode_fc78d cJ1_canEncode_fc78d 1 (some .boolean) 1 := ⟨q_1923, q_158, by decide +kernel, by decide +kernel, by decide +kernel, by decide +kernel⟩
theorem miJ5_append_3fe6f : MI yJ5_append_3fe6f cJ5_append_3fe6f 2 (some (.object RJ5)) 1 := ⟨q_1920, q_148, by decide +kernel, by decide +kernel, by decide +kernel, by decide +kernel⟩
theorem miJ4_append_cf468 : MI yJ4_append_cf468 cJ4_append_cf468 2 (some (.object RJ4)) 1 := ⟨q_1917, q_149, by decide +kernel, by decide +kernel, by decide +kernel, by decide +kernel⟩
theorem miJ6_stringSize_0f7a4 : MI yJ6_stringSize_0f7a4 cJ6_stringSize_0f7a4 4 (some .int) 1 := ⟨q_1782, q_164, by decide +kernel, by decide +kernel, by decide +kernel, by decide +kernel⟩
theorem miJ6_getChars_ba4f3 : MI yJ6_getChars_ba4f3 cJ6_getChars_ba4f3 7 (some .int) 3 := ⟨q_1785, q_164, by decide +kernel, by decide +kernel, by decide +kernel, by decide +kernel⟩
theorem miJ5_append_c97b9 : MI yJ5_append_c97b9 cJ5_append_c97b9 4 (some (.object RJ5)) 1 := ⟨q_1779, q_148, by decide +kernel, by decide +kernel, by decide +kernel, by decide +kernel⟩
theorem miJ4_append_bf812 : MI yJ4_append_bf812 cJ4_append_bf812 2 (some (.object RJ4)) 1 := ⟨q_1776, q_149, by decide +kernel, by decide +kernel, by decide +kernel, by decide +kernel⟩
theorem miJ5_length_8abf5 : MI yJ5_length_8abf5 cJ5_length_8abf5 1 (some .int) 0 := ⟨q_1823, q_148, by decide +kernel, by decide +kernel, by decide +kernel, by decide +kernel⟩
theorem miJ4_length_8abf5 : MI yJ4_length_8abf5 cJ4_length_8abf5 1 (some .int) 0 := ⟨q_1821, q_149, by decide +kernel, by decide +kernel, by decide +kernel, by decide +kernel⟩
theorem miJ5_charAt_5068e : MI yJ5_charAt_5068e cJ5_charAt_5068e 5 (some .char) 1 := ⟨q_1946, q_148, by decide +kernel, by decide +kernel, by decide +kernel, by decide +kernel⟩
theorem miJ4_charAt_5068e : MI yJ4_charAt_5068e cJ4_charAt_5068e 2 (some .char) 1 := ⟨q_1943, q_149, by decide +kernel, by decide +kernel, by decide +kernel, by decide +kernel⟩
/-! STRINGBUILDER: its object and row opened out of the world; contracts between heap pictures -/
def SOb (G : GG) (b q : Nat) (ml n : Int32) (H : Heap) : Prop := va_at (gD G) jcl (b, .inr (11, [.ref q, .int 0, .int ml, .int n])) H
def OKN (G : GG) (b q : Nat) : Prop := gA G q ∧ b ≠ q
def SAr (G : GG) (q cap : Nat) (bs : Nat → Int32) (H : Heap) : Prop := va_at (gD G) jcl (q, aB G cap bs) H
/-- a builder at b with its row at q: cap bytes bs, n of them used -/
def SE (G : GG) (b q cap : Nat) (ml n : Int32) (bs : Nat → Int32) (H : Heap) : Prop := gA G b ∧ OKN G b q ∧ SOb G b q ml n H ∧ SAr G q cap bs H
-- contracts between pictures of the heap
def GI (G : GG) (I : Heap → Prop) (U : State) : Prop := I U.heap ∧ va_K (gD G) jcl (jtys G) U ∧ GL G U U.heap ∧ gz G ≤ U.heap.size ∧ GV G
theorem GI.blind (G : GG) (I : Heap → Prop) (av : List Value) : FrameBlind (va_Pc av (GI G I)) := fun _ U g mk h =>
  ⟨h.1, h.2.1, va_K.moved (u := U) (U := U.calling g mk _) (Vm.Alike.refl U.vm) h.2.2.1, GL.same (u := U) (U := U.calling g mk _) rfl h.2.2.2.1, h.2.2.2.2.1, h.2.2.2.2.2⟩
def QP (G : GG) (P : Option Value → Heap → Prop) : Array Value → State → Outcome → State → Prop := fun _ st oc t => ∃ v, oc = .returned v ∧ P v t.heap ∧ va_F (gA G) st t
def CTP (G : GG) (l : Launch) (y : MethodName) (cc : ByteArray) (mL : Nat) (ret : Option FieldType) (rm : Room) (mc ms : Nat) (av : List Value) (I : Heap → Prop) (P : Option Value → Heap → Prop) : Prop := Met l y (wsY y cc mL ret) rm (va_Pc av (GI G I)) (QP G P) mc ms (gA G)
theorem CTP.of {G : GG} {l : Launch} {y : MethodName} {cc : ByteArray} {mL n : Nat} {ret : Option FieldType} {rm : Room} {mc ms : Nat} {av : List Value} {I : Heap → Prop} {P : Option Value → Heap → Prop} (mi : MI y cc mL ret n) (lc : List (Nat × Value)) (hlc : lv_args 0 av = lc) (hlen : (lg_sl av).length ≤ mL)
    (body : ∀ (p : Program) (e : Env) (s : State) (m : MethodId) (args : Array Value) (below : List Frame) (meth : Method) (c : Code), FX G y.cls cc mL p s m args c → meth.sig.returnType = ret → meth.locks = false → J G p l e rm s m args below meth c mL 0 0 (MQ below (QP G P) args s mc ms (gA G)) I 0 lc []) : CTP G l y cc mL ret rm mc ms av I P := by
  refine Met.ofW (cc := cc) (maxL := mL) (ret := ret) mi.2.2.1 rfl ?_
  intro p e s m args below meth c s₁ B hml hv
  obtain ⟨rfl, hg, hK, hL, hn⟩ := hv
  have hts := atoms_spec (ws := wsY y cc mL ret) B.pre
  have hX : FX G y.cls cc mL p s m av.toArray c := ⟨B.exec, B.bytes, hml, findClass_of_methodNamed B.named, fun w hw => hts w (List.mem_cons_of_mem _ hw), hK, hL, hn⟩
  have hl := lv_entry av hlen
  rw [hlc] at hl
  rw [lg_entry_eq]
  exact body p e s m av.toArray below meth c hX B.returns B.notSynchronized s.heap [] _ hl hg va_S.rf
section SB
variable {G : GG} {own : String} {cc : ByteArray} {p : Program} {l : Launch} {e : Env} {R : Room} {s : State} {m : MethodId} {args : Array Value} {below : List Frame} {meth : Method} {c : Code} {nL cells slots : Nat} {Q : State → Prop} {pc t : Nat} {lc : List (Nat × Value)} {st : List Value} {I : Heap → Prop} {b : Nat} {q cap : Nat} {ml n : Int32} {bs : Nat → Int32}
theorem J_imp {I2 : Heap → Prop} (h : ∀ H, I H → I2 H) (kk : J G p l e R s m args below meth c nL cells slots Q I2 pc lc st) : J G p l e R s m args below meth c nL cells slots Q I pc lc st := fun H locs ls h1 h2 h3 => kk H locs ls h1 (h H h2) h3
theorem J_exE {α : Type} {F : α → Heap → Prop} (kk : ∀ a, J G p l e R s m args below meth c nL cells slots Q (F a) pc lc st) : J G p l e R s m args below meth c nL cells slots Q (fun H => ∃ a, F a H) pc lc st := fun H locs ls h1 ⟨a, h2⟩ h3 => kk a H locs ls h1 h2 h3
theorem J_pure {φ : Prop} (kk : φ → J G p l e R s m args below meth c nL cells slots Q I pc lc st) : J G p l e R s m args below meth c nL cells slots Q (fun H => φ ∧ I H) pc lc st := fun H locs ls h1 ⟨a, h2⟩ h3 => kk a H locs ls h1 h2 h3
theorem J_sbGet (hX : FX G own cc nL p s m args c) {index : Nat} (k : Nat) (hk : k < 4) (hw : Cond.fieldLink own index (TJ4 k).1 (TJ4 k).2.1 (TJ4 k).2.2.1 ∈ WALL) {v : Value} (hv : ([.ref q, .int 0, .int ml, .int n] : List Value)[k]? = some v) (hdg : decode cc pc = .ok (.getfield index, 3)) (ht : pc + 3 = t) (kk : J G p l e R s m args below meth c nL cells slots Q (SE G b q cap ml n bs) t lc (v :: st)) : J G p l e R s m args below meth c nL cells slots Q (SE G b q cap ml n bs) pc lc (.ref b :: st) := by
  subst ht
  intro H locs ls h1 h2 h3
  exact va_get (D := gD G) (cl := jcl) (tys := jtys G) (ci := 11) (C := RJ4) (T := TJ4) (N := 4) hX.1 hX.2.1 hX.2.2.2.2.1 cb11.2.1 hX.2.2.2.1 hX.2.2.2.2.2.1 (one_P h2.2.2.1) 0 rfl cb11.1 k hk (hX.2.2.2.2.1 _ hw) (fun _ h => h) hv hdg (kk H locs ls h1 h2 h3)
theorem J_sbPutN (hX : FX G own cc nL p s m args c) {index : Nat} {x : Int32} (hw : Cond.fieldLink own index (TJ4 3).1 (TJ4 3).2.1 (TJ4 3).2.2.1 ∈ WALL) (hdg : decode cc pc = .ok (.putfield index, 3)) (ht : pc + 3 = t) (kk : J G p l e R s m args below meth c nL cells slots Q (SE G b q cap ml x bs) t lc st) : J G p l e R s m args below meth c nL cells slots Q (SE G b q cap ml n bs) pc lc (.int x :: .ref b :: st) := by
  subst ht
  intro H locs ls h1 h2 h3
  refine W_put1 hX cb11 h2.2.2.1 h2.1 h3 3 (by decide) hw rfl (ty := .int) (by rw [cb11.2.2.1 3 (by decide)]; rfl) rfl rfl (Nat.le_of_ble_eq_true rfl) hdg fun H1 locs1 e1 e2 e3 e4 => ?_
  exact kk H1 locs1 ls h1 ⟨h2.1, h2.2.1, e1, h2.2.2.2.kept (e3 _ (Ne.symm h2.2.1.2))⟩ e4
theorem J_sbPutM (hX : FX G own cc nL p s m args c) {index : Nat} {x : Int32} (hx : narrow .boolean (.int x) = .int x) (hf : fits .boolean (.int x) = true) (hw : Cond.fieldLink own index (TJ4 2).1 (TJ4 2).2.1 (TJ4 2).2.2.1 ∈ WALL) (hdg : decode cc pc = .ok (.putfield index, 3)) (ht : pc + 3 = t) (kk : J G p l e R s m args below meth c nL cells slots Q (SE G b q cap x n bs) t lc st) : J G p l e R s m args below meth c nL cells slots Q (SE G b q cap ml n bs) pc lc (.int x :: .ref b :: st) := by
  subst ht
  intro H locs ls h1 h2 h3
  refine W_put1 hX cb11 h2.2.2.1 h2.1 h3 2 (by decide) hw rfl (ty := .boolean) (by rw [cb11.2.2.1 2 (by decide)]; rfl) hx hf (Nat.le_of_ble_eq_true rfl) hdg fun H1 locs1 e1 e2 e3 e4 => ?_
  exact kk H1 locs1 ls h1 ⟨h2.1, h2.2.1, e1, h2.2.2.2.kept (e3 _ (Ne.symm h2.2.1.2))⟩ e4
theorem J_sbPutV (hX : FX G own cc nL p s m args c) {index : Nat} {q2 cap2 : Nat} {bs2 : Nat → Int32} (ho : OKN G b q2) (hw : Cond.fieldLink own index (TJ4 0).1 (TJ4 0).2.1 (TJ4 0).2.2.1 ∈ WALL) (hdg : decode cc pc = .ok (.putfield index, 3)) (ht : pc + 3 = t) (kk : J G p l e R s m args below meth c nL cells slots Q (SE G b q2 cap2 ml n bs2) t lc st) : J G p l e R s m args below meth c nL cells slots Q (fun H => SE G b q cap ml n bs H ∧ SAr G q2 cap2 bs2 H) pc lc (.ref q2 :: .ref b :: st) := by
  subst ht
  intro H locs ls h1 ⟨h2, h9⟩ h3
  refine W_put1 hX cb11 h2.2.2.1 h2.1 h3 0 (by decide) hw rfl (ty := .array .byte) (by rw [cb11.2.2.1 0 (by decide)]; rfl) rfl rfl (Nat.le_of_ble_eq_true rfl) hdg fun H1 locs1 e1 e2 e3 e4 => ?_
  exact kk H1 locs1 ls h1 ⟨h2.1, ho, e1, h9.kept (e3 _ (Ne.symm ho.2))⟩ e4
theorem J_sbLen (hX : FX G own cc nL p s m args c) {v : Int32} (hv : Int32.ofNat cap = v) (hdg : decode cc pc = .ok (.arraylength, 1)) (ht : pc + 1 = t) (kk : J G p l e R s m args below meth c nL cells slots Q (SE G b q cap ml n bs) t lc (.int v :: st)) : J G p l e R s m args below meth c nL cells slots Q (SE G b q cap ml n bs) pc lc (.ref q :: st) := by
  subst ht
  intro H locs ls h1 h2 h3
  exact va_alen (D := gD G) (cl := jcl) (tys := jtys G) hX.1 hX.2.1 hX.2.2.2.2.2.1 (one_P h2.2.2.2) 0 1 rfl rfl hv hdg (kk H locs ls h1 h2 h3)
theorem J_sbLd (hX : FX G own cc nL p s m args c) {i v : Int32} (hin : inb i cap = true) (hv : bs i.toNatClampNeg = v) (hdg : decode cc pc = .ok (.baload, 1)) (ht : pc + 1 = t) (kk : J G p l e R s m args below meth c nL cells slots Q (SE G b q cap ml n bs) t lc (.int v :: st)) : J G p l e R s m args below meth c nL cells slots Q (SE G b q cap ml n bs) pc lc (.int i :: .ref q :: st) := by
  subst ht; subst hv
  intro H locs ls h1 h2 h3
  exact va_bald (D := gD G) (cl := jcl) (tys := jtys G) hX.1 hX.2.1 hX.2.2.2.2.2.1 (one_P h2.2.2.2) 0 1 rfl rfl (inb_in hin) hdg (kk H locs ls h1 h2 h3)
theorem J_sbSt (hX : FX G own cc nL p s m args c) {i x : Int32} (hin : inb i cap = true) {bs2 : Nat → Int32} (hb : upd bs i.toNatClampNeg x.toInt8.toInt32 = bs2) (hdg : decode cc pc = .ok (.bastore, 1)) (ht : pc + 1 = t) (kk : J G p l e R s m args below meth c nL cells slots Q (SE G b q cap ml n bs2) t lc st) : J G p l e R s m args below meth c nL cells slots Q (SE G b q cap ml n bs) pc lc (.int x :: .int i :: .ref q :: st) := by
  subst ht; subst hb
  intro H locs ls h1 h2 h3
  refine W.bast hX.1 hX.2.1 h2.2.2.2 ((hX.2.2.2.2.2.1.2 1 _ rfl).1 cap (fun j9 => .int (bs j9))) (fun q => by cases q) (by show ¬ (i < 0 ∨ (arrV _ _ _).slots.size ≤ _); rw [arrV_size]; exact inb_in hin) rfl rfl hdg fun H1 e z oq => ?_
  refine kk H1 _ ls h1 ⟨h2.1, h2.2.1, h2.2.2.1.kept (oq _ h2.2.1.2), ?_⟩ (h3.put z oq h2.2.1.1)
  show H1[q]? = some (vp_cell _ _)
  rw [e, vp_cell_i, vp_cell_i, arrV_store]
  congr 2
  funext x9
  by_cases hq : x9 = i.toNatClampNeg
  · subst hq
    simp [updV, upd, narrow]
  · simp [updV, upd, hq]
/-- a new row of n bytes, all 0 -/
theorem J_newB (hX : FX G own cc nL p s m args c) {x : Int32} {N : Nat} (hn : ¬ x < 0) (hN : x.toNatClampNeg = N) (hbig : N * componentBytes .byte ≤ 536870912) (harr : Cond.arrayClass .byte ∈ WALL) (hroom : cells + 1 ≤ R.cells ∧ slots + N ≤ R.slots) (hdg : decode cc pc = .ok (.newarray .byte, 2)) (ht : pc + 2 = t)
    (kk : ∀ q2, OKN G b q2 → q2 ≠ q → J G p l e R s m args below meth c nL (cells + 1) (slots + N) Q (fun H => SE G b q cap ml n bs H ∧ SAr G q2 N (fun _ => 0) H) t lc (.ref q2 :: st)) : J G p l e R s m args below meth c nL cells slots Q (SE G b q cap ml n bs) pc lc (.int x :: st) := by
  subst ht
  intro H locs ls h1 h2 h3
  have hql : q < H.size := h2.2.2.2.lt
  have hbl : b < H.size := h2.2.2.1.lt
  have hz9 : gz G ≤ H.size := Nat.le_trans hX.2.2.2.2.2.2.2.1 h3.1
  refine va_newaK hX.1 hX.2.1 (atype := .byte) (hX.2.2.2.2.1 _ harr) rfl hdg rfl hn hN hbig hroom.1 hroom.2 rfl fun H1 cA e1 z1 o1 hAr hNm => ?_
  have hcA : cA = gc G 1 := Option.some.inj (hNm.symm.trans (hX.2.2.2.2.2.1.2 1 _ rfl).2)
  subst hcA
  refine kk H.size ⟨hX.2.2.2.2.2.2.2.2.2 _ hz9, by omega⟩ (by omega) H1 locs ls h1 ⟨⟨h2.1, h2.2.1, h2.2.2.1.kept (o1 _ h2.2.2.1.lt), h2.2.2.2.kept (o1 _ hql)⟩, ?_⟩ ⟨Nat.le_trans h3.1 (by omega), fun x a b => by rw [o1 x (Nat.lt_of_lt_of_le a h3.1)]; exact h3.2.1 x a b, h3.2.2⟩
  show H1[H.size]? = some (vp_cell _ _)
  rw [e1, vp_cell_i]
  rfl
/-- the first n bytes of the row are copied into a new one -/
theorem J_bcopy (hX : FX G own cc nL p s m args c) {q2 cap2 : Nat} {g : Nat → Int32} (ho : OKN G b q2) (hne : q2 ≠ q) {index : Nat} {k : Nat} {x : Int32} (hx : x = nI k) (hk : k ≤ cap) (hk2 : k ≤ cap2) (hc : cap < 2 ^ 31) (hfit : sb_Fit bs) (hw : Cond.methodLink own index arraycopyName ∈ WALL ∧ Cond.native arraycopyName ∈ WALL ∧ Cond.static arraycopyName ∈ WALL ∧ Cond.initialized "java/lang/System" ∈ WALL) (hroom : 1 ≤ R.frames ∧ (st.map fun v => v.category).sum + (nativeFrameWords "java/lang/System" "arraycopy" 5 + 11) ≤ R.locals) (hdg : decode cc pc = .ok (.invokestatic index, 3)) (ht : pc + 3 = t)
    (kk : J G p l e R s m args below meth c nL cells slots Q (fun H => SE G b q cap ml n bs H ∧ SAr G q2 cap2 (va_cpy bs g 0 0 k) H) t lc st) : J G p l e R s m args below meth c nL cells slots Q (fun H => SE G b q cap ml n bs H ∧ SAr G q2 cap2 g H) pc lc (.int x :: .int 0 :: .ref q2 :: .int 0 :: .ref q :: st) := by
  subst ht; subst hx
  intro H locs ls h1 ⟨h2, h9⟩ h3 T hT X
  have ek : (nI k).toNatClampNeg = k := nI_clamp (by omega)
  have c0 : H[q]? = some (arrV (gc G 1) cap (fun j => .int (bs j))) := h2.2.2.2
  have c1 : H[q2]? = some (arrV (gc G 1) cap2 (fun j => .int (g j))) := h9
  obtain ⟨-, k0, hk0, cm0, hkk0⟩ := (hX.2.2.2.2.2.1.2 1 _ rfl).1 cap (fun j => .int (bs j))
  obtain ⟨-, k1, hk1, cm1, hkk1⟩ := (hX.2.2.2.2.2.1.2 1 _ rfl).1 cap2 (fun j => .int (g j))
  have z0 : ¬ (0 : Int32) < 0 := by decide
  have zk : ¬ nI k < 0 := nI_pos (by omega)
  have tk : (nI k).toInt = (k : Int) := nI_toInt (by omega)
  have t0 : (0 : Int32).toInt = 0 := rfl
  have e0 : (0 : Int32).toNatClampNeg = 0 := rfl
  obtain ⟨vm', X', step⟩ := X.arraycopy hX.1 hX.2.2.2.1 (hX.2.2.2.2.1 _ hw.1) (hX.2.2.2.2.1 _ hw.2.1) (hX.2.2.2.2.1 _ hw.2.2.1) (hX.2.2.2.2.1 _ hw.2.2.2) (srcPos := 0) (destPos := 0) (n := nI k) (by rw [hT]; exact c0) (by rw [hT]; exact c1)
    (fun _ h => by cases h) (fun _ h => by cases h) (fun h => by cases h) (fun h => by cases h) hk0 hk1 hkk0 hkk1 (by simp [refKind]) z0 z0 zk
    (by rw [arrV_size, tk, t0]; omega) (by rw [arrV_size, tk, t0]; omega)
    (fun vm₁ _ i hi => by
      rw [ek] at hi
      have e : (arrV (gc G 1) cap (fun j => .int (bs j))).slots.getD ((0 : Int32).toNatClampNeg + i) .null = .int (bs i) := by
        rw [e0, Nat.zero_add, Array.getD_eq_getD_getElem?, arrV_read _ _ (by omega)]
        rfl
      rw [e]
      exact ⟨hfit i, trivial⟩)
    (g := F0 m pc ls (.int (nI k) :: .int 0 :: .ref q2 :: .int 0 :: .ref q :: st)) rfl (by rw [hX.2.2.1]; exact h1.1) (rest := st) rfl (by rw [hX.2.1]; exact hdg) hroom.1 (by show 2 * 0 + _ + _ ≤ _; have := hroom.2; omega)
  have e1 : copied (arrV (gc G 1) cap (fun j => .int (bs j))) (arrV (gc G 1) cap2 (fun j => .int (g j))) 0 0 (nI k) = arrV (gc G 1) cap2 (fun j => .int (va_cpy bs g 0 0 k j)) := by
    have h := va_copied (fun z => Value.int z) (gc G 1) (gc G 1) (n0 := cap) (n1 := cap2) (sp := (0 : Int32).toNatClampNeg) (dp := (0 : Int32).toNatClampNeg) (n := (nI k).toNatClampNeg) bs g (by rw [e0, ek]; omega)
    rw [e0, ek] at h
    unfold copied
    rw [e0, ek]
    exact h
  rw [e1] at X' step
  have hl : q2 < H.size := (Array.getElem?_eq_some_iff.mp c1).1
  obtain ⟨H1, hH1⟩ : ∃ z, z = H.setIfInBounds q2 (arrV (gc G 1) cap2 (fun j => .int (va_cpy bs g 0 0 k j))) := ⟨_, rfl⟩
  have oq : ∀ x : Nat, x ≠ q2 → H1[x]? = H[x]? := fun x hx => by rw [hH1]; simp [Array.getElem?_setIfInBounds, Ne.symm hx]
  have on : H1[q2]? = some (arrV (gc G 1) cap2 (fun j => .int (va_cpy bs g 0 0 k j))) := by rw [hH1]; simp [Array.getElem?_setIfInBounds, hl]
  have hz : H1.size = H.size := by rw [hH1]; simp
  obtain ⟨t, a1, b1⟩ := kk H1 _ ls h1 ⟨⟨h2.1, h2.2.1, h2.2.2.1.kept (oq _ ho.2), h2.2.2.2.kept (oq _ (Ne.symm hne))⟩, on⟩ ⟨by rw [hz]; exact h3.1, fun x g1 g2 => by
      rw [oq x (fun e => g2 (by rw [e]; exact ho.1))]
      exact h3.2.1 x g1 g2, fun x hx => by
      rcases List.mem_append.mp hx with h | h
      · exact h3.2.2 x h
      · obtain ⟨z, -, hz⟩ := List.mem_map.mp h
        rw [← hz]
        exact ho.1⟩ _ (by rw [hH1, ← hT]; rfl) X'
  exact ⟨t, step t a1, b1⟩
theorem FX.preI (hX : FX G own cc nL p s m args c) {H : Heap} {locs : List Loc} (h2 : I H) (h3 : va_S (gA G) s.heap H locs) (U : State) (hU : U.heap = H) (hW : s.WarmedH U.vm) : GI G I U := by
  have h9 := hX.s3 h3
  obtain ⟨-, -, -, -, -, hK, hL, hn, hV⟩ := hX
  refine ⟨by rw [hU]; exact h2, va_K.moved hW.alike hK, GL.warm hW ?_, by rw [hU]; exact Nat.le_trans hn h3.1, hV⟩
  rw [hU]
  exact hL.kept (fun a ha hA => h9.2.1 a ha hA)
theorem J_runP {H : Heap} {locs : List Loc} {ls : Array Slot} {st0 rest : List Value} {mc ms : Nat} {a : Array Value} {P : Option Value → Heap → Prop} (hr : va_Run p l e R s m args below meth c H locs cells slots mc ms (F0 m pc ls st0) rest (QP G P a) (gA G)) (hS : va_S (gA G) s.heap H locs) (hl : lv_has ls nL lc)
    (kk : ∀ v, J G p l e R s m args below meth c nL (cells + mc) (slots + ms) Q (P v) (pc + 3) lc (v.toList ++ rest)) : W p l e R s m args below meth c H locs cells slots Q (F0 m pc ls st0) := by
  intro T hT X
  obtain ⟨v9, st₀, t9, T', L, h0, X', hL, e1, e2, ⟨v, hv, hG, hz, hq⟩, st9⟩ := hr T hT X
  cases hv
  rw [h0] at hz hq
  have hS2 : va_S (gA G) s.heap T'.heap (locs ++ L) := ⟨Nat.le_trans hS.1 (by rw [e1]; exact hz), fun q h1 h2 => by rw [e1, hq q (Nat.lt_of_lt_of_le h1 hS.1) h2]; exact hS.2.1 q h1 h2, fun q h9 => by
      rcases List.mem_append.mp h9 with h | h
      · exact hS.2.2 q h
      · exact hL q h⟩
  obtain ⟨t2, a1, b1⟩ := kk v9 T'.heap (locs ++ L) ls hl (by rw [e1]; exact hG) hS2 T' rfl X'
  exact ⟨t2, st9 t2 a1, b1⟩
theorem J_callSP (hX : FX G own cc nL p s m args c) {y : MethodName} {cd : ByteArray} {mL n9 index mc ms : Nat} {ret : Option FieldType} {rm : Room} {P : Option Value → Heap → Prop} (As rest : List Value) (hM : CTP G l y cd mL ret rm mc ms As I P) (mi : MI y cd mL ret n9) (mv : Cond.static y ∈ WALL) (hw : Cond.methodLink own index y ∈ WALL) (hrm : rm.cells = mc ∧ rm.slots = ms ∧ rm.frames + 1 ≤ R.frames ∧ 8 + (mL + 11) + rm.locals ≤ R.locals) (hn : As.length = n9) (hst : st = As.reverse ++ rest) (hcat : (rest.map fun v => v.category).sum ≤ 8) (hf : cells + mc ≤ R.cells ∧ slots + ms ≤ R.slots)
    (hdg : decode cc pc = .ok (.invokestatic index, 3)) (ht : pc + 3 = t) (kk : ∀ v, J G p l e R s m args below meth c nL (cells + mc) (slots + ms) Q (P v) t lc (v.toList ++ rest)) : J G p l e R s m args below meth c nL cells slots Q I pc lc st := by
  subst ht
  intro H locs ls h1 h2 h3
  exact J_runP (va_runS (As := As) (rest := rest) ⟨hX.1, hX.2.1, hX.2.2.1, hX.2.2.2.1, hX.2.2.2.2.1⟩ hM ⟨cb_call hX mi hw hrm, hX.2.2.2.2.1 _ mv⟩ ⟨GI.blind G I _, fun U hU hW => ⟨rfl, hX.preI h2 h3 U hU hW⟩⟩ rfl hn h1.1 hst (lv_room hcat) hdg hf) h3 h1 kk
/-- a virtual call of the builder -/
theorem J_callVP (hX : FX G own cc nL p s m args c) {y : MethodName} {cd : ByteArray} {mL n9 index mc ms : Nat} {ret : Option FieldType} {rm : Room} {P : Option Value → Heap → Prop} (As rest : List Value) (hM : CTP G l y cd mL ret rm mc ms (.ref b :: As) I P) (mi : MI y cd mL ret n9) (hin : Cond.instanceMethod y ∈ WALL) (hsel : (Cond.selects RJ4 y y).before args s = true) (hIO : ∀ H, I H → ∃ fs, va_at (gD G) jcl (b, .inr (11, fs)) H) (hw : Cond.methodLink own index y ∈ WALL) (hrm : rm.cells = mc ∧ rm.slots = ms ∧ rm.frames + 1 ≤ R.frames ∧ 8 + (mL + 11) + rm.locals ≤ R.locals) (hn : As.length = n9) (hst : st = As.reverse ++ .ref b :: rest) (hcat : (rest.map fun v => v.category).sum ≤ 8) (hf : cells + mc ≤ R.cells ∧ slots + ms ≤ R.slots)
    (hdg : decode cc pc = .ok (.invokevirtual index, 3)) (ht : pc + 3 = t) (kk : ∀ v, J G p l e R s m args below meth c nL (cells + mc) (slots + ms) Q (P v) t lc (v.toList ++ rest)) : J G p l e R s m args below meth c nL cells slots Q I pc lc st := by
  subst ht
  intro H locs ls h1 h2 h3
  obtain ⟨fs, hat⟩ := hIO H h2
  exact J_runP (va_runV (C := RJ4) (As := As) (rest := rest) ⟨hX.1, hX.2.1, hX.2.2.1, hX.2.2.2.1, hX.2.2.2.2.1⟩ hM ⟨cb_call hX mi hw hrm, hX.2.2.2.2.1 _ hin, hsel⟩ ⟨GI.blind G I _, va_recv hX.2.2.2.2.2.1 (one_P hat) (ci := 11) (q0 := 0) cb11.1 rfl, fun U hU hW => ⟨rfl, hX.preI h2 h3 U hU hW⟩⟩ rfl hn h1.1 hst (lv_room hcat) hdg hf) h3 h1 kk
/-- super.y(..) of the builder -/
theorem J_callUP (hX : FX G RJ4 cc nL p s m args c) {y : MethodName} {cd : ByteArray} {mL n9 index mc ms : Nat} {ret : Option FieldType} {rm : Room} {P : Option Value → Heap → Prop} (As rest : List Value) (hM : CTP G l y cd mL ret rm mc ms (.ref b :: As) I P) (mi : MI y cd mL ret n9) (hin : Cond.instanceMethod y ∈ WALL) (hsm : Cond.sameMethod y.cls y.cls y.name y.desc ∈ WALL) (hsup : Cond.superclass RJ4 y.cls ∈ WALL) (hno : y.name ≠ "<init>") (hIO : ∀ H, I H → ∃ fs, va_at (gD G) jcl (b, .inr (11, fs)) H) (hw : Cond.methodLink RJ4 index y ∈ WALL) (hrm : rm.cells = mc ∧ rm.slots = ms ∧ rm.frames + 1 ≤ R.frames ∧ 8 + (mL + 11) + rm.locals ≤ R.locals) (hn : As.length = n9) (hst : st = As.reverse ++ .ref b :: rest) (hcat : (rest.map fun v => v.category).sum ≤ 8) (hf : cells + mc ≤ R.cells ∧ slots + ms ≤ R.slots)
    (hdg : decode cc pc = .ok (.invokespecial index, 3)) (ht : pc + 3 = t) (kk : ∀ v, J G p l e R s m args below meth c nL (cells + mc) (slots + ms) Q (P v) t lc (v.toList ++ rest)) : J G p l e R s m args below meth c nL cells slots Q I pc lc st := by
  subst ht
  intro H locs ls h1 h2 h3
  obtain ⟨fs, hat⟩ := hIO H h2
  have hgood : GoodIn WALL (va_wsSU RJ4 index y (wsY y cd mL ret)) := fun w9 h9 => by
    rcases List.mem_append.mp h9 with h | h
    · rcases List.mem_cons.mp h with rfl | h
      · exact WALL_good _ hw
      rcases List.mem_cons.mp h with rfl | h
      · exact WALL_good _ hsm
      rcases List.mem_cons.mp h with rfl | h
      · exact WALL_good _ hsup
      rcases List.mem_cons.mp h with rfl | h
      · exact WALL_good _ hin
      rcases List.mem_cons.mp h with rfl | h
      · exact WALL_good _ mi.2.1
      · cases h
    · exact cb_good mi.1 w9 h
  exact J_runP (va_runSU (C := RJ4) (As := As) (rest := rest) (hX.2.2.2.2.2.1.1 11 _ cb11.1).2 ⟨hX.1, hX.2.1, hX.2.2.1, hX.2.2.2.1, hX.2.2.2.2.1⟩ hM (va_cwSU n9 hX.2.2.2.2.1 hgood rfl hrm.1 hrm.2.1 ⟨hno, mi.2.2.2.2.2⟩ hrm.2.2) ⟨GI.blind G I _, va_recv hX.2.2.2.2.2.1 (one_P hat) (ci := 11) (q0 := 0) cb11.1 rfl, fun U hU hW => ⟨rfl, hX.preI h2 h3 U hU hW⟩⟩ rfl hn h1.1 hst (lv_room hcat) hdg hf) h3 h1 kk
-- ends
theorem J_iretP (hX : FX G own cc nL p s m args c) {x : Int32} {P : Option Value → Heap → Prop} (hr : meth.sig.returnType = some .int) (hlocks : meth.locks = false) (hP : ∀ H, I H → P (some (.int x)) H) (hdg : decode cc pc = .ok (.ireturn, 1)) : J G p l e R s m args below meth c nL cells slots (MQ below (QP G P) args s cells slots (gA G)) I pc lc [.int x] := fun H locs ls h1 h2 h3 =>
  W.iret hX.1 hX.2.1 hr (fun t ht _ => ⟨_, rfl, by rw [ht]; exact hP H h2, h3.F ht⟩) h3.2.2 hdg hlocks
theorem J_zretP (hX : FX G own cc nL p s m args c) {b : Bool} {P : Option Value → Heap → Prop} (hr : meth.sig.returnType = some .boolean) (hlocks : meth.locks = false) (hP : ∀ H, I H → P (some (.int (bI b))) H) (hdg : decode cc pc = .ok (.ireturn, 1)) : J G p l e R s m args below meth c nL cells slots (MQ below (QP G P) args s cells slots (gA G)) I pc lc [.int (bI b)] := fun H locs ls h1 h2 h3 =>
  W.zret hX.1 hX.2.1 hr (bI_nar b) (fun t ht _ => ⟨_, rfl, by rw [ht]; exact hP H h2, h3.F ht⟩) h3.2.2 hdg hlocks
theorem J_nretP (hX : FX G own cc nL p s m args c) {x : Int32} {ty : FieldType} {P : Option Value → Heap → Prop} (hr : meth.sig.returnType = some ty) (hlocks : meth.locks = false) (hn : narrow ty (.int x) = .int x) (hP : ∀ H, I H → P (some (.int x)) H) (hdg : decode cc pc = .ok (.ireturn, 1)) : J G p l e R s m args below meth c nL cells slots (MQ below (QP G P) args s cells slots (gA G)) I pc lc [.int x] := fun H locs ls h1 h2 h3 =>
  W.zret hX.1 hX.2.1 hr hn (fun t ht _ => ⟨_, rfl, by rw [ht]; exact hP H h2, h3.F ht⟩) h3.2.2 hdg hlocks
theorem J_vretP (hX : FX G own cc nL p s m args c) {P : Option Value → Heap → Prop} (hr : meth.sig.returnType = none) (hlocks : meth.locks = false) (hP : ∀ H, I H → P none H) (hdg : decode cc pc = .ok (.return_, 1)) : J G p l e R s m args below meth c nL cells slots (MQ below (QP G P) args s cells slots (gA G)) I pc lc [] := fun H locs ls h1 h2 h3 =>
  W.vret hX.1 hX.2.1 hr (fun t ht _ => ⟨_, rfl, by rw [ht]; exact hP H h2, h3.F ht⟩) h3.2.2 hdg hlocks
theorem J_aretP (hX : FX G own cc nL p s m args c) {a : Nat} {ty : FieldType} {P : Option Value → Heap → Prop} (hr : meth.sig.returnType = some ty) (hty : (∃ C, ty = .object C) ∨ ∃ z, ty = .array z) (hlocks : meth.locks = false) (hP : ∀ H, I H → P (some (.ref a)) H) (hdg : decode cc pc = .ok (.areturn, 1)) : J G p l e R s m args below meth c nL cells slots (MQ below (QP G P) args s cells slots (gA G)) I pc lc [.ref a] := fun H locs ls h1 h2 h3 =>
  W.aret hX.1 hX.2.1 hr hty (Or.inr ⟨a, rfl⟩) (fun t ht _ => ⟨_, rfl, by rw [ht]; exact hP H h2, h3.F ht⟩) h3.2.2 hdg hlocks
theorem FX.selp (hX : FX G own cc nL p s m args c) {y : MethodName} (h : y ∈ selL) : (Cond.selects RJ4 y y).before args s = true := by
  obtain ⟨-, -, -, -, -, -, -, -, -, -, -, -, -, h1⟩ := hX.G2
  exact va_Nw.use rfl (h1 y h)
theorem J_sbLenI (hX : FX G own cc nL p s m args c) (hI : ∀ H, I H → SAr G q cap bs H) {v : Int32} (hv : Int32.ofNat cap = v) (hdg : decode cc pc = .ok (.arraylength, 1)) (ht : pc + 1 = t) (kk : J G p l e R s m args below meth c nL cells slots Q I t lc (.int v :: st)) : J G p l e R s m args below meth c nL cells slots Q I pc lc (.ref q :: st) := by
  subst ht
  intro H locs ls h1 h2 h3
  exact va_alen (D := gD G) (cl := jcl) (tys := jtys G) hX.1 hX.2.1 hX.2.2.2.2.2.1 (one_P (hI H h2)) 0 1 rfl rfl hv hdg (kk H locs ls h1 h2 h3)
end SB
theorem upd_eq {f : Nat → Int32} {k : Nat} {x : Int32} : upd f k x k = x := by simp [upd]
theorem upd_ne {f : Nat → Int32} {k i : Nat} {x : Int32} (h : i ≠ k) : upd f k x i = f i := by simp [upd, h]
theorem fit_b (y : Int8) : fits .byte (.int y.toInt32) = true := by
  have h1 : -128 ≤ y.toInt := Int8.le_toInt y
  have h2 : y.toInt < 128 := Int8.toInt_lt y
  have t := Int8.toInt_toInt32 y
  have e1 : (-128 : Int32).toInt = -128 := rfl
  have e2 : (127 : Int32).toInt = 127 := rfl
  simp only [fits, Bool.and_eq_true, decide_eq_true_eq, Int32.le_iff_toInt_le, t, e1, e2]
  omega
section IZ
variable {G : GG} {own : String} {cc : ByteArray} {p : Program} {l : Launch} {e : Env} {R : Room} {s : State} {m : MethodId} {args : Array Value} {below : List Frame} {meth : Method} {c : Code} {nL cells slots : Nat} {Q : State → Prop} {pc t : Nat} {lc : List (Nat × Value)} {st : List Value}
theorem J_ifZ_eqI {I : Heap → Prop} (hX : FX G own cc nL p s m args c) {b : Bool} {off : Int} {tgt : Nat} (hdg : decode cc pc = .ok (.ifCond .eq off, 3)) (hg : (pc : Int) + off = (tgt : Int)) (ht : pc + 3 = t) (kt : b = false → J G p l e R s m args below meth c nL cells slots Q I tgt lc st) (kf : b = true → J G p l e R s m args below meth c nL cells slots Q I t lc st) : J G p l e R s m args below meth c nL cells slots Q I pc lc (.int (bI b) :: st) := J_ifZ_eq hX hdg hg ht kt kf
end IZ
theorem SE.ob {G : GG} {b : Nat} {q cap : Nat} {ml n : Int32} {bs : Nat → Int32} : ∀ H, SE G b q cap ml n bs H → ∃ fs, va_at (gD G) jcl (b, .inr (11, fs)) H := fun _ h => ⟨_, h.2.2.1⟩
def ncap (cap k : Nat) : Nat := if k ≤ cap then cap else cap + (if k - cap < cap + 2 then cap + 2 else k - cap)
abbrev rb1 : Room := { frames := 1, cells := 0, slots := 0, locals := 60 }
abbrev rb2 : Room := { frames := 2, cells := 0, slots := 0, locals := 120 }
abbrev rbc : Room := { frames := 1, cells := 1, slots := 1040, locals := 100 }
abbrev rbe : Room := { frames := 3, cells := 1, slots := 1040, locals := 160 }
abbrev rba : Room := { frames := 4, cells := 1, slots := 1040, locals := 220 }
abbrev rbt : Room := { frames := 5, cells := 1, slots := 1040, locals := 280 }
theorem ct_l1b {G : GG} {l : Launch} {b : Nat} {q cap : Nat} {ml n : Int32} {bs : Nat → Int32} : CTP G l yJ5_isLatin1_aae02 cJ5_isLatin1_aae02 1 (some .boolean) rmO 0 0 [.ref b] (SE G b q cap ml n bs) (fun v H => v = some (.int (bI true)) ∧ SE G b q cap ml n bs H) := by
  refine CTP.of miJ5_isLatin1_aae02 [(0, .ref b)] rfl (Nat.le_of_ble_eq_true rfl) ?_
  intro p e s m args below meth c hX hR hlk
  have hX : FX G RJ5 cJ5_isLatin1_aae02 1 p s m args c := hX
  refine J_gst hX hX.G2.1 q_539 dJ5_isLatin1_aae02_0 (t := 3) rfl ?_
  refine J_if_eq (tgt := 17) hX dJ5_isLatin1_aae02_3 (by decide) (t := 6) rfl (fun z => absurd z (by decide)) (fun z => ?_)
  refine J_aload_n hX dJ5_isLatin1_aae02_6 0 rfl (t := 7) rfl ?_
  refine J_sbGet hX 1 (by decide) q_549 rfl dJ5_isLatin1_aae02_7 (t := 10) rfl ?_
  refine J_if_ne (tgt := 17) hX dJ5_isLatin1_aae02_10 (by decide) (t := 13) rfl (fun z => absurd rfl z) (fun z => ?_)
  refine J_iconst (v := 1) hX dJ5_isLatin1_aae02_13 (by decide) (t := 14) rfl ?_
  refine J_goto (tgt := 18) hX dJ5_isLatin1_aae02_14 (by decide) ?_
  exact J_zretP (b := true) hX hR hlk (fun H h => ⟨rfl, h⟩) dJ5_isLatin1_aae02_18
theorem ct_nln {G : GG} {l : Launch} {I : Heap → Prop} {a b d : Nat} (ha : a + b + d < 2 ^ 20) (h0 : 0 < a + (if b < d then d else b)) : CTP G l yJ8_newLength_cabcc cJ8_newLength_cabcc 4 (some .int) rb1 0 0 [.int (nI a), .int (nI b), .int (nI d)] I (fun v H => v = some (.int (nI (a + if b < d then d else b))) ∧ I H) := by
  refine CTP.of miJ8_newLength_cabcc [(0, .int (nI a)), (1, .int (nI b)), (2, .int (nI d))] rfl (Nat.le_of_ble_eq_true rfl) ?_
  intro p e s m args below meth c hX hR hlk
  have hX : FX G "jdk/internal/util/ArraysSupport" cJ8_newLength_cabcc 4 p s m args c := hX
  refine J_iload_n hX dJ8_newLength_cabcc_0 0 rfl (t := 1) rfl ?_
  refine J_iload_n hX dJ8_newLength_cabcc_1 1 rfl (t := 2) rfl ?_
  refine J_iload_n hX dJ8_newLength_cabcc_2 2 rfl (t := 3) rfl ?_
  refine J_max hX ⟨q_1698, q_1192, q_162, q_1193⟩ ⟨Nat.le_of_ble_eq_true rfl, Nat.le_of_ble_eq_true rfl, Nat.le_of_ble_eq_true rfl, Nat.le_of_ble_eq_true rfl⟩ dJ8_newLength_cabcc_3 (t := 6) rfl ?_
  have e1 : (if nI b < nI d then nI d else nI b) = nI (if b < d then d else b) := by
    by_cases h : b < d
    · rw [if_pos h, if_pos (nI_lt h (by omega))]
    · rw [if_neg h, if_neg (nI_nlt (by omega) (by omega))]
  refine J_val e1 ?_
  refine J_iadd hX dJ8_newLength_cabcc_6 (t := 7) rfl ?_
  refine J_val (nI_add _ _) ?_
  have hlt : a + (if b < d then d else b) < 2 ^ 20 := by split <;> omega
  generalize a + (if b < d then d else b) = k at h0 hlt ⊢
  refine J_istore_n (lc2 := [(3, .int (nI k)), (0, .int (nI a)), (1, .int (nI b)), (2, .int (nI d))]) hX dJ8_newLength_cabcc_7 rfl (Nat.le_of_ble_eq_true rfl) rfl (t := 8) rfl ?_
  refine J_iconst (v := 0) hX dJ8_newLength_cabcc_8 (by decide) (t := 9) rfl ?_
  refine J_iload_n hX dJ8_newLength_cabcc_9 0 rfl (t := 10) rfl ?_
  refine J_icmp_ge (tgt := 21) hX dJ8_newLength_cabcc_10 (by decide) (t := 13) rfl (fun z => absurd z (nI_nle h0 (by omega))) (fun z => ?_)
  refine J_iload_n hX dJ8_newLength_cabcc_13 0 rfl (t := 14) rfl ?_
  refine J_ldc (v := 2147483639) hX dJ8_newLength_cabcc_14 q_1699 (t := 16) rfl ?_
  refine J_icmp_gt (tgt := 21) hX dJ8_newLength_cabcc_16 (by decide) (t := 19) rfl (fun z => absurd z (nI_nlt (a := 2147483639) (by omega) (by decide))) (fun z => ?_)
  refine J_iload_n hX dJ8_newLength_cabcc_19 0 rfl (t := 20) rfl ?_
  exact J_iretP hX hR hlk (fun H h => ⟨rfl, h⟩) dJ8_newLength_cabcc_20
theorem ct_ncp {G : GG} {l : Launch} {b : Nat} {q cap k : Nat} {ml n : Int32} {bs : Nat → Int32} (hk : cap < k) (hk2 : k ≤ 520) : CTP G l yJ5_newCapacity_0f7a4 cJ5_newCapacity_0f7a4 6 (some .int) rb2 0 0 [.ref b, .int (nI k)] (SE G b q cap ml n bs) (fun v H => v = some (.int (nI (ncap cap k))) ∧ SE G b q cap ml n bs H) := by
  refine CTP.of miJ5_newCapacity_0f7a4 [(0, .ref b), (1, .int (nI k))] rfl (Nat.le_of_ble_eq_true rfl) ?_
  intro p e s m args below meth c hX hR hlk
  have hX : FX G RJ5 cJ5_newCapacity_0f7a4 6 p s m args c := hX
  refine J_aload_n hX dJ5_newCapacity_0f7a4_0 0 rfl (t := 1) rfl ?_
  refine J_sbGet hX 0 (by decide) q_548 rfl dJ5_newCapacity_0f7a4_1 (t := 4) rfl ?_
  refine J_sbLen hX rfl dJ5_newCapacity_0f7a4_4 (t := 5) rfl ?_
  refine J_istore_n (lc2 := [(2, .int (nI cap)), (0, .ref b), (1, .int (nI k))]) hX dJ5_newCapacity_0f7a4_5 rfl (Nat.le_of_ble_eq_true rfl) rfl (t := 6) rfl ?_
  refine J_iload_n hX dJ5_newCapacity_0f7a4_6 2 rfl (t := 7) rfl ?_
  refine J_aload_n hX dJ5_newCapacity_0f7a4_7 1 rfl (t := 8) rfl ?_
  refine J_sbGet hX 1 (by decide) q_549 rfl dJ5_newCapacity_0f7a4_8 (t := 11) rfl ?_
  refine J_ishl hX dJ5_newCapacity_0f7a4_11 (t := 12) rfl ?_
  refine J_val (sb_shl0 _) ?_
  refine J_istore_n (lc2 := [(3, .int (nI k)), (2, .int (nI cap)), (0, .ref b), (1, .int (nI k))]) hX dJ5_newCapacity_0f7a4_12 rfl (Nat.le_of_ble_eq_true rfl) rfl (t := 13) rfl ?_
  refine J_iload_n hX dJ5_newCapacity_0f7a4_13 0 rfl (t := 14) rfl ?_
  refine J_iload_n hX dJ5_newCapacity_0f7a4_14 1 rfl (t := 15) rfl ?_
  refine J_isub hX dJ5_newCapacity_0f7a4_15 (t := 16) rfl ?_
  refine J_val (show nI k - nI cap = nI (k - cap) from pk_sub (by omega)) ?_
  refine J_istore (lc2 := [(4, .int (nI (k - cap))), (3, .int (nI k)), (2, .int (nI cap)), (0, .ref b), (1, .int (nI k))]) hX dJ5_newCapacity_0f7a4_16 (Nat.le_of_ble_eq_true rfl) rfl (t := 18) rfl ?_
  refine J_iload_n hX dJ5_newCapacity_0f7a4_18 2 rfl (t := 19) rfl ?_
  refine J_iload hX dJ5_newCapacity_0f7a4_19 0 rfl (t := 21) rfl ?_
  refine J_iload_n hX dJ5_newCapacity_0f7a4_21 2 rfl (t := 22) rfl ?_
  refine J_iconst (v := 2) hX dJ5_newCapacity_0f7a4_22 (by decide) (t := 23) rfl ?_
  refine J_aload_n hX dJ5_newCapacity_0f7a4_23 3 rfl (t := 24) rfl ?_
  refine J_sbGet hX 1 (by decide) q_549 rfl dJ5_newCapacity_0f7a4_24 (t := 27) rfl ?_
  refine J_ishl hX dJ5_newCapacity_0f7a4_27 (t := 28) rfl ?_
  refine J_val (sb_shl0 _) ?_
  refine J_iadd hX dJ5_newCapacity_0f7a4_28 (t := 29) rfl ?_
  refine J_val (show nI cap + 2 = nI (cap + 2) from nI_add cap 2) ?_
  refine J_callSP hX [.int (nI cap), .int (nI (k - cap)), .int (nI (cap + 2))] [] (ct_nln (by omega) (by split <;> omega)) miJ8_newLength_cabcc q_1696 q_1695 ⟨rfl, rfl, Nat.le_of_ble_eq_true rfl, Nat.le_of_ble_eq_true rfl⟩ rfl rfl (Nat.le_of_ble_eq_true rfl) ⟨Nat.le_of_ble_eq_true rfl, Nat.le_of_ble_eq_true rfl⟩ dJ5_newCapacity_0f7a4_29 (t := 32) rfl (fun v => J_pure fun hv => ?_)
  subst hv
  have en : cap + (if k - cap < cap + 2 then cap + 2 else k - cap) = ncap cap k := by unfold ncap; rw [if_neg (show ¬ k ≤ cap by omega)]
  rw [en]
  have hsm : ncap cap k < 1100 := by rw [← en]; split <;> omega
  refine J_istore (lc2 := [(5, .int (nI (ncap cap k))), (4, .int (nI (k - cap))), (3, .int (nI k)), (2, .int (nI cap)), (0, .ref b), (1, .int (nI k))]) hX dJ5_newCapacity_0f7a4_32 (Nat.le_of_ble_eq_true rfl) rfl (t := 34) rfl ?_
  refine J_iload hX dJ5_newCapacity_0f7a4_34 0 rfl (t := 36) rfl ?_
  refine J_ldc (v := 2147483647) hX dJ5_newCapacity_0f7a4_36 q_1703 (t := 38) rfl ?_
  refine J_icmp_ne (tgt := 51) hX dJ5_newCapacity_0f7a4_38 (by decide) (t := 41) rfl (fun z => ?_) (fun z => absurd ((nI_eq (b := 2147483647) (by omega) (by decide)).mp z) (by omega))
  refine J_iload hX dJ5_newCapacity_0f7a4_51 0 rfl (t := 53) rfl ?_
  refine J_aload_n hX dJ5_newCapacity_0f7a4_53 4 rfl (t := 54) rfl ?_
  refine J_sbGet hX 1 (by decide) q_549 rfl dJ5_newCapacity_0f7a4_54 (t := 57) rfl ?_
  refine J_ishr hX dJ5_newCapacity_0f7a4_57 (t := 58) rfl ?_
  refine J_val (sb_shr0 _) ?_
  exact J_iretP hX hR hlk (fun H h => ⟨rfl, h⟩) dJ5_newCapacity_0f7a4_58
theorem ct_cpo {G : GG} {l : Launch} {b : Nat} {q cap k : Nat} {ml n : Int32} {bs : Nat → Int32} (hk : cap < k) (hk2 : k ≤ 1040) (hf : sb_Fit bs) : CTP G l yJ7_copyOf_9075b cJ7_copyOf_9075b 3 (some (.array .byte)) rbc 1 1040 [.ref q, .int (nI k)] (SE G b q cap ml n bs) (fun v H => ∃ q2, v = some (.ref q2) ∧ OKN G b q2 ∧ (SE G b q cap ml n bs H ∧ SAr G q2 k (va_cpy bs (fun _ => 0) 0 0 cap) H)) := by
  refine CTP.of miJ7_copyOf_9075b [(0, .ref q), (1, .int (nI k))] rfl (Nat.le_of_ble_eq_true rfl) ?_
  intro p e s m args below meth c hX hR hlk
  have hX : FX G "java/util/Arrays" cJ7_copyOf_9075b 3 p s m args c := hX
  refine J_iload_n hX dJ7_copyOf_9075b_0 1 rfl (t := 1) rfl ?_
  refine J_aload_n hX dJ7_copyOf_9075b_1 0 rfl (t := 2) rfl ?_
  refine J_sbLen hX rfl dJ7_copyOf_9075b_2 (t := 3) rfl ?_
  refine J_icmp_ne (tgt := 14) hX dJ7_copyOf_9075b_3 (by decide) (t := 6) rfl (fun z => ?_) (fun z => absurd ((nI_eq (by omega) (by omega)).mp z) (by omega))
  refine J_iload_n hX dJ7_copyOf_9075b_14 1 rfl (t := 15) rfl ?_
  refine J_newB hX (nI_pos (by omega)) (nI_clamp (by omega)) (by show k * 1 ≤ _; omega) q_215 ⟨Nat.le_of_ble_eq_true rfl, by show 0 + k ≤ 1040; omega⟩ dJ7_copyOf_9075b_15 (t := 17) rfl (fun q2 h1 h2 => ?_)
  refine J_astore_n (lc2 := [(2, .ref q2), (0, .ref q), (1, .int (nI k))]) hX dJ7_copyOf_9075b_17 rfl (Nat.le_of_ble_eq_true rfl) rfl (t := 18) rfl ?_
  refine J_aload_n hX dJ7_copyOf_9075b_18 1 rfl (t := 19) rfl ?_
  refine J_iconst (v := 0) hX dJ7_copyOf_9075b_19 (by decide) (t := 20) rfl ?_
  refine J_aload_n hX dJ7_copyOf_9075b_20 0 rfl (t := 21) rfl ?_
  refine J_iconst (v := 0) hX dJ7_copyOf_9075b_21 (by decide) (t := 22) rfl ?_
  refine J_aload_n hX dJ7_copyOf_9075b_22 1 rfl (t := 23) rfl ?_
  refine J_sbLenI hX (fun H h => h.1.2.2.2) rfl dJ7_copyOf_9075b_23 (t := 24) rfl ?_
  refine J_iload_n hX dJ7_copyOf_9075b_24 2 rfl (t := 25) rfl ?_
  refine J_min hX ⟨q_1714, q_732, q_162, q_733⟩ ⟨Nat.le_of_ble_eq_true rfl, Nat.le_of_ble_eq_true rfl, Nat.le_of_ble_eq_true rfl, by show 0 + k ≤ 1040; omega⟩ dJ7_copyOf_9075b_25 (t := 28) rfl ?_
  refine J_val (show (if nI k < Int32.ofNat cap then nI k else Int32.ofNat cap) = nI cap from if_neg (nI_nlt (by omega) (by omega))) ?_
  refine J_bcopy hX h1 h2 rfl (Nat.le_refl _) (by omega) (by omega) hf ⟨q_1715, q_1717, q_1716, q_168⟩ ⟨Nat.le_of_ble_eq_true rfl, Nat.le_of_ble_eq_true rfl⟩ dJ7_copyOf_9075b_28 (t := 31) rfl ?_
  refine J_aload_n hX dJ7_copyOf_9075b_31 0 rfl (t := 32) rfl ?_
  refine J_wid (k := 1) (n := 1040) (Nat.le_refl _) (by show 0 + k ≤ 1040; omega) ?_
  exact J_aretP hX hR (Or.inr ⟨_, rfl⟩) hlk (fun H h => ⟨q2, rfl, h1, h⟩) dJ7_copyOf_9075b_32
theorem ct_ens {G : GG} {l : Launch} {b : Nat} {q cap k : Nat} {ml n : Int32} {bs : Nat → Int32} (hc : cap ≤ 1040) (hk2 : k ≤ 520) (hf : sb_Fit bs) : CTP G l yJ5_ensureCapacityInternal_d00df cJ5_ensureCapacityInternal_d00df 3 none rbe 1 1040 [.ref b, .int (nI k)] (SE G b q cap ml n bs) (fun v H => v = none ∧ ∃ q2, ∃ bs2, (sb_Fit bs2 ∧ ∀ i, i < cap → bs2 i = bs i) ∧ SE G b q2 (ncap cap k) ml n bs2 H) := by
  refine CTP.of miJ5_ensureCapacityInternal_d00df [(0, .ref b), (1, .int (nI k))] rfl (Nat.le_of_ble_eq_true rfl) ?_
  intro p e s m args below meth c hX hR hlk
  have hX : FX G RJ5 cJ5_ensureCapacityInternal_d00df 3 p s m args c := hX
  refine J_aload_n hX dJ5_ensureCapacityInternal_d00df_0 0 rfl (t := 1) rfl ?_
  refine J_sbGet hX 0 (by decide) q_548 rfl dJ5_ensureCapacityInternal_d00df_1 (t := 4) rfl ?_
  refine J_sbLen hX rfl dJ5_ensureCapacityInternal_d00df_4 (t := 5) rfl ?_
  refine J_aload_n hX dJ5_ensureCapacityInternal_d00df_5 0 rfl (t := 6) rfl ?_
  refine J_sbGet hX 1 (by decide) q_549 rfl dJ5_ensureCapacityInternal_d00df_6 (t := 9) rfl ?_
  refine J_ishr hX dJ5_ensureCapacityInternal_d00df_9 (t := 10) rfl ?_
  refine J_val (sb_shr0 _) ?_
  refine J_istore_n (lc2 := [(2, .int (nI cap)), (0, .ref b), (1, .int (nI k))]) hX dJ5_ensureCapacityInternal_d00df_10 rfl (Nat.le_of_ble_eq_true rfl) rfl (t := 11) rfl ?_
  refine J_iload_n hX dJ5_ensureCapacityInternal_d00df_11 2 rfl (t := 12) rfl ?_
  refine J_iload_n hX dJ5_ensureCapacityInternal_d00df_12 0 rfl (t := 13) rfl ?_
  refine J_isub hX dJ5_ensureCapacityInternal_d00df_13 (t := 14) rfl ?_
  have e1 : (nI k - nI cap).toInt = (k : Int) - cap := pk_sub_toInt (by omega) (by omega)
  refine J_if_le (tgt := 38) hX dJ5_ensureCapacityInternal_d00df_14 (by decide) (t := 17) rfl (fun z => ?_) (fun z => ?_)
  · have h : k ≤ cap := by rw [Int32.le_iff_toInt_le, e1, Int32.toInt_zero] at z; omega
    refine J_wid (k := 1) (n := 1040) (Nat.le_of_ble_eq_true rfl) (Nat.le_of_ble_eq_true rfl) ?_
    refine J_vretP hX hR hlk (fun H h9 => ⟨rfl, q, bs, ⟨hf, fun _ _ => rfl⟩, ?_⟩) dJ5_ensureCapacityInternal_d00df_38
    have en : ncap cap k = cap := by unfold ncap; rw [if_pos h]
    rw [en]
    exact h9
  · have h : cap < k := by rw [Int32.le_iff_toInt_le, e1, Int32.toInt_zero] at z; omega
    have en : ncap cap k = cap + (if k - cap < cap + 2 then cap + 2 else k - cap) := by unfold ncap; rw [if_neg (show ¬ k ≤ cap by omega)]
    have hb : cap < ncap cap k ∧ ncap cap k ≤ 1040 := by rw [en]; constructor <;> split <;> omega
    refine J_aload_n hX dJ5_ensureCapacityInternal_d00df_17 1 rfl (t := 18) rfl ?_
    refine J_aload_n hX dJ5_ensureCapacityInternal_d00df_18 1 rfl (t := 19) rfl ?_
    refine J_sbGet hX 0 (by decide) q_548 rfl dJ5_ensureCapacityInternal_d00df_19 (t := 22) rfl ?_
    refine J_aload_n hX dJ5_ensureCapacityInternal_d00df_22 1 rfl (t := 23) rfl ?_
    refine J_iload_n hX dJ5_ensureCapacityInternal_d00df_23 2 rfl (t := 24) rfl ?_
    refine J_callVP hX [.int (nI k)] [.ref q, .ref b] (ct_ncp h hk2) miJ5_newCapacity_0f7a4 q_1693 (hX.selp (by simp [selL])) SE.ob q_1691 ⟨rfl, rfl, Nat.le_of_ble_eq_true rfl, Nat.le_of_ble_eq_true rfl⟩ rfl rfl (Nat.le_of_ble_eq_true rfl) ⟨Nat.le_of_ble_eq_true rfl, Nat.le_of_ble_eq_true rfl⟩ dJ5_ensureCapacityInternal_d00df_24 (t := 27) rfl (fun v => J_pure fun hv => ?_)
    subst hv
    refine J_aload_n (t := 28) hX dJ5_ensureCapacityInternal_d00df_27 1 rfl rfl ?_
    refine J_sbGet hX 1 (by decide) q_549 rfl dJ5_ensureCapacityInternal_d00df_28 (t := 31) rfl ?_
    refine J_ishl hX dJ5_ensureCapacityInternal_d00df_31 (t := 32) rfl ?_
    refine J_val (sb_shl0 _) ?_
    refine J_callSP hX [.ref q, .int (nI (ncap cap k))] [.ref b] (ct_cpo hb.1 hb.2 hf) miJ7_copyOf_9075b q_1705 q_1704 ⟨rfl, rfl, Nat.le_of_ble_eq_true rfl, Nat.le_of_ble_eq_true rfl⟩ rfl rfl (Nat.le_of_ble_eq_true rfl) ⟨Nat.le_of_ble_eq_true rfl, Nat.le_of_ble_eq_true rfl⟩ dJ5_ensureCapacityInternal_d00df_32 (t := 35) rfl (fun v => J_exE fun q2 => J_pure fun hv => J_pure fun hq => ?_)
    subst hv
    refine J_sbPutV hX hq q_548 dJ5_ensureCapacityInternal_d00df_35 (t := 38) rfl ?_
    exact J_vretP hX hR hlk (fun H h9 => ⟨rfl, q2, _, ⟨sb_fitC hf sb_fit0, fun i hi => sb_cpy0 hi⟩, h9⟩) dJ5_ensureCapacityInternal_d00df_38
theorem ct_ce {G : GG} {l : Launch} {I : Heap → Prop} {x : Int32} (hx : ¬ 255 < x) : CTP G l yJ1_canEncode_fc78d cJ1_canEncode_fc78d 1 (some .boolean) rmO 0 0 [.int x] I (fun v H => v = some (.int (bI true)) ∧ I H) := by
  refine CTP.of miJ1_canEncode_fc78d [(0, .int x)] rfl (Nat.le_of_ble_eq_true rfl) ?_
  intro p e s m args below meth c hX hR hlk
  refine J_iload_n hX dJ1_canEncode_fc78d_0 0 rfl (t := 1) rfl ?_
  refine J_sipush (v := 255) hX dJ1_canEncode_fc78d_1 (by decide) (t := 4) rfl ?_
  refine J_icmp_gt (tgt := 11) hX dJ1_canEncode_fc78d_4 (by decide) (t := 7) rfl (fun z => absurd z hx) (fun z => ?_)
  refine J_iconst (v := 1) hX dJ1_canEncode_fc78d_7 (by decide) (t := 8) rfl ?_
  refine J_goto (tgt := 12) hX dJ1_canEncode_fc78d_8 (by decide) ?_
  exact J_zretP (b := true) hX hR hlk (fun H h => ⟨rfl, h⟩) dJ1_canEncode_fc78d_12
/-- the builder's new bytes: the old ones, one more -/
def Pap (G : GG) (b : Nat) (cap : Nat) (ml : Int32) (a : Nat) (bs : Nat → Int32) (x : Int32) (H : Heap) : Prop := ∃ q2, ∃ bs2, (sb_Fit bs2 ∧ (∀ i, i < a → bs2 i = bs i) ∧ bs2 a = x.toInt8.toInt32.toInt8.toInt32) ∧ SE G b q2 (ncap cap (a + 1)) ml (nI (a + 1)) bs2 H
theorem ncap_le (cap k : Nat) : k ≤ ncap cap k ∧ cap ≤ ncap cap k := by
  unfold ncap
  split
  · omega
  · split <;> omega
theorem ct_ap5 {G : GG} {l : Launch} {b : Nat} {q cap a : Nat} {ml x : Int32} {bs : Nat → Int32} (hc : cap ≤ 1040) (ha : a < 520) (hac : a ≤ cap) (hx : ¬ 255 < x) (hf : sb_Fit bs) : CTP G l yJ5_append_3fe6f cJ5_append_3fe6f 2 (some (.object RJ5)) rba 1 1040 [.ref b, .int x] (SE G b q cap ml (nI a) bs) (fun v H => v = some (.ref b) ∧ Pap G b cap ml a bs x H) := by
  refine CTP.of miJ5_append_3fe6f [(0, .ref b), (1, .int x)] rfl (Nat.le_of_ble_eq_true rfl) ?_
  intro p e s m args below meth c hX hR hlk
  have hX : FX G RJ5 cJ5_append_3fe6f 2 p s m args c := hX
  refine J_aload_n hX dJ5_append_3fe6f_0 0 rfl (t := 1) rfl ?_
  refine J_aload_n hX dJ5_append_3fe6f_1 0 rfl (t := 2) rfl ?_
  refine J_sbGet hX 3 (by decide) q_552 rfl dJ5_append_3fe6f_2 (t := 5) rfl ?_
  refine J_iconst (v := 1) hX dJ5_append_3fe6f_5 (by decide) (t := 6) rfl ?_
  refine J_iadd hX dJ5_append_3fe6f_6 (t := 7) rfl ?_
  refine J_val (nI_1 a) ?_
  refine J_callVP hX [.int (nI (a + 1))] [] (ct_ens hc (by omega) hf) miJ5_ensureCapacityInternal_d00df q_1689 (hX.selp (by simp [selL])) SE.ob q_1687 ⟨rfl, rfl, Nat.le_of_ble_eq_true rfl, Nat.le_of_ble_eq_true rfl⟩ rfl rfl (Nat.le_of_ble_eq_true rfl) ⟨Nat.le_of_ble_eq_true rfl, Nat.le_of_ble_eq_true rfl⟩ dJ5_append_3fe6f_7 (t := 10) rfl (fun v => J_pure fun hv => J_exE fun q2 => J_exE fun bs2 => J_pure fun hb => ?_)
  subst hv
  refine J_aload_n hX dJ5_append_3fe6f_10 0 rfl (t := 11) rfl ?_
  refine J_callVP hX [] [] ct_l1b miJ5_isLatin1_aae02 q_1719 (hX.2.2.2.2.1 _ q_1721) SE.ob q_1718 ⟨rfl, rfl, Nat.le_of_ble_eq_true rfl, Nat.le_of_ble_eq_true rfl⟩ rfl rfl (Nat.le_of_ble_eq_true rfl) ⟨Nat.le_of_ble_eq_true rfl, Nat.le_of_ble_eq_true rfl⟩ dJ5_append_3fe6f_11 (t := 14) rfl (fun v => J_pure fun hv => ?_)
  subst hv
  refine J_ifZ_eqI (b := true) (tgt := 45) hX dJ5_append_3fe6f_14 (by decide) (t := 17) rfl (fun z => absurd z (by decide)) (fun z => ?_)
  refine J_iload_n hX dJ5_append_3fe6f_17 1 rfl (t := 18) rfl ?_
  refine J_callSP hX [.int x] [] (ct_ce hx) miJ1_canEncode_fc78d q_1922 q_1921 ⟨rfl, rfl, Nat.le_of_ble_eq_true rfl, Nat.le_of_ble_eq_true rfl⟩ rfl rfl (Nat.le_of_ble_eq_true rfl) ⟨Nat.le_of_ble_eq_true rfl, Nat.le_of_ble_eq_true rfl⟩ dJ5_append_3fe6f_18 (t := 21) rfl (fun v => J_pure fun hv => ?_)
  subst hv
  refine J_ifZ_eqI (b := true) (tgt := 45) hX dJ5_append_3fe6f_21 (by decide) (t := 24) rfl (fun z => absurd z (by decide)) (fun z => ?_)
  refine J_aload_n hX dJ5_append_3fe6f_24 0 rfl (t := 25) rfl ?_
  refine J_sbGet hX 0 (by decide) q_548 rfl dJ5_append_3fe6f_25 (t := 28) rfl ?_
  refine J_aload_n hX dJ5_append_3fe6f_28 0 rfl (t := 29) rfl ?_
  refine J_dup hX dJ5_append_3fe6f_29 rfl (t := 30) rfl ?_
  refine J_sbGet hX 3 (by decide) q_552 rfl dJ5_append_3fe6f_30 (t := 33) rfl ?_
  refine J_dup_x1 hX dJ5_append_3fe6f_33 rfl rfl (t := 34) rfl ?_
  refine J_iconst (v := 1) hX dJ5_append_3fe6f_34 (by decide) (t := 35) rfl ?_
  refine J_iadd hX dJ5_append_3fe6f_35 (t := 36) rfl ?_
  refine J_val (nI_1 a) ?_
  refine J_sbPutN hX q_552 dJ5_append_3fe6f_36 (t := 39) rfl ?_
  refine J_iload_n hX dJ5_append_3fe6f_39 1 rfl (t := 40) rfl ?_
  refine J_i2b hX dJ5_append_3fe6f_40 (t := 41) rfl ?_
  have hin : inb (nI a) (ncap cap (a + 1)) = true := by
    have h1 := (ncap_le cap (a + 1)).1
    unfold inb
    rw [nI_clamp (by omega), decide_eq_true (nI_pos (by omega)), decide_eq_true (show a < ncap cap (a + 1) by omega)]
    rfl
  refine J_sbSt hX hin (bs2 := upd bs2 a (x.toInt8.toInt32.toInt8.toInt32)) (by rw [nI_clamp (by omega)]) dJ5_append_3fe6f_41 (t := 42) rfl ?_
  refine J_goto (tgt := 75) hX dJ5_append_3fe6f_42 (by decide) ?_
  refine J_aload_n hX dJ5_append_3fe6f_75 0 rfl (t := 76) rfl ?_
  exact J_aretP hX hR (Or.inl ⟨_, rfl⟩) hlk (fun H h => ⟨rfl, q2, _, ⟨sb_fitU hb.1 (fit_b _), fun i hi => by rw [upd_ne (by omega)]; exact hb.2 i (by omega), upd_eq⟩, h⟩) dJ5_append_3fe6f_76
def dg3 (v : Nat) : Nat := if v < 10 then 1 else if v < 100 then 2 else if v < 1000 then 3 else 4
theorem ct_ss {G : GG} {l : Launch} {I : Heap → Prop} {v : Nat} (hv : v < 10000) : CTP G l yJ6_stringSize_0f7a4 cJ6_stringSize_0f7a4 4 (some .int) rmO 0 0 [.int (nI v)] I (fun r H => r = some (.int (nI (dg3 v))) ∧ I H) := by
  refine CTP.of miJ6_stringSize_0f7a4 [(0, .int (nI v))] rfl (Nat.le_of_ble_eq_true rfl) ?_
  intro p e s m args below meth c hX hR hlk
  have hX : FX G "java/lang/Integer" cJ6_stringSize_0f7a4 4 p s m args c := hX
  refine J_iconst (v := 1) hX dJ6_stringSize_0f7a4_0 (by decide) (t := 1) rfl ?_
  refine J_istore_n (lc2 := [(1, .int 1), (0, .int (nI v))]) hX dJ6_stringSize_0f7a4_1 rfl (Nat.le_of_ble_eq_true rfl) rfl (t := 2) rfl ?_
  refine J_iload_n hX dJ6_stringSize_0f7a4_2 1 rfl (t := 3) rfl ?_
  refine J_if_lt (tgt := 11) hX dJ6_stringSize_0f7a4_3 (by decide) (t := 6) rfl (fun z => absurd z (nI_pos (by omega))) (fun z => ?_)
  refine J_iconst (v := 0) hX dJ6_stringSize_0f7a4_6 (by decide) (t := 7) rfl ?_
  refine J_istore_n (lc2 := [(1, .int 0), (0, .int (nI v))]) hX dJ6_stringSize_0f7a4_7 rfl (Nat.le_of_ble_eq_true rfl) rfl (t := 8) rfl ?_
  refine J_iload_n hX dJ6_stringSize_0f7a4_8 1 rfl (t := 9) rfl ?_
  refine J_ineg hX dJ6_stringSize_0f7a4_9 (t := 10) rfl ?_
  refine J_istore_n (lc2 := [(0, .int (-((nI v)))), (1, .int 0)]) hX dJ6_stringSize_0f7a4_10 rfl (Nat.le_of_ble_eq_true rfl) rfl (t := 11) rfl ?_
  refine J_bipush (v := (-10)) hX dJ6_stringSize_0f7a4_11 (by decide) (t := 13) rfl ?_
  refine J_istore_n (lc2 := [(2, .int (-10)), (0, .int (-((nI v)))), (1, .int 0)]) hX dJ6_stringSize_0f7a4_13 rfl (Nat.le_of_ble_eq_true rfl) rfl (t := 14) rfl ?_
  refine J_iconst (v := 1) hX dJ6_stringSize_0f7a4_14 (by decide) (t := 15) rfl ?_
  refine J_istore_n (lc2 := [(3, .int 1), (2, .int (-10)), (0, .int (-((nI v)))), (1, .int 0)]) hX dJ6_stringSize_0f7a4_15 rfl (Nat.le_of_ble_eq_true rfl) rfl (t := 16) rfl ?_
  refine J_iload_n hX dJ6_stringSize_0f7a4_16 0 rfl (t := 17) rfl ?_
  refine J_bipush (v := 10) hX dJ6_stringSize_0f7a4_17 (by decide) (t := 19) rfl ?_
  refine J_icmp_ge (tgt := 42) hX dJ6_stringSize_0f7a4_19 (by decide) (t := 22) rfl (fun z => absurd z (by decide)) (fun z => ?_)
  refine J_iload_n hX dJ6_stringSize_0f7a4_22 2 rfl (t := 23) rfl ?_
  refine J_iload_n hX dJ6_stringSize_0f7a4_23 1 rfl (t := 24) rfl ?_
  refine J_icmp_le (tgt := 31) hX dJ6_stringSize_0f7a4_24 (by decide) (t := 27) rfl (fun z => ?_) (fun z => ?_)
  rotate_left
  · have h9 : v < 10 := by
      have z : ¬ -nI v ≤ -nI 10 := z
      rw [sb_nle (by omega) (by decide)] at z
      omega
    refine J_iload_n hX dJ6_stringSize_0f7a4_27 0 rfl (t := 28) rfl ?_
    refine J_iload_n hX dJ6_stringSize_0f7a4_28 3 rfl (t := 29) rfl ?_
    refine J_iadd hX dJ6_stringSize_0f7a4_29 (t := 30) rfl ?_
    refine J_val (show (1 + 0) = nI (dg3 v) by unfold dg3; rw [if_pos h9]; rfl) ?_
    exact J_iretP hX hR hlk (fun H h => ⟨rfl, h⟩) dJ6_stringSize_0f7a4_30
  have h1 : 10 ≤ v := by
    have z : -nI v ≤ -nI 10 := z
    rw [sb_nle (by omega) (by decide)] at z
    exact z
  refine J_bipush (v := 10) hX dJ6_stringSize_0f7a4_31 (by decide) (t := 33) rfl ?_
  refine J_iload_n hX dJ6_stringSize_0f7a4_33 1 rfl (t := 34) rfl ?_
  refine J_imul hX dJ6_stringSize_0f7a4_34 (t := 35) rfl ?_
  refine J_val (y := (-100)) (by decide) ?_
  refine J_istore_n (lc2 := [(2, .int ((-100))), (3, .int 1), (0, .int (-((nI v)))), (1, .int 0)]) hX dJ6_stringSize_0f7a4_35 rfl (Nat.le_of_ble_eq_true rfl) rfl (t := 36) rfl ?_
  refine J_iinc (v := 2) (lc2 := [(3, .int 2), (2, .int ((-100))), (0, .int (-((nI v)))), (1, .int 0)]) hX dJ6_stringSize_0f7a4_36 1 rfl (rfl) (Nat.le_of_ble_eq_true rfl) rfl (t := 39) rfl ?_
  refine J_goto (tgt := 16) hX dJ6_stringSize_0f7a4_39 (by decide) ?_
  refine J_iload_n hX dJ6_stringSize_0f7a4_16 0 rfl (t := 17) rfl ?_
  refine J_bipush (v := 10) hX dJ6_stringSize_0f7a4_17 (by decide) (t := 19) rfl ?_
  refine J_icmp_ge (tgt := 42) hX dJ6_stringSize_0f7a4_19 (by decide) (t := 22) rfl (fun z => absurd z (by decide)) (fun z => ?_)
  refine J_iload_n hX dJ6_stringSize_0f7a4_22 2 rfl (t := 23) rfl ?_
  refine J_iload_n hX dJ6_stringSize_0f7a4_23 1 rfl (t := 24) rfl ?_
  refine J_icmp_le (tgt := 31) hX dJ6_stringSize_0f7a4_24 (by decide) (t := 27) rfl (fun z => ?_) (fun z => ?_)
  rotate_left
  · have h9 : v < 100 := by
      have z : ¬ -nI v ≤ -nI 100 := z
      rw [sb_nle (by omega) (by decide)] at z
      omega
    refine J_iload_n hX dJ6_stringSize_0f7a4_27 0 rfl (t := 28) rfl ?_
    refine J_iload_n hX dJ6_stringSize_0f7a4_28 3 rfl (t := 29) rfl ?_
    refine J_iadd hX dJ6_stringSize_0f7a4_29 (t := 30) rfl ?_
    refine J_val (show (2 + 0) = nI (dg3 v) by unfold dg3; rw [if_neg (by omega), if_pos h9]; rfl) ?_
    exact J_iretP hX hR hlk (fun H h => ⟨rfl, h⟩) dJ6_stringSize_0f7a4_30
  have h2 : 100 ≤ v := by
    have z : -nI v ≤ -nI 100 := z
    rw [sb_nle (by omega) (by decide)] at z
    exact z
  refine J_bipush (v := 10) hX dJ6_stringSize_0f7a4_31 (by decide) (t := 33) rfl ?_
  refine J_iload_n hX dJ6_stringSize_0f7a4_33 1 rfl (t := 34) rfl ?_
  refine J_imul hX dJ6_stringSize_0f7a4_34 (t := 35) rfl ?_
  refine J_val (y := (-1000)) (by decide) ?_
  refine J_istore_n (lc2 := [(2, .int ((-1000))), (3, .int 2), (0, .int (-((nI v)))), (1, .int 0)]) hX dJ6_stringSize_0f7a4_35 rfl (Nat.le_of_ble_eq_true rfl) rfl (t := 36) rfl ?_
  refine J_iinc (v := 3) (lc2 := [(3, .int 3), (2, .int ((-1000))), (0, .int (-((nI v)))), (1, .int 0)]) hX dJ6_stringSize_0f7a4_36 1 rfl (rfl) (Nat.le_of_ble_eq_true rfl) rfl (t := 39) rfl ?_
  refine J_goto (tgt := 16) hX dJ6_stringSize_0f7a4_39 (by decide) ?_
  refine J_iload_n hX dJ6_stringSize_0f7a4_16 0 rfl (t := 17) rfl ?_
  refine J_bipush (v := 10) hX dJ6_stringSize_0f7a4_17 (by decide) (t := 19) rfl ?_
  refine J_icmp_ge (tgt := 42) hX dJ6_stringSize_0f7a4_19 (by decide) (t := 22) rfl (fun z => absurd z (by decide)) (fun z => ?_)
  refine J_iload_n hX dJ6_stringSize_0f7a4_22 2 rfl (t := 23) rfl ?_
  refine J_iload_n hX dJ6_stringSize_0f7a4_23 1 rfl (t := 24) rfl ?_
  refine J_icmp_le (tgt := 31) hX dJ6_stringSize_0f7a4_24 (by decide) (t := 27) rfl (fun z => ?_) (fun z => ?_)
  rotate_left
  · have h9 : v < 1000 := by
      have z : ¬ -nI v ≤ -nI 1000 := z
      rw [sb_nle (by omega) (by decide)] at z
      omega
    refine J_iload_n hX dJ6_stringSize_0f7a4_27 0 rfl (t := 28) rfl ?_
    refine J_iload_n hX dJ6_stringSize_0f7a4_28 3 rfl (t := 29) rfl ?_
    refine J_iadd hX dJ6_stringSize_0f7a4_29 (t := 30) rfl ?_
    refine J_val (show (3 + 0) = nI (dg3 v) by unfold dg3; rw [if_neg (by omega), if_neg (by omega), if_pos h9]; rfl) ?_
    exact J_iretP hX hR hlk (fun H h => ⟨rfl, h⟩) dJ6_stringSize_0f7a4_30
  have h3 : 1000 ≤ v := by
    have z : -nI v ≤ -nI 1000 := z
    rw [sb_nle (by omega) (by decide)] at z
    exact z
  refine J_bipush (v := 10) hX dJ6_stringSize_0f7a4_31 (by decide) (t := 33) rfl ?_
  refine J_iload_n hX dJ6_stringSize_0f7a4_33 1 rfl (t := 34) rfl ?_
  refine J_imul hX dJ6_stringSize_0f7a4_34 (t := 35) rfl ?_
  refine J_val (y := (-10000)) (by decide) ?_
  refine J_istore_n (lc2 := [(2, .int ((-10000))), (3, .int 3), (0, .int (-((nI v)))), (1, .int 0)]) hX dJ6_stringSize_0f7a4_35 rfl (Nat.le_of_ble_eq_true rfl) rfl (t := 36) rfl ?_
  refine J_iinc (v := 4) (lc2 := [(3, .int 4), (2, .int ((-10000))), (0, .int (-((nI v)))), (1, .int 0)]) hX dJ6_stringSize_0f7a4_36 1 rfl (rfl) (Nat.le_of_ble_eq_true rfl) rfl (t := 39) rfl ?_
  refine J_goto (tgt := 16) hX dJ6_stringSize_0f7a4_39 (by decide) ?_
  refine J_iload_n hX dJ6_stringSize_0f7a4_16 0 rfl (t := 17) rfl ?_
  refine J_bipush (v := 10) hX dJ6_stringSize_0f7a4_17 (by decide) (t := 19) rfl ?_
  refine J_icmp_ge (tgt := 42) hX dJ6_stringSize_0f7a4_19 (by decide) (t := 22) rfl (fun z => absurd z (by decide)) (fun z => ?_)
  refine J_iload_n hX dJ6_stringSize_0f7a4_22 2 rfl (t := 23) rfl ?_
  refine J_iload_n hX dJ6_stringSize_0f7a4_23 1 rfl (t := 24) rfl ?_
  refine J_icmp_le (tgt := 31) hX dJ6_stringSize_0f7a4_24 (by decide) (t := 27) rfl (fun z => absurd ((sb_nle (a := v) (b := 10000) (by omega) (by decide)).mp z) (by omega)) (fun z => ?_)
  refine J_iload_n hX dJ6_stringSize_0f7a4_27 0 rfl (t := 28) rfl ?_
  refine J_iload_n hX dJ6_stringSize_0f7a4_28 3 rfl (t := 29) rfl ?_
  refine J_iadd hX dJ6_stringSize_0f7a4_29 (t := 30) rfl ?_
  refine J_val (show (4 + 0) = nI (dg3 v) by unfold dg3; rw [if_neg (by omega), if_neg (by omega), if_neg (by omega)]; rfl) ?_
  exact J_iretP hX hR hlk (fun H h => ⟨rfl, h⟩) dJ6_stringSize_0f7a4_30
theorem dg_st {d : Nat} (h : d < 10) : (48 + nI d).toInt8.toInt32 = 48 + nI d := by
  have : ∀ d, d < 10 → (48 + nI d).toInt8.toInt32 = 48 + nI d := by decide
  exact this d h
def gcB (bs : Nat → Int32) (k v : Nat) : Nat → Int32 := if v < 10 then upd bs (k - 1) (48 + nI v) else if v < 100 then upd (upd bs (k - 1) (48 + nI (v % 10))) (k - 2) (48 + nI (v / 10)) else if v < 1000 then upd (upd (upd bs (k - 1) (48 + nI (v % 10))) (k - 2) (48 + nI (v / 10 % 10))) (k - 3) (48 + nI (v / 100)) else upd (upd (upd (upd bs (k - 1) (48 + nI (v % 10))) (k - 2) (48 + nI (v / 10 % 10))) (k - 3) (48 + nI (v / 100 % 10))) (k - 4) (48 + nI (v / 1000))
theorem inbN {a n : Nat} (h : a < n) (hn : n < 2 ^ 31) : inb (nI a) n = true := by
  unfold inb
  rw [nI_clamp (by omega), decide_eq_true (nI_pos (by omega)), decide_eq_true h]
  rfl
theorem vinN {a n : Nat} (h : a < n) (hn : n < 2 ^ 31) : vp_in (nI a) n := inb_in (inbN h hn)
theorem ct_gc {G : GG} {l : Launch} {b : Nat} {q cap k v : Nat} {ml n : Int32} {bs : Nat → Int32} (hv : v < 10000) (hk : k ≤ cap) (hk3 : 4 ≤ k) (hc : cap < 2 ^ 20) : CTP G l yJ6_getChars_ba4f3 cJ6_getChars_ba4f3 7 (some .int) rmO 0 0 [.int (nI v), .int (nI k), .ref q] (SE G b q cap ml n bs) (fun r H => (∃ z, r = some (.int z)) ∧ SE G b q cap ml n (gcB bs k v) H) := by
  refine CTP.of miJ6_getChars_ba4f3 [(0, .int (nI v)), (1, .int (nI k)), (2, .ref q)] rfl (Nat.le_of_ble_eq_true rfl) ?_
  intro p e s m args below meth c hX hR hlk
  have hX : FX G "java/lang/Integer" cJ6_getChars_ba4f3 7 p s m args c := hX
  refine J_iload_n hX dJ6_getChars_ba4f3_0 1 rfl (t := 1) rfl ?_
  refine J_istore (lc2 := [(5, .int (nI k)), (0, .int (nI v)), (1, .int (nI k)), (2, .ref q)]) hX dJ6_getChars_ba4f3_1 (Nat.le_of_ble_eq_true rfl) rfl (t := 3) rfl ?_
  refine J_iload_n hX dJ6_getChars_ba4f3_3 1 rfl (t := 4) rfl ?_
  refine J_if_ge (tgt := 11) hX dJ6_getChars_ba4f3_4 (by decide) (t := 7) rfl (fun z => ?_) (fun z => absurd (nI_pos' (by omega)) z)
  refine J_iconst (v := 0) hX dJ6_getChars_ba4f3_11 (by decide) (t := 12) rfl ?_
  refine J_istore (lc2 := [(6, .int 0), (5, .int (nI k)), (0, .int (nI v)), (1, .int (nI k)), (2, .ref q)]) hX dJ6_getChars_ba4f3_12 (Nat.le_of_ble_eq_true rfl) rfl (t := 14) rfl ?_
  refine J_iload hX dJ6_getChars_ba4f3_14 0 rfl (t := 16) rfl ?_
  refine J_if_ne (tgt := 22) hX dJ6_getChars_ba4f3_16 (by decide) (t := 19) rfl (fun z => absurd rfl z) (fun z => ?_)
  refine J_iload_n hX dJ6_getChars_ba4f3_19 2 rfl (t := 20) rfl ?_
  refine J_ineg hX dJ6_getChars_ba4f3_20 (t := 21) rfl ?_
  refine J_istore_n (lc2 := [(0, .int (-((nI v)))), (6, .int 0), (5, .int (nI k)), (1, .int (nI k)), (2, .ref q)]) hX dJ6_getChars_ba4f3_21 rfl (Nat.le_of_ble_eq_true rfl) rfl (t := 22) rfl ?_
  refine J_iload_n hX dJ6_getChars_ba4f3_22 0 rfl (t := 23) rfl ?_
  refine J_bipush (v := (-100)) hX dJ6_getChars_ba4f3_23 (by decide) (t := 25) rfl ?_
  refine J_icmp_gt (tgt := 72) hX dJ6_getChars_ba4f3_25 (by decide) (t := 28) rfl (fun z => ?_) (fun z => ?_)
  · have hv2 : v < 100 := by
      have z : ¬ -nI v ≤ -nI 100 := fun h => absurd z (Int32.not_lt.mpr h)
      rw [sb_nle (by omega) (by decide)] at z
      omega
    refine J_aload_n hX dJ6_getChars_ba4f3_72 4 rfl (t := 73) rfl ?_
    refine J_iinc (v := nI (k - 1)) (lc2 := [(5, .int (nI (k - 1))), (0, .int (-((nI v)))), (6, .int 0), (1, .int (nI k)), (2, .ref q)]) hX dJ6_getChars_ba4f3_73 2 rfl (sb_m1 (by omega)) (Nat.le_of_ble_eq_true rfl) rfl (t := 76) rfl ?_
    refine J_iload hX dJ6_getChars_ba4f3_76 0 rfl (t := 78) rfl ?_
    refine J_gst hX hX.G2.2.2.1 q_1786 dJ6_getChars_ba4f3_78 (t := 81) rfl ?_
    refine J_iload_n hX dJ6_getChars_ba4f3_81 1 rfl (t := 82) rfl ?_
    refine J_ineg hX dJ6_getChars_ba4f3_82 (t := 83) rfl ?_
    refine J_val (y := nI v) (by rw [Int32.neg_neg]) ?_
    refine J_tb hX hX.G2.2.2.2.1 (vinN (by omega) (by omega)) (v := .int (48 + nI (v % 10))) (by show Value.int (48 + nI (((nI v)).toNatClampNeg % 10)) = _; rw [nI_clamp (by omega)]) dJ6_getChars_ba4f3_83 (t := 84) rfl ?_
    refine J_sbSt hX (inbN (by omega) (by omega)) (bs2 := upd bs (k - 1) (48 + nI (v % 10))) (by rw [nI_clamp (by omega), dg_st (by omega)]) dJ6_getChars_ba4f3_84 (t := 85) rfl ?_
    refine J_iload_n hX dJ6_getChars_ba4f3_85 1 rfl (t := 86) rfl ?_
    refine J_bipush (v := (-9)) hX dJ6_getChars_ba4f3_86 (by decide) (t := 88) rfl ?_
    refine J_icmp_ge (tgt := 104) hX dJ6_getChars_ba4f3_88 (by decide) (t := 91) rfl (fun z => ?_) (fun z => ?_)
    · have hv3 : v < 10 := by
        have z : ¬ -nI v < -nI 9 := fun h => absurd h (Int32.not_lt.mpr z)
        rw [sb_nlt (by omega) (by decide)] at z
        omega
      refine J_iload hX dJ6_getChars_ba4f3_104 2 rfl (t := 106) rfl ?_
      refine J_if_eq (tgt := 118) hX dJ6_getChars_ba4f3_106 (by decide) (t := 109) rfl (fun z => ?_) (fun z => absurd rfl z)
      refine J_iload hX dJ6_getChars_ba4f3_118 0 rfl (t := 120) rfl ?_
      refine J_iretP hX hR hlk (fun H h => ⟨⟨_, rfl⟩, ?_⟩) dJ6_getChars_ba4f3_120
      have eg : gcB bs k v = upd bs (k - 1) (48 + nI (v % 10)) := by
        unfold gcB
        rw [if_pos hv3, Nat.mod_eq_of_lt hv3]
      rw [eg]
      exact h
    · have hv3 : 10 ≤ v := by
        have z : -nI v < -nI 9 := Int32.not_le.mp z
        rw [sb_nlt (by omega) (by decide)] at z
        omega
      refine J_aload_n hX dJ6_getChars_ba4f3_91 4 rfl (t := 92) rfl ?_
      refine J_iinc (v := nI (k - 2)) (lc2 := [(5, .int (nI (k - 2))), (0, .int (-((nI v)))), (6, .int 0), (1, .int (nI k)), (2, .ref q)]) hX dJ6_getChars_ba4f3_92 0 rfl (show nI (k - 1) + (-1) = nI (k - 2) from sb_m1 (p := k - 1) (by omega)) (Nat.le_of_ble_eq_true rfl) rfl (t := 95) rfl ?_
      refine J_iload hX dJ6_getChars_ba4f3_95 0 rfl (t := 97) rfl ?_
      refine J_gst hX hX.G2.2.2.2.2.1 q_1788 dJ6_getChars_ba4f3_97 (t := 100) rfl ?_
      refine J_iload_n hX dJ6_getChars_ba4f3_100 1 rfl (t := 101) rfl ?_
      refine J_ineg hX dJ6_getChars_ba4f3_101 (t := 102) rfl ?_
      refine J_val (y := nI v) (by rw [Int32.neg_neg]) ?_
      refine J_tb hX hX.G2.2.2.2.2.2.1 (vinN (by omega) (by omega)) (v := .int (48 + nI (v / 10))) (by show Value.int (48 + nI (((nI v)).toNatClampNeg / 10)) = _; rw [nI_clamp (by omega)]) dJ6_getChars_ba4f3_102 (t := 103) rfl ?_
      refine J_sbSt hX (inbN (by omega) (by omega)) (bs2 := upd (upd bs (k - 1) (48 + nI (v % 10))) (k - 2) (48 + nI (v / 10))) (by rw [nI_clamp (by omega), dg_st (by omega)]) dJ6_getChars_ba4f3_103 (t := 104) rfl ?_
      refine J_iload hX dJ6_getChars_ba4f3_104 2 rfl (t := 106) rfl ?_
      refine J_if_eq (tgt := 118) hX dJ6_getChars_ba4f3_106 (by decide) (t := 109) rfl (fun z => ?_) (fun z => absurd rfl z)
      refine J_iload hX dJ6_getChars_ba4f3_118 0 rfl (t := 120) rfl ?_
      refine J_iretP hX hR hlk (fun H h => ⟨⟨_, rfl⟩, ?_⟩) dJ6_getChars_ba4f3_120
      have eg : gcB bs k v = upd (upd bs (k - 1) (48 + nI (v % 10))) (k - 2) (48 + nI (v / 10)) := by
        unfold gcB
        rw [if_neg (by omega), if_pos hv2]
      rw [eg]
      exact h
  · have hv2 : 100 ≤ v := by
      have z : -nI v ≤ -nI 100 := Int32.not_lt.mp z
      rw [sb_nle (by omega) (by decide)] at z
      exact z
    refine J_iload_n hX dJ6_getChars_ba4f3_28 0 rfl (t := 29) rfl ?_
    refine J_bipush (v := 100) hX dJ6_getChars_ba4f3_29 (by decide) (t := 31) rfl ?_
    refine J_idiv hX dJ6_getChars_ba4f3_31 (by decide) (t := 32) rfl ?_
    refine J_val (y := -nI (v / 100)) (sb_ndiv (by omega)) ?_
    refine J_istore_n (lc2 := [(3, .int (-nI (v / 100))), (0, .int (-((nI v)))), (6, .int 0), (5, .int (nI k)), (1, .int (nI k)), (2, .ref q)]) hX dJ6_getChars_ba4f3_32 rfl (Nat.le_of_ble_eq_true rfl) rfl (t := 33) rfl ?_
    refine J_iload_n hX dJ6_getChars_ba4f3_33 0 rfl (t := 34) rfl ?_
    refine J_bipush (v := 100) hX dJ6_getChars_ba4f3_34 (by decide) (t := 36) rfl ?_
    refine J_imul hX dJ6_getChars_ba4f3_36 (t := 37) rfl ?_
    refine J_iload_n hX dJ6_getChars_ba4f3_37 1 rfl (t := 38) rfl ?_
    refine J_isub hX dJ6_getChars_ba4f3_38 (t := 39) rfl ?_
    refine J_val (y := nI (v % 100)) (sb_nrem (by omega)) ?_
    refine J_istore (lc2 := [(4, .int (nI (v % 100))), (3, .int (-nI (v / 100))), (0, .int (-((nI v)))), (6, .int 0), (5, .int (nI k)), (1, .int (nI k)), (2, .ref q)]) hX dJ6_getChars_ba4f3_39 (Nat.le_of_ble_eq_true rfl) rfl (t := 41) rfl ?_
    refine J_iload_n hX dJ6_getChars_ba4f3_41 1 rfl (t := 42) rfl ?_
    refine J_istore_n (lc2 := [(0, .int (-nI (v / 100))), (4, .int (nI (v % 100))), (3, .int (-nI (v / 100))), (6, .int 0), (5, .int (nI k)), (1, .int (nI k)), (2, .ref q)]) hX dJ6_getChars_ba4f3_42 rfl (Nat.le_of_ble_eq_true rfl) rfl (t := 43) rfl ?_
    refine J_aload_n hX dJ6_getChars_ba4f3_43 6 rfl (t := 44) rfl ?_
    refine J_iinc (v := nI (k - 1)) (lc2 := [(5, .int (nI (k - 1))), (0, .int (-nI (v / 100))), (4, .int (nI (v % 100))), (3, .int (-nI (v / 100))), (6, .int 0), (1, .int (nI k)), (2, .ref q)]) hX dJ6_getChars_ba4f3_44 4 rfl (sb_m1 (by omega)) (Nat.le_of_ble_eq_true rfl) rfl (t := 47) rfl ?_
    refine J_iload hX dJ6_getChars_ba4f3_47 0 rfl (t := 49) rfl ?_
    refine J_gst hX hX.G2.2.2.1 q_1786 dJ6_getChars_ba4f3_49 (t := 52) rfl ?_
    refine J_iload hX dJ6_getChars_ba4f3_52 2 rfl (t := 54) rfl ?_
    refine J_tb hX hX.G2.2.2.2.1 (vinN (by omega) (by omega)) (v := .int (48 + nI (v % 10))) (by show Value.int (48 + nI (((nI (v % 100))).toNatClampNeg % 10)) = _; rw [nI_clamp (by omega), show v % 100 % 10 = v % 10 by omega]) dJ6_getChars_ba4f3_54 (t := 55) rfl ?_
    refine J_sbSt hX (inbN (by omega) (by omega)) (bs2 := upd bs (k - 1) (48 + nI (v % 10))) (by rw [nI_clamp (by omega), dg_st (by omega)]) dJ6_getChars_ba4f3_55 (t := 56) rfl ?_
    refine J_aload_n hX dJ6_getChars_ba4f3_56 6 rfl (t := 57) rfl ?_
    refine J_iinc (v := nI (k - 2)) (lc2 := [(5, .int (nI (k - 2))), (0, .int (-nI (v / 100))), (4, .int (nI (v % 100))), (3, .int (-nI (v / 100))), (6, .int 0), (1, .int (nI k)), (2, .ref q)]) hX dJ6_getChars_ba4f3_57 0 rfl (show nI (k - 1) + (-1) = nI (k - 2) from sb_m1 (p := k - 1) (by omega)) (Nat.le_of_ble_eq_true rfl) rfl (t := 60) rfl ?_
    refine J_iload hX dJ6_getChars_ba4f3_60 0 rfl (t := 62) rfl ?_
    refine J_gst hX hX.G2.2.2.2.2.1 q_1788 dJ6_getChars_ba4f3_62 (t := 65) rfl ?_
    refine J_iload hX dJ6_getChars_ba4f3_65 2 rfl (t := 67) rfl ?_
    refine J_tb hX hX.G2.2.2.2.2.2.1 (vinN (by omega) (by omega)) (v := .int (48 + nI (v / 10 % 10))) (by show Value.int (48 + nI (((nI (v % 100))).toNatClampNeg / 10)) = _; rw [nI_clamp (by omega), show v % 100 / 10 = v / 10 % 10 by omega]) dJ6_getChars_ba4f3_67 (t := 68) rfl ?_
    refine J_sbSt hX (inbN (by omega) (by omega)) (bs2 := upd (upd bs (k - 1) (48 + nI (v % 10))) (k - 2) (48 + nI (v / 10 % 10))) (by rw [nI_clamp (by omega), dg_st (by omega)]) dJ6_getChars_ba4f3_68 (t := 69) rfl ?_
    refine J_goto (tgt := 22) hX dJ6_getChars_ba4f3_69 (by decide) ?_
    refine J_iload_n hX dJ6_getChars_ba4f3_22 1 rfl (t := 23) rfl ?_
    refine J_bipush (v := (-100)) hX dJ6_getChars_ba4f3_23 (by decide) (t := 25) rfl ?_
    refine J_icmp_gt (tgt := 72) hX dJ6_getChars_ba4f3_25 (by decide) (t := 28) rfl (fun z => ?_) (fun z => absurd (Int32.not_lt.mp z) (fun h => absurd ((sb_nle (a := v / 100) (b := 100) (by omega) (by decide)).mp h) (by omega)))
    refine J_aload_n hX dJ6_getChars_ba4f3_72 6 rfl (t := 73) rfl ?_
    refine J_iinc (v := nI (k - 3)) (lc2 := [(5, .int (nI (k - 3))), (0, .int (-nI (v / 100))), (4, .int (nI (v % 100))), (3, .int (-nI (v / 100))), (6, .int 0), (1, .int (nI k)), (2, .ref q)]) hX dJ6_getChars_ba4f3_73 0 rfl (show nI (k - 2) + (-1) = nI (k - 3) from sb_m1 (p := k - 2) (by omega)) (Nat.le_of_ble_eq_true rfl) rfl (t := 76) rfl ?_
    refine J_iload hX dJ6_getChars_ba4f3_76 0 rfl (t := 78) rfl ?_
    refine J_gst hX hX.G2.2.2.1 q_1786 dJ6_getChars_ba4f3_78 (t := 81) rfl ?_
    refine J_iload_n hX dJ6_getChars_ba4f3_81 1 rfl (t := 82) rfl ?_
    refine J_ineg hX dJ6_getChars_ba4f3_82 (t := 83) rfl ?_
    refine J_val (y := nI (v / 100)) (by rw [Int32.neg_neg]) ?_
    refine J_tb hX hX.G2.2.2.2.1 (vinN (by omega) (by omega)) (v := .int (48 + nI (v / 100 % 10))) (by show Value.int (48 + nI (((nI (v / 100))).toNatClampNeg % 10)) = _; rw [nI_clamp (by omega)]) dJ6_getChars_ba4f3_83 (t := 84) rfl ?_
    refine J_sbSt hX (inbN (by omega) (by omega)) (bs2 := upd (upd (upd bs (k - 1) (48 + nI (v % 10))) (k - 2) (48 + nI (v / 10 % 10))) (k - 3) (48 + nI (v / 100 % 10))) (by rw [nI_clamp (by omega), dg_st (by omega)]) dJ6_getChars_ba4f3_84 (t := 85) rfl ?_
    refine J_iload_n hX dJ6_getChars_ba4f3_85 1 rfl (t := 86) rfl ?_
    refine J_bipush (v := (-9)) hX dJ6_getChars_ba4f3_86 (by decide) (t := 88) rfl ?_
    refine J_icmp_ge (tgt := 104) hX dJ6_getChars_ba4f3_88 (by decide) (t := 91) rfl (fun z => ?_) (fun z => ?_)
    · have hv3 : v < 1000 := by
        have z : ¬ -nI (v / 100) < -nI 9 := fun h => absurd h (Int32.not_lt.mpr z)
        rw [sb_nlt (by omega) (by decide)] at z
        omega
      refine J_iload hX dJ6_getChars_ba4f3_104 4 rfl (t := 106) rfl ?_
      refine J_if_eq (tgt := 118) hX dJ6_getChars_ba4f3_106 (by decide) (t := 109) rfl (fun z => ?_) (fun z => absurd rfl z)
      refine J_iload hX dJ6_getChars_ba4f3_118 0 rfl (t := 120) rfl ?_
      refine J_iretP hX hR hlk (fun H h => ⟨⟨_, rfl⟩, ?_⟩) dJ6_getChars_ba4f3_120
      have eg : gcB bs k v = upd (upd (upd bs (k - 1) (48 + nI (v % 10))) (k - 2) (48 + nI (v / 10 % 10))) (k - 3) (48 + nI (v / 100 % 10)) := by
        unfold gcB
        rw [if_neg (by omega), if_neg (by omega), if_pos hv3, Nat.mod_eq_of_lt (show v / 100 < 10 by omega)]
      rw [eg]
      exact h
    · have hv3 : 1000 ≤ v := by
        have z : -nI (v / 100) < -nI 9 := Int32.not_le.mp z
        rw [sb_nlt (by omega) (by decide)] at z
        omega
      refine J_aload_n hX dJ6_getChars_ba4f3_91 6 rfl (t := 92) rfl ?_
      refine J_iinc (v := nI (k - 4)) (lc2 := [(5, .int (nI (k - 4))), (0, .int (-nI (v / 100))), (4, .int (nI (v % 100))), (3, .int (-nI (v / 100))), (6, .int 0), (1, .int (nI k)), (2, .ref q)]) hX dJ6_getChars_ba4f3_92 0 rfl (show nI (k - 3) + (-1) = nI (k - 4) from sb_m1 (p := k - 3) (by omega)) (Nat.le_of_ble_eq_true rfl) rfl (t := 95) rfl ?_
      refine J_iload hX dJ6_getChars_ba4f3_95 0 rfl (t := 97) rfl ?_
      refine J_gst hX hX.G2.2.2.2.2.1 q_1788 dJ6_getChars_ba4f3_97 (t := 100) rfl ?_
      refine J_iload_n hX dJ6_getChars_ba4f3_100 1 rfl (t := 101) rfl ?_
      refine J_ineg hX dJ6_getChars_ba4f3_101 (t := 102) rfl ?_
      refine J_val (y := nI (v / 100)) (by rw [Int32.neg_neg]) ?_
      refine J_tb hX hX.G2.2.2.2.2.2.1 (vinN (by omega) (by omega)) (v := .int (48 + nI (v / 1000))) (by show Value.int (48 + nI (((nI (v / 100))).toNatClampNeg / 10)) = _; rw [nI_clamp (by omega), show v / 100 / 10 = v / 1000 by omega]) dJ6_getChars_ba4f3_102 (t := 103) rfl ?_
      refine J_sbSt hX (inbN (by omega) (by omega)) (bs2 := upd (upd (upd (upd bs (k - 1) (48 + nI (v % 10))) (k - 2) (48 + nI (v / 10 % 10))) (k - 3) (48 + nI (v / 100 % 10))) (k - 4) (48 + nI (v / 1000))) (by rw [nI_clamp (by omega), dg_st (by omega)]) dJ6_getChars_ba4f3_103 (t := 104) rfl ?_
      refine J_iload hX dJ6_getChars_ba4f3_104 4 rfl (t := 106) rfl ?_
      refine J_if_eq (tgt := 118) hX dJ6_getChars_ba4f3_106 (by decide) (t := 109) rfl (fun z => ?_) (fun z => absurd rfl z)
      refine J_iload hX dJ6_getChars_ba4f3_118 0 rfl (t := 120) rfl ?_
      refine J_iretP hX hR hlk (fun H h => ⟨⟨_, rfl⟩, ?_⟩) dJ6_getChars_ba4f3_120
      have eg : gcB bs k v = upd (upd (upd (upd bs (k - 1) (48 + nI (v % 10))) (k - 2) (48 + nI (v / 10 % 10))) (k - 3) (48 + nI (v / 100 % 10))) (k - 4) (48 + nI (v / 1000)) := by
        unfold gcB
        rw [if_neg (by omega), if_neg (by omega), if_neg (by omega)]
      rw [eg]
      exact h
theorem ct_ai5 {G : GG} {l : Launch} {b : Nat} {q cap a v : Nat} {ml : Int32} {bs : Nat → Int32} (hc : cap ≤ 1040) (ha : 3 ≤ a) (ha2 : a < 510) (hac : a ≤ cap) (hv : v < 10000) (hf : sb_Fit bs) : CTP G l yJ5_append_c97b9 cJ5_append_c97b9 4 (some (.object RJ5)) rba 1 1040 [.ref b, .int (nI v)] (SE G b q cap ml (nI a) bs) (fun r H => r = some (.ref b) ∧ ∃ q2, ∃ bs2, (sb_Fit bs2 ∧ (∀ i, i < a → bs2 i = bs i)) ∧ SE G b q2 (ncap cap (a + dg3 v)) ml (nI (a + dg3 v)) (gcB bs2 (a + dg3 v) v) H) := by
  refine CTP.of miJ5_append_c97b9 [(0, .ref b), (1, .int (nI v))] rfl (Nat.le_of_ble_eq_true rfl) ?_
  intro p e s m args below meth c hX hR hlk
  have hX : FX G RJ5 cJ5_append_c97b9 4 p s m args c := hX
  have hd : 1 ≤ dg3 v ∧ dg3 v ≤ 4 := by unfold dg3; split <;> (try split) <;> (try split) <;> omega
  refine J_aload_n hX dJ5_append_c97b9_0 0 rfl (t := 1) rfl ?_
  refine J_sbGet hX 3 (by decide) q_552 rfl dJ5_append_c97b9_1 (t := 4) rfl ?_
  refine J_istore_n (lc2 := [(2, .int (nI a)), (0, .ref b), (1, .int (nI v))]) hX dJ5_append_c97b9_4 rfl (Nat.le_of_ble_eq_true rfl) rfl (t := 5) rfl ?_
  refine J_iload_n hX dJ5_append_c97b9_5 0 rfl (t := 6) rfl ?_
  refine J_iload_n hX dJ5_append_c97b9_6 2 rfl (t := 7) rfl ?_
  refine J_callSP hX [.int (nI v)] [.int (nI a)] (ct_ss hv) miJ6_stringSize_0f7a4 q_1781 q_1780 ⟨rfl, rfl, Nat.le_of_ble_eq_true rfl, Nat.le_of_ble_eq_true rfl⟩ rfl rfl (Nat.le_of_ble_eq_true rfl) ⟨Nat.le_of_ble_eq_true rfl, Nat.le_of_ble_eq_true rfl⟩ dJ5_append_c97b9_7 (t := 10) rfl (fun r => J_pure fun hv => ?_)
  subst hv
  refine J_iadd hX dJ5_append_c97b9_10 (t := 11) rfl ?_
  refine J_val (nI_add a (dg3 v)) ?_
  refine J_istore_n (lc2 := [(3, .int (nI (a + dg3 v))), (2, .int (nI a)), (0, .ref b), (1, .int (nI v))]) hX dJ5_append_c97b9_11 rfl (Nat.le_of_ble_eq_true rfl) rfl (t := 12) rfl ?_
  refine J_aload_n hX dJ5_append_c97b9_12 2 rfl (t := 13) rfl ?_
  refine J_iload_n hX dJ5_append_c97b9_13 0 rfl (t := 14) rfl ?_
  refine J_callVP hX [.int (nI (a + dg3 v))] [] (ct_ens hc (by omega) hf) miJ5_ensureCapacityInternal_d00df q_1689 (hX.selp (by simp [selL])) SE.ob q_1687 ⟨rfl, rfl, Nat.le_of_ble_eq_true rfl, Nat.le_of_ble_eq_true rfl⟩ rfl rfl (Nat.le_of_ble_eq_true rfl) ⟨Nat.le_of_ble_eq_true rfl, Nat.le_of_ble_eq_true rfl⟩ dJ5_append_c97b9_14 (t := 17) rfl (fun r => J_pure fun hv => J_exE fun q2 => J_exE fun bs2 => J_pure fun hb => ?_)
  subst hv
  refine J_aload_n hX dJ5_append_c97b9_17 2 rfl (t := 18) rfl ?_
  refine J_callVP hX [] [] ct_l1b miJ5_isLatin1_aae02 q_1719 (hX.2.2.2.2.1 _ q_1721) SE.ob q_1718 ⟨rfl, rfl, Nat.le_of_ble_eq_true rfl, Nat.le_of_ble_eq_true rfl⟩ rfl rfl (Nat.le_of_ble_eq_true rfl) ⟨Nat.le_of_ble_eq_true rfl, Nat.le_of_ble_eq_true rfl⟩ dJ5_append_c97b9_18 (t := 21) rfl (fun r => J_pure fun hv => ?_)
  subst hv
  refine J_ifZ_eqI (b := true) (tgt := 37) hX dJ5_append_c97b9_21 (by decide) (t := 24) rfl (fun z => absurd z (by decide)) (fun z => ?_)
  refine J_iload_n hX dJ5_append_c97b9_24 3 rfl (t := 25) rfl ?_
  refine J_iload_n hX dJ5_append_c97b9_25 0 rfl (t := 26) rfl ?_
  refine J_aload_n hX dJ5_append_c97b9_26 2 rfl (t := 27) rfl ?_
  refine J_sbGet hX 0 (by decide) q_548 rfl dJ5_append_c97b9_27 (t := 30) rfl ?_
  have hn := ncap_le cap (a + dg3 v)
  have hn2 : ncap cap (a + dg3 v) < 2 ^ 20 := by unfold ncap; split <;> (try split) <;> omega
  refine J_callSP hX [.int (nI v), .int (nI (a + dg3 v)), .ref q2] [] (ct_gc hv hn.1 (by omega) hn2) miJ6_getChars_ba4f3 q_1784 q_1783 ⟨rfl, rfl, Nat.le_of_ble_eq_true rfl, Nat.le_of_ble_eq_true rfl⟩ rfl rfl (Nat.le_of_ble_eq_true rfl) ⟨Nat.le_of_ble_eq_true rfl, Nat.le_of_ble_eq_true rfl⟩ dJ5_append_c97b9_30 (t := 33) rfl (fun r => J_pure fun hv => ?_)
  obtain ⟨z9, rfl⟩ := hv
  refine J_pop hX dJ5_append_c97b9_33 rfl (t := 34) rfl ?_
  refine J_goto (tgt := 48) hX dJ5_append_c97b9_34 (by decide) ?_
  refine J_aload_n hX dJ5_append_c97b9_48 2 rfl (t := 49) rfl ?_
  refine J_iload_n hX dJ5_append_c97b9_49 0 rfl (t := 50) rfl ?_
  refine J_sbPutN hX q_552 dJ5_append_c97b9_50 (t := 53) rfl ?_
  refine J_aload_n hX dJ5_append_c97b9_53 2 rfl (t := 54) rfl ?_
  exact J_aretP hX hR (Or.inl ⟨_, rfl⟩) hlk (fun H h => ⟨rfl, q2, bs2, ⟨hb.1, fun i hi => hb.2 i (by omega)⟩, h⟩) dJ5_append_c97b9_54
theorem ct_pciP {G : GG} {l : Launch} {I : Heap → Prop} {x n : Int32} {v : Value} (hv : v = .null ∨ ∃ a, v = .ref a) (h0 : ¬ x < 0) (h1 : x < n) : CTP G l yJ3_checkIndex_8e157 cJ3_checkIndex_8e157 3 (some .int) rmO 0 0 [.int x, .int n, v] I (fun r H => r = some (.int x) ∧ I H) := by
  refine CTP.of miJ3_checkIndex_8e157 [(0, .int x), (1, .int n), (2, v)] rfl (by rcases hv with rfl | ⟨a, rfl⟩ <;> exact Nat.le_of_ble_eq_true rfl) ?_
  intro p e s m args below meth c hX hR hlk
  refine J_iload_n hX dJ3_checkIndex_8e157_0 0 rfl (t := 1) rfl ?_
  refine J_if_lt (tgt := 9) hX dJ3_checkIndex_8e157_1 (by decide) (t := 4) rfl (fun z => absurd z h0) (fun z => ?_)
  refine J_iload_n hX dJ3_checkIndex_8e157_4 0 rfl (t := 5) rfl ?_
  refine J_iload_n hX dJ3_checkIndex_8e157_5 1 rfl (t := 6) rfl ?_
  refine J_icmp_lt (tgt := 16) hX dJ3_checkIndex_8e157_6 (by decide) (t := 9) rfl (fun z => ?_) (fun z => absurd h1 z)
  refine J_iload_n hX dJ3_checkIndex_8e157_16 0 rfl (t := 17) rfl ?_
  exact J_iretP hX hR hlk (fun H h => ⟨rfl, h⟩) dJ3_checkIndex_8e157_17
theorem ct_sciP {G : GG} {l : Launch} {I : Heap → Prop} {x n : Int32} (h0 : ¬ x < 0) (h1 : x < n) : CTP G l yJ0_checkIndex_df160 cJ0_checkIndex_df160 2 none rb1 0 0 [.int x, .int n] I (fun r H => r = none ∧ I H) := by
  refine CTP.of miJ0_checkIndex_df160 [(0, .int x), (1, .int n)] rfl (Nat.le_of_ble_eq_true rfl) ?_
  intro p e s m args below meth c hX hR hlk
  refine J_iload_n hX dJ0_checkIndex_df160_0 0 rfl (t := 1) rfl ?_
  refine J_iload_n hX dJ0_checkIndex_df160_1 1 rfl (t := 2) rfl ?_
  refine J_gsq hX hX.G2.2.1 q_969 dJ0_checkIndex_df160_2 (t := 5) rfl (fun v hv => ?_)
  refine J_callSP hX [.int x, .int n, v] [] (ct_pciP hv h0 h1) miJ3_checkIndex_8e157 q_972 q_971 ⟨rfl, rfl, Nat.le_of_ble_eq_true rfl, Nat.le_of_ble_eq_true rfl⟩ rfl rfl (Nat.le_of_ble_eq_true rfl) ⟨Nat.le_of_ble_eq_true rfl, Nat.le_of_ble_eq_true rfl⟩ dJ0_checkIndex_df160_5 (t := 8) rfl (fun r => J_pure fun hr => ?_)
  subst hr
  refine J_pop hX dJ0_checkIndex_df160_8 rfl (t := 9) rfl ?_
  exact J_vretP hX hR hlk (fun H h => ⟨rfl, h⟩) dJ0_checkIndex_df160_9
theorem ct_ch5 {G : GG} {l : Launch} {b : Nat} {q cap a k : Nat} {ml : Int32} {bs : Nat → Int32} (hac : a ≤ cap) (hc : cap < 2 ^ 20) (hk : k < a) : CTP G l yJ5_charAt_5068e cJ5_charAt_5068e 5 (some .char) rb2 0 0 [.ref b, .int (nI k)] (SE G b q cap ml (nI a) bs) (fun r H => r = some (.int (((bs k) &&& 255).toUInt32 % 65536).toInt32) ∧ SE G b q cap ml (nI a) bs H) := by
  refine CTP.of miJ5_charAt_5068e [(0, .ref b), (1, .int (nI k))] rfl (Nat.le_of_ble_eq_true rfl) ?_
  intro p e s m args below meth c hX hR hlk
  have hX : FX G RJ5 cJ5_charAt_5068e 5 p s m args c := hX
  refine J_aload_n hX dJ5_charAt_5068e_0 0 rfl (t := 1) rfl ?_
  refine J_sbGet hX 1 (by decide) q_549 rfl dJ5_charAt_5068e_1 (t := 4) rfl ?_
  refine J_istore_n (lc2 := [(2, .int 0), (0, .ref b), (1, .int (nI k))]) hX dJ5_charAt_5068e_4 rfl (Nat.le_of_ble_eq_true rfl) rfl (t := 5) rfl ?_
  refine J_aload_n hX dJ5_charAt_5068e_5 1 rfl (t := 6) rfl ?_
  refine J_sbGet hX 0 (by decide) q_548 rfl dJ5_charAt_5068e_6 (t := 9) rfl ?_
  refine J_astore_n (lc2 := [(3, .ref q), (2, .int 0), (0, .ref b), (1, .int (nI k))]) hX dJ5_charAt_5068e_9 rfl (Nat.le_of_ble_eq_true rfl) rfl (t := 10) rfl ?_
  refine J_aload_n hX dJ5_charAt_5068e_10 2 rfl (t := 11) rfl ?_
  refine J_sbGet hX 3 (by decide) q_552 rfl dJ5_charAt_5068e_11 (t := 14) rfl ?_
  refine J_aload_n hX dJ5_charAt_5068e_14 0 rfl (t := 15) rfl ?_
  refine J_sbLen hX rfl dJ5_charAt_5068e_15 (t := 16) rfl ?_
  refine J_iload_n hX dJ5_charAt_5068e_16 1 rfl (t := 17) rfl ?_
  refine J_ishr hX dJ5_charAt_5068e_17 (t := 18) rfl ?_
  refine J_val (sb_shr0 _) ?_
  refine J_min hX ⟨q_1947, q_732, q_162, q_733⟩ ⟨Nat.le_of_ble_eq_true rfl, Nat.le_of_ble_eq_true rfl, Nat.le_of_ble_eq_true rfl, Nat.le_of_ble_eq_true rfl⟩ dJ5_charAt_5068e_18 (t := 21) rfl ?_
  refine J_val (show (if Int32.ofNat cap < nI a then Int32.ofNat cap else nI a) = nI a from if_neg (nI_nlt hac (by omega))) ?_
  refine J_istore (lc2 := [(4, .int (nI a)), (3, .ref q), (2, .int 0), (0, .ref b), (1, .int (nI k))]) hX dJ5_charAt_5068e_21 (Nat.le_of_ble_eq_true rfl) rfl (t := 23) rfl ?_
  refine J_iload_n hX dJ5_charAt_5068e_23 4 rfl (t := 24) rfl ?_
  refine J_iload hX dJ5_charAt_5068e_24 0 rfl (t := 26) rfl ?_
  refine J_callSP hX [.int (nI k), .int (nI a)] [] (ct_sciP (nI_pos (by omega)) (nI_lt hk (by omega))) miJ0_checkIndex_df160 q_967 q_1948 ⟨rfl, rfl, Nat.le_of_ble_eq_true rfl, Nat.le_of_ble_eq_true rfl⟩ rfl rfl (Nat.le_of_ble_eq_true rfl) ⟨Nat.le_of_ble_eq_true rfl, Nat.le_of_ble_eq_true rfl⟩ dJ5_charAt_5068e_26 (t := 29) rfl (fun r => J_pure fun hr => ?_)
  subst hr
  refine J_iload_n hX dJ5_charAt_5068e_29 2 rfl (t := 30) rfl ?_
  refine J_if_ne (tgt := 42) hX dJ5_charAt_5068e_30 (by decide) (t := 33) rfl (fun z => absurd rfl z) (fun z => ?_)
  refine J_aload_n hX dJ5_charAt_5068e_33 1 rfl (t := 34) rfl ?_
  refine J_iload_n hX dJ5_charAt_5068e_34 4 rfl (t := 35) rfl ?_
  refine J_sbLd hX (inbN (by omega) (by omega)) (v := bs k) (by rw [nI_clamp (by omega)]) dJ5_charAt_5068e_35 (t := 36) rfl ?_
  refine J_sipush (v := 255) hX dJ5_charAt_5068e_36 (by decide) (t := 39) rfl ?_
  refine J_iand hX dJ5_charAt_5068e_39 (t := 40) rfl ?_
  refine J_i2c hX dJ5_charAt_5068e_40 (t := 41) rfl ?_
  exact J_nretP hX hR hlk (pk_nc _) (fun H h => ⟨rfl, h⟩) dJ5_charAt_5068e_41
theorem ct_ln5 {G : GG} {l : Launch} {b : Nat} {q cap : Nat} {ml n : Int32} {bs : Nat → Int32} : CTP G l yJ5_length_8abf5 cJ5_length_8abf5 1 (some .int) rmO 0 0 [.ref b] (SE G b q cap ml n bs) (fun r H => r = some (.int n) ∧ SE G b q cap ml n bs H) := by
  refine CTP.of miJ5_length_8abf5 [(0, .ref b)] rfl (Nat.le_of_ble_eq_true rfl) ?_
  intro p e s m args below meth c hX hR hlk
  have hX : FX G RJ5 cJ5_length_8abf5 1 p s m args c := hX
  refine J_aload_n hX dJ5_length_8abf5_0 0 rfl (t := 1) rfl ?_
  refine J_sbGet hX 3 (by decide) q_552 rfl dJ5_length_8abf5_1 (t := 4) rfl ?_
  exact J_iretP hX hR hlk (fun H h => ⟨rfl, h⟩) dJ5_length_8abf5_4
