theorem p_26 : Cond.initialized RJ5 ∈ WALL := WALL_in (List.mem_append_right _ (List.mem_append_left _ (List.mem_of_getElem? (i := 2) rfl))) rfl
theorem p_27 : Cond.initialized RJ4 ∈ WALL := WALL_in (List.mem_append_right _ (List.mem_append_left _ (List.mem_of_getElem? (i := 3) rfl))) rfl
theorem p_28 : Cond.initialized RJ0 ∈ WALL := WALL_in (List.mem_append_right _ (List.mem_append_left _ (List.mem_of_getElem? (i := 4) rfl))) rfl
theorem p_33 : Cond.initialized RJ10 ∈ WALL := WALL_in (List.mem_append_right _ (List.mem_append_left _ (List.mem_of_getElem? (i := 9) rfl))) rfl
theorem p_410 : Cond.fieldLink RJ5 18 RJ0 "COMPACT_STRINGS" "Z" ∈ WALL := WALL_in (List.mem_append_right _ (List.mem_append_right _ (List.mem_append_left _ (List.mem_of_getElem? (i := 146) rfl)))) rfl
theorem p_419 : Cond.fieldLink RJ5 15 RJ5 "value" "[B" ∈ WALL := WALL_in (List.mem_append_right _ (List.mem_append_right _ (List.mem_append_left _ (List.mem_of_getElem? (i := 155) rfl)))) rfl
theorem p_420 : Cond.fieldLink RJ5 22 RJ5 "coder" "B" ∈ WALL := WALL_in (List.mem_append_right _ (List.mem_append_right _ (List.mem_append_left _ (List.mem_of_getElem? (i := 156) rfl)))) rfl
theorem p_422 : Cond.fieldLink RJ5 79 RJ5 "count" "I" ∈ WALL := WALL_in (List.mem_append_right _ (List.mem_append_right _ (List.mem_append_left _ (List.mem_of_getElem? (i := 158) rfl)))) rfl
theorem p_431 : Cond.superclass RJ4 RJ5 ∈ WALL := WALL_in (List.mem_append_right _ (List.mem_append_right _ (List.mem_append_left _ (List.mem_of_getElem? (i := 167) rfl)))) rfl
theorem p_521 : Cond.methodLink RJ0 335 yJ0_coder_7d493 ∈ WALL := WALL_in (List.mem_append_right _ (List.mem_append_right _ (List.mem_append_right _ (List.mem_append_left _ (List.mem_of_getElem? (i := 17) rfl))))) rfl
theorem p_525 : Cond.fieldLink RJ0 38 RJ0 "COMPACT_STRINGS" "Z" ∈ WALL := WALL_in (List.mem_append_right _ (List.mem_append_right _ (List.mem_append_right _ (List.mem_append_left _ (List.mem_of_getElem? (i := 21) rfl))))) rfl
theorem p_1081 : Cond.instanceMethod yJ4_append_15ec4 ∈ WALL := WALL_in (List.mem_append_right _ (List.mem_append_right _ (List.mem_append_right _ (List.mem_append_right _ (List.mem_append_right _ (List.mem_append_left _ (List.mem_of_getElem? (i := 97) rfl))))))) rfl
theorem p_1082 : Cond.selects RJ4 yJ4_append_15ec4 yJ4_append_15ec4 ∈ WALL := WALL_in (List.mem_append_right _ (List.mem_append_right _ (List.mem_append_right _ (List.mem_append_right _ (List.mem_append_right _ (List.mem_append_left _ (List.mem_of_getElem? (i := 98) rfl))))))) rfl
theorem p_1083 : Cond.code yJ4_append_15ec4 cJ4_append_15ec4 2 (some (.object RJ4)) ∈ WALL := WALL_in (List.mem_append_right _ (List.mem_append_right _ (List.mem_append_right _ (List.mem_append_right _ (List.mem_append_right _ (List.mem_append_left _ (List.mem_of_getElem? (i := 99) rfl))))))) rfl
theorem p_1084 : Cond.methodLink RJ4 29 yJ5_append_cf1ce ∈ WALL := WALL_in (List.mem_append_right _ (List.mem_append_right _ (List.mem_append_right _ (List.mem_append_right _ (List.mem_append_right _ (List.mem_append_left _ (List.mem_of_getElem? (i := 100) rfl))))))) rfl
theorem p_1085 : Cond.instanceMethod yJ5_append_cf1ce ∈ WALL := WALL_in (List.mem_append_right _ (List.mem_append_right _ (List.mem_append_right _ (List.mem_append_right _ (List.mem_append_right _ (List.mem_append_left _ (List.mem_of_getElem? (i := 101) rfl))))))) rfl
theorem p_1086 : Cond.code yJ5_append_cf1ce cJ5_append_cf1ce 3 (some (.object RJ5)) ∈ WALL := WALL_in (List.mem_append_right _ (List.mem_append_right _ (List.mem_append_right _ (List.mem_append_right _ (List.mem_append_right _ (List.mem_append_left _ (List.mem_of_getElem? (i := 102) rfl))))))) rfl
theorem p_1091 : Cond.methodLink RJ5 100 yJ5_ensureCapacityInternal_d00df ∈ WALL := WALL_in (List.mem_append_right _ (List.mem_append_right _ (List.mem_append_right _ (List.mem_append_right _ (List.mem_append_right _ (List.mem_append_left _ (List.mem_of_getElem? (i := 107) rfl))))))) rfl
theorem p_1093 : Cond.instanceMethod yJ5_ensureCapacityInternal_d00df ∈ WALL := WALL_in (List.mem_append_right _ (List.mem_append_right _ (List.mem_append_right _ (List.mem_append_right _ (List.mem_append_right _ (List.mem_append_left _ (List.mem_of_getElem? (i := 109) rfl))))))) rfl
theorem p_1120 : Cond.static ⟨RJ10, "arraycopy", "(Ljava/lang/Object;ILjava/lang/Object;II)V"⟩ ∈ WALL := WALL_in (List.mem_append_right _ (List.mem_append_right _ (List.mem_append_right _ (List.mem_append_right _ (List.mem_append_right _ (List.mem_append_left _ (List.mem_of_getElem? (i := 136) rfl))))))) rfl
theorem p_1121 : Cond.native ⟨RJ10, "arraycopy", "(Ljava/lang/Object;ILjava/lang/Object;II)V"⟩ ∈ WALL := WALL_in (List.mem_append_right _ (List.mem_append_right _ (List.mem_append_right _ (List.mem_append_right _ (List.mem_append_right _ (List.mem_append_left _ (List.mem_of_getElem? (i := 137) rfl))))))) rfl
theorem p_1142 : Cond.methodLink RJ5 32 yJ0_length_8abf5 ∈ WALL := WALL_in (List.mem_append_right _ (List.mem_append_right _ (List.mem_append_right _ (List.mem_append_right _ (List.mem_append_right _ (List.mem_append_left _ (List.mem_of_getElem? (i := 158) rfl))))))) rfl
theorem p_1143 : Cond.methodLink RJ5 208 yJ5_putStringAt_47b60 ∈ WALL := WALL_in (List.mem_append_right _ (List.mem_append_right _ (List.mem_append_right _ (List.mem_append_right _ (List.mem_append_right _ (List.mem_append_left _ (List.mem_of_getElem? (i := 159) rfl))))))) rfl
theorem p_1145 : Cond.instanceMethod yJ5_putStringAt_47b60 ∈ WALL := WALL_in (List.mem_append_right _ (List.mem_append_right _ (List.mem_append_right _ (List.mem_append_right _ (List.mem_append_right _ (List.mem_append_left _ (List.mem_of_getElem? (i := 161) rfl))))))) rfl
theorem p_1146 : Cond.code yJ5_putStringAt_47b60 cJ5_putStringAt_47b60 3 none ∈ WALL := WALL_in (List.mem_append_right _ (List.mem_append_right _ (List.mem_append_right _ (List.mem_append_right _ (List.mem_append_right _ (List.mem_append_left _ (List.mem_of_getElem? (i := 162) rfl))))))) rfl
theorem p_1147 : Cond.methodLink RJ5 397 yJ5_inflateIfNeededFor_a7421 ∈ WALL := WALL_in (List.mem_append_right _ (List.mem_append_right _ (List.mem_append_right _ (List.mem_append_right _ (List.mem_append_right _ (List.mem_append_left _ (List.mem_of_getElem? (i := 163) rfl))))))) rfl
theorem p_1149 : Cond.instanceMethod yJ5_inflateIfNeededFor_a7421 ∈ WALL := WALL_in (List.mem_append_right _ (List.mem_append_right _ (List.mem_append_right _ (List.mem_append_right _ (List.mem_append_right _ (List.mem_append_left _ (List.mem_of_getElem? (i := 165) rfl))))))) rfl
theorem p_1150 : Cond.code yJ5_inflateIfNeededFor_a7421 cJ5_inflateIfNeededFor_a7421 2 none ∈ WALL := WALL_in (List.mem_append_right _ (List.mem_append_right _ (List.mem_append_right _ (List.mem_append_right _ (List.mem_append_right _ (List.mem_append_left _ (List.mem_of_getElem? (i := 166) rfl))))))) rfl
theorem p_1151 : Cond.methodLink RJ5 40 yJ0_coder_7d493 ∈ WALL := WALL_in (List.mem_append_right _ (List.mem_append_right _ (List.mem_append_right _ (List.mem_append_right _ (List.mem_append_right _ (List.mem_append_left _ (List.mem_of_getElem? (i := 167) rfl))))))) rfl
theorem p_1171 : Cond.methodLink RJ5 399 yJ0_getBytes_840e7 ∈ WALL := WALL_in (List.mem_append_right _ (List.mem_append_right _ (List.mem_append_right _ (List.mem_append_right _ (List.mem_append_right _ (List.mem_append_left _ (List.mem_of_getElem? (i := 187) rfl))))))) rfl
theorem p_1172 : Cond.instanceMethod yJ0_getBytes_840e7 ∈ WALL := WALL_in (List.mem_append_right _ (List.mem_append_right _ (List.mem_append_right _ (List.mem_append_right _ (List.mem_append_right _ (List.mem_append_left _ (List.mem_of_getElem? (i := 188) rfl))))))) rfl
theorem p_1173 : Cond.selects RJ0 yJ0_getBytes_840e7 yJ0_getBytes_840e7 ∈ WALL := WALL_in (List.mem_append_right _ (List.mem_append_right _ (List.mem_append_right _ (List.mem_append_right _ (List.mem_append_right _ (List.mem_append_left _ (List.mem_of_getElem? (i := 189) rfl))))))) rfl
theorem p_1174 : Cond.code yJ0_getBytes_840e7 cJ0_getBytes_840e7 4 none ∈ WALL := WALL_in (List.mem_append_right _ (List.mem_append_right _ (List.mem_append_right _ (List.mem_append_right _ (List.mem_append_right _ (List.mem_append_left _ (List.mem_of_getElem? (i := 190) rfl))))))) rfl
theorem p_1175 : Cond.methodLink RJ0 212 ⟨RJ10, "arraycopy", "(Ljava/lang/Object;ILjava/lang/Object;II)V"⟩ ∈ WALL := WALL_in (List.mem_append_right _ (List.mem_append_right _ (List.mem_append_right _ (List.mem_append_right _ (List.mem_append_right _ (List.mem_append_left _ (List.mem_of_getElem? (i := 191) rfl))))))) rfl
theorem p_1184 : Cond.instanceMethod yJ4_append_cf468 ∈ WALL := WALL_in (List.mem_append_right _ (List.mem_append_right _ (List.mem_append_right _ (List.mem_append_right _ (List.mem_append_right _ (List.mem_append_left _ (List.mem_of_getElem? (i := 200) rfl))))))) rfl
theorem p_1185 : Cond.selects RJ4 yJ4_append_cf468 yJ4_append_cf468 ∈ WALL := WALL_in (List.mem_append_right _ (List.mem_append_right _ (List.mem_append_right _ (List.mem_append_right _ (List.mem_append_right _ (List.mem_append_left _ (List.mem_of_getElem? (i := 201) rfl))))))) rfl
theorem p_1187 : Cond.methodLink RJ4 50 yJ5_append_3fe6f ∈ WALL := WALL_in (List.mem_append_right _ (List.mem_append_right _ (List.mem_append_right _ (List.mem_append_right _ (List.mem_append_right _ (List.mem_append_left _ (List.mem_of_getElem? (i := 203) rfl))))))) rfl
theorem p_1188 : Cond.instanceMethod yJ5_append_3fe6f ∈ WALL := WALL_in (List.mem_append_right _ (List.mem_append_right _ (List.mem_append_right _ (List.mem_append_right _ (List.mem_append_right _ (List.mem_append_left _ (List.mem_of_getElem? (i := 204) rfl))))))) rfl
theorem p_1198 : Cond.instanceMethod yJ4_append_bf812 ∈ WALL := WALL_in (List.mem_append_right _ (List.mem_append_right _ (List.mem_append_right _ (List.mem_append_right _ (List.mem_append_right _ (List.mem_append_left _ (List.mem_of_getElem? (i := 214) rfl))))))) rfl
theorem p_1199 : Cond.selects RJ4 yJ4_append_bf812 yJ4_append_bf812 ∈ WALL := WALL_in (List.mem_append_right _ (List.mem_append_right _ (List.mem_append_right _ (List.mem_append_right _ (List.mem_append_right _ (List.mem_append_left _ (List.mem_of_getElem? (i := 215) rfl))))))) rfl
theorem p_1201 : Cond.methodLink RJ4 53 yJ5_append_c97b9 ∈ WALL := WALL_in (List.mem_append_right _ (List.mem_append_right _ (List.mem_append_right _ (List.mem_append_right _ (List.mem_append_right _ (List.mem_append_left _ (List.mem_of_getElem? (i := 217) rfl))))))) rfl
theorem p_1202 : Cond.instanceMethod yJ5_append_c97b9 ∈ WALL := WALL_in (List.mem_append_right _ (List.mem_append_right _ (List.mem_append_right _ (List.mem_append_right _ (List.mem_append_right _ (List.mem_append_left _ (List.mem_of_getElem? (i := 218) rfl))))))) rfl
theorem p_1497 : Cond.fieldLink RJ0 9 RJ0 "value" "[B" ∈ WALL := WALL_in (List.mem_append_right _ (List.mem_append_right _ (List.mem_append_right _ (List.mem_append_right _ (List.mem_append_right _ (List.mem_append_right _ (List.mem_append_right _ (List.mem_of_getElem? (i := 33) rfl)))))))) rfl
theorem p_1498 : Cond.fieldLink RJ0 15 RJ0 "coder" "B" ∈ WALL := WALL_in (List.mem_append_right _ (List.mem_append_right _ (List.mem_append_right _ (List.mem_append_right _ (List.mem_append_right _ (List.mem_append_right _ (List.mem_append_right _ (List.mem_of_getElem? (i := 34) rfl)))))))) rfl
theorem p_1604 : Cond.sameMethod RJ5 RJ5 "append" "(Ljava/lang/String;)Ljava/lang/AbstractStringBuilder;" ∈ WALL := WALL_in (List.mem_append_right _ (List.mem_append_right _ (List.mem_append_right _ (List.mem_append_right _ (List.mem_append_right _ (List.mem_append_right _ (List.mem_append_right _ (List.mem_of_getElem? (i := 140) rfl)))))))) rfl
theorem p_1611 : Cond.sameMethod RJ5 RJ5 "append" "(C)Ljava/lang/AbstractStringBuilder;" ∈ WALL := WALL_in (List.mem_append_right _ (List.mem_append_right _ (List.mem_append_right _ (List.mem_append_right _ (List.mem_append_right _ (List.mem_append_right _ (List.mem_append_right _ (List.mem_of_getElem? (i := 147) rfl)))))))) rfl
theorem p_1612 : Cond.sameMethod RJ5 RJ5 "append" "(I)Ljava/lang/AbstractStringBuilder;" ∈ WALL := WALL_in (List.mem_append_right _ (List.mem_append_right _ (List.mem_append_right _ (List.mem_append_right _ (List.mem_append_right _ (List.mem_append_right _ (List.mem_append_right _ (List.mem_of_getElem? (i := 148) rfl)))))))) rfl
theorem miJ0_getBytes_840e7 : MI yJ0_getBytes_840e7 cJ0_getBytes_840e7 4 none 3 := ⟨p_1174, p_28, by decide +kernel, by decide +kernel, by decide +kernel, by decide +kernel⟩
theorem miJ5_inflateIfNeededFor_a7421 : MI yJ5_inflateIfNeededFor_a7421 cJ5_inflateIfNeededFor_a7421 2 none 1 := ⟨p_1150, p_26, by decide +kernel, by decide +kernel, by decide +kernel, by decide +kernel⟩
theorem miJ5_putStringAt_47b60 : MI yJ5_putStringAt_47b60 cJ5_putStringAt_47b60 3 none 2 := ⟨p_1146, p_26, by decide +kernel, by decide +kernel, by decide +kernel, by decide +kernel⟩
theorem miJ5_append_cf1ce : MI yJ5_append_cf1ce cJ5_append_cf1ce 3 (some (.object RJ5)) 1 := ⟨p_1086, p_26, by decide +kernel, by decide +kernel, by decide +kernel, by decide +kernel⟩
theorem miJ4_append_15ec4 : MI yJ4_append_15ec4 cJ4_append_15ec4 2 (some (.object RJ4)) 1 := ⟨p_1083, p_27, by decide +kernel, by decide +kernel, by decide +kernel, by decide +kernel⟩
theorem mvJ0_getBytes_840e7 : MV yJ0_getBytes_840e7 := ⟨p_1172, p_1173⟩
theorem mvJ4_append_15ec4 : MV yJ4_append_15ec4 := ⟨p_1081, p_1082⟩
theorem mvJ4_append_cf468 : MV yJ4_append_cf468 := ⟨p_1184, p_1185⟩
theorem mvJ4_append_bf812 : MV yJ4_append_bf812 := ⟨p_1198, p_1199⟩
theorem FX.sw {G : GG} {own : String} {cc : ByteArray} {p : Program} {s : State} {m : MethodId} {args : Array Value} {c : Code} {nL : Nat} (hX : FX G own cc nL p s m args c) {i : Nat} (hi : i < 11) : va_O "java/lang/String" (ga G (50 + i)) (gS G) s s.heap ∧ va_OF "java/lang/String" "coder" "B" (.int 0) (ga G (50 + i)) (gS G) s s.heap ∧ va_OF "java/lang/String" "value" "[B" (.ref (ga G (70 + i))) (ga G (50 + i)) (gS G) s s.heap ∧ va_T .byte (ga G (70 + i)) (lwLen.getD i 0) (fun j => .int ((lwByt.getD i []).getD j 0)) (gS G) s s.heap := hX.G2.2.2.2.2.2.2.1.1 i hi
theorem lw_small : ∀ i, i < 11 → lwLen.getD i 0 ≤ 10 ∧ 1 ≤ lwLen.getD i 0 := by decide
theorem lw_fits : ∀ i, i < 11 → ∀ j, j < 10 → fits .byte (.int ((lwByt.getD i []).getD j 0)) = true := by decide
theorem two_P {D : va_G} {cl : List vw_C} {x y : Nat × va_E} {H : Heap} (h1 : va_at D cl x H) (h2 : va_at D cl y H) : va_P D cl [x, y] H := fun k z hz => by
  match k, hz with
  | 0, hz => cases hz; exact h1
  | 1, hz => cases hz; exact h2
  | k + 2, hz => simp at hz
theorem two_D {A : Nat → Prop} {x y : Nat × va_E} (h1 : A x.1) (h2 : A y.1) (h : x.1 ≠ y.1) : va_D A [x, y] := by
  refine ⟨fun i j a b hi hj e => ?_, fun k z hz => ?_⟩
  · match i, j, hi, hj with
    | 0, 0, _, _ => rfl
    | 1, 1, _, _ => rfl
    | 0, 1, hi, hj => cases hi; cases hj; exact absurd e h
    | 1, 0, hi, hj => cases hi; cases hj; exact absurd e.symm h
    | i + 2, _, hi, _ => simp at hi
    | 0, j + 2, _, hj => simp at hj
    | 1, j + 2, _, hj => simp at hj
  · match k, hz with
    | 0, hz => cases hz; exact h1
    | 1, hz => cases hz; exact h2
    | k + 2, hz => simp at hz
section STR2
variable {G : GG} {own : String} {cc : ByteArray} {p : Program} {l : Launch} {e : Env} {R : Room} {s : State} {m : MethodId} {args : Array Value} {below : List Frame} {meth : Method} {c : Code} {nL cells slots : Nat} {Q : State → Prop} {pc t : Nat} {lc : List (Nat × Value)} {st : List Value} {I : Heap → Prop} {b q cap : Nat} {ml n : Int32} {bs : Nat → Int32}
/-- a virtual call of an object that never changes -/
theorem J_callOP (hX : FX G own cc nL p s m args c) {y : MethodName} {cd : ByteArray} {mL n9 index mc ms a : Nat} {ret : Option FieldType} {rm : Room} {P : Option Value → Heap → Prop} (As rest : List Value) (hM : CTP G l y cd mL ret rm mc ms (.ref a :: As) I P) (mi : MI y cd mL ret n9) (mv : MV y) (hO : va_O y.cls a (gS G) s s.heap) (hw : Cond.methodLink own index y ∈ WALL) (hrm : rm.cells = mc ∧ rm.slots = ms ∧ rm.frames + 1 ≤ R.frames ∧ 8 + (mL + 11) + rm.locals ≤ R.locals) (hn : As.length = n9) (hst : st = As.reverse ++ .ref a :: rest) (hcat : (rest.map fun v => v.category).sum ≤ 8) (hf : cells + mc ≤ R.cells ∧ slots + ms ≤ R.slots)
    (hdg : decode cc pc = .ok (.invokevirtual index, 3)) (ht : pc + 3 = t) (kk : ∀ v, J G p l e R s m args below meth c nL (cells + mc) (slots + ms) Q (P v) t lc (v.toList ++ rest)) : J G p l e R s m args below meth c nL cells slots Q I pc lc st := by
  subst ht
  intro H locs ls h1 h2 h3
  obtain ⟨cell, e1, e2, e3, -⟩ := hO.kept (hX.s3 h3).2.1
  exact J_runP (va_runV (C := y.cls) (As := As) (rest := rest) ⟨hX.1, hX.2.1, hX.2.2.1, hX.2.2.2.1, hX.2.2.2.2.1⟩ hM ⟨cb_call hX mi hw hrm, hX.2.2.2.2.1 _ mv.1, hX.2.2.2.2.1 _ mv.2⟩ ⟨GI.blind G I _, ⟨cell, e1, e2, e3⟩, fun U hU hW => ⟨rfl, hX.preI h2 h3 U hU hW⟩⟩ rfl hn h1.1 hst (lv_room hcat) hdg hf) h3 h1 kk
/-- a constant's letters are copied into the builder's row -/
theorem J_tcopy (hX : FX G own cc nL p s m args c) {b0 n0 : Nat} {f : Nat → Int32} (hT : va_T .byte b0 n0 (fun j => .int (f j)) (gS G) s s.heap) {index : Nat} {sp dp x : Int32} (h1 : ¬ sp < 0) (h2 : ¬ dp < 0) (h3 : ¬ x < 0) (h4 : sp.toNatClampNeg + x.toNatClampNeg ≤ n0) (h5 : dp.toNatClampNeg + x.toNatClampNeg ≤ cap) (hfit : ∀ i : Nat, i < x.toNatClampNeg → fits .byte (.int (f (sp.toNatClampNeg + i))) = true) (hw : Cond.methodLink own index arraycopyName ∈ WALL ∧ Cond.native arraycopyName ∈ WALL ∧ Cond.static arraycopyName ∈ WALL ∧ Cond.initialized "java/lang/System" ∈ WALL) (hroom : 1 ≤ R.frames ∧ (st.map fun v => v.category).sum + (nativeFrameWords "java/lang/System" "arraycopy" 5 + 11) ≤ R.locals) (hdg : decode cc pc = .ok (.invokestatic index, 3)) (ht : pc + 3 = t)
    (kk : J G p l e R s m args below meth c nL cells slots Q (SE G b q cap ml n (va_cpy f bs sp.toNatClampNeg dp.toNatClampNeg x.toNatClampNeg)) t lc st) : J G p l e R s m args below meth c nL cells slots Q (SE G b q cap ml n bs) pc lc (.int x :: .int dp :: .ref q :: .int sp :: .ref b0 :: st) := by
  subst ht
  intro H locs ls k1 k2 k3
  obtain ⟨i1, i2, i3, i4⟩ := k2
  refine vk_copyt (D := gD G) (cl := jcl) (tys := jtys G) (A := gA G) (ws := [(q, aB G cap bs), (b, .inr (11, [.ref q, .int 0, .int ml, .int n]))]) hX.1 hX.2.1 (hX.2.2.1.trans k1.1.symm) hX.2.2.2.1 (hX.2.2.2.2.1 _ hw.1) (hX.2.2.2.2.1 _ hw.2.1) (hX.2.2.2.2.1 _ hw.2.2.1) (hX.2.2.2.2.1 _ hw.2.2.2) hX.2.2.2.2.2.1 (two_P i4 i3) (two_D i2.1 i1 (Ne.symm i2.2)) k3 (hT.narrow hX.2.2.2.2.2.2.2.2.1) 0 1 rfl rfl h1 h2 h3 h4 h5 hfit hroom.1 hroom.2 hdg fun H1 locs1 e1 e2 e3 => ?_
  exact kk H1 locs1 ls k1 ⟨i1, i2, e1 1 _ rfl, e1 0 _ rfl⟩ e3
theorem J_nnull (hX : FX G own cc nL p s m args c) {a : Nat} {off : Int} {tgt : Nat} (hdg : decode cc pc = .ok (.ifnonnull off, 3)) (hg : (pc : Int) + off = (tgt : Int)) (kk : J G p l e R s m args below meth c nL cells slots Q I tgt lc st) : J G p l e R s m args below meth c nL cells slots Q I pc lc (.ref a :: st) := by
  intro H locs ls h1 h2 h3
  exact lv_ifnonnull hX.1 hX.2.1 hdg hg (kk H locs ls h1 h2 h3)
end STR2

theorem ct_codW {G : GG} {l : Launch} {I : Heap → Prop} {i : Nat} (hi : i < 11) : CTP G l yJ0_coder_7d493 cJ0_coder_7d493 1 (some .byte) rmO 0 0 [.ref (ga G (50 + i))] I (fun v H => v = some (.int 0) ∧ I H) := by
  refine CTP.of miJ0_coder_7d493 [(0, .ref (ga G (50 + i)))] rfl (Nat.le_of_ble_eq_true rfl) ?_
  intro p e s m args below meth c hX hR hlk
  have hX : FX G RJ0 cJ0_coder_7d493 1 p s m args c := hX
  refine J_gst hX hX.G2.1 p_525 dJ0_coder_7d493_0 (t := 3) rfl ?_
  refine J_if_eq (tgt := 13) hX dJ0_coder_7d493_3 (by decide) (t := 6) rfl (fun z => absurd z (by decide)) (fun z => ?_)
  refine J_aload_n hX dJ0_coder_7d493_6 0 rfl (t := 7) rfl ?_
  refine J_getO hX (hX.sw hi).2.1 p_1498 dJ0_coder_7d493_7 (t := 10) rfl ?_
  refine J_goto (tgt := 14) hX dJ0_coder_7d493_10 (by decide) ?_
  exact J_nretP hX hR hlk rfl (fun H h => ⟨rfl, h⟩) dJ0_coder_7d493_14
theorem ct_lenW {G : GG} {l : Launch} {I : Heap → Prop} {i : Nat} (hi : i < 11) : CTP G l yJ0_length_8abf5 cJ0_length_8abf5 1 (some .int) rm1 0 0 [.ref (ga G (50 + i))] I (fun v H => v = some (.int (nI (lwLen.getD i 0))) ∧ I H) := by
  refine CTP.of miJ0_length_8abf5 [(0, .ref (ga G (50 + i)))] rfl (Nat.le_of_ble_eq_true rfl) ?_
  intro p e s m args below meth c hX hR hlk
  have hX : FX G RJ0 cJ0_length_8abf5 1 p s m args c := hX
  refine J_aload_n hX dJ0_length_8abf5_0 0 rfl (t := 1) rfl ?_
  refine J_getO hX (hX.sw hi).2.2.1 p_1497 dJ0_length_8abf5_1 (t := 4) rfl ?_
  refine J_tlen hX (hX.sw hi).2.2.2 rfl dJ0_length_8abf5_4 (t := 5) rfl ?_
  refine J_aload_n hX dJ0_length_8abf5_5 0 rfl (t := 6) rfl ?_
  refine J_callOP hX [] [.int (Int32.ofNat (lwLen.getD i 0))] (ct_codW hi) miJ0_coder_7d493 mvJ0_coder_7d493 (hX.sw hi).1 p_521 ⟨rfl, rfl, Nat.le_of_ble_eq_true rfl, Nat.le_of_ble_eq_true rfl⟩ rfl rfl (Nat.le_of_ble_eq_true rfl) ⟨Nat.le_of_ble_eq_true rfl, Nat.le_of_ble_eq_true rfl⟩ dJ0_length_8abf5_6 (t := 9) rfl (fun v => J_pure fun hv => ?_)
  subst hv
  refine J_ishr hX dJ0_length_8abf5_9 (t := 10) rfl ?_
  refine J_val (sb_shr0 _) ?_
  exact J_iretP hX hR hlk (fun H h => ⟨rfl, h⟩) dJ0_length_8abf5_10
theorem ct_inf {G : GG} {l : Launch} {b q cap : Nat} {ml n : Int32} {bs : Nat → Int32} {i : Nat} (hi : i < 11) : CTP G l yJ5_inflateIfNeededFor_a7421 cJ5_inflateIfNeededFor_a7421 2 none rm1 0 0 [.ref b, .ref (ga G (50 + i))] (SE G b q cap ml n bs) (fun v H => v = none ∧ SE G b q cap ml n bs H) := by
  refine CTP.of miJ5_inflateIfNeededFor_a7421 [(0, .ref b), (1, .ref (ga G (50 + i)))] rfl (Nat.le_of_ble_eq_true rfl) ?_
  intro p e s m args below meth c hX hR hlk
  have hX : FX G RJ5 cJ5_inflateIfNeededFor_a7421 2 p s m args c := hX
  refine J_gst hX hX.G2.1 p_410 dJ5_inflateIfNeededFor_a7421_0 (t := 3) rfl ?_
  refine J_if_eq (tgt := 21) hX dJ5_inflateIfNeededFor_a7421_3 (by decide) (t := 6) rfl (fun z => absurd z (by decide)) (fun z => ?_)
  refine J_aload_n hX dJ5_inflateIfNeededFor_a7421_6 0 rfl (t := 7) rfl ?_
  refine J_sbGet hX 1 (by decide) p_420 rfl dJ5_inflateIfNeededFor_a7421_7 (t := 10) rfl ?_
  refine J_aload_n hX dJ5_inflateIfNeededFor_a7421_10 1 rfl (t := 11) rfl ?_
  refine J_callOP hX [] [.int 0] (ct_codW hi) miJ0_coder_7d493 mvJ0_coder_7d493 (hX.sw hi).1 p_1151 ⟨rfl, rfl, Nat.le_of_ble_eq_true rfl, Nat.le_of_ble_eq_true rfl⟩ rfl rfl (Nat.le_of_ble_eq_true rfl) ⟨Nat.le_of_ble_eq_true rfl, Nat.le_of_ble_eq_true rfl⟩ dJ5_inflateIfNeededFor_a7421_11 (t := 14) rfl (fun v => J_pure fun hv => ?_)
  subst hv
  refine J_icmp_eq (tgt := 21) hX dJ5_inflateIfNeededFor_a7421_14 (by decide) (t := 17) rfl (fun z => ?_) (fun z => absurd rfl z)
  exact J_vretP hX hR hlk (fun H h => ⟨rfl, h⟩) dJ5_inflateIfNeededFor_a7421_21
theorem ct_gbW {G : GG} {l : Launch} {b q cap : Nat} {ml n : Int32} {bs : Nat → Int32} {i : Nat} (hi : i < 11) {a : Nat} (ha : a + lwLen.getD i 0 ≤ cap) (hc : cap < 2 ^ 20) : CTP G l yJ0_getBytes_840e7 cJ0_getBytes_840e7 4 none rm1 0 0 [.ref (ga G (50 + i)), .ref q, .int (nI a), .int 0] (SE G b q cap ml n bs) (fun v H => v = none ∧ SE G b q cap ml n (va_cpy (fun j => (lwByt.getD i []).getD j 0) bs 0 a (lwLen.getD i 0)) H) := by
  refine CTP.of miJ0_getBytes_840e7 [(0, .ref (ga G (50 + i))), (1, .ref q), (2, .int (nI a)), (3, .int 0)] rfl (Nat.le_of_ble_eq_true rfl) ?_
  intro p e s m args below meth c hX hR hlk
  have hX : FX G RJ0 cJ0_getBytes_840e7 4 p s m args c := hX
  refine J_aload_n hX dJ0_getBytes_840e7_0 0 rfl (t := 1) rfl ?_
  refine J_callOP hX [] [] (ct_codW hi) miJ0_coder_7d493 mvJ0_coder_7d493 (hX.sw hi).1 p_521 ⟨rfl, rfl, Nat.le_of_ble_eq_true rfl, Nat.le_of_ble_eq_true rfl⟩ rfl rfl (Nat.le_of_ble_eq_true rfl) ⟨Nat.le_of_ble_eq_true rfl, Nat.le_of_ble_eq_true rfl⟩ dJ0_getBytes_840e7_1 (t := 4) rfl (fun v => J_pure fun hv => ?_)
  subst hv
  refine J_iload_n hX dJ0_getBytes_840e7_4 3 rfl (t := 5) rfl ?_
  refine J_icmp_ne (tgt := 28) hX dJ0_getBytes_840e7_5 (by decide) (t := 8) rfl (fun z => absurd rfl z) (fun z => ?_)
  refine J_aload_n hX dJ0_getBytes_840e7_8 0 rfl (t := 9) rfl ?_
  refine J_getO hX (hX.sw hi).2.2.1 p_1497 dJ0_getBytes_840e7_9 (t := 12) rfl ?_
  refine J_iconst (v := 0) hX dJ0_getBytes_840e7_12 (by decide) (t := 13) rfl ?_
  refine J_aload_n hX dJ0_getBytes_840e7_13 1 rfl (t := 14) rfl ?_
  refine J_iload_n hX dJ0_getBytes_840e7_14 2 rfl (t := 15) rfl ?_
  refine J_iload_n hX dJ0_getBytes_840e7_15 3 rfl (t := 16) rfl ?_
  refine J_ishl hX dJ0_getBytes_840e7_16 (t := 17) rfl ?_
  refine J_val (sb_shl0 _) ?_
  refine J_aload_n hX dJ0_getBytes_840e7_17 0 rfl (t := 18) rfl ?_
  refine J_getO hX (hX.sw hi).2.2.1 p_1497 dJ0_getBytes_840e7_18 (t := 21) rfl ?_
  refine J_tlen (v := nI (lwLen.getD i 0)) hX (hX.sw hi).2.2.2 rfl dJ0_getBytes_840e7_21 (t := 22) rfl ?_
  have hw := lw_small i hi
  have ea : (nI a).toNatClampNeg = a := nI_clamp (by omega)
  have ew : (nI (lwLen.getD i 0)).toNatClampNeg = lwLen.getD i 0 := nI_clamp (by omega)
  refine J_tcopy hX (hX.sw hi).2.2.2 (by decide) (nI_pos (by omega)) (nI_pos (by omega)) (by rw [ew]; show 0 + _ ≤ _; omega) (by rw [ea, ew]; omega) (fun j hj => by rw [ew] at hj; exact lw_fits i hi _ (by show 0 + j < 10; omega)) ⟨p_1175, p_1121, p_1120, p_33⟩ ⟨Nat.le_of_ble_eq_true rfl, Nat.le_of_ble_eq_true rfl⟩ dJ0_getBytes_840e7_22 (t := 25) rfl ?_
  rw [ea, ew]
  refine J_goto (tgt := 43) hX dJ0_getBytes_840e7_25 (by decide) ?_
  exact J_vretP hX hR hlk (fun H h => ⟨rfl, h⟩) dJ0_getBytes_840e7_43
theorem ct_pst {G : GG} {l : Launch} {b q cap : Nat} {ml n : Int32} {bs : Nat → Int32} {i : Nat} (hi : i < 11) {a : Nat} (ha : a + lwLen.getD i 0 ≤ cap) (hc : cap < 2 ^ 20) : CTP G l yJ5_putStringAt_47b60 cJ5_putStringAt_47b60 3 none rm2 0 0 [.ref b, .int (nI a), .ref (ga G (50 + i))] (SE G b q cap ml n bs) (fun v H => v = none ∧ SE G b q cap ml n (va_cpy (fun j => (lwByt.getD i []).getD j 0) bs 0 a (lwLen.getD i 0)) H) := by
  refine CTP.of miJ5_putStringAt_47b60 [(0, .ref b), (1, .int (nI a)), (2, .ref (ga G (50 + i)))] rfl (Nat.le_of_ble_eq_true rfl) ?_
  intro p e s m args below meth c hX hR hlk
  have hX : FX G RJ5 cJ5_putStringAt_47b60 3 p s m args c := hX
  refine J_aload_n hX dJ5_putStringAt_47b60_0 0 rfl (t := 1) rfl ?_
  refine J_aload_n hX dJ5_putStringAt_47b60_1 2 rfl (t := 2) rfl ?_
  refine J_callVP hX [.ref (ga G (50 + i))] [] (ct_inf hi) miJ5_inflateIfNeededFor_a7421 p_1149 (hX.selp (by simp [selL])) SE.ob p_1147 ⟨rfl, rfl, Nat.le_of_ble_eq_true rfl, Nat.le_of_ble_eq_true rfl⟩ rfl rfl (Nat.le_of_ble_eq_true rfl) ⟨Nat.le_of_ble_eq_true rfl, Nat.le_of_ble_eq_true rfl⟩ dJ5_putStringAt_47b60_2 (t := 5) rfl (fun v => J_pure fun hv => ?_)
  subst hv
  refine J_aload_n hX dJ5_putStringAt_47b60_5 2 rfl (t := 6) rfl ?_
  refine J_aload_n hX dJ5_putStringAt_47b60_6 0 rfl (t := 7) rfl ?_
  refine J_sbGet hX 0 (by decide) p_419 rfl dJ5_putStringAt_47b60_7 (t := 10) rfl ?_
  refine J_iload_n hX dJ5_putStringAt_47b60_10 1 rfl (t := 11) rfl ?_
  refine J_aload_n hX dJ5_putStringAt_47b60_11 0 rfl (t := 12) rfl ?_
  refine J_sbGet hX 1 (by decide) p_420 rfl dJ5_putStringAt_47b60_12 (t := 15) rfl ?_
  refine J_callOP hX [.ref q, .int (nI a), .int 0] [] (ct_gbW hi ha hc) miJ0_getBytes_840e7 mvJ0_getBytes_840e7 (hX.sw hi).1 p_1171 ⟨rfl, rfl, Nat.le_of_ble_eq_true rfl, Nat.le_of_ble_eq_true rfl⟩ rfl rfl (Nat.le_of_ble_eq_true rfl) ⟨Nat.le_of_ble_eq_true rfl, Nat.le_of_ble_eq_true rfl⟩ dJ5_putStringAt_47b60_15 (t := 18) rfl (fun v => J_pure fun hv => ?_)
  subst hv
  exact J_vretP hX hR hlk (fun H h => ⟨rfl, h⟩) dJ5_putStringAt_47b60_18
/-- the builder behind a word: the old letters, the word's -/
def Pas (G : GG) (b cap : Nat) (ml : Int32) (a : Nat) (bs : Nat → Int32) (i : Nat) (H : Heap) : Prop := ∃ q2, ∃ bs2, (sb_Fit bs2 ∧ ∀ j, j < a → bs2 j = bs j) ∧ SE G b q2 (ncap cap (a + lwLen.getD i 0)) ml (nI (a + lwLen.getD i 0)) (va_cpy (fun j => (lwByt.getD i []).getD j 0) bs2 0 a (lwLen.getD i 0)) H
theorem ct_as5 {G : GG} {l : Launch} {b q cap a : Nat} {ml : Int32} {bs : Nat → Int32} {i : Nat} (hi : i < 11) (hc : cap ≤ 1040) (ha : a < 510) (hac : a ≤ cap) (hf : sb_Fit bs) : CTP G l yJ5_append_cf1ce cJ5_append_cf1ce 3 (some (.object RJ5)) rba 1 1040 [.ref b, .ref (ga G (50 + i))] (SE G b q cap ml (nI a) bs) (fun v H => v = some (.ref b) ∧ Pas G b cap ml a bs i H) := by
  refine CTP.of miJ5_append_cf1ce [(0, .ref b), (1, .ref (ga G (50 + i)))] rfl (Nat.le_of_ble_eq_true rfl) ?_
  intro p e s m args below meth c hX hR hlk
  have hX : FX G RJ5 cJ5_append_cf1ce 3 p s m args c := hX
  have hw := lw_small i hi
  refine J_aload_n hX dJ5_append_cf1ce_0 1 rfl (t := 1) rfl ?_
  refine J_nnull (tgt := 9) hX dJ5_append_cf1ce_1 (by decide) ?_
  refine J_aload_n hX dJ5_append_cf1ce_9 1 rfl (t := 10) rfl ?_
  refine J_callOP hX [] [] (ct_lenW hi) miJ0_length_8abf5 mvJ0_length_8abf5 (hX.sw hi).1 p_1142 ⟨rfl, rfl, Nat.le_of_ble_eq_true rfl, Nat.le_of_ble_eq_true rfl⟩ rfl rfl (Nat.le_of_ble_eq_true rfl) ⟨Nat.le_of_ble_eq_true rfl, Nat.le_of_ble_eq_true rfl⟩ dJ5_append_cf1ce_10 (t := 13) rfl (fun v => J_pure fun hv => ?_)
  subst hv
  refine J_istore_n (lc2 := [(2, .int (nI (lwLen.getD i 0))), (0, .ref b), (1, .ref (ga G (50 + i)))]) hX dJ5_append_cf1ce_13 rfl (Nat.le_of_ble_eq_true rfl) rfl (t := 14) rfl ?_
  refine J_aload_n hX dJ5_append_cf1ce_14 1 rfl (t := 15) rfl ?_
  refine J_aload_n hX dJ5_append_cf1ce_15 1 rfl (t := 16) rfl ?_
  refine J_sbGet hX 3 (by decide) p_422 rfl dJ5_append_cf1ce_16 (t := 19) rfl ?_
  refine J_iload_n hX dJ5_append_cf1ce_19 0 rfl (t := 20) rfl ?_
  refine J_iadd hX dJ5_append_cf1ce_20 (t := 21) rfl ?_
  refine J_val (nI_add a (lwLen.getD i 0)) ?_
  refine J_callVP hX [.int (nI (a + lwLen.getD i 0))] [] (ct_ens hc (by omega) hf) miJ5_ensureCapacityInternal_d00df p_1093 (hX.selp (by simp [selL])) SE.ob p_1091 ⟨rfl, rfl, Nat.le_of_ble_eq_true rfl, Nat.le_of_ble_eq_true rfl⟩ rfl rfl (Nat.le_of_ble_eq_true rfl) ⟨Nat.le_of_ble_eq_true rfl, Nat.le_of_ble_eq_true rfl⟩ dJ5_append_cf1ce_21 (t := 24) rfl (fun v => J_pure fun hv => J_exE fun q2 => J_exE fun bs2 => J_pure fun hb => ?_)
  subst hv
  have hn := ncap_le cap (a + lwLen.getD i 0)
  have hn2 : ncap cap (a + lwLen.getD i 0) < 2 ^ 20 := by unfold ncap; split <;> (try split) <;> omega
  refine J_aload_n hX dJ5_append_cf1ce_24 1 rfl (t := 25) rfl ?_
  refine J_aload_n hX dJ5_append_cf1ce_25 1 rfl (t := 26) rfl ?_
  refine J_sbGet hX 3 (by decide) p_422 rfl dJ5_append_cf1ce_26 (t := 29) rfl ?_
  refine J_aload_n hX dJ5_append_cf1ce_29 2 rfl (t := 30) rfl ?_
  refine J_callVP hX [.int (nI a), .ref (ga G (50 + i))] [] (ct_pst hi hn.1 hn2) miJ5_putStringAt_47b60 p_1145 (hX.selp (by simp [selL])) SE.ob p_1143 ⟨rfl, rfl, Nat.le_of_ble_eq_true rfl, Nat.le_of_ble_eq_true rfl⟩ rfl rfl (Nat.le_of_ble_eq_true rfl) ⟨Nat.le_of_ble_eq_true rfl, Nat.le_of_ble_eq_true rfl⟩ dJ5_append_cf1ce_30 (t := 33) rfl (fun v => J_pure fun hv => ?_)
  subst hv
  refine J_aload_n hX dJ5_append_cf1ce_33 1 rfl (t := 34) rfl ?_
  refine J_dup hX dJ5_append_cf1ce_34 rfl (t := 35) rfl ?_
  refine J_sbGet hX 3 (by decide) p_422 rfl dJ5_append_cf1ce_35 (t := 38) rfl ?_
  refine J_iload_n hX dJ5_append_cf1ce_38 0 rfl (t := 39) rfl ?_
  refine J_iadd hX dJ5_append_cf1ce_39 (t := 40) rfl ?_
  refine J_val (nI_add a (lwLen.getD i 0)) ?_
  refine J_sbPutN hX p_422 dJ5_append_cf1ce_40 (t := 43) rfl ?_
  refine J_aload_n hX dJ5_append_cf1ce_43 1 rfl (t := 44) rfl ?_
  exact J_aretP hX hR (Or.inl ⟨_, rfl⟩) hlk (fun H h => ⟨rfl, q2, bs2, ⟨hb.1, fun j hj => hb.2 j (by omega)⟩, h⟩) dJ5_append_cf1ce_44
theorem ct_as4 {G : GG} {l : Launch} {b q cap a : Nat} {ml : Int32} {bs : Nat → Int32} {i : Nat} (hi : i < 11) (hc : cap ≤ 1040) (ha : a < 510) (hac : a ≤ cap) (hf : sb_Fit bs) : CTP G l yJ4_append_15ec4 cJ4_append_15ec4 2 (some (.object RJ4)) rbt 1 1040 [.ref b, .ref (ga G (50 + i))] (SE G b q cap ml (nI a) bs) (fun v H => v = some (.ref b) ∧ Pas G b cap ml a bs i H) := by
  refine CTP.of miJ4_append_15ec4 [(0, .ref b), (1, .ref (ga G (50 + i)))] rfl (Nat.le_of_ble_eq_true rfl) ?_
  intro p e s m args below meth c hX hR hlk
  have hX : FX G RJ4 cJ4_append_15ec4 2 p s m args c := hX
  refine J_aload_n hX dJ4_append_15ec4_0 0 rfl (t := 1) rfl ?_
  refine J_aload_n hX dJ4_append_15ec4_1 1 rfl (t := 2) rfl ?_
  refine J_callUP hX [.ref (ga G (50 + i))] [] (ct_as5 hi hc ha hac hf) miJ5_append_cf1ce p_1085 p_1604 p_431 (by decide) SE.ob p_1084 ⟨rfl, rfl, Nat.le_of_ble_eq_true rfl, Nat.le_of_ble_eq_true rfl⟩ rfl rfl (Nat.le_of_ble_eq_true rfl) ⟨Nat.le_of_ble_eq_true rfl, Nat.le_of_ble_eq_true rfl⟩ dJ4_append_15ec4_2 (t := 5) rfl (fun v => J_pure fun hv => ?_)
  subst hv
  refine J_pop hX dJ4_append_15ec4_5 rfl (t := 6) rfl ?_
  refine J_aload_n hX dJ4_append_15ec4_6 0 rfl (t := 7) rfl ?_
  exact J_aretP hX hR (Or.inl ⟨_, rfl⟩) hlk (fun H h => ⟨rfl, h⟩) dJ4_append_15ec4_7
theorem ct_ac4 {G : GG} {l : Launch} {b q cap a : Nat} {ml x : Int32} {bs : Nat → Int32} (hc : cap ≤ 1040) (ha : a < 520) (hac : a ≤ cap) (hx : ¬ 255 < x) (hf : sb_Fit bs) : CTP G l yJ4_append_cf468 cJ4_append_cf468 2 (some (.object RJ4)) rbt 1 1040 [.ref b, .int x] (SE G b q cap ml (nI a) bs) (fun v H => v = some (.ref b) ∧ Pap G b cap ml a bs x H) := by
  refine CTP.of miJ4_append_cf468 [(0, .ref b), (1, .int x)] rfl (Nat.le_of_ble_eq_true rfl) ?_
  intro p e s m args below meth c hX hR hlk
  have hX : FX G RJ4 cJ4_append_cf468 2 p s m args c := hX
  refine J_aload_n hX dJ4_append_cf468_0 0 rfl (t := 1) rfl ?_
  refine J_iload_n hX dJ4_append_cf468_1 1 rfl (t := 2) rfl ?_
  refine J_callUP hX [.int x] [] (ct_ap5 hc ha hac hx hf) miJ5_append_3fe6f p_1188 p_1611 p_431 (by decide) SE.ob p_1187 ⟨rfl, rfl, Nat.le_of_ble_eq_true rfl, Nat.le_of_ble_eq_true rfl⟩ rfl rfl (Nat.le_of_ble_eq_true rfl) ⟨Nat.le_of_ble_eq_true rfl, Nat.le_of_ble_eq_true rfl⟩ dJ4_append_cf468_2 (t := 5) rfl (fun v => J_pure fun hv => ?_)
  subst hv
  refine J_pop hX dJ4_append_cf468_5 rfl (t := 6) rfl ?_
  refine J_aload_n hX dJ4_append_cf468_6 0 rfl (t := 7) rfl ?_
  exact J_aretP hX hR (Or.inl ⟨_, rfl⟩) hlk (fun H h => ⟨rfl, h⟩) dJ4_append_cf468_7
theorem ct_an4 {G : GG} {l : Launch} {b q cap a v : Nat} {ml : Int32} {bs : Nat → Int32} (hc : cap ≤ 1040) (ha : 3 ≤ a) (ha2 : a < 510) (hac : a ≤ cap) (hv : v < 10000) (hf : sb_Fit bs) : CTP G l yJ4_append_bf812 cJ4_append_bf812 2 (some (.object RJ4)) rbt 1 1040 [.ref b, .int (nI v)] (SE G b q cap ml (nI a) bs) (fun r H => r = some (.ref b) ∧ ∃ q2, ∃ bs2, (sb_Fit bs2 ∧ (∀ i, i < a → bs2 i = bs i)) ∧ SE G b q2 (ncap cap (a + dg3 v)) ml (nI (a + dg3 v)) (gcB bs2 (a + dg3 v) v) H) := by
  refine CTP.of miJ4_append_bf812 [(0, .ref b), (1, .int (nI v))] rfl (Nat.le_of_ble_eq_true rfl) ?_
  intro p e s m args below meth c hX hR hlk
  have hX : FX G RJ4 cJ4_append_bf812 2 p s m args c := hX
  refine J_aload_n hX dJ4_append_bf812_0 0 rfl (t := 1) rfl ?_
  refine J_iload_n hX dJ4_append_bf812_1 1 rfl (t := 2) rfl ?_
  refine J_callUP hX [.int (nI v)] [] (ct_ai5 hc ha ha2 hac hv hf) miJ5_append_c97b9 p_1202 p_1612 p_431 (by decide) SE.ob p_1201 ⟨rfl, rfl, Nat.le_of_ble_eq_true rfl, Nat.le_of_ble_eq_true rfl⟩ rfl rfl (Nat.le_of_ble_eq_true rfl) ⟨Nat.le_of_ble_eq_true rfl, Nat.le_of_ble_eq_true rfl⟩ dJ4_append_bf812_2 (t := 5) rfl (fun v => J_pure fun hv => ?_)
  subst hv
  refine J_pop hX dJ4_append_bf812_5 rfl (t := 6) rfl ?_
  refine J_aload_n hX dJ4_append_bf812_6 0 rfl (t := 7) rfl ?_
  exact J_aretP hX hR (Or.inl ⟨_, rfl⟩) hlk (fun H h => ⟨rfl, h⟩) dJ4_append_bf812_7
