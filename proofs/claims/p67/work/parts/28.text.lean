theorem p_534 : Cond.methodLink RJ0 492 yJ0_isLatin1_aae02 ∈ WALL := WALL_in (List.mem_append_right _ (List.mem_append_right _ (List.mem_append_right _ (List.mem_append_left _ (List.mem_of_getElem? (i := 30) rfl))))) rfl
theorem p_538 : Cond.methodLink RJ0 495 yJ1_charAt_3b067 ∈ WALL := WALL_in (List.mem_append_right _ (List.mem_append_right _ (List.mem_append_right _ (List.mem_append_left _ (List.mem_of_getElem? (i := 34) rfl))))) rfl
theorem p_539 : Cond.static yJ1_charAt_3b067 ∈ WALL := WALL_in (List.mem_append_right _ (List.mem_append_right _ (List.mem_append_right _ (List.mem_append_left _ (List.mem_of_getElem? (i := 35) rfl))))) rfl
theorem p_541 : Cond.methodLink RJ1 9 yJ0_checkIndex_df160 ∈ WALL := WALL_in (List.mem_append_right _ (List.mem_append_right _ (List.mem_append_right _ (List.mem_append_left _ (List.mem_of_getElem? (i := 37) rfl))))) rfl
theorem p_542 : Cond.static yJ0_checkIndex_df160 ∈ WALL := WALL_in (List.mem_append_right _ (List.mem_append_right _ (List.mem_append_right _ (List.mem_append_left _ (List.mem_of_getElem? (i := 38) rfl))))) rfl
theorem p_1276 : Cond.methodLink RJ4 343 yJ5_length_8abf5 ∈ WALL := WALL_in (List.mem_append_right _ (List.mem_append_right _ (List.mem_append_right _ (List.mem_append_right _ (List.mem_append_right _ (List.mem_append_right _ (List.mem_append_left _ (List.mem_of_getElem? (i := 52) rfl)))))))) rfl
theorem p_1277 : Cond.instanceMethod yJ5_length_8abf5 ∈ WALL := WALL_in (List.mem_append_right _ (List.mem_append_right _ (List.mem_append_right _ (List.mem_append_right _ (List.mem_append_right _ (List.mem_append_right _ (List.mem_append_left _ (List.mem_of_getElem? (i := 53) rfl)))))))) rfl
theorem p_1291 : Cond.methodLink RJ4 329 yJ5_charAt_5068e ∈ WALL := WALL_in (List.mem_append_right _ (List.mem_append_right _ (List.mem_append_right _ (List.mem_append_right _ (List.mem_append_right _ (List.mem_append_right _ (List.mem_append_left _ (List.mem_of_getElem? (i := 67) rfl)))))))) rfl
theorem p_1292 : Cond.instanceMethod yJ5_charAt_5068e ∈ WALL := WALL_in (List.mem_append_right _ (List.mem_append_right _ (List.mem_append_right _ (List.mem_append_right _ (List.mem_append_right _ (List.mem_append_right _ (List.mem_append_left _ (List.mem_of_getElem? (i := 68) rfl)))))))) rfl
theorem p_1294 : Cond.methodLink RJ5 138 yJ9_min_7cf53 ∈ WALL := WALL_in (List.mem_append_right _ (List.mem_append_right _ (List.mem_append_right _ (List.mem_append_right _ (List.mem_append_right _ (List.mem_append_right _ (List.mem_append_left _ (List.mem_of_getElem? (i := 70) rfl)))))))) rfl
theorem p_1295 : Cond.methodLink RJ5 144 yJ0_checkIndex_df160 ∈ WALL := WALL_in (List.mem_append_right _ (List.mem_append_right _ (List.mem_append_right _ (List.mem_append_right _ (List.mem_append_right _ (List.mem_append_right _ (List.mem_append_left _ (List.mem_of_getElem? (i := 71) rfl)))))))) rfl
theorem p_1613 : Cond.sameMethod RJ5 RJ5 "length" "()I" ∈ WALL := WALL_in (List.mem_append_right _ (List.mem_append_right _ (List.mem_append_right _ (List.mem_append_right _ (List.mem_append_right _ (List.mem_append_right _ (List.mem_append_right _ (List.mem_of_getElem? (i := 149) rfl)))))))) rfl
theorem p_1614 : Cond.sameMethod RJ5 RJ5 "charAt" "(I)C" ∈ WALL := WALL_in (List.mem_append_right _ (List.mem_append_right _ (List.mem_append_right _ (List.mem_append_right _ (List.mem_append_right _ (List.mem_append_right _ (List.mem_append_right _ (List.mem_of_getElem? (i := 150) rfl)))))))) rfl
/-! LETTERS on the heap: a builder's, a String's; what CharSequence answers; a String out of a builder -/
section TXROWS
variable {G : GG} {own : String} {cc : ByteArray} {p : Program} {l : Launch} {e : Env} {R : Room} {s : State} {m : MethodId} {args : Array Value} {below : List Frame} {meth : Method} {c : Code} {nL cells slots : Nat} {Q : State → Prop} {pc t : Nat} {lc : List (Nat × Value)} {st : List Value} {I : Heap → Prop} {b : Nat}
/-- a virtual call of an object of class ci, over any picture -/
theorem J_callI (hX : FX G own cc nL p s m args c) {y : MethodName} {cd : ByteArray} {mL n9 index mc ms ci : Nat} {ret : Option FieldType} {rm : Room} {T : u_T} {N : Nat} {ty : Nat → FieldType} {P : Option Value → Heap → Prop} (As rest : List Value) (hM : CTP G l y cd mL ret rm mc ms (.ref b :: As) I P) (mi : MI y cd mL ret n9) (mv : MV y) (cb : CB ci y.cls T N ty) (hIO : ∀ H, I H → ∃ fs, va_at (gD G) jcl (b, .inr (ci, fs)) H) (hw : Cond.methodLink own index y ∈ WALL) (hrm : rm.cells = mc ∧ rm.slots = ms ∧ rm.frames + 1 ≤ R.frames ∧ 8 + (mL + 11) + rm.locals ≤ R.locals) (hn : As.length = n9) (hst : st = As.reverse ++ .ref b :: rest) (hcat : (rest.map fun v => v.category).sum ≤ 8) (hf : cells + mc ≤ R.cells ∧ slots + ms ≤ R.slots)
    (hdg : decode cc pc = .ok (.invokevirtual index, 3)) (ht : pc + 3 = t) (kk : ∀ v, J G p l e R s m args below meth c nL (cells + mc) (slots + ms) Q (P v) t lc (v.toList ++ rest)) : J G p l e R s m args below meth c nL cells slots Q I pc lc st := by
  subst ht
  intro H locs ls h1 h2 h3
  obtain ⟨fs, hat⟩ := hIO H h2
  exact J_runP (va_runV (C := y.cls) (As := As) (rest := rest) ⟨hX.1, hX.2.1, hX.2.2.1, hX.2.2.2.1, hX.2.2.2.2.1⟩ hM ⟨cb_call hX mi hw hrm, hX.2.2.2.2.1 _ mv.1, hX.2.2.2.2.1 _ mv.2⟩ ⟨GI.blind G I _, va_recv hX.2.2.2.2.2.1 (one_P hat) (ci := ci) (q0 := 0) cb.1 rfl, fun U hU hW => ⟨rfl, hX.preI h2 h3 U hU hW⟩⟩ rfl hn h1.1 hst (lv_room hcat) hdg hf) h3 h1 kk
theorem J_runP5 {H : Heap} {locs : List Loc} {ls : Array Slot} {st0 rest : List Value} {mc ms : Nat} {a : Array Value} {P : Option Value → Heap → Prop} (hr : va_Run5 p l e R s m args below meth c H locs cells slots mc ms (F0 m pc ls st0) rest (QP G P a) (gA G)) (hS : va_S (gA G) s.heap H locs) (hl : lv_has ls nL lc)
    (kk : ∀ v, J G p l e R s m args below meth c nL (cells + mc) (slots + ms) Q (P v) (pc + 5) lc (v.toList ++ rest)) : W p l e R s m args below meth c H locs cells slots Q (F0 m pc ls st0) := by
  intro T hT X
  obtain ⟨v9, st₀, t9, T', L, h0, X', hL, e1, e2, ⟨v, hv, hG, hz, hq⟩, st9⟩ := hr T hT X
  cases hv
  rw [h0] at hz hq
  have hS2 : va_S (gA G) s.heap T'.heap (locs ++ L) := ⟨Nat.le_trans hS.1 (by rw [e1]; exact hz), fun q h1 h2 => by rw [e1, hq q (Nat.lt_of_lt_of_le h1 hS.1) h2]; exact hS.2.1 q h1 h2, fun q h9 => by
      rcases List.mem_append.mp h9 with h | h
      · exact hS.2.2 q h
      · exact hL q h⟩
  obtain ⟨t2, a1, b1⟩ := kk v9 T'.heap (locs ++ L) ls hl (by rw [e1]; exact hG) hS2 T' rfl X'
  exact ⟨t2, st9 t2 a1, b1⟩
/-- a call by the interface -/
theorem J_callF (hX : FX G own cc nL p s m args c) {C : String} {x y : MethodName} {cd : ByteArray} {mL n9 index count mc ms ci : Nat} {ret : Option FieldType} {rm : Room} {T : u_T} {N : Nat} {ty : Nat → FieldType} {P : Option Value → Heap → Prop} (As rest : List Value) (hM : CTP G l y cd mL ret rm mc ms (.ref b :: As) I P) (mi : MI y cd mL ret n9) (hin : Cond.instanceMethod y ∈ WALL) (hsel : Cond.selects C x y ∈ WALL) (hF : (C, x, y) ∈ fwL) (hd : (parseMethodDescriptor x.desc).map (fun d => d.parameters.length) = some n9) (cb : CB ci C T N ty) (hIO : ∀ H, I H → ∃ fs, va_at (gD G) jcl (b, .inr (ci, fs)) H) (hw : Cond.methodLink own index x ∈ WALL) (hrm : rm.cells = mc ∧ rm.slots = ms ∧ rm.frames + 1 ≤ R.frames ∧ 8 + (mL + 11) + rm.locals ≤ R.locals) (hn : As.length = n9) (hst : st = As.reverse ++ .ref b :: rest) (hcat : (rest.map fun v => v.category).sum ≤ 8) (hf : cells + mc ≤ R.cells ∧ slots + ms ≤ R.slots)
    (hdg : decode cc pc = .ok (.invokeinterface index count, 5)) (ht : pc + 5 = t) (kk : ∀ v, J G p l e R s m args below meth c nL (cells + mc) (slots + ms) Q (P v) t lc (v.toList ++ rest)) : J G p l e R s m args below meth c nL cells slots Q I pc lc st := by
  subst ht
  intro H locs ls h1 h2 h3
  obtain ⟨fs, hat⟩ := hIO H h2
  have hgood : GoodIn WALL (va_wsF own index C x y (wsY y cd mL ret)) := fun w9 h9 => by
    rcases List.mem_append.mp h9 with h | h
    · rcases List.mem_cons.mp h with rfl | h
      · exact WALL_good _ hw
      rcases List.mem_cons.mp h with rfl | h
      · exact WALL_good _ hsel
      rcases List.mem_cons.mp h with rfl | h
      · exact WALL_good _ hin
      rcases List.mem_cons.mp h with rfl | h
      · exact WALL_good _ mi.2.1
      · cases h
    · exact cb_good mi.1 w9 h
  have hfw := hX.G2.2.2.2.2.2.2.2.2.1 _ hF
  have hmh := fwL_ok _ hF
  exact J_runP5 (va_runF (C := C) (As := As) (rest := rest) (hX.2.2.2.2.2.1.1 ci _ cb.1).2 ⟨hX.1, hX.2.1, hX.2.2.1, hX.2.2.2.1, hX.2.2.2.2.1⟩ hM (va_cwF n9 hX.2.2.2.2.1 hgood rfl hrm.1 hrm.2.1 hfw ⟨hmh.1, hmh.2, hd⟩ hrm.2.2) ⟨GI.blind G I _, va_recv hX.2.2.2.2.2.1 (one_P hat) (ci := ci) (q0 := 0) cb.1 rfl, fun U hU hW => ⟨rfl, hX.preI h2 h3 U hU hW⟩⟩ rfl hn h1.1 hst (lv_room hcat) hdg hf) h3 h1 kk
/-- a call of the builder by its superclass's name, that StringBuilder overrides -/
theorem J_callOv (hX : FX G own cc nL p s m args c) {x y : MethodName} {cd b0 : ByteArray} {mL n9 index mc ms m0 : Nat} {ret r0 : Option FieldType} {rm : Room} {P : Option Value → Heap → Prop} (As rest : List Value) (hM : CTP G l y cd mL ret rm mc ms (.ref b :: As) I P) (mi : MI y cd mL ret n9) (hin : Cond.instanceMethod y ∈ WALL) (hsel : Cond.selects RJ4 x y ∈ WALL) (hsm : Cond.sameMethod x.cls RJ5 x.name x.desc ∈ WALL) (hinx : Cond.instanceMethod ⟨RJ5, x.name, x.desc⟩ ∈ WALL) (hcx : Cond.code ⟨RJ5, x.name, x.desc⟩ b0 m0 r0 ∈ WALL) (hd : (parseMethodDescriptor x.desc).map (fun d => d.parameters.length) = some n9) (hIO : ∀ H, I H → ∃ fs, va_at (gD G) jcl (b, .inr (11, fs)) H) (hw : Cond.methodLink own index x ∈ WALL) (hrm : rm.cells = mc ∧ rm.slots = ms ∧ rm.frames + 1 ≤ R.frames ∧ 8 + (mL + 11) + rm.locals ≤ R.locals) (hn : As.length = n9) (hst : st = As.reverse ++ .ref b :: rest) (hcat : (rest.map fun v => v.category).sum ≤ 8) (hf : cells + mc ≤ R.cells ∧ slots + ms ≤ R.slots)
    (hdg : decode cc pc = .ok (.invokevirtual index, 3)) (ht : pc + 3 = t) (kk : ∀ v, J G p l e R s m args below meth c nL (cells + mc) (slots + ms) Q (P v) t lc (v.toList ++ rest)) : J G p l e R s m args below meth c nL cells slots Q I pc lc st := by
  subst ht
  intro H locs ls h1 h2 h3
  obtain ⟨fs, hat⟩ := hIO H h2
  have hgood : GoodIn WALL (va_wsO own index RJ4 RJ5 x y (wsY y cd mL ret)) := fun w9 h9 => by
    rcases List.mem_append.mp h9 with h | h
    · rcases List.mem_cons.mp h with rfl | h
      · exact WALL_good _ hw
      rcases List.mem_cons.mp h with rfl | h
      · exact WALL_good _ hsm
      rcases List.mem_cons.mp h with rfl | h
      · exact WALL_good _ hinx
      rcases List.mem_cons.mp h with rfl | h
      · exact WALL_good _ hsel
      rcases List.mem_cons.mp h with rfl | h
      · exact WALL_good _ hin
      rcases List.mem_cons.mp h with rfl | h
      · exact WALL_good _ mi.2.1
      · cases h
    · exact cb_good mi.1 w9 h
  exact J_runP (va_runU (C := RJ4) (owner := RJ5) (As := As) (rest := rest) ⟨hX.1, hX.2.1, hX.2.2.1, hX.2.2.2.1, hX.2.2.2.2.1⟩ hM (va_cwO n9 hX.2.2.2.2.1 hgood rfl hrm.1 hrm.2.1 hcx ⟨by decide, by decide, hd⟩ hrm.2.2) ⟨GI.blind G I _, va_recv hX.2.2.2.2.2.1 (one_P hat) (ci := 11) (q0 := 0) cb11.1 rfl, fun U hU hW => ⟨rfl, hX.preI h2 h3 U hU hW⟩⟩ rfl hn h1.1 hst (lv_room hcat) hdg hf) h3 h1 kk
end TXROWS

theorem ct_lnI {G : GG} {l : Launch} {I : Heap → Prop} {b q : Nat} {ml n : Int32} (hI : ∀ H, I H → va_at (gD G) jcl (b, .inr (11, [.ref q, .int 0, .int ml, .int n])) H) : CTP G l yJ5_length_8abf5 cJ5_length_8abf5 1 (some .int) rmO 0 0 [.ref b] I (fun v H => v = some (.int n) ∧ I H) := by
  refine CTP.of miJ5_length_8abf5 [(0, .ref b)] rfl (Nat.le_of_ble_eq_true rfl) ?_
  intro p e s m args below meth c hX hR hlk
  have hX : FX G RJ5 cJ5_length_8abf5 1 p s m args c := hX
  refine J_aload_n hX dJ5_length_8abf5_0 0 rfl (t := 1) rfl ?_
  refine J_getI hX cb11 hI 3 (by decide) p_422 rfl dJ5_length_8abf5_1 (t := 4) rfl ?_
  exact J_iretP hX hR hlk (fun H h => ⟨rfl, h⟩) dJ5_length_8abf5_4
theorem ct_ln4I {G : GG} {l : Launch} {I : Heap → Prop} {b q : Nat} {ml n : Int32} (hI : ∀ H, I H → va_at (gD G) jcl (b, .inr (11, [.ref q, .int 0, .int ml, .int n])) H) : CTP G l yJ4_length_8abf5 cJ4_length_8abf5 1 (some .int) rb1 0 0 [.ref b] I (fun v H => v = some (.int n) ∧ I H) := by
  refine CTP.of miJ4_length_8abf5 [(0, .ref b)] rfl (Nat.le_of_ble_eq_true rfl) ?_
  intro p e s m args below meth c hX hR hlk
  have hX : FX G RJ4 cJ4_length_8abf5 1 p s m args c := hX
  refine J_aload_n hX dJ4_length_8abf5_0 0 rfl (t := 1) rfl ?_
  refine J_callUP hX [] [] (ct_lnI hI) miJ5_length_8abf5 p_1277 p_1613 p_431 (by decide) (fun H h => ⟨_, hI H h⟩) p_1276 ⟨rfl, rfl, Nat.le_of_ble_eq_true rfl, Nat.le_of_ble_eq_true rfl⟩ rfl rfl (Nat.le_of_ble_eq_true rfl) ⟨Nat.le_of_ble_eq_true rfl, Nat.le_of_ble_eq_true rfl⟩ dJ4_length_8abf5_1 (t := 4) rfl (fun v => J_pure fun hv => ?_)
  subst hv
  exact J_iretP hX hR hlk (fun H h => ⟨rfl, h⟩) dJ4_length_8abf5_4
theorem ct_chI {G : GG} {l : Launch} {I : Heap → Prop} {b q cap a k : Nat} {ml : Int32} {bs : Nat → Int32} (hac : a ≤ cap) (hc : cap < 2 ^ 20) (hk : k < a) (hI : ∀ H, I H → va_at (gD G) jcl (b, .inr (11, [.ref q, .int 0, .int ml, .int (nI a)])) H) (hB : ∀ H, I H → va_at (gD G) jcl (q, aB G cap bs) H) : CTP G l yJ5_charAt_5068e cJ5_charAt_5068e 5 (some .char) rb2 0 0 [.ref b, .int (nI k)] I (fun v H => v = some (.int (((bs k) &&& 255).toUInt32 % 65536).toInt32) ∧ I H) := by
  refine CTP.of miJ5_charAt_5068e [(0, .ref b), (1, .int (nI k))] rfl (Nat.le_of_ble_eq_true rfl) ?_
  intro p e s m args below meth c hX hR hlk
  have hX : FX G RJ5 cJ5_charAt_5068e 5 p s m args c := hX
  refine J_aload_n hX dJ5_charAt_5068e_0 0 rfl (t := 1) rfl ?_
  refine J_getI hX cb11 hI 1 (by decide) p_420 rfl dJ5_charAt_5068e_1 (t := 4) rfl ?_
  refine J_istore_n (lc2 := [(2, .int 0), (0, .ref b), (1, .int (nI k))]) hX dJ5_charAt_5068e_4 rfl (Nat.le_of_ble_eq_true rfl) rfl (t := 5) rfl ?_
  refine J_aload_n hX dJ5_charAt_5068e_5 1 rfl (t := 6) rfl ?_
  refine J_getI hX cb11 hI 0 (by decide) p_419 rfl dJ5_charAt_5068e_6 (t := 9) rfl ?_
  refine J_astore_n (lc2 := [(3, .ref q), (2, .int 0), (0, .ref b), (1, .int (nI k))]) hX dJ5_charAt_5068e_9 rfl (Nat.le_of_ble_eq_true rfl) rfl (t := 10) rfl ?_
  refine J_aload_n hX dJ5_charAt_5068e_10 2 rfl (t := 11) rfl ?_
  refine J_getI hX cb11 hI 3 (by decide) p_422 rfl dJ5_charAt_5068e_11 (t := 14) rfl ?_
  refine J_aload_n hX dJ5_charAt_5068e_14 0 rfl (t := 15) rfl ?_
  refine J_alenBI hX hB rfl dJ5_charAt_5068e_15 (t := 16) rfl ?_
  refine J_iload_n hX dJ5_charAt_5068e_16 1 rfl (t := 17) rfl ?_
  refine J_ishr hX dJ5_charAt_5068e_17 (t := 18) rfl ?_
  refine J_val (sb_shr0 _) ?_
  refine J_min hX ⟨p_1294, p_772, p_31, p_773⟩ ⟨Nat.le_of_ble_eq_true rfl, Nat.le_of_ble_eq_true rfl, Nat.le_of_ble_eq_true rfl, Nat.le_of_ble_eq_true rfl⟩ dJ5_charAt_5068e_18 (t := 21) rfl ?_
  refine J_val (show (if Int32.ofNat cap < nI a then Int32.ofNat cap else nI a) = nI a from if_neg (nI_nlt hac (by omega))) ?_
  refine J_istore (lc2 := [(4, .int (nI a)), (3, .ref q), (2, .int 0), (0, .ref b), (1, .int (nI k))]) hX dJ5_charAt_5068e_21 (Nat.le_of_ble_eq_true rfl) rfl (t := 23) rfl ?_
  refine J_iload_n hX dJ5_charAt_5068e_23 4 rfl (t := 24) rfl ?_
  refine J_iload hX dJ5_charAt_5068e_24 0 rfl (t := 26) rfl ?_
  refine J_callSP hX [.int (nI k), .int (nI a)] [] (ct_sciP (nI_pos (by omega)) (nI_lt hk (by omega))) miJ0_checkIndex_df160 p_542 p_1295 ⟨rfl, rfl, Nat.le_of_ble_eq_true rfl, Nat.le_of_ble_eq_true rfl⟩ rfl rfl (Nat.le_of_ble_eq_true rfl) ⟨Nat.le_of_ble_eq_true rfl, Nat.le_of_ble_eq_true rfl⟩ dJ5_charAt_5068e_26 (t := 29) rfl (fun v => J_pure fun hv => ?_)
  subst hv
  refine J_iload_n hX dJ5_charAt_5068e_29 2 rfl (t := 30) rfl ?_
  refine J_if_ne (tgt := 42) hX dJ5_charAt_5068e_30 (by decide) (t := 33) rfl (fun z => absurd rfl z) (fun z => ?_)
  refine J_aload_n hX dJ5_charAt_5068e_33 1 rfl (t := 34) rfl ?_
  refine J_iload_n hX dJ5_charAt_5068e_34 4 rfl (t := 35) rfl ?_
  refine J_baldI hX hB (inbN (by omega) (by omega)) (v := bs k) (by rw [nI_clamp (by omega)]) dJ5_charAt_5068e_35 (t := 36) rfl ?_
  refine J_sipush (v := 255) hX dJ5_charAt_5068e_36 (by decide) (t := 39) rfl ?_
  refine J_iand hX dJ5_charAt_5068e_39 (t := 40) rfl ?_
  refine J_i2c hX dJ5_charAt_5068e_40 (t := 41) rfl ?_
  exact J_nretP hX hR hlk (pk_nc _) (fun H h => ⟨rfl, h⟩) dJ5_charAt_5068e_41
theorem ct_ch4I {G : GG} {l : Launch} {I : Heap → Prop} {b q cap a k : Nat} {ml : Int32} {bs : Nat → Int32} (hac : a ≤ cap) (hc : cap < 2 ^ 20) (hk : k < a) (hI : ∀ H, I H → va_at (gD G) jcl (b, .inr (11, [.ref q, .int 0, .int ml, .int (nI a)])) H) (hB : ∀ H, I H → va_at (gD G) jcl (q, aB G cap bs) H) : CTP G l yJ4_charAt_5068e cJ4_charAt_5068e 2 (some .char) { frames := 3, cells := 0, slots := 0, locals := 200 } 0 0 [.ref b, .int (nI k)] I (fun v H => v = some (.int (((bs k) &&& 255).toUInt32 % 65536).toInt32) ∧ I H) := by
  refine CTP.of miJ4_charAt_5068e [(0, .ref b), (1, .int (nI k))] rfl (Nat.le_of_ble_eq_true rfl) ?_
  intro p e s m args below meth c hX hR hlk
  have hX : FX G RJ4 cJ4_charAt_5068e 2 p s m args c := hX
  refine J_aload_n hX dJ4_charAt_5068e_0 0 rfl (t := 1) rfl ?_
  refine J_iload_n hX dJ4_charAt_5068e_1 1 rfl (t := 2) rfl ?_
  refine J_callUP hX [.int (nI k)] [] (ct_chI hac hc hk hI hB) miJ5_charAt_5068e p_1292 p_1614 p_431 (by decide) (fun H h => ⟨_, hI H h⟩) p_1291 ⟨rfl, rfl, Nat.le_of_ble_eq_true rfl, Nat.le_of_ble_eq_true rfl⟩ rfl rfl (Nat.le_of_ble_eq_true rfl) ⟨Nat.le_of_ble_eq_true rfl, Nat.le_of_ble_eq_true rfl⟩ dJ4_charAt_5068e_2 (t := 5) rfl (fun v => J_pure fun hv => ?_)
  subst hv
  exact J_nretP hX hR hlk (pk_nc _) (fun H h => ⟨rfl, h⟩) dJ4_charAt_5068e_5
theorem ct_codS {G : GG} {l : Launch} {I : Heap → Prop} {b q : Nat} {x8 x9 : Int32} (hI : ∀ H, I H → va_at (gD G) jcl (b, .inr (12, [.ref q, .int 0, .int x8, .int x9])) H) : CTP G l yJ0_coder_7d493 cJ0_coder_7d493 1 (some .byte) rmO 0 0 [.ref b] I (fun v H => v = some (.int 0) ∧ I H) := by
  refine CTP.of miJ0_coder_7d493 [(0, .ref b)] rfl (Nat.le_of_ble_eq_true rfl) ?_
  intro p e s m args below meth c hX hR hlk
  have hX : FX G RJ0 cJ0_coder_7d493 1 p s m args c := hX
  refine J_gst hX hX.G2.1 p_525 dJ0_coder_7d493_0 (t := 3) rfl ?_
  refine J_if_eq (tgt := 13) hX dJ0_coder_7d493_3 (by decide) (t := 6) rfl (fun z => absurd z (by decide)) (fun z => ?_)
  refine J_aload_n hX dJ0_coder_7d493_6 0 rfl (t := 7) rfl ?_
  refine J_getI hX cb12 hI 1 (by decide) p_1498 rfl dJ0_coder_7d493_7 (t := 10) rfl ?_
  refine J_goto (tgt := 14) hX dJ0_coder_7d493_10 (by decide) ?_
  exact J_nretP hX hR hlk rfl (fun H h => ⟨rfl, h⟩) dJ0_coder_7d493_14
theorem ct_l1S {G : GG} {l : Launch} {I : Heap → Prop} {b q : Nat} {x8 x9 : Int32} (hI : ∀ H, I H → va_at (gD G) jcl (b, .inr (12, [.ref q, .int 0, .int x8, .int x9])) H) : CTP G l yJ0_isLatin1_aae02 cJ0_isLatin1_aae02 1 (some .boolean) rmO 0 0 [.ref b] I (fun v H => v = some (.int (bI true)) ∧ I H) := by
  refine CTP.of miJ0_isLatin1_aae02 [(0, .ref b)] rfl (Nat.le_of_ble_eq_true rfl) ?_
  intro p e s m args below meth c hX hR hlk
  have hX : FX G RJ0 cJ0_isLatin1_aae02 1 p s m args c := hX
  refine J_gst hX hX.G2.1 p_525 dJ0_isLatin1_aae02_0 (t := 3) rfl ?_
  refine J_if_eq (tgt := 17) hX dJ0_isLatin1_aae02_3 (by decide) (t := 6) rfl (fun z => absurd z (by decide)) (fun z => ?_)
  refine J_aload_n hX dJ0_isLatin1_aae02_6 0 rfl (t := 7) rfl ?_
  refine J_getI hX cb12 hI 1 (by decide) p_1498 rfl dJ0_isLatin1_aae02_7 (t := 10) rfl ?_
  refine J_if_ne (tgt := 17) hX dJ0_isLatin1_aae02_10 (by decide) (t := 13) rfl (fun z => absurd rfl z) (fun z => ?_)
  refine J_iconst (v := 1) hX dJ0_isLatin1_aae02_13 (by decide) (t := 14) rfl ?_
  refine J_goto (tgt := 18) hX dJ0_isLatin1_aae02_14 (by decide) ?_
  exact J_zretP (b := true) hX hR hlk (fun H h => ⟨rfl, h⟩) dJ0_isLatin1_aae02_18
theorem ct_lenS {G : GG} {l : Launch} {I : Heap → Prop} {b q cap : Nat} {x8 x9 : Int32} {bs : Nat → Int32} (hI : ∀ H, I H → va_at (gD G) jcl (b, .inr (12, [.ref q, .int 0, .int x8, .int x9])) H) (hB : ∀ H, I H → va_at (gD G) jcl (q, aB G cap bs) H) : CTP G l yJ0_length_8abf5 cJ0_length_8abf5 1 (some .int) rb1 0 0 [.ref b] I (fun v H => v = some (.int (nI cap)) ∧ I H) := by
  refine CTP.of miJ0_length_8abf5 [(0, .ref b)] rfl (Nat.le_of_ble_eq_true rfl) ?_
  intro p e s m args below meth c hX hR hlk
  have hX : FX G RJ0 cJ0_length_8abf5 1 p s m args c := hX
  refine J_aload_n hX dJ0_length_8abf5_0 0 rfl (t := 1) rfl ?_
  refine J_getI hX cb12 hI 0 (by decide) p_1497 rfl dJ0_length_8abf5_1 (t := 4) rfl ?_
  refine J_alenBI hX hB rfl dJ0_length_8abf5_4 (t := 5) rfl ?_
  refine J_aload_n hX dJ0_length_8abf5_5 0 rfl (t := 6) rfl ?_
  refine J_callI hX [] [.int (Int32.ofNat cap)] (ct_codS hI) miJ0_coder_7d493 mvJ0_coder_7d493 cb12 (fun H h => ⟨_, hI H h⟩) p_521 ⟨rfl, rfl, Nat.le_of_ble_eq_true rfl, Nat.le_of_ble_eq_true rfl⟩ rfl rfl (Nat.le_of_ble_eq_true rfl) ⟨Nat.le_of_ble_eq_true rfl, Nat.le_of_ble_eq_true rfl⟩ dJ0_length_8abf5_6 (t := 9) rfl (fun v => J_pure fun hv => ?_)
  subst hv
  refine J_ishr hX dJ0_length_8abf5_9 (t := 10) rfl ?_
  refine J_val (sb_shr0 _) ?_
  exact J_iretP hX hR hlk (fun H h => ⟨rfl, h⟩) dJ0_length_8abf5_10
theorem ct_ch1 {G : GG} {l : Launch} {I : Heap → Prop} {q cap k : Nat} {bs : Nat → Int32} (hc : cap < 2 ^ 20) (hk : k < cap) (hB : ∀ H, I H → va_at (gD G) jcl (q, aB G cap bs) H) : CTP G l yJ1_charAt_3b067 cJ1_charAt_3b067 2 (some .char) rb2 0 0 [.ref q, .int (nI k)] I (fun v H => v = some (.int (((bs k) &&& 255).toUInt32 % 65536).toInt32) ∧ I H) := by
  refine CTP.of miJ1_charAt_3b067 [(0, .ref q), (1, .int (nI k))] rfl (Nat.le_of_ble_eq_true rfl) ?_
  intro p e s m args below meth c hX hR hlk
  have hX : FX G RJ1 cJ1_charAt_3b067 2 p s m args c := hX
  refine J_iload_n hX dJ1_charAt_3b067_0 1 rfl (t := 1) rfl ?_
  refine J_aload_n hX dJ1_charAt_3b067_1 0 rfl (t := 2) rfl ?_
  refine J_alenBI hX hB rfl dJ1_charAt_3b067_2 (t := 3) rfl ?_
  refine J_callSP hX [.int (nI k), .int (nI cap)] [] (ct_sciP (nI_pos (by omega)) (nI_lt hk (by omega))) miJ0_checkIndex_df160 p_542 p_541 ⟨rfl, rfl, Nat.le_of_ble_eq_true rfl, Nat.le_of_ble_eq_true rfl⟩ rfl rfl (Nat.le_of_ble_eq_true rfl) ⟨Nat.le_of_ble_eq_true rfl, Nat.le_of_ble_eq_true rfl⟩ dJ1_charAt_3b067_3 (t := 6) rfl (fun v => J_pure fun hv => ?_)
  subst hv
  refine J_aload_n hX dJ1_charAt_3b067_6 0 rfl (t := 7) rfl ?_
  refine J_iload_n hX dJ1_charAt_3b067_7 1 rfl (t := 8) rfl ?_
  refine J_baldI hX hB (inbN (by omega) (by omega)) (v := bs k) (by rw [nI_clamp (by omega)]) dJ1_charAt_3b067_8 (t := 9) rfl ?_
  refine J_sipush (v := 255) hX dJ1_charAt_3b067_9 (by decide) (t := 12) rfl ?_
  refine J_iand hX dJ1_charAt_3b067_12 (t := 13) rfl ?_
  refine J_i2c hX dJ1_charAt_3b067_13 (t := 14) rfl ?_
  exact J_nretP hX hR hlk (pk_nc _) (fun H h => ⟨rfl, h⟩) dJ1_charAt_3b067_14
theorem ct_chS {G : GG} {l : Launch} {I : Heap → Prop} {b q cap k : Nat} {x8 x9 : Int32} {bs : Nat → Int32} (hc : cap < 2 ^ 20) (hk : k < cap) (hI : ∀ H, I H → va_at (gD G) jcl (b, .inr (12, [.ref q, .int 0, .int x8, .int x9])) H) (hB : ∀ H, I H → va_at (gD G) jcl (q, aB G cap bs) H) : CTP G l yJ0_charAt_5068e cJ0_charAt_5068e 2 (some .char) { frames := 3, cells := 0, slots := 0, locals := 200 } 0 0 [.ref b, .int (nI k)] I (fun v H => v = some (.int (((bs k) &&& 255).toUInt32 % 65536).toInt32) ∧ I H) := by
  refine CTP.of miJ0_charAt_5068e [(0, .ref b), (1, .int (nI k))] rfl (Nat.le_of_ble_eq_true rfl) ?_
  intro p e s m args below meth c hX hR hlk
  have hX : FX G RJ0 cJ0_charAt_5068e 2 p s m args c := hX
  refine J_aload_n hX dJ0_charAt_5068e_0 0 rfl (t := 1) rfl ?_
  refine J_callI hX [] [] (ct_l1S hI) miJ0_isLatin1_aae02 mvJ0_isLatin1_aae02 cb12 (fun H h => ⟨_, hI H h⟩) p_534 ⟨rfl, rfl, Nat.le_of_ble_eq_true rfl, Nat.le_of_ble_eq_true rfl⟩ rfl rfl (Nat.le_of_ble_eq_true rfl) ⟨Nat.le_of_ble_eq_true rfl, Nat.le_of_ble_eq_true rfl⟩ dJ0_charAt_5068e_1 (t := 4) rfl (fun v => J_pure fun hv => ?_)
  subst hv
  refine J_if_eq (tgt := 16) hX dJ0_charAt_5068e_4 (by decide) (t := 7) rfl (fun z => absurd z (by decide)) (fun z => ?_)
  refine J_aload_n hX dJ0_charAt_5068e_7 0 rfl (t := 8) rfl ?_
  refine J_getI hX cb12 hI 0 (by decide) p_1497 rfl dJ0_charAt_5068e_8 (t := 11) rfl ?_
  refine J_iload_n hX dJ0_charAt_5068e_11 1 rfl (t := 12) rfl ?_
  refine J_callSP hX [.ref q, .int (nI k)] [] (ct_ch1 hc hk hB) miJ1_charAt_3b067 p_539 p_538 ⟨rfl, rfl, Nat.le_of_ble_eq_true rfl, Nat.le_of_ble_eq_true rfl⟩ rfl rfl (Nat.le_of_ble_eq_true rfl) ⟨Nat.le_of_ble_eq_true rfl, Nat.le_of_ble_eq_true rfl⟩ dJ0_charAt_5068e_12 (t := 15) rfl (fun v => J_pure fun hv => ?_)
  subst hv
  exact J_nretP hX hR hlk (pk_nc _) (fun H h => ⟨rfl, h⟩) dJ0_charAt_5068e_15
