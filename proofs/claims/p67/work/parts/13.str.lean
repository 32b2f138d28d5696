/-! STRING CONSTANTS, a verb's ordinal: the JDK's members over what never changes -/
section STR
variable {G : GG} {own : String} {cc : ByteArray} {p : Program} {l : Launch} {e : Env} {R : Room} {s : State} {m : MethodId} {args : Array Value} {below : List Frame} {meth : Method} {c : Code} {nL cells slots : Nat} {Q : State → Prop} {pc t : Nat} {lc : List (Nat × Value)} {st : List Value} {I : Heap → Prop} {w : Wd}
theorem J_gst (hX : FX G own cc nL p s m args c) {C n d : String} {v : Value} {index : Nat} (hZ : va_Z C n d v (gS G) s s.heap) (hw : Cond.fieldLink own index C n d ∈ WALL) (hdg : decode cc pc = .ok (.getstatic index, 3)) (ht : pc + 3 = t) (kk : J G p l e R s m args below meth c nL cells slots Q I t lc (v :: st)) : J G p l e R s m args below meth c nL cells slots Q I pc lc st := by
  subst ht
  intro H locs ls h1 h2 h3
  exact va_gets hX.1 hX.2.1 hZ (hX.s3 h3) hX.2.2.2.1 (hX.2.2.2.2.1 _ hw) (fun _ h => h) hdg (kk H locs ls h1 h2 h3)
theorem J_gsq (hX : FX G own cc nL p s m args c) {C n d : String} {index : Nat} (hZ : va_Zq C n d (gS G) s s.heap) (hw : Cond.fieldLink own index C n d ∈ WALL) (hdg : decode cc pc = .ok (.getstatic index, 3)) (ht : pc + 3 = t) (kk : ∀ v : Value, (v = .null ∨ ∃ a, v = .ref a) → J G p l e R s m args below meth c nL cells slots Q I t lc (v :: st)) : J G p l e R s m args below meth c nL cells slots Q I pc lc st := by
  rcases hZ with hZ | ⟨a, hZ⟩
  · exact J_gst hX hZ hw hdg ht (kk _ (Or.inl rfl))
  · exact J_gst hX hZ hw hdg ht (kk _ (Or.inr ⟨a, rfl⟩))
theorem J_getO (hX : FX G own cc nL p s m args c) {o n d : String} {index q : Nat} {v : Value} (hE : va_OF o n d v q (gS G) s s.heap) (hw : Cond.fieldLink own index o n d ∈ WALL) (hdg : decode cc pc = .ok (.getfield index, 3)) (ht : pc + 3 = t) (kk : J G p l e R s m args below meth c nL cells slots Q I t lc (v :: st)) : J G p l e R s m args below meth c nL cells slots Q I pc lc (.ref q :: st) := by
  subst ht
  intro H locs ls h1 h2 h3
  exact vk_getf hX.1 hX.2.1 hE (hX.s3 h3) hX.2.2.2.1 (hX.2.2.2.2.1 _ hw) (fun _ h => h) hdg (kk H locs ls h1 h2 h3)
theorem J_tlen (hX : FX G own cc nL p s m args c) {ty : FieldType} {a N : Nat} {f : Nat → Value} (hT : va_T ty a N f (gS G) s s.heap) {v : Int32} (hv : Int32.ofNat N = v) (hdg : decode cc pc = .ok (.arraylength, 1)) (ht : pc + 1 = t) (kk : J G p l e R s m args below meth c nL cells slots Q I t lc (.int v :: st)) : J G p l e R s m args below meth c nL cells slots Q I pc lc (.ref a :: st) := by
  subst ht
  intro H locs ls h1 h2 h3
  exact va_tlen hX.1 hX.2.1 hT (hX.s3 h3) hv hdg (kk H locs ls h1 h2 h3)
theorem J_tb (hX : FX G own cc nL p s m args c) {a N : Nat} {f : Nat → Value} (hT : va_T .byte a N f (gS G) s s.heap) {i : Int32} (hin : vp_in i N) {v : Value} (hv : f i.toNatClampNeg = v) (hdg : decode cc pc = .ok (.baload, 1)) (ht : pc + 1 = t) (kk : J G p l e R s m args below meth c nL cells slots Q I t lc (v :: st)) : J G p l e R s m args below meth c nL cells slots Q I pc lc (.int i :: .ref a :: st) := by
  subst ht
  intro H locs ls h1 h2 h3
  exact va_tb hX.1 hX.2.1 hT (hX.s3 h3) hin hv hdg (kk H locs ls h1 h2 h3)
/-- a virtual call of an object that never changes -/
theorem J_callO (hX : FX G own cc nL p s m args c) {y : MethodName} {cd : ByteArray} {mL n index mc ms b : Nat} {ret : Option FieldType} {rm : Room} {v : Option Value} {w2 : Wd} (As rest st2 : List Value) (hM : CT G l y cd mL ret rm mc ms (.ref b :: As) w v w2) (mi : MI y cd mL ret n) (mv : MV y) (hO : va_O y.cls b (gS G) s s.heap) (hw : Cond.methodLink own index y ∈ WALL) (hrm : rm.cells = mc ∧ rm.slots = ms ∧ rm.frames + 1 ≤ R.frames ∧ 8 + (mL + 11) + rm.locals ≤ R.locals) (hn : As.length = n) (hst : st = As.reverse ++ .ref b :: rest) (hcat : (rest.map fun v => v.category).sum ≤ 8) (hf : cells + mc ≤ R.cells ∧ slots + ms ≤ R.slots)
    (hdg : decode cc pc = .ok (.invokevirtual index, 3)) (ht : pc + 3 = t) (hst2 : v.toList ++ rest = st2) (kk : J G p l e R s m args below meth c nL (cells + mc) (slots + ms) Q (GH G w2) t lc st2) : J G p l e R s m args below meth c nL cells slots Q (GH G w) pc lc st := by
  subst ht; subst hst2
  intro H locs ls h1 h2 h3
  obtain ⟨cell, e1, e2, e3, -⟩ := hO.kept (hX.s3 h3).2.1
  exact J_run (va_runV (C := y.cls) (As := As) (rest := rest) ⟨hX.1, hX.2.1, hX.2.2.1, hX.2.2.2.1, hX.2.2.2.2.1⟩ hM ⟨cb_call hX mi hw hrm, hX.2.2.2.2.1 _ mv.1, hX.2.2.2.2.1 _ mv.2⟩ ⟨GW.blind G w _, ⟨cell, e1, e2, e3⟩, fun U hU hW => ⟨rfl, hX.pre h2 h3 U hU hW⟩⟩ rfl hn h1.1 hst (lv_room hcat) hdg hf) h3 h1 kk
end STR
theorem FX.G2 {G : GG} {own : String} {cc : ByteArray} {p : Program} {s : State} {m : MethodId} {args : Array Value} {c : Code} {nL : Nat} (hX : FX G own cc nL p s m args c) : GL2 G s s.heap := hX.2.2.2.2.2.2.1.2.2.2.2.2.2.2.2.2
theorem FX.st {G : GG} {own : String} {cc : ByteArray} {p : Program} {s : State} {m : MethodId} {args : Array Value} {c : Code} {nL : Nat} (hX : FX G own cc nL p s m args c) {i : Nat} (hi : i < 12) : va_O "java/lang/String" (ga G (16 + i)) (gS G) s s.heap ∧ va_OF "java/lang/String" "coder" "B" (.int 0) (ga G (16 + i)) (gS G) s s.heap ∧ va_OF "java/lang/String" "value" "[B" (.ref (ga G (28 + i))) (ga G (16 + i)) (gS G) s s.heap ∧ va_T .byte (ga G (28 + i)) (enLen.getD i 0) (fun j => .int ((enByt.getD i []).getD j 0)) (gS G) s s.heap := hX.2.2.2.2.2.2.1.2.2.2.1.1 i hi
theorem miJ0_length_8abf5 : MI yJ0_length_8abf5 cJ0_length_8abf5 1 (some .int) 0 := ⟨q_946, q_150, by decide +kernel, by decide +kernel, by decide +kernel, by decide +kernel⟩
theorem mvJ0_length_8abf5 : MV yJ0_length_8abf5 := ⟨q_944, q_945⟩
theorem miJ0_coder_7d493 : MI yJ0_coder_7d493 cJ0_coder_7d493 1 (some .byte) 0 := ⟨q_950, q_150, by decide +kernel, by decide +kernel, by decide +kernel, by decide +kernel⟩
theorem mvJ0_coder_7d493 : MV yJ0_coder_7d493 := ⟨q_948, q_949⟩
theorem miJ0_charAt_5068e : MI yJ0_charAt_5068e cJ0_charAt_5068e 2 (some .char) 1 := ⟨q_958, q_150, by decide +kernel, by decide +kernel, by decide +kernel, by decide +kernel⟩
theorem mvJ0_charAt_5068e : MV yJ0_charAt_5068e := ⟨q_956, q_957⟩
theorem miJ0_isLatin1_aae02 : MI yJ0_isLatin1_aae02 cJ0_isLatin1_aae02 1 (some .boolean) 0 := ⟨q_962, q_150, by decide +kernel, by decide +kernel, by decide +kernel, by decide +kernel⟩
theorem mvJ0_isLatin1_aae02 : MV yJ0_isLatin1_aae02 := ⟨q_960, q_961⟩
theorem miJ1_charAt_3b067 : MI yJ1_charAt_3b067 cJ1_charAt_3b067 2 (some .char) 2 := ⟨q_965, q_158, by decide +kernel, by decide +kernel, by decide +kernel, by decide +kernel⟩
theorem miJ0_checkIndex_df160 : MI yJ0_checkIndex_df160 cJ0_checkIndex_df160 2 none 2 := ⟨q_968, q_150, by decide +kernel, by decide +kernel, by decide +kernel, by decide +kernel⟩
theorem miJ3_checkIndex_8e157 : MI yJ3_checkIndex_8e157 cJ3_checkIndex_8e157 3 (some .int) 3 := ⟨q_973, q_159, by decide +kernel, by decide +kernel, by decide +kernel, by decide +kernel⟩
theorem miJx29ce0_ordinal_8abf5 : MI yJx29ce0_ordinal_8abf5 cJx29ce0_ordinal_8abf5 1 (some .int) 0 := ⟨q_1037, q_144, by decide +kernel, by decide +kernel, by decide +kernel, by decide +kernel⟩
abbrev rm1 : Room := { frames := 1, cells := 0, slots := 0, locals := 40 }
abbrev rm2 : Room := { frames := 2, cells := 0, slots := 0, locals := 80 }
abbrev rm3 : Room := { frames := 3, cells := 0, slots := 0, locals := 120 }
abbrev rm4 : Room := { frames := 4, cells := 0, slots := 0, locals := 160 }
theorem ct_ord {G : GG} {l : Launch} (w : Wd) (i : Nat) (hi : i < 12) : CT G l yJx29ce0_ordinal_8abf5 cJx29ce0_ordinal_8abf5 1 (some .int) rmO 0 0 [.ref (ga G i)] w (some (.int (nI i))) w := by
  refine CT.of miJx29ce0_ordinal_8abf5 [(0, .ref (ga G i))] rfl (Nat.le_of_ble_eq_true rfl) ?_
  intro p e s m args below meth c hX hR hlk
  refine J_aload_n hX dJx29ce0_ordinal_8abf5_0 0 rfl (t := 1) rfl ?_
  refine J_getVI hX hi ("java/lang/Enum", "ordinal", "I", [0, 1, 2, 3, 4, 5, 6, 7, 8, 9, 10, 11]) List.mem_cons_self q_2845 (enO_e i hi) dJx29ce0_ordinal_8abf5_1 (t := 4) rfl ?_
  exact J_iret hX hR hlk dJx29ce0_ordinal_8abf5_4
theorem J_ord {G : GG} {own : String} {cc : ByteArray} {p : Program} {l : Launch} {e : Env} {R : Room} {s : State} {m : MethodId} {args : Array Value} {below : List Frame} {meth : Method} {c : Code} {nL cells slots : Nat} {Q : State → Prop} {pc t : Nat} {lc : List (Nat × Value)} {st : List Value} {w : Wd} (hX : FX G own cc nL p s m args c) {i index : Nat} (hi : i < 12) (hw : Cond.methodLink own index ⟨"EchoMarket$Verb", "ordinal", "()I"⟩ ∈ WALL) (hR : 1 ≤ R.frames ∧ 20 ≤ R.locals ∧ cells ≤ R.cells ∧ slots ≤ R.slots) (hcat : (st.map fun v => v.category).sum ≤ 8) (hdg : decode cc pc = .ok (.invokevirtual index, 3)) (ht : pc + 3 = t) (kk : J G p l e R s m args below meth c nL cells slots Q (GH G w) t lc (.int (nI i) :: st)) : J G p l e R s m args below meth c nL cells slots Q (GH G w) pc lc (.ref (ga G i) :: st) := by
  subst ht
  intro H locs ls h1 h2 h3
  obtain ⟨cell, e1, e2, e3, -⟩ := (hX.2.2.2.2.2.2.1.1.1 i hi).2.1.kept (hX.s3 h3).2.1
  have hgood : GoodIn WALL (va_wsU own index "EchoMarket$Verb" RJx29ce0 ⟨"EchoMarket$Verb", "ordinal", "()I"⟩ yJx29ce0_ordinal_8abf5 (wsY yJx29ce0_ordinal_8abf5 cJx29ce0_ordinal_8abf5 1 (some .int))) := fun w9 h9 => by
    rcases List.mem_append.mp h9 with h | h
    · rcases List.mem_cons.mp h with rfl | h
      · exact WALL_good _ hw
      rcases List.mem_cons.mp h with rfl | h
      · exact WALL_good _ q_1033
      rcases List.mem_cons.mp h with rfl | h
      · exact WALL_good _ q_1035
      rcases List.mem_cons.mp h with rfl | h
      · exact WALL_good _ q_1036
      rcases List.mem_cons.mp h with rfl | h
      · exact WALL_good _ q_144
      · cases h
    · exact cb_good miJx29ce0_ordinal_8abf5.1 w9 h
  exact J_run (va_runU (C := "EchoMarket$Verb") (owner := RJx29ce0) (x := ⟨"EchoMarket$Verb", "ordinal", "()I"⟩) (As := []) (rest := st) ⟨hX.1, hX.2.1, hX.2.2.1, hX.2.2.2.1, hX.2.2.2.2.1⟩ (ct_ord w i hi) (va_cwU 0 hX.2.2.2.2.1 hgood rfl rfl rfl rfl ⟨by decide +kernel, by decide +kernel, by decide +kernel⟩ ⟨hR.1, hR.2.1⟩) ⟨GW.blind G w _, ⟨cell, e1, e2, e3⟩, fun U hU hW => ⟨rfl, hX.pre h2 h3 U hU hW⟩⟩ rfl rfl h1.1 rfl (lv_room hcat) hdg ⟨hR.2.2.1, hR.2.2.2⟩) h3 h1 kk
theorem ct_pci {G : GG} {l : Launch} {w : Wd} {x n : Int32} {v : Value} (hv : v = .null ∨ ∃ a, v = .ref a) (h0 : ¬ x < 0) (h1 : x < n) : CT G l yJ3_checkIndex_8e157 cJ3_checkIndex_8e157 3 (some .int) rmO 0 0 [.int x, .int n, v] w (some (.int x)) w := by
  refine CT.of miJ3_checkIndex_8e157 [(0, .int x), (1, .int n), (2, v)] rfl (by rcases hv with rfl | ⟨a, rfl⟩ <;> exact Nat.le_of_ble_eq_true rfl) ?_
  intro p e s m args below meth c hX hR hlk
  refine J_iload_n hX dJ3_checkIndex_8e157_0 0 rfl (t := 1) rfl ?_
  refine J_if_lt (tgt := 9) hX dJ3_checkIndex_8e157_1 (by decide) (t := 4) rfl (fun z => absurd z h0) (fun z => ?_)
  refine J_iload_n hX dJ3_checkIndex_8e157_4 0 rfl (t := 5) rfl ?_
  refine J_iload_n hX dJ3_checkIndex_8e157_5 1 rfl (t := 6) rfl ?_
  refine J_icmp_lt (tgt := 16) hX dJ3_checkIndex_8e157_6 (by decide) (t := 9) rfl (fun z => ?_) (fun z => absurd h1 z)
  refine J_iload_n hX dJ3_checkIndex_8e157_16 0 rfl (t := 17) rfl ?_
  exact J_iret hX hR hlk dJ3_checkIndex_8e157_17
theorem ct_sci {G : GG} {l : Launch} {w : Wd} {x n : Int32} (h0 : ¬ x < 0) (h1 : x < n) : CT G l yJ0_checkIndex_df160 cJ0_checkIndex_df160 2 none rm1 0 0 [.int x, .int n] w none w := by
  refine CT.of miJ0_checkIndex_df160 [(0, .int x), (1, .int n)] rfl (Nat.le_of_ble_eq_true rfl) ?_
  intro p e s m args below meth c hX hR hlk
  refine J_iload_n hX dJ0_checkIndex_df160_0 0 rfl (t := 1) rfl ?_
  refine J_iload_n hX dJ0_checkIndex_df160_1 1 rfl (t := 2) rfl ?_
  refine J_gsq hX hX.G2.2.1 q_969 dJ0_checkIndex_df160_2 (t := 5) rfl (fun v hv => ?_)
  refine J_callS hX [.int x, .int n, v] [] [.int x] (ct_pci hv h0 h1) miJ3_checkIndex_8e157 q_972 q_971 ⟨rfl, rfl, Nat.le_of_ble_eq_true rfl, Nat.le_of_ble_eq_true rfl⟩ rfl rfl (Nat.le_of_ble_eq_true rfl) ⟨Nat.le_of_ble_eq_true rfl, Nat.le_of_ble_eq_true rfl⟩ dJ0_checkIndex_df160_5 (t := 8) rfl rfl ?_
  refine J_pop hX dJ0_checkIndex_df160_8 rfl (t := 9) rfl ?_
  exact J_vret hX hR hlk dJ0_checkIndex_df160_9
/-- letter k of verb i's word -/
def enC (i k : Nat) : Int32 := (((((enByt.getD i []).getD k 0) &&& 255).toUInt32) % 65536).toInt32
theorem ct_l1c {G : GG} {l : Launch} {w : Wd} {i : Nat} (hi : i < 12) {x : Int32} (hx : inb x (enLen.getD i 0) = true) : CT G l yJ1_charAt_3b067 cJ1_charAt_3b067 2 (some .char) rm2 0 0 [.ref (ga G (28 + i)), .int x] w (some (.int (enC i x.toNatClampNeg))) w := by
  have hlen : enLen.getD i 0 < 2 ^ 31 := by
    have : ∀ i, i < 12 → enLen.getD i 0 < 2 ^ 31 := by decide
    exact this i hi
  have hin := inb_in hx
  have h0 : ¬ x < 0 := fun z => hin (Or.inl z)
  have h1 : x < Int32.ofNat (enLen.getD i 0) := by
    obtain ⟨k, hk, rfl⟩ := vp_in_of hin hlen
    exact nI_lt hk hlen
  refine CT.of miJ1_charAt_3b067 [(0, .ref (ga G (28 + i))), (1, .int x)] rfl (Nat.le_of_ble_eq_true rfl) ?_
  intro p e s m args below meth c hX hR hlk
  refine J_iload_n hX dJ1_charAt_3b067_0 1 rfl (t := 1) rfl ?_
  refine J_aload_n hX dJ1_charAt_3b067_1 0 rfl (t := 2) rfl ?_
  refine J_tlen hX (hX.st hi).2.2.2 rfl dJ1_charAt_3b067_2 (t := 3) rfl ?_
  refine J_callS hX [.int x, .int (Int32.ofNat (enLen.getD i 0))] [] [] (ct_sci h0 h1) miJ0_checkIndex_df160 q_967 q_966 ⟨rfl, rfl, Nat.le_of_ble_eq_true rfl, Nat.le_of_ble_eq_true rfl⟩ rfl rfl (Nat.le_of_ble_eq_true rfl) ⟨Nat.le_of_ble_eq_true rfl, Nat.le_of_ble_eq_true rfl⟩ dJ1_charAt_3b067_3 (t := 6) rfl rfl ?_
  refine J_aload_n hX dJ1_charAt_3b067_6 0 rfl (t := 7) rfl ?_
  refine J_iload_n hX dJ1_charAt_3b067_7 1 rfl (t := 8) rfl ?_
  refine J_tb hX (hX.st hi).2.2.2 hin rfl dJ1_charAt_3b067_8 (t := 9) rfl ?_
  refine J_sipush (v := 255) hX dJ1_charAt_3b067_9 (by decide) (t := 12) rfl ?_
  refine J_iand hX dJ1_charAt_3b067_12 (t := 13) rfl ?_
  refine J_i2c hX dJ1_charAt_3b067_13 (t := 14) rfl ?_
  exact J_nret hX hR hlk (pk_nc _) dJ1_charAt_3b067_14
theorem ct_cod {G : GG} {l : Launch} {w : Wd} {i : Nat} (hi : i < 12) : CT G l yJ0_coder_7d493 cJ0_coder_7d493 1 (some .byte) rmO 0 0 [.ref (ga G (16 + i))] w (some (.int 0)) w := by
  refine CT.of miJ0_coder_7d493 [(0, .ref (ga G (16 + i)))] rfl (Nat.le_of_ble_eq_true rfl) ?_
  intro p e s m args below meth c hX hR hlk
  refine J_gst hX hX.G2.1 q_951 dJ0_coder_7d493_0 (t := 3) rfl ?_
  refine J_if_eq (tgt := 13) hX dJ0_coder_7d493_3 (by decide) (t := 6) rfl (fun z => absurd z (by decide)) (fun z => ?_)
  refine J_aload_n hX dJ0_coder_7d493_6 0 rfl (t := 7) rfl ?_
  refine J_getO hX (hX.st hi).2.1 q_1853 dJ0_coder_7d493_7 (t := 10) rfl ?_
  refine J_goto (tgt := 14) hX dJ0_coder_7d493_10 (by decide) ?_
  exact J_nret hX hR hlk rfl dJ0_coder_7d493_14
theorem ct_isl {G : GG} {l : Launch} {w : Wd} {i : Nat} (hi : i < 12) : CT G l yJ0_isLatin1_aae02 cJ0_isLatin1_aae02 1 (some .boolean) rmO 0 0 [.ref (ga G (16 + i))] w (some (.int (bI true))) w := by
  refine CT.of miJ0_isLatin1_aae02 [(0, .ref (ga G (16 + i)))] rfl (Nat.le_of_ble_eq_true rfl) ?_
  intro p e s m args below meth c hX hR hlk
  refine J_gst hX hX.G2.1 q_951 dJ0_isLatin1_aae02_0 (t := 3) rfl ?_
  refine J_if_eq (tgt := 17) hX dJ0_isLatin1_aae02_3 (by decide) (t := 6) rfl (fun z => absurd z (by decide)) (fun z => ?_)
  refine J_aload_n hX dJ0_isLatin1_aae02_6 0 rfl (t := 7) rfl ?_
  refine J_getO hX (hX.st hi).2.1 q_1853 dJ0_isLatin1_aae02_7 (t := 10) rfl ?_
  refine J_if_ne (tgt := 17) hX dJ0_isLatin1_aae02_10 (by decide) (t := 13) rfl (fun z => absurd rfl z) (fun z => ?_)
  refine J_iconst (v := 1) hX dJ0_isLatin1_aae02_13 (by decide) (t := 14) rfl ?_
  refine J_goto (tgt := 18) hX dJ0_isLatin1_aae02_14 (by decide) ?_
  exact J_zret (b := true) hX hR hlk dJ0_isLatin1_aae02_18
theorem ct_len {G : GG} {l : Launch} {w : Wd} {i : Nat} (hi : i < 12) : CT G l yJ0_length_8abf5 cJ0_length_8abf5 1 (some .int) rm1 0 0 [.ref (ga G (16 + i))] w (some (.int (nI (enLen.getD i 0)))) w := by
  refine CT.of miJ0_length_8abf5 [(0, .ref (ga G (16 + i)))] rfl (Nat.le_of_ble_eq_true rfl) ?_
  intro p e s m args below meth c hX hR hlk
  refine J_aload_n hX dJ0_length_8abf5_0 0 rfl (t := 1) rfl ?_
  refine J_getO hX (hX.st hi).2.2.1 q_1852 dJ0_length_8abf5_1 (t := 4) rfl ?_
  refine J_tlen hX (hX.st hi).2.2.2 rfl dJ0_length_8abf5_4 (t := 5) rfl ?_
  refine J_aload_n hX dJ0_length_8abf5_5 0 rfl (t := 6) rfl ?_
  refine J_callO hX [] [.int (Int32.ofNat (enLen.getD i 0))] [.int 0, .int (Int32.ofNat (enLen.getD i 0))] (ct_cod hi) miJ0_coder_7d493 mvJ0_coder_7d493 (hX.st hi).1 q_947 ⟨rfl, rfl, Nat.le_of_ble_eq_true rfl, Nat.le_of_ble_eq_true rfl⟩ rfl rfl (Nat.le_of_ble_eq_true rfl) ⟨Nat.le_of_ble_eq_true rfl, Nat.le_of_ble_eq_true rfl⟩ dJ0_length_8abf5_6 (t := 9) rfl rfl ?_
  refine J_ishr hX dJ0_length_8abf5_9 (t := 10) rfl ?_
  refine J_val (sb_shr0 _) ?_
  exact J_iret hX hR hlk dJ0_length_8abf5_10
theorem ct_chr {G : GG} {l : Launch} {w : Wd} {i : Nat} (hi : i < 12) {x : Int32} (hx : inb x (enLen.getD i 0) = true) : CT G l yJ0_charAt_5068e cJ0_charAt_5068e 2 (some .char) rm3 0 0 [.ref (ga G (16 + i)), .int x] w (some (.int (enC i x.toNatClampNeg))) w := by
  refine CT.of miJ0_charAt_5068e [(0, .ref (ga G (16 + i))), (1, .int x)] rfl (Nat.le_of_ble_eq_true rfl) ?_
  intro p e s m args below meth c hX hR hlk
  refine J_aload_n hX dJ0_charAt_5068e_0 0 rfl (t := 1) rfl ?_
  refine J_callO hX [] [] [.int (bI true)] (ct_isl hi) miJ0_isLatin1_aae02 mvJ0_isLatin1_aae02 (hX.st hi).1 q_959 ⟨rfl, rfl, Nat.le_of_ble_eq_true rfl, Nat.le_of_ble_eq_true rfl⟩ rfl rfl (Nat.le_of_ble_eq_true rfl) ⟨Nat.le_of_ble_eq_true rfl, Nat.le_of_ble_eq_true rfl⟩ dJ0_charAt_5068e_1 (t := 4) rfl rfl ?_
  refine J_if_eq (tgt := 16) hX dJ0_charAt_5068e_4 (by decide) (t := 7) rfl (fun z => absurd z (by decide)) (fun z => ?_)
  refine J_aload_n hX dJ0_charAt_5068e_7 0 rfl (t := 8) rfl ?_
  refine J_getO hX (hX.st hi).2.2.1 q_1852 dJ0_charAt_5068e_8 (t := 11) rfl ?_
  refine J_iload_n hX dJ0_charAt_5068e_11 1 rfl (t := 12) rfl ?_
  refine J_callS hX [.ref (ga G (28 + i)), .int x] [] [.int (enC i x.toNatClampNeg)] (ct_l1c hi hx) miJ1_charAt_3b067 q_964 q_963 ⟨rfl, rfl, Nat.le_of_ble_eq_true rfl, Nat.le_of_ble_eq_true rfl⟩ rfl rfl (Nat.le_of_ble_eq_true rfl) ⟨Nat.le_of_ble_eq_true rfl, Nat.le_of_ble_eq_true rfl⟩ dJ0_charAt_5068e_12 (t := 15) rfl rfl ?_
  exact J_nret hX hR hlk (pk_nc _) dJ0_charAt_5068e_15
