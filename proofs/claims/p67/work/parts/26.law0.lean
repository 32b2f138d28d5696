/-! THE LAW's METHODS: the class's object at n1 beside the law's world; calls into each of them -/
def KcA (n1 : Nat) : Nat → Prop := fun q => n1 ≤ q ∧ q < n1 + 495
abbrev GCz (G : GG) (n1 z : Nat) : GG := upK G n1 (KcA n1) z
abbrev aC (n1 : Nat) : Nat := n1 + (offr 0 + 0)
/-- the class's object at n1 -/
def CH (G : GG) (n1 : Nat) (w : Wd) (H : Heap) : Prop := ∀ r j, inW r j → va_at (gD G) jcl (adr (GCz G n1 0) r j, cellOf (GCz G n1 0) r j ((w r).1 j) ((w r).2 j)) H
theorem inW_K {n1 r j : Nat} (h : inW r j) : KcA n1 (n1 + (offr r + j)) := ⟨Nat.le_add_right _ _, Nat.add_lt_add_left (inW_off h) n1⟩
theorem CH.gh {G : GG} {n1 z : Nat} {w : Wd} {H : Heap} (h : CH G n1 w H) : GH (GCz G n1 z) w H := ⟨h, fun _ _ hi => Or.inl (inW_K hi)⟩
theorem CH.of {G : GG} {n1 z : Nat} {w : Wd} {H : Heap} (h : GH (GCz G n1 z) w H) : CH G n1 w H := h.1
theorem CH.kept {G : GG} {n1 : Nat} {w : Wd} {H H1 : Heap} (h : CH G n1 w H) (hq : ∀ q : Nat, KcA n1 q → q < H.size → H1[q]? = H[q]?) : CH G n1 w H1 := fun r j hi => (h r j hi).kept (hq _ (inW_K hi) (h r j hi).lt)
def RC (G : GG) (n1 : Nat) (X : Heap → Prop) (w : Wd) (H : Heap) : Prop := CH G n1 w H ∧ X H
abbrev LH (G : GG) (n1 : Nat) (X : Heap → Prop) (z : Wd × MM) : Heap → Prop := WH G (RC G n1 X z.1) z.2
/-- what stands still beside both -/
def XS (G : GG) (n1 : Nat) (X : Heap → Prop) : Prop := ∀ H H1 : Heap, X H → H.size ≤ H1.size → (∀ q : Nat, q < H.size → ¬ KwA G q → ¬ KcA n1 q → H1[q]? = H[q]?) → X H1
def LOK (G : GG) (n1 : Nat) (X : Heap → Prop) : Prop := g0 G + 52 ≤ n1 ∧ (∀ q, g0 G ≤ q → gA G q) ∧ XS G n1 X
theorem LOK.far {G : GG} {n1 : Nat} {X : Heap → Prop} (hL : LOK G n1 X) {q : Nat} (h1 : KcA n1 q) : ¬ KwA G q := fun h2 => by have := hL.1; have := h1.1; have := h2.2; omega
theorem LOK.rs {G : GG} {n1 : Nat} {X : Heap → Prop} (hL : LOK G n1 X) (w : Wd) : RSw G (RC G n1 X w) := fun H H1 h hz hq => ⟨h.1.kept (fun q hk hl => hq q hl (hL.far hk)), hL.2.2 H H1 h.2 hz (fun q hl hw _ => hq q hl hw)⟩
def bx1 {α β γ : Type} (x : Option (Except α β)) (f : β → Option γ) : Option γ := match x with | some (.ok a) => f a | _ => none
def bx2 {α β δ γ : Type} (x : Option (Except α (β × δ))) (f : β → δ → Option γ) : Option γ := match x with | some (.ok a) => f a.1 a.2 | _ => none
theorem bx1_e {α β γ : Type} {x : Option (Except α β)} {f : β → Option γ} {r : γ} (h : bx1 x f = some r) : ∃ y, x = some (.ok y) ∧ f y = some r := by
  match x, h with
  | some (.ok a), h => exact ⟨a, rfl, h⟩
theorem bx2_e {α β δ γ : Type} {x : Option (Except α (β × δ))} {f : β → δ → Option γ} {r : γ} (h : bx2 x f = some r) : ∃ y z, x = some (.ok (y, z)) ∧ f y z = some r := by
  match x, h with
  | some (.ok a), h => exact ⟨a.1, a.2, rfl, h⟩
theorem cpJ6_bitCount {G : GG} {l : Launch} {I : Heap → Prop} (p0 : Int32) {rx : Int32} (hF : FJ6_bitCount_0f7a4 p0 = rx) : CTP G l yJ6_bitCount_0f7a4 cJ6_bitCount_0f7a4 1 (some .int) rmJ6_bitCount_0f7a4 0 0 [.int p0] I (fun v9 H => v9 = some (.int rx) ∧ I H) := by
  refine CTP.of miJ6_bitCount_0f7a4 [(0, .int p0)] rfl (Nat.le_of_ble_eq_true rfl) ?_
  intro p e s m args below meth c hX hR hlk
  have hX : FX G RJ6 cJ6_bitCount_0f7a4 1 p s m args c := hX
  unfold FJ6_bitCount_0f7a4 at hF
  refine J_iload_n hX dJ6_bitCount_0f7a4_0 0 rfl (t := 1) rfl ?_
  refine J_iload_n hX dJ6_bitCount_0f7a4_1 0 rfl (t := 2) rfl ?_
  refine J_iconst (v := 1) hX dJ6_bitCount_0f7a4_2 (by decide) (t := 3) rfl ?_
  refine J_iushr hX dJ6_bitCount_0f7a4_3 (t := 4) rfl ?_
  refine J_ldc_w hX dJ6_bitCount_0f7a4_4 q_1482 (t := 7) rfl ?_
  refine J_iand hX dJ6_bitCount_0f7a4_7 (t := 8) rfl ?_
  refine J_isub hX dJ6_bitCount_0f7a4_8 (t := 9) rfl ?_
  refine J_istore_n (lc2 := [(0, .int (p0 - (((p0.toUInt32 >>> ((1 : Int32).toUInt32 &&& Int32.toUInt32 31)).toInt32) &&& 1431655765)))]) hX dJ6_bitCount_0f7a4_9 rfl (Nat.le_of_ble_eq_true rfl) rfl (t := 10) rfl ?_
  refine J_iload_n hX dJ6_bitCount_0f7a4_10 0 rfl (t := 11) rfl ?_
  refine J_ldc_w hX dJ6_bitCount_0f7a4_11 q_1483 (t := 14) rfl ?_
  refine J_iand hX dJ6_bitCount_0f7a4_14 (t := 15) rfl ?_
  refine J_iload_n hX dJ6_bitCount_0f7a4_15 0 rfl (t := 16) rfl ?_
  refine J_iconst (v := 2) hX dJ6_bitCount_0f7a4_16 (by decide) (t := 17) rfl ?_
  refine J_iushr hX dJ6_bitCount_0f7a4_17 (t := 18) rfl ?_
  refine J_ldc_w hX dJ6_bitCount_0f7a4_18 q_1483 (t := 21) rfl ?_
  refine J_iand hX dJ6_bitCount_0f7a4_21 (t := 22) rfl ?_
  refine J_iadd hX dJ6_bitCount_0f7a4_22 (t := 23) rfl ?_
  refine J_istore_n (lc2 := [(0, .int (((p0 - (((p0.toUInt32 >>> ((1 : Int32).toUInt32 &&& Int32.toUInt32 31)).toInt32) &&& 1431655765)) &&& 858993459) + ((((p0 - (((p0.toUInt32 >>> ((1 : Int32).toUInt32 &&& Int32.toUInt32 31)).toInt32) &&& 1431655765)).toUInt32 >>> ((2 : Int32).toUInt32 &&& Int32.toUInt32 31)).toInt32) &&& 858993459)))]) hX dJ6_bitCount_0f7a4_23 rfl (Nat.le_of_ble_eq_true rfl) rfl (t := 24) rfl ?_
  refine J_iload_n hX dJ6_bitCount_0f7a4_24 0 rfl (t := 25) rfl ?_
  refine J_iload_n hX dJ6_bitCount_0f7a4_25 0 rfl (t := 26) rfl ?_
  refine J_iconst (v := 4) hX dJ6_bitCount_0f7a4_26 (by decide) (t := 27) rfl ?_
  refine J_iushr hX dJ6_bitCount_0f7a4_27 (t := 28) rfl ?_
  refine J_iadd hX dJ6_bitCount_0f7a4_28 (t := 29) rfl ?_
  refine J_ldc_w hX dJ6_bitCount_0f7a4_29 q_1484 (t := 32) rfl ?_
  refine J_iand hX dJ6_bitCount_0f7a4_32 (t := 33) rfl ?_
  refine J_istore_n (lc2 := [(0, .int (((((p0 - (((p0.toUInt32 >>> ((1 : Int32).toUInt32 &&& Int32.toUInt32 31)).toInt32) &&& 1431655765)) &&& 858993459) + ((((p0 - (((p0.toUInt32 >>> ((1 : Int32).toUInt32 &&& Int32.toUInt32 31)).toInt32) &&& 1431655765)).toUInt32 >>> ((2 : Int32).toUInt32 &&& Int32.toUInt32 31)).toInt32) &&& 858993459)) + (((((p0 - (((p0.toUInt32 >>> ((1 : Int32).toUInt32 &&& Int32.toUInt32 31)).toInt32) &&& 1431655765)) &&& 858993459) + ((((p0 - (((p0.toUInt32 >>> ((1 : Int32).toUInt32 &&& Int32.toUInt32 31)).toInt32) &&& 1431655765)).toUInt32 >>> ((2 : Int32).toUInt32 &&& Int32.toUInt32 31)).toInt32) &&& 858993459)).toUInt32 >>> ((4 : Int32).toUInt32 &&& Int32.toUInt32 31)).toInt32)) &&& 252645135))]) hX dJ6_bitCount_0f7a4_33 rfl (Nat.le_of_ble_eq_true rfl) rfl (t := 34) rfl ?_
  refine J_iload_n hX dJ6_bitCount_0f7a4_34 0 rfl (t := 35) rfl ?_
  refine J_iload_n hX dJ6_bitCount_0f7a4_35 0 rfl (t := 36) rfl ?_
  refine J_bipush (v := 8) hX dJ6_bitCount_0f7a4_36 (by decide) (t := 38) rfl ?_
  refine J_iushr hX dJ6_bitCount_0f7a4_38 (t := 39) rfl ?_
  refine J_iadd hX dJ6_bitCount_0f7a4_39 (t := 40) rfl ?_
  refine J_istore_n (lc2 := [(0, .int ((((((p0 - (((p0.toUInt32 >>> ((1 : Int32).toUInt32 &&& Int32.toUInt32 31)).toInt32) &&& 1431655765)) &&& 858993459) + ((((p0 - (((p0.toUInt32 >>> ((1 : Int32).toUInt32 &&& Int32.toUInt32 31)).toInt32) &&& 1431655765)).toUInt32 >>> ((2 : Int32).toUInt32 &&& Int32.toUInt32 31)).toInt32) &&& 858993459)) + (((((p0 - (((p0.toUInt32 >>> ((1 : Int32).toUInt32 &&& Int32.toUInt32 31)).toInt32) &&& 1431655765)) &&& 858993459) + ((((p0 - (((p0.toUInt32 >>> ((1 : Int32).toUInt32 &&& Int32.toUInt32 31)).toInt32) &&& 1431655765)).toUInt32 >>> ((2 : Int32).toUInt32 &&& Int32.toUInt32 31)).toInt32) &&& 858993459)).toUInt32 >>> ((4 : Int32).toUInt32 &&& Int32.toUInt32 31)).toInt32)) &&& 252645135) + (((((((p0 - (((p0.toUInt32 >>> ((1 : Int32).toUInt32 &&& Int32.toUInt32 31)).toInt32) &&& 1431655765)) &&& 858993459) + ((((p0 - (((p0.toUInt32 >>> ((1 : Int32).toUInt32 &&& Int32.toUInt32 31)).toInt32) &&& 1431655765)).toUInt32 >>> ((2 : Int32).toUInt32 &&& Int32.toUInt32 31)).toInt32) &&& 858993459)) + (((((p0 - (((p0.toUInt32 >>> ((1 : Int32).toUInt32 &&& Int32.toUInt32 31)).toInt32) &&& 1431655765)) &&& 858993459) + ((((p0 - (((p0.toUInt32 >>> ((1 : Int32).toUInt32 &&& Int32.toUInt32 31)).toInt32) &&& 1431655765)).toUInt32 >>> ((2 : Int32).toUInt32 &&& Int32.toUInt32 31)).toInt32) &&& 858993459)).toUInt32 >>> ((4 : Int32).toUInt32 &&& Int32.toUInt32 31)).toInt32)) &&& 252645135).toUInt32 >>> ((8 : Int32).toUInt32 &&& Int32.toUInt32 31)).toInt32)))]) hX dJ6_bitCount_0f7a4_40 rfl (Nat.le_of_ble_eq_true rfl) rfl (t := 41) rfl ?_
  refine J_iload_n hX dJ6_bitCount_0f7a4_41 0 rfl (t := 42) rfl ?_
  refine J_iload_n hX dJ6_bitCount_0f7a4_42 0 rfl (t := 43) rfl ?_
  refine J_bipush (v := 16) hX dJ6_bitCount_0f7a4_43 (by decide) (t := 45) rfl ?_
  refine J_iushr hX dJ6_bitCount_0f7a4_45 (t := 46) rfl ?_
  refine J_iadd hX dJ6_bitCount_0f7a4_46 (t := 47) rfl ?_
  refine J_istore_n (lc2 := [(0, .int (((((((p0 - (((p0.toUInt32 >>> ((1 : Int32).toUInt32 &&& Int32.toUInt32 31)).toInt32) &&& 1431655765)) &&& 858993459) + ((((p0 - (((p0.toUInt32 >>> ((1 : Int32).toUInt32 &&& Int32.toUInt32 31)).toInt32) &&& 1431655765)).toUInt32 >>> ((2 : Int32).toUInt32 &&& Int32.toUInt32 31)).toInt32) &&& 858993459)) + (((((p0 - (((p0.toUInt32 >>> ((1 : Int32).toUInt32 &&& Int32.toUInt32 31)).toInt32) &&& 1431655765)) &&& 858993459) + ((((p0 - (((p0.toUInt32 >>> ((1 : Int32).toUInt32 &&& Int32.toUInt32 31)).toInt32) &&& 1431655765)).toUInt32 >>> ((2 : Int32).toUInt32 &&& Int32.toUInt32 31)).toInt32) &&& 858993459)).toUInt32 >>> ((4 : Int32).toUInt32 &&& Int32.toUInt32 31)).toInt32)) &&& 252645135) + (((((((p0 - (((p0.toUInt32 >>> ((1 : Int32).toUInt32 &&& Int32.toUInt32 31)).toInt32) &&& 1431655765)) &&& 858993459) + ((((p0 - (((p0.toUInt32 >>> ((1 : Int32).toUInt32 &&& Int32.toUInt32 31)).toInt32) &&& 1431655765)).toUInt32 >>> ((2 : Int32).toUInt32 &&& Int32.toUInt32 31)).toInt32) &&& 858993459)) + (((((p0 - (((p0.toUInt32 >>> ((1 : Int32).toUInt32 &&& Int32.toUInt32 31)).toInt32) &&& 1431655765)) &&& 858993459) + ((((p0 - (((p0.toUInt32 >>> ((1 : Int32).toUInt32 &&& Int32.toUInt32 31)).toInt32) &&& 1431655765)).toUInt32 >>> ((2 : Int32).toUInt32 &&& Int32.toUInt32 31)).toInt32) &&& 858993459)).toUInt32 >>> ((4 : Int32).toUInt32 &&& Int32.toUInt32 31)).toInt32)) &&& 252645135).toUInt32 >>> ((8 : Int32).toUInt32 &&& Int32.toUInt32 31)).toInt32)) + ((((((((p0 - (((p0.toUInt32 >>> ((1 : Int32).toUInt32 &&& Int32.toUInt32 31)).toInt32) &&& 1431655765)) &&& 858993459) + ((((p0 - (((p0.toUInt32 >>> ((1 : Int32).toUInt32 &&& Int32.toUInt32 31)).toInt32) &&& 1431655765)).toUInt32 >>> ((2 : Int32).toUInt32 &&& Int32.toUInt32 31)).toInt32) &&& 858993459)) + (((((p0 - (((p0.toUInt32 >>> ((1 : Int32).toUInt32 &&& Int32.toUInt32 31)).toInt32) &&& 1431655765)) &&& 858993459) + ((((p0 - (((p0.toUInt32 >>> ((1 : Int32).toUInt32 &&& Int32.toUInt32 31)).toInt32) &&& 1431655765)).toUInt32 >>> ((2 : Int32).toUInt32 &&& Int32.toUInt32 31)).toInt32) &&& 858993459)).toUInt32 >>> ((4 : Int32).toUInt32 &&& Int32.toUInt32 31)).toInt32)) &&& 252645135) + (((((((p0 - (((p0.toUInt32 >>> ((1 : Int32).toUInt32 &&& Int32.toUInt32 31)).toInt32) &&& 1431655765)) &&& 858993459) + ((((p0 - (((p0.toUInt32 >>> ((1 : Int32).toUInt32 &&& Int32.toUInt32 31)).toInt32) &&& 1431655765)).toUInt32 >>> ((2 : Int32).toUInt32 &&& Int32.toUInt32 31)).toInt32) &&& 858993459)) + (((((p0 - (((p0.toUInt32 >>> ((1 : Int32).toUInt32 &&& Int32.toUInt32 31)).toInt32) &&& 1431655765)) &&& 858993459) + ((((p0 - (((p0.toUInt32 >>> ((1 : Int32).toUInt32 &&& Int32.toUInt32 31)).toInt32) &&& 1431655765)).toUInt32 >>> ((2 : Int32).toUInt32 &&& Int32.toUInt32 31)).toInt32) &&& 858993459)).toUInt32 >>> ((4 : Int32).toUInt32 &&& Int32.toUInt32 31)).toInt32)) &&& 252645135).toUInt32 >>> ((8 : Int32).toUInt32 &&& Int32.toUInt32 31)).toInt32)).toUInt32 >>> ((16 : Int32).toUInt32 &&& Int32.toUInt32 31)).toInt32)))]) hX dJ6_bitCount_0f7a4_47 rfl (Nat.le_of_ble_eq_true rfl) rfl (t := 48) rfl ?_
  refine J_iload_n hX dJ6_bitCount_0f7a4_48 0 rfl (t := 49) rfl ?_
  refine J_bipush (v := 63) hX dJ6_bitCount_0f7a4_49 (by decide) (t := 51) rfl ?_
  refine J_iand hX dJ6_bitCount_0f7a4_51 (t := 52) rfl ?_
  subst hF
  exact J_iretP hX hR hlk (fun H h => ⟨rfl, h⟩) dJ6_bitCount_0f7a4_52
section LROWS
variable {G : GG} {own : String} {cc : ByteArray} {p : Program} {l : Launch} {e : Env} {R : Room} {s : State} {m : MethodId} {args : Array Value} {below : List Frame} {meth : Method} {c : Code} {nL cells slots : Nat} {Q : State → Prop} {pc t : Nat} {lc : List (Nat × Value)} {st : List Value} {n1 : Nat} {X : Heap → Prop} {z z2 : Wd × MM}
/-- a call of the class -/
theorem J_lC (hX : FX G own cc nL p s m args c) (hL : LOK G n1 X) {y : MethodName} {cd : ByteArray} {mL n9 index mc ms : Nat} {ret : Option FieldType} {rm : Room} {v : Option Value} {w2 : Wd} (As rest st2 : List Value) (hM : ∀ zz, CT (GCz G n1 zz) l y cd mL ret rm mc ms (.ref (aC n1) :: As) z.1 v w2) (hz : (w2, z.2) = z2) (mi : MI y cd mL ret n9) (mv : MV y) (cb : CB 9 y.cls TX12 9 tyX12) (hw : Cond.methodLink own index y ∈ WALL) (hrm : rm.cells = mc ∧ rm.slots = ms ∧ rm.frames + 1 ≤ R.frames ∧ 8 + (mL + 11) + rm.locals ≤ R.locals) (hn : As.length = n9) (hst : st = As.reverse ++ .ref (aC n1) :: rest) (hcat : (rest.map fun v => v.category).sum ≤ 8) (hf : cells + mc ≤ R.cells ∧ slots + ms ≤ R.slots)
    (hdg : decode cc pc = .ok (.invokevirtual index, 3)) (ht : pc + 3 = t) (hst2 : v.toList ++ rest = st2) (kk : J G p l e R s m args below meth c nL (cells + mc) (slots + ms) Q (LH G n1 X z2) t lc st2) : J G p l e R s m args below meth c nL cells slots Q (LH G n1 X z) pc lc st := by
  subst ht; subst hst2; subst hz
  intro H locs ls h1 h2 h3
  have hK : ∀ q, KcA n1 q → gA G q := fun q hq => hL.2.1 q (by have := hL.1; have := hq.1; omega)
  have hat : va_at (gD G) jcl (aC n1, .inr (9, fEcho (GCz G n1 0) ((z.1 0).1 0))) H := h2.2.1 0 0 ⟨by decide, by decide⟩
  exact J_runX (I2 := fun v9 H1 => v9 = v ∧ LH G n1 X (w2, z.2) H1) (P1 := fun v9 H1 => v9 = v ∧ GH (GCz G n1 H.size) w2 H1) hX hK (fun st v t ⟨e9, hp, hf⟩ => by cases e9; exact ⟨⟨rfl, hp⟩, hf⟩) (va_runV (C := y.cls) (As := As) (rest := rest) ⟨hX.1, hX.2.1, hX.2.2.1, hX.2.2.2.1, hX.2.2.2.2.1⟩ (hM H.size).toP ⟨cb_call hX mi hw hrm, hX.2.2.2.2.1 _ mv.1, hX.2.2.2.2.1 _ mv.2⟩ ⟨GI.blind _ _ _, va_recv hX.2.2.2.2.2.1 (one_P hat) (ci := 9) (q0 := 0) cb.1 rfl, fun U hU hW => ⟨rfl, hX.preX hK h2.2.1.gh h3 U hU hW⟩⟩ rfl hn h1.1 hst (lv_room hcat) hdg hf) h3 h1
    (fun v9 H1 a b d => ⟨a.1, h2.1.kept (fun q hk hl => d q hl (fun hc => hL.far hc hk)), a.2.1, hL.2.2 H H1 h2.2.2 b (fun q hl _ hc => d q hl hc)⟩) (fun v9 => J_pure fun hv => by subst hv; exact kk)
/-- a call of the law's world -/
theorem J_lW (hX : FX G own cc nL p s m args c) (hL : LOK G n1 X) {y : MethodName} {cd : ByteArray} {mL n9 index mc ms : Nat} {ret : Option FieldType} {rm : Room} {v : Option Value} {V2 : MM} (As rest st2 : List Value) (hM : ∀ zz, CTP (upK G (gn G) (KwA G) zz) l y cd mL ret rm mc ms (.ref (adW G 0) :: As) (WH (upK G (gn G) (KwA G) zz) Tr z.2) (fun v9 H => v9 = v ∧ WH (upK G (gn G) (KwA G) zz) Tr V2 H)) (hz : (z.1, V2) = z2) (mi : MI y cd mL ret n9) (mv : MV y) (cb : CB 10 y.cls TX13 12 tyX13) (hw : Cond.methodLink own index y ∈ WALL) (hrm : rm.cells = mc ∧ rm.slots = ms ∧ rm.frames + 1 ≤ R.frames ∧ 8 + (mL + 11) + rm.locals ≤ R.locals) (hn : As.length = n9) (hst : st = As.reverse ++ .ref (adW G 0) :: rest) (hcat : (rest.map fun v => v.category).sum ≤ 8) (hf : cells + mc ≤ R.cells ∧ slots + ms ≤ R.slots)
    (hdg : decode cc pc = .ok (.invokevirtual index, 3)) (ht : pc + 3 = t) (hst2 : v.toList ++ rest = st2) (kk : J G p l e R s m args below meth c nL (cells + mc) (slots + ms) Q (LH G n1 X z2) t lc st2) : J G p l e R s m args below meth c nL cells slots Q (LH G n1 X z) pc lc st := by
  subst hst2; subst hz
  refine J_xV hX (n := gn G) (K := KwA G) (fun q hq => hL.2.1 q hq.1) (I1 := fun zz => WH (upK G (gn G) (KwA G) zz) Tr z.2) (P1 := fun zz v9 H => v9 = v ∧ WH (upK G (gn G) (KwA G) zz) Tr V2 H) (I2 := fun v9 H1 => v9 = v ∧ LH G n1 X (z.1, V2) H1) As rest hM mi mv cb (fun H h => ⟨_, kW0 H h⟩) (fun H h => ⟨⟨h.1.1, fun j hj => Or.inl (adW_K hj)⟩, trivial⟩)
    (fun H H1 v9 h a b d => ⟨a.1, ⟨a.2.1.1, fun j hj => hL.2.1 _ (Nat.le_add_right _ _)⟩, hL.rs z.1 H H1 h.2 b d⟩) hw hrm hn hst hcat hf hdg ht (fun v9 => J_pure fun hv => ?_)
  subst hv
  exact kk
/-- a call of a method of the law's own -/
theorem J_lS (hX : FX G own cc nL p s m args c) {y : MethodName} {cd : ByteArray} {mL n9 index mc ms : Nat} {ret : Option FieldType} {rm : Room} {v : Option Value} (As rest st2 : List Value) (hM : CTP G l y cd mL ret rm mc ms As (LH G n1 X z) (fun v9 H => v9 = v ∧ LH G n1 X z2 H)) (mi : MI y cd mL ret n9) (mv : Cond.static y ∈ WALL) (hw : Cond.methodLink own index y ∈ WALL) (hrm : rm.cells = mc ∧ rm.slots = ms ∧ rm.frames + 1 ≤ R.frames ∧ 8 + (mL + 11) + rm.locals ≤ R.locals) (hn : As.length = n9) (hst : st = As.reverse ++ rest) (hcat : (rest.map fun v => v.category).sum ≤ 8) (hf : cells + mc ≤ R.cells ∧ slots + ms ≤ R.slots)
    (hdg : decode cc pc = .ok (.invokestatic index, 3)) (ht : pc + 3 = t) (hst2 : v.toList ++ rest = st2) (kk : J G p l e R s m args below meth c nL (cells + mc) (slots + ms) Q (LH G n1 X z2) t lc st2) : J G p l e R s m args below meth c nL cells slots Q (LH G n1 X z) pc lc st := by
  subst hst2
  refine J_callSP hX As rest hM mi mv hw hrm hn hst hcat hf hdg ht (fun v9 => J_pure fun hv => ?_)
  subst hv
  exact kk
theorem J_lPut (hX : FX G own cc nL p s m args c) (hL : LOK G n1 X) {index : Nat} (k : Nat) (hkN : k < 8) (hw : Cond.fieldLink own index (TX13 k).1 (TX13 k).2.1 (TX13 k).2.2.1 ∈ WALL) (hfin : (TX13 k).2.2.2 = false) (hty : tyX13 k = .int) {x : Int32} (hz : (z.1, sI z.2 0 k x) = z2) (hF : fWorld G (upd (z.2.1 0) k x) = (fWorld G (z.2.1 0)).set k (.int x)) (hdg : decode cc pc = .ok (.putfield index, 3)) (ht : pc + 3 = t) (kk : J G p l e R s m args below meth c nL cells slots Q (LH G n1 X z2) t lc st) : J G p l e R s m args below meth c nL cells slots Q (LH G n1 X z) pc lc (.int x :: .ref (adW G 0) :: st) := by
  subst hz
  exact J_wPut hX (hL.rs z.1) k hkN hw hfin hty rfl hF hdg ht kk
theorem J_lAst (hX : FX G own cc nL p s m args c) (hL : LOK G n1 X) {j n : Nat} (hk : RK G j n) {i x : Int32} (hin : inb i n = true) {k : Nat} (hik : i.toNatClampNeg = k) (hz : (z.1, sI z.2 j k x) = z2) (hdg : decode cc pc = .ok (.iastore, 1)) (ht : pc + 1 = t) (kk : J G p l e R s m args below meth c nL cells slots Q (LH G n1 X z2) t lc st) : J G p l e R s m args below meth c nL cells slots Q (LH G n1 X z) pc lc (.int x :: .int i :: .ref (adW G j) :: st) := by
  subst hz
  exact J_wAst hX (hL.rs z.1) hk hin hik rfl hdg ht kk
variable {I : Heap → Prop}
/-- the script -/
theorem J_scald (hX : FX G own cc nL p s m args c) {i : Int32} (hin : inb i (gN G) = true) (hdg : decode cc pc = .ok (.iaload, 1)) (ht : pc + 1 = t) (kk : J G p l e R s m args below meth c nL cells slots Q I t lc (.int (gX G i.toNatClampNeg) :: st)) : J G p l e R s m args below meth c nL cells slots Q I pc lc (.int i :: .ref (ga G 90) :: st) := by
  subst ht
  intro H locs ls h1 h2 h3
  exact va_ti hX.1 hX.2.1 hX.G2.2.2.2.2.2.2.2.2.2.1 (hX.s3 h3) (inb_in hin) rfl hdg (kk H locs ls h1 h2 h3)
theorem J_sclen (hX : FX G own cc nL p s m args c) (hdg : decode cc pc = .ok (.arraylength, 1)) (ht : pc + 1 = t) (kk : J G p l e R s m args below meth c nL cells slots Q I t lc (.int (nI (gN G)) :: st)) : J G p l e R s m args below meth c nL cells slots Q I pc lc (.ref (ga G 90) :: st) := by
  subst ht
  intro H locs ls h1 h2 h3
  obtain ⟨cell, c1, c2, c3, c4, c5, c6, c7⟩ := hX.G2.2.2.2.2.2.2.2.2.2.1
  have hl : ga G 90 < s.heap.size := (Array.getElem?_eq_some_iff.mp c1).1
  exact W.alen (n := nI (gN G)) hX.1 hX.2.1 (by rw [(hX.s3 h3).2.1 _ hl c7]; exact c1) c2 c5 rfl rfl hdg (kk H locs ls h1 h2 h3)
end LROWS
