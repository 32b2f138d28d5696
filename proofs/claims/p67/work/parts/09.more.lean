/-! MORE ROWS: a region's world, fields of each type, Math, switches -/
section MORE
variable {G : GG} {own : String} {cc : ByteArray} {p : Program} {l : Launch} {e : Env} {R : Room} {s : State} {m : MethodId} {args : Array Value} {below : List Frame} {meth : Method} {c : Code} {nL cells slots : Nat} {Q : State → Prop} {pc t : Nat} {lc : List (Nat × Value)} {st : List Value} {w : Wd} {r j : Nat} {M : MM}
theorem JM_get (hX : FX G own cc nL p s m args c) {ci index : Nat} {C : String} {T : u_T} {N : Nat} {ty : Nat → FieldType} (cb : CB ci C T N ty) {F : (Nat → Int32) → (Nat → Int64) → List Value} (hk : KD G r j ci F) (k : Nat) (hkN : k < N) (hw : Cond.fieldLink own index (T k).1 (T k).2.1 (T k).2.2.1 ∈ WALL) {v : Value} (hv : (F (M.1 j) (M.2 j))[k]? = some v) (hdg : decode cc pc = .ok (.getfield index, 3)) (ht : pc + 3 = t)
    (kk : J G p l e R s m args below meth c nL cells slots Q (GH G (sW w r M)) t lc (v :: st)) : J G p l e R s m args below meth c nL cells slots Q (GH G (sW w r M)) pc lc (.ref (adr G r j) :: st) :=
  J_get hX cb hk k hkN hw (by rw [sW_s]; exact hv) hdg ht kk
theorem J_puti (hX : FX G own cc nL p s m args c) {ci index : Nat} {C : String} {T : u_T} {N : Nat} {ty0 : Nat → FieldType} (cb : CB ci C T N ty0) {F : (Nat → Int32) → (Nat → Int64) → List Value} (hk : KD G r j ci F) (k : Nat) (hkN : k < N) (hw : Cond.fieldLink own index (T k).1 (T k).2.1 (T k).2.2.1 ∈ WALL) (hfin : (T k).2.2.2 = false) (hty : ty0 k = .int) {x : Int32} {w2 : Wd} (he : sW w r (sI (w r) j k x) = w2) (hl : ∀ a b, k < (F a b).length) (hs : ∀ a b, F (upd a k x) b = (F a b).set k (.int x)) (hdg : decode cc pc = .ok (.putfield index, 3)) (ht : pc + 3 = t)
    (kk : J G p l e R s m args below meth c nL cells slots Q (GH G w2) t lc st) : J G p l e R s m args below meth c nL cells slots Q (GH G w) pc lc (.int x :: .ref (adr G r j) :: st) := by
  subst he
  exact J_put (M := sI (w r) j k x) hX cb hk k hkN hw hfin (by rw [cb.2.2.1 k hkN, hty]) rfl rfl hl (fun i h => ⟨sI_o _ _ _ h, rfl⟩) (by rw [sI_s]; exact hs _ _) hdg ht kk
theorem JM_puti (hX : FX G own cc nL p s m args c) {ci index : Nat} {C : String} {T : u_T} {N : Nat} {ty0 : Nat → FieldType} (cb : CB ci C T N ty0) {F : (Nat → Int32) → (Nat → Int64) → List Value} (hk : KD G r j ci F) (k : Nat) (hkN : k < N) (hw : Cond.fieldLink own index (T k).1 (T k).2.1 (T k).2.2.1 ∈ WALL) (hfin : (T k).2.2.2 = false) (hty : ty0 k = .int) {x : Int32} {M2 : MM} (he : sI M j k x = M2) (hl : ∀ a b, k < (F a b).length) (hs : ∀ a b, F (upd a k x) b = (F a b).set k (.int x)) (hdg : decode cc pc = .ok (.putfield index, 3)) (ht : pc + 3 = t)
    (kk : J G p l e R s m args below meth c nL cells slots Q (GH G (sW w r M2)) t lc st) : J G p l e R s m args below meth c nL cells slots Q (GH G (sW w r M)) pc lc (.int x :: .ref (adr G r j) :: st) :=
  J_puti hX cb hk k hkN hw hfin hty (by rw [sW_s, sW_sW, he]) hl hs hdg ht kk
theorem J_putl (hX : FX G own cc nL p s m args c) {ci index : Nat} {C : String} {T : u_T} {N : Nat} {ty0 : Nat → FieldType} (cb : CB ci C T N ty0) {F : (Nat → Int32) → (Nat → Int64) → List Value} (hk : KD G r j ci F) (k : Nat) (hkN : k < N) (hw : Cond.fieldLink own index (T k).1 (T k).2.1 (T k).2.2.1 ∈ WALL) (hfin : (T k).2.2.2 = false) (hty : ty0 k = .long) {x : Int64} {w2 : Wd} (he : sW w r (sL (w r) j k x) = w2) (hl : ∀ a b, k < (F a b).length) (hs : ∀ a b, F a (vp_updL b k x) = (F a b).set k (.long x)) (hdg : decode cc pc = .ok (.putfield index, 3)) (ht : pc + 3 = t)
    (kk : J G p l e R s m args below meth c nL cells slots Q (GH G w2) t lc st) : J G p l e R s m args below meth c nL cells slots Q (GH G w) pc lc (.long x :: .ref (adr G r j) :: st) := by
  subst he
  exact J_put (M := sL (w r) j k x) hX cb hk k hkN hw hfin (by rw [cb.2.2.1 k hkN, hty]) rfl rfl hl (fun i h => ⟨rfl, sL_o _ _ _ h⟩) (by rw [sL_s]; exact hs _ _) hdg ht kk
theorem JM_putl (hX : FX G own cc nL p s m args c) {ci index : Nat} {C : String} {T : u_T} {N : Nat} {ty0 : Nat → FieldType} (cb : CB ci C T N ty0) {F : (Nat → Int32) → (Nat → Int64) → List Value} (hk : KD G r j ci F) (k : Nat) (hkN : k < N) (hw : Cond.fieldLink own index (T k).1 (T k).2.1 (T k).2.2.1 ∈ WALL) (hfin : (T k).2.2.2 = false) (hty : ty0 k = .long) {x : Int64} {M2 : MM} (he : sL M j k x = M2) (hl : ∀ a b, k < (F a b).length) (hs : ∀ a b, F a (vp_updL b k x) = (F a b).set k (.long x)) (hdg : decode cc pc = .ok (.putfield index, 3)) (ht : pc + 3 = t)
    (kk : J G p l e R s m args below meth c nL cells slots Q (GH G (sW w r M2)) t lc st) : J G p l e R s m args below meth c nL cells slots Q (GH G (sW w r M)) pc lc (.long x :: .ref (adr G r j) :: st) :=
  J_putl hX cb hk k hkN hw hfin hty (by rw [sW_s, sW_sW, he]) hl hs hdg ht kk
theorem J_putz (hX : FX G own cc nL p s m args c) {ci index : Nat} {C : String} {T : u_T} {N : Nat} {ty0 : Nat → FieldType} (cb : CB ci C T N ty0) {F : (Nat → Int32) → (Nat → Int64) → List Value} (hk : KD G r j ci F) (k : Nat) (hkN : k < N) (hw : Cond.fieldLink own index (T k).1 (T k).2.1 (T k).2.2.1 ∈ WALL) (hfin : (T k).2.2.2 = false) (hty : ty0 k = .boolean) {b : Bool} {w2 : Wd} (he : sW w r (sI (w r) j k (bI b)) = w2) (hl : ∀ a b, k < (F a b).length) (hs : ∀ a b9, F (upd a k (bI b)) b9 = (F a b9).set k (.int (bI b))) (hdg : decode cc pc = .ok (.putfield index, 3)) (ht : pc + 3 = t)
    (kk : J G p l e R s m args below meth c nL cells slots Q (GH G w2) t lc st) : J G p l e R s m args below meth c nL cells slots Q (GH G w) pc lc (.int (bI b) :: .ref (adr G r j) :: st) := by
  subst he
  exact J_put (M := sI (w r) j k (bI b)) hX cb hk k hkN hw hfin (by rw [cb.2.2.1 k hkN, hty]) (bI_nar b) (by cases b <;> rfl) hl (fun i h => ⟨sI_o _ _ _ h, rfl⟩) (by rw [sI_s]; exact hs _ _) hdg ht kk
theorem J_ifZ_eq {I : Heap → Prop} (hX : FX G own cc nL p s m args c) {b : Bool} {off : Int} {tgt : Nat} (hdg : decode cc pc = .ok (.ifCond .eq off, 3)) (hg : (pc : Int) + off = (tgt : Int)) (ht : pc + 3 = t) (kt : b = false → J G p l e R s m args below meth c nL cells slots Q I tgt lc st) (kf : b = true → J G p l e R s m args below meth c nL cells slots Q I t lc st) : J G p l e R s m args below meth c nL cells slots Q I pc lc (.int (bI b) :: st) :=
  J_if_eq hX hdg hg ht (fun z => kt (bI_0 z)) (fun z => kf (bI_1 z))
theorem J_ifZ_ne {I : Heap → Prop} (hX : FX G own cc nL p s m args c) {b : Bool} {off : Int} {tgt : Nat} (hdg : decode cc pc = .ok (.ifCond .ne off, 3)) (hg : (pc : Int) + off = (tgt : Int)) (ht : pc + 3 = t) (kt : b = true → J G p l e R s m args below meth c nL cells slots Q I tgt lc st) (kf : b = false → J G p l e R s m args below meth c nL cells slots Q I t lc st) : J G p l e R s m args below meth c nL cells slots Q I pc lc (.int (bI b) :: st) :=
  J_if_ne hX hdg hg ht (fun z => kt (bI_1 z)) (fun z => kf (bI_0 z))
theorem J_val {I : Heap → Prop} {x y : Int32} (h : x = y) (kk : J G p l e R s m args below meth c nL cells slots Q I pc lc (.int y :: st)) : J G p l e R s m args below meth c nL cells slots Q I pc lc (.int x :: st) := by rw [h]; exact kk
theorem J_max {I : Heap → Prop} (hX : FX G own cc nL p s m args c) {index : Nat} {x y : Int32} (hw : Cond.methodLink own index Lib.Math.max.name ∈ WALL ∧ Cond.static Lib.Math.max.name ∈ WALL ∧ Cond.initialized "java/lang/Math" ∈ WALL ∧ Cond.code Lib.Math.max.name Lib.Math.max.code 2 (some .int) ∈ WALL) (hr : 1 ≤ R.frames ∧ (st.map fun v => v.category).sum + 13 ≤ R.locals ∧ cells ≤ R.cells ∧ slots ≤ R.slots) (hdg : decode cc pc = .ok (.invokestatic index, 3)) (ht : pc + 3 = t) (kk : J G p l e R s m args below meth c nL cells slots Q I t lc (.int (if x < y then y else x) :: st)) : J G p l e R s m args below meth c nL cells slots Q I pc lc (.int y :: .int x :: st) := by
  subst ht
  intro H locs ls h1 h2 h3
  exact va_mmax hX.1 hX.2.1 (hX.2.2.1.trans h1.1.symm) hX.2.2.2.1 (hX.2.2.2.2.1 _ hw.1) (hX.2.2.2.2.1 _ hw.2.1) (hX.2.2.2.2.1 _ hw.2.2.1) (hX.2.2.2.2.1 _ hw.2.2.2) hr.1 hr.2.1 hr.2.2.1 hr.2.2.2 hdg (kk H locs ls h1 h2 h3)
theorem J_min {I : Heap → Prop} (hX : FX G own cc nL p s m args c) {index : Nat} {x y : Int32} (hw : Cond.methodLink own index Lib.Math.min.name ∈ WALL ∧ Cond.static Lib.Math.min.name ∈ WALL ∧ Cond.initialized "java/lang/Math" ∈ WALL ∧ Cond.code Lib.Math.min.name Lib.Math.min.code 2 (some .int) ∈ WALL) (hr : 1 ≤ R.frames ∧ (st.map fun v => v.category).sum + 13 ≤ R.locals ∧ cells ≤ R.cells ∧ slots ≤ R.slots) (hdg : decode cc pc = .ok (.invokestatic index, 3)) (ht : pc + 3 = t) (kk : J G p l e R s m args below meth c nL cells slots Q I t lc (.int (if y < x then y else x) :: st)) : J G p l e R s m args below meth c nL cells slots Q I pc lc (.int y :: .int x :: st) := by
  subst ht
  intro H locs ls h1 h2 h3
  exact va_mmin hX.1 hX.2.1 (hX.2.2.1.trans h1.1.symm) hX.2.2.2.1 (hX.2.2.2.2.1 _ hw.1) (hX.2.2.2.2.1 _ hw.2.1) (hX.2.2.2.2.1 _ hw.2.2.1) (hX.2.2.2.2.1 _ hw.2.2.2) hr.1 hr.2.1 hr.2.2.1 hr.2.2.2 hdg (kk H locs ls h1 h2 h3)
theorem J_abs {I : Heap → Prop} (hX : FX G own cc nL p s m args c) {index : Nat} {x : Int32} (hw : Cond.methodLink own index Lib.Math.abs.name ∈ WALL ∧ Cond.static Lib.Math.abs.name ∈ WALL ∧ Cond.initialized "java/lang/Math" ∈ WALL ∧ Cond.code Lib.Math.abs.name Lib.Math.abs.code 1 (some .int) ∈ WALL) (hr : 1 ≤ R.frames ∧ (st.map fun v => v.category).sum + 13 ≤ R.locals ∧ cells ≤ R.cells ∧ slots ≤ R.slots) (hdg : decode cc pc = .ok (.invokestatic index, 3)) (ht : pc + 3 = t) (kk : J G p l e R s m args below meth c nL cells slots Q I t lc (.int (if 0 ≤ x then x else 0 - x) :: st)) : J G p l e R s m args below meth c nL cells slots Q I pc lc (.int x :: st) := by
  subst ht
  intro H locs ls h1 h2 h3
  exact va_mabs hX.1 hX.2.1 (hX.2.2.1.trans h1.1.symm) hX.2.2.2.1 (hX.2.2.2.2.1 _ hw.1) (hX.2.2.2.2.1 _ hw.2.1) (hX.2.2.2.2.1 _ hw.2.2.1) (hX.2.2.2.2.1 _ hw.2.2.2) hr.1 hr.2.1 hr.2.2.1 hr.2.2.2 hdg (kk H locs ls h1 h2 h3)
/-- constants of the two enums -/
theorem J_gsV {I : Heap → Prop} (hX : FX G own cc nL p s m args c) {index : Nat} (i : Nat) (hi : i < 12) (hw : Cond.fieldLink own index "EchoMarket$Verb" (enV.getD i "") "LEchoMarket$Verb;" ∈ WALL) (hdg : decode cc pc = .ok (.getstatic index, 3)) (ht : pc + 3 = t) (kk : J G p l e R s m args below meth c nL cells slots Q I t lc (.ref (ga G i) :: st)) : J G p l e R s m args below meth c nL cells slots Q I pc lc st := by
  subst ht
  intro H locs ls h1 h2 h3
  exact va_gets hX.1 hX.2.1 (hX.2.2.2.2.2.2.1.1.1 i hi).1 (hX.s3 h3) hX.2.2.2.1 (hX.2.2.2.2.1 _ hw) (fun _ h => h) hdg (kk H locs ls h1 h2 h3)
theorem J_gsX {I : Heap → Prop} (hX : FX G own cc nL p s m args c) {index : Nat} (i : Nat) (hi : i < 4) (hw : Cond.fieldLink own index "EchoMarket$Fault" (enX.getD i "") "LEchoMarket$Fault;" ∈ WALL) (hdg : decode cc pc = .ok (.getstatic index, 3)) (ht : pc + 3 = t) (kk : J G p l e R s m args below meth c nL cells slots Q I t lc (.ref (ga G (12 + i)) :: st)) : J G p l e R s m args below meth c nL cells slots Q I pc lc st := by
  subst ht
  intro H locs ls h1 h2 h3
  exact va_gets hX.1 hX.2.1 (hX.2.2.2.2.2.2.1.2.1.1 i hi).1 (hX.s3 h3) hX.2.2.2.1 (hX.2.2.2.2.1 _ hw) (fun _ h => h) hdg (kk H locs ls h1 h2 h3)
theorem FX.faultNe (hX : FX G own cc nL p s m args c) {i k : Nat} (hi : i < 4) (hk : k < 4) (h : ga G (12 + i) = ga G (12 + k)) : i = k := hX.2.2.2.2.2.2.1.2.1.2 i k hi hk h
theorem FX.verbNe (hX : FX G own cc nL p s m args c) {i k : Nat} (hi : i < 12) (hk : k < 12) (h : ga G i = ga G k) : i = k := hX.2.2.2.2.2.2.1.1.2 i k hi hk h
end MORE
theorem CT.self {G : GG} {l : Launch} {y : MethodName} {cc : ByteArray} {mL : Nat} {ret : Option FieldType} {rm : Room} {mc ms : Nat} {av : List Value} {w w2 : Wd} {r : Nat} {v : Option Value} (h : CT G l y cc mL ret rm mc ms av (sW w r (w r)) v w2) : CT G l y cc mL ret rm mc ms av w v w2 := by rw [sW_self] at h; exact h
theorem CT.self2 {G : GG} {l : Launch} {y : MethodName} {cc : ByteArray} {mL : Nat} {ret : Option FieldType} {rm : Room} {mc ms : Nat} {av : List Value} {w : Wd} {r : Nat} {v : Option Value} (h : CT G l y cc mL ret rm mc ms av (sW w r (w r)) v (sW w r (w r))) : CT G l y cc mL ret rm mc ms av w v w := by rw [sW_self] at h; exact h
def isB (x : Int32) : Bool := decide (x = 0) || decide (x = 1)
theorem isB_e {x : Int32} (h : isB x = true) : x = bI (decide (x = 1)) := by
  unfold isB at h
  simp only [Bool.or_eq_true, decide_eq_true_eq] at h
  rcases h with h | h <;> subst h <;> rfl
theorem fChange_put (G : GG) (a : Nat → Int32) (b : Nat → Int64) {k : Nat} (hk : k < 12) : fChange G (upd a 0 (nI k)) b = (fChange G a b).set 0 (.ref (ga G k)) := by
  show [Value.ref (ga G (nI k).toNatClampNeg), _, _, _, _, _, _] = [Value.ref (ga G k), _, _, _, _, _, _]
  rw [nI_clamp (by omega)]
  rfl
section MORE2
variable {G : GG} {own : String} {cc : ByteArray} {p : Program} {l : Launch} {e : Env} {R : Room} {s : State} {m : MethodId} {args : Array Value} {below : List Frame} {meth : Method} {c : Code} {nL cells slots : Nat} {Q : State → Prop} {pc t : Nat} {lc : List (Nat × Value)} {st : List Value} {w : Wd} {r j : Nat} {I : Heap → Prop}
theorem J_putE (hX : FX G own cc nL p s m args c) {index : Nat} (hk : KD G r j 0 (fChange G)) (hw : Cond.fieldLink own index "EchoMarket$Change" "verb" "LEchoMarket$Verb;" ∈ WALL) {k : Nat} (hk12 : k < 12) {w2 : Wd} (he : sW w r (sI (w r) j 0 (nI k)) = w2) (hdg : decode cc pc = .ok (.putfield index, 3)) (ht : pc + 3 = t)
    (kk : J G p l e R s m args below meth c nL cells slots Q (GH G w2) t lc st) : J G p l e R s m args below meth c nL cells slots Q (GH G w) pc lc (.ref (ga G k) :: .ref (adr G r j) :: st) := by
  subst he
  exact J_put (M := sI (w r) j 0 (nI k)) hX cb0 hk 0 (by decide) hw rfl (ty := .object "EchoMarket$Verb") (by rw [cb0.2.2.1 0 (by decide)]; rfl) rfl rfl (fun _ _ => Nat.le_of_ble_eq_true rfl) (fun i h => ⟨sI_o _ _ _ h, rfl⟩) (by rw [sI_s]; exact fChange_put G _ _ hk12) hdg ht kk
theorem J_gsS (hX : FX G own cc nL p s m args c) {index : Nat} (hw : Cond.fieldLink own index "EchoMarket$1" "$SwitchMap$EchoMarket$Verb" "[I" ∈ WALL) (hdg : decode cc pc = .ok (.getstatic index, 3)) (ht : pc + 3 = t) (kk : J G p l e R s m args below meth c nL cells slots Q I t lc (.ref (ga G 41) :: st)) : J G p l e R s m args below meth c nL cells slots Q I pc lc st := by
  subst ht
  intro H locs ls h1 h2 h3
  exact va_gets hX.1 hX.2.1 hX.2.2.2.2.2.2.1.2.2.2.2.2.2.1 (hX.s3 h3) hX.2.2.2.1 (hX.2.2.2.2.1 _ hw) (fun _ h => h) hdg (kk H locs ls h1 h2 h3)
theorem J_swald (hX : FX G own cc nL p s m args c) {i : Int32} (hin : inb i 12 = true) (hdg : decode cc pc = .ok (.iaload, 1)) (ht : pc + 1 = t) (kk : J G p l e R s m args below meth c nL cells slots Q I t lc (.int (swMap.getD i.toNatClampNeg 0) :: st)) : J G p l e R s m args below meth c nL cells slots Q I pc lc (.int i :: .ref (ga G 41) :: st) := by
  subst ht
  intro H locs ls h1 h2 h3
  exact va_ti hX.1 hX.2.1 hX.2.2.2.2.2.2.1.2.2.2.2.2.2.2.1 (hX.s3 h3) (inb_in hin) rfl hdg (kk H locs ls h1 h2 h3)
theorem J_tabIn (hX : FX G own cc nL p s m args c) {dflt lo hi : Int} {offs : Array Int} {len : Nat} {x k : Int32} {off : Int} {tgt : Nat} (hdg : decode cc pc = .ok (.tableswitch dflt lo hi offs, len)) (z : x = k) (h1 : ¬ k.toInt < lo) (h2 : ¬ hi < k.toInt) (ho : offs[(k.toInt - lo).toNat]? = some off) (ht : (pc : Int) + off = (tgt : Int)) (kk : J G p l e R s m args below meth c nL cells slots Q I tgt lc st) : J G p l e R s m args below meth c nL cells slots Q I pc lc (.int x :: st) := by
  subst z
  intro H locs ls h1' h2' h3'
  exact lv_tableIn hX.1 hX.2.1 hdg h1 h2 ho ht (kk H locs ls h1' h2' h3')
theorem J_tabOut (hX : FX G own cc nL p s m args c) {dflt lo hi : Int} {offs : Array Int} {len : Nat} {x : Int32} {tgt : Nat} (hdg : decode cc pc = .ok (.tableswitch dflt lo hi offs, len)) (h : x.toInt < lo ∨ hi < x.toInt) (ht : (pc : Int) + dflt = (tgt : Int)) (kk : J G p l e R s m args below meth c nL cells slots Q I tgt lc st) : J G p l e R s m args below meth c nL cells slots Q I pc lc (.int x :: st) := by
  intro H locs ls h1' h2' h3'
  exact lv_tableOut hX.1 hX.2.1 hdg h ht (kk H locs ls h1' h2' h3')
end MORE2
theorem tab_n {x k : Int32} (h : ¬ x = k) : x.toInt ≠ k.toInt := fun z => h (Int32.toInt_inj.mp z)
theorem tab_out8_1 {x : Int32} (h1 : ¬ x = 1) (h2 : ¬ x = 2) (h3 : ¬ x = 3) (h4 : ¬ x = 4) (h5 : ¬ x = 5) (h6 : ¬ x = 6) (h7 : ¬ x = 7) (h8 : ¬ x = 8) : x.toInt < 1 ∨ 8 < x.toInt := by
  have := tab_n h1; have := tab_n h2; have := tab_n h3; have := tab_n h4; have := tab_n h5; have := tab_n h6; have := tab_n h7; have := tab_n h8
  have e1 : (1 : Int32).toInt = 1 := rfl
  have e2 : (2 : Int32).toInt = 2 := rfl
  have e3 : (3 : Int32).toInt = 3 := rfl
  have e4 : (4 : Int32).toInt = 4 := rfl
  have e5 : (5 : Int32).toInt = 5 := rfl
  have e6 : (6 : Int32).toInt = 6 := rfl
  have e7 : (7 : Int32).toInt = 7 := rfl
  have e8 : (8 : Int32).toInt = 8 := rfl
  omega
theorem tab_out6_0 {x : Int32} (h0 : ¬ x = 0) (h1 : ¬ x = 1) (h2 : ¬ x = 2) (h3 : ¬ x = 3) (h4 : ¬ x = 4) (h5 : ¬ x = 5) : x.toInt < 0 ∨ 5 < x.toInt := by
  have := tab_n h0; have := tab_n h1; have := tab_n h2; have := tab_n h3; have := tab_n h4; have := tab_n h5
  have e0 : (0 : Int32).toInt = 0 := rfl
  have e1 : (1 : Int32).toInt = 1 := rfl
  have e2 : (2 : Int32).toInt = 2 := rfl
  have e3 : (3 : Int32).toInt = 3 := rfl
  have e4 : (4 : Int32).toInt = 4 := rfl
  have e5 : (5 : Int32).toInt = 5 := rfl
  omega
theorem tab_out5_1 {x : Int32} (h1 : ¬ x = 1) (h2 : ¬ x = 2) (h3 : ¬ x = 3) (h4 : ¬ x = 4) (h5 : ¬ x = 5) : x.toInt < 1 ∨ 5 < x.toInt := by
  have := tab_n h1; have := tab_n h2; have := tab_n h3; have := tab_n h4; have := tab_n h5
  have e1 : (1 : Int32).toInt = 1 := rfl
  have e2 : (2 : Int32).toInt = 2 := rfl
  have e3 : (3 : Int32).toInt = 3 := rfl
  have e4 : (4 : Int32).toInt = 4 := rfl
  have e5 : (5 : Int32).toInt = 5 := rfl
  omega
theorem J_nret {G : GG} {own : String} {cc : ByteArray} {p : Program} {l : Launch} {e : Env} {R : Room} {s : State} {m : MethodId} {args : Array Value} {below : List Frame} {meth : Method} {c : Code} {nL cells slots : Nat} {pc : Nat} {lc : List (Nat × Value)} {w : Wd} (hX : FX G own cc nL p s m args c) {x : Int32} {ty : FieldType} (hr : meth.sig.returnType = some ty) (hlocks : meth.locks = false) (hn : narrow ty (.int x) = .int x) (hdg : decode cc pc = .ok (.ireturn, 1)) : J G p l e R s m args below meth c nL cells slots (MQ below (QV G (some (.int x)) w) args s cells slots (gA G)) (GH G w) pc lc [.int x] := fun H locs ls h1 h2 h3 =>
  W.zret hX.1 hX.2.1 hr hn (fun t ht _ => ⟨rfl, by rw [ht]; exact h2, h3.F ht⟩) h3.2.2 hdg hlocks
section MORE3
variable {G : GG} {own : String} {cc : ByteArray} {p : Program} {l : Launch} {e : Env} {R : Room} {s : State} {m : MethodId} {args : Array Value} {below : List Frame} {meth : Method} {c : Code} {nL cells slots : Nat} {Q : State → Prop} {pc t : Nat} {lc : List (Nat × Value)} {st : List Value} {I : Heap → Prop}
theorem J_ldc (hX : FX G own cc nL p s m args c) {index : Nat} {v : Int32} (hdg : decode cc pc = .ok (.ldc index, 2)) (hw : Cond.constant own index v ∈ WALL) (ht : pc + 2 = t) (kk : J G p l e R s m args below meth c nL cells slots Q I t lc (.int v :: st)) : J G p l e R s m args below meth c nL cells slots Q I pc lc st := by
  subst ht
  intro H locs ls h1 h2 h3
  exact lv_ldc hX.1 hX.2.1 hX.2.2.2.1 (hX.2.2.2.2.1 _ hw) hdg (kk H locs ls h1 h2 h3)
theorem J_ldc_w (hX : FX G own cc nL p s m args c) {index : Nat} {v : Int32} (hdg : decode cc pc = .ok (.ldc_w index, 3)) (hw : Cond.constant own index v ∈ WALL) (ht : pc + 3 = t) (kk : J G p l e R s m args below meth c nL cells slots Q I t lc (.int v :: st)) : J G p l e R s m args below meth c nL cells slots Q I pc lc st := by
  subst ht
  intro H locs ls h1 h2 h3
  exact lv_ldcw hX.1 hX.2.1 hX.2.2.2.1 (hX.2.2.2.2.1 _ hw) hdg (kk H locs ls h1 h2 h3)
end MORE3
theorem tab_out8_0 {x : Int32} (h0 : ¬ x = 0) (h1 : ¬ x = 1) (h2 : ¬ x = 2) (h3 : ¬ x = 3) (h4 : ¬ x = 4) (h5 : ¬ x = 5) (h6 : ¬ x = 6) (h7 : ¬ x = 7) : x.toInt < 0 ∨ 7 < x.toInt := by
  have := tab_n h0; have := tab_n h1; have := tab_n h2; have := tab_n h3; have := tab_n h4; have := tab_n h5; have := tab_n h6; have := tab_n h7
  have e0 : (0 : Int32).toInt = 0 := rfl
  have e1 : (1 : Int32).toInt = 1 := rfl
  have e2 : (2 : Int32).toInt = 2 := rfl
  have e3 : (3 : Int32).toInt = 3 := rfl
  have e4 : (4 : Int32).toInt = 4 := rfl
  have e5 : (5 : Int32).toInt = 5 := rfl
  have e6 : (6 : Int32).toInt = 6 := rfl
  have e7 : (7 : Int32).toInt = 7 := rfl
  omega
theorem tab_out5_0 {x : Int32} (h0 : ¬ x = 0) (h1 : ¬ x = 1) (h2 : ¬ x = 2) (h3 : ¬ x = 3) (h4 : ¬ x = 4) : x.toInt < 0 ∨ 4 < x.toInt := by
  have := tab_n h0; have := tab_n h1; have := tab_n h2; have := tab_n h3; have := tab_n h4
  have e0 : (0 : Int32).toInt = 0 := rfl
  have e1 : (1 : Int32).toInt = 1 := rfl
  have e2 : (2 : Int32).toInt = 2 := rfl
  have e3 : (3 : Int32).toInt = 3 := rfl
  have e4 : (4 : Int32).toInt = 4 := rfl
  omega
theorem JC_get {G : GG} {own : String} {cc : ByteArray} {p : Program} {l : Launch} {e : Env} {R : Room} {s : State} {m : MethodId} {args : Array Value} {below : List Frame} {meth : Method} {c : Code} {nL cells slots : Nat} {Q : State → Prop} {pc t : Nat} {lc : List (Nat × Value)} {st : List Value} {w : Wd} {r r1 j : Nat} {M M2 : MM} (hX : FX G own cc nL p s m args c) (hne : r1 ≠ r) (hw2 : w r1 = M2) {ci index : Nat} {C : String} {T : u_T} {N : Nat} {ty : Nat → FieldType} (cb : CB ci C T N ty) {F : (Nat → Int32) → (Nat → Int64) → List Value} (hk : KD G r1 j ci F) (k : Nat) (hkN : k < N) (hw : Cond.fieldLink own index (T k).1 (T k).2.1 (T k).2.2.1 ∈ WALL) {v : Value} (hv : (F (M2.1 j) (M2.2 j))[k]? = some v) (hdg : decode cc pc = .ok (.getfield index, 3)) (ht : pc + 3 = t)
    (kk : J G p l e R s m args below meth c nL cells slots Q (GH G (sW w r M)) t lc (v :: st)) : J G p l e R s m args below meth c nL cells slots Q (GH G (sW w r M)) pc lc (.ref (adr G r1 j) :: st) :=
  J_get hX cb hk k hkN hw (by rw [sW_o w M hne, hw2]; exact hv) hdg ht kk
theorem it_or {α : Sort _} {c : Prop} {i : Decidable c} {a b r : α} (h : (if c then a else b) = r) : (c ∧ a = r) ∨ (¬ c ∧ b = r) := by
  by_cases z : c
  · exact Or.inl ⟨z, it_t h z⟩
  · exact Or.inr ⟨z, it_f h z⟩
-- enum constants' fields; a verb's ordinal
section ENUM
variable {G : GG} {own : String} {cc : ByteArray} {p : Program} {l : Launch} {e : Env} {R : Room} {s : State} {m : MethodId} {args : Array Value} {below : List Frame} {meth : Method} {c : Code} {nL cells slots : Nat} {Q : State → Prop} {pc t : Nat} {lc : List (Nat × Value)} {st : List Value} {I : Heap → Prop} {w : Wd}
theorem J_getVI (hX : FX G own cc nL p s m args c) {i index : Nat} (hi : i < 12) (q : String × String × String × List Int32) (hq : q ∈ enF) (hw : Cond.fieldLink own index q.1 q.2.1 q.2.2.1 ∈ WALL) {v : Int32} (hv : q.2.2.2.getD i 0 = v) (hdg : decode cc pc = .ok (.getfield index, 3)) (ht : pc + 3 = t) (kk : J G p l e R s m args below meth c nL cells slots Q I t lc (.int v :: st)) : J G p l e R s m args below meth c nL cells slots Q I pc lc (.ref (ga G i) :: st) := by
  subst ht; subst hv
  intro H locs ls h1 h2 h3
  exact va_getE (ad := fun i => ga G i) hX.1 hX.2.1 hX.2.2.2.2.2.2.1.1 hi (hX.s3 h3) hX.2.2.2.1 hq (hX.2.2.2.2.1 _ hw) (fun _ h => h) hdg (kk H locs ls h1 h2 h3)
def enD (i : Nat) : Bool := ([false, false, true, true, true, true, true, true, true, true, false, false] : List Bool).getD i false
def enS (i : Nat) : Bool := ([false, false, false, false, true, true, true, true, true, true, true, true] : List Bool).getD i false
theorem enD_e : ∀ i, i < 12 → ([0, 0, 1, 1, 1, 1, 1, 1, 1, 1, 0, 0] : List Int32).getD i 0 = bI (enD i) := by decide
theorem enS_e : ∀ i, i < 12 → ([0, 0, 0, 0, 1, 1, 1, 1, 1, 1, 1, 1] : List Int32).getD i 0 = bI (enS i) := by decide
theorem enO_e : ∀ i, i < 12 → ([0, 1, 2, 3, 4, 5, 6, 7, 8, 9, 10, 11] : List Int32).getD i 0 = nI i := by decide
abbrev rmO : Room := { frames := 0, cells := 0, slots := 0, locals := 0 }
theorem J_getVS (hX : FX G own cc nL p s m args c) {i index : Nat} (hi : i < 12) (hw : Cond.fieldLink own index "EchoMarket$Verb" "letters" "Ljava/lang/String;" ∈ WALL) (hdg : decode cc pc = .ok (.getfield index, 3)) (ht : pc + 3 = t) (kk : J G p l e R s m args below meth c nL cells slots Q I t lc (.ref (ga G (16 + i)) :: st)) : J G p l e R s m args below meth c nL cells slots Q I pc lc (.ref (ga G i) :: st) := by
  subst ht
  intro H locs ls h1 h2 h3
  exact va_getX (ad := fun i => ga G i) hX.1 hX.2.1 hX.2.2.2.2.2.2.1.2.2.1 hi (hX.s3 h3) hX.2.2.2.1 (hX.2.2.2.2.1 _ hw) (fun _ h => h) hdg (kk H locs ls h1 h2 h3)
theorem J_gsVB (hX : FX G own cc nL p s m args c) {index : Nat} (ho : own = RX9 ∧ index = 74) (hdg : decode cc pc = .ok (.getstatic index, 3)) (ht : pc + 3 = t) (kk : J G p l e R s m args below meth c nL cells slots Q I t lc (.ref (ga G 40) :: st)) : J G p l e R s m args below meth c nL cells slots Q I pc lc st := by
  subst ht
  obtain ⟨rfl, rfl⟩ := ho
  intro H locs ls h1 h2 h3
  exact va_getsN (host := RX12) hX.1 hX.2.1 hX.2.2.2.2.2.2.1.2.2.2.2.1 (hX.s3 h3) hX.2.2.2.1 (va_Nw.use rfl hX.2.2.2.2.2.2.1.2.2.2.2.2.2.2.2.1.2) (fun _ h => h) hdg (kk H locs ls h1 h2 h3)
theorem J_vbald (hX : FX G own cc nL p s m args c) {i : Int32} (hin : inb i 12 = true) (hdg : decode cc pc = .ok (.aaload, 1)) (ht : pc + 1 = t) (kk : J G p l e R s m args below meth c nL cells slots Q I t lc (.ref (ga G i.toNatClampNeg) :: st)) : J G p l e R s m args below meth c nL cells slots Q I pc lc (.int i :: .ref (ga G 40) :: st) := by
  subst ht
  intro H locs ls h1 h2 h3
  exact vb_tq hX.1 hX.2.1 hX.2.2.2.2.2.2.1.2.2.2.2.2.1 (hX.s3 h3) (inb_in hin) rfl hdg (kk H locs ls h1 h2 h3)
end ENUM
