theorem q_750 : Cond.instanceMethod yX12_meanRating ∈ WALL := WALL_in (List.mem_append_right _ (List.mem_append_right _ (List.mem_append_right _ (List.mem_append_left _ (List.mem_of_getElem? (i := 135) rfl))))) rfl
theorem q_751 : Cond.selects RX12 yX12_meanRating yX12_meanRating ∈ WALL := WALL_in (List.mem_append_right _ (List.mem_append_right _ (List.mem_append_right _ (List.mem_append_left _ (List.mem_of_getElem? (i := 136) rfl))))) rfl
theorem q_752 : Cond.code yX12_meanRating cX12_meanRating 2 (some .double) ∈ WALL := WALL_in (List.mem_append_right _ (List.mem_append_right _ (List.mem_append_right _ (List.mem_append_left _ (List.mem_of_getElem? (i := 137) rfl))))) rfl
theorem q_758 : Cond.instanceMethod yX12_heardFraction ∈ WALL := WALL_in (List.mem_append_right _ (List.mem_append_right _ (List.mem_append_right _ (List.mem_append_left _ (List.mem_of_getElem? (i := 143) rfl))))) rfl
theorem q_759 : Cond.selects RX12 yX12_heardFraction yX12_heardFraction ∈ WALL := WALL_in (List.mem_append_right _ (List.mem_append_right _ (List.mem_append_right _ (List.mem_append_left _ (List.mem_of_getElem? (i := 144) rfl))))) rfl
theorem q_760 : Cond.code yX12_heardFraction cX12_heardFraction 2 (some .float) ∈ WALL := WALL_in (List.mem_append_right _ (List.mem_append_right _ (List.mem_append_right _ (List.mem_append_left _ (List.mem_of_getElem? (i := 145) rfl))))) rfl
theorem q_2744 : Cond.instanceMethod yX13_meanRating ∈ WALL := WALL_in (List.mem_append_right _ (List.mem_append_right _ (List.mem_append_right _ (List.mem_append_right _ (List.mem_append_right _ (List.mem_append_right _ (List.mem_append_right _ (List.mem_append_right _ (List.mem_append_right _ (List.mem_append_right _ (List.mem_append_right _ (List.mem_append_left _ (List.mem_of_getElem? (i := 209) rfl))))))))))))) rfl
theorem q_2745 : Cond.selects RX13 yX13_meanRating yX13_meanRating ∈ WALL := WALL_in (List.mem_append_right _ (List.mem_append_right _ (List.mem_append_right _ (List.mem_append_right _ (List.mem_append_right _ (List.mem_append_right _ (List.mem_append_right _ (List.mem_append_right _ (List.mem_append_right _ (List.mem_append_right _ (List.mem_append_right _ (List.mem_append_left _ (List.mem_of_getElem? (i := 210) rfl))))))))))))) rfl
theorem q_2746 : Cond.code yX13_meanRating cX13_meanRating 3 (some .double) ∈ WALL := WALL_in (List.mem_append_right _ (List.mem_append_right _ (List.mem_append_right _ (List.mem_append_right _ (List.mem_append_right _ (List.mem_append_right _ (List.mem_append_right _ (List.mem_append_right _ (List.mem_append_right _ (List.mem_append_right _ (List.mem_append_right _ (List.mem_append_left _ (List.mem_of_getElem? (i := 211) rfl))))))))))))) rfl
theorem q_2748 : Cond.instanceMethod yX13_heardFraction ∈ WALL := WALL_in (List.mem_append_right _ (List.mem_append_right _ (List.mem_append_right _ (List.mem_append_right _ (List.mem_append_right _ (List.mem_append_right _ (List.mem_append_right _ (List.mem_append_right _ (List.mem_append_right _ (List.mem_append_right _ (List.mem_append_right _ (List.mem_append_left _ (List.mem_of_getElem? (i := 213) rfl))))))))))))) rfl
theorem q_2749 : Cond.selects RX13 yX13_heardFraction yX13_heardFraction ∈ WALL := WALL_in (List.mem_append_right _ (List.mem_append_right _ (List.mem_append_right _ (List.mem_append_right _ (List.mem_append_right _ (List.mem_append_right _ (List.mem_append_right _ (List.mem_append_right _ (List.mem_append_right _ (List.mem_append_right _ (List.mem_append_right _ (List.mem_append_left _ (List.mem_of_getElem? (i := 214) rfl))))))))))))) rfl
theorem q_2750 : Cond.code yX13_heardFraction cX13_heardFraction 2 (some .float) ∈ WALL := WALL_in (List.mem_append_right _ (List.mem_append_right _ (List.mem_append_right _ (List.mem_append_right _ (List.mem_append_right _ (List.mem_append_right _ (List.mem_append_right _ (List.mem_append_right _ (List.mem_append_right _ (List.mem_append_right _ (List.mem_append_right _ (List.mem_append_left _ (List.mem_of_getElem? (i := 215) rfl))))))))))))) rfl
/-! DOUBLES AND FLOATS: rows over a start with some record of draws; the four measures -/
def DVq (q : Option (Int32 × Int32)) (r : UInt64) : Prop := match q with
  | none => r = 0
  | some (a, b) => alike64 r (FP.ddiv (FP.i2d a) (FP.i2d b)) = true
def FVq (q : Option (Int32 × Int32)) (r : UInt32) : Prop := match q with
  | none => r = 0
  | some (a, b) => alike32 r (FP.fdiv (FP.i2f a) (FP.i2f b)) = true
def CTD (G : GG) (l : Launch) (y : MethodName) (cc : ByteArray) (mL : Nat) (ret : Option FieldType) (rm : Room) (mc ms : Nat) (av : List Value) (I : Heap → Prop) (P : Option Value → Heap → Prop) : Prop := MetD lw_cs l y (wsY y cc mL ret) rm (va_Pc av (GI G I)) (QP G P) mc ms (gA G)
theorem FX.drawn {G : GG} {own : String} {cc : ByteArray} {p : Program} {s : State} {m : MethodId} {args : Array Value} {c : Code} {nL : Nat} (hX : FX G own cc nL p s m args c) (d : Drawn) : FX G own cc nL p (s.setDrawn d) m args c :=
  ⟨hX.1, hX.2.1, hX.2.2.1, hX.2.2.2.1, dr_words hX.2.2.2.2.1 d, va_K.moved (u := s) (Vm.Alike.refl s.vm) hX.2.2.2.2.2.1, GL.same (u := s) (U := s.setDrawn d) rfl hX.2.2.2.2.2.2.1, hX.2.2.2.2.2.2.2⟩
theorem CTD.of {G : GG} {l : Launch} {y : MethodName} {cc : ByteArray} {mL n : Nat} {ret : Option FieldType} {rm : Room} {mc ms : Nat} {av : List Value} {I : Heap → Prop} {P : Option Value → Heap → Prop} (mi : MI y cc mL ret n) (lc : List (Nat × Value)) (hlc : lv_args 0 av = lc) (hlen : (lg_sl av).length ≤ mL)
    (body : ∀ (p : Program) (e : Env) (s : State) (m : MethodId) (args : Array Value) (below : List Frame) (meth : Method) (c : Code), FX G y.cls cc mL p s m args c → meth.sig.returnType = ret → meth.locks = false → s.drawn.sameBut s.drawn lw_cs → J G p l e rm (s.setDrawn s.drawn) m args below meth c mL 0 0 (MQD lw_cs below (QP G P) args s mc ms (gA G)) I 0 lc []) : CTD G l y cc mL ret rm mc ms av I P := by
  refine MetD.ofW (cc := cc) (maxL := mL) (ret := ret) mi.2.2.1 rfl ?_
  intro p e s m args below meth c s₁ B hml hv hd0
  obtain ⟨rfl, hg, hK, hL, hn⟩ := hv
  have hts := atoms_spec (ws := wsY y cc mL ret) B.pre
  have hX : FX G y.cls cc mL p s m av.toArray c := ⟨B.exec, B.bytes, hml, findClass_of_methodNamed B.named, fun w hw => hts w (List.mem_cons_of_mem _ hw), hK, hL, hn⟩
  have hl := lv_entry av hlen
  rw [hlc] at hl
  rw [lg_entry_eq]
  exact body p e s m av.toArray below meth c hX B.returns B.notSynchronized hd0 s.heap [] _ hl hg va_S.rf
theorem fp_order (d : FP.Core.Datum) : FP.Core.order d d = none ∨ FP.Core.order d d = some .eq := by
  have hc : ∀ x : Int, compare x x = Ordering.eq := fun x => by simp [compare, compareOfLessAndEq]
  cases d with
  | nan => exact Or.inl rfl
  | inf s => exact Or.inr (congrArg some (hc _))
  | fin s c q => exact Or.inr (congrArg some (hc _))
theorem fp_nan64 {x : UInt64} (h : isNaN64 x = true) : FP.Core.decode FP.Core.b64 x.toNat = .nan := by
  rw [isNaN64_iff] at h
  have e : x.toNat &&& 0x7fffffffffffffff = x.toNat % 2 ^ 63 := Nat.and_two_pow_sub_one_eq_mod x.toNat 63
  rw [e] at h
  have hE : FP.Core.fieldE FP.Core.b64 x.toNat = FP.Core.b64.exps - 1 := by
    show x.toNat / 2 ^ 52 % 2 ^ 11 = 2 ^ 11 - 1
    omega
  have hT : ¬ FP.Core.fieldT FP.Core.b64 x.toNat = 0 := by
    show ¬ x.toNat % 2 ^ 52 = 0
    omega
  unfold FP.Core.decode
  rw [if_pos hE, if_neg hT]
theorem fp_nan32 {x : UInt32} (h : isNaN32 x = true) : FP.Core.decode FP.Core.b32 x.toNat = .nan := by
  rw [isNaN32_iff] at h
  have e : x.toNat &&& 0x7fffffff = x.toNat % 2 ^ 31 := Nat.and_two_pow_sub_one_eq_mod x.toNat 31
  rw [e] at h
  have hE : FP.Core.fieldE FP.Core.b32 x.toNat = FP.Core.b32.exps - 1 := by
    show x.toNat / 2 ^ 23 % 2 ^ 8 = 2 ^ 8 - 1
    omega
  have hT : ¬ FP.Core.fieldT FP.Core.b32 x.toNat = 0 := by
    show ¬ x.toNat % 2 ^ 23 = 0
    omega
  unfold FP.Core.decode
  rw [if_pos hE, if_neg hT]
theorem fp_f2d {x : UInt32} (h : isNaN32 x = true) : isNaN64 (FP.f2d x) = true := by
  have hn : FP.Core.fIsNaN x = true := decide_eq_true (fp_nan32 h)
  unfold FP.f2d
  rw [if_pos hn]
  exact isNaN64_or_left (isNaN64_or_right (by decide))
theorem alike64_e {a b : UInt64} (h : alike64 a b = true) : a = b ∨ (isNaN64 a = true ∧ isNaN64 b = true) := by
  simpa [alike64] using h
theorem alike32_e {a b : UInt32} (h : alike32 a b = true) : a = b ∨ (isNaN32 a = true ∧ isNaN32 b = true) := by
  simpa [alike32] using h
/-- two doubles that the law takes for one -/
def Eq64 (a b : UInt64) : Prop := Op.cmpValue (FP.dcmp a b) CmpOp.l = 0 ∨ (¬ Op.cmpValue (FP.dcmp a a) CmpOp.l = 0 ∧ ¬ Op.cmpValue (FP.dcmp b b) CmpOp.l = 0)
theorem fp_self (a : UInt64) : FP.dcmp a a = none ∨ FP.dcmp a a = some .eq := fp_order _
theorem fp_none {a b : UInt64} (h : isNaN64 a = true) : FP.dcmp a b = none := by
  show FP.Core.order (FP.Core.decode FP.Core.b64 a.toNat) _ = none
  rw [fp_nan64 h]
  rfl
theorem eq64 {a b X Y : UInt64} (ha : alike64 a X = true) (hb : alike64 b Y = true) (h : X = Y ∨ (isNaN64 X = true ∧ isNaN64 Y = true)) : Eq64 a b := by
  have hN : ∀ {u v : UInt64}, isNaN64 u = true → isNaN64 v = true → Eq64 u v := fun hu hv => Or.inr ⟨by rw [fp_none hu]; decide, by rw [fp_none hv]; decide⟩
  have hS : ∀ u : UInt64, Eq64 u u := fun u => by
    rcases fp_self u with h | h
    · exact Or.inr ⟨by rw [h]; decide, by rw [h]; decide⟩
    · exact Or.inl (by rw [h]; rfl)
  rcases alike64_e ha with rfl | ⟨a1, a2⟩ <;> rcases alike64_e hb with rfl | ⟨b1, b2⟩ <;> rcases h with rfl | ⟨h1, h2⟩
  · exact hS _
  · exact hN h1 h2
  · exact hN b2 b1
  · exact hN h1 b1
  · exact hN a1 a2
  · exact hN a1 h2
  · exact hN a1 b1
  · exact hN a1 b1
theorem DVq_eq {q : Option (Int32 × Int32)} {a b : UInt64} (ha : DVq q a) (hb : DVq q b) : Eq64 a b := by
  cases q with
  | none =>
    have ha : a = 0 := ha
    have hb : b = 0 := hb
    subst ha
    subst hb
    exact eq64 (alike64_refl 0) (alike64_refl 0) (Or.inl rfl)
  | some p => exact eq64 ha hb (Or.inl rfl)
theorem FVq_eq {q : Option (Int32 × Int32)} {x y : UInt32} {a b : UInt64} (hx : FVq q x) (hy : FVq q y) (ha : alike64 a (FP.f2d x) = true) (hb : alike64 b (FP.f2d y) = true) : Eq64 a b := by
  cases q with
  | none =>
    have hx : x = 0 := hx
    have hy : y = 0 := hy
    subst hx
    subst hy
    exact eq64 ha hb (Or.inl rfl)
  | some p =>
    rcases alike32_e (show alike32 x (FP.fdiv (FP.i2f p.1) (FP.i2f p.2)) = true from hx) with h1 | ⟨h1, h2⟩ <;> rcases alike32_e (show alike32 y (FP.fdiv (FP.i2f p.1) (FP.i2f p.2)) = true from hy) with k1 | ⟨k1, k2⟩
    · exact eq64 ha hb (Or.inl (by rw [h1, k1]))
    · exact eq64 ha hb (Or.inr ⟨fp_f2d (by rw [h1]; exact k2), fp_f2d k1⟩)
    · exact eq64 ha hb (Or.inr ⟨fp_f2d h1, fp_f2d (by rw [k1]; exact h2)⟩)
    · exact eq64 ha hb (Or.inr ⟨fp_f2d h1, fp_f2d k1⟩)
section FPR
variable {G : GG} {own : String} {cc : ByteArray} {p : Program} {l : Launch} {e : Env} {R : Room} {s : State} {m : MethodId} {args : Array Value} {below : List Frame} {meth : Method} {c : Code} {nL cells slots : Nat} {Q : State → Prop} {pc t : Nat} {lc : List (Nat × Value)} {st : List Value} {w : Wd} {r j : Nat} {I : Heap → Prop} {d0 : Drawn}
theorem J_i2d (hX : FX G own cc nL p s m args c) {x : Int32} (hdg : decode cc pc = .ok (.i2d, 1)) (ht : pc + 1 = t) (kk : J G p l e R s m args below meth c nL cells slots Q I t lc (.double (FP.i2d x) :: st)) : J G p l e R s m args below meth c nL cells slots Q I pc lc (.int x :: st) := by
  subst ht
  intro H locs ls h1 h2 h3
  exact lv_i2d hX.1 hX.2.1 hdg (kk H locs ls h1 h2 h3)
theorem J_i2f (hX : FX G own cc nL p s m args c) {x : Int32} (hdg : decode cc pc = .ok (.i2f, 1)) (ht : pc + 1 = t) (kk : J G p l e R s m args below meth c nL cells slots Q I t lc (.float (FP.i2f x) :: st)) : J G p l e R s m args below meth c nL cells slots Q I pc lc (.int x :: st) := by
  subst ht
  intro H locs ls h1 h2 h3
  exact lv_i2f hX.1 hX.2.1 hdg (kk H locs ls h1 h2 h3)
theorem J_dconst0 (hX : FX G own cc nL p s m args c) (hdg : decode cc pc = .ok (.dconst 0, 1)) (ht : pc + 1 = t) (kk : J G p l e R s m args below meth c nL cells slots Q I t lc (.double 0 :: st)) : J G p l e R s m args below meth c nL cells slots Q I pc lc st := by
  subst ht
  intro H locs ls h1 h2 h3
  exact lv_dconst0 hX.1 hX.2.1 hdg (kk H locs ls h1 h2 h3)
theorem J_fconst0 (hX : FX G own cc nL p s m args c) (hdg : decode cc pc = .ok (.fconst 0, 1)) (ht : pc + 1 = t) (kk : J G p l e R s m args below meth c nL cells slots Q I t lc (.float 0 :: st)) : J G p l e R s m args below meth c nL cells slots Q I pc lc st := by
  subst ht
  intro H locs ls h1 h2 h3
  exact lv_fconst0 hX.1 hX.2.1 hdg (kk H locs ls h1 h2 h3)
theorem J_ddivD (hd0 : s.drawn.sameBut d0 lw_cs) (hX : FX G own cc nL p (s.setDrawn d0) m args c) {x y : UInt64} (hdg : decode cc pc = .ok (.ddiv, 1)) (ht : pc + 1 = t) (kk : ∀ (r : UInt64) (d1 : Drawn), alike64 r (FP.ddiv x y) = true → s.drawn.sameBut d1 lw_cs → J G p l e R (s.setDrawn d1) m args below meth c nL cells slots Q I t lc (.double r :: st)) : J G p l e R (s.setDrawn d0) m args below meth c nL cells slots Q I pc lc (.double y :: .double x :: st) := by
  subst ht
  intro H locs ls h1 h2 h3
  exact lv_ddiv_any hd0 lw_bits hX.1 hX.2.1 hdg (fun r d1 hal hd1 => kk r d1 hal hd1 H locs ls h1 h2 h3)
theorem J_fdivD (hd0 : s.drawn.sameBut d0 lw_cs) (hX : FX G own cc nL p (s.setDrawn d0) m args c) {x y : UInt32} (hdg : decode cc pc = .ok (.fdiv, 1)) (ht : pc + 1 = t) (kk : ∀ (r : UInt32) (d1 : Drawn), alike32 r (FP.fdiv x y) = true → s.drawn.sameBut d1 lw_cs → J G p l e R (s.setDrawn d1) m args below meth c nL cells slots Q I t lc (.float r :: st)) : J G p l e R (s.setDrawn d0) m args below meth c nL cells slots Q I pc lc (.float y :: .float x :: st) := by
  subst ht
  intro H locs ls h1 h2 h3
  exact lv_fdiv_any hd0 lw_bits hX.1 hX.2.1 hdg (fun r d1 hal hd1 => kk r d1 hal hd1 H locs ls h1 h2 h3)
theorem J_f2dD (hd0 : s.drawn.sameBut d0 lw_cs) (hX : FX G own cc nL p (s.setDrawn d0) m args c) {x : UInt32} (hdg : decode cc pc = .ok (.f2d, 1)) (ht : pc + 1 = t) (kk : ∀ (r : UInt64) (d1 : Drawn), alike64 r (FP.f2d x) = true → s.drawn.sameBut d1 lw_cs → J G p l e R (s.setDrawn d1) m args below meth c nL cells slots Q I t lc (.double r :: st)) : J G p l e R (s.setDrawn d0) m args below meth c nL cells slots Q I pc lc (.float x :: st) := by
  subst ht
  intro H locs ls h1 h2 h3
  exact lv_f2d_any hd0 lw_bits hX.1 hX.2.1 hdg (fun r d1 hal hd1 => kk r d1 hal hd1 H locs ls h1 h2 h3)
theorem J_dretD (hd0 : s.drawn.sameBut d0 lw_cs) (hX : FX G own cc nL p (s.setDrawn d0) m args c) {x : UInt64} {P : Option Value → Heap → Prop} (hr : meth.sig.returnType = some .double) (hlocks : meth.locks = false) (hP : ∀ H, I H → P (some (.double x)) H) (hdg : decode cc pc = .ok (.dreturn, 1)) : J G p l e R (s.setDrawn d0) m args below meth c nL cells slots (MQD lw_cs below (QP G P) args s cells slots (gA G)) I pc lc [.double x] := fun H locs ls h1 h2 h3 =>
  W.endD hd0 (W.dret hX.1 hX.2.1 hr (fun t ht _ => ⟨_, rfl, by rw [ht]; exact hP H h2, h3.F ht⟩) h3.2.2 hdg hlocks)
theorem J_fretD (hd0 : s.drawn.sameBut d0 lw_cs) (hX : FX G own cc nL p (s.setDrawn d0) m args c) {x : UInt32} {P : Option Value → Heap → Prop} (hr : meth.sig.returnType = some .float) (hlocks : meth.locks = false) (hP : ∀ H, I H → P (some (.float x)) H) (hdg : decode cc pc = .ok (.freturn, 1)) : J G p l e R (s.setDrawn d0) m args below meth c nL cells slots (MQD lw_cs below (QP G P) args s cells slots (gA G)) I pc lc [.float x] := fun H locs ls h1 h2 h3 =>
  W.endD hd0 (W.fret hX.1 hX.2.1 hr (fun t ht _ => ⟨_, rfl, by rw [ht]; exact hP H h2, h3.F ht⟩) h3.2.2 hdg hlocks)
theorem J_callVD (hd0 : s.drawn.sameBut d0 lw_cs) (hX : FX G own cc nL p (s.setDrawn d0) m args c) {y : MethodName} {cd : ByteArray} {mL n9 index mc ms ci : Nat} {ret : Option FieldType} {rm : Room} {P : Option Value → Heap → Prop} {T : u_T} {N : Nat} {ty : Nat → FieldType} {F : (Nat → Int32) → (Nat → Int64) → List Value} (As rest : List Value) (hM : CTD G l y cd mL ret rm mc ms (.ref (adr G r j) :: As) (GH G w) P) (mi : MI y cd mL ret n9) (mv : MV y) (cb : CB ci y.cls T N ty) (hk : KD G r j ci F) (hw : Cond.methodLink own index y ∈ WALL) (hrm : rm.cells = mc ∧ rm.slots = ms ∧ rm.frames + 1 ≤ R.frames ∧ 8 + (mL + 11) + rm.locals ≤ R.locals) (hn : As.length = n9) (hst : st = As.reverse ++ .ref (adr G r j) :: rest) (hcat : (rest.map fun v => v.category).sum ≤ 8) (hf : cells + mc ≤ R.cells ∧ slots + ms ≤ R.slots)
    (hdg : decode cc pc = .ok (.invokevirtual index, 3)) (ht : pc + 3 = t) (kk : ∀ v d1, s.drawn.sameBut d1 lw_cs → J G p l e R (s.setDrawn d1) m args below meth c nL (cells + mc) (slots + ms) Q (P v) t lc (v.toList ++ rest)) : J G p l e R (s.setDrawn d0) m args below meth c nL cells slots Q (GH G w) pc lc st := by
  subst ht
  intro H locs ls h1 h2 h3
  have hat := h2.1 r j hk.1
  rw [hk.2] at hat
  have hr := va_runV_D (e := e) (C := y.cls) (As := As) (rest := rest) (g := F0 m pc ls st) (locs := locs) (cells := cells) (slots := slots) (H := H) (R := R) (below := below) (meth := meth) (s := s.setDrawn d0) ⟨hX.1, hX.2.1, hX.2.2.1, hX.2.2.2.1, hX.2.2.2.2.1⟩ hM ⟨cb_call hX mi hw hrm, hX.2.2.2.2.1 _ mv.1, hX.2.2.2.2.1 _ mv.2⟩ ⟨GI.blind G _ _, va_recv hX.2.2.2.2.2.1 (one_P hat) (ci := ci) (q0 := 0) cb.1 rfl, fun U hU hW => ⟨rfl, hX.preI h2 h3 U hU hW⟩⟩ rfl hn h1.1 hst (lv_room hcat) hdg hf
  intro T hT X
  obtain ⟨v9, st₀, t9, T', L, d', hd', h0, X', hL, e1, e2, ⟨v, hv, hG, hz, hq⟩, st9⟩ := hr T hT X
  cases hv
  rw [h0] at hz hq
  have hS2 : va_S (gA G) (s.setDrawn d').heap T'.heap (locs ++ L) := ⟨Nat.le_trans h3.1 (by rw [e1]; exact hz), fun q h1 h2 => by rw [e1, hq q (Nat.lt_of_lt_of_le h1 h3.1) h2]; exact h3.2.1 q h1 h2, fun q h9 => by
      rcases List.mem_append.mp h9 with h | h
      · exact h3.2.2 q h
      · exact hL q h⟩
  obtain ⟨t2, a1, b1⟩ := kk v9 d' (hd0.trans hd') T'.heap (locs ++ L) ls h1 (by rw [e1]; exact hG) hS2 T' rfl X'
  exact ⟨t2, st9 t2 a1, b1⟩
end FPR
theorem miX12_meanRating : MI yX12_meanRating cX12_meanRating 2 (some .double) 0 := ⟨q_752, q_136, by decide +kernel, by decide +kernel, by decide +kernel, by decide +kernel⟩
theorem mvX12_meanRating : MV yX12_meanRating := ⟨q_750, q_751⟩
abbrev rmX12_meanRating : Room := { frames := 1, cells := 0, slots := 0, locals := 22 }
def F12_mean (n : Nat) (w : Wd) : Option (Option (Int32 × Int32)) := if (w 1).1 0 3 = 0 then some none else bo1 (FX6_ratingsInAll n (w 1)) fun x => some (some (x, (w 1).1 0 3))
theorem ctX12_meanRating {G : GG} {l : Launch} {w : Wd} {n : Nat} {q : Option (Int32 × Int32)} (hF : F12_mean n w = some q) : CTD G l yX12_meanRating cX12_meanRating 2 (some .double) rmX12_meanRating 0 0 [.ref (adr G 0 0)] (GH G w) (fun v H => (∃ r, v = some (.double r) ∧ DVq q r) ∧ GH G w H) := by
  refine CTD.of miX12_meanRating [(0, .ref (adr G 0 0))] rfl (Nat.le_of_ble_eq_true rfl) ?_
  intro p e s m args below meth c hX0 hR hlk hd0
  have hX0 : FX G RX12 cX12_meanRating 2 p s m args c := hX0
  have hX := hX0.drawn s.drawn
  unfold F12_mean at hF
  refine J_aload_n hX dX12_meanRating_0 0 rfl (t := 1) rfl ?_
  refine J_get hX cb9 kEcho 3 (by decide) q_565 rfl dX12_meanRating_1 (t := 4) rfl ?_
  refine J_get hX cb4 (kMarket (r := 1) ⟨by decide, by decide⟩) 3 (by decide) q_379 rfl dX12_meanRating_4 (t := 7) rfl ?_
  refine J_istore_n (lc2 := [(1, .int ((w 1).1 0 3)), (0, .ref (adr G 0 0))]) hX dX12_meanRating_7 rfl (Nat.le_of_ble_eq_true rfl) rfl (t := 8) rfl ?_
  refine J_iload_n hX dX12_meanRating_8 0 rfl (t := 9) rfl ?_
  refine J_if_ne (tgt := 16) hX dX12_meanRating_9 (by decide) (t := 12) rfl (fun z => ?_) (fun z => ?_)
  · obtain ⟨x, hx, hF⟩ := bo1_e (it_f hF z)
    replace hF := Option.some.inj hF
    subst hF
    refine J_aload_n hX dX12_meanRating_16 1 rfl (t := 17) rfl ?_
    refine J_get hX cb9 kEcho 3 (by decide) q_565 rfl dX12_meanRating_17 (t := 20) rfl ?_
    refine J_callV hX [] [] [.int x] (CT.self2 (ctX6_ratingsInAll w 1 ⟨by decide, by decide⟩ (w 1) n hx)) miX6_ratingsInAll mvX6_ratingsInAll cb4 (kMarket (r := 1) ⟨by decide, by decide⟩) q_753 ⟨rfl, rfl, Nat.le_of_ble_eq_true rfl, Nat.le_of_ble_eq_true rfl⟩ rfl rfl (Nat.le_of_ble_eq_true rfl) ⟨Nat.le_of_ble_eq_true rfl, Nat.le_of_ble_eq_true rfl⟩ dX12_meanRating_20 (t := 23) rfl rfl ?_
    refine J_i2d hX dX12_meanRating_23 (t := 24) rfl ?_
    refine J_iload_n hX dX12_meanRating_24 0 rfl (t := 25) rfl ?_
    refine J_i2d hX dX12_meanRating_25 (t := 26) rfl ?_
    refine J_ddivD hd0 hX dX12_meanRating_26 (t := 27) rfl (fun r9 d1 hal hd1 => ?_)
    exact J_dretD hd1 (hX0.drawn d1) hR hlk (fun H h => ⟨⟨r9, rfl, hal⟩, h⟩) dX12_meanRating_27
  · replace hF := Option.some.inj (it_t hF z)
    subst hF
    refine J_dconst0 hX dX12_meanRating_12 (t := 13) rfl ?_
    refine J_goto (tgt := 27) hX dX12_meanRating_13 (by decide) ?_
    exact J_dretD hd0 hX hR hlk (fun H h => ⟨⟨0, rfl, rfl⟩, h⟩) dX12_meanRating_27
theorem miX12_heardFraction : MI yX12_heardFraction cX12_heardFraction 2 (some .float) 0 := ⟨q_760, q_136, by decide +kernel, by decide +kernel, by decide +kernel, by decide +kernel⟩
theorem mvX12_heardFraction : MV yX12_heardFraction := ⟨q_758, q_759⟩
abbrev rmX12_heardFraction : Room := { frames := 0, cells := 0, slots := 0, locals := 0 }
def F12_frac (w : Wd) : Option (Int32 × Int32) := if (w 1).1 0 11 + (w 1).1 0 12 = 0 then none else some ((w 1).1 0 11, (w 1).1 0 11 + (w 1).1 0 12)
theorem ctX12_heardFraction {G : GG} {l : Launch} {w : Wd} : CTD G l yX12_heardFraction cX12_heardFraction 2 (some .float) rmX12_heardFraction 0 0 [.ref (adr G 0 0)] (GH G w) (fun v H => (∃ r, v = some (.float r) ∧ FVq (F12_frac w) r) ∧ GH G w H) := by
  refine CTD.of miX12_heardFraction [(0, .ref (adr G 0 0))] rfl (Nat.le_of_ble_eq_true rfl) ?_
  intro p e s m args below meth c hX0 hR hlk hd0
  have hX0 : FX G RX12 cX12_heardFraction 2 p s m args c := hX0
  have hX := hX0.drawn s.drawn
  unfold F12_frac
  refine J_aload_n hX dX12_heardFraction_0 0 rfl (t := 1) rfl ?_
  refine J_get hX cb9 kEcho 3 (by decide) q_565 rfl dX12_heardFraction_1 (t := 4) rfl ?_
  refine J_get hX cb4 (kMarket (r := 1) ⟨by decide, by decide⟩) 11 (by decide) q_397 rfl dX12_heardFraction_4 (t := 7) rfl ?_
  refine J_aload_n hX dX12_heardFraction_7 0 rfl (t := 8) rfl ?_
  refine J_get hX cb9 kEcho 3 (by decide) q_565 rfl dX12_heardFraction_8 (t := 11) rfl ?_
  refine J_get hX cb4 (kMarket (r := 1) ⟨by decide, by decide⟩) 12 (by decide) q_399 rfl dX12_heardFraction_11 (t := 14) rfl ?_
  refine J_iadd hX dX12_heardFraction_14 (t := 15) rfl ?_
  refine J_istore_n (lc2 := [(1, .int ((((w 1).1 0 11)) + (((w 1).1 0 12)))), (0, .ref (adr G 0 0))]) hX dX12_heardFraction_15 rfl (Nat.le_of_ble_eq_true rfl) rfl (t := 16) rfl ?_
  refine J_iload_n hX dX12_heardFraction_16 0 rfl (t := 17) rfl ?_
  refine J_if_ne (tgt := 24) hX dX12_heardFraction_17 (by decide) (t := 20) rfl (fun z => ?_) (fun z => ?_)
  · rw [if_neg z]
    refine J_aload_n hX dX12_heardFraction_24 1 rfl (t := 25) rfl ?_
    refine J_get hX cb9 kEcho 3 (by decide) q_565 rfl dX12_heardFraction_25 (t := 28) rfl ?_
    refine J_get hX cb4 (kMarket (r := 1) ⟨by decide, by decide⟩) 11 (by decide) q_397 rfl dX12_heardFraction_28 (t := 31) rfl ?_
    refine J_i2f hX dX12_heardFraction_31 (t := 32) rfl ?_
    refine J_iload_n hX dX12_heardFraction_32 0 rfl (t := 33) rfl ?_
    refine J_i2f hX dX12_heardFraction_33 (t := 34) rfl ?_
    refine J_fdivD hd0 hX dX12_heardFraction_34 (t := 35) rfl (fun r9 d1 hal hd1 => ?_)
    exact J_fretD hd1 (hX0.drawn d1) hR hlk (fun H h => ⟨⟨r9, rfl, hal⟩, h⟩) dX12_heardFraction_35
  · rw [if_pos z]
    refine J_fconst0 hX dX12_heardFraction_20 (t := 21) rfl ?_
    refine J_goto (tgt := 35) hX dX12_heardFraction_21 (by decide) ?_
    exact J_fretD hd0 hX hR hlk (fun H h => ⟨⟨0, rfl, rfl⟩, h⟩) dX12_heardFraction_35
theorem miX13_meanRating : MI yX13_meanRating cX13_meanRating 3 (some .double) 0 := ⟨q_2746, q_152, by decide +kernel, by decide +kernel, by decide +kernel, by decide +kernel⟩
theorem mvX13_meanRating : MV yX13_meanRating := ⟨q_2744, q_2745⟩
abbrev rmX13_meanRating : Room := { frames := 2, cells := 0, slots := 0, locals := 42 }
def F13_meanL : Nat → Wd → Int32 → Int32 → Option Int32
  | 0 => fun _ _ _ => none
  | k + 1 => fun w sm i => if (w 15).1 2 0 ≤ i then some sm else bo1 (FX13_ofValley w i 4) fun x => F13_meanL k w (sm + x) (i + 1)
def F13_mean (n : Nat) (w : Wd) : Option (Option (Int32 × Int32) × Wd) := bo1 (F13_meanL n (sW w 15 (sI (w 15) 0 0 0)) 0 0) fun x => some ((if ((sW w 15 (sI (w 15) 0 0 0)) 15).1 2 0 = 0 then none else some (x, ((sW w 15 (sI (w 15) 0 0 0)) 15).1 2 0)), sW w 15 (sI (w 15) 0 0 0))
theorem LX13_meanRating_9 {G : GG} {l : Launch} {p : Program} {e : Env} {s : State} {m : MethodId} {args : Array Value} {below : List Frame} {meth : Method} {c : Code} {d0 : Drawn} (hd0 : s.drawn.sameBut d0 lw_cs) (hX0 : FX G RX13 cX13_meanRating 3 p s m args c) (hR : meth.sig.returnType = some .double) (hlk : meth.locks = false) (w : Wd) {rx : Int32} : ∀ (k : Nat) (sm i : Int32), F13_meanL k w sm i = some rx → J G p l e rmX13_meanRating (s.setDrawn d0) m args below meth c 3 0 0 (MQD lw_cs below (QP G (fun v H => (∃ r, v = some (.double r) ∧ DVq (if (w 15).1 2 0 = 0 then none else some (rx, (w 15).1 2 0)) r) ∧ GH G w H)) args s 0 0 (gA G)) (GH G w) 9 [(2, .int i), (1, .int sm), (0, .ref (adr G 15 0))] [] := by
  have hX := hX0.drawn d0
  intro k
  induction k with
  | zero => intro sm i hF; cases hF
  | succ k ih =>
    intro sm i hF
    simp only [F13_meanL] at hF
    refine J_iload_n hX dX13_meanRating_9 0 rfl (t := 10) rfl ?_
    refine J_aload_n hX dX13_meanRating_10 2 rfl (t := 11) rfl ?_
    refine J_get hX cb10 kModel 13 (by decide) q_1980 rfl dX13_meanRating_11 (t := 14) rfl ?_
    refine J_iconst (v := 0) hX dX13_meanRating_14 (by decide) (t := 15) rfl ?_
    refine J_iald hX (kInts (j := 2) (n := 390) (by decide) (by decide) rfl) (by decide) rfl dX13_meanRating_15 (t := 16) rfl ?_
    refine J_icmp_ge (tgt := 34) hX dX13_meanRating_16 (by decide) (t := 19) rfl (fun z => ?_) (fun z => ?_)
    · replace hF := Option.some.inj (it_t hF z)
      subst hF
      refine J_aload_n hX dX13_meanRating_34 2 rfl (t := 35) rfl ?_
      refine J_get hX cb10 kModel 13 (by decide) q_1980 rfl dX13_meanRating_35 (t := 38) rfl ?_
      refine J_iconst (v := 0) hX dX13_meanRating_38 (by decide) (t := 39) rfl ?_
      refine J_iald hX (kInts (j := 2) (n := 390) (by decide) (by decide) rfl) (by decide) rfl dX13_meanRating_39 (t := 40) rfl ?_
      refine J_if_ne (tgt := 47) hX dX13_meanRating_40 (by decide) (t := 43) rfl (fun z => ?_) (fun z => ?_)
      · rw [if_neg (show ¬ ((w 15).1 2 0 = 0) from z)]
        refine J_iload_n hX dX13_meanRating_47 1 rfl (t := 48) rfl ?_
        refine J_i2d hX dX13_meanRating_48 (t := 49) rfl ?_
        refine J_aload_n hX dX13_meanRating_49 2 rfl (t := 50) rfl ?_
        refine J_get hX cb10 kModel 13 (by decide) q_1980 rfl dX13_meanRating_50 (t := 53) rfl ?_
        refine J_iconst (v := 0) hX dX13_meanRating_53 (by decide) (t := 54) rfl ?_
        refine J_iald hX (kInts (j := 2) (n := 390) (by decide) (by decide) rfl) (by decide) rfl dX13_meanRating_54 (t := 55) rfl ?_
        refine J_i2d hX dX13_meanRating_55 (t := 56) rfl ?_
        refine J_ddivD hd0 hX dX13_meanRating_56 (t := 57) rfl (fun r9 d1 hal hd1 => ?_)
        exact J_dretD hd1 (hX0.drawn d1) hR hlk (fun H h => ⟨⟨r9, rfl, hal⟩, h⟩) dX13_meanRating_57
      · rw [if_pos (show (w 15).1 2 0 = 0 from z)]
        refine J_dconst0 hX dX13_meanRating_43 (t := 44) rfl ?_
        refine J_goto (tgt := 57) hX dX13_meanRating_44 (by decide) ?_
        exact J_dretD hd0 hX hR hlk (fun H h => ⟨⟨0, rfl, rfl⟩, h⟩) dX13_meanRating_57
    · obtain ⟨x, hx, hF⟩ := bo1_e (it_f hF z)
      refine J_iload_n hX dX13_meanRating_19 1 rfl (t := 20) rfl ?_
      refine J_aload_n hX dX13_meanRating_20 2 rfl (t := 21) rfl ?_
      refine J_iload_n hX dX13_meanRating_21 0 rfl (t := 22) rfl ?_
      refine J_iconst (v := 4) hX dX13_meanRating_22 (by decide) (t := 23) rfl ?_
      refine J_callV hX [.int i, .int 4] [.int sm] [.int x, .int sm] (ctX13_ofValley w i 4 hx) miX13_ofValley mvX13_ofValley cb10 kModel q_2225 ⟨rfl, rfl, Nat.le_of_ble_eq_true rfl, Nat.le_of_ble_eq_true rfl⟩ rfl rfl (Nat.le_of_ble_eq_true rfl) ⟨Nat.le_of_ble_eq_true rfl, Nat.le_of_ble_eq_true rfl⟩ dX13_meanRating_23 (t := 26) rfl rfl ?_
      refine J_iadd hX dX13_meanRating_26 (t := 27) rfl ?_
      refine J_istore_n (lc2 := [(1, .int (sm + x)), (2, .int i), (0, .ref (adr G 15 0))]) hX dX13_meanRating_27 rfl (Nat.le_of_ble_eq_true rfl) rfl (t := 28) rfl ?_
      refine J_iinc (v := i + 1) (lc2 := [(2, .int (i + 1)), (1, .int (sm + x)), (0, .ref (adr G 15 0))]) hX dX13_meanRating_28 1 rfl (rfl) (Nat.le_of_ble_eq_true rfl) rfl (t := 31) rfl ?_
      refine J_goto (tgt := 9) hX dX13_meanRating_31 (by decide) ?_
      refine J_sub (lc2 := [(2, .int (i + 1)), (1, .int (sm + x)), (0, .ref (adr G 15 0))]) [0, 1, 2] rfl ?_
      exact ih (sm + x) (i + 1) hF
theorem ctX13_meanRating {G : GG} {l : Launch} {w w2 : Wd} {n : Nat} {q : Option (Int32 × Int32)} (hF : F13_mean n w = some (q, w2)) : CTD G l yX13_meanRating cX13_meanRating 3 (some .double) rmX13_meanRating 0 0 [.ref (adr G 15 0)] (GH G w) (fun v H => (∃ r, v = some (.double r) ∧ DVq q r) ∧ GH G w2 H) := by
  refine CTD.of miX13_meanRating [(0, .ref (adr G 15 0))] rfl (Nat.le_of_ble_eq_true rfl) ?_
  intro p e s m args below meth c hX0 hR hlk hd0
  have hX0 : FX G RX13 cX13_meanRating 3 p s m args c := hX0
  have hX := hX0.drawn s.drawn
  unfold F13_mean at hF
  obtain ⟨x, hx, hF⟩ := bo1_e hF
  obtain ⟨hF, hF2⟩ := Prod.mk.inj (Option.some.inj hF)
  subst hF
  subst hF2
  refine J_aload_n hX dX13_meanRating_0 0 rfl (t := 1) rfl ?_
  refine J_iconst (v := 0) hX dX13_meanRating_1 (by decide) (t := 2) rfl ?_
  refine J_puti hX cb10 kModel 0 (by decide) q_1967 rfl rfl (w2 := sW w 15 (sI (w 15) 0 0 0)) rfl (fun _ _ => Nat.le_of_ble_eq_true rfl) (fun _ _ => rfl) dX13_meanRating_2 (t := 5) rfl ?_
  refine J_iconst (v := 0) hX dX13_meanRating_5 (by decide) (t := 6) rfl ?_
  refine J_istore_n (lc2 := [(1, .int 0), (0, .ref (adr G 15 0))]) hX dX13_meanRating_6 rfl (Nat.le_of_ble_eq_true rfl) rfl (t := 7) rfl ?_
  refine J_iconst (v := 0) hX dX13_meanRating_7 (by decide) (t := 8) rfl ?_
  refine J_istore_n (lc2 := [(2, .int 0), (1, .int 0), (0, .ref (adr G 15 0))]) hX dX13_meanRating_8 rfl (Nat.le_of_ble_eq_true rfl) rfl (t := 9) rfl ?_
  refine J_sub (lc2 := [(2, .int 0), (1, .int 0), (0, .ref (adr G 15 0))]) [0, 1, 2] rfl ?_
  exact LX13_meanRating_9 hd0 hX0 hR hlk _ n 0 0 hx
theorem miX13_heardFraction : MI yX13_heardFraction cX13_heardFraction 2 (some .float) 0 := ⟨q_2750, q_152, by decide +kernel, by decide +kernel, by decide +kernel, by decide +kernel⟩
theorem mvX13_heardFraction : MV yX13_heardFraction := ⟨q_2748, q_2749⟩
abbrev rmX13_heardFraction : Room := { frames := 3, cells := 0, slots := 0, locals := 64 }
def F13_frac (n : Nat) (w : Wd) : Option (Option (Int32 × Int32) × Wd) := bnd (sW w 15 (sI (w 15) 0 0 0)) fun w1 => bo1 (FX13_returnsAll n w1) fun a => if a = 0 then some (none, w1) else bo1 (FX13_heardAll n w1) fun h => some (some (h, a), w1)
theorem ctX13_heardFraction {G : GG} {l : Launch} {w w2 : Wd} {n : Nat} {q : Option (Int32 × Int32)} (hF : F13_frac n w = some (q, w2)) : CTD G l yX13_heardFraction cX13_heardFraction 2 (some .float) rmX13_heardFraction 0 0 [.ref (adr G 15 0)] (GH G w) (fun v H => (∃ r, v = some (.float r) ∧ FVq q r) ∧ GH G w2 H) := by
  refine CTD.of miX13_heardFraction [(0, .ref (adr G 15 0))] rfl (Nat.le_of_ble_eq_true rfl) ?_
  intro p e s m args below meth c hX0 hR hlk hd0
  have hX0 : FX G RX13 cX13_heardFraction 2 p s m args c := hX0
  have hX := hX0.drawn s.drawn
  unfold F13_frac at hF
  obtain ⟨w1, he, hF⟩ := bnd_e hF
  obtain ⟨a, ha, hF⟩ := bo1_e hF
  refine J_aload_n hX dX13_heardFraction_0 0 rfl (t := 1) rfl ?_
  refine J_iconst (v := 0) hX dX13_heardFraction_1 (by decide) (t := 2) rfl ?_
  refine J_puti hX cb10 kModel 0 (by decide) q_1967 rfl rfl (w2 := w1) he (fun _ _ => Nat.le_of_ble_eq_true rfl) (fun _ _ => rfl) dX13_heardFraction_2 (t := 5) rfl ?_
  refine J_aload_n hX dX13_heardFraction_5 0 rfl (t := 6) rfl ?_
  refine J_callV hX [] [] [.int a] (ctX13_returnsAll w1 n ha) miX13_returnsAll mvX13_returnsAll cb10 kModel q_2751 ⟨rfl, rfl, Nat.le_of_ble_eq_true rfl, Nat.le_of_ble_eq_true rfl⟩ rfl rfl (Nat.le_of_ble_eq_true rfl) ⟨Nat.le_of_ble_eq_true rfl, Nat.le_of_ble_eq_true rfl⟩ dX13_heardFraction_6 (t := 9) rfl rfl ?_
  refine J_istore_n (lc2 := [(1, .int a), (0, .ref (adr G 15 0))]) hX dX13_heardFraction_9 rfl (Nat.le_of_ble_eq_true rfl) rfl (t := 10) rfl ?_
  refine J_iload_n hX dX13_heardFraction_10 0 rfl (t := 11) rfl ?_
  refine J_if_ne (tgt := 18) hX dX13_heardFraction_11 (by decide) (t := 14) rfl (fun z => ?_) (fun z => ?_)
  · obtain ⟨h, hh, hF⟩ := bo1_e (it_f hF z)
    obtain ⟨hF, hF2⟩ := Prod.mk.inj (Option.some.inj hF)
    subst hF
    subst hF2
    refine J_aload_n hX dX13_heardFraction_18 1 rfl (t := 19) rfl ?_
    refine J_callV hX [] [] [.int h] (ctX13_heardAll w1 n hh) miX13_heardAll mvX13_heardAll cb10 kModel q_2755 ⟨rfl, rfl, Nat.le_of_ble_eq_true rfl, Nat.le_of_ble_eq_true rfl⟩ rfl rfl (Nat.le_of_ble_eq_true rfl) ⟨Nat.le_of_ble_eq_true rfl, Nat.le_of_ble_eq_true rfl⟩ dX13_heardFraction_19 (t := 22) rfl rfl ?_
    refine J_i2f hX dX13_heardFraction_22 (t := 23) rfl ?_
    refine J_iload_n hX dX13_heardFraction_23 0 rfl (t := 24) rfl ?_
    refine J_i2f hX dX13_heardFraction_24 (t := 25) rfl ?_
    refine J_fdivD hd0 hX dX13_heardFraction_25 (t := 26) rfl (fun r9 d1 hal hd1 => ?_)
    exact J_fretD hd1 (hX0.drawn d1) hR hlk (fun H h => ⟨⟨r9, rfl, hal⟩, h⟩) dX13_heardFraction_26
  · obtain ⟨hF, hF2⟩ := Prod.mk.inj (Option.some.inj (it_t hF z))
    subst hF
    subst hF2
    refine J_fconst0 hX dX13_heardFraction_14 (t := 15) rfl ?_
    refine J_goto (tgt := 26) hX dX13_heardFraction_15 (by decide) ?_
    exact J_fretD hd0 hX hR hlk (fun H h => ⟨⟨0, rfl, rfl⟩, h⟩) dX13_heardFraction_26
