theorem q_objcode : Cond.code Lib.objectInit ⟨#[0xb1]⟩ 1 none ∈ WALL := WALL_in (List.mem_append_right _ (List.mem_append_left _ (List.mem_of_getElem? (i := 40) rfl))) rfl
/-! CONSTRUCTORS: cells born one behind another. NB: from the law's start on k cells have been made, cell o holds f o -/
def NB (G : GG) (k : Nat) (f : Nat → va_E) (H : Heap) : Prop := H.size = gn G + k ∧ gz G ≤ gn G ∧ ∀ o, o < k → va_at (gD G) jcl (gn G + o, f o) H
def nf (f : Nat → va_E) (o : Nat) (x : va_E) : Nat → va_E := fun i => if i = o then x else f i
theorem nf_s {f : Nat → va_E} {o : Nat} {x : va_E} : nf f o x o = x := if_pos rfl
theorem nf_o {f : Nat → va_E} {o i : Nat} {x : va_E} (h : i ≠ o) : nf f o x i = f i := if_neg h
/-- a row of references, the first i of them laid -/
def aRp (G : GG) (t n i : Nat) (h : Nat → Nat) : va_E := .inl (gc G t, n, .inr (.inr (.inr (.inr (fun j => if j < i then some (h j) else none)))))
theorem NB.congr {G : GG} {k : Nat} {f g : Nat → va_E} {H : Heap} (h : NB G k f H) (e : ∀ o, o < k → f o = g o) : NB G k g H := ⟨h.1, h.2.1, fun o ho => by rw [← e o ho]; exact h.2.2 o ho⟩
theorem NB.put {G : GG} {k : Nat} {f : Nat → va_E} {H H1 : Heap} (h : NB G k f H) {o : Nat} (ho : o < k) {x : va_E} (e1 : va_at (gD G) jcl (gn G + o, x) H1) (z : H1.size = H.size) (oq : ∀ q : Nat, q ≠ gn G + o → H1[q]? = H[q]?) : NB G k (nf f o x) H1 := ⟨z.trans h.1, h.2.1, fun i hi => by
  by_cases e : i = o
  · subst e; rw [nf_s]; exact e1
  · rw [nf_o e]; exact (h.2.2 i hi).kept (oq _ (by show gn G + i ≠ gn G + o; omega))⟩
theorem NB.push {G : GG} {k : Nat} {f : Nat → va_E} {H H1 : Heap} (h : NB G k f H) {x : va_E} (e1 : va_at (gD G) jcl (H.size, x) H1) (z : H1.size = H.size + 1) (oq : ∀ q : Nat, q < H.size → H1[q]? = H[q]?) : NB G (k + 1) (nf f k x) H1 := ⟨by rw [z, h.1]; omega, h.2.1, fun i hi => by
  by_cases e : i = k
  · subst e; rw [nf_s, ← h.1]; exact e1
  · rw [nf_o e]; exact (h.2.2 i (by omega)).kept (oq _ (by show gn G + i < H.size; rw [h.1]; omega))⟩
theorem va_S.grow {A : Nat → Prop} {H0 H H1 : Heap} {locs : List Loc} (h : va_S A H0 H locs) (z : H1.size = H.size + 1) (o1 : ∀ q : Nat, q < H.size → H1[q]? = H[q]?) : va_S A H0 H1 locs := ⟨Nat.le_trans h.1 (by omega), fun x a b => by rw [o1 x (Nat.lt_of_lt_of_le a h.1)]; exact h.2.1 x a b, h.2.2⟩
-- contracts of constructors
def CTN (G : GG) (l : Launch) (y : MethodName) (cc : ByteArray) (mL : Nat) (ret : Option FieldType) (rm : Room) (mc ms : Nat) (av : List Value) (I : Heap → Prop) (P : Option Value → Heap → Prop) : Prop := Met l y (wsY y cc mL ret) rm (va_Pc av (fun U => GI G I U ∧ AO U)) (QP G P) mc ms (gA G)
theorem CTN.blind (G : GG) (I : Heap → Prop) (av : List Value) : FrameBlind (va_Pc av (fun U => GI G I U ∧ AO U)) := fun a U g mk h =>
  ⟨h.1, (GI.blind G I av a U g mk ⟨h.1, h.2.1⟩).2, fun C hC => va_AO.moved (u := U) (U := U.calling g mk _) (Vm.Alike.refl U.vm) (h.2.2 C hC)⟩
theorem CTN.of {G : GG} {l : Launch} {y : MethodName} {cc : ByteArray} {mL n : Nat} {ret : Option FieldType} {rm : Room} {mc ms : Nat} {av : List Value} {I : Heap → Prop} {P : Option Value → Heap → Prop} (mi : MI y cc mL ret n) (lc : List (Nat × Value)) (hlc : lv_args 0 av = lc) (hlen : (lg_sl av).length ≤ mL)
    (body : ∀ (p : Program) (e : Env) (s : State) (m : MethodId) (args : Array Value) (below : List Frame) (meth : Method) (c : Code), FX G y.cls cc mL p s m args c → AO s → meth.name = y.name → meth.sig.returnType = ret → meth.locks = false → J G p l e rm s m args below meth c mL 0 0 (MQ below (QP G P) args s mc ms (gA G)) I 0 lc []) : CTN G l y cc mL ret rm mc ms av I P := by
  refine Met.ofW (cc := cc) (maxL := mL) (ret := ret) mi.2.2.1 rfl ?_
  intro p e s m args below meth c s₁ B hml hv
  obtain ⟨rfl, ⟨hg, hK, hL, hn⟩, ho⟩ := hv
  have hts := atoms_spec (ws := wsY y cc mL ret) B.pre
  have hX : FX G y.cls cc mL p s m av.toArray c := ⟨B.exec, B.bytes, hml, findClass_of_methodNamed B.named, fun w hw => hts w (List.mem_cons_of_mem _ hw), hK, hL, hn⟩
  have hl := lv_entry av hlen
  rw [hlc] at hl
  rw [lg_entry_eq]
  exact body p e s m av.toArray below meth c hX ho (name_of_methodNamed B.named B.method).1 B.returns B.notSynchronized s.heap [] _ hl hg va_S.rf
theorem FX.newA {G : GG} {own : String} {cc : ByteArray} {nL : Nat} {p : Program} {s : State} {m : MethodId} {args : Array Value} {c : Code} (hX : FX G own cc nL p s m args c) (h : gz G ≤ gn G) (o : Nat) : gA G (gn G + o) := hX.2.2.2.2.2.2.2.2.2 _ (Nat.le_trans h (Nat.le_add_right _ _))
section NBS
variable {G : GG} {own : String} {cc : ByteArray} {p : Program} {l : Launch} {e : Env} {R : Room} {s : State} {m : MethodId} {args : Array Value} {below : List Frame} {meth : Method} {c : Code} {nL cells slots : Nat} {Q : State → Prop} {pc t : Nat} {lc : List (Nat × Value)} {st : List Value} {k : Nat} {f : Nat → va_E}
theorem N_new (hX : FX G own cc nL p s m args c) {ci index : Nat} {C : String} {T : u_T} {N : Nat} {ty : Nat → FieldType} (cb : CB ci C T N ty) (hcl : Cond.classLink own index C ∈ WALL) (hin : Cond.instantiable C N ∈ WALL) (hini : Cond.initialized C ∈ WALL) (fs : List Value) (hfs : ∀ j, j < N → defaultValue (ty j) = vp_V fs j) (hroom : cells + 1 ≤ R.cells ∧ slots + N ≤ R.slots) (hdg : decode cc pc = .ok (.new index, 3)) (ht : pc + 3 = t)
    (kk : J G p l e R s m args below meth c nL (cells + 1) (slots + N) Q (NB G (k + 1) (nf f k (.inr (ci, fs)))) t lc (.ref (gn G + k) :: st)) : J G p l e R s m args below meth c nL cells slots Q (NB G k f) pc lc st := by
  subst ht
  intro H locs ls h1 h2 h3
  have hKn := hX.2.2.2.2.2.1.1 ci _ cb.1
  refine W.newcK hX.1 hX.2.1 hX.2.2.2.1 (hX.2.2.2.2.1 _ hcl) (hX.2.2.2.2.1 _ hin) (hX.2.2.2.2.1 _ hini) rfl hdg hroom.1 hroom.2 hKn.2.1 rfl fun H1 kC hkC e1 z1 o1 => ?_
  have r := kk H1 locs ls h1 (h2.push (x := .inr (ci, fs)) ⟨_, cb.1, (u_born ty hX.2.2.2.2.1 cb.2.1 hKn hkC e1 cb.2.2.1).to hfs⟩ z1 o1) (h3.grow z1 o1)
  rw [← h2.1] at r
  exact r
theorem N_obj (hX : FX G own cc nL p s m args c) {I : Heap → Prop} {index a : Nat} (hw : Cond.methodLink own index Lib.objectInit ∈ WALL) (hroom : 1 ≤ R.frames ∧ (st.map fun v => v.category).sum + 12 ≤ R.locals) (hdg : decode cc pc = .ok (.invokespecial index, 3)) (ht : pc + 3 = t) (kk : J G p l e R s m args below meth c nL cells slots Q I t lc st) : J G p l e R s m args below meth c nL cells slots Q I pc lc (.ref a :: st) := by
  subst ht
  intro H locs ls h1 h2 h3
  exact W.objInit hX.1 hX.2.1 hX.2.2.2.1 (hX.2.2.2.2.1 _ hw) (hX.2.2.2.2.1 _ q_176) (hX.2.2.2.2.1 _ q_objcode) rfl (h1.1.trans hX.2.2.1.symm) rfl hdg hroom.1 (by show 2 * 0 + _ + 12 ≤ _; have := hroom.2; omega) (kk H locs ls h1 h2 h3)
theorem W_putF1 (hX : FX G own cc nL p s m args c) (hnm : meth.name = "<init>") {H : Heap} {locs : List Loc} {ls : Array Slot} {rest : List Value} {a ci index : Nat} {C : String} {T : u_T} {N : Nat} {ty0 : Nat → FieldType} (cb : CB ci C T N ty0) {fs : List Value} (hat : va_at (gD G) jcl (a, .inr (ci, fs)) H) (hA : gA G a) (hS0 : va_S (gA G) s.heap H locs) (k : Nat) (hk : k < N) (hw : Cond.fieldLink own index (T k).1 (T k).2.1 (T k).2.2.1 ∈ WALL) (hfin : (T k).2.2.2 = true) (hdecl : (T k).1 = own) {ty : FieldType} {v : Value} (hd : parseFieldDescriptor (T k).2.2.1 = some ty) (hn : narrow ty v = v) (hfit : fits ty v = true) (hl : k < fs.length)
    (hdg : decode cc pc = .ok (.putfield index, 3)) (kk : ∀ (H1 : Heap) (locs1 : List Loc), va_at (gD G) jcl (a, .inr (ci, fs.set k v)) H1 → H1.size = H.size → (∀ q, q ≠ a → H1[q]? = H[q]?) → va_S (gA G) s.heap H1 locs1 → W p l e R s m args below meth c H1 locs1 cells slots Q (F0 m (pc + 3) ls rest)) : W p l e R s m args below meth c H locs cells slots Q (F0 m pc ls (v :: .ref a :: rest)) := by
  obtain ⟨hexec, hb, -, hown, hts, hK, -⟩ := hX
  obtain ⟨hc, hin, hty, hnm2⟩ := cb
  have hap := va_apart (own := own) (cl := jcl) (D := gD G) (ci := ci) hts hin ty0 hty hnm2 hK hc
  obtain ⟨r9, h1, cell, q1, q2, q3, q4⟩ := hat
  have hr : r9 = (C, T, N) := Option.some.inj (h1.symm.trans hc)
  subst hr
  obtain ⟨hS, hfc, kC, hkC, hkind⟩ := hK.1 ci _ hc
  obtain ⟨cf, kf, fi, f9, hi, hsl⟩ := hS k hk
  have hlay := hts _ (hin _ (u_in_lay hk))
  unfold u_lay at hlay
  rw [if_pos hfin] at hlay
  have hst := (u_facts hfc hkC (u_lays hts hin hk) hi).1
  have hcf : m.cls = cf := by
    obtain ⟨_, _, c', _, _, _, -, -, hf', -, -, -, hown2, -⟩ := Cond.laysFinal_spec hlay
    have e1 : c' = cf := by have := hi.symm.trans hf'; simp at this; exact this.1.symm
    rw [hdecl] at hown2
    rw [← e1]; exact Option.some.inj (hown.symm.trans hown2)
  have h6 := u_fits hfc hkC hkind (Or.inr hlay) hi hd hn hfit
  refine W.putFinK hexec hb hown (hts _ hw) hi hst hcf hnm (by rw [q2]; exact h6) q1 q3 (by rw [hsl]; exact k2_hasslot (q4 k hk)) rfl rfl hdg fun H' e1 e2 e3 => ?_
  rw [hsl] at e1 ⊢
  exact kk H' _ ⟨_, hc, t_OB.to (V := updV (vp_V fs) k v) ⟨_, e1, q2, q3, t_set q4 hap hk v⟩ (fun j _ => vp_updV_set hl v j)⟩ e2 e3 (hS0.put e2 e3 hA)
theorem N_put (hX : FX G own cc nL p s m args c) {ci index o : Nat} {C : String} {T : u_T} {N : Nat} {ty0 : Nat → FieldType} (cb : CB ci C T N ty0) (ho : o < k) {fs fs2 : List Value} (hf : f o = .inr (ci, fs)) (kf : Nat) (hkf : kf < N) (hw : Cond.fieldLink own index (T kf).1 (T kf).2.1 (T kf).2.2.1 ∈ WALL) (hfin : (T kf).2.2.2 = false) {ty : FieldType} {v : Value} (hty : ty0 kf = ty) (hn : narrow ty v = v) (hfit : fits ty v = true) (hl : kf < fs.length) (hs : fs.set kf v = fs2) (hdg : decode cc pc = .ok (.putfield index, 3)) (ht : pc + 3 = t)
    (kk : J G p l e R s m args below meth c nL cells slots Q (NB G k (nf f o (.inr (ci, fs2)))) t lc st) : J G p l e R s m args below meth c nL cells slots Q (NB G k f) pc lc (v :: .ref (gn G + o) :: st) := by
  subst ht; subst hs
  intro H locs ls h1 h2 h3
  have hat := h2.2.2 o ho
  rw [hf] at hat
  refine W_put1 hX cb hat (hX.newA h2.2.1 _) h3 kf hkf hw hfin (by rw [cb.2.2.1 kf hkf, hty]) hn hfit hl hdg fun H1 locs1 e1 e2 e3 e4 => ?_
  exact kk H1 locs1 ls h1 (h2.put ho e1 e2 e3) e4
theorem N_putF (hX : FX G own cc nL p s m args c) (hnm : meth.name = "<init>") {ci index o : Nat} {C : String} {T : u_T} {N : Nat} {ty0 : Nat → FieldType} (cb : CB ci C T N ty0) (ho : o < k) {fs fs2 : List Value} (hf : f o = .inr (ci, fs)) (kf : Nat) (hkf : kf < N) (hw : Cond.fieldLink own index (T kf).1 (T kf).2.1 (T kf).2.2.1 ∈ WALL) (hfin : (T kf).2.2.2 = true) (hdecl : (T kf).1 = own) {ty : FieldType} {v : Value} (hty : ty0 kf = ty) (hn : narrow ty v = v) (hfit : fits ty v = true) (hl : kf < fs.length) (hs : fs.set kf v = fs2) (hdg : decode cc pc = .ok (.putfield index, 3)) (ht : pc + 3 = t)
    (kk : J G p l e R s m args below meth c nL cells slots Q (NB G k (nf f o (.inr (ci, fs2)))) t lc st) : J G p l e R s m args below meth c nL cells slots Q (NB G k f) pc lc (v :: .ref (gn G + o) :: st) := by
  subst ht; subst hs
  intro H locs ls h1 h2 h3
  have hat := h2.2.2 o ho
  rw [hf] at hat
  refine W_putF1 hX hnm cb hat (hX.newA h2.2.1 _) h3 kf hkf hw hfin hdecl (by rw [cb.2.2.1 kf hkf, hty]) hn hfit hl hdg fun H1 locs1 e1 e2 e3 e4 => ?_
  exact kk H1 locs1 ls h1 (h2.put ho e1 e2 e3) e4
theorem N_get (hX : FX G own cc nL p s m args c) {ci index o : Nat} {C : String} {T : u_T} {N : Nat} {ty0 : Nat → FieldType} (cb : CB ci C T N ty0) (ho : o < k) {fs : List Value} (hf : f o = .inr (ci, fs)) (kf : Nat) (hkf : kf < N) (hw : Cond.fieldLink own index (T kf).1 (T kf).2.1 (T kf).2.2.1 ∈ WALL) {v : Value} (hv : fs[kf]? = some v) (hdg : decode cc pc = .ok (.getfield index, 3)) (ht : pc + 3 = t)
    (kk : J G p l e R s m args below meth c nL cells slots Q (NB G k f) t lc (v :: st)) : J G p l e R s m args below meth c nL cells slots Q (NB G k f) pc lc (.ref (gn G + o) :: st) := by
  subst ht
  intro H locs ls h1 h2 h3
  have hat := h2.2.2 o ho
  rw [hf] at hat
  exact va_get (D := gD G) (cl := jcl) (tys := jtys G) (ci := ci) (C := C) (T := T) (N := N) hX.1 hX.2.1 hX.2.2.2.2.1 cb.2.1 hX.2.2.2.1 hX.2.2.2.2.2.1 (one_P hat) 0 rfl cb.1 kf hkf (hX.2.2.2.2.1 _ hw) (fun _ h => h) hv hdg (kk H locs ls h1 h2 h3)
theorem N_newI (hX : FX G own cc nL p s m args c) {x : Int32} {N : Nat} (hn : ¬ x < 0) (hN : x.toNatClampNeg = N) (hbig : N * componentBytes .int ≤ 536870912) (harr : Cond.arrayClass .int ∈ WALL) (hroom : cells + 1 ≤ R.cells ∧ slots + N ≤ R.slots) (hdg : decode cc pc = .ok (.newarray .int, 2)) (ht : pc + 2 = t)
    (kk : J G p l e R s m args below meth c nL (cells + 1) (slots + N) Q (NB G (k + 1) (nf f k (aI G N (fun _ => 0)))) t lc (.ref (gn G + k) :: st)) : J G p l e R s m args below meth c nL cells slots Q (NB G k f) pc lc (.int x :: st) := by
  subst ht
  intro H locs ls h1 h2 h3
  refine va_newaK hX.1 hX.2.1 (atype := .int) (hX.2.2.2.2.1 _ harr) rfl hdg rfl hn hN hbig hroom.1 hroom.2 rfl fun H1 cA e1 z1 o1 hAr hNm => ?_
  have hcA : cA = gc G 0 := Option.some.inj (hNm.symm.trans (hX.2.2.2.2.2.1.2 0 _ rfl).2)
  subst hcA
  have r := kk H1 locs ls h1 (h2.push (x := aI G N (fun _ => 0)) (by
    show H1[H.size]? = some (vp_cell _ _)
    rw [e1]
    rfl) z1 o1) (h3.grow z1 o1)
  rw [← h2.1] at r
  exact r
theorem N_newB (hX : FX G own cc nL p s m args c) {x : Int32} {N : Nat} (hn : ¬ x < 0) (hN : x.toNatClampNeg = N) (hbig : N * componentBytes .byte ≤ 536870912) (harr : Cond.arrayClass .byte ∈ WALL) (hroom : cells + 1 ≤ R.cells ∧ slots + N ≤ R.slots) (hdg : decode cc pc = .ok (.newarray .byte, 2)) (ht : pc + 2 = t)
    (kk : J G p l e R s m args below meth c nL (cells + 1) (slots + N) Q (NB G (k + 1) (nf f k (aB G N (fun _ => 0)))) t lc (.ref (gn G + k) :: st)) : J G p l e R s m args below meth c nL cells slots Q (NB G k f) pc lc (.int x :: st) := by
  subst ht
  intro H locs ls h1 h2 h3
  refine va_newaK hX.1 hX.2.1 (atype := .byte) (hX.2.2.2.2.1 _ harr) rfl hdg rfl hn hN hbig hroom.1 hroom.2 rfl fun H1 cA e1 z1 o1 hAr hNm => ?_
  have hcA : cA = gc G 1 := Option.some.inj (hNm.symm.trans (hX.2.2.2.2.2.1.2 1 _ rfl).2)
  subst hcA
  have r := kk H1 locs ls h1 (h2.push (x := aB G N (fun _ => 0)) (by
    show H1[H.size]? = some (vp_cell _ _)
    rw [e1]
    rfl) z1 o1) (h3.grow z1 o1)
  rw [← h2.1] at r
  exact r
theorem N_newJ (hX : FX G own cc nL p s m args c) {x : Int32} {N : Nat} (hn : ¬ x < 0) (hN : x.toNatClampNeg = N) (hbig : N * componentBytes .long ≤ 536870912) (harr : Cond.arrayClass .long ∈ WALL) (hroom : cells + 1 ≤ R.cells ∧ slots + N ≤ R.slots) (hdg : decode cc pc = .ok (.newarray .long, 2)) (ht : pc + 2 = t)
    (kk : J G p l e R s m args below meth c nL (cells + 1) (slots + N) Q (NB G (k + 1) (nf f k (aJ G N (fun _ => 0)))) t lc (.ref (gn G + k) :: st)) : J G p l e R s m args below meth c nL cells slots Q (NB G k f) pc lc (.int x :: st) := by
  subst ht
  intro H locs ls h1 h2 h3
  refine va_newaK hX.1 hX.2.1 (atype := .long) (hX.2.2.2.2.1 _ harr) rfl hdg rfl hn hN hbig hroom.1 hroom.2 rfl fun H1 cA e1 z1 o1 hAr hNm => ?_
  have hcA : cA = gc G 2 := Option.some.inj (hNm.symm.trans (hX.2.2.2.2.2.1.2 2 _ rfl).2)
  subst hcA
  have r := kk H1 locs ls h1 (h2.push (x := aJ G N (fun _ => 0)) (by
    show H1[H.size]? = some (vp_cell _ _)
    rw [e1]
    rfl) z1 o1) (h3.grow z1 o1)
  rw [← h2.1] at r
  exact r
theorem N_anew (hX : FX G own cc nL p s m args c) (hAO : AO s) {C : String} (hC : C ∈ aoL) {index t0 N : Nat} (hcl : Cond.classLink own index C ∈ WALL) (ht0 : (jtys G)[t0]? = some (gc G t0, .object C)) {x : Int32} (hn : ¬ x < 0) (hN : x.toNatClampNeg = N) (hbig : N * 4 ≤ 536870912) (h : Nat → Nat) (hroom : cells + 1 ≤ R.cells ∧ slots + N ≤ R.slots) (hdg : decode cc pc = .ok (.anewarray index, 3)) (ht : pc + 3 = t)
    (kk : J G p l e R s m args below meth c nL (cells + 1) (slots + N) Q (NB G (k + 1) (nf f k (aRp G t0 N 0 h))) t lc (.ref (gn G + k) :: st)) : J G p l e R s m args below meth c nL cells slots Q (NB G k f) pc lc (.int x :: st) := by
  subst ht; subst hN
  intro H locs ls h1 h2 h3
  refine W.anew hX.1 hX.2.1 hX.2.2.2.1 (hX.2.2.2.2.1 _ hcl) (va_AO.use (hAO C hC)) rfl hdg rfl hn hbig hroom.1 hroom.2 fun cA kA comp f1 f2 f3 f4 => ?_
  obtain ⟨-, -, -, -, -, f5⟩ := (hX.2.2.2.2.2.1.2 t0 _ ht0).2
  have hcA : cA = gc G t0 := Option.some.inj (f1.symm.trans f5)
  subst hcA
  generalize hH1 : H.push ({ cls := gc G t0, slots := Array.replicate x.toNatClampNeg .null, vm := .none } : Cell) = H1
  have z1 : H1.size = H.size + 1 := by rw [← hH1, Array.size_push]
  have e1 : H1[H.size]? = some (arrV (gc G t0) x.toNatClampNeg (fun _ => .null)) := by rw [← hH1, Array.getElem?_push_size, ← arrV_new]
  have o1 : ∀ q : Nat, q < H.size → H1[q]? = H[q]? := fun q hq => by rw [← hH1, Array.getElem?_push, if_neg (Nat.ne_of_lt hq)]
  have r := kk H1 locs ls h1 (h2.push (x := aRp G t0 x.toNatClampNeg 0 h) (by
    show H1[H.size]? = some (vp_cell _ _)
    rw [e1, vp_cell_q]
    rfl) z1 o1) (h3.grow z1 o1)
  rw [← h2.1] at r
  exact r
theorem N_aast (hX : FX G own cc nL p s m args c) {a0 v t0 N i ci : Nat} {r : vw_C} {vs : List Value} {h : Nat → Nat} (ho : a0 < k) (hv : v < k) (hf : f a0 = aRp G t0 N i h) (hfv : f v = .inr (ci, vs)) (hc : jcl[ci]? = some r) (ht0 : (jtys G)[t0]? = some (gc G t0, .object r.1)) (hi : i < N) (hN : N < 2 ^ 31) (hh : h i = gn G + v) (hdg : decode cc pc = .ok (.aastore, 1)) (ht : pc + 1 = t)
    (kk : J G p l e R s m args below meth c nL cells slots Q (NB G k (nf f a0 (aRp G t0 N (i + 1) h))) t lc st) : J G p l e R s m args below meth c nL cells slots Q (NB G k f) pc lc (.ref (gn G + v) :: .int (nI i) :: .ref (gn G + a0) :: st) := by
  subst ht
  intro H locs ls h1 h2 h3
  have hat := h2.2.2 a0 ho
  rw [hf] at hat
  have hav := h2.2.2 v hv
  rw [hfv] at hav
  have hat : H[gn G + a0]? = some (arrV (gc G t0) N (fun j => va_rf (if j < i then some (h j) else none))) := hat
  obtain ⟨r', hr', cellV, g1, g2, g3, -⟩ := hav
  have hcls := (hX.2.2.2.2.2.1.1 ci r hc).2
  obtain ⟨kA, comp, k1, k2, k3, -⟩ := (hX.2.2.2.2.2.1.2 t0 _ ht0).2
  have hcomp : comp = (gD G).1 ci := Option.some.inj (k3.symm.trans hcls.1)
  subst hcomp
  obtain ⟨kC, hkC, -⟩ := hcls.2
  refine W.aast hX.1 hX.2.1 hat (fun q h => by cases h) (fun h => by cases h) k1 k2 rfl hkC ⟨nI_pos (by omega), by rw [arrV_size, nI_clamp (by omega)]; exact hi⟩ g1 (fun q h => by rw [g3] at h; cases h) (by rw [g2]; exact hkC) (by rw [g2]; exact va_assign hcls) rfl rfl hdg fun H1 e1 z oq => ?_
  refine kk H1 _ ls h1 (h2.put ho ?_ z oq) (h3.put z oq (hX.newA h2.2.1 _))
  show H1[gn G + a0]? = some (vp_cell _ _)
  rw [e1, nI_clamp (by omega), arrV_store, vp_cell_q]
  congr 2
  funext q
  unfold updV
  by_cases hq : q = i
  · subst hq
    rw [if_pos rfl, if_pos (Nat.lt_succ_self _), hh]
    rfl
  · rw [if_neg hq]
    show va_rf (if q < i then some (h q) else none) = va_rf (if q < i + 1 then some (h q) else none)
    by_cases hl : q < i
    · rw [if_pos hl, if_pos (by omega)]
    · rw [if_neg hl, if_neg (by omega)]
theorem FX.preN (hX : FX G own cc nL p s m args c) (hAO : AO s) {I : Heap → Prop} {H : Heap} {locs : List Loc} (h2 : I H) (h3 : va_S (gA G) s.heap H locs) (U : State) (hU : U.heap = H) (hW : s.WarmedH U.vm) : GI G I U ∧ AO U := ⟨hX.preI h2 h3 U hU hW, fun C hC => va_AO.moved hW.alike (hAO C hC)⟩
theorem N_call (hX : FX G own cc nL p s m args c) (hAO : AO s) {I : Heap → Prop} {y : MethodName} {cd : ByteArray} {mL n9 index mc ms b : Nat} {rm : Room} {P : Option Value → Heap → Prop} (As rest : List Value) (hM : CTN G l y cd mL none rm mc ms (.ref b :: As) I P) (mi : MI y cd mL none n9) (hin : Cond.instanceMethod y ∈ WALL) (hno : y.name = "<init>") (hw : Cond.methodLink own index y ∈ WALL) (hrm : rm.cells = mc ∧ rm.slots = ms ∧ rm.frames + 1 ≤ R.frames ∧ 8 + (mL + 11) + rm.locals ≤ R.locals) (hn : As.length = n9) (hst : st = As.reverse ++ .ref b :: rest) (hcat : (rest.map fun v => v.category).sum ≤ 8) (hf : cells + mc ≤ R.cells ∧ slots + ms ≤ R.slots)
    (hdg : decode cc pc = .ok (.invokespecial index, 3)) (ht : pc + 3 = t) (kk : ∀ v, J G p l e R s m args below meth c nL (cells + mc) (slots + ms) Q (P v) t lc (v.toList ++ rest)) : J G p l e R s m args below meth c nL cells slots Q I pc lc st := by
  subst ht
  intro H locs ls h1 h2 h3
  exact J_runP (va_runI (As := As) (rest := rest) ⟨hX.1, hX.2.1, hX.2.2.1, hX.2.2.2.1, hX.2.2.2.2.1⟩ hM ⟨cb_call hX mi hw hrm, hno, hX.2.2.2.2.1 _ hin⟩ ⟨CTN.blind G I _, fun U hU hW => ⟨rfl, hX.preN hAO h2 h3 U hU hW⟩⟩ rfl hn h1.1 hst (lv_room hcat) hdg hf) h3 h1 kk
theorem N_callN (hX : FX G own cc nL p s m args c) (hAO : AO s) {I : Heap → Prop} {y : MethodName} {cd : ByteArray} {mL n9 index mc ms b : Nat} {rm : Room} {P : Option Value → Heap → Prop} (As rest : List Value) (hM : CTN G l y cd mL none rm mc ms (.ref b :: As) I P) (mi : MI y cd mL none n9) (hin : Cond.instanceMethod y ∈ WALL) (hno : y.name = "<init>") (hw : (own, index, y, RX12) ∈ nestL) (hrm : rm.cells = mc ∧ rm.slots = ms ∧ rm.frames + 1 ≤ R.frames ∧ 8 + (mL + 11) + rm.locals ≤ R.locals) (hn : As.length = n9) (hst : st = As.reverse ++ .ref b :: rest) (hcat : (rest.map fun v => v.category).sum ≤ 8) (hf : cells + mc ≤ R.cells ∧ slots + ms ≤ R.slots)
    (hdg : decode cc pc = .ok (.invokespecial index, 3)) (ht : pc + 3 = t) (kk : ∀ v, J G p l e R s m args below meth c nL (cells + mc) (slots + ms) Q (P v) t lc (v.toList ++ rest)) : J G p l e R s m args below meth c nL cells slots Q I pc lc st := by
  subst ht
  intro H locs ls h1 h2 h3
  exact J_runP (va_runIN (As := As) (rest := rest) (host := RX12) ⟨hX.1, hX.2.1, hX.2.2.1, hX.2.2.2.1, hX.2.2.2.2.1⟩ hM ⟨va_cnB n9 hX.2.2.2.2.1 (cb_good mi.1) rfl hrm.1 hrm.2.1 (hX.2.2.2.2.2.2.1.2.2.2.2.2.2.2.2.1.1 _ hw) (hX.2.2.2.2.1 _ mi.2.1) mi.2.2.2 hrm.2.2, hno, hX.2.2.2.2.1 _ hin⟩ ⟨CTN.blind G I _, fun U hU hW => ⟨rfl, hX.preN hAO h2 h3 U hU hW⟩⟩ rfl hn h1.1 hst (lv_room hcat) hdg hf) h3 h1 kk
end NBS
theorem dfX1 : ∀ j, j < 7 → defaultValue (tyX1 j) = vp_V [.null, .long 0, .int 0, .int 0, .int 0, .int 0, .int 0] j := fun j hj => match j, hj with
  | 0, _ => rfl
  | 1, _ => rfl
  | 2, _ => rfl
  | 3, _ => rfl
  | 4, _ => rfl
  | 5, _ => rfl
  | 6, _ => rfl
  | _ + 7, h => absurd h (by omega)
theorem dfX2 : ∀ j, j < 7 → defaultValue (tyX2 j) = vp_V [.long 0, .int 0, .int 0, .int 0, .int 0, .int 0, .int 0] j := fun j hj => match j, hj with
  | 0, _ => rfl
  | 1, _ => rfl
  | 2, _ => rfl
  | 3, _ => rfl
  | 4, _ => rfl
  | 5, _ => rfl
  | 6, _ => rfl
  | _ + 7, h => absurd h (by omega)
theorem dfX3 : ∀ j, j < 1 → defaultValue (tyX3 j) = vp_V [.null] j := fun j hj => match j, hj with
  | 0, _ => rfl
  | _ + 1, h => absurd h (by omega)
theorem dfX5 : ∀ j, j < 3 → defaultValue (tyX5 j) = vp_V [.null, .int 0, .int 0] j := fun j hj => match j, hj with
  | 0, _ => rfl
  | 1, _ => rfl
  | 2, _ => rfl
  | _ + 3, h => absurd h (by omega)
theorem dfX6 : ∀ j, j < 13 → defaultValue (tyX6 j) = vp_V [.null, .null, .null, .int 0, .int 0, .int 0, .int 0, .int 0, .int 0, .int 0, .int 0, .int 0, .int 0] j := fun j hj => match j, hj with
  | 0, _ => rfl
  | 1, _ => rfl
  | 2, _ => rfl
  | 3, _ => rfl
  | 4, _ => rfl
  | 5, _ => rfl
  | 6, _ => rfl
  | 7, _ => rfl
  | 8, _ => rfl
  | 9, _ => rfl
  | 10, _ => rfl
  | 11, _ => rfl
  | 12, _ => rfl
  | _ + 13, h => absurd h (by omega)
theorem dfX7 : ∀ j, j < 7 → defaultValue (tyX7 j) = vp_V [.null, .null, .null, .null, .int 0, .int 0, .int 0] j := fun j hj => match j, hj with
  | 0, _ => rfl
  | 1, _ => rfl
  | 2, _ => rfl
  | 3, _ => rfl
  | 4, _ => rfl
  | 5, _ => rfl
  | 6, _ => rfl
  | _ + 7, h => absurd h (by omega)
theorem dfX8 : ∀ j, j < 11 → defaultValue (tyX8 j) = vp_V [.int 0, .int 0, .int 0, .int 0, .int 0, .int 0, .int 0, .int 0, .int 0, .int 0, .int 0] j := fun j hj => match j, hj with
  | 0, _ => rfl
  | 1, _ => rfl
  | 2, _ => rfl
  | 3, _ => rfl
  | 4, _ => rfl
  | 5, _ => rfl
  | 6, _ => rfl
  | 7, _ => rfl
  | 8, _ => rfl
  | 9, _ => rfl
  | 10, _ => rfl
  | _ + 11, h => absurd h (by omega)
theorem dfX9 : ∀ j, j < 9 → defaultValue (tyX9 j) = vp_V [.null, .null, .null, .null, .int 0, .int 0, .int 0, .int 0, .int 0] j := fun j hj => match j, hj with
  | 0, _ => rfl
  | 1, _ => rfl
  | 2, _ => rfl
  | 3, _ => rfl
  | 4, _ => rfl
  | 5, _ => rfl
  | 6, _ => rfl
  | 7, _ => rfl
  | 8, _ => rfl
  | _ + 9, h => absurd h (by omega)
theorem dfX10 : ∀ j, j < 8 → defaultValue (tyX10 j) = vp_V [.long 0, .int 0, .int 0, .int 0, .int 0, .int 0, .int 0, .int 0] j := fun j hj => match j, hj with
  | 0, _ => rfl
  | 1, _ => rfl
  | 2, _ => rfl
  | 3, _ => rfl
  | 4, _ => rfl
  | 5, _ => rfl
  | 6, _ => rfl
  | 7, _ => rfl
  | _ + 8, h => absurd h (by omega)
theorem dfX12 : ∀ j, j < 9 → defaultValue (tyX12 j) = vp_V [.null, .null, .null, .null, .null, .null, .null, .null, .int 0] j := fun j hj => match j, hj with
  | 0, _ => rfl
  | 1, _ => rfl
  | 2, _ => rfl
  | 3, _ => rfl
  | 4, _ => rfl
  | 5, _ => rfl
  | 6, _ => rfl
  | 7, _ => rfl
  | 8, _ => rfl
  | _ + 9, h => absurd h (by omega)
theorem dfJ4 : ∀ j, j < 4 → defaultValue (tyJ4 j) = vp_V [.null, .int 0, .int 0, .int 0] j := fun j hj => match j, hj with
  | 0, _ => rfl
  | 1, _ => rfl
  | 2, _ => rfl
  | 3, _ => rfl
  | _ + 4, h => absurd h (by omega)
theorem miX10_init : MI yX10_init cX10_init 1 none 0 := ⟨q_233, q_139, by decide +kernel, by decide +kernel, by decide +kernel, by decide +kernel⟩
theorem cnX10_init {G : GG} {l : Launch} {I : Heap → Prop} {a : Nat} : CTN G l yX10_init cX10_init 1 none rb1 0 0 [.ref a] I (fun v H => v = none ∧ I H) := by
  refine CTN.of miX10_init [(0, .ref a)] rfl (Nat.le_of_ble_eq_true rfl) ?_
  intro p e s m args below meth c hX hAO hnm hR hlk
  have hX : FX G RX10 cX10_init 1 p s m args c := hX
  have hnm : meth.name = "<init>" := hnm
  refine J_aload_n hX dX10_init_0 0 rfl (t := 1) rfl ?_
  refine N_obj hX q_234 ⟨Nat.le_of_ble_eq_true rfl, Nat.le_of_ble_eq_true rfl⟩ dX10_init_1 (t := 4) rfl ?_
  exact J_vretP hX hR hlk (fun H h => ⟨rfl, h⟩) dX10_init_4
theorem miX2_init : MI yX2_init cX2_init 1 none 0 := ⟨q_278, q_140, by decide +kernel, by decide +kernel, by decide +kernel, by decide +kernel⟩
theorem cnX2_init {G : GG} {l : Launch} {I : Heap → Prop} {a : Nat} : CTN G l yX2_init cX2_init 1 none rb1 0 0 [.ref a] I (fun v H => v = none ∧ I H) := by
  refine CTN.of miX2_init [(0, .ref a)] rfl (Nat.le_of_ble_eq_true rfl) ?_
  intro p e s m args below meth c hX hAO hnm hR hlk
  have hX : FX G RX2 cX2_init 1 p s m args c := hX
  have hnm : meth.name = "<init>" := hnm
  refine J_aload_n hX dX2_init_0 0 rfl (t := 1) rfl ?_
  refine N_obj hX q_279 ⟨Nat.le_of_ble_eq_true rfl, Nat.le_of_ble_eq_true rfl⟩ dX2_init_1 (t := 4) rfl ?_
  exact J_vretP hX hR hlk (fun H h => ⟨rfl, h⟩) dX2_init_4
theorem miX8_init : MI yX8_init cX8_init 1 none 0 := ⟨q_318, q_141, by decide +kernel, by decide +kernel, by decide +kernel, by decide +kernel⟩
theorem cnX8_init {G : GG} {l : Launch} {I : Heap → Prop} {a : Nat} : CTN G l yX8_init cX8_init 1 none rb1 0 0 [.ref a] I (fun v H => v = none ∧ I H) := by
  refine CTN.of miX8_init [(0, .ref a)] rfl (Nat.le_of_ble_eq_true rfl) ?_
  intro p e s m args below meth c hX hAO hnm hR hlk
  have hX : FX G RX8 cX8_init 1 p s m args c := hX
  have hnm : meth.name = "<init>" := hnm
  refine J_aload_n hX dX8_init_0 0 rfl (t := 1) rfl ?_
  refine N_obj hX q_319 ⟨Nat.le_of_ble_eq_true rfl, Nat.le_of_ble_eq_true rfl⟩ dX8_init_1 (t := 4) rfl ?_
  exact J_vretP hX hR hlk (fun H h => ⟨rfl, h⟩) dX8_init_4
theorem miX1_init : MI yX1_init cX1_init 1 none 0 := ⟨q_437, q_143, by decide +kernel, by decide +kernel, by decide +kernel, by decide +kernel⟩
abbrev chg0 (G : GG) : va_E := .inr (0, [.ref (ga G 0), .long 0, .int 0, .int 0, .int 0, .int 0, .int 0])
theorem cnX1_init {G : GG} {l : Launch} {k a : Nat} {f : Nat → va_E} (ha : a < k) (hf : f a = .inr (0, [.null, .long 0, .int 0, .int 0, .int 0, .int 0, .int 0])) : CTN G l yX1_init cX1_init 1 none rb1 0 0 [.ref (gn G + a)] (NB G k f) (fun v H => v = none ∧ NB G k (nf f a (chg0 G)) H) := by
  refine CTN.of miX1_init [(0, .ref (gn G + a))] rfl (Nat.le_of_ble_eq_true rfl) ?_
  intro p e s m args below meth c hX hAO hnm hR hlk
  have hX : FX G RX1 cX1_init 1 p s m args c := hX
  have hnm : meth.name = "<init>" := hnm
  refine J_aload_n hX dX1_init_0 0 rfl (t := 1) rfl ?_
  refine N_obj hX q_438 ⟨Nat.le_of_ble_eq_true rfl, Nat.le_of_ble_eq_true rfl⟩ dX1_init_1 (t := 4) rfl ?_
  refine J_aload_n hX dX1_init_4 0 rfl (t := 5) rfl ?_
  refine J_gsV hX 0 (by decide) q_439 dX1_init_5 (t := 8) rfl ?_
  refine N_put hX cb0 (o := a) ha (fs := [.null, .long 0, .int 0, .int 0, .int 0, .int 0, .int 0]) (fs2 := [.ref (ga G 0), .long 0, .int 0, .int 0, .int 0, .int 0, .int 0]) hf 0 (by decide) q_441 rfl (ty := .object "EchoMarket$Verb") rfl rfl rfl (Nat.le_of_ble_eq_true rfl) rfl dX1_init_8 (t := 11) rfl ?_
  exact J_vretP hX hR hlk (fun H h => ⟨rfl, h⟩) dX1_init_11

