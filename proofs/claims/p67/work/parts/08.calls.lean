/-! ROWS OF NUMBERS, CALLS, ENDS over the world -/
def inb (i : Int32) (n : Nat) : Bool := decide (¬ i < 0) && decide (i.toNatClampNeg < n)
theorem inb_in {i : Int32} {n : Nat} (h : inb i n = true) : vp_in i n := by
  unfold inb at h
  simp only [Bool.and_eq_true, decide_eq_true_eq] at h
  intro z
  rcases z with z | z
  · exact h.1 z
  · omega
theorem inb_lt {i : Int32} {n : Nat} (h : inb i n = true) : i.toNatClampNeg < n := by
  unfold inb at h
  simp only [Bool.and_eq_true, decide_eq_true_eq] at h
  exact h.2
def bI (b : Bool) : Int32 := if b = true then 1 else 0
theorem bI_0 {b : Bool} (h : bI b = 0) : b = false := by cases b <;> first | rfl | exact absurd h (by decide)
theorem bI_1 {b : Bool} (h : ¬ bI b = 0) : b = true := by cases b <;> first | rfl | exact absurd rfl h
theorem bI_nar (b : Bool) : narrow .boolean (.int (bI b)) = .int (bI b) := by cases b <;> rfl
-- the pure texts' words
def bnd {α β : Type} (x : α) (f : α → β) : β := f x
def bnd2 {α β γ : Type} (x : α × β) (f : α → β → γ) : γ := f x.1 x.2
def bo1 {α β : Type} (x : Option α) (f : α → Option β) : Option β := match x with | none => none | some a => f a
def bo2 {α β γ : Type} (x : Option (α × β)) (f : α → β → Option γ) : Option γ := match x with | none => none | some a => f a.1 a.2
def gd {α : Type} (c : Bool) (a : Option α) : Option α := if c = true then a else none
theorem bnd_e {α β : Type} {x : α} {f : α → β} {r : β} (h : bnd x f = r) : ∃ y, x = y ∧ f y = r := ⟨x, rfl, h⟩
theorem bnd2_e {α β γ : Type} {x : α × β} {f : α → β → γ} {r : γ} (h : bnd2 x f = r) : ∃ y z, x = (y, z) ∧ f y z = r := ⟨x.1, x.2, rfl, h⟩
theorem bo1_e {α β : Type} {x : Option α} {f : α → Option β} {r : β} (h : bo1 x f = some r) : ∃ y, x = some y ∧ f y = some r := by
  cases x with
  | none => cases h
  | some a => exact ⟨a, rfl, h⟩
theorem bo2_e {α β γ : Type} {x : Option (α × β)} {f : α → β → Option γ} {r : γ} (h : bo2 x f = some r) : ∃ y z, x = some (y, z) ∧ f y z = some r := by
  cases x with
  | none => cases h
  | some a => exact ⟨a.1, a.2, rfl, h⟩
theorem gd_e {α : Type} {c : Bool} {a : Option α} {r : α} (h : gd c a = some r) : c = true ∧ a = some r := by
  cases c with
  | false => cases h
  | true => exact ⟨rfl, h⟩
theorem it_t {α : Sort _} {c : Prop} {i : Decidable c} {a b r : α} (h : (if c then a else b) = r) (z : c) : a = r := by rw [if_pos z] at h; exact h
theorem it_f {α : Sort _} {c : Prop} {i : Decidable c} {a b r : α} (h : (if c then a else b) = r) (z : ¬ c) : b = r := by rw [if_neg z] at h; exact h
theorem ib_f {α : Sort _} {c : Bool} {a b r : α} (h : (if c = true then a else b) = r) (z : c = false) : b = r := by rw [z] at h; exact h
/-- what a method is, in the tables' words -/
def MI (y : MethodName) (cc : ByteArray) (mL : Nat) (ret : Option FieldType) (n : Nat) : Prop := Cond.code y cc mL ret ∈ WALL ∧ Cond.initialized y.cls ∈ WALL ∧ plainName y.cls = true ∧ (y.cls ≠ "java/lang/invoke/MethodHandle" ∧ y.cls ≠ "java/lang/invoke/VarHandle" ∧ (parseMethodDescriptor y.desc).map (fun d => d.parameters.length) = some n)
def MV (y : MethodName) : Prop := Cond.instanceMethod y ∈ WALL ∧ Cond.selects y.cls y y ∈ WALL
def wsY (y : MethodName) (cc : ByteArray) (mL : Nat) (ret : Option FieldType) : List Cond := Cond.code y cc mL ret :: WALL
def QV (G : GG) (v : Option Value) (w : Wd) : Array Value → State → Outcome → State → Prop := fun _ st oc t => oc = .returned v ∧ GH G w t.heap ∧ va_F (gA G) st t
/-- a contract: from world w the method comes back with v, in world w2 -/
def CT (G : GG) (l : Launch) (y : MethodName) (cc : ByteArray) (mL : Nat) (ret : Option FieldType) (rm : Room) (mc ms : Nat) (av : List Value) (w : Wd) (v : Option Value) (w2 : Wd) : Prop := Met l y (wsY y cc mL ret) rm (va_Pc av (GW G w)) (QV G v w2) mc ms (gA G)
section MEM2
variable {G : GG} {own : String} {cc : ByteArray} {p : Program} {l : Launch} {e : Env} {R : Room} {s : State} {m : MethodId} {args : Array Value} {below : List Frame} {meth : Method} {c : Code} {nL cells slots : Nat} {Q : State → Prop} {pc t : Nat} {lc : List (Nat × Value)} {st : List Value} {w : Wd} {r j : Nat}
theorem J_iald (hX : FX G own cc nL p s m args c) {n : Nat} (hk : KA G r j (fun a _ => aI G n a)) {i : Int32} (hin : inb i n = true) {v : Int32} (hv : (w r).1 j i.toNatClampNeg = v) (hdg : decode cc pc = .ok (.iaload, 1)) (ht : pc + 1 = t)
    (kk : J G p l e R s m args below meth c nL cells slots Q (GH G w) t lc (.int v :: st)) : J G p l e R s m args below meth c nL cells slots Q (GH G w) pc lc (.int i :: .ref (adr G r j) :: st) := by
  subst ht; subst hv
  intro H locs ls h1 h2 h3
  have hat := h2.1 r j hk.1
  rw [hk.2] at hat
  exact va_iald (D := gD G) (cl := jcl) (tys := jtys G) hX.1 hX.2.1 hX.2.2.2.2.2.1 (one_P hat) 0 0 rfl rfl (inb_in hin) hdg (kk H locs ls h1 h2 h3)
theorem J_bald (hX : FX G own cc nL p s m args c) {n : Nat} (hk : KA G r j (fun a _ => aB G n a)) {i : Int32} (hin : inb i n = true) {v : Int32} (hv : (w r).1 j i.toNatClampNeg = v) (hdg : decode cc pc = .ok (.baload, 1)) (ht : pc + 1 = t)
    (kk : J G p l e R s m args below meth c nL cells slots Q (GH G w) t lc (.int v :: st)) : J G p l e R s m args below meth c nL cells slots Q (GH G w) pc lc (.int i :: .ref (adr G r j) :: st) := by
  subst ht; subst hv
  intro H locs ls h1 h2 h3
  have hat := h2.1 r j hk.1
  rw [hk.2] at hat
  exact va_bald (D := gD G) (cl := jcl) (tys := jtys G) hX.1 hX.2.1 hX.2.2.2.2.2.1 (one_P hat) 0 1 rfl rfl (inb_in hin) hdg (kk H locs ls h1 h2 h3)
theorem J_lald (hX : FX G own cc nL p s m args c) {n : Nat} (hk : KA G r j (fun _ b => aJ G n b)) {i : Int32} (hin : inb i n = true) {v : Int64} (hv : (w r).2 j i.toNatClampNeg = v) (hdg : decode cc pc = .ok (.laload, 1)) (ht : pc + 1 = t)
    (kk : J G p l e R s m args below meth c nL cells slots Q (GH G w) t lc (.long v :: st)) : J G p l e R s m args below meth c nL cells slots Q (GH G w) pc lc (.int i :: .ref (adr G r j) :: st) := by
  subst ht; subst hv
  intro H locs ls h1 h2 h3
  have hat := h2.1 r j hk.1
  rw [hk.2] at hat
  exact va_lald (D := gD G) (cl := jcl) (tys := jtys G) hX.1 hX.2.1 hX.2.2.2.2.2.1 (one_P hat) 0 2 rfl rfl (inb_in hin) hdg (kk H locs ls h1 h2 h3)
theorem J_aald (hX : FX G own cc nL p s m args c) {n k : Nat} {f : Nat → Nat} {C : String} (hk : KA G r j (fun _ _ => aR G k n f)) (hC : (jtys G)[k]? = some (gc G k, .object C)) {i : Int32} (hin : inb i n = true) (hdg : decode cc pc = .ok (.aaload, 1)) (ht : pc + 1 = t)
    (kk : J G p l e R s m args below meth c nL cells slots Q (GH G w) t lc (.ref (f i.toNatClampNeg) :: st)) : J G p l e R s m args below meth c nL cells slots Q (GH G w) pc lc (.int i :: .ref (adr G r j) :: st) := by
  subst ht
  intro H locs ls h1 h2 h3
  have hat := h2.1 r j hk.1
  rw [hk.2] at hat
  exact va_aldq (D := gD G) (cl := jcl) (tys := jtys G) (C := C) hX.1 hX.2.1 hX.2.2.2.2.2.1 (one_P hat) 0 k rfl hC (inb_in hin) hdg (kk H locs ls h1 h2 h3)
theorem J_iast (hX : FX G own cc nL p s m args c) {n : Nat} (hk : KA G r j (fun a _ => aI G n a)) {i x : Int32} (hin : inb i n = true) {k9 : Nat} (hik : i.toNatClampNeg = k9) {w2 : Wd} (he : sW w r (sI (w r) j k9 x) = w2) (hdg : decode cc pc = .ok (.iastore, 1)) (ht : pc + 1 = t)
    (kk : J G p l e R s m args below meth c nL cells slots Q (GH G w2) t lc st) : J G p l e R s m args below meth c nL cells slots Q (GH G w) pc lc (.int x :: .int i :: .ref (adr G r j) :: st) := by
  subst ht; subst he; subst hik
  intro H locs ls h1 h2 h3
  have hat := h2.1 r j hk.1
  rw [hk.2] at hat
  refine W.iast hX.1 hX.2.1 hat ((hX.2.2.2.2.2.1.2 0 _ rfl).1 n (fun j9 => .int ((w r).1 j j9))) (fun q => by cases q) (by show ¬ (i < 0 ∨ (arrV _ _ _).slots.size ≤ _); rw [arrV_size]; exact inb_in hin) rfl rfl hdg fun H1 e z oq => ?_
  refine kk H1 _ ls h1 (h2.put hk.1 _ ?_ (fun x9 h9 => ⟨sI_o _ _ _ h9, rfl⟩) oq) (h3.put z oq (h2.2 r j hk.1))
  rw [hk.2]
  show H1[adr G r j]? = some (vp_cell _ _)
  rw [e, sI_s, vp_cell_i, vp_cell_i, arrV_store]
  congr 2
  funext q
  by_cases hq : q = i.toNatClampNeg
  · subst hq
    simp [updV, upd]
  · simp [updV, upd, hq]
theorem J_bast (hX : FX G own cc nL p s m args c) {n : Nat} (hk : KA G r j (fun a _ => aB G n a)) {i x : Int32} (hin : inb i n = true) {k9 : Nat} (hik : i.toNatClampNeg = k9) {w2 : Wd} (he : sW w r (sI (w r) j k9 x.toInt8.toInt32) = w2) (hdg : decode cc pc = .ok (.bastore, 1)) (ht : pc + 1 = t)
    (kk : J G p l e R s m args below meth c nL cells slots Q (GH G w2) t lc st) : J G p l e R s m args below meth c nL cells slots Q (GH G w) pc lc (.int x :: .int i :: .ref (adr G r j) :: st) := by
  subst ht; subst he; subst hik
  intro H locs ls h1 h2 h3
  have hat := h2.1 r j hk.1
  rw [hk.2] at hat
  refine W.bast hX.1 hX.2.1 hat ((hX.2.2.2.2.2.1.2 1 _ rfl).1 n (fun j9 => .int ((w r).1 j j9))) (fun q => by cases q) (by show ¬ (i < 0 ∨ (arrV _ _ _).slots.size ≤ _); rw [arrV_size]; exact inb_in hin) rfl rfl hdg fun H1 e z oq => ?_
  refine kk H1 _ ls h1 (h2.put hk.1 _ ?_ (fun x9 h9 => ⟨sI_o _ _ _ h9, rfl⟩) oq) (h3.put z oq (h2.2 r j hk.1))
  rw [hk.2]
  show H1[adr G r j]? = some (vp_cell _ _)
  rw [e, sI_s, vp_cell_i, vp_cell_i, arrV_store]
  congr 2
  funext q
  by_cases hq : q = i.toNatClampNeg
  · subst hq
    simp [updV, upd, narrow]
  · simp [updV, upd, hq]
theorem J_last (hX : FX G own cc nL p s m args c) {n : Nat} (hk : KA G r j (fun _ b => aJ G n b)) {i : Int32} {x : Int64} (hin : inb i n = true) {k9 : Nat} (hik : i.toNatClampNeg = k9) {w2 : Wd} (he : sW w r (sL (w r) j k9 x) = w2) (hdg : decode cc pc = .ok (.lastore, 1)) (ht : pc + 1 = t)
    (kk : J G p l e R s m args below meth c nL cells slots Q (GH G w2) t lc st) : J G p l e R s m args below meth c nL cells slots Q (GH G w) pc lc (.long x :: .int i :: .ref (adr G r j) :: st) := by
  subst ht; subst he; subst hik
  intro H locs ls h1 h2 h3
  have hat := h2.1 r j hk.1
  rw [hk.2] at hat
  refine W.last hX.1 hX.2.1 hat ((hX.2.2.2.2.2.1.2 2 _ rfl).1 n (fun j9 => .long ((w r).2 j j9))) (fun q => by cases q) (by show ¬ (i < 0 ∨ (arrV _ _ _).slots.size ≤ _); rw [arrV_size]; exact inb_in hin) rfl rfl hdg fun H1 e z oq => ?_
  refine kk H1 _ ls h1 (h2.put hk.1 _ ?_ (fun x9 h9 => ⟨rfl, sL_o _ _ _ h9⟩) oq) (h3.put z oq (h2.2 r j hk.1))
  rw [hk.2]
  show H1[adr G r j]? = some (vp_cell _ _)
  rw [e, sL_s, vp_cell_l, vp_cell_l, arrV_store]
  congr 2
  funext q
  by_cases hq : q = i.toNatClampNeg
  · subst hq
    simp [updV, vp_updL]
  · simp [updV, vp_updL, hq]
/-- the frame and the world behind a call -/
theorem J_run {H : Heap} {locs : List Loc} {ls : Array Slot} {st0 rest : List Value} {mc ms : Nat} {a : Array Value} {v : Option Value} {w2 : Wd} (hr : va_Run p l e R s m args below meth c H locs cells slots mc ms (F0 m pc ls st0) rest (QV G v w2 a) (gA G)) (hS : va_S (gA G) s.heap H locs) (hl : lv_has ls nL lc)
    (kk : J G p l e R s m args below meth c nL (cells + mc) (slots + ms) Q (GH G w2) (pc + 3) lc (v.toList ++ rest)) : W p l e R s m args below meth c H locs cells slots Q (F0 m pc ls st0) := by
  intro T hT X
  obtain ⟨v9, st₀, t9, T', L, h0, X', hL, e1, e2, ⟨hv, hG, hz, hq⟩, st9⟩ := hr T hT X
  cases hv
  rw [h0] at hz hq
  have hS2 : va_S (gA G) s.heap T'.heap (locs ++ L) := ⟨Nat.le_trans hS.1 (by rw [e1]; exact hz), fun q h1 h2 => by rw [e1, hq q (Nat.lt_of_lt_of_le h1 hS.1) h2]; exact hS.2.1 q h1 h2, fun q h9 => by
      rcases List.mem_append.mp h9 with h | h
      · exact hS.2.2 q h
      · exact hL q h⟩
  obtain ⟨t2, a1, b1⟩ := kk T'.heap (locs ++ L) ls hl (by rw [e1]; exact hG) hS2 T' rfl X'
  exact ⟨t2, st9 t2 a1, b1⟩
theorem FX.pre (hX : FX G own cc nL p s m args c) {H : Heap} {locs : List Loc} (h2 : GH G w H) (h3 : va_S (gA G) s.heap H locs) (U : State) (hU : U.heap = H) (hW : s.WarmedH U.vm) : GW G w U := by
  have h9 := hX.s3 h3
  obtain ⟨-, -, -, -, -, hK, hL, hn, hV⟩ := hX
  refine ⟨by rw [hU]; exact h2, va_K.moved hW.alike hK, GL.warm hW ?_, by rw [hU]; exact Nat.le_trans hn h3.1, hV⟩
  rw [hU]
  exact hL.kept (fun a ha hA => h9.2.1 a ha hA)
theorem cb_good {y : MethodName} {cd : ByteArray} {mL : Nat} {ret : Option FieldType} (h : Cond.code y cd mL ret ∈ WALL) : GoodIn WALL (wsY y cd mL ret) := fun w hw => by
  rcases List.mem_cons.mp hw with e | e
  · rw [e]; exact WALL_good _ h
  · exact WALL_good _ e
theorem cb_call (hX : FX G own cc nL p s m args c) {y : MethodName} {cd : ByteArray} {mL n index mc ms : Nat} {ret : Option FieldType} {rm : Room} (mi : MI y cd mL ret n) (hw : Cond.methodLink own index y ∈ WALL) (hrm : rm.cells = mc ∧ rm.slots = ms ∧ rm.frames + 1 ≤ R.frames ∧ 8 + (mL + 11) + rm.locals ≤ R.locals) : CallB R s args own index y cd mL ret (wsY y cd mL ret) rm mc ms n :=
  callB_of n hX.2.2.2.2.1 (cb_good mi.1) rfl hrm.1 hrm.2.1 (hX.2.2.2.2.1 _ mi.2.1) (hX.2.2.2.2.1 _ hw) mi.2.2.2 hrm.2.2
/-- a virtual call of an object of the world -/
theorem J_callV (hX : FX G own cc nL p s m args c) {y : MethodName} {cd : ByteArray} {mL n index mc ms ci : Nat} {ret : Option FieldType} {rm : Room} {T : u_T} {N : Nat} {ty : Nat → FieldType} {F : (Nat → Int32) → (Nat → Int64) → List Value} {v : Option Value} {w2 : Wd} (As rest st2 : List Value) (hM : CT G l y cd mL ret rm mc ms (.ref (adr G r j) :: As) w v w2) (mi : MI y cd mL ret n) (mv : MV y) (cb : CB ci y.cls T N ty) (hk : KD G r j ci F) (hw : Cond.methodLink own index y ∈ WALL) (hrm : rm.cells = mc ∧ rm.slots = ms ∧ rm.frames + 1 ≤ R.frames ∧ 8 + (mL + 11) + rm.locals ≤ R.locals) (hn : As.length = n) (hst : st = As.reverse ++ .ref (adr G r j) :: rest) (hcat : (rest.map fun v => v.category).sum ≤ 8) (hf : cells + mc ≤ R.cells ∧ slots + ms ≤ R.slots)
    (hdg : decode cc pc = .ok (.invokevirtual index, 3)) (ht : pc + 3 = t) (hst2 : v.toList ++ rest = st2) (kk : J G p l e R s m args below meth c nL (cells + mc) (slots + ms) Q (GH G w2) t lc st2) : J G p l e R s m args below meth c nL cells slots Q (GH G w) pc lc st := by
  subst ht; subst hst2
  intro H locs ls h1 h2 h3
  have hat := h2.1 r j hk.1
  rw [hk.2] at hat
  refine J_run (va_runV (C := y.cls) (As := As) (rest := rest) ⟨hX.1, hX.2.1, hX.2.2.1, hX.2.2.2.1, hX.2.2.2.2.1⟩ hM ⟨cb_call hX mi hw hrm, hX.2.2.2.2.1 _ mv.1, hX.2.2.2.2.1 _ mv.2⟩ ⟨GW.blind G w _, va_recv hX.2.2.2.2.2.1 (one_P hat) (ci := ci) (q0 := 0) cb.1 rfl, fun U hU hW => ⟨rfl, hX.pre h2 h3 U hU hW⟩⟩ rfl hn h1.1 hst (lv_room hcat) hdg hf) h3 h1 kk
/-- a static call -/
theorem J_callS (hX : FX G own cc nL p s m args c) {y : MethodName} {cd : ByteArray} {mL n index mc ms : Nat} {ret : Option FieldType} {rm : Room} {v : Option Value} {w2 : Wd} (As rest st2 : List Value) (hM : CT G l y cd mL ret rm mc ms As w v w2) (mi : MI y cd mL ret n) (mv : Cond.static y ∈ WALL) (hw : Cond.methodLink own index y ∈ WALL) (hrm : rm.cells = mc ∧ rm.slots = ms ∧ rm.frames + 1 ≤ R.frames ∧ 8 + (mL + 11) + rm.locals ≤ R.locals) (hn : As.length = n) (hst : st = As.reverse ++ rest) (hcat : (rest.map fun v => v.category).sum ≤ 8) (hf : cells + mc ≤ R.cells ∧ slots + ms ≤ R.slots)
    (hdg : decode cc pc = .ok (.invokestatic index, 3)) (ht : pc + 3 = t) (hst2 : v.toList ++ rest = st2) (kk : J G p l e R s m args below meth c nL (cells + mc) (slots + ms) Q (GH G w2) t lc st2) : J G p l e R s m args below meth c nL cells slots Q (GH G w) pc lc st := by
  subst ht; subst hst2
  intro H locs ls h1 h2 h3
  refine J_run (va_runS (As := As) (rest := rest) ⟨hX.1, hX.2.1, hX.2.2.1, hX.2.2.2.1, hX.2.2.2.2.1⟩ hM ⟨cb_call hX mi hw hrm, hX.2.2.2.2.1 _ mv⟩ ⟨GW.blind G w _, fun U hU hW => ⟨rfl, hX.pre h2 h3 U hU hW⟩⟩ rfl hn h1.1 hst (lv_room hcat) hdg hf) h3 h1 kk
/-- a static call of a nest mate's private method -/
theorem J_callSN (hX : FX G own cc nL p s m args c) {y : MethodName} {cd : ByteArray} {mL n index mc ms : Nat} {ret : Option FieldType} {rm : Room} {v : Option Value} {w2 : Wd} (As rest st2 : List Value) (hM : CT G l y cd mL ret rm mc ms As w v w2) (mi : MI y cd mL ret n) (mv : Cond.static y ∈ WALL) (hw : (own, index, y, RX12) ∈ nestL) (hrm : rm.cells = mc ∧ rm.slots = ms ∧ rm.frames + 1 ≤ R.frames ∧ 8 + (mL + 11) + rm.locals ≤ R.locals) (hn : As.length = n) (hst : st = As.reverse ++ rest) (hcat : (rest.map fun v => v.category).sum ≤ 8) (hf : cells + mc ≤ R.cells ∧ slots + ms ≤ R.slots)
    (hdg : decode cc pc = .ok (.invokestatic index, 3)) (ht : pc + 3 = t) (hst2 : v.toList ++ rest = st2) (kk : J G p l e R s m args below meth c nL (cells + mc) (slots + ms) Q (GH G w2) t lc st2) : J G p l e R s m args below meth c nL cells slots Q (GH G w) pc lc st := by
  subst ht; subst hst2
  intro H locs ls h1 h2 h3
  exact J_run (va_runSN (As := As) (rest := rest) (host := RX12) ⟨hX.1, hX.2.1, hX.2.2.1, hX.2.2.2.1, hX.2.2.2.2.1⟩ hM ⟨va_cnB n hX.2.2.2.2.1 (cb_good mi.1) rfl hrm.1 hrm.2.1 (hX.2.2.2.2.2.2.1.2.2.2.2.2.2.2.2.1.1 _ hw) (hX.2.2.2.2.1 _ mi.2.1) mi.2.2.2 hrm.2.2, hX.2.2.2.2.1 _ mv, trivial⟩ ⟨GW.blind G w _, fun U hU hW => ⟨rfl, hX.pre h2 h3 U hU hW⟩⟩ rfl hn h1.1 hst (lv_room hcat) hdg hf) h3 h1 kk
-- ends
theorem J_iret (hX : FX G own cc nL p s m args c) {x : Int32} (hr : meth.sig.returnType = some .int) (hlocks : meth.locks = false) (hdg : decode cc pc = .ok (.ireturn, 1)) : J G p l e R s m args below meth c nL cells slots (MQ below (QV G (some (.int x)) w) args s cells slots (gA G)) (GH G w) pc lc [.int x] := fun H locs ls h1 h2 h3 =>
  W.iret hX.1 hX.2.1 hr (fun t ht _ => ⟨rfl, by rw [ht]; exact h2, h3.F ht⟩) h3.2.2 hdg hlocks
theorem J_zret (hX : FX G own cc nL p s m args c) {b : Bool} (hr : meth.sig.returnType = some .boolean) (hlocks : meth.locks = false) (hdg : decode cc pc = .ok (.ireturn, 1)) : J G p l e R s m args below meth c nL cells slots (MQ below (QV G (some (.int (bI b))) w) args s cells slots (gA G)) (GH G w) pc lc [.int (bI b)] := fun H locs ls h1 h2 h3 =>
  W.zret hX.1 hX.2.1 hr (bI_nar b) (fun t ht _ => ⟨rfl, by rw [ht]; exact h2, h3.F ht⟩) h3.2.2 hdg hlocks
theorem J_lret (hX : FX G own cc nL p s m args c) {x : Int64} (hr : meth.sig.returnType = some .long) (hlocks : meth.locks = false) (hdg : decode cc pc = .ok (.lreturn, 1)) : J G p l e R s m args below meth c nL cells slots (MQ below (QV G (some (.long x)) w) args s cells slots (gA G)) (GH G w) pc lc [.long x] := fun H locs ls h1 h2 h3 =>
  W.lret hX.1 hX.2.1 hr (fun t ht _ => ⟨rfl, by rw [ht]; exact h2, h3.F ht⟩) h3.2.2 hdg hlocks
theorem J_vret (hX : FX G own cc nL p s m args c) (hr : meth.sig.returnType = none) (hlocks : meth.locks = false) (hdg : decode cc pc = .ok (.return_, 1)) : J G p l e R s m args below meth c nL cells slots (MQ below (QV G none w) args s cells slots (gA G)) (GH G w) pc lc [] := fun H locs ls h1 h2 h3 =>
  W.vret hX.1 hX.2.1 hr (fun t ht _ => ⟨rfl, by rw [ht]; exact h2, h3.F ht⟩) h3.2.2 hdg hlocks
theorem J_aret (hX : FX G own cc nL p s m args c) {a : Nat} {C : String} (hr : meth.sig.returnType = some (.object C)) (hlocks : meth.locks = false) (hdg : decode cc pc = .ok (.areturn, 1)) : J G p l e R s m args below meth c nL cells slots (MQ below (QV G (some (.ref a)) w) args s cells slots (gA G)) (GH G w) pc lc [.ref a] := fun H locs ls h1 h2 h3 =>
  W.aret hX.1 hX.2.1 hr (Or.inl ⟨C, rfl⟩) (Or.inr ⟨a, rfl⟩) (fun t ht _ => ⟨rfl, by rw [ht]; exact h2, h3.F ht⟩) h3.2.2 hdg hlocks
end MEM2
/-- a contract out of its body -/
theorem CT.of {G : GG} {l : Launch} {y : MethodName} {cc : ByteArray} {mL n : Nat} {ret : Option FieldType} {rm : Room} {mc ms : Nat} {av : List Value} {w w2 : Wd} {v : Option Value} (mi : MI y cc mL ret n) (lc : List (Nat × Value)) (hlc : lv_args 0 av = lc) (hlen : (lg_sl av).length ≤ mL)
    (body : ∀ (p : Program) (e : Env) (s : State) (m : MethodId) (args : Array Value) (below : List Frame) (meth : Method) (c : Code), FX G y.cls cc mL p s m args c → meth.sig.returnType = ret → meth.locks = false → J G p l e rm s m args below meth c mL 0 0 (MQ below (QV G v w2) args s mc ms (gA G)) (GH G w) 0 lc []) : CT G l y cc mL ret rm mc ms av w v w2 := by
  refine Met.ofW (cc := cc) (maxL := mL) (ret := ret) mi.2.2.1 rfl ?_
  intro p e s m args below meth c s₁ B hml hv
  obtain ⟨rfl, hg, hK, hL, hn⟩ := hv
  have hts := atoms_spec (ws := wsY y cc mL ret) B.pre
  have hX : FX G y.cls cc mL p s m av.toArray c := ⟨B.exec, B.bytes, hml, findClass_of_methodNamed B.named, fun w hw => hts w (List.mem_cons_of_mem _ hw), hK, hL, hn⟩
  have hl := lv_entry av hlen
  rw [hlc] at hl
  rw [lg_entry_eq]
  exact body p e s m av.toArray below meth c hX B.returns B.notSynchronized s.heap [] _ hl hg va_S.rf
