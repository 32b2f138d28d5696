/-! THE LAW's WORLD: its object and rows at fixed places behind the law's start; rows over it, beside a rest R that its changes leave alone -/
def adW (G : GG) (j : Nat) : Nat := g0 G + j
abbrev fWorld (G : GG) (a : Nat → Int32) : List Value := [.int (a 0), .int (a 1), .int (a 2), .int (a 3), .int (a 4), .int (a 5), .int (a 6), .int (a 7), .ref (adW G 1), .ref (adW G 10), .ref (adW G 19), .ref (adW G 50)]
def cellW (G : GG) (j : Nat) (a : Nat → Int32) : va_E :=
  if j = 0 then .inr (10, fWorld G a) else if j = 1 then aR G 8 8 (fun i => adW G (2 + i)) else if j < 10 then aI G 6 a else if j = 10 then aR G 8 8 (fun i => adW G (11 + i))
  else if j < 19 then aI G 4 a else if j = 19 then aR G 8 30 (fun i => adW G (20 + i)) else aI G 9 a
def VH (G : GG) (V : MM) (H : Heap) : Prop := (∀ j, j < 50 → va_at (gD G) jcl (adW G j, cellW G j (V.1 j)) H) ∧ ∀ j, j < 50 → gA G (adW G j)
def KwA (G : GG) : Nat → Prop := fun q => g0 G ≤ q ∧ q < g0 G + 50
/-- what the world's changes and new cells leave alone -/
def RSw (G : GG) (R : Heap → Prop) : Prop := ∀ H H1 : Heap, R H → H.size ≤ H1.size → (∀ q : Nat, q < H.size → ¬ KwA G q → H1[q]? = H[q]?) → R H1
def Tr : Heap → Prop := fun _ => True
theorem hTr {G : GG} : RSw G Tr := fun _ _ _ _ _ => trivial
abbrev WH (G : GG) (R : Heap → Prop) (V : MM) : Heap → Prop := fun H => VH G V H ∧ R H
theorem adW_K {G : GG} {j : Nat} (h : j < 50) : KwA G (adW G j) := ⟨Nat.le_add_right _ _, Nat.add_lt_add_left h _⟩
theorem VH.put {G : GG} {V V2 : MM} {H H1 : Heap} {j : Nat} (h : VH G V H) (hj : j < 50) (hat : va_at (gD G) jcl (adW G j, cellW G j (V2.1 j)) H1) (ho : ∀ i, i ≠ j → V2.1 i = V.1 i) (hq : ∀ q : Nat, q ≠ adW G j → H1[q]? = H[q]?) : VH G V2 H1 := ⟨fun i hi => by
  by_cases e : i = j
  · subst e; exact hat
  · rw [ho i e]; exact (h.1 i hi).kept (hq _ (fun z => e (by unfold adW at z; omega))), h.2⟩
theorem VH.kept {G : GG} {V : MM} {H H1 : Heap} (h : VH G V H) (hq : ∀ q : Nat, KwA G q → q < H.size → H1[q]? = H[q]?) : VH G V H1 := ⟨fun i hi => (h.1 i hi).kept (hq _ (adW_K hi) (h.1 i hi).lt), h.2⟩
theorem WH.grows {G : GG} {R : Heap → Prop} (hR : RSw G R) {V : MM} : grows (WH G R V) := fun H H1 h hz hq => ⟨h.1.kept (fun q _ hl => hq q hl), hR H H1 h.2 hz (fun q hl _ => hq q hl)⟩
/-- a row of ints at cell j -/
def RK (G : GG) (j n : Nat) : Prop := j < 50 ∧ ∀ a, cellW G j a = aI G n a
theorem kWv {G : GG} {j : Nat} (h : 2 ≤ j ∧ j < 10) : RK G j 6 := ⟨by omega, fun a => by unfold cellW; rw [if_neg (by omega), if_neg (by omega), if_pos h.2]⟩
theorem kWc {G : GG} {j : Nat} (h : 11 ≤ j ∧ j < 19) : RK G j 4 := ⟨by omega, fun a => by unfold cellW; rw [if_neg (by omega), if_neg (by omega), if_neg (by omega), if_neg (by omega), if_pos h.2]⟩
theorem kWs {G : GG} {j : Nat} (h : 20 ≤ j ∧ j < 50) : RK G j 9 := ⟨h.2, fun a => by unfold cellW; rw [if_neg (by omega), if_neg (by omega), if_neg (by omega), if_neg (by omega), if_neg (by omega), if_neg (by omega)]⟩
theorem kW0 {G : GG} {V : MM} {R : Heap → Prop} : ∀ H, WH G R V H → va_at (gD G) jcl (adW G 0, .inr (10, fWorld G (V.1 0))) H := fun _ h => h.1.1 0 (by decide)
theorem inbR {i : Int32} {n b : Nat} (h : inb i n = true) : b ≤ b + i.toNatClampNeg ∧ b + i.toNatClampNeg < b + n := ⟨Nat.le_add_right _ _, Nat.add_lt_add_left (inb_lt h) b⟩
section WROWS
variable {G : GG} {own : String} {cc : ByteArray} {p : Program} {l : Launch} {e : Env} {R : Room} {s : State} {m : MethodId} {args : Array Value} {below : List Frame} {meth : Method} {c : Code} {nL cells slots : Nat} {Q : State → Prop} {pc t : Nat} {lc : List (Nat × Value)} {st : List Value} {I I2 : Heap → Prop} {RR : Heap → Prop} {V : MM} {j : Nat}
theorem J_wGet (hX : FX G own cc nL p s m args c) {index : Nat} (k : Nat) (hkN : k < 12) (hw : Cond.fieldLink own index (TX13 k).1 (TX13 k).2.1 (TX13 k).2.2.1 ∈ WALL) {v : Value} (hv : (fWorld G (V.1 0))[k]? = some v) (hdg : decode cc pc = .ok (.getfield index, 3)) (ht : pc + 3 = t) (kk : J G p l e R s m args below meth c nL cells slots Q (WH G RR V) t lc (v :: st)) : J G p l e R s m args below meth c nL cells slots Q (WH G RR V) pc lc (.ref (adW G 0) :: st) :=
  J_getI hX cb10 kW0 k hkN hw hv hdg ht kk
theorem J_wPut (hX : FX G own cc nL p s m args c) (hR : RSw G RR) {index : Nat} (k : Nat) (hkN : k < 8) (hw : Cond.fieldLink own index (TX13 k).1 (TX13 k).2.1 (TX13 k).2.2.1 ∈ WALL) (hfin : (TX13 k).2.2.2 = false) (hty : tyX13 k = .int) {x : Int32} {V2 : MM} (hV : sI V 0 k x = V2) (hF : fWorld G (upd (V.1 0) k x) = (fWorld G (V.1 0)).set k (.int x)) (hdg : decode cc pc = .ok (.putfield index, 3)) (ht : pc + 3 = t) (kk : J G p l e R s m args below meth c nL cells slots Q (WH G RR V2) t lc st) : J G p l e R s m args below meth c nL cells slots Q (WH G RR V) pc lc (.int x :: .ref (adW G 0) :: st) := by
  subst hV
  intro H locs ls h1 h2 h3
  exact J_putI hX cb10 kW0 (h2.1.2 0 (by decide)) k (by omega) hw hfin hty rfl rfl (by show k < 12; omega) (I2 := WH G RR (sI V 0 k x)) (fun H H1 h e1 e2 e3 => ⟨h.1.put (j := 0) (by decide) (by rw [sI_s]; show va_at _ _ (_, .inr (10, fWorld G _)) _; rw [hF]; exact e1) (fun i hi => sI_o _ _ _ hi) e3, hR H H1 h.2 (by omega) (fun q _ hq => e3 q (fun z => hq (by rw [z]; exact adW_K (by decide))))⟩) hdg ht kk H locs ls h1 h2 h3
theorem J_wAld (hX : FX G own cc nL p s m args c) {n : Nat} (hk : RK G j n) {i : Int32} (hin : inb i n = true) {v : Int32} (hv : V.1 j i.toNatClampNeg = v) (hdg : decode cc pc = .ok (.iaload, 1)) (ht : pc + 1 = t) (kk : J G p l e R s m args below meth c nL cells slots Q (WH G RR V) t lc (.int v :: st)) : J G p l e R s m args below meth c nL cells slots Q (WH G RR V) pc lc (.int i :: .ref (adW G j) :: st) :=
  J_ialdI (n := n) (f := V.1 j) hX (fun H h => by have h9 := h.1.1 j hk.1; rw [hk.2] at h9; exact h9) hin hv hdg ht kk
theorem J_wAst (hX : FX G own cc nL p s m args c) (hR : RSw G RR) {n : Nat} (hk : RK G j n) {i x : Int32} (hin : inb i n = true) {k : Nat} (hik : i.toNatClampNeg = k) {V2 : MM} (hV : sI V j k x = V2) (hdg : decode cc pc = .ok (.iastore, 1)) (ht : pc + 1 = t) (kk : J G p l e R s m args below meth c nL cells slots Q (WH G RR V2) t lc st) : J G p l e R s m args below meth c nL cells slots Q (WH G RR V) pc lc (.int x :: .int i :: .ref (adW G j) :: st) := by
  subst hV; subst hik
  intro H locs ls h1 h2 h3
  exact J_iastI (n := n) (f := V.1 j) hX (fun H h => by have h9 := h.1.1 j hk.1; rw [hk.2] at h9; exact h9) (h2.1.2 j hk.1) hin (I2 := WH G RR (sI V j i.toNatClampNeg x)) (fun H H1 h e1 e2 e3 => ⟨h.1.put hk.1 (by rw [sI_s, hk.2]; exact e1) (fun i hi => sI_o _ _ _ hi) e3, hR H H1 h.2 (by omega) (fun q _ hq => e3 q (fun z => hq (by rw [z]; exact adW_K hk.1)))⟩) hdg ht kk H locs ls h1 h2 h3
theorem J_wAv (hX : FX G own cc nL p s m args c) {i : Int32} (hin : inb i 8 = true) (hdg : decode cc pc = .ok (.aaload, 1)) (ht : pc + 1 = t) (kk : J G p l e R s m args below meth c nL cells slots Q (WH G RR V) t lc (.ref (adW G (2 + i.toNatClampNeg)) :: st)) : J G p l e R s m args below meth c nL cells slots Q (WH G RR V) pc lc (.int i :: .ref (adW G 1) :: st) :=
  J_aaldI (n := 8) (f := fun i => adW G (2 + i)) hX (fun H h => h.1.1 1 (by decide)) hin hdg ht kk
theorem J_wAc (hX : FX G own cc nL p s m args c) {i : Int32} (hin : inb i 8 = true) (hdg : decode cc pc = .ok (.aaload, 1)) (ht : pc + 1 = t) (kk : J G p l e R s m args below meth c nL cells slots Q (WH G RR V) t lc (.ref (adW G (11 + i.toNatClampNeg)) :: st)) : J G p l e R s m args below meth c nL cells slots Q (WH G RR V) pc lc (.int i :: .ref (adW G 10) :: st) :=
  J_aaldI (n := 8) (f := fun i => adW G (11 + i)) hX (fun H h => h.1.1 10 (by decide)) hin hdg ht kk
theorem J_wAs (hX : FX G own cc nL p s m args c) {i : Int32} (hin : inb i 30 = true) (hdg : decode cc pc = .ok (.aaload, 1)) (ht : pc + 1 = t) (kk : J G p l e R s m args below meth c nL cells slots Q (WH G RR V) t lc (.ref (adW G (20 + i.toNatClampNeg)) :: st)) : J G p l e R s m args below meth c nL cells slots Q (WH G RR V) pc lc (.int i :: .ref (adW G 19) :: st) :=
  J_aaldI (n := 30) (f := fun i => adW G (20 + i)) hX (fun H h => h.1.1 19 (by decide)) hin hdg ht kk
/-- a call of the world's own method by itself: the same frame -/
theorem J_wCall (hX : FX G own cc nL p s m args c) {y : MethodName} {cd : ByteArray} {mL n9 index mc ms : Nat} {ret : Option FieldType} {rm : Room} {v : Option Value} {V2 : MM} (As rest st2 : List Value) (hM : CTP G l y cd mL ret rm mc ms (.ref (adW G 0) :: As) (WH G RR V) (fun v9 H => v9 = v ∧ WH G RR V2 H)) (mi : MI y cd mL ret n9) (mv : MV y) (cb : CB 10 y.cls TX13 12 tyX13) (hw : Cond.methodLink own index y ∈ WALL) (hrm : rm.cells = mc ∧ rm.slots = ms ∧ rm.frames + 1 ≤ R.frames ∧ 8 + (mL + 11) + rm.locals ≤ R.locals) (hn : As.length = n9) (hst : st = As.reverse ++ .ref (adW G 0) :: rest) (hcat : (rest.map fun v => v.category).sum ≤ 8) (hf : cells + mc ≤ R.cells ∧ slots + ms ≤ R.slots)
    (hdg : decode cc pc = .ok (.invokevirtual index, 3)) (ht : pc + 3 = t) (hst2 : v.toList ++ rest = st2) (kk : J G p l e R s m args below meth c nL (cells + mc) (slots + ms) Q (WH G RR V2) t lc st2) : J G p l e R s m args below meth c nL cells slots Q (WH G RR V) pc lc st := by
  subst ht; subst hst2
  intro H locs ls h1 h2 h3
  refine J_runP (va_runV (C := y.cls) (As := As) (rest := rest) ⟨hX.1, hX.2.1, hX.2.2.1, hX.2.2.2.1, hX.2.2.2.2.1⟩ hM ⟨cb_call hX mi hw hrm, hX.2.2.2.2.1 _ mv.1, hX.2.2.2.2.1 _ mv.2⟩ ⟨GI.blind G _ _, va_recv hX.2.2.2.2.2.1 (one_P (kW0 H h2)) (ci := 10) (q0 := 0) cb.1 rfl, fun U hU hW => ⟨rfl, hX.preI h2 h3 U hU hW⟩⟩ rfl hn h1.1 hst (lv_room hcat) hdg hf) h3 h1 (fun v9 => J_pure fun hv => ?_)
  subst hv
  exact kk
end WROWS
