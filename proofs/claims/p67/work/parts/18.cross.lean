/-! CALLS into a narrower frame: what lies outside its footprint K stays -/
def arK (K : Nat → Prop) (z : Nat) : Nat → Prop := fun q => K q ∨ z ≤ q
abbrev upK (G : GG) (n : Nat) (K : Nat → Prop) (z : Nat) : GG := upG G n z (arK K z)
/-- a contract of a method over pictures of the heap, the same value and world each time -/
theorem CT.toP {G : GG} {l : Launch} {y : MethodName} {cc : ByteArray} {mL : Nat} {ret : Option FieldType} {rm : Room} {mc ms : Nat} {av : List Value} {w w2 : Wd} {v : Option Value} (h : CT G l y cc mL ret rm mc ms av w v w2) : Met l y (wsY y cc mL ret) rm (va_Pc av (GI G (GH G w))) (QV G v w2) mc ms (gA G) := h
section CROSS
variable {G : GG} {own : String} {cc : ByteArray} {p : Program} {l : Launch} {e : Env} {R : Room} {s : State} {m : MethodId} {args : Array Value} {below : List Frame} {meth : Method} {c : Code} {nL cells slots : Nat} {Q : State → Prop} {pc t : Nat} {lc : List (Nat × Value)} {st : List Value} {I : Heap → Prop}
theorem FX.preX (hX : FX G own cc nL p s m args c) {n : Nat} {K : Nat → Prop} (hK : ∀ q, K q → gA G q) {I1 : Heap → Prop} {H : Heap} {locs : List Loc} (h2 : I1 H) (h3 : va_S (gA G) s.heap H locs) (U : State) (hU : U.heap = H) (hW : s.WarmedH U.vm) : GI (upK G n K H.size) I1 U := by
  obtain ⟨a1, a2, a3, a4, a5⟩ := hX.preI h2 h3 U hU hW
  have hz : gz G ≤ H.size := Nat.le_trans hX.2.2.2.2.2.2.2.1 h3.1
  exact ⟨a1, a2, a3, by rw [hU]; exact Nat.le_refl _, fun q hq => hq.elim (fun h => a5.1 q (hK q h)) (fun h => a5.1 q (a5.2 q (Nat.le_trans hz h))), fun q hq => Or.inr hq⟩
theorem J_runX {K : Nat → Prop} (hX : FX G own cc nL p s m args c) (hK : ∀ q, K q → gA G q) {H : Heap} {locs : List Loc} {ls : Array Slot} {st0 rest : List Value} {mc ms : Nat} {a : Array Value} {Qc : Array Value → State → Outcome → State → Prop} {P1 I2 : Option Value → Heap → Prop} (hQ : ∀ st v t, Qc a st (.returned v) t → P1 v t.heap ∧ va_F (arK K H.size) st t)
    (hr : va_Run p l e R s m args below meth c H locs cells slots mc ms (F0 m pc ls st0) rest (Qc a) (arK K H.size)) (hS : va_S (gA G) s.heap H locs) (hl : lv_has ls nL lc) (hP : ∀ v H1, P1 v H1 → H.size ≤ H1.size → (∀ q : Nat, q < H.size → ¬ K q → H1[q]? = H[q]?) → I2 v H1)
    (kk : ∀ v, J G p l e R s m args below meth c nL (cells + mc) (slots + ms) Q (I2 v) (pc + 3) lc (v.toList ++ rest)) : W p l e R s m args below meth c H locs cells slots Q (F0 m pc ls st0) := by
  intro T hT X
  obtain ⟨v9, st₀, t9, T', L, h0, X', hL, e1, e2, hq9, st9⟩ := hr T hT X
  obtain ⟨hG, hz, hq⟩ := hQ _ _ _ hq9
  rw [h0] at hz hq
  have hzG : ∀ q, H.size ≤ q → gA G q := fun q h => hX.2.2.2.2.2.2.2.2.2 q (Nat.le_trans hX.2.2.2.2.2.2.2.1 (Nat.le_trans hS.1 h))
  have hsz : H.size ≤ T'.heap.size := by rw [e1]; exact hz
  have hold : ∀ q : Nat, q < H.size → ¬ K q → T'.heap[q]? = H[q]? := fun q h1 h2 => by
    rw [e1]
    exact hq q h1 (fun h => h.elim h2 (fun h => absurd h (Nat.not_le.mpr h1)))
  have hS2 : va_S (gA G) s.heap T'.heap (locs ++ L) := ⟨Nat.le_trans hS.1 hsz, fun q h1 h2 => (hold q (Nat.lt_of_lt_of_le h1 hS.1) (fun h => h2 (hK q h))).trans (hS.2.1 q h1 h2), fun q h9 => by
      rcases List.mem_append.mp h9 with h | h
      · exact hS.2.2 q h
      · exact (hL q h).elim (fun h => hK _ h) (fun h => hzG _ h)⟩
  obtain ⟨t2, a1, b1⟩ := kk v9 T'.heap (locs ++ L) ls hl (hP v9 T'.heap (by rw [e1]; exact hG) hsz hold) hS2 T' rfl X'
  exact ⟨t2, st9 t2 a1, b1⟩
/-- a virtual call of an object of class ci, into a narrower frame -/
theorem J_xV (hX : FX G own cc nL p s m args c) {n : Nat} {K : Nat → Prop} (hK : ∀ q, K q → gA G q) {y : MethodName} {cd : ByteArray} {mL n9 index mc ms b ci : Nat} {ret : Option FieldType} {rm : Room} {T : u_T} {N : Nat} {ty : Nat → FieldType} {I1 : Nat → Heap → Prop} {P1 : Nat → Option Value → Heap → Prop} {I2 : Option Value → Heap → Prop} (As rest : List Value) (hM : ∀ z, CTP (upK G n K z) l y cd mL ret rm mc ms (.ref b :: As) (I1 z) (P1 z)) (mi : MI y cd mL ret n9) (mv : MV y) (cb : CB ci y.cls T N ty) (hIO : ∀ H, I H → ∃ fs, va_at (gD G) jcl (b, .inr (ci, fs)) H) (hI : ∀ H, I H → I1 H.size H) (hP : ∀ H H1 v, I H → P1 H.size v H1 → H.size ≤ H1.size → (∀ q : Nat, q < H.size → ¬ K q → H1[q]? = H[q]?) → I2 v H1) (hw : Cond.methodLink own index y ∈ WALL) (hrm : rm.cells = mc ∧ rm.slots = ms ∧ rm.frames + 1 ≤ R.frames ∧ 8 + (mL + 11) + rm.locals ≤ R.locals) (hn : As.length = n9) (hst : st = As.reverse ++ .ref b :: rest) (hcat : (rest.map fun v => v.category).sum ≤ 8) (hf : cells + mc ≤ R.cells ∧ slots + ms ≤ R.slots)
    (hdg : decode cc pc = .ok (.invokevirtual index, 3)) (ht : pc + 3 = t) (kk : ∀ v, J G p l e R s m args below meth c nL (cells + mc) (slots + ms) Q (I2 v) t lc (v.toList ++ rest)) : J G p l e R s m args below meth c nL cells slots Q I pc lc st := by
  subst ht
  intro H locs ls h1 h2 h3
  obtain ⟨fs, hat⟩ := hIO H h2
  exact J_runX hX hK (fun st v t ⟨v9, e9, hp, hf⟩ => by cases e9; exact ⟨hp, hf⟩) (va_runV (C := y.cls) (As := As) (rest := rest) ⟨hX.1, hX.2.1, hX.2.2.1, hX.2.2.2.1, hX.2.2.2.2.1⟩ (hM H.size) ⟨cb_call hX mi hw hrm, hX.2.2.2.2.1 _ mv.1, hX.2.2.2.2.1 _ mv.2⟩ ⟨GI.blind _ _ _, va_recv hX.2.2.2.2.2.1 (one_P hat) (ci := ci) (q0 := 0) cb.1 rfl, fun U hU hW => ⟨rfl, hX.preX hK (hI H h2) h3 U hU hW⟩⟩ rfl hn h1.1 hst (lv_room hcat) hdg hf) h3 h1 (fun v H1 a b d => hP H H1 v h2 a b d) kk
/-- a static call into a narrower frame -/
theorem J_xS (hX : FX G own cc nL p s m args c) {n : Nat} {K : Nat → Prop} (hK : ∀ q, K q → gA G q) {y : MethodName} {cd : ByteArray} {mL n9 index mc ms : Nat} {ret : Option FieldType} {rm : Room} {I1 : Nat → Heap → Prop} {P1 : Nat → Option Value → Heap → Prop} {I2 : Option Value → Heap → Prop} (As rest : List Value) (hM : ∀ z, CTP (upK G n K z) l y cd mL ret rm mc ms As (I1 z) (P1 z)) (mi : MI y cd mL ret n9) (mv : Cond.static y ∈ WALL) (hI : ∀ H, I H → I1 H.size H) (hP : ∀ H H1 v, I H → P1 H.size v H1 → H.size ≤ H1.size → (∀ q : Nat, q < H.size → ¬ K q → H1[q]? = H[q]?) → I2 v H1) (hw : Cond.methodLink own index y ∈ WALL) (hrm : rm.cells = mc ∧ rm.slots = ms ∧ rm.frames + 1 ≤ R.frames ∧ 8 + (mL + 11) + rm.locals ≤ R.locals) (hn : As.length = n9) (hst : st = As.reverse ++ rest) (hcat : (rest.map fun v => v.category).sum ≤ 8) (hf : cells + mc ≤ R.cells ∧ slots + ms ≤ R.slots)
    (hdg : decode cc pc = .ok (.invokestatic index, 3)) (ht : pc + 3 = t) (kk : ∀ v, J G p l e R s m args below meth c nL (cells + mc) (slots + ms) Q (I2 v) t lc (v.toList ++ rest)) : J G p l e R s m args below meth c nL cells slots Q I pc lc st := by
  subst ht
  intro H locs ls h1 h2 h3
  exact J_runX hX hK (fun st v t ⟨v9, e9, hp, hf⟩ => by cases e9; exact ⟨hp, hf⟩) (va_runS (As := As) (rest := rest) ⟨hX.1, hX.2.1, hX.2.2.1, hX.2.2.2.1, hX.2.2.2.2.1⟩ (hM H.size) ⟨cb_call hX mi hw hrm, hX.2.2.2.2.1 _ mv⟩ ⟨GI.blind _ _ _, fun U hU hW => ⟨rfl, hX.preX hK (hI H h2) h3 U hU hW⟩⟩ rfl hn h1.1 hst (lv_room hcat) hdg hf) h3 h1 (fun v H1 a b d => hP H H1 v h2 a b d) kk
/-- a static call of a nest mate's private method, the heap as it was -/
theorem J_callSNP (hX : FX G own cc nL p s m args c) {host : String} {y : MethodName} {cd : ByteArray} {mL n9 index mc ms : Nat} {ret : Option FieldType} {rm : Room} {P : Option Value → Heap → Prop} (As rest : List Value) (hM : CTP G l y cd mL ret rm mc ms As I P) (mi : MI y cd mL ret n9) (mv : Cond.static y ∈ WALL) (hw : (own, index, y, host) ∈ nestL) (hrm : rm.cells = mc ∧ rm.slots = ms ∧ rm.frames + 1 ≤ R.frames ∧ 8 + (mL + 11) + rm.locals ≤ R.locals) (hn : As.length = n9) (hst : st = As.reverse ++ rest) (hcat : (rest.map fun v => v.category).sum ≤ 8) (hf : cells + mc ≤ R.cells ∧ slots + ms ≤ R.slots)
    (hdg : decode cc pc = .ok (.invokestatic index, 3)) (ht : pc + 3 = t) (kk : ∀ v, J G p l e R s m args below meth c nL (cells + mc) (slots + ms) Q (P v) t lc (v.toList ++ rest)) : J G p l e R s m args below meth c nL cells slots Q I pc lc st := by
  subst ht
  intro H locs ls h1 h2 h3
  exact J_runP (va_runSN (As := As) (rest := rest) (host := host) ⟨hX.1, hX.2.1, hX.2.2.1, hX.2.2.2.1, hX.2.2.2.2.1⟩ hM ⟨va_cnB n9 hX.2.2.2.2.1 (cb_good mi.1) rfl hrm.1 hrm.2.1 (hX.2.2.2.2.2.2.1.2.2.2.2.2.2.2.2.1.1 _ hw) (hX.2.2.2.2.1 _ mi.2.1) mi.2.2.2 hrm.2.2, hX.2.2.2.2.1 _ mv, trivial⟩ ⟨GI.blind G I _, fun U hU hW => ⟨rfl, hX.preI h2 h3 U hU hW⟩⟩ rfl hn h1.1 hst (lv_room hcat) hdg hf) h3 h1 kk
end CROSS
