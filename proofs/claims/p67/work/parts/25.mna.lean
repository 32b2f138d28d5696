/-! NEW ROWS OF ROWS: multianewarray of two lengths, of ints -/
/-- the outer row's references when i inner rows are laid -/
def mnV (h i : Nat) : Nat → Value := fun j => if j < i then .ref (h + 1 + j) else .null
/-- the state when i inner rows are laid -/
def mnS (T : State) (cA cI : ClassId) (N M : Nat) : Nat → State
  | 0 => T.pushCell (arrV cA N (mnV T.heap.size 0))
  | i + 1 => ((mnS T cA cI N M i).pushCell (arrV cI M (fun _ => .int 0))).setCell T.heap.size (arrV cA N (mnV T.heap.size (i + 1)))
theorem mnV_up (h i : Nat) : updV (mnV h i) i (.ref (h + 1 + i)) = mnV h (i + 1) := by
  funext j
  show (if j = i then Value.ref (h + 1 + i) else if j < i then Value.ref (h + 1 + j) else .null) = (if j < i + 1 then Value.ref (h + 1 + j) else .null)
  by_cases e : j = i
  · subst e; simp
  · by_cases h1 : j < i
    · rw [if_neg e, if_pos h1, if_pos (by omega)]
    · rw [if_neg e, if_neg h1, if_neg (by omega)]
theorem mnS_size (T : State) (cA cI : ClassId) (N M : Nat) : ∀ i, (mnS T cA cI N M i).heap.size = T.heap.size + 1 + i
  | 0 => by simp [mnS]
  | i + 1 => by
    have h := mnS_size T cA cI N M i
    simp [mnS, State.setCell, h]
    omega
theorem mnS_top (T : State) (f : JFrame) (cA cI : ClassId) (N M : Nat) : ∀ i, mnS (T.setTop f) cA cI N M i = (mnS T cA cI N M i).setTop f
  | 0 => rfl
  | i + 1 => by simp only [mnS, mnS_top T f cA cI N M i, State.heap_setTop, State.pushCell_setTop, State.setCell_setTop]
theorem mnS_vm (T : State) (cA cI : ClassId) (N M : Nat) : ∀ i, (mnS T cA cI N M i).vm = T.vm ∧ (mnS T cA cI N M i).slotsUsed = T.slotsUsed + N + i * M
  | 0 => ⟨rfl, by simp [mnS, arrV_size]⟩
  | i + 1 => by
    obtain ⟨h1, h2⟩ := mnS_vm T cA cI N M i
    refine ⟨by simp [mnS, h1], ?_⟩
    simp [mnS, h2, arrV_size, Nat.succ_mul]
    omega
theorem mnS_out (T : State) (cA cI : ClassId) (N M : Nat) : ∀ i, (mnS T cA cI N M i).heap[T.heap.size]? = some (arrV cA N (mnV T.heap.size i))
  | 0 => by simp [mnS]
  | i + 1 => by
    have h := mnS_out T cA cI N M i
    have hs := mnS_size T cA cI N M i
    have h2 : ((mnS T cA cI N M i).pushCell (arrV cI M (fun _ => .int 0))).heap[T.heap.size]? = some (arrV cA N (mnV T.heap.size i)) := by
      rw [State.heap_pushCell_of_lt (h := show T.heap.size < (mnS T cA cI N M i).heap.size by rw [hs]; omega)]; exact h
    exact State.heap_setCell_self h2
theorem mnS_old (T : State) (cA cI : ClassId) (N M : Nat) {q : Nat} (hq : q < T.heap.size) : ∀ i, (mnS T cA cI N M i).heap[q]? = T.heap[q]?
  | 0 => State.heap_pushCell_of_lt _ _ hq
  | i + 1 => by
    have hs := mnS_size T cA cI N M i
    show (((mnS T cA cI N M i).pushCell (arrV cI M (fun _ => .int 0))).setCell T.heap.size _).heap[q]? = _
    rw [State.heap_setCell_other (Nat.ne_of_gt hq), State.heap_pushCell_of_lt (h := show q < (mnS T cA cI N M i).heap.size by rw [hs]; omega)]
    exact mnS_old T cA cI N M hq i
theorem mnS_in (T : State) (cA cI : ClassId) (N M : Nat) : ∀ i j, j < i → (mnS T cA cI N M i).heap[T.heap.size + 1 + j]? = some (arrV cI M (fun _ => .int 0))
  | 0, _, h => absurd h (Nat.not_lt_zero _)
  | i + 1, j, h => by
    have hs := mnS_size T cA cI N M i
    show (((mnS T cA cI N M i).pushCell (arrV cI M (fun _ => .int 0))).setCell T.heap.size _).heap[T.heap.size + 1 + j]? = _
    rw [State.heap_setCell_other (show T.heap.size ≠ T.heap.size + 1 + j by omega)]
    by_cases e : j < i
    · rw [State.heap_pushCell_of_lt (h := show T.heap.size + 1 + j < (mnS T cA cI N M i).heap.size by rw [hs]; omega)]
      exact mnS_in T cA cI N M i j e
    · rw [show T.heap.size + 1 + j = (mnS T cA cI N M i).heap.size by rw [hs]; omega]
      exact State.heap_pushCell_size _ _
section MNW
variable {E : CtlPost} {e : Env} {d : Bool} {acts : List Action} {s : State}
/-- one row of ints -/
theorem wp_row {cI c9 : ClassId} {kI : Class} {k : Int32} {M : Nat} (hkI : s.vm.classes[cI]? = some kI) (hkind : kI.kind = .array c9 .int) (hk : ¬ k < 0) (hM : k.toNatClampNeg = M) (hl : ¬ M > e.platform.arrayLengthLimit) (hh : ¬ M * componentBytes .int > e.platform.maxHeapBytes) (h1 : s.heap.size < e.platform.maxCells) (h2 : s.slotsUsed + M ≤ e.platform.maxSlots) {Q : Addr → Pre} (hq : ∀ acts', Q s.heap.size d acts' (s.pushCell (arrV cI M (fun _ => .int 0)))) : wp (multianewarray.make cI [k]) Q E e d acts s := by
  subst hM
  rw [multianewarray.make]
  simp only [wp_bind', W.ite, hk, if_false, wp_pure', W.theClass, hkI, hkind, Option.some.injEq, exists_eq_left']
  refine W.newArray_of hkI hkind hl hh h1 h2 rfl (fun acts' => ?_)
  have h := hq acts'
  rw [← arrV_new] at h
  exact h
theorem mnV_0 (h : Nat) : mnV h 0 = fun _ => Value.null := by
  funext j
  exact if_neg (Nat.not_lt_zero j)
theorem arrV_at (c : ClassId) (n : Nat) (f : Nat → Value) (i : Nat) (h : i < n) (v : Value) : (arrV c n f).setSlot i v = arrV c n (updV f i v) := arrV_store c n i f v
/-- rows of rows -/
theorem wp_rows {cA cI c9 : ClassId} {kA kI : Class} {n k : Int32} {N M : Nat} (hkA : s.vm.classes[cA]? = some kA) (hkindA : kA.kind = .array cI (.array .int)) (hkI : s.vm.classes[cI]? = some kI) (hkind : kI.kind = .array c9 .int) (hn : ¬ n < 0) (hk : ¬ k < 0) (hN : n.toNatClampNeg = N) (hM : k.toNatClampNeg = M) (hl1 : ¬ N > e.platform.arrayLengthLimit) (hh1 : ¬ N * componentBytes (.array .int) > e.platform.maxHeapBytes) (hl : ¬ M > e.platform.arrayLengthLimit) (hh : ¬ M * componentBytes .int > e.platform.maxHeapBytes) (h1 : s.heap.size + 1 + N ≤ e.platform.maxCells) (h2 : s.slotsUsed + N + N * M ≤ e.platform.maxSlots) {Q : Addr → Pre} (hq : ∀ d' acts', Q s.heap.size d' acts' (mnS s cA cI N M N)) : wp (multianewarray.make cA [n, k]) Q E e d acts s := by
  subst hN
  have hfind : ([k].find? (· < 0)) = none := by simp [hk]
  rw [multianewarray.make]
  simp only [wp_bind', W.ite, hn, if_false, wp_pure', W.theClass, hkA, hkindA, Option.some.injEq, exists_eq_left']
  refine W.newArray_of hkA hkindA hl1 hh1 (by omega) (by have := Nat.zero_le (n.toNatClampNeg * M); omega) rfl (fun acts' => ?_)
  have e0 : s.pushCell { cls := cA, slots := Array.replicate n.toNatClampNeg Value.null } = mnS s cA cI n.toNatClampNeg M 0 := by
    show _ = s.pushCell (arrV cA n.toNatClampNeg (mnV s.heap.size 0))
    rw [mnV_0, ← arrV_new]
  rw [e0]
  simp only [hfind]
  rw [ite_self, wp_bind', Std.Legacy.Range.forIn_eq_forIn_range']
  have hsz : ([:n.toNatClampNeg] : Std.Legacy.Range).size = n.toNatClampNeg := by simp [Std.Legacy.Range.size]
  rw [hsz]
  show wp (forIn (List.range' 0 n.toNatClampNeg 1) PUnit.unit _) _ E e d _ _
  refine wp_forIn_inv (fun rest s' => ∃ i, i ≤ n.toNatClampNeg ∧ rest = List.range' i (n.toNatClampNeg - i) ∧ s' = mnS s cA cI n.toNatClampNeg M i) _ _ ⟨0, Nat.zero_le _, rfl, rfl⟩ ?_ ?_
  · rintro x rest s' d' acts2 Q' ⟨i, hi, hr, rfl⟩ hnext
    have hlt : i < n.toNatClampNeg := by
      rcases Nat.lt_or_ge i n.toNatClampNeg with h | h
      · exact h
      · rw [show n.toNatClampNeg - i = 0 by omega] at hr
        simp at hr
    rw [show n.toNatClampNeg - i = (n.toNatClampNeg - (i + 1)) + 1 by omega, List.range'_succ] at hr
    injection hr with ha hb
    subst ha
    have hs := mnS_size s cA cI n.toNatClampNeg M x
    obtain ⟨hv, hu⟩ := mnS_vm s cA cI n.toNatClampNeg M x
    have ho := mnS_out s cA cI n.toNatClampNeg M x
    have hmul : x * M + M ≤ n.toNatClampNeg * M := by
      have := Nat.mul_le_mul_right M (show x + 1 ≤ n.toNatClampNeg from hlt)
      rw [Nat.succ_mul] at this
      exact this
    simp only [wp_bind']
    refine wp_row (c9 := c9) (kI := kI) (M := M) (by rw [hv]; exact hkI) hkind hk hM hl hh (by rw [hs]; omega) (by rw [hu]; omega) (fun acts3 => ?_)
    have hlt0 : s.heap.size < (mnS s cA cI n.toNatClampNeg M x).heap.size := by rw [hs]; omega
    simp only [wp_bind', W.writeLoc, wp_pure']
    refine ⟨arrV cA n.toNatClampNeg (mnV s.heap.size x), by rw [State.heap_pushCell_of_lt (h := hlt0)]; exact ho, by simp [arrV], by rw [arrV_size]; exact hlt, ?_, hnext _ _ _ ⟨x + 1, hlt, hb, ?_⟩⟩
    · show State.fitsSlot _ cA .none x _ = true
      simp [State.fitsSlot, State.slotType?, hv, hkA, hkindA, fits]
    · rw [hs]
      show _ = State.setCell _ _ _
      rw [← mnV_up, ← arrV_at cA _ _ _ hlt]
  · rintro s' d' acts2 ⟨i, hi, hr, rfl⟩
    have e1 : i = n.toNatClampNeg := by
      rcases Nat.lt_or_ge i n.toNatClampNeg with h | h
      · rw [show n.toNatClampNeg - i = (n.toNatClampNeg - (i + 1)) + 1 by omega, List.range'_succ] at hr
        cases hr
      · omega
    subst e1
    simp only [wp_pure']
    exact hq _ _
end MNW
section MNJ
variable {p : Program} {l : Launch} {e : Env} {R : Room} {s : State} {m : MethodId} {args : Array Value} {below : List Frame} {meth : Method} {c : Code} {T : State} {locs : List Loc} {cells slots : Nat}
theorem mnX (X : Stand p l e R s m args below meth c T locs cells slots) (cA cI : ClassId) (N M : Nat) : ∀ i, Stand p l e R s m args below meth c (mnS T cA cI N M i) (locs ++ (List.range i).map fun j => ⟨T.heap.size, j⟩) (cells + 1 + i) (slots + N + i * M)
  | 0 => by
    have h := X.pushed (arrV cA N (mnV T.heap.size 0))
    rw [arrV_size] at h
    simpa [mnS] using h
  | i + 1 => by
    have Xi := mnX X cA cI N M i
    have hs := mnS_size T cA cI N M i
    have ho : ((mnS T cA cI N M i).pushCell (arrV cI M (fun _ => .int 0))).heap[T.heap.size]? = some (arrV cA N (mnV T.heap.size i)) := by
      rw [State.heap_pushCell_of_lt (h := show T.heap.size < (mnS T cA cI N M i).heap.size by rw [hs]; omega)]
      exact mnS_out T cA cI N M i
    have h := (Xi.pushed (arrV cI M (fun _ => .int 0))).stored ho i (.ref (T.heap.size + 1 + i))
    rw [arrV_size, arrV_store, mnV_up] at h
    have e2 : (locs ++ (List.range (i + 1)).map fun j => (⟨T.heap.size, j⟩ : Loc)) = (locs ++ (List.range i).map fun j => (⟨T.heap.size, j⟩ : Loc)) ++ [⟨T.heap.size, i⟩] := by simp [List.range_succ, List.append_assoc]
    have e3 : slots + N + (i + 1) * M = slots + N + i * M + M := by rw [Nat.succ_mul]; omega
    rw [e2, e3]
    exact h
variable {H : Heap} {Q : State → Prop} {pc : Nat} {ls : Array Slot} {rest : List Value}
theorem W_mna {cc : ByteArray} (hexec : p.tables.exec = Jvm.exec) (hb : c.code = cc) {own : String} {index : Nat} (hown : s.vm.findClass own = some m.cls) (hclink : (Cond.classLink own index "[[I").before args s = true) (harr : (Cond.arrayClass .int).before args s = true) {cA cI : ClassId} (hA : s.vm.findClass "[[I" = some cA) (hI : s.vm.findClass "[I" = some cI) (hK : ∃ kA : Class, s.vm.classes[cA]? = some kA ∧ kA.kind = .array cI (.array .int))
    {n k : Int32} {N M : Nat} (hn : ¬ n < 0) (hk : ¬ k < 0) (hN : n.toNatClampNeg = N) (hM : k.toNatClampNeg = M) (hb1 : N * 4 ≤ 536870912) (hb2 : M * 4 ≤ 536870912) (hcells : cells + (1 + N) ≤ R.cells) (hslots : slots + (N + N * M) ≤ R.slots) (hdg : decode cc pc = .ok (.multianewarray index 2, 4))
    (kk : ∀ (H1 : Heap) (locs1 : List Loc), H1.size = H.size + 1 + N → (∀ q, q < H.size → H1[q]? = H[q]?) → H1[H.size]? = some (arrV cA N (mnV H.size N)) → (∀ j, j < N → H1[H.size + 1 + j]? = some (arrV cI M (fun _ => .int 0))) → (∀ q ∈ locs1, q ∈ locs ∨ q.base = H.size) → W p l e R s m args below meth c H1 locs1 (cells + 1 + N) (slots + N + N * M) Q (F0 m (pc + 4) ls (.ref H.size :: rest))) : W p l e R s m args below meth c H locs cells slots Q (F0 m pc ls (.int k :: .int n :: rest)) := by
  subst hN
  subst hM
  subst hb
  intro T hT X
  subst hT
  have hpl : e.platform.magicAccessors = ({} : Platform).magicAccessors := by rw [X.admits.platform]
  obtain ⟨kA, hkA, hkindA⟩ := hK
  obtain ⟨cI', kI, c9, hI', hkI, hkindI⟩ := Cond.arrayClass_spec harr
  have ecI : cI' = cI := Option.some.inj (hI'.symm.trans hI)
  subst ecI
  obtain ⟨c0, hfc0, hcl⟩ := Cond.classLink_spec hown hclink e.platform hpl
  cases hA.symm.trans hfc0
  obtain ⟨hg1, hwarm, hready⟩ := State.classEntry (e := e) X.warmed hcl
  generalize T.vm.noted m.cls index (.cls cA) = vm1 at hg1 hwarm hready
  have hal : s.vm.Alike vm1 := hwarm.alike
  obtain ⟨kA1, hkA1, heA⟩ := hal.2.2 _ _ hkA
  obtain ⟨kI1, hkI1, heI⟩ := hal.2.2 _ _ hkI
  have hkindA1 : kA1.kind = .array cI' (.array .int) := by rw [heA]; exact hkindA
  have hkindI1 : kI1.kind = .array c9 .int := by rw [heI]; exact hkindI
  have X1 := X.noted hwarm
  obtain ⟨hr1, hr2⟩ := X.roomAbove hcells hslots
  have XF := mnX X1 cA cI' n.toNatClampNeg k.toNatClampNeg n.toNatClampNeg
  obtain ⟨t, ta, tb⟩ := kk (mnS (T.setVm vm1) cA cI' n.toNatClampNeg k.toNatClampNeg n.toNatClampNeg).heap _ (mnS_size _ _ _ _ _ _) (fun q hq => mnS_old (T.setVm vm1) _ _ _ _ hq _) (mnS_out _ _ _ _ _ _) (fun j hj => mnS_in _ _ _ _ _ _ j hj) (fun q hq => by
    rcases List.mem_append.mp hq with h | h
    · exact Or.inl h
    · obtain ⟨j, -, rfl⟩ := List.mem_map.mp h
      exact Or.inr rfl) _ rfl XF
  refine ⟨t, ?_, tb⟩
  have hl1 : ¬ n.toNatClampNeg > e.platform.arrayLengthLimit := by rw [Launch.admits_arrayLengthLimit X.admits]; omega
  have hh1 : ¬ n.toNatClampNeg * componentBytes (.array .int) > e.platform.maxHeapBytes := by
    rw [Launch.admits_maxHeapBytes X.admits]; show ¬ n.toNatClampNeg * 4 > 536870912; omega
  have hl2 : ¬ k.toNatClampNeg > e.platform.arrayLengthLimit := by rw [Launch.admits_arrayLengthLimit X.admits]; omega
  have hh2 : ¬ k.toNatClampNeg * componentBytes .int > e.platform.maxHeapBytes := by rw [Launch.admits_maxHeapBytes X.admits]; show ¬ k.toNatClampNeg * 4 > 536870912; omega
  jvm_step X.here [hexec, hdg]
  simp only [multianewarray.sem, wp_bind', W.resolveClassAt_links (State.method?_setTop (F0 m pc ls (.int k :: .int n :: rest)) X.here.top) hg1]
  rw [W.popN, if_neg (by decide)]
  refine ⟨F0 m pc ls (.int k :: .int n :: rest), State.topJava?_setTop' (s := T.setVm vm1) _ X.here.top, [.int n, .int k], rest, rfl, rfl, ?_⟩
  simp only [List.mapM_cons, List.mapM_nil, wp_bind', wp_pure']
  refine wp_rows (kA := kA1) (kI := kI1) (cI := cI') (c9 := c9) hkA1 hkindA1 hkI1 hkindI1 hn hk rfl rfl hl1 hh1 hl2 hh2 (by show T.heap.size + 1 + _ ≤ _; omega) (by show T.slotsUsed + _ + _ ≤ _; omega) (fun d' acts' => ?_)
  have eS : ((T.setTop (F0 m pc ls (.int k :: .int n :: rest))).setVm vm1).setTop (F0 m pc ls rest) = (T.setVm vm1).setTop (F0 m pc ls rest) := by
    show ((T.setVm vm1).setTop _).setTop _ = _
    rw [State.setTop_setTop]
  rw [eS, mnS_top]
  simp only [wp_bind', W.mark, W.pushRef, State.topJava?_setTop' _ XF.here.top, Option.some.injEq, exists_eq_left', State.setTop_setTop, State.heap_setTop]
  intro acts
  simp [jvm, XF.here.top]
  exact ta
end MNJ
