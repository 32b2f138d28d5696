/-! NEW ROWS OF ROWS: multianewarray of two lengths, of ints -/
/-- the outer row's references when i inner rows are laid -/
def mnV (h i : Nat) : Nat → Value := fun j => if j < i then .ref (h + 1 + j) else .null
/-- the state when i inner rows are laid -/
def mnS (T : State) (cA cI : ClassId) (N M : Nat) : Nat → State
  | 0 => T.pushCell (arrV cA N (mnV T.heap.size 0))
  | i + 1 => ((mnS T cA cI N M i).pushCell (arrV cI M (fun _ => .int 0))).setCell T.heap.size (arrV cA N (mnV T.heap.size (i + 1)))
theorem mnV_up (h i : Nat) : updV (mnV h i) i (.ref (h + 1 + i)) = mnV h (i + 1) := by
  funext j
  show (if j = i then Value.ref (h + 1 + i) else if j < i then Value.ref (h + 1 + j) else .null) = (if j < i + 1 then Value.ref (h + 1 + j) else .null)
  by_cases e : j = i
  · subst e; simp
  · by_cases h1 : j < i
    · rw [if_neg e, if_pos h1, if_pos (by omega)]
    · rw [if_neg e, if_neg h1, if_neg (by omega)]
theorem mnS_size (T : State) (cA cI : ClassId) (N M : Nat) : ∀ i, (mnS T cA cI N M i).heap.size = T.heap.size + 1 + i
  | 0 => by simp [mnS]
  | i + 1 => by
    have h := mnS_size T cA cI N M i
    simp [mnS, State.setCell, h]
    omega
theorem mnS_top (T : State) (f : JFrame) (cA cI : ClassId) (N M : Nat) : ∀ i, mnS (T.setTop f) cA cI N M i = (mnS T cA cI N M i).setTop f
  | 0 => rfl
  | i + 1 => by simp only [mnS, mnS_top T f cA cI N M i, State.heap_setTop, State.pushCell_setTop, State.setCell_setTop]
theorem mnS_vm (T : State) (cA cI : ClassId) (N M : Nat) : ∀ i, (mnS T cA cI N M i).vm = T.vm ∧ (mnS T cA cI N M i).slotsUsed = T.slotsUsed + N + i * M
  | 0 => ⟨rfl, by simp [mnS, arrV_size]⟩
  | i + 1 => by
    obtain ⟨h1, h2⟩ := mnS_vm T cA cI N M i
    refine ⟨by simp [mnS, h1], ?_⟩
    simp [mnS, h2, arrV_size, Nat.succ_mul]
    omega
theorem mnS_out (T : State) (cA cI : ClassId) (N M : Nat) : ∀ i, (mnS T cA cI N M i).heap[T.heap.size]? = some (arrV cA N (mnV T.heap.size i))
  | 0 => by simp [mnS]
  | i + 1 => by
    have h := mnS_out T cA cI N M i
    have hs := mnS_size T cA cI N M i
    have h2 : ((mnS T cA cI N M i).pushCell (arrV cI M (fun _ => .int 0))).heap[T.heap.size]? = some (arrV cA N (mnV T.heap.size i)) := by
      rw [State.heap_pushCell_of_lt (h := show T.heap.size < (mnS T cA cI N M i).heap.size by rw [hs]; omega)]; exact h
    exact State.heap_setCell_self h2
theorem mnS_old (T : State) (cA cI : ClassId) (N M : Nat) {q : Nat} (hq : q < T.heap.size) : ∀ i, (mnS T cA cI N M i).heap[q]? = T.heap[q]?
  | 0 => State.heap_pushCell_of_lt _ _ hq
  | i + 1 => by
    have hs := mnS_size T cA cI N M i
    show (((mnS T cA cI N M i).pushCell (arrV cI M (fun _ => .int 0))).setCell T.heap.size _).heap[q]? = _
    rw [State.heap_setCell_other (Nat.ne_of_gt hq), State.heap_pushCell_of_lt (h := show q < (mnS T cA cI N M i).heap.size by rw [hs]; omega)]
    exact mnS_old T cA cI N M hq i
theorem mnS_in (T : State) (cA cI : ClassId) (N M : Nat) : ∀ i j, j < i → (mnS T cA cI N M i).heap[T.heap.size + 1 + j]? = some (arrV cI M (fun _ => .int 0))
  | 0, _, h => absurd h (Nat.not_lt_zero _)
  | i + 1, j, h => by
    have hs := mnS_size T cA cI N M i
    show (((mnS T cA cI N M i).pushCell (arrV cI M (fun _ => .int 0))).setCell T.heap.size _).heap[T.heap.size + 1 + j]? = _
    rw [State.heap_setCell_other (show T.heap.size ≠ T.heap.size + 1 + j by omega)]
    by_cases e : j < i
    · rw [State.heap_pushCell_of_lt (h := show T.heap.size + 1 + j < (mnS T cA cI N M i).heap.size by rw [hs]; omega)]
      exact mnS_in T cA cI N M i j e
    · rw [show T.heap.size + 1 + j = (mnS T cA cI N M i).heap.size by rw [hs]; omega]
      exact State.heap_pushCell_size _ _
section MNW
variable {E : CtlPost} {e : Env} {d : Bool} {acts : List Action} {s : State}
/-- one row of ints -/
theorem wp_row {cI c9 : ClassId} {kI : Class} {k : Int32} {M : Nat} (hkI : s.vm.classes[cI]? = some kI) (hkind : kI.kind = .array c9 .int) (hk : ¬ k < 0) (hM : k.toNatClampNeg = M) (hl : ¬ M > e.platform.arrayLengthLimit) (hh : ¬ M * componentBytes .int > e.platform.maxHeapBytes) (h1 : s.heap.size < e.platform.maxCells) (h2 : s.slotsUsed + M ≤ e.platform.maxSlots) {Q : Addr → Pre} (hq : ∀ acts', Q s.heap.size d acts' (s.pushCell (arrV cI M (fun _ => .int 0)))) : wp (multianewarray.make cI [k]) Q E e d acts s := by
  subst hM
  rw [multianewarray.make]
  simp only [wp_bind', W.ite, hk, if_false, wp_pure', W.theClass, hkI, hkind, Option.some.injEq, exists_eq_left']
  refine W.newArray_of hkI hkind hl hh h1 h2 rfl (fun acts' => ?_)
  have h := hq acts'
  rw [← arrV_new] at h
  exact h
end MNW
