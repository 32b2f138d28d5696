/-! the pure words of throws; the three demands, where they hold -/
def xo {ε α β : Type} (x : Option (Except ε α)) (f : α → Option (Except ε β)) : Option (Except ε β) := match x with
  | none => none
  | some (.error e) => some (.error e)
  | some (.ok a) => f a
def xw {α : Type} (w : Wd) (x : Option (Except String α)) : Option (Except (String × Wd) α) := match x with
  | none => none
  | some (.error e) => some (.error (e, w))
  | some (.ok a) => some (.ok a)
theorem xo_ok {ε α β : Type} {x : Option (Except ε α)} {f : α → Option (Except ε β)} {r : β} (h : xo x f = some (.ok r)) : ∃ a, x = some (.ok a) ∧ f a = some (.ok r) := by
  match x, h with
  | none, h => cases h
  | some (.error e), h => cases h
  | some (.ok a), h => exact ⟨a, rfl, h⟩
theorem xo_er {ε α β : Type} {x : Option (Except ε α)} {f : α → Option (Except ε β)} {r : ε} (h : xo x f = some (.error r)) : x = some (.error r) ∨ ∃ a, x = some (.ok a) ∧ f a = some (.error r) := by
  match x, h with
  | none, h => cases h
  | some (.error e), h => cases h; exact Or.inl rfl
  | some (.ok a), h => exact Or.inr ⟨a, rfl, h⟩
theorem xow_ok {α β : Type} {w : Wd} {x : Option (Except String α)} {f : α → Option (Except (String × Wd) β)} {r : β} (h : xo (xw w x) f = some (.ok r)) : ∃ a, x = some (.ok a) ∧ f a = some (.ok r) := by
  match x, h with
  | none, h => cases h
  | some (.error e), h => cases h
  | some (.ok a), h => exact ⟨a, rfl, h⟩
theorem xow_er {α β : Type} {w w2 : Wd} {E : String} {x : Option (Except String α)} {f : α → Option (Except (String × Wd) β)} (h : xo (xw w x) f = some (.error (E, w2))) : (x = some (.error E) ∧ w = w2) ∨ ∃ a, x = some (.ok a) ∧ f a = some (.error (E, w2)) := by
  match x, h with
  | none, h => cases h
  | some (.error e), h => cases h; exact Or.inl ⟨rfl, rfl⟩
  | some (.ok a), h => exact Or.inr ⟨a, rfl, h⟩
abbrev rmX12_demandIndex : Room := { frames := 6, cells := 0, slots := 0, locals := 90 }
theorem miX12_demandIndex : MI yX12_demandIndex cX12_demandIndex 1 none 1 := ⟨q_1327, q_136, by decide +kernel, by decide +kernel, by decide +kernel, by decide +kernel⟩
def FX12_demandIndex (p0 : Bool) : Option (Except String Unit) := if p0 = true then some (.ok ()) else some (.error "java/lang/IndexOutOfBoundsException")
theorem ctX12_demandIndex {G : GG} {l : Launch} {w : Wd} (p0 : Bool) {rx : Unit} (hF : FX12_demandIndex p0 = some (.ok rx)) : CT G l yX12_demandIndex cX12_demandIndex 1 none rmX12_demandIndex 0 0 [.int (bI p0)] w none w := by
  refine CT.of miX12_demandIndex [(0, .int (bI p0))] rfl (Nat.le_of_ble_eq_true rfl) ?_
  intro p e s m args below meth c hX hR hlk
  have hX : FX G RX12 cX12_demandIndex 1 p s m args c := hX
  refine J_iload_n hX dX12_demandIndex_0 0 rfl (t := 1) rfl ?_
  refine J_ifZ_ne (tgt := 15) hX dX12_demandIndex_1 (by decide) (t := 4) rfl (fun z => ?_) (fun z => ?_)
  · exact J_vret hX hR hlk dX12_demandIndex_15
  · subst z; cases hF
abbrev rmX12_demandArgument : Room := { frames := 6, cells := 0, slots := 0, locals := 90 }
theorem miX12_demandArgument : MI yX12_demandArgument cX12_demandArgument 1 none 1 := ⟨q_876, q_136, by decide +kernel, by decide +kernel, by decide +kernel, by decide +kernel⟩
def FX12_demandArgument (p0 : Bool) : Option (Except String Unit) := if p0 = true then some (.ok ()) else some (.error "java/lang/IllegalArgumentException")
theorem ctX12_demandArgument {G : GG} {l : Launch} {w : Wd} (p0 : Bool) {rx : Unit} (hF : FX12_demandArgument p0 = some (.ok rx)) : CT G l yX12_demandArgument cX12_demandArgument 1 none rmX12_demandArgument 0 0 [.int (bI p0)] w none w := by
  refine CT.of miX12_demandArgument [(0, .int (bI p0))] rfl (Nat.le_of_ble_eq_true rfl) ?_
  intro p e s m args below meth c hX hR hlk
  have hX : FX G RX12 cX12_demandArgument 1 p s m args c := hX
  refine J_iload_n hX dX12_demandArgument_0 0 rfl (t := 1) rfl ?_
  refine J_ifZ_ne (tgt := 15) hX dX12_demandArgument_1 (by decide) (t := 4) rfl (fun z => ?_) (fun z => ?_)
  · exact J_vret hX hR hlk dX12_demandArgument_15
  · subst z; cases hF
abbrev rmX12_demandState : Room := { frames := 6, cells := 0, slots := 0, locals := 90 }
theorem miX12_demandState : MI yX12_demandState cX12_demandState 1 none 1 := ⟨q_791, q_136, by decide +kernel, by decide +kernel, by decide +kernel, by decide +kernel⟩
def FX12_demandState (p0 : Bool) : Option (Except String Unit) := if p0 = true then some (.ok ()) else some (.error "java/lang/IllegalStateException")
theorem ctX12_demandState {G : GG} {l : Launch} {w : Wd} (p0 : Bool) {rx : Unit} (hF : FX12_demandState p0 = some (.ok rx)) : CT G l yX12_demandState cX12_demandState 1 none rmX12_demandState 0 0 [.int (bI p0)] w none w := by
  refine CT.of miX12_demandState [(0, .int (bI p0))] rfl (Nat.le_of_ble_eq_true rfl) ?_
  intro p e s m args below meth c hX hR hlk
  have hX : FX G RX12 cX12_demandState 1 p s m args c := hX
  refine J_iload_n hX dX12_demandState_0 0 rfl (t := 1) rfl ?_
  refine J_ifZ_ne (tgt := 15) hX dX12_demandState_1 (by decide) (t := 4) rfl (fun z => ?_) (fun z => ?_)
  · exact J_vret hX hR hlk dX12_demandState_15
  · subst z; cases hF
section WID
variable {G : GG} {own : String} {cc : ByteArray} {p : Program} {l : Launch} {e : Env} {R : Room} {s : State} {m : MethodId} {args : Array Value} {below : List Frame} {meth : Method} {c : Code} {nL cells slots : Nat} {Q : State → Prop} {pc t : Nat} {lc : List (Nat × Value)} {st : List Value} {w : Wd} {r j : Nat}
theorem J_wid {I : Heap → Prop} {k n : Nat} (h1 : cells ≤ k) (h2 : slots ≤ n) (kk : J G p l e R s m args below meth c nL k n Q I pc lc st) : J G p l e R s m args below meth c nL cells slots Q I pc lc st := fun H locs ls a b d => W.widen h1 h2 (kk H locs ls a b d)
end WID
