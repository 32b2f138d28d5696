/-! MEMORY, CALLS, ENDS over the world -/
theorem one_P {D : va_G} {cl : List vw_C} {q : Nat × va_E} {H : Heap} (h : va_at D cl q H) : va_P D cl [q] H := fun k x hx => by
  cases k with
  | zero => cases hx; exact h
  | succ k => simp at hx
theorem one_D {A : Nat → Prop} {q : Nat × va_E} (h : A q.1) : va_D A [q] := by
  refine ⟨fun i j x y hx hy _ => ?_, fun k x hx => ?_⟩
  · cases i with
    | zero => cases j with
      | zero => rfl
      | succ j => simp at hy
    | succ i => simp at hx
  · cases k with
    | zero => cases hx; exact h
    | succ k => simp at hx
/-- a class of the world: its words are the tables' -/
def CB (ci : Nat) (C : String) (T : u_T) (N : Nat) (ty : Nat → FieldType) : Prop := jcl[ci]? = some (C, T, N) ∧ (∀ w ∈ u_ws C T N, w ∈ WALL) ∧ (∀ k, k < N → parseFieldDescriptor (T k).2.2.1 = some (ty k)) ∧ (∀ a, a < N → ∀ b, b < N → a ≠ b → (T a).2.1 ≠ (T b).2.1)
theorem cb_in {ws : List Cond} (h : ∀ w ∈ ws, w ∈ lw_tbl) (g : ws.all goodWord = true) : ∀ w ∈ ws, w ∈ WALL := fun w hw => WALL_in (h w hw) (List.all_eq_true.mp g w hw)
theorem cb0 : CB 0 RX1 TX1 7 tyX1 := ⟨rfl, cb_in (by decide +kernel) (by decide +kernel), tyX1_ok, nmX1⟩
theorem cb1 : CB 1 RX2 TX2 7 tyX2 := ⟨rfl, cb_in (by decide +kernel) (by decide +kernel), tyX2_ok, nmX2⟩
theorem cb2 : CB 2 RX3 TX3 1 tyX3 := ⟨rfl, cb_in (by decide +kernel) (by decide +kernel), tyX3_ok, nmX3⟩
theorem cb3 : CB 3 RX5 TX5 3 tyX5 := ⟨rfl, cb_in (by decide +kernel) (by decide +kernel), tyX5_ok, nmX5⟩
theorem cb4 : CB 4 RX6 TX6 13 tyX6 := ⟨rfl, cb_in (by decide +kernel) (by decide +kernel), tyX6_ok, nmX6⟩
theorem cb5 : CB 5 RX7 TX7 7 tyX7 := ⟨rfl, cb_in (by decide +kernel) (by decide +kernel), tyX7_ok, nmX7⟩
theorem cb6 : CB 6 RX8 TX8 11 tyX8 := ⟨rfl, cb_in (by decide +kernel) (by decide +kernel), tyX8_ok, nmX8⟩
theorem cb7 : CB 7 RX9 TX9 9 tyX9 := ⟨rfl, cb_in (by decide +kernel) (by decide +kernel), tyX9_ok, nmX9⟩
theorem cb8 : CB 8 RX10 TX10 8 tyX10 := ⟨rfl, cb_in (by decide +kernel) (by decide +kernel), tyX10_ok, nmX10⟩
theorem cb9 : CB 9 RX12 TX12 9 tyX12 := ⟨rfl, cb_in (by decide +kernel) (by decide +kernel), tyX12_ok, nmX12⟩
theorem cb10 : CB 10 RX13 TX13 12 tyX13 := ⟨rfl, cb_in (by decide +kernel) (by decide +kernel), tyX13_ok, nmX13⟩
theorem cb12 : CB 12 RJ0 TJ0 4 tyJ0 := ⟨rfl, cb_in (by decide +kernel) (by decide +kernel), tyJ0_ok, nmJ0⟩
theorem cb11 : CB 11 RJ4 TJ4 4 tyJ4 := ⟨rfl, cb_in (by decide +kernel) (by decide +kernel), tyJ4_ok, nmJ4⟩
/-- the object at cell j of region r: its class, its fields out of its ints and longs -/
def KD (G : GG) (r j ci : Nat) (F : (Nat → Int32) → (Nat → Int64) → List Value) : Prop := inW r j ∧ ∀ a b, cellOf G r j a b = .inr (ci, F a b)
/-- the row at cell j of region r -/
def KA (G : GG) (r j : Nat) (E : (Nat → Int32) → (Nat → Int64) → va_E) : Prop := inW r j ∧ ∀ a b, cellOf G r j a b = E a b
theorem szM {r : Nat} (h : 1 ≤ r ∧ r ≤ 9) : szr r = 50 := by
  match r, h with
  | 1, _ | 2, _ | 3, _ | 4, _ | 5, _ | 6, _ | 7, _ | 8, _ | 9, _ => rfl
theorem cellM_of {G : GG} {r j : Nat} (h : 1 ≤ r ∧ r ≤ 9) (a : Nat → Int32) (b : Nat → Int64) : cellOf G r j a b = cellM G r j a b := by
  unfold cellOf
  rw [if_neg (by omega), if_pos h.2]
theorem kMarket {G : GG} {r : Nat} (h : 1 ≤ r ∧ r ≤ 9) : KD G r 0 4 (fun a _ => fMarket G r a) := ⟨⟨by omega, by rw [szM h]; omega⟩, fun a b => by rw [cellM_of h]; rfl⟩
theorem kValley {G : GG} {r j : Nat} (h : 1 ≤ r ∧ r ≤ 9) (hj : 4 ≤ j ∧ j < 12) : KD G r j 8 fValley := ⟨⟨by omega, by rw [szM h]; omega⟩, fun a b => by
  rw [cellM_of h]
  unfold cellM
  rw [if_neg (by omega), if_neg (by omega), if_neg (by omega), if_neg (by omega), if_pos hj.2]⟩
theorem kCustomer {G : GG} {r j : Nat} (h : 1 ≤ r ∧ r ≤ 9) (hj : 12 ≤ j ∧ j < 20) : KD G r j 1 fCustomer := ⟨⟨by omega, by rw [szM h]; omega⟩, fun a b => by
  rw [cellM_of h]
  unfold cellM
  rw [if_neg (by omega), if_neg (by omega), if_neg (by omega), if_neg (by omega), if_neg (by omega), if_pos hj.2]⟩
theorem kShout {G : GG} {r j : Nat} (h : 1 ≤ r ∧ r ≤ 9) (hj : 20 ≤ j ∧ j < 50) : KD G r j 6 (fun a _ => fShout a) := ⟨⟨by omega, by rw [szM h]; omega⟩, fun a b => by
  rw [cellM_of h]
  unfold cellM
  rw [if_neg (by omega), if_neg (by omega), if_neg (by omega), if_neg (by omega), if_neg (by omega), if_neg (by omega)]⟩
theorem kValleys {G : GG} {r : Nat} (h : 1 ≤ r ∧ r ≤ 9) : KA G r 1 (fun _ _ => aR G 3 8 (fun i => adr G r (4 + i))) := ⟨⟨by omega, by rw [szM h]; omega⟩, fun a b => by rw [cellM_of h]; rfl⟩
theorem kCustomers {G : GG} {r : Nat} (h : 1 ≤ r ∧ r ≤ 9) : KA G r 2 (fun _ _ => aR G 4 8 (fun i => adr G r (12 + i))) := ⟨⟨by omega, by rw [szM h]; omega⟩, fun a b => by rw [cellM_of h]; rfl⟩
theorem kShouts {G : GG} {r : Nat} (h : 1 ≤ r ∧ r ≤ 9) : KA G r 3 (fun _ _ => aR G 5 30 (fun i => adr G r (20 + i))) := ⟨⟨by omega, by rw [szM h]; omega⟩, fun a b => by rw [cellM_of h]; rfl⟩
theorem kEcho {G : GG} : KD G 0 0 9 (fun a _ => fEcho G a) := ⟨⟨by omega, by decide⟩, fun _ _ => rfl⟩
theorem kText {G : GG} : KD G 10 0 7 (fun a _ => fText G a) := ⟨⟨by omega, by decide⟩, fun _ _ => rfl⟩
theorem kBytes {G : GG} : KA G 10 1 (fun a _ => aB G 600 a) := ⟨⟨by omega, by decide⟩, fun _ _ => rfl⟩
theorem kKinds {G : GG} : KA G 10 2 (fun a _ => aI G 601 a) := ⟨⟨by omega, by decide⟩, fun _ _ => rfl⟩
theorem kStarts {G : GG} : KA G 10 3 (fun a _ => aI G 601 a) := ⟨⟨by omega, by decide⟩, fun _ _ => rfl⟩
theorem kValues {G : GG} : KA G 10 4 (fun _ b => aJ G 601 b) := ⟨⟨by omega, by decide⟩, fun _ _ => rfl⟩
theorem kDescription {G : GG} : KD G 11 0 2 (fun _ _ => [.ref (adr G 11 1)]) := ⟨⟨by omega, by decide⟩, fun _ _ => rfl⟩
theorem kChange0 {G : GG} : KD G 11 1 0 (fChange G) := ⟨⟨by omega, by decide⟩, fun _ _ => rfl⟩
theorem kScript {G : GG} : KD G 12 0 5 (fun a _ => fScript G a) := ⟨⟨by omega, by decide⟩, fun _ _ => rfl⟩
theorem kCommands {G : GG} : KA G 12 1 (fun _ _ => aR G 7 30 (fun i => adr G 12 (5 + i))) := ⟨⟨by omega, by decide⟩, fun _ _ => rfl⟩
theorem kPlan {G : GG} : KA G 12 2 (fun a _ => aI G 40 a) := ⟨⟨by omega, by decide⟩, fun _ _ => rfl⟩
theorem kBodyStarts {G : GG} : KA G 12 3 (fun a _ => aI G 2 a) := ⟨⟨by omega, by decide⟩, fun _ _ => rfl⟩
theorem kRepeats {G : GG} : KA G 12 4 (fun a _ => aI G 2 a) := ⟨⟨by omega, by decide⟩, fun _ _ => rfl⟩
theorem kChangeS {G : GG} {j : Nat} (hj : 5 ≤ j ∧ j < 35) : KD G 12 j 0 (fChange G) := ⟨⟨by omega, hj.2⟩, fun a b => by
  show cellS G j a b = _
  unfold cellS
  rw [if_neg (by omega), if_neg (by omega), if_neg (by omega), if_neg (by omega), if_neg (by omega)]⟩
/-- a Change: the description's, or one of the script's -/
def isChg (r j : Nat) : Prop := (r = 11 ∧ j = 1) ∨ (r = 12 ∧ 5 ≤ j ∧ j < 35)
theorem kChange {G : GG} {r j : Nat} (h : isChg r j) : KD G r j 0 (fChange G) := by
  rcases h with ⟨rfl, rfl⟩ | ⟨rfl, h⟩
  · exact kChange0
  · exact kChangeS h
theorem kHistory {G : GG} : KD G 13 0 3 (fun a _ => fHistory G a) := ⟨⟨by omega, by decide⟩, fun _ _ => rfl⟩
theorem kRows {G : GG} : KA G 13 1 (fun _ _ => aR G 6 6 (fun i => adr G (4 + i) 0)) := ⟨⟨by omega, by decide⟩, fun _ _ => rfl⟩
section MEM
variable {G : GG} {own : String} {cc : ByteArray} {p : Program} {l : Launch} {e : Env} {R : Room} {s : State} {m : MethodId} {args : Array Value} {below : List Frame} {meth : Method} {c : Code} {nL cells slots : Nat} {Q : State → Prop} {pc t : Nat} {lc : List (Nat × Value)} {st : List Value} {w : Wd} {r j : Nat}
theorem J_get (hX : FX G own cc nL p s m args c) {ci index : Nat} {C : String} {T : u_T} {N : Nat} {ty : Nat → FieldType} (cb : CB ci C T N ty) {F : (Nat → Int32) → (Nat → Int64) → List Value} (hk : KD G r j ci F) (k : Nat) (hkN : k < N) (hw : Cond.fieldLink own index (T k).1 (T k).2.1 (T k).2.2.1 ∈ WALL) {v : Value} (hv : (F ((w r).1 j) ((w r).2 j))[k]? = some v) (hdg : decode cc pc = .ok (.getfield index, 3)) (ht : pc + 3 = t)
    (kk : J G p l e R s m args below meth c nL cells slots Q (GH G w) t lc (v :: st)) : J G p l e R s m args below meth c nL cells slots Q (GH G w) pc lc (.ref (adr G r j) :: st) := by
  subst ht
  intro H locs ls h1 h2 h3
  have hat := h2.1 r j hk.1
  rw [hk.2] at hat
  exact va_get (D := gD G) (cl := jcl) (tys := jtys G) (ci := ci) (C := C) (T := T) (N := N) hX.1 hX.2.1 hX.2.2.2.2.1 cb.2.1 hX.2.2.2.1 hX.2.2.2.2.2.1 (one_P hat) 0 rfl cb.1 k hkN (hX.2.2.2.2.1 _ hw) (fun _ h => h) hv hdg (kk H locs ls h1 h2 h3)
theorem W_put1 (hX : FX G own cc nL p s m args c) {H : Heap} {locs : List Loc} {ls : Array Slot} {rest : List Value} {a ci index : Nat} {C : String} {T : u_T} {N : Nat} {ty0 : Nat → FieldType} (cb : CB ci C T N ty0) {fs : List Value} (hat : va_at (gD G) jcl (a, .inr (ci, fs)) H) (hA : gA G a) (hS0 : va_S (gA G) s.heap H locs) (k : Nat) (hk : k < N) (hw : Cond.fieldLink own index (T k).1 (T k).2.1 (T k).2.2.1 ∈ WALL) (hfin : (T k).2.2.2 = false) {ty : FieldType} {v : Value} (hd : parseFieldDescriptor (T k).2.2.1 = some ty) (hn : narrow ty v = v) (hfit : fits ty v = true) (hl : k < fs.length)
    (hdg : decode cc pc = .ok (.putfield index, 3)) (kk : ∀ (H1 : Heap) (locs1 : List Loc), va_at (gD G) jcl (a, .inr (ci, fs.set k v)) H1 → H1.size = H.size → (∀ q, q ≠ a → H1[q]? = H[q]?) → va_S (gA G) s.heap H1 locs1 → W p l e R s m args below meth c H1 locs1 cells slots Q (F0 m (pc + 3) ls rest)) : W p l e R s m args below meth c H locs cells slots Q (F0 m pc ls (v :: .ref a :: rest)) := by
  obtain ⟨hexec, hb, -, hown, hts, hK, -⟩ := hX
  obtain ⟨hc, hin, hty, hnm⟩ := cb
  have hap := va_apart (own := own) (cl := jcl) (D := gD G) (ci := ci) hts hin ty0 hty hnm hK hc
  obtain ⟨r9, h1, cell, q1, q2, q3, q4⟩ := hat
  have hr : r9 = (C, T, N) := Option.some.inj (h1.symm.trans hc)
  subst hr
  obtain ⟨hS, hfc, kC, hkC, hkind⟩ := hK.1 ci _ hc
  obtain ⟨cf, kf, fi, f, hi, hsl⟩ := hS k hk
  have hlay := hts _ (hin _ (u_in_lay hk))
  unfold u_lay at hlay
  rw [if_neg (by rw [hfin]; decide)] at hlay
  have hst := (u_facts hfc hkC (u_lays hts hin hk) hi).1
  have h6 := u_store hfc hkC hkind hlay hi hd hn hfit
  refine W.putK hexec hb (f := f) ⟨hown, hts _ hw, ⟨_, _, _, hi⟩, hst⟩ (by rw [q2]; exact h6) q1 q3 (by rw [hsl]; exact k2_hasslot (q4 k hk)) rfl rfl hdg fun H' e1 e2 e3 => ?_
  rw [hsl] at e1 ⊢
  exact kk H' _ ⟨_, hc, t_OB.to (V := updV (vp_V fs) k v) ⟨_, e1, q2, q3, t_set q4 hap hk v⟩ (fun j _ => vp_updV_set hl v j)⟩ e2 e3 (hS0.put e2 e3 hA)
/-- an int field -/
theorem J_put (hX : FX G own cc nL p s m args c) {ci index : Nat} {C : String} {T : u_T} {N : Nat} {ty0 : Nat → FieldType} (cb : CB ci C T N ty0) {F : (Nat → Int32) → (Nat → Int64) → List Value} (hk : KD G r j ci F) (k : Nat) (hkN : k < N) (hw : Cond.fieldLink own index (T k).1 (T k).2.1 (T k).2.2.1 ∈ WALL) (hfin : (T k).2.2.2 = false) {ty : FieldType} (hd : parseFieldDescriptor (T k).2.2.1 = some ty) {v : Value} (hn : narrow ty v = v) (hfit : fits ty v = true) (hl : ∀ a b, k < (F a b).length) {M : MM} (ho : ∀ i, i ≠ j → M.1 i = (w r).1 i ∧ M.2 i = (w r).2 i) (hF : F (M.1 j) (M.2 j) = (F ((w r).1 j) ((w r).2 j)).set k v) (hdg : decode cc pc = .ok (.putfield index, 3)) (ht : pc + 3 = t)
    (kk : J G p l e R s m args below meth c nL cells slots Q (GH G (sW w r M)) t lc st) : J G p l e R s m args below meth c nL cells slots Q (GH G w) pc lc (v :: .ref (adr G r j) :: st) := by
  subst ht
  intro H locs ls h1 h2 h3
  have hat := h2.1 r j hk.1
  rw [hk.2] at hat
  refine W_put1 hX cb hat (h2.2 r j hk.1) h3 k hkN hw hfin hd hn hfit (hl _ _) hdg fun H1 locs1 e1 e2 e3 e4 => ?_
  refine kk H1 locs1 ls h1 (h2.put hk.1 M ?_ ho e3) e4
  rw [hk.2, hF]
  exact e1
end MEM
