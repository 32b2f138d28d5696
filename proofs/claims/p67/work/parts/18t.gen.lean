/-! ROWS over any picture of the heap: what the picture says of one cell, what it becomes -/
section GENI
variable {G : GG} {own : String} {cc : ByteArray} {p : Program} {l : Launch} {e : Env} {R : Room} {s : State} {m : MethodId} {args : Array Value} {below : List Frame} {meth : Method} {c : Code} {nL cells slots : Nat} {Q : State → Prop} {pc t : Nat} {lc : List (Nat × Value)} {st : List Value} {I I2 : Heap → Prop} {a : Nat}
theorem J_getI (hX : FX G own cc nL p s m args c) {ci index : Nat} {C : String} {T : u_T} {N : Nat} {ty : Nat → FieldType} (cb : CB ci C T N ty) {fs : List Value} (hI : ∀ H, I H → va_at (gD G) jcl (a, .inr (ci, fs)) H) (k : Nat) (hkN : k < N) (hw : Cond.fieldLink own index (T k).1 (T k).2.1 (T k).2.2.1 ∈ WALL) {v : Value} (hv : fs[k]? = some v) (hdg : decode cc pc = .ok (.getfield index, 3)) (ht : pc + 3 = t)
    (kk : J G p l e R s m args below meth c nL cells slots Q I t lc (v :: st)) : J G p l e R s m args below meth c nL cells slots Q I pc lc (.ref a :: st) := by
  subst ht
  intro H locs ls h1 h2 h3
  exact va_get (D := gD G) (cl := jcl) (tys := jtys G) (ci := ci) (C := C) (T := T) (N := N) hX.1 hX.2.1 hX.2.2.2.2.1 cb.2.1 hX.2.2.2.1 hX.2.2.2.2.2.1 (one_P (hI H h2)) 0 rfl cb.1 k hkN (hX.2.2.2.2.1 _ hw) (fun _ h => h) hv hdg (kk H locs ls h1 h2 h3)
theorem J_putI (hX : FX G own cc nL p s m args c) {ci index : Nat} {C : String} {T : u_T} {N : Nat} {ty0 : Nat → FieldType} (cb : CB ci C T N ty0) {fs : List Value} (hI : ∀ H, I H → va_at (gD G) jcl (a, .inr (ci, fs)) H) (hA : gA G a) (k : Nat) (hk : k < N) (hw : Cond.fieldLink own index (T k).1 (T k).2.1 (T k).2.2.1 ∈ WALL) (hfin : (T k).2.2.2 = false) {ty : FieldType} {v : Value} (hty : ty0 k = ty) (hn : narrow ty v = v) (hfit : fits ty v = true) (hl : k < fs.length) (hI2 : ∀ H H1 : Heap, I H → va_at (gD G) jcl (a, .inr (ci, fs.set k v)) H1 → H1.size = H.size → (∀ q : Nat, q ≠ a → H1[q]? = H[q]?) → I2 H1) (hdg : decode cc pc = .ok (.putfield index, 3)) (ht : pc + 3 = t)
    (kk : J G p l e R s m args below meth c nL cells slots Q I2 t lc st) : J G p l e R s m args below meth c nL cells slots Q I pc lc (v :: .ref a :: st) := by
  subst ht
  intro H locs ls h1 h2 h3
  exact W_put1 hX cb (hI H h2) hA h3 k hk hw hfin (by rw [cb.2.2.1 k hk, hty]) hn hfit hl hdg fun H1 locs1 e1 e2 e3 e4 => kk H1 locs1 ls h1 (hI2 H H1 h2 e1 e2 e3) e4
theorem J_ialdI (hX : FX G own cc nL p s m args c) {n : Nat} {f : Nat → Int32} (hI : ∀ H, I H → va_at (gD G) jcl (a, aI G n f) H) {i : Int32} (hin : inb i n = true) {v : Int32} (hv : f i.toNatClampNeg = v) (hdg : decode cc pc = .ok (.iaload, 1)) (ht : pc + 1 = t)
    (kk : J G p l e R s m args below meth c nL cells slots Q I t lc (.int v :: st)) : J G p l e R s m args below meth c nL cells slots Q I pc lc (.int i :: .ref a :: st) := by
  subst ht; subst hv
  intro H locs ls h1 h2 h3
  exact va_iald (D := gD G) (cl := jcl) (tys := jtys G) hX.1 hX.2.1 hX.2.2.2.2.2.1 (one_P (hI H h2)) 0 0 rfl rfl (inb_in hin) hdg (kk H locs ls h1 h2 h3)
theorem J_baldI (hX : FX G own cc nL p s m args c) {n : Nat} {f : Nat → Int32} (hI : ∀ H, I H → va_at (gD G) jcl (a, aB G n f) H) {i : Int32} (hin : inb i n = true) {v : Int32} (hv : f i.toNatClampNeg = v) (hdg : decode cc pc = .ok (.baload, 1)) (ht : pc + 1 = t)
    (kk : J G p l e R s m args below meth c nL cells slots Q I t lc (.int v :: st)) : J G p l e R s m args below meth c nL cells slots Q I pc lc (.int i :: .ref a :: st) := by
  subst ht; subst hv
  intro H locs ls h1 h2 h3
  exact va_bald (D := gD G) (cl := jcl) (tys := jtys G) hX.1 hX.2.1 hX.2.2.2.2.2.1 (one_P (hI H h2)) 0 1 rfl rfl (inb_in hin) hdg (kk H locs ls h1 h2 h3)
theorem J_alenBI (hX : FX G own cc nL p s m args c) {n : Nat} {f : Nat → Int32} (hI : ∀ H, I H → va_at (gD G) jcl (a, aB G n f) H) {v : Int32} (hv : Int32.ofNat n = v) (hdg : decode cc pc = .ok (.arraylength, 1)) (ht : pc + 1 = t)
    (kk : J G p l e R s m args below meth c nL cells slots Q I t lc (.int v :: st)) : J G p l e R s m args below meth c nL cells slots Q I pc lc (.ref a :: st) := by
  subst ht
  intro H locs ls h1 h2 h3
  exact va_alen (D := gD G) (cl := jcl) (tys := jtys G) hX.1 hX.2.1 hX.2.2.2.2.2.1 (one_P (hI H h2)) 0 1 rfl rfl hv hdg (kk H locs ls h1 h2 h3)
theorem J_aaldI (hX : FX G own cc nL p s m args c) {n : Nat} {f : Nat → Nat} (hI : ∀ H, I H → va_at (gD G) jcl (a, aR G 8 n f) H) {i : Int32} (hin : inb i n = true) (hdg : decode cc pc = .ok (.aaload, 1)) (ht : pc + 1 = t)
    (kk : J G p l e R s m args below meth c nL cells slots Q I t lc (.ref (f i.toNatClampNeg) :: st)) : J G p l e R s m args below meth c nL cells slots Q I pc lc (.int i :: .ref a :: st) := by
  subst ht
  intro H locs ls h1 h2 h3
  have hlt := inb_lt hin
  exact W.aald (v := va_rf (some (f i.toNatClampNeg))) (ty := .array .int) hX.1 hX.2.1 (hI H h2) ((hX.2.2.2.2.2.1.2 8 _ rfl).1 n (fun j => va_rf (some (f j)))) rfl (fun q => by cases q) (by show ¬ (i < 0 ∨ (arrV _ _ _).slots.size ≤ _); rw [arrV_size]; exact inb_in hin) (by show (arrV _ _ _).slots[_]? = _; rw [arrV_read _ _ hlt]) rfl rfl hdg (kk H locs ls h1 h2 h3)
theorem J_iastI (hX : FX G own cc nL p s m args c) {n : Nat} {f : Nat → Int32} (hI : ∀ H, I H → va_at (gD G) jcl (a, aI G n f) H) (hA : gA G a) {i x : Int32} (hin : inb i n = true) (hI2 : ∀ H H1 : Heap, I H → va_at (gD G) jcl (a, aI G n (upd f i.toNatClampNeg x)) H1 → H1.size = H.size → (∀ q : Nat, q ≠ a → H1[q]? = H[q]?) → I2 H1) (hdg : decode cc pc = .ok (.iastore, 1)) (ht : pc + 1 = t)
    (kk : J G p l e R s m args below meth c nL cells slots Q I2 t lc st) : J G p l e R s m args below meth c nL cells slots Q I pc lc (.int x :: .int i :: .ref a :: st) := by
  subst ht
  intro H locs ls h1 h2 h3
  refine W.iast hX.1 hX.2.1 (hI H h2) ((hX.2.2.2.2.2.1.2 0 _ rfl).1 n (fun j9 => .int (f j9))) (fun q => by cases q) (by show ¬ (i < 0 ∨ (arrV _ _ _).slots.size ≤ _); rw [arrV_size]; exact inb_in hin) rfl rfl hdg fun H1 e z oq => ?_
  refine kk H1 _ ls h1 (hI2 H H1 h2 ?_ z oq) (h3.put z oq hA)
  show H1[a]? = some (vp_cell _ _)
  rw [e, vp_cell_i, vp_cell_i, arrV_store]
  congr 2
  funext q
  by_cases hq : q = i.toNatClampNeg
  · subst hq
    simp [updV, upd]
  · simp [updV, upd, hq]
/-- new cells: what the picture says stays; facts on the new place come out of it -/
def grows (I : Heap → Prop) : Prop := ∀ H H1 : Heap, I H → H.size ≤ H1.size → (∀ q : Nat, q < H.size → H1[q]? = H[q]?) → I H1
theorem J_newII (hX : FX G own cc nL p s m args c) {x : Int32} {N : Nat} (hn : ¬ x < 0) (hN : x.toNatClampNeg = N) (hbig : N * componentBytes .int ≤ 536870912) (harr : Cond.arrayClass .int ∈ WALL) (hroom : cells + 1 ≤ R.cells ∧ slots + N ≤ R.slots) (hg : grows I) {Φ : Nat → Prop} (hΦ : ∀ H : Heap, I H → Φ H.size) (hdg : decode cc pc = .ok (.newarray .int, 2)) (ht : pc + 2 = t)
    (kk : ∀ q, gA G q → Φ q → J G p l e R s m args below meth c nL (cells + 1) (slots + N) Q (fun H => I H ∧ va_at (gD G) jcl (q, aI G N (fun _ => 0)) H) t lc (.ref q :: st)) : J G p l e R s m args below meth c nL cells slots Q I pc lc (.int x :: st) := by
  subst ht
  intro H locs ls h1 h2 h3
  refine va_newaK hX.1 hX.2.1 (atype := .int) (hX.2.2.2.2.1 _ harr) rfl hdg rfl hn hN hbig hroom.1 hroom.2 rfl fun H1 cA e1 z1 o1 hAr hNm => ?_
  have hcA : cA = gc G 0 := Option.some.inj (hNm.symm.trans (hX.2.2.2.2.2.1.2 0 _ rfl).2)
  subst hcA
  have hz9 : gz G ≤ H.size := Nat.le_trans hX.2.2.2.2.2.2.2.1 h3.1
  refine kk H.size (hX.2.2.2.2.2.2.2.2.2 _ hz9) (hΦ H h2) H1 locs ls h1 ⟨hg H H1 h2 (by omega) o1, ?_⟩ ⟨Nat.le_trans h3.1 (by omega), fun x a b => by rw [o1 x (Nat.lt_of_lt_of_le a h3.1)]; exact h3.2.1 x a b, h3.2.2⟩
  show H1[H.size]? = some (vp_cell _ _)
  rw [e1]
  rfl
theorem J_newBI (hX : FX G own cc nL p s m args c) {x : Int32} {N : Nat} (hn : ¬ x < 0) (hN : x.toNatClampNeg = N) (hbig : N * componentBytes .byte ≤ 536870912) (harr : Cond.arrayClass .byte ∈ WALL) (hroom : cells + 1 ≤ R.cells ∧ slots + N ≤ R.slots) (hg : grows I) {Φ : Nat → Prop} (hΦ : ∀ H : Heap, I H → Φ H.size) (hdg : decode cc pc = .ok (.newarray .byte, 2)) (ht : pc + 2 = t)
    (kk : ∀ q, gA G q → Φ q → J G p l e R s m args below meth c nL (cells + 1) (slots + N) Q (fun H => I H ∧ va_at (gD G) jcl (q, aB G N (fun _ => 0)) H) t lc (.ref q :: st)) : J G p l e R s m args below meth c nL cells slots Q I pc lc (.int x :: st) := by
  subst ht
  intro H locs ls h1 h2 h3
  refine va_newaK hX.1 hX.2.1 (atype := .byte) (hX.2.2.2.2.1 _ harr) rfl hdg rfl hn hN hbig hroom.1 hroom.2 rfl fun H1 cA e1 z1 o1 hAr hNm => ?_
  have hcA : cA = gc G 1 := Option.some.inj (hNm.symm.trans (hX.2.2.2.2.2.1.2 1 _ rfl).2)
  subst hcA
  have hz9 : gz G ≤ H.size := Nat.le_trans hX.2.2.2.2.2.2.2.1 h3.1
  refine kk H.size (hX.2.2.2.2.2.2.2.2.2 _ hz9) (hΦ H h2) H1 locs ls h1 ⟨hg H H1 h2 (by omega) o1, ?_⟩ ⟨Nat.le_trans h3.1 (by omega), fun x a b => by rw [o1 x (Nat.lt_of_lt_of_le a h3.1)]; exact h3.2.1 x a b, h3.2.2⟩
  show H1[H.size]? = some (vp_cell _ _)
  rw [e1]
  rfl
theorem J_newOI (hX : FX G own cc nL p s m args c) {ci index : Nat} {C : String} {T : u_T} {N : Nat} {ty : Nat → FieldType} (cb : CB ci C T N ty) (hcl : Cond.classLink own index C ∈ WALL) (hin : Cond.instantiable C N ∈ WALL) (hini : Cond.initialized C ∈ WALL) (fs : List Value) (hfs : ∀ j, j < N → defaultValue (ty j) = vp_V fs j) (hroom : cells + 1 ≤ R.cells ∧ slots + N ≤ R.slots) (hg : grows I) {Φ : Nat → Prop} (hΦ : ∀ H : Heap, I H → Φ H.size) (hdg : decode cc pc = .ok (.new index, 3)) (ht : pc + 3 = t)
    (kk : ∀ q, gA G q → Φ q → J G p l e R s m args below meth c nL (cells + 1) (slots + N) Q (fun H => I H ∧ va_at (gD G) jcl (q, .inr (ci, fs)) H) t lc (.ref q :: st)) : J G p l e R s m args below meth c nL cells slots Q I pc lc st := by
  subst ht
  intro H locs ls h1 h2 h3
  have hKn := hX.2.2.2.2.2.1.1 ci _ cb.1
  refine W.newcK hX.1 hX.2.1 hX.2.2.2.1 (hX.2.2.2.2.1 _ hcl) (hX.2.2.2.2.1 _ hin) (hX.2.2.2.2.1 _ hini) rfl hdg hroom.1 hroom.2 hKn.2.1 rfl fun H1 kC hkC e1 z1 o1 => ?_
  have hz9 : gz G ≤ H.size := Nat.le_trans hX.2.2.2.2.2.2.2.1 h3.1
  exact kk H.size (hX.2.2.2.2.2.2.2.2.2 _ hz9) (hΦ H h2) H1 locs ls h1 ⟨hg H H1 h2 (by omega) o1, ⟨_, cb.1, (u_born ty hX.2.2.2.2.1 cb.2.1 hKn hkC e1 cb.2.2.1).to hfs⟩⟩ ⟨Nat.le_trans h3.1 (by omega), fun x a b => by rw [o1 x (Nat.lt_of_lt_of_le a h3.1)]; exact h3.2.1 x a b, h3.2.2⟩
end GENI
