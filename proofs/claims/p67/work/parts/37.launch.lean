/-! THE LAUNCH: the places of what never changes, out of the Statement's words on the start -/
def NLST : List Cond := flatC (Jvm.Cond.and given_1 narrow_1)
abbrev lnA (s : State) : Nat → Prop := fun q => s.heap.size ≤ q
theorem lnA_lt {s : State} : ∀ a : Nat, a < s.heap.size → ¬ lnA s a := fun _ h => Nat.not_le.mpr h
theorem at_pos {L : List Cond} {f : Nat → Cond} {N : Nat} (ps : List Nat) (h : (List.range N).map f = ps.filterMap (fun i => L[i]?)) (j : Nat) (hj : j < N) : f j ∈ L := by
  have h1 : f j ∈ ps.filterMap (fun i => L[i]?) := h ▸ List.mem_map.mpr ⟨j, List.mem_range.mpr hj, rfl⟩
  obtain ⟨i, -, hi⟩ := List.mem_filterMap.mp h1
  exact List.mem_of_getElem? hi
theorem at_all {α : Type} {L : List Cond} {f : α → Cond} {l : List α} (ps : List Nat) (h : l.map f = ps.filterMap (fun i => L[i]?)) (x : α) (hx : x ∈ l) : f x ∈ L := by
  have h1 : f x ∈ ps.filterMap (fun i => L[i]?) := h ▸ List.mem_map.mpr ⟨x, hx, rfl⟩
  obtain ⟨i, -, hi⟩ := List.mem_filterMap.mp h1
  exact List.mem_of_getElem? hi
theorem ln_ne {args : Array Value} {s : State} {t u : Term} {a b : Nat} (ht : t.eval args s none [] s = some (.ref a)) (hu : u.eval args s none [] s = some (.ref b)) (K : Term → Term) (hK : t.eval args s none [] s = u.eval args s none [] s → (K t).eval args s none [] s = (K u).eval args s none [] s) {x y : Int32} (hx : (Cond.eq (K t) (.int x)).before args s = true) (hy : (Cond.eq (K u) (.int y)).before args s = true) (hxy : x ≠ y) : (Cond.not (.eq t u)).before args s = true := by
  have hab : a ≠ b := by
    intro e
    have h1 := hK (by rw [ht, hu, e])
    rw [va_eqt hx, va_eqt hy] at h1
    exact hxy (Value.int.inj (Option.some.inj h1))
  simp [Cond.before, Cond.holds, Cond.value, ht, hu, hab]
theorem ln_cgf {args : Array Value} {s : State} {t u : Term} {c n d : String} (h : t.eval args s none [] s = u.eval args s none [] s) : (Term.field t c n d).eval args s none [] s = (Term.field u c n d).eval args s none [] s := by simp only [Term.eval, h]
theorem ln_cge {args : Array Value} {s : State} {t u i : Term} (h : t.eval args s none [] s = u.eval args s none [] s) : (Term.elem t i).eval args s none [] s = (Term.elem u i).eval args s none [] s := by simp only [Term.eval, h]
theorem ln_cgl {args : Array Value} {s : State} {t u : Term} (h : t.eval args s none [] s = u.eval args s none [] s) : (Term.length t).eval args s none [] s = (Term.length u).eval args s none [] s := by simp only [Term.eval, h]
theorem ln_uniq {C n d : String} {v u : Value} {A : Nat → Prop} {U : State} {H : Heap} (h1 : va_Z C n d v A U H) (h2 : va_Z C n d u A U H) : v = u := by
  obtain ⟨cf, kf, fi, f, a, cell, p1, p2, p3, p4, p5, p6, p7, p8⟩ := h1
  obtain ⟨cf', kf', fi', f', a', cell', r1, r2, r3, r4, r5, r6, r7, r8⟩ := h2
  cases p1.symm.trans r1
  cases p4.symm.trans r4
  cases p5.symm.trans r5
  exact Option.some.inj (p7.symm.trans r7)
theorem ln_Enc {E d : String} {nm : List String} {F : List (String × String × String × List Int32)} {ad ad' : Nat → Nat} {A : Nat → Prop} {U : State} {H : Heap} (h : va_En E d nm F ad A U H) (e : ∀ i, i < nm.length → ad' i = ad i) : va_En E d nm F ad' A U H :=
  ⟨fun i hi => by rw [e i hi]; exact h.1 i hi, fun i j hi hj h9 => h.2 i j hi hj (by rw [← e i hi, ← e j hj]; exact h9)⟩
theorem ln_arrI {args : Array Value} {s : State} (h : (Cond.arrayClass .int).before args s = true) : ∃ cA, ArrOfT s cA .int ∧ va_RA s cA .int := by
  obtain ⟨c, k, comp, h1, h2, h3⟩ := Cond.arrayClass_spec h
  exact ⟨c, fun n z => ⟨fun k h => (by cases h), k, h2, comp, h3⟩, h1⟩
theorem ln_arrB {args : Array Value} {s : State} (h : (Cond.arrayClass .byte).before args s = true) : ∃ cA, ArrOfT s cA .byte ∧ va_RA s cA .byte := by
  obtain ⟨c, k, comp, h1, h2, h3⟩ := Cond.arrayClass_spec h
  exact ⟨c, fun n z => ⟨fun k h => (by cases h), k, h2, comp, h3⟩, h1⟩
theorem ln_arrJ {args : Array Value} {s : State} (h : (Cond.arrayClass .long).before args s = true) : ∃ cA, ArrOfT s cA .long ∧ va_RA s cA .long := by
  obtain ⟨c, k, comp, h1, h2, h3⟩ := Cond.arrayClass_spec h
  exact ⟨c, fun n z => ⟨fun k h => (by cases h), k, h2, comp, h3⟩, h1⟩
theorem ln_arrO {s : State} {C : String} (h : va_AO C s) : ∃ cA, ArrOfT s cA (.object C) ∧ va_RA s cA (.object C) := by
  obtain ⟨comp, c, k, h1, h2, h3, h4, h5⟩ := Cond.arrayOver_spec h
  exact ⟨c, fun n z => ⟨fun k h => (by cases h), k, h3, comp, h4⟩, k, comp, h3, h4, h1, h5⟩
/-- a private method of the superclass, selected for an object of the class -/
theorem ln_sel {args : Array Value} {s : State} {C : String} {x y : MethodName} {n : Nat} (hy : y.cls ≠ "java/lang/invoke/MethodHandle" ∧ y.cls ≠ "java/lang/invoke/VarHandle") (hins : (Cond.instantiable C n).before args s = true) (hpriv : (Cond.privateMethod y).before args s = true) (hinst : (Cond.instanceMethod y).before args s = true) (hx : (Cond.selects C x x).before args s = true) (hc : x.cls = y.cls) : (Cond.selects C y y).before args s = true := by
  obtain ⟨c, k, h1, h2, -⟩ := Cond.instantiable_spec hins
  obtain ⟨mk, methM, hnamed, hmethM, -, -⟩ := Cond.instanceMethod_spec hinst
  have hfound : s.methodFound? y.cls y.name y.desc = some mk := State.methodFound?_of_named hnamed hy
  have hsel : selectMethod {} s.vm c mk = .method mk := selectMethod_private hmethM (Cond.privateMethod_at hpriv mk methM hnamed hmethM)
  obtain ⟨c2, r2, m2, q1, q2, q3, q4, k2, hk2, hni⟩ := Cond.selects_spec hx
  have e : m2.cls = mk.cls := by
    have e1 := findClass_of_methodNamed q3
    have e2 := findClass_of_methodNamed hnamed
    rw [hc] at e1
    exact Option.some.inj (e1.symm.trans e2)
  rw [e] at hk2
  simp only [Cond.before, Cond.holds, Cond.value, h1, hfound, hnamed, hsel, hk2]
  simp; exact hni
def lnK : List Nat := [87, 93, 96, 99, 102, 105, 108, 111, 114, 117, 120, 123]
set_option maxRecDepth 100000 in
theorem ln_verb {args : Array Value} {s : State} (hT : ∀ w ∈ lw_tbl, w.before args s = true) (hN : ∀ w ∈ NLST, w.before args s = true) : ∃ ad : Nat → Nat, va_En "EchoMarket$Verb" "LEchoMarket$Verb;" enV enF ad (lnA s) s s.heap ∧ ∀ i, i < 12 → (Term.static "EchoMarket$Verb" (enV.getD i "") "LEchoMarket$Verb;").eval args s none [] s = some (.ref (ad i)) := by
  have hl : ∀ i, i < 12 → (Cond.laysStatic "EchoMarket$Verb" (enV.getD i "") "LEchoMarket$Verb;").before args s = true := fun i hi => hT _ (at_pos (f := fun i => Cond.laysStatic "EchoMarket$Verb" (enV.getD i "") "LEchoMarket$Verb;") [320, 570, 602, 604, 1620, 1621, 1622, 1623, 1624, 1625, 1626, 1627] (by decide +kernel) i hi)
  have hini : (Cond.initialized "EchoMarket$Verb").before args s = true := hT _ (List.mem_of_getElem? (i := 46) (by decide +kernel))
  have hex : ∀ i, i < 12 → (Cond.exactly (.static "EchoMarket$Verb" (enV.getD i "") "LEchoMarket$Verb;") "EchoMarket$Verb").before args s = true := fun i hi => hN _ (at_pos (f := fun i => Cond.exactly (.static "EchoMarket$Verb" (enV.getD i "") "LEchoMarket$Verb;") "EchoMarket$Verb") [4, 31, 37, 44, 305, 318, 332, 347, 363, 380, 398, 417] (by decide +kernel) i hi)
  have hor : ∀ i, i < 12 → (Cond.eq (.field (.static "EchoMarket$Verb" (enV.getD i "") "LEchoMarket$Verb;") "java/lang/Enum" "ordinal" "I") (.int (([0, 1, 2, 3, 4, 5, 6, 7, 8, 9, 10, 11] : List Int32).getD i 0))).before args s = true := fun i hi => hN _ (at_pos (f := fun i => Cond.eq (.field (.static "EchoMarket$Verb" (enV.getD i "") "LEchoMarket$Verb;") "java/lang/Enum" "ordinal" "I") (.int (([0, 1, 2, 3, 4, 5, 6, 7, 8, 9, 10, 11] : List Int32).getD i 0))) [5, 32, 38, 45, 306, 319, 333, 348, 364, 381, 399, 418] (by decide +kernel) i hi)
  have hid : ∀ i, i < 12 → (Cond.eq (.field (.static "EchoMarket$Verb" (enV.getD i "") "LEchoMarket$Verb;") "EchoMarket$Verb" "inDescriptions" "Z") (.int (([0, 0, 1, 1, 1, 1, 1, 1, 1, 1, 0, 0] : List Int32).getD i 0))).before args s = true := fun i hi => hN _ (at_pos (f := fun i => Cond.eq (.field (.static "EchoMarket$Verb" (enV.getD i "") "LEchoMarket$Verb;") "EchoMarket$Verb" "inDescriptions" "Z") (.int (([0, 0, 1, 1, 1, 1, 1, 1, 1, 1, 0, 0] : List Int32).getD i 0))) [7, 34, 40, 47, 308, 321, 335, 350, 366, 383, 401, 420] (by decide +kernel) i hi)
  have his : ∀ i, i < 12 → (Cond.eq (.field (.static "EchoMarket$Verb" (enV.getD i "") "LEchoMarket$Verb;") "EchoMarket$Verb" "inScripts" "Z") (.int (([0, 0, 0, 0, 1, 1, 1, 1, 1, 1, 1, 1] : List Int32).getD i 0))).before args s = true := fun i hi => hN _ (at_pos (f := fun i => Cond.eq (.field (.static "EchoMarket$Verb" (enV.getD i "") "LEchoMarket$Verb;") "EchoMarket$Verb" "inScripts" "Z") (.int (([0, 0, 0, 0, 1, 1, 1, 1, 1, 1, 1, 1] : List Int32).getD i 0))) [8, 35, 41, 48, 309, 322, 336, 351, 367, 384, 402, 421] (by decide +kernel) i hi)
  have hev : ∀ i, i < 12 → ∃ a : Nat, (Term.static "EchoMarket$Verb" (enV.getD i "") "LEchoMarket$Verb;").eval args s none [] s = some (.ref a) := fun i hi => by
    obtain ⟨a, c, cell, k, q1, -⟩ := Cond.exactly_spec (hex i hi)
    exact ⟨a, q1⟩
  have nd : ∀ i, i < 12 → ∀ j, j < 12 → i ≠ j → ([0, 1, 2, 3, 4, 5, 6, 7, 8, 9, 10, 11] : List Int32).getD i 0 ≠ ([0, 1, 2, 3, 4, 5, 6, 7, 8, 9, 10, 11] : List Int32).getD j 0 := by decide +kernel
  obtain ⟨ad, h⟩ := va_Enof (nm := enV) (F := enF) (A := lnA s) hl hini hex (List.forall_mem_cons.mpr ⟨hor, List.forall_mem_cons.mpr ⟨hid, List.forall_mem_cons.mpr ⟨his, fun q hq => absurd hq List.not_mem_nil⟩⟩⟩) (fun i j hi hj hij => by
    obtain ⟨a, ha⟩ := hev i hi
    obtain ⟨b, hb⟩ := hev j hj
    exact Or.inl (ln_ne ha hb (fun t => .field t "java/lang/Enum" "ordinal" "I") (fun h => ln_cgf h) (hor i hi) (hor j hj) (nd i hi j hj hij))) lnA_lt
  refine ⟨ad, h, fun i hi => ?_⟩
  obtain ⟨a, ha⟩ := hev i hi
  have e := ln_uniq (va_Zref (A := lnA s) (hl i hi) hini ha lnA_lt) (h.1 i hi).1
  rw [← Value.ref.inj e]
  exact ha
set_option maxRecDepth 100000 in
theorem ln_fault {args : Array Value} {s : State} (hT : ∀ w ∈ lw_tbl, w.before args s = true) (hN : ∀ w ∈ NLST, w.before args s = true) : ∃ ad : Nat → Nat, va_En "EchoMarket$Fault" "LEchoMarket$Fault;" enX [] ad (lnA s) s s.heap ∧ ∀ i, i < 4 → (Term.static "EchoMarket$Fault" (enX.getD i "") "LEchoMarket$Fault;").eval args s none [] s = some (.ref (ad i)) := by
  have hl : ∀ i, i < 4 → (Cond.laysStatic "EchoMarket$Fault" (enX.getD i "") "LEchoMarket$Fault;").before args s = true := fun i hi => hT _ (at_pos (f := fun i => Cond.laysStatic "EchoMarket$Fault" (enX.getD i "") "LEchoMarket$Fault;") [703, 720, 701, 705] (by decide +kernel) i hi)
  have hini : (Cond.initialized "EchoMarket$Fault").before args s = true := hT _ (List.mem_of_getElem? (i := 55) (by decide +kernel))
  have hex : ∀ i, i < 4 → (Cond.exactly (.static "EchoMarket$Fault" (enX.getD i "") "LEchoMarket$Fault;") "EchoMarket$Fault").before args s = true := fun i hi => hN _ (at_pos (f := fun i => Cond.exactly (.static "EchoMarket$Fault" (enX.getD i "") "LEchoMarket$Fault;") "EchoMarket$Fault") [73, 88, 67, 80] (by decide +kernel) i hi)
  have hor : ∀ i, i < 4 → (Cond.eq (.field (.static "EchoMarket$Fault" (enX.getD i "") "LEchoMarket$Fault;") "java/lang/Enum" "ordinal" "I") (.int (([0, 1, 2, 3] : List Int32).getD i 0))).before args s = true := fun i hi => hN _ (at_pos (f := fun i => Cond.eq (.field (.static "EchoMarket$Fault" (enX.getD i "") "LEchoMarket$Fault;") "java/lang/Enum" "ordinal" "I") (.int (([0, 1, 2, 3] : List Int32).getD i 0))) [74, 89, 68, 81] (by decide +kernel) i hi)
  have hev : ∀ i, i < 4 → ∃ a : Nat, (Term.static "EchoMarket$Fault" (enX.getD i "") "LEchoMarket$Fault;").eval args s none [] s = some (.ref a) := fun i hi => by
    obtain ⟨a, c, cell, k, q1, -⟩ := Cond.exactly_spec (hex i hi)
    exact ⟨a, q1⟩
  have nd : ∀ i, i < 4 → ∀ j, j < 4 → i ≠ j → ([0, 1, 2, 3] : List Int32).getD i 0 ≠ ([0, 1, 2, 3] : List Int32).getD j 0 := by decide +kernel
  obtain ⟨ad, h⟩ := va_Enof (nm := enX) (F := []) (A := lnA s) hl hini hex (fun q hq => absurd hq List.not_mem_nil) (fun i j hi hj hij => by
    obtain ⟨a, ha⟩ := hev i hi
    obtain ⟨b, hb⟩ := hev j hj
    exact Or.inl (ln_ne ha hb (fun t => .field t "java/lang/Enum" "ordinal" "I") (fun h => ln_cgf h) (hor i hi) (hor j hj) (nd i hi j hj hij))) lnA_lt
  refine ⟨ad, h, fun i hi => ?_⟩
  obtain ⟨a, ha⟩ := hev i hi
  have e := ln_uniq (va_Zref (A := lnA s) (hl i hi) hini ha lnA_lt) (h.1 i hi).1
  rw [← Value.ref.inj e]
  exact ha
set_option maxRecDepth 100000 in
theorem ln_str {args : Array Value} {s : State} (hT : ∀ w ∈ lw_tbl, w.before args s = true) (hN : ∀ w ∈ NLST, w.before args s = true) : ∃ adK adV : Nat → Nat, vk_S 12 enLen enByt adK adV (lnA s) s s.heap ∧ ∀ i : Nat, i < 12 → (Term.string "EchoMarket$Verb" (lnK.getD i 0)).eval args s none [] s = some (.ref (adK i)) := by
  have hex : ∀ i, i < 12 → (Cond.exactly (.string "EchoMarket$Verb" (lnK.getD i 0)) "java/lang/String").before args s = true := fun i hi => hN _ (at_pos (f := fun i => Cond.exactly (.string "EchoMarket$Verb" (lnK.getD i 0)) "java/lang/String") [752, 756, 767, 777, 789, 798, 805, 814, 822, 830, 838, 848] (by decide +kernel) i hi)
  have hco : ∀ i, i < 12 → (Cond.eq (.field (.string "EchoMarket$Verb" (lnK.getD i 0)) "java/lang/String" "coder" "B") (.int 0)).before args s = true := fun i hi => hN _ (at_pos (f := fun i => Cond.eq (.field (.string "EchoMarket$Verb" (lnK.getD i 0)) "java/lang/String" "coder" "B") (.int 0)) [753, 757, 768, 778, 790, 799, 806, 815, 823, 831, 839, 849] (by decide +kernel) i hi)
  have har : ∀ i, i < 12 → (Cond.arrayOf (.field (.string "EchoMarket$Verb" (lnK.getD i 0)) "java/lang/String" "value" "[B") .byte).before args s = true := fun i hi => hN _ (at_pos (f := fun i => Cond.arrayOf (.field (.string "EchoMarket$Verb" (lnK.getD i 0)) "java/lang/String" "value" "[B") .byte) [754, 758, 769, 779, 791, 800, 807, 816, 824, 832, 840, 850] (by decide +kernel) i hi)
  have hle : ∀ i, i < 12 → (Cond.eq (.length (.field (.string "EchoMarket$Verb" (lnK.getD i 0)) "java/lang/String" "value" "[B")) (.int (Int32.ofNat (enLen.getD i 0)))).before args s = true := fun i hi => hN _ (at_pos (f := fun i => Cond.eq (.length (.field (.string "EchoMarket$Verb" (lnK.getD i 0)) "java/lang/String" "value" "[B")) (.int (Int32.ofNat (enLen.getD i 0)))) [755, 759, 770, 780, 792, 801, 808, 817, 825, 833, 841, 851] (by decide +kernel) i hi)
  have hel0 : ∀ i, i < 12 → (List.range (enLen.getD i 0)).map (fun j => Cond.eq (.elem (.field (.string "EchoMarket$Verb" (lnK.getD i 0)) "java/lang/String" "value" "[B") (.int (Int32.ofNat j))) (.int ((enByt.getD i []).getD j 0))) = (NLST.drop (([0, 760, 771, 781, 793, 802, 809, 818, 826, 834, 842, 852] : List Nat).getD i 0)).take (enLen.getD i 0) := by decide +kernel
  have hel : ∀ i, i < 12 → ∀ j, j < enLen.getD i 0 → (Cond.eq (.elem (.field (.string "EchoMarket$Verb" (lnK.getD i 0)) "java/lang/String" "value" "[B") (.int (Int32.ofNat j))) (.int ((enByt.getD i []).getD j 0))).before args s = true := fun i hi j hj => hN _ (va_run (hel0 i hi) j hj)
  have hev : ∀ i, i < 12 → ∃ a : Nat, (Term.string "EchoMarket$Verb" (lnK.getD i 0)).eval args s none [] s = some (.ref a) := fun i hi => by
    obtain ⟨a, c, cell, k, q1, -⟩ := Cond.exactly_spec (hex i hi)
    exact ⟨a, q1⟩
  have nd0 : (List.range 12).all (fun i => (List.range 12).all fun j => decide (i = j) || (!decide (Int32.ofNat (enLen.getD i 0) = Int32.ofNat (enLen.getD j 0)) || (decide (0 < enLen.getD i 0) && decide (0 < enLen.getD j 0) && !decide ((enByt.getD i []).getD 0 0 = (enByt.getD j []).getD 0 0)))) = true := by decide +kernel
  have nd : ∀ i, i < 12 → ∀ j, j < 12 → i ≠ j → Int32.ofNat (enLen.getD i 0) = Int32.ofNat (enLen.getD j 0) → 0 < enLen.getD i 0 ∧ 0 < enLen.getD j 0 ∧ (enByt.getD i []).getD 0 0 ≠ (enByt.getD j []).getD 0 0 := fun i hi j hj hij hz => by
    have h := List.all_eq_true.mp (List.all_eq_true.mp nd0 i (List.mem_range.mpr hi)) j (List.mem_range.mpr hj)
    rw [decide_eq_false hij, decide_eq_true hz] at h
    have h9 : (decide (0 < enLen.getD i 0) && decide (0 < enLen.getD j 0) && !decide ((enByt.getD i []).getD 0 0 = (enByt.getD j []).getD 0 0)) = true := h
    obtain ⟨h1, h3⟩ := Bool.and_eq_true_iff.mp h9
    obtain ⟨h1, h2⟩ := Bool.and_eq_true_iff.mp h1
    exact ⟨of_decide_eq_true h1, of_decide_eq_true h2, fun e => by rw [decide_eq_true e] at h3; cases h3⟩
  refine vk_Sof (tm := fun i => Term.string "EchoMarket$Verb" (lnK.getD i 0)) (A := lnA s) (by decide +kernel) hex hco har hle hel (fun i j hi hj hij => ?_) lnA_lt
  obtain ⟨a, ha⟩ := hev i hi
  obtain ⟨b, hb⟩ := hev j hj
  by_cases hz : Int32.ofNat (enLen.getD i 0) = Int32.ofNat (enLen.getD j 0)
  · obtain ⟨z1, z2, z3⟩ := nd i hi j hj hij hz
    exact Or.inl (ln_ne ha hb (fun t => .elem (.field t "java/lang/String" "value" "[B") (.int (Int32.ofNat 0))) (fun h => ln_cge (ln_cgf h)) (hel i hi 0 z1) (hel j hj 0 z2) z3)
  · exact Or.inl (ln_ne ha hb (fun t => .length (.field t "java/lang/String" "value" "[B")) (fun h => ln_cgl (ln_cgf h)) (hle i hi) (hle j hj) hz)
set_option maxRecDepth 100000 in
theorem ln_swm {args : Array Value} {s : State} (hT : ∀ w ∈ lw_tbl, w.before args s = true) (hN : ∀ w ∈ NLST, w.before args s = true) : ∃ t : Nat, va_Z "EchoMarket$1" "$SwitchMap$EchoMarket$Verb" "[I" (.ref t) (lnA s) s s.heap ∧ va_T .int t 12 (fun i => .int (swMap.getD i 0)) (lnA s) s s.heap := by
  have har : (Cond.arrayOf (.static "EchoMarket$1" "$SwitchMap$EchoMarket$Verb" "[I") .int).before args s = true := hN _ (List.mem_of_getElem? (i := 53) (by decide +kernel))
  have hle : (Cond.eq (.length (.static "EchoMarket$1" "$SwitchMap$EchoMarket$Verb" "[I")) (.int 12)).before args s = true := hN _ (List.mem_of_getElem? (i := 54) (by decide +kernel))
  have hel0 : (List.range 12).map (fun i => Cond.eq (.elem (.static "EchoMarket$1" "$SwitchMap$EchoMarket$Verb" "[I") (.int (Int32.ofNat i))) (.int (swMap.getD i 0))) = (NLST.drop 55).take 12 := by decide +kernel
  obtain ⟨t, h1, h2⟩ := va_Tof (N := 12) (f := fun i => .int (swMap.getD i 0)) (A := lnA s) (by decide) har (va_eqt hle) (fun j hj => va_eqt (hN _ (va_run hel0 j hj))) lnA_lt
  exact ⟨t, va_Zref (hT _ (List.mem_of_getElem? (i := 606) (by decide +kernel))) (hT _ (List.mem_of_getElem? (i := 54) (by decide +kernel))) h1 lnA_lt, h2⟩
set_option maxRecDepth 100000 in
theorem ln_ones {args : Array Value} {s : State} (hT : ∀ w ∈ lw_tbl, w.before args s = true) (hN : ∀ w ∈ NLST, w.before args s = true) : ∃ t : Nat, va_Z "java/lang/Integer" "DigitOnes" "[B" (.ref t) (lnA s) s s.heap ∧ va_T .byte t 100 (fun i => .int (48 + nI (i % 10))) (lnA s) s s.heap := by
  have har : (Cond.arrayOf (.static "java/lang/Integer" "DigitOnes" "[B") .byte).before args s = true := hN _ (List.mem_of_getElem? (i := 100) (by decide +kernel))
  have hle : (Cond.eq (.length (.static "java/lang/Integer" "DigitOnes" "[B")) (.int 100)).before args s = true := hN _ (List.mem_of_getElem? (i := 101) (by decide +kernel))
  have hel0 : (List.range 100).map (fun i => Cond.eq (.elem (.static "java/lang/Integer" "DigitOnes" "[B") (.int (Int32.ofNat i))) (.int (48 + nI (i % 10)))) = (NLST.drop 102).take 100 := by decide +kernel
  obtain ⟨t, h1, h2⟩ := va_Tof (N := 100) (f := fun i => .int (48 + nI (i % 10))) (A := lnA s) (by decide) har (va_eqt hle) (fun j hj => va_eqt (hN _ (va_run hel0 j hj))) lnA_lt
  exact ⟨t, va_Zref (hT _ (List.mem_of_getElem? (i := 1211) (by decide +kernel))) (hT _ (List.mem_of_getElem? (i := 36) (by decide +kernel))) h1 lnA_lt, h2⟩
set_option maxRecDepth 100000 in
theorem ln_tens {args : Array Value} {s : State} (hT : ∀ w ∈ lw_tbl, w.before args s = true) (hN : ∀ w ∈ NLST, w.before args s = true) : ∃ t : Nat, va_Z "java/lang/Integer" "DigitTens" "[B" (.ref t) (lnA s) s s.heap ∧ va_T .byte t 100 (fun i => .int (48 + nI (i / 10))) (lnA s) s s.heap := by
  have har : (Cond.arrayOf (.static "java/lang/Integer" "DigitTens" "[B") .byte).before args s = true := hN _ (List.mem_of_getElem? (i := 203) (by decide +kernel))
  have hle : (Cond.eq (.length (.static "java/lang/Integer" "DigitTens" "[B")) (.int 100)).before args s = true := hN _ (List.mem_of_getElem? (i := 204) (by decide +kernel))
  have hel0 : (List.range 100).map (fun i => Cond.eq (.elem (.static "java/lang/Integer" "DigitTens" "[B") (.int (Int32.ofNat i))) (.int (48 + nI (i / 10)))) = (NLST.drop 205).take 100 := by decide +kernel
  obtain ⟨t, h1, h2⟩ := va_Tof (N := 100) (f := fun i => .int (48 + nI (i / 10))) (A := lnA s) (by decide) har (va_eqt hle) (fun j hj => va_eqt (hN _ (va_run hel0 j hj))) lnA_lt
  exact ⟨t, va_Zref (hT _ (List.mem_of_getElem? (i := 1213) (by decide +kernel))) (hT _ (List.mem_of_getElem? (i := 36) (by decide +kernel))) h1 lnA_lt, h2⟩
set_option maxRecDepth 100000 in
theorem ln_verbs {args : Array Value} {s : State} (hT : ∀ w ∈ lw_tbl, w.before args s = true) (hN : ∀ w ∈ NLST, w.before args s = true) {ad : Nat → Nat} (hev : ∀ i, i < 12 → (Term.static "EchoMarket$Verb" (enV.getD i "") "LEchoMarket$Verb;").eval args s none [] s = some (.ref (ad i))) : ∃ t : Nat, va_Z "EchoMarket" "VERBS" "[LEchoMarket$Verb;" (.ref t) (lnA s) s s.heap ∧ va_T (.object "EchoMarket$Verb") t 12 (fun i => .ref (ad i)) (lnA s) s s.heap := by
  have har : (Cond.arrayOf (.static "EchoMarket" "VERBS" "[LEchoMarket$Verb;") (.object "EchoMarket$Verb")).before args s = true := hN _ (List.mem_of_getElem? (i := 12) (by decide +kernel))
  have hle : (Cond.eq (.length (.static "EchoMarket" "VERBS" "[LEchoMarket$Verb;")) (.int 12)).before args s = true := hN _ (List.mem_of_getElem? (i := 13) (by decide +kernel))
  have hel0 : ∀ i, i < 12 → Cond.eq (.elem (.static "EchoMarket" "VERBS" "[LEchoMarket$Verb;") (.int (Int32.ofNat i))) (.static "EchoMarket$Verb" (enV.getD i "") "LEchoMarket$Verb;") ∈ NLST := fun i hi => at_pos (f := fun i => Cond.eq (.elem (.static "EchoMarket" "VERBS" "[LEchoMarket$Verb;") (.int (Int32.ofNat i))) (.static "EchoMarket$Verb" (enV.getD i "") "LEchoMarket$Verb;")) [15, 16, 17, 18, 19, 20, 21, 22, 23, 24, 25, 26] (by decide +kernel) i hi
  obtain ⟨t, h1, h2⟩ := va_Tof (N := 12) (f := fun i => .ref (ad i)) (A := lnA s) (by decide) har (va_eqt hle) (fun j hj => va_eqv (hN _ (hel0 j hj)) (hev j hj)) lnA_lt
  exact ⟨t, va_Zref (hT _ (List.mem_of_getElem? (i := 512) (by decide +kernel))) (hT _ (List.mem_of_getElem? (i := 37) (by decide +kernel))) h1 lnA_lt, h2⟩
set_option maxRecDepth 100000 in
theorem ln_lets {args : Array Value} {s : State} (hT : ∀ w ∈ lw_tbl, w.before args s = true) (hN : ∀ w ∈ NLST, w.before args s = true) {ad adK : Nat → Nat} (hev : ∀ i, i < 12 → (Term.static "EchoMarket$Verb" (enV.getD i "") "LEchoMarket$Verb;").eval args s none [] s = some (.ref (ad i))) (hek : ∀ i : Nat, i < 12 → (Term.string "EchoMarket$Verb" (lnK.getD i 0)).eval args s none [] s = some (.ref (adK i))) : va_Ef 12 "EchoMarket$Verb" "letters" "Ljava/lang/String;" (fun i => .ref (adK i)) ad (lnA s) s s.heap := by
  have hf : ∀ i, i < 12 → (Cond.eq (.field (.static "EchoMarket$Verb" (enV.getD i "") "LEchoMarket$Verb;") "EchoMarket$Verb" "letters" "Ljava/lang/String;") (.string "EchoMarket$Verb" (lnK.getD i 0))).before args s = true := fun i hi => hN _ (at_pos (f := fun i => Cond.eq (.field (.static "EchoMarket$Verb" (enV.getD i "") "LEchoMarket$Verb;") "EchoMarket$Verb" "letters" "Ljava/lang/String;") (.string "EchoMarket$Verb" (lnK.getD i 0))) [6, 33, 39, 46, 307, 320, 334, 349, 365, 382, 400, 419] (by decide +kernel) i hi)
  exact va_Efof (E := "EchoMarket$Verb") (d0 := "LEchoMarket$Verb;") (nm := enV) (tm := fun i => Term.string "EchoMarket$Verb" (lnK.getD i 0)) hev hf hek lnA_lt
set_option maxRecDepth 100000 in
theorem ln_NL {args : Array Value} {s : State} (hT : ∀ w ∈ lw_tbl, w.before args s = true) : NL s := by
  refine ⟨fun q hq => va_Nw.of rfl (hT _ (at_all (f := fun q : String × Nat × MethodName × String => Cond.methodLinkNest q.1 q.2.1 q.2.2.1 q.2.2.2) (l := nestL) [67, 116, 160, 199, 309, 315, 362, 484, 495, 498, 526, 699, 1068] (by decide +kernel) q hq)), va_Nw.of rfl (hT _ (List.mem_of_getElem? (i := 511) (by decide +kernel)))⟩
set_option maxRecDepth 100000 in
theorem ln_selL {args : Array Value} {s : State} (hT : ∀ w ∈ lw_tbl, w.before args s = true) : ∀ x ∈ selL, va_Nw (.selects RJ4 x x) s := by
  refine fun x hx => va_Nw.of (A := args) rfl ?_
  have hi : (Cond.instantiable "java/lang/StringBuilder" 4).before args s = true := hT _ (List.mem_of_getElem? (i := 402) (by decide +kernel))
  have hx1 : (Cond.selects "java/lang/StringBuilder" ⟨"java/lang/AbstractStringBuilder", "isLatin1", "()Z"⟩ ⟨"java/lang/AbstractStringBuilder", "isLatin1", "()Z"⟩).before args s = true := hT _ (List.mem_of_getElem? (i := 1125) (by decide +kernel))
  rcases List.mem_cons.mp hx with rfl | hx
  · exact ln_sel ⟨by decide +kernel, by decide +kernel⟩ hi (hT _ (List.mem_of_getElem? (i := 1092) (by decide +kernel))) (hT _ (List.mem_of_getElem? (i := 1093) (by decide +kernel))) hx1 rfl
  rcases List.mem_cons.mp hx with rfl | hx
  · exact ln_sel ⟨by decide +kernel, by decide +kernel⟩ hi (hT _ (List.mem_of_getElem? (i := 1096) (by decide +kernel))) (hT _ (List.mem_of_getElem? (i := 1097) (by decide +kernel))) hx1 rfl
  rcases List.mem_cons.mp hx with rfl | hx
  · exact ln_sel ⟨by decide +kernel, by decide +kernel⟩ hi (hT _ (List.mem_of_getElem? (i := 1144) (by decide +kernel))) (hT _ (List.mem_of_getElem? (i := 1145) (by decide +kernel))) hx1 rfl
  rcases List.mem_cons.mp hx with rfl | hx
  · exact ln_sel ⟨by decide +kernel, by decide +kernel⟩ hi (hT _ (List.mem_of_getElem? (i := 1148) (by decide +kernel))) (hT _ (List.mem_of_getElem? (i := 1149) (by decide +kernel))) hx1 rfl
  cases hx
set_option maxRecDepth 100000 in
theorem ln_st1 {args : Array Value} {s : State} (hT : ∀ w ∈ lw_tbl, w.before args s = true) (hN : ∀ w ∈ NLST, w.before args s = true) : va_Z "java/lang/String" "COMPACT_STRINGS" "Z" (.int 1) (lnA s) s s.heap := va_Zof (hT _ (List.mem_of_getElem? (i := 411) (by decide +kernel))) (hT _ (List.mem_of_getElem? (i := 28) (by decide +kernel))) (va_eqt (hN _ (List.mem_of_getElem? (i := 9) (by decide +kernel)))) lnA_lt
set_option maxRecDepth 100000 in
theorem ln_st2 {args : Array Value} {s : State} (hT : ∀ w ∈ lw_tbl, w.before args s = true) (hN : ∀ w ∈ NLST, w.before args s = true) : va_Zq "jdk/internal/util/Preconditions" "SIOOBE_FORMATTER" "Ljava/util/function/BiFunction;" (lnA s) s s.heap := va_Zqof (hT _ (List.mem_of_getElem? (i := 545) (by decide +kernel))) (hT _ (List.mem_of_getElem? (i := 34) (by decide +kernel))) (hN _ (List.mem_of_getElem? (i := 27) (by decide +kernel))) lnA_lt
set_option maxRecDepth 100000 in
theorem ln_AO {args : Array Value} {s : State} (hT : ∀ w ∈ lw_tbl, w.before args s = true) : AO s := fun C hC => va_AO.of (hT _ (at_all (f := fun C => Cond.arrayOver (.object C)) (l := aoL) [110, 112, 114, 361, 389] (by decide +kernel) C hC))
set_option maxRecDepth 100000 in
theorem ln_cls {args : Array Value} {s : State} (hT : ∀ w ∈ lw_tbl, w.before args s = true) : ∀ c : Nat, ∃ x : ClassId × (Nat → Nat), ∀ q : vw_C, jcl[c]? = some q → u_Kn s q.1 q.2.1 q.2.2 x.1 x.2 := by
  have hW : ∀ w ∈ WALL, w.before args s = true := fun w hw => hT w (List.mem_filter.mp hw).1
  intro c
  match c with
  | 0 =>
    obtain ⟨cC, iS, h⟩ := u_known (T := TX1) (N := 7) hW cb0.2.1 (hT (Cond.instantiable RX1 7) (List.mem_of_getElem? (i := 314) (by decide +kernel)))
    exact ⟨(cC, iS), fun q hq => by
      have e : (RX1, TX1, 7) = q := Option.some.inj hq
      subst e
      exact h⟩
  | 1 =>
    obtain ⟨cC, iS, h⟩ := u_known (T := TX2) (N := 7) hW cb1.2.1 (hT (Cond.instantiable RX2 7) (List.mem_of_getElem? (i := 159) (by decide +kernel)))
    exact ⟨(cC, iS), fun q hq => by
      have e : (RX2, TX2, 7) = q := Option.some.inj hq
      subst e
      exact h⟩
  | 2 =>
    obtain ⟨cC, iS, h⟩ := u_known (T := TX3) (N := 1) hW cb2.2.1 (hT (Cond.instantiable RX3 1) (List.mem_of_getElem? (i := 308) (by decide +kernel)))
    exact ⟨(cC, iS), fun q hq => by
      have e : (RX3, TX3, 1) = q := Option.some.inj hq
      subst e
      exact h⟩
  | 3 =>
    obtain ⟨cC, iS, h⟩ := u_known (T := TX5) (N := 3) hW cb3.2.1 (hT (Cond.instantiable RX5 3) (List.mem_of_getElem? (i := 383) (by decide +kernel)))
    exact ⟨(cC, iS), fun q hq => by
      have e : (RX5, TX5, 3) = q := Option.some.inj hq
      subst e
      exact h⟩
  | 4 =>
    obtain ⟨cC, iS, h⟩ := u_known (T := TX6) (N := 13) hW cb4.2.1 (hT (Cond.instantiable RX6 13) (List.mem_of_getElem? (i := 104) (by decide +kernel)))
    exact ⟨(cC, iS), fun q hq => by
      have e : (RX6, TX6, 13) = q := Option.some.inj hq
      subst e
      exact h⟩
  | 5 =>
    obtain ⟨cC, iS, h⟩ := u_known (T := TX7) (N := 7) hW cb5.2.1 (hT (Cond.instantiable RX7 7) (List.mem_of_getElem? (i := 355) (by decide +kernel)))
    exact ⟨(cC, iS), fun q hq => by
      have e : (RX7, TX7, 7) = q := Option.some.inj hq
      subst e
      exact h⟩
  | 6 =>
    obtain ⟨cC, iS, h⟩ := u_known (T := TX8) (N := 11) hW cb6.2.1 (hT (Cond.instantiable RX8 11) (List.mem_of_getElem? (i := 198) (by decide +kernel)))
    exact ⟨(cC, iS), fun q hq => by
      have e : (RX8, TX8, 11) = q := Option.some.inj hq
      subst e
      exact h⟩
  | 7 =>
    obtain ⟨cC, iS, h⟩ := u_known (T := TX9) (N := 9) hW cb7.2.1 (hT (Cond.instantiable RX9 9) (List.mem_of_getElem? (i := 66) (by decide +kernel)))
    exact ⟨(cC, iS), fun q hq => by
      have e : (RX9, TX9, 9) = q := Option.some.inj hq
      subst e
      exact h⟩
  | 8 =>
    obtain ⟨cC, iS, h⟩ := u_known (T := TX10) (N := 8) hW cb8.2.1 (hT (Cond.instantiable RX10 8) (List.mem_of_getElem? (i := 115) (by decide +kernel)))
    exact ⟨(cC, iS), fun q hq => by
      have e : (RX10, TX10, 8) = q := Option.some.inj hq
      subst e
      exact h⟩
  | 9 =>
    obtain ⟨cC, iS, h⟩ := u_known (T := TX12) (N := 9) hW cb9.2.1 (hT (Cond.instantiable RX12 9) (List.mem_of_getElem? (i := 58) (by decide +kernel)))
    exact ⟨(cC, iS), fun q hq => by
      have e : (RX12, TX12, 9) = q := Option.some.inj hq
      subst e
      exact h⟩
  | 10 =>
    obtain ⟨cC, iS, h⟩ := u_known (T := TX13) (N := 12) hW cb10.2.1 (hT (Cond.instantiable RX13 12) (List.mem_of_getElem? (i := 1011) (by decide +kernel)))
    exact ⟨(cC, iS), fun q hq => by
      have e : (RX13, TX13, 12) = q := Option.some.inj hq
      subst e
      exact h⟩
  | 11 =>
    obtain ⟨cC, iS, h⟩ := u_known (T := TJ4) (N := 4) hW cb11.2.1 (hT (Cond.instantiable RJ4 4) (List.mem_of_getElem? (i := 402) (by decide +kernel)))
    exact ⟨(cC, iS), fun q hq => by
      have e : (RJ4, TJ4, 4) = q := Option.some.inj hq
      subst e
      exact h⟩
  | 12 =>
    obtain ⟨cC, iS, h⟩ := u_known (T := TJ0) (N := 4) hW cb12.2.1 (hT (Cond.instantiable RJ0 4) (List.mem_of_getElem? (i := 1463) (by decide +kernel)))
    exact ⟨(cC, iS), fun q hq => by
      have e : (RJ0, TJ0, 4) = q := Option.some.inj hq
      subst e
      exact h⟩
  | n + 13 =>
    exact ⟨(0, fun _ => 0), fun q hq => by
      have h9 : n + 13 < 13 := (List.getElem?_eq_some_iff.mp hq).1
      omega⟩
def lwO : List String := ["EchoMarketLaw$World", "EchoMarketLaw$World", "EchoMarketLaw$World", "EchoMarketLaw$World", "EchoMarketLaw", "EchoMarketLaw$World", "EchoMarketLaw$World", "EchoMarketLaw$World", "EchoMarketLaw$World", "EchoMarketLaw", "EchoMarketLaw$World"]
def lwK : List Nat := [53, 36, 73, 34, 193, 62, 38, 79, 71, 167, 48]
set_option maxRecDepth 100000 in
theorem ln_lw {args : Array Value} {s : State} (hT : ∀ w ∈ lw_tbl, w.before args s = true) (hN : ∀ w ∈ NLST, w.before args s = true) : ∃ adK adV : Nat → Nat, vk_S 11 lwLen lwByt adK adV (lnA s) s s.heap ∧ ∀ i : Nat, i < 11 → (Term.string (lwO.getD i "") (lwK.getD i 0)).eval args s none [] s = some (.ref (adK i)) := by
  have hex : ∀ i, i < 11 → (Cond.exactly (.string (lwO.getD i "") (lwK.getD i 0)) "java/lang/String").before args s = true := fun i hi => hN _ (at_pos (f := fun i => Cond.exactly (.string (lwO.getD i "") (lwK.getD i 0)) "java/lang/String") [697, 668, 727, 663, 747, 702, 675, 733, 716, 742, 685] (by decide +kernel) i hi)
  have hco : ∀ i, i < 11 → (Cond.eq (.field (.string (lwO.getD i "") (lwK.getD i 0)) "java/lang/String" "coder" "B") (.int 0)).before args s = true := fun i hi => hN _ (at_pos (f := fun i => Cond.eq (.field (.string (lwO.getD i "") (lwK.getD i 0)) "java/lang/String" "coder" "B") (.int 0)) [698, 669, 728, 664, 748, 703, 676, 734, 717, 743, 686] (by decide +kernel) i hi)
  have har : ∀ i, i < 11 → (Cond.arrayOf (.field (.string (lwO.getD i "") (lwK.getD i 0)) "java/lang/String" "value" "[B") .byte).before args s = true := fun i hi => hN _ (at_pos (f := fun i => Cond.arrayOf (.field (.string (lwO.getD i "") (lwK.getD i 0)) "java/lang/String" "value" "[B") .byte) [699, 670, 729, 665, 749, 704, 677, 735, 718, 744, 687] (by decide +kernel) i hi)
  have hle : ∀ i, i < 11 → (Cond.eq (.length (.field (.string (lwO.getD i "") (lwK.getD i 0)) "java/lang/String" "value" "[B")) (.int (Int32.ofNat (lwLen.getD i 0)))).before args s = true := fun i hi => hN _ (at_pos (f := fun i => Cond.eq (.length (.field (.string (lwO.getD i "") (lwK.getD i 0)) "java/lang/String" "value" "[B")) (.int (Int32.ofNat (lwLen.getD i 0)))) [700, 671, 730, 666, 750, 705, 678, 736, 719, 745, 688] (by decide +kernel) i hi)
  have hel0 : ∀ i, i < 11 → (List.range (lwLen.getD i 0)).map (fun j => Cond.eq (.elem (.field (.string (lwO.getD i "") (lwK.getD i 0)) "java/lang/String" "value" "[B") (.int (Int32.ofNat j))) (.int ((lwByt.getD i []).getD j 0))) = (NLST.drop (([701, 672, 731, 667, 751, 706, 679, 737, 720, 746, 689] : List Nat).getD i 0)).take (lwLen.getD i 0) := by decide +kernel
  have hel : ∀ i, i < 11 → ∀ j, j < lwLen.getD i 0 → (Cond.eq (.elem (.field (.string (lwO.getD i "") (lwK.getD i 0)) "java/lang/String" "value" "[B") (.int (Int32.ofNat j))) (.int ((lwByt.getD i []).getD j 0))).before args s = true := fun i hi j hj => hN _ (va_run (hel0 i hi) j hj)
  have hev : ∀ i, i < 11 → ∃ a : Nat, (Term.string (lwO.getD i "") (lwK.getD i 0)).eval args s none [] s = some (.ref a) := fun i hi => by
    obtain ⟨a, c, cell, k, q1, -⟩ := Cond.exactly_spec (hex i hi)
    exact ⟨a, q1⟩
  have nd0 : (List.range 11).all (fun i => (List.range 11).all fun j => decide (i = j) || (!decide (Int32.ofNat (lwLen.getD i 0) = Int32.ofNat (lwLen.getD j 0)) || (decide (0 < lwLen.getD i 0) && decide (0 < lwLen.getD j 0) && !decide ((lwByt.getD i []).getD 0 0 = (lwByt.getD j []).getD 0 0)))) = true := by decide +kernel
  have nd : ∀ i, i < 11 → ∀ j, j < 11 → i ≠ j → Int32.ofNat (lwLen.getD i 0) = Int32.ofNat (lwLen.getD j 0) → 0 < lwLen.getD i 0 ∧ 0 < lwLen.getD j 0 ∧ (lwByt.getD i []).getD 0 0 ≠ (lwByt.getD j []).getD 0 0 := fun i hi j hj hij hz => by
    have h := List.all_eq_true.mp (List.all_eq_true.mp nd0 i (List.mem_range.mpr hi)) j (List.mem_range.mpr hj)
    rw [decide_eq_false hij, decide_eq_true hz] at h
    have h9 : (decide (0 < lwLen.getD i 0) && decide (0 < lwLen.getD j 0) && !decide ((lwByt.getD i []).getD 0 0 = (lwByt.getD j []).getD 0 0)) = true := h
    obtain ⟨h1, h3⟩ := Bool.and_eq_true_iff.mp h9
    obtain ⟨h1, h2⟩ := Bool.and_eq_true_iff.mp h1
    exact ⟨of_decide_eq_true h1, of_decide_eq_true h2, fun e => by rw [decide_eq_true e] at h3; cases h3⟩
  refine vk_Sof (tm := fun i => Term.string (lwO.getD i "") (lwK.getD i 0)) (A := lnA s) (by decide +kernel) hex hco har hle hel (fun i j hi hj hij => ?_) lnA_lt
  obtain ⟨a, ha⟩ := hev i hi
  obtain ⟨b, hb⟩ := hev j hj
  by_cases hz : Int32.ofNat (lwLen.getD i 0) = Int32.ofNat (lwLen.getD j 0)
  · obtain ⟨z1, z2, z3⟩ := nd i hi j hj hij hz
    exact Or.inl (ln_ne ha hb (fun t => .elem (.field t "java/lang/String" "value" "[B") (.int (Int32.ofNat 0))) (fun h => ln_cge (ln_cgf h)) (hel i hi 0 z1) (hel j hj 0 z2) z3)
  · exact Or.inl (ln_ne ha hb (fun t => .length (.field t "java/lang/String" "value" "[B")) (fun h => ln_cgl (ln_cgf h)) (hle i hi) (hle j hj) hz)
set_option maxRecDepth 100000 in
theorem ln_lref {args : Array Value} {s : State} (hT : ∀ w ∈ lw_tbl, w.before args s = true) {adK : Nat → Nat} (hev : ∀ i : Nat, i < 11 → (Term.string (lwO.getD i "") (lwK.getD i 0)).eval args s none [] s = some (.ref (adK i))) : ∀ x ∈ lwRef, vk_R x.1 x.2.1 x.2.2.1 (adK x.2.2.2) s := by
  have h1 : ∀ x ∈ lwRef, Cond.stringRef x.1 x.2.1 x.2.2.1 ∈ lw_tbl := at_all (f := fun x : String × Nat × String × Nat => Cond.stringRef x.1 x.2.1 x.2.2.1) (l := lwRef) [1077, 1078, 1079, 1182, 1196, 1226, 1235, 1236, 1258, 1455, 1520] (by decide +kernel)
  have h2 : ∀ x ∈ lwRef, x.2.2.2 < 11 ∧ lwO.getD x.2.2.2 "" = x.1 ∧ lwK.getD x.2.2.2 0 = x.2.1 := by decide +kernel
  intro x hx
  obtain ⟨e1, e2, e3⟩ := h2 x hx
  have h3 := hev _ e1
  rw [e2, e3] at h3
  exact vk_R.of (hT _ (h1 x hx)) h3
set_option maxRecDepth 100000 in
theorem ln_fw {args : Array Value} {s : State} (hT : ∀ w ∈ lw_tbl, w.before args s = true) : ∀ x ∈ fwL, va_Fw x.1 x.2.1 x.2.2 s := by
  intro x hx
  refine va_Fw.of (A := args) (hT _ (at_all (f := fun x : String × MethodName × MethodName => Cond.declares x.2.1) (l := fwL) [1265, 1282, 1265, 1282] (by decide +kernel) x hx)) (hT _ (at_all (f := fun x : String × MethodName × MethodName => Cond.interfaceMethod x.2.1.cls x.2.1.cls x.2.1.name x.2.1.desc) (l := fwL) [1264, 1281, 1264, 1281] (by decide +kernel) x hx)) (hT _ (at_all (f := fun x : String × MethodName × MethodName => Cond.publicMethod x.2.2) (l := fwL) [1269, 1285, 1274, 1289] (by decide +kernel) x hx)) (hT _ (at_all (f := fun x : String × MethodName × MethodName => Cond.unhidden x.1 x.2.1.name x.2.1.desc) (l := fwL) [1268, 1284, 1272, 1287] (by decide +kernel) x hx)) (hT _ (at_all (f := fun x : String × MethodName × MethodName => Cond.castable x.1 x.2.1.cls) (l := fwL) [1266, 1266, 1270, 1270] (by decide +kernel) x hx))
theorem ln_arrA {args : Array Value} {s : State} (h : (Cond.arrayOver (.array .int)).before args s = true) : ∃ (cI cA : ClassId) (k : Class), s.vm.findClass "[I" = some cI ∧ s.vm.classes[cA]? = some k ∧ k.kind = .array cI (.array .int) ∧ s.vm.findClass "[[I" = some cA := by
  simp only [Cond.before, Cond.holds, Cond.value, beq_iff_eq] at h
  cases hc : s.vm.findClass (FieldType.array .int).toString with
  | none => simp [hc] at h
  | some comp =>
    simp only [hc, Option.bind_some, Option.bind_eq_some_iff, Option.map_eq_some_iff] at h
    obtain ⟨c, hi, k, hk, hb⟩ := h
    obtain ⟨hlt, hp, -⟩ := Array.findIdx?_eq_some_iff_getElem.mp hi
    have hkk : s.vm.classes[c] = k := (Array.getElem?_eq_some_iff.mp hk).2
    rw [hkk] at hp
    cases hkind : k.kind with
    | array component ty =>
      rw [hkind] at hb hp
      simp at hb hp
      exact ⟨comp, c, k, hc, hk, by rw [hkind, hp, hb.1], hb.2⟩
    | _ => rw [hkind] at hb; simp at hb
def lnGa (aV aF aK aW aL aM : Nat → Nat) (t0 t1 t5 t6 b : Nat) : Nat → Nat := fun i => if i < 12 then aV i else if i < 16 then aF (i - 12) else if i < 28 then aK (i - 16) else if i < 40 then aW (i - 28) else if i = 40 then t0 else if i = 41 then t1 else if i < 46 then t5 else if i < 50 then t6 else if i < 70 then aL (i - 50) else if i < 90 then aM (i - 70) else b
def lnGc (c0 c1 c2 c3 c4 c5 c6 c7 c8 : ClassId) : Nat → ClassId := fun i => if i = 0 then c0 else if i = 1 then c1 else if i = 2 then c2 else if i = 3 then c3 else if i = 4 then c4 else if i = 5 then c5 else if i = 6 then c6 else if i = 7 then c7 else c8
set_option maxRecDepth 100000 in
theorem launch {args : Array Value} {s : State} (hT : ∀ w ∈ lw_tbl, w.before args s = true) (hN : ∀ w ∈ NLST, w.before args s = true) {b L : Nat} {xs : Nat → Int32} (hXs : va_X b L xs s s.heap) (hbl : b < s.heap.size) (hL : L < 2 ^ 31) : ∃ G : GG, gn G = s.heap.size ∧ g0 G = s.heap.size ∧ gz G = s.heap.size ∧ gA G = (fun q => s.heap.size ≤ q) ∧ gN G = L ∧ gX G = xs ∧ ga G 90 = b ∧ va_K (gD G) jcl (jtys G) s ∧ GL G s s.heap := by
  have hAO := ln_AO hT
  obtain ⟨D, hD⟩ := Classical.axiomOfChoice (ln_cls hT)
  obtain ⟨c0, k0⟩ := ln_arrI (hT _ (List.mem_of_getElem? (i := 101) (by decide +kernel)))
  obtain ⟨c1, k1⟩ := ln_arrB (hT _ (List.mem_of_getElem? (i := 100) (by decide +kernel)))
  obtain ⟨c2, k2⟩ := ln_arrJ (hT _ (List.mem_of_getElem? (i := 102) (by decide +kernel)))
  obtain ⟨c3, k3⟩ := ln_arrO (hAO RX10 (by simp [aoL, RX10]))
  obtain ⟨c4, k4⟩ := ln_arrO (hAO RX2 (by simp [aoL, RX2]))
  obtain ⟨c5, k5⟩ := ln_arrO (hAO RX8 (by simp [aoL, RX8]))
  obtain ⟨c6, k6⟩ := ln_arrO (hAO RX6 (by simp [aoL, RX6]))
  obtain ⟨c7, k7⟩ := ln_arrO (hAO RX1 (by simp [aoL, RX1]))
  obtain ⟨cI, c8, k9, i1, i2, i3, i4⟩ := ln_arrA (hT _ (List.mem_of_getElem? (i := 1017) (by decide +kernel)))
  have hcI : cI = c0 := Option.some.inj (i1.symm.trans k0.2)
  subst hcI
  have k8 : ArrOfT s c8 (.array .int) ∧ va_RA s c8 (.array .int) := ⟨fun n z => ⟨fun k h => (by cases h), k9, i2, cI, i3⟩, i4⟩
  obtain ⟨aV, hV, hVe⟩ := ln_verb hT hN
  obtain ⟨aF, hF, -⟩ := ln_fault hT hN
  obtain ⟨aK, aW, hS, hSe⟩ := ln_str hT hN
  obtain ⟨aL, aM, hLw, hLe⟩ := ln_lw hT hN
  obtain ⟨t0, hz0, ht0⟩ := ln_verbs hT hN hVe
  obtain ⟨t1, hz1, ht1⟩ := ln_swm hT hN
  obtain ⟨t5, hz5, ht5⟩ := ln_ones hT hN
  obtain ⟨t6, hz6, ht6⟩ := ln_tens hT hN
  have hE := ln_lets hT hN hVe hSe
  have hR := ln_lref hT hLe
  obtain ⟨GA, hGA⟩ : ∃ z, z = lnGa aV aF aK aW aL aM t0 t1 t5 t6 b := ⟨_, rfl⟩
  have e1 : ∀ i, i < 12 → GA i = aV i := fun i hi => by rw [hGA]; exact if_pos hi
  have e2 : ∀ i, i < 4 → GA (12 + i) = aF i := fun i hi => by
    rw [hGA]; unfold lnGa
    rw [if_neg (by omega), if_pos (by omega), Nat.add_sub_cancel_left]
  have e3 : ∀ i, i < 12 → GA (16 + i) = aK i := fun i hi => by
    rw [hGA]; unfold lnGa
    rw [if_neg (by omega), if_neg (by omega), if_pos (by omega), Nat.add_sub_cancel_left]
  have e4 : ∀ i, i < 12 → GA (28 + i) = aW i := fun i hi => by
    rw [hGA]; unfold lnGa
    rw [if_neg (by omega), if_neg (by omega), if_neg (by omega), if_pos (by omega), Nat.add_sub_cancel_left]
  have e5 : ∀ i, i < 11 → GA (50 + i) = aL i := fun i hi => by
    rw [hGA]; unfold lnGa
    rw [if_neg (by omega), if_neg (by omega), if_neg (by omega), if_neg (by omega), if_neg (by omega), if_neg (by omega), if_neg (by omega), if_neg (by omega), if_pos (by omega), Nat.add_sub_cancel_left]
  have e6 : ∀ i, i < 11 → GA (70 + i) = aM i := fun i hi => by
    rw [hGA]; unfold lnGa
    rw [if_neg (by omega), if_neg (by omega), if_neg (by omega), if_neg (by omega), if_neg (by omega), if_neg (by omega), if_neg (by omega), if_neg (by omega), if_neg (by omega), if_pos (by omega), Nat.add_sub_cancel_left]
  have f40 : GA 40 = t0 := by rw [hGA]; rfl
  have f41 : GA 41 = t1 := by rw [hGA]; rfl
  have f45 : GA 45 = t5 := by rw [hGA]; rfl
  have f46 : GA 46 = t6 := by rw [hGA]; rfl
  have f90 : GA 90 = b := by rw [hGA]; rfl
  refine ⟨((fun c => (D c).1, fun c => (D c).2), lnGc cI c1 c2 c3 c4 c5 c6 c7 c8, s.heap.size, GA, s.heap.size, s.heap.size, (fun q => s.heap.size ≤ q), L, xs), rfl, rfl, rfl, rfl, rfl, rfl, f90, ⟨fun c q hc => hD c q hc, fun k q hk => ?_⟩, ?_⟩
  · match k, hk with
    | 0, hk =>
      have e := Option.some.inj hk
      subst e
      exact k0
    | 1, hk =>
      have e := Option.some.inj hk
      subst e
      exact k1
    | 2, hk =>
      have e := Option.some.inj hk
      subst e
      exact k2
    | 3, hk =>
      have e := Option.some.inj hk
      subst e
      exact k3
    | 4, hk =>
      have e := Option.some.inj hk
      subst e
      exact k4
    | 5, hk =>
      have e := Option.some.inj hk
      subst e
      exact k5
    | 6, hk =>
      have e := Option.some.inj hk
      subst e
      exact k6
    | 7, hk =>
      have e := Option.some.inj hk
      subst e
      exact k7
    | 8, hk =>
      have e := Option.some.inj hk
      subst e
      exact k8
    | n + 9, hk =>
      have h9 : n + 9 < 9 := (List.getElem?_eq_some_iff.mp hk).1
      omega
  · refine ⟨ln_Enc hV e1, ln_Enc hF e2, ?_, ?_, ?_, ?_, ?_, ?_, ln_NL hT, ln_st1 hT hN, ln_st2 hT hN, ?_, ?_, ?_, ?_, ?_, ?_, ln_fw hT, ?_, hL, hAO, ⟨k9, i2, i3⟩, ln_selL hT⟩
    · intro i hi
      have h := hE i hi
      show va_OF _ _ _ (.ref (GA (16 + i))) (GA i) _ _ _
      rw [e3 i hi, e1 i hi]
      exact h
    · refine ⟨fun i hi => ?_, fun i j hi hj h => hS.2 i j hi hj ?_⟩
      · have h := hS.1 i hi
        show va_O _ (GA (16 + i)) _ _ _ ∧ va_OF _ _ _ _ (GA (16 + i)) _ _ _ ∧ va_OF _ _ _ (.ref (GA (28 + i))) (GA (16 + i)) _ _ _ ∧ va_T _ (GA (28 + i)) _ _ _ _ _
        rw [e3 i hi, e4 i hi]
        exact h
      · rw [← e3 i hi, ← e3 j hj]
        exact h
    · show va_Z _ _ _ (.ref (GA 40)) _ _ _
      rw [f40]
      exact hz0
    · show va_T _ (GA 40) _ (fun i => .ref (GA i)) _ _ _
      rw [f40]
      obtain ⟨cell, p1, p2, p3, p4, p5, p6, p7⟩ := ht0
      exact ⟨cell, p1, p2, p3, p4, p5, fun j hj => by rw [p6 j hj]; exact congrArg (fun x => some (Value.ref x)) (e1 j hj).symm, p7⟩
    · show va_Z _ _ _ (.ref (GA 41)) _ _ _
      rw [f41]
      exact hz1
    · show va_T _ (GA 41) _ _ _ _ _
      rw [f41]
      exact ht1
    · show va_Z _ _ _ (.ref (GA 45)) _ _ _
      rw [f45]
      exact hz5
    · show va_T _ (GA 45) _ _ _ _ _
      rw [f45]
      exact ht5
    · show va_Z _ _ _ (.ref (GA 46)) _ _ _
      rw [f46]
      exact hz6
    · show va_T _ (GA 46) _ _ _ _ _
      rw [f46]
      exact ht6
    · refine ⟨fun i hi => ?_, fun i j hi hj h => hLw.2 i j hi hj ?_⟩
      · have h := hLw.1 i hi
        show va_O _ (GA (50 + i)) _ _ _ ∧ va_OF _ _ _ _ (GA (50 + i)) _ _ _ ∧ va_OF _ _ _ (.ref (GA (70 + i))) (GA (50 + i)) _ _ _ ∧ va_T _ (GA (70 + i)) _ _ _ _ _
        rw [e5 i hi, e6 i hi]
        exact h
      · rw [← e5 i hi, ← e5 j hj]
        exact h
    · intro x hx
      show vk_R _ _ _ (GA (50 + x.2.2.2)) _
      have hlt : ∀ x ∈ lwRef, x.2.2.2 < 11 := by decide +kernel
      rw [e5 _ (hlt x hx)]
      exact hR x hx
    · show va_T .int (GA 90) L (fun i => .int (xs i)) _ _ _
      rw [f90]
      obtain ⟨scr, p1, p2, p3, p4, p5⟩ := hXs
      exact ⟨scr, p1, p2, p3, Nat.le_of_eq p4.symm, congrArg Nat.toInt32 p4, p5, Nat.not_le.mpr hbl⟩
