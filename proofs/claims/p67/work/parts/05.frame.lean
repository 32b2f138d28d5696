/-! THE FRAME: one world for all methods. Every object stands at a fixed place behind the law's start (region r, cell j); a world says what its ints and longs hold. J: from every heap that holds the world, the machine at this instruction comes to Q. -/
abbrev MM : Type := (Nat → Nat → Int32) × (Nat → Nat → Int64)
abbrev Wd : Type := Nat → MM
/-- a frame: the classes, the array classes, the base of its regions, the constants' places, the heap's size at the law's start, the size from which cells are new, the area that may change, the script: its length, its ints -/
abbrev GG : Type := va_G × (Nat → ClassId) × Nat × (Nat → Nat) × Nat × Nat × (Nat → Prop) × Nat × (Nat → Int32)
abbrev gD (G : GG) : va_G := G.1
abbrev gc (G : GG) : Nat → ClassId := G.2.1
abbrev gn (G : GG) : Nat := G.2.2.1
abbrev ga (G : GG) : Nat → Nat := G.2.2.2.1
abbrev g0 (G : GG) : Nat := G.2.2.2.2.1
abbrev gz (G : GG) : Nat := G.2.2.2.2.2.1
abbrev gA (G : GG) : Nat → Prop := G.2.2.2.2.2.2.1
abbrev gN (G : GG) : Nat := G.2.2.2.2.2.2.2.1
abbrev gX (G : GG) : Nat → Int32 := G.2.2.2.2.2.2.2.2
abbrev gS (G : GG) : Nat → Prop := fun q => g0 G ≤ q
/-- the same constants, another region and area -/
abbrev upG (G : GG) (n z : Nat) (A : Nat → Prop) : GG := (gD G, gc G, n, ga G, g0 G, z, A, gN G, gX G)
/-- an area lies behind the law's start and holds what is new -/
def GV (G : GG) : Prop := (∀ q, gA G q → g0 G ≤ q) ∧ (∀ q, gz G ≤ q → gA G q)
abbrev jcl : List vw_C := [(RX1, TX1, 7), (RX2, TX2, 7), (RX3, TX3, 1), (RX5, TX5, 3), (RX6, TX6, 13), (RX7, TX7, 7), (RX8, TX8, 11), (RX9, TX9, 9), (RX10, TX10, 8), (RX12, TX12, 9), (RX13, TX13, 12), (RJ4, TJ4, 4), (RJ0, TJ0, 4)]
abbrev jtys (G : GG) : List (ClassId × FieldType) := [(gc G 0, .int), (gc G 1, .byte), (gc G 2, .long), (gc G 3, .object RX10), (gc G 4, .object RX2), (gc G 5, .object RX8), (gc G 6, .object RX6), (gc G 7, .object RX1), (gc G 8, .array .int)]
def offr : Nat → Nat
  | 0 => 0 | 1 => 6 | 2 => 56 | 3 => 106 | 4 => 195 | 5 => 245 | 6 => 295 | 7 => 345 | 8 => 395 | 9 => 445
  | 10 => 1 | 11 => 156 | 12 => 158 | 13 => 193 | 14 => 495 | _ => 0
def szr : Nat → Nat
  | 0 => 1 | 1 => 50 | 2 => 50 | 3 => 50 | 4 => 50 | 5 => 50 | 6 => 50 | 7 => 50 | 8 => 50 | 9 => 50
  | 10 => 5 | 11 => 2 | 12 => 35 | 13 => 2 | _ => 0
def adr (G : GG) (r j : Nat) : Nat := gn G + (offr r + j)
-- what the cells hold, from their ints a and longs b
abbrev fChange (G : GG) (a : Nat → Int32) (b : Nat → Int64) : List Value := [.ref (ga G (a 0).toNatClampNeg), .long (b 1), .int (a 2), .int (a 3), .int (a 4), .int (a 5), .int (a 6)]
abbrev fCustomer (a : Nat → Int32) (b : Nat → Int64) : List Value := [.long (b 0), .int (a 1), .int (a 2), .int (a 3), .int (a 4), .int (a 5), .int (a 6)]
abbrev fValley (a : Nat → Int32) (b : Nat → Int64) : List Value := [.long (b 0), .int (a 1), .int (a 2), .int (a 3), .int (a 4), .int (a 5), .int (a 6), .int (a 7)]
abbrev fShout (a : Nat → Int32) : List Value := [.int (a 0), .int (a 1), .int (a 2), .int (a 3), .int (a 4), .int (a 5), .int (a 6), .int (a 7), .int (a 8), .int (a 9), .int (a 10)]
abbrev fMarket (G : GG) (r : Nat) (a : Nat → Int32) : List Value := [.ref (adr G r 1), .ref (adr G r 2), .ref (adr G r 3), .int (a 3), .int (a 4), .int (a 5), .int (a 6), .int (a 7), .int (a 8), .int (a 9), .int (a 10), .int (a 11), .int (a 12)]
abbrev fText (G : GG) (a : Nat → Int32) : List Value := [.ref (adr G 10 1), .ref (adr G 10 2), .ref (adr G 10 3), .ref (adr G 10 4), .int (a 4), .int (a 5), .int (a 6), .int (a 7), .int (a 8)]
abbrev fScript (G : GG) (a : Nat → Int32) : List Value := [.ref (adr G 12 1), .ref (adr G 12 2), .ref (adr G 12 3), .ref (adr G 12 4), .int (a 4), .int (a 5), .int (a 6)]
abbrev fHistory (G : GG) (a : Nat → Int32) : List Value := [.ref (adr G 13 1), .int (a 1), .int (a 2)]
abbrev fEcho (G : GG) (a : Nat → Int32) : List Value := [.ref (adr G 10 0), .ref (adr G 11 0), .ref (adr G 12 0), .ref (adr G 1 0), .ref (adr G 2 0), .ref (adr G 3 0), .ref (adr G 13 0), .ref (adr G 14 0), .int (a 8)]
abbrev aI (G : GG) (n : Nat) (a : Nat → Int32) : va_E := .inl (gc G 0, n, .inl a)
abbrev aB (G : GG) (n : Nat) (a : Nat → Int32) : va_E := .inl (gc G 1, n, .inl a)
abbrev aJ (G : GG) (n : Nat) (b : Nat → Int64) : va_E := .inl (gc G 2, n, .inr (.inl b))
abbrev aR (G : GG) (k n : Nat) (f : Nat → Nat) : va_E := .inl (gc G k, n, .inr (.inr (.inr (.inr (fun i => some (f i))))))
def modLen : Nat → Nat
  | 1 => 600 | 2 => 390 | 3 => 390 | 4 => 390 | 5 => 390 | 6 => 2340 | 12 => 2 | 13 => 2 | _ => 60
-- a market's cells
def cellM (G : GG) (r j : Nat) (a : Nat → Int32) (b : Nat → Int64) : va_E :=
  if j = 0 then .inr (4, fMarket G r a) else if j = 1 then aR G 3 8 (fun i => adr G r (4 + i)) else if j = 2 then aR G 4 8 (fun i => adr G r (12 + i)) else if j = 3 then aR G 5 30 (fun i => adr G r (20 + i))
  else if j < 12 then .inr (8, fValley a b) else if j < 20 then .inr (1, fCustomer a b) else .inr (6, fShout a)
def cellT (G : GG) (j : Nat) (a : Nat → Int32) (b : Nat → Int64) : va_E :=
  if j = 0 then .inr (7, fText G a) else if j = 1 then aB G 600 a else if j = 4 then aJ G 601 b else aI G 601 a
def cellS (G : GG) (j : Nat) (a : Nat → Int32) (b : Nat → Int64) : va_E :=
  if j = 0 then .inr (5, fScript G a) else if j = 1 then aR G 7 30 (fun i => adr G 12 (5 + i)) else if j = 2 then aI G 40 a else if j = 3 then aI G 2 a else if j = 4 then aI G 2 a else .inr (0, fChange G a b)
def cellOf (G : GG) (r j : Nat) (a : Nat → Int32) (b : Nat → Int64) : va_E :=
  if r = 0 then .inr (9, fEcho G a) else if r ≤ 9 then cellM G r j a b else if r = 10 then cellT G j a b
  else if r = 11 then (if j = 0 then .inr (2, [.ref (adr G 11 1)]) else .inr (0, fChange G a b)) else if r = 12 then cellS G j a b
  else (if j = 0 then .inr (3, fHistory G a) else aR G 6 6 (fun i => adr G (4 + i) 0))
def inW (r j : Nat) : Prop := r ≤ 13 ∧ j < szr r
/-- the class's object, whole: its cells, and that they lie in the area -/
def GH (G : GG) (w : Wd) (H : Heap) : Prop := (∀ r j, inW r j → va_at (gD G) jcl (adr G r j, cellOf G r j ((w r).1 j) ((w r).2 j)) H) ∧ ∀ r j, inW r j → gA G (adr G r j)
theorem rg_inj {r j r' j' : Nat} (h : inW r j) (h' : inW r' j') (e : offr r + j = offr r' + j') : r = r' ∧ j = j' := by
  obtain ⟨h1, h2⟩ := h
  obtain ⟨h3, h4⟩ := h'
  have k : r = r' := by
    match r, h1, r', h3 with
    | 0, _, r', _ | 1, _, r', _ | 2, _, r', _ | 3, _, r', _ | 4, _, r', _ | 5, _, r', _ | 6, _, r', _ | 7, _, r', _ | 8, _, r', _ | 9, _, r', _ | 10, _, r', _ | 11, _, r', _ | 12, _, r', _ | 13, _, r', _ =>
      match r', h3 with
      | 0, _ | 1, _ | 2, _ | 3, _ | 4, _ | 5, _ | 6, _ | 7, _ | 8, _ | 9, _ | 10, _ | 11, _ | 12, _ | 13, _ => first | rfl | (exfalso; simp only [offr, szr] at h2 h4 e; omega)
  subst k
  exact ⟨rfl, by omega⟩
theorem inW_off {r j : Nat} (h : inW r j) : offr r + j < 495 := by
  obtain ⟨h1, h2⟩ := h
  match r, h1 with
  | 0, _ | 1, _ | 2, _ | 3, _ | 4, _ | 5, _ | 6, _ | 7, _ | 8, _ | 9, _ | 10, _ | 11, _ | 12, _ | 13, _ => simp only [offr, szr] at h2 ⊢; omega
theorem adr_inj {G : GG} {r j r' j' : Nat} (h : inW r j) (h' : inW r' j') (e : adr G r j = adr G r' j') : r = r' ∧ j = j' := rg_inj h h' (by unfold adr at e; omega)
def rowI (f : Nat → Nat → Int32) (j : Nat) (a : Nat → Int32) : Nat → Nat → Int32 := fun x => if x = j then a else f x
def rowL (f : Nat → Nat → Int64) (j : Nat) (a : Nat → Int64) : Nat → Nat → Int64 := fun x => if x = j then a else f x
/-- int slot k of cell j becomes x -/
def sI (M : MM) (j k : Nat) (x : Int32) : MM := (rowI M.1 j (upd (M.1 j) k x), M.2)
def sL (M : MM) (j k : Nat) (x : Int64) : MM := (M.1, rowL M.2 j (vp_updL (M.2 j) k x))
def sW (w : Wd) (r : Nat) (M : MM) : Wd := fun x => if x = r then M else w x
theorem sW_s (w : Wd) (r : Nat) (M : MM) : sW w r M r = M := if_pos rfl
theorem sW_o (w : Wd) {r x : Nat} (M : MM) (h : x ≠ r) : sW w r M x = w x := if_neg h
theorem sW_sW (w : Wd) (r : Nat) (M N : MM) : sW (sW w r M) r N = sW w r N := by
  funext x
  unfold sW
  split <;> rfl
theorem sW_self (w : Wd) (r : Nat) : sW w r (w r) = w := by
  funext x
  unfold sW
  split
  · next h => rw [h]
  · rfl
theorem sI_s (M : MM) (j k : Nat) (x : Int32) : (sI M j k x).1 j = upd (M.1 j) k x := if_pos rfl
theorem sI_o (M : MM) {j i : Nat} (k : Nat) (x : Int32) (h : i ≠ j) : (sI M j k x).1 i = M.1 i := if_neg h
theorem sL_s (M : MM) (j k : Nat) (x : Int64) : (sL M j k x).2 j = vp_updL (M.2 j) k x := if_pos rfl
theorem sL_o (M : MM) {j i : Nat} (k : Nat) (x : Int64) (h : i ≠ j) : (sL M j k x).2 i = M.2 i := if_neg h
/-- one cell of the world is changed -/
theorem GH.put {G : GG} {w : Wd} {H H1 : Heap} {r j : Nat} (h : GH G w H) (hi : inW r j) (M : MM) (hat : va_at (gD G) jcl (adr G r j, cellOf G r j (M.1 j) (M.2 j)) H1) (ho : ∀ i, i ≠ j → M.1 i = (w r).1 i ∧ M.2 i = (w r).2 i) (hq : ∀ q, q ≠ adr G r j → H1[q]? = H[q]?) : GH G (sW w r M) H1 := by
  refine ⟨?_, h.2⟩
  intro r' j' hi'
  by_cases e : r' = r
  · subst e
    rw [sW_s]
    by_cases ej : j' = j
    · subst ej
      exact hat
    · rw [(ho j' ej).1, (ho j' ej).2]
      exact (h.1 r' j' hi').kept (hq _ (fun z => ej (adr_inj hi' hi z).2))
  · rw [sW_o w M e]
    exact (h.1 r' j' hi').kept (hq _ (fun z => e (adr_inj hi' hi z).1))
-- what never changes: enum constants, constant arrays, strings (their places: ga G)
abbrev enF : List (String × String × String × List Int32) := [("java/lang/Enum", "ordinal", "I", [0, 1, 2, 3, 4, 5, 6, 7, 8, 9, 10, 11]), ("EchoMarket$Verb", "inDescriptions", "Z", [0, 0, 1, 1, 1, 1, 1, 1, 1, 1, 0, 0]), ("EchoMarket$Verb", "inScripts", "Z", [0, 0, 0, 0, 1, 1, 1, 1, 1, 1, 1, 1])]
abbrev enV : List String := ["NO_VERB", "MARKET", "VALLEY", "CUSTOMER", "SHOUT", "FOG", "PRICE", "WELL", "PASS", "FAKE", "CANCEL", "REPEAT"]
abbrev enX : List String := ["NOTHING", "INDEX", "ARGUMENT", "STATE"]
abbrev enLen : List Nat := [0, 6, 6, 8, 5, 3, 5, 4, 4, 4, 6, 6]
abbrev enByt : List (List Int32) := [[], [109, 97, 114, 107, 101, 116], [118, 97, 108, 108, 101, 121], [99, 117, 115, 116, 111, 109, 101, 114], [115, 104, 111, 117, 116], [102, 111, 103], [112, 114, 105, 99, 101], [119, 101, 108, 108], [112, 97, 115, 115], [102, 97, 107, 101], [99, 97, 110, 99, 101, 108], [114, 101, 112, 101, 97, 116]]
abbrev swMap : List Int32 := [0, 0, 6, 7, 1, 2, 3, 4, 5, 8, 0, 0]
/-- links to private members of nest mates -/
abbrev nestL : List (String × Nat × MethodName × String) := [(RX12, 9, yX9_init, RX12), (RX6, 29, yX10_init, RX12), (RX6, 30, yX2_init, RX12), (RX6, 31, yX8_init, RX12), (RX12, 31, yX3_init, RX12), (RX3, 11, yX1_init, RX12), (RX7, 27, yX1_init, RX12), (RX9, 41, yX12_isLetter, RX12), (RX9, 37, yX12_isWithin, RX12), (RX9, 64, yX12_isDigit, RX12), (RX11, 78, yX12_letterOf, RX12), (RX6, 73, yX12_isWithin, RX12), (RX13, 28, yL_pick, RL)]
/-- the law's own words: their lengths, letters, places in the pools -/
abbrev lwLen : List Nat := [1, 3, 2, 1, 1, 10, 6, 5, 7, 1, 8]
abbrev lwByt : List (List Int32) := [[32], [32, 59, 10], [32, 118], [59], [99], [99, 117, 115, 116, 111, 109, 101, 114, 32, 99], [109, 97, 114, 107, 101, 116], [112, 97, 115, 115, 32], [115, 104, 111, 117, 116, 32, 99], [118], [118, 97, 108, 108, 101, 121, 32, 118]]
abbrev lwRef : List (String × Nat × String × Nat) := [(RX13, 34, ";", 3), (RX13, 36, " ;\n", 1), (RX13, 38, "market", 6), (RX13, 48, "valley v", 10), (RX13, 53, " ", 0), (RX13, 62, "customer c", 5), (RX13, 71, "shout c", 8), (RX13, 73, " v", 2), (RX13, 79, "pass ", 7), (RL, 167, "v", 9), (RL, 193, "c", 4)]
/-- a CharSequence is a String or a builder -/
abbrev fwL : List (String × MethodName × MethodName) := [(RJ0, ⟨"java/lang/CharSequence", "length", "()I"⟩, yJ0_length_8abf5), (RJ0, ⟨"java/lang/CharSequence", "charAt", "(I)C"⟩, yJ0_charAt_5068e), (RJ4, ⟨"java/lang/CharSequence", "length", "()I"⟩, yJ4_length_8abf5), (RJ4, ⟨"java/lang/CharSequence", "charAt", "(I)C"⟩, yJ4_charAt_5068e)]
theorem fwL_ok : ∀ x ∈ fwL, x.2.1.cls ≠ "java/lang/invoke/MethodHandle" ∧ x.2.1.cls ≠ "java/lang/invoke/VarHandle" := by decide +kernel
/-- private members of the builder's superclass -/
abbrev selL : List MethodName := [yJ5_ensureCapacityInternal_d00df, yJ5_newCapacity_0f7a4, yJ5_putStringAt_47b60, yJ5_inflateIfNeededFor_a7421]
theorem nw_warm {u U : State} {w : Cond} (hW : u.WarmedH U.vm) (h1 : w.onTables = true) (h2 : w.keeps = true) (h : va_Nw w u) : va_Nw w U := Cond.onTables_warm (T := U) hW h1 h2 h
def NL (U : State) : Prop := (∀ q ∈ nestL, va_Nw (.methodLinkNest q.1 q.2.1 q.2.2.1 q.2.2.2) U) ∧ va_Nw (.fieldLinkNest RX9 74 RX12 "VERBS" "[LEchoMarket$Verb;" RX12) U
theorem NL.warm {u U : State} (hW : u.WarmedH U.vm) (h : NL u) : NL U := ⟨fun q hq => va_Nw.warmM hW (h.1 q hq), va_Nw.warmF hW h.2⟩
theorem NL.same {u U : State} (hv : u.vm = U.vm) (h : NL u) : NL U := ⟨fun q hq => va_Nw.same rfl hv (h.1 q hq), va_Nw.same rfl hv h.2⟩
abbrev aoL : List String := ["EchoMarket$Valley", "EchoMarket$Customer", "EchoMarket$Shout", "EchoMarket$Change", "EchoMarket$Market"]
def AO (U : State) : Prop := ∀ C ∈ aoL, va_AO C U
/-- the class of rows of rows, over that of rows of ints -/
def AOI (G : GG) (U : State) : Prop := ∃ k : Class, U.vm.classes[gc G 8]? = some k ∧ k.kind = .array (gc G 0) (.array .int)
theorem AOI.moved {G : GG} {u U : State} (hvm : u.vm.Alike U.vm) (h : AOI G u) : AOI G U := by
  obtain ⟨k, h1, h2⟩ := h
  obtain ⟨k2, h3, he⟩ := hvm.2.2 _ _ h1
  exact ⟨k2, h3, by rw [he]; exact h2⟩
/-- what the JDK's members read: flags, digit rows, a formatter; the law's own words -/
def GL2 (G : GG) (U : State) (H : Heap) : Prop :=
  va_Z "java/lang/String" "COMPACT_STRINGS" "Z" (.int 1) (gS G) U H ∧ va_Zq "jdk/internal/util/Preconditions" "SIOOBE_FORMATTER" "Ljava/util/function/BiFunction;" (gS G) U H ∧
  va_Z "java/lang/Integer" "DigitOnes" "[B" (.ref (ga G 45)) (gS G) U H ∧ va_T .byte (ga G 45) 100 (fun i => .int (48 + nI (i % 10))) (gS G) U H ∧
  va_Z "java/lang/Integer" "DigitTens" "[B" (.ref (ga G 46)) (gS G) U H ∧ va_T .byte (ga G 46) 100 (fun i => .int (48 + nI (i / 10))) (gS G) U H ∧
  vk_S 11 lwLen lwByt (fun i => ga G (50 + i)) (fun i => ga G (70 + i)) (gS G) U H ∧ (∀ x ∈ lwRef, vk_R x.1 x.2.1 x.2.2.1 (ga G (50 + x.2.2.2)) U) ∧ (∀ x ∈ fwL, va_Fw x.1 x.2.1 x.2.2 U) ∧ va_T .int (ga G 90) (gN G) (fun i => .int (gX G i)) (gS G) U H ∧ gN G < 2 ^ 31 ∧ AO U ∧ AOI G U ∧ (∀ x ∈ selL, va_Nw (.selects RJ4 x x) U)
theorem GL2.kept {G : GG} {U : State} {H H1 : Heap} (h : GL2 G U H) (hq : ∀ a : Nat, a < H.size → ¬ gS G a → H1[a]? = H[a]?) : GL2 G U H1 := by
  obtain ⟨h1, h2, h3, h4, h5, h6, h7, h8, h9, h10, h11⟩ := h
  exact ⟨h1.kept hq, h2.kept hq, h3.kept hq, h4.kept hq, h5.kept hq, h6.kept hq, h7.kept hq, h8, h9, h10.kept hq, h11⟩
theorem GL2.warm {G : GG} {u U : State} {H : Heap} (hW : u.WarmedH U.vm) (h : GL2 G u H) : GL2 G U H := by
  obtain ⟨h1, h2, h3, h4, h5, h6, h7, h8, h9, h10, h11, h13, h14, h12⟩ := h
  exact ⟨h1.moved hW.alike, h2.moved hW.alike, h3.moved hW.alike, h4.moved hW.alike, h5.moved hW.alike, h6.moved hW.alike, h7.moved hW.alike, fun x hx => (h8 x hx).warm hW, fun x hx => va_Fw.moved (fwL_ok x hx) hW.alike (h9 x hx), h10.moved hW.alike, h11, fun C hC => va_AO.moved hW.alike (h13 C hC), h14.moved hW.alike, fun x hx => nw_warm hW rfl rfl (h12 x hx)⟩
theorem GL2.same {G : GG} {u U : State} {H : Heap} (hv : u.vm = U.vm) (h : GL2 G u H) : GL2 G U H := by
  have hA : u.vm.Alike U.vm := by rw [hv]; exact Vm.Alike.refl _
  obtain ⟨h1, h2, h3, h4, h5, h6, h7, h8, h9, h10, h11, h13, h14, h12⟩ := h
  exact ⟨h1.moved hA, h2.moved hA, h3.moved hA, h4.moved hA, h5.moved hA, h6.moved hA, h7.moved hA, fun x hx => (h8 x hx).same hv.symm, fun x hx => va_Fw.moved (fwL_ok x hx) hA (h9 x hx), h10.moved hA, h11, fun C hC => va_AO.moved hA (h13 C hC), h14.moved hA, fun x hx => va_Nw.same rfl hv (h12 x hx)⟩
def GL (G : GG) (U : State) (H : Heap) : Prop :=
  va_En "EchoMarket$Verb" "LEchoMarket$Verb;" enV enF (fun i => ga G i) (gS G) U H ∧
  va_En "EchoMarket$Fault" "LEchoMarket$Fault;" enX [] (fun i => ga G (12 + i)) (gS G) U H ∧
  va_Ef 12 "EchoMarket$Verb" "letters" "Ljava/lang/String;" (fun i => .ref (ga G (16 + i))) (fun i => ga G i) (gS G) U H ∧
  vk_S 12 enLen enByt (fun i => ga G (16 + i)) (fun i => ga G (28 + i)) (gS G) U H ∧
  va_Z "EchoMarket" "VERBS" "[LEchoMarket$Verb;" (.ref (ga G 40)) (gS G) U H ∧ va_T (.object "EchoMarket$Verb") (ga G 40) 12 (fun i => .ref (ga G i)) (gS G) U H ∧
  va_Z "EchoMarket$1" "$SwitchMap$EchoMarket$Verb" "[I" (.ref (ga G 41)) (gS G) U H ∧ va_T .int (ga G 41) 12 (fun i => .int (swMap.getD i 0)) (gS G) U H ∧ NL U ∧ GL2 G U H
theorem GL.kept {G : GG} {U : State} {H H1 : Heap} (h : GL G U H) (hq : ∀ a : Nat, a < H.size → ¬ gS G a → H1[a]? = H[a]?) : GL G U H1 :=
  ⟨h.1.kept hq, h.2.1.kept hq, h.2.2.1.kept hq, h.2.2.2.1.kept hq, h.2.2.2.2.1.kept hq, h.2.2.2.2.2.1.kept hq, h.2.2.2.2.2.2.1.kept hq, h.2.2.2.2.2.2.2.1.kept hq, h.2.2.2.2.2.2.2.2.1, h.2.2.2.2.2.2.2.2.2.kept hq⟩
theorem GL.warm {G : GG} {u U : State} {H : Heap} (hW : u.WarmedH U.vm) (h : GL G u H) : GL G U H :=
  ⟨h.1.moved hW.alike, h.2.1.moved hW.alike, h.2.2.1.moved hW.alike, h.2.2.2.1.moved hW.alike, h.2.2.2.2.1.moved hW.alike, h.2.2.2.2.2.1.moved hW.alike, h.2.2.2.2.2.2.1.moved hW.alike, h.2.2.2.2.2.2.2.1.moved hW.alike, h.2.2.2.2.2.2.2.2.1.warm hW, h.2.2.2.2.2.2.2.2.2.warm hW⟩
theorem GL.same {G : GG} {u U : State} {H : Heap} (hv : u.vm = U.vm) (h : GL G u H) : GL G U H :=
  have hA : u.vm.Alike U.vm := by rw [hv]; exact Vm.Alike.refl _
  ⟨h.1.moved hA, h.2.1.moved hA, h.2.2.1.moved hA, h.2.2.2.1.moved hA, h.2.2.2.2.1.moved hA, h.2.2.2.2.2.1.moved hA, h.2.2.2.2.2.2.1.moved hA, h.2.2.2.2.2.2.2.1.moved hA, h.2.2.2.2.2.2.2.2.1.same hv, h.2.2.2.2.2.2.2.2.2.same hv⟩
def GW (G : GG) (w : Wd) (U : State) : Prop := GH G w U.heap ∧ va_K (gD G) jcl (jtys G) U ∧ GL G U U.heap ∧ gz G ≤ U.heap.size ∧ GV G
theorem GW.blind (G : GG) (w : Wd) (av : List Value) : FrameBlind (va_Pc av (GW G w)) := fun _ U g mk h =>
  ⟨h.1, h.2.1, va_K.moved (u := U) (U := U.calling g mk _) (Vm.Alike.refl U.vm) h.2.2.1, GL.same (u := U) (U := U.calling g mk _) rfl h.2.2.2.1, h.2.2.2.2.1, h.2.2.2.2.2⟩
/-- what holds in a method's body all along -/
def FX (G : GG) (own : String) (cc : ByteArray) (nL : Nat) (p : Program) (s : State) (m : MethodId) (args : Array Value) (c : Code) : Prop :=
  p.tables.exec = Jvm.exec ∧ c.code = cc ∧ c.maxLocals = nL ∧ s.vm.findClass own = some m.cls ∧ (∀ w ∈ WALL, w.before args s = true) ∧ va_K (gD G) jcl (jtys G) s ∧ GL G s s.heap ∧ gz G ≤ s.heap.size ∧ GV G
def J (G : GG) (p : Program) (l : Launch) (e : Env) (R : Room) (s : State) (m : MethodId) (args : Array Value) (below : List Frame) (meth : Method) (c : Code) (nL cells slots : Nat) (Q : State → Prop) (I : Heap → Prop) (pc : Nat) (lc : List (Nat × Value)) (st : List Value) : Prop :=
  ∀ (H : Heap) (locs : List Loc) (ls : Array Slot), lv_has ls nL lc → I H → va_S (gA G) s.heap H locs → W p l e R s m args below meth c H locs cells slots Q (F0 m pc ls st)
theorem va_S.sub {A B : Nat → Prop} {H0 H : Heap} {locs : List Loc} (h : va_S A H0 H locs) (hAB : ∀ q, A q → B q) : va_S B H0 H locs := ⟨h.1, fun q h1 h2 => h.2.1 q h1 (fun z => h2 (hAB q z)), fun q hq => hAB _ (h.2.2 q hq)⟩
theorem FX.s3 {G : GG} {own : String} {cc : ByteArray} {nL : Nat} {p : Program} {s : State} {m : MethodId} {args : Array Value} {c : Code} (hX : FX G own cc nL p s m args c) {H : Heap} {locs : List Loc} (h3 : va_S (gA G) s.heap H locs) : va_S (gS G) s.heap H locs := h3.sub hX.2.2.2.2.2.2.2.2.1
