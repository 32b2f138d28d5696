theorem p_37 : Cond.initialized RX12 ∈ WALL := WALL_in (List.mem_append_right _ (List.mem_append_left _ (List.mem_of_getElem? (i := 13) rfl))) rfl
theorem p_57 : Cond.classLink RL 27 RX12 ∈ WALL := WALL_in (List.mem_append_right _ (List.mem_append_left _ (List.mem_of_getElem? (i := 33) rfl))) rfl
theorem p_58 : Cond.instantiable RX12 9 ∈ WALL := WALL_in (List.mem_append_right _ (List.mem_append_left _ (List.mem_of_getElem? (i := 34) rfl))) rfl
theorem p_59 : Cond.methodLink RL 259 yX12_init ∈ WALL := WALL_in (List.mem_append_right _ (List.mem_append_left _ (List.mem_of_getElem? (i := 35) rfl))) rfl
theorem p_60 : Cond.instanceMethod yX12_init ∈ WALL := WALL_in (List.mem_append_right _ (List.mem_append_left _ (List.mem_of_getElem? (i := 36) rfl))) rfl
theorem p_460 : Cond.methodLink RL 264 yX12_readText ∈ WALL := WALL_in (List.mem_append_right _ (List.mem_append_right _ (List.mem_append_left _ (List.mem_of_getElem? (i := 196) rfl)))) rfl
theorem p_1007 : Cond.methodLink RL 255 yX13_grown ∈ WALL := WALL_in (List.mem_append_right _ (List.mem_append_right _ (List.mem_append_right _ (List.mem_append_right _ (List.mem_append_right _ (List.mem_append_left _ (List.mem_of_getElem? (i := 23) rfl))))))) rfl
theorem p_1008 : Cond.static yX13_grown ∈ WALL := WALL_in (List.mem_append_right _ (List.mem_append_right _ (List.mem_append_right _ (List.mem_append_right _ (List.mem_append_right _ (List.mem_append_left _ (List.mem_of_getElem? (i := 24) rfl))))))) rfl
theorem p_1010 : Cond.classLink RX13 10 RX13 ∈ WALL := WALL_in (List.mem_append_right _ (List.mem_append_right _ (List.mem_append_right _ (List.mem_append_right _ (List.mem_append_right _ (List.mem_append_left _ (List.mem_of_getElem? (i := 26) rfl))))))) rfl
theorem p_1011 : Cond.instantiable RX13 12 ∈ WALL := WALL_in (List.mem_append_right _ (List.mem_append_right _ (List.mem_append_right _ (List.mem_append_right _ (List.mem_append_right _ (List.mem_append_left _ (List.mem_of_getElem? (i := 27) rfl))))))) rfl
theorem p_1012 : Cond.methodLink RX13 27 yX13_init ∈ WALL := WALL_in (List.mem_append_right _ (List.mem_append_right _ (List.mem_append_right _ (List.mem_append_right _ (List.mem_append_right _ (List.mem_append_left _ (List.mem_of_getElem? (i := 28) rfl))))))) rfl
theorem p_1013 : Cond.instanceMethod yX13_init ∈ WALL := WALL_in (List.mem_append_right _ (List.mem_append_right _ (List.mem_append_right _ (List.mem_append_right _ (List.mem_append_right _ (List.mem_append_left _ (List.mem_of_getElem? (i := 29) rfl))))))) rfl
theorem p_1042 : Cond.fieldLink RL 260 RX13 "text" "Ljava/lang/StringBuilder;" ∈ WALL := WALL_in (List.mem_append_right _ (List.mem_append_right _ (List.mem_append_right _ (List.mem_append_right _ (List.mem_append_right _ (List.mem_append_left _ (List.mem_of_getElem? (i := 58) rfl))))))) rfl
theorem p_1309 : Cond.methodLink RL 275 yL_alike ∈ WALL := WALL_in (List.mem_append_right _ (List.mem_append_right _ (List.mem_append_right _ (List.mem_append_right _ (List.mem_append_right _ (List.mem_append_right _ (List.mem_append_left _ (List.mem_of_getElem? (i := 85) rfl)))))))) rfl
theorem p_1310 : Cond.static yL_alike ∈ WALL := WALL_in (List.mem_append_right _ (List.mem_append_right _ (List.mem_append_right _ (List.mem_append_right _ (List.mem_append_right _ (List.mem_append_right _ (List.mem_append_left _ (List.mem_of_getElem? (i := 86) rfl)))))))) rfl
theorem p_1445 : Cond.methodLink RL 267 yL_acts ∈ WALL := WALL_in (List.mem_append_right _ (List.mem_append_right _ (List.mem_append_right _ (List.mem_append_right _ (List.mem_append_right _ (List.mem_append_right _ (List.mem_append_left _ (List.mem_of_getElem? (i := 221) rfl)))))))) rfl
theorem p_1446 : Cond.static yL_acts ∈ WALL := WALL_in (List.mem_append_right _ (List.mem_append_right _ (List.mem_append_right _ (List.mem_append_right _ (List.mem_append_right _ (List.mem_append_right _ (List.mem_append_left _ (List.mem_of_getElem? (i := 222) rfl)))))))) rfl
theorem p_1588 : Cond.methodLink RL 271 yL_holds ∈ WALL := WALL_in (List.mem_append_right _ (List.mem_append_right _ (List.mem_append_right _ (List.mem_append_right _ (List.mem_append_right _ (List.mem_append_right _ (List.mem_append_right _ (List.mem_of_getElem? (i := 124) rfl)))))))) rfl
theorem p_1589 : Cond.static yL_holds ∈ WALL := WALL_in (List.mem_append_right _ (List.mem_append_right _ (List.mem_append_right _ (List.mem_append_right _ (List.mem_append_right _ (List.mem_append_right _ (List.mem_append_right _ (List.mem_of_getElem? (i := 125) rfl)))))))) rfl
/-! THE LAW: from its first instruction to its last -/
noncomputable def lwA (n N : Nat) (f : Nat → Int32) : Nat → Nat → Wd × MM → Option (Wd × MM)
  | 0, _, z => some z
  | d + 1, i, z => bo2 (FQ_acts n N f z (nI i)) fun b z2 => gd b <| bo1 (FQ_holds n z2) fun h => gd h <| lwA n N f d (i + 1) z2
def lwB (z : Wd × MM) : Nat → Nat → (Nat → Int32) → Option (Nat → Int32)
  | 0, _, _ => none
  | d + 1, i, e => if z.2.1 0 2 ≤ nI i then some e else gd (inb (nI i) 30) <| bx1 (FX12_finalState z.1 (nI i)) fun x => lwB z d (i + 1) (upd e i x)
noncomputable def lwC (n : Nat) : Nat → Nat → Wd → Option Wd
  | 0, _, w => some w
  | d + 1, i, w => bo1 (FX12_openShouts n w) fun x => if x ≤ 0 then some w else bo1 (FX12_nextEvent n w) fun nx => bx2 (FX12_pass n w (nx - FX12_time w)) fun r w2 => gh (FLc_58 n w (nx - FX12_time w) 0 0 0 0) w2 fun w3 => gd (decide (FX12_time w3 = nx)) <| gd (decide (0 ≤ r)) <| lwC n d (i + 1) w3
def lwD (z : Wd × MM) (e : Nat → Int32) : Nat → Nat → Option Unit
  | 0, _ => none
  | d + 1, i => if z.2.1 0 2 ≤ nI i then some () else gd (inb (nI i) 30) <| bx1 (FX12_shoutState z.1 (nI i)) fun x => gd (decide (x = e i)) <| lwD z e d (i + 1)
noncomputable def FQ_law (n N : Nat) (f : Nat → Int32) : Option Unit :=
  bo1 (FW_grown n N f (V0, [])) fun y => gd (decide (y.2.length < 600)) <|
  bo2 (FQ_feeds n y.2 w0) fun b w1 => gd b <|
  bx2 (FX12_readText n w1) fun r w2 => gh (FLc_2 n w1 0 0 0 0 0) w2 fun w3 => gd (decide (r = y.1.1 0 2)) <|
  bo1 (lwA n N f 40 0 (w3, y.1)) fun z =>
  bo1 (FQ_alike n z) fun al => gd al <|
  bo1 (lwB z 31 0 (fun _ => 0)) fun e =>
  bo1 (lwC n 200 0 z.1) fun w4 =>
  bo1 (lwD (w4, z.2) e 31 0) fun _ => gd (decide (FX12_held w4 = 0)) <|
  bo1 (FX12_nextEvent n w4) fun nx => gd (decide (nx = -1)) <| some ()
/-- the text beside -/
def XB (G : GG) (q cap : Nat) (ml a : Int32) (bs : Nat → Int32) (H : Heap) : Prop := SOb G (adW G 50) q ml a H ∧ SAr G q cap bs H
section LAWROWS
variable {G : GG} {own : String} {cc : ByteArray} {p : Program} {l : Launch} {e : Env} {R : Room} {s : State} {m : MethodId} {args : Array Value} {below : List Frame} {meth : Method} {c : Code} {nL cells slots : Nat} {Q : State → Prop} {pc t : Nat} {lc : List (Nat × Value)} {st : List Value} {I : Heap → Prop}
theorem J_runA {A : Nat → Prop} (hX : FX G own cc nL p s m args c) (hA : ∀ q, A q → gA G q) {H : Heap} {locs : List Loc} {ls : Array Slot} {st0 rest : List Value} {mc ms : Nat} {a : Array Value} {Qc : Array Value → State → Outcome → State → Prop} {P1 I2 : Option Value → Heap → Prop} (hQ : ∀ st v t, Qc a st (.returned v) t → P1 v t.heap ∧ va_F A st t)
    (hr : va_Run p l e R s m args below meth c H locs cells slots mc ms (F0 m pc ls st0) rest (Qc a) A) (hS : va_S (gA G) s.heap H locs) (hl : lv_has ls nL lc) (hP : ∀ v H1, P1 v H1 → H.size ≤ H1.size → (∀ q : Nat, q < H.size → ¬ A q → H1[q]? = H[q]?) → I2 v H1)
    (kk : ∀ v, J G p l e R s m args below meth c nL (cells + mc) (slots + ms) Q (I2 v) (pc + 3) lc (v.toList ++ rest)) : W p l e R s m args below meth c H locs cells slots Q (F0 m pc ls st0) := by
  intro T hT X
  obtain ⟨v9, st₀, t9, T', L, h0, X', hL, e1, e2, hq9, st9⟩ := hr T hT X
  obtain ⟨hG, hz, hq⟩ := hQ _ _ _ hq9
  rw [h0] at hz hq
  have hsz : H.size ≤ T'.heap.size := by rw [e1]; exact hz
  have hold : ∀ q : Nat, q < H.size → ¬ A q → T'.heap[q]? = H[q]? := fun q h1 h2 => by
    rw [e1]
    exact hq q h1 h2
  have hS2 : va_S (gA G) s.heap T'.heap (locs ++ L) := ⟨Nat.le_trans hS.1 hsz, fun q h1 h2 => (hold q (Nat.lt_of_lt_of_le h1 hS.1) (fun h => h2 (hA q h))).trans (hS.2.1 q h1 h2), fun q h9 => by
      rcases List.mem_append.mp h9 with h | h
      · exact hS.2.2 q h
      · exact hA _ (hL q h)⟩
  obtain ⟨t2, a1, b1⟩ := kk v9 T'.heap (locs ++ L) ls hl (hP v9 T'.heap (by rw [e1]; exact hG) hsz hold) hS2 T' rfl X'
  exact ⟨t2, st9 t2 a1, b1⟩
/-- a new object whose place is the heap's size -/
theorem J_newN (hX : FX G own cc nL p s m args c) {ci index : Nat} {C : String} {T : u_T} {N : Nat} {ty : Nat → FieldType} (cb : CB ci C T N ty) (hcl : Cond.classLink own index C ∈ WALL) (hin : Cond.instantiable C N ∈ WALL) (hini : Cond.initialized C ∈ WALL) (fs : List Value) (hfs : ∀ j, j < N → defaultValue (ty j) = vp_V fs j) (hroom : cells + 1 ≤ R.cells ∧ slots + N ≤ R.slots) (hdg : decode cc pc = .ok (.new index, 3)) (ht : pc + 3 = t)
    (kk : ∀ n1, (∀ P : Nat → Prop, (∀ H, I H → P H.size) → P n1) → gz G ≤ n1 → J G p l e R s m args below meth c nL (cells + 1) (slots + N) Q (fun H => (MK n1 I H ∧ H.size = n1 + 1) ∧ va_at (gD G) jcl (n1, .inr (ci, fs)) H) t lc (.ref n1 :: st)) : J G p l e R s m args below meth c nL cells slots Q I pc lc st := by
  subst ht
  intro H locs ls h1 h2 h3
  have hKn := hX.2.2.2.2.2.1.1 ci _ cb.1
  refine W.newcK hX.1 hX.2.1 hX.2.2.2.1 (hX.2.2.2.2.1 _ hcl) (hX.2.2.2.2.1 _ hin) (hX.2.2.2.2.1 _ hini) rfl hdg hroom.1 hroom.2 hKn.2.1 rfl fun H1 kC hkC e1 z1 o1 => ?_
  have hz9 : gz G ≤ H.size := Nat.le_trans hX.2.2.2.2.2.2.2.1 h3.1
  exact kk H.size (fun P h => h H h2) hz9 H1 locs ls h1 ⟨⟨⟨H, h2, rfl, by omega, fun q hq => o1 q hq⟩, z1⟩, ⟨_, cb.1, (u_born ty hX.2.2.2.2.1 cb.2.1 hKn hkC e1 cb.2.2.1).to hfs⟩⟩ ⟨Nat.le_trans h3.1 (by omega), fun x a b => by rw [o1 x (Nat.lt_of_lt_of_le a h3.1)]; exact h3.2.1 x a b, h3.2.2⟩
/-- the class's constructor at n1 -/
theorem J_echo (hX : FX G own cc nL p s m args c) {n1 index : Nat} (hn1 : gz G ≤ n1) (hg0 : g0 G ≤ n1) (rest : List Value) (hw : Cond.methodLink own index yX12_init ∈ WALL) (hin : Cond.instanceMethod yX12_init ∈ WALL) (hrm : 7 ≤ R.frames ∧ 330 ≤ R.locals) (hst : st = .ref n1 :: rest) (hcat : (rest.map fun v => v.category).sum ≤ 8) (hf : cells + 496 ≤ R.cells ∧ slots + 8300 ≤ R.slots) (hdg : decode cc pc = .ok (.invokespecial index, 3)) (ht : pc + 3 = t)
    (kk : J G p l e R s m args below meth c nL (cells + 496) (slots + 8300) Q (fun H => MK n1 I H ∧ CH G n1 w0 H) t lc rest) : J G p l e R s m args below meth c nL cells slots Q (fun H => (MK n1 I H ∧ H.size = n1 + 1) ∧ va_at (gD G) jcl (n1, .inr (9, [.null, .null, .null, .null, .null, .null, .null, .null, .int 0])) H) pc lc st := by
  subst ht; subst hst
  intro H locs ls h1 h2 h3
  obtain ⟨G1, hG1⟩ : ∃ z, z = upG G n1 n1 (fun q => n1 ≤ q) := ⟨_, rfl⟩
  have hM : CTN G1 l yX12_init cX12_init 1 none rmX12_init 496 8300 [.ref (gn G1 + 0)] (NB G1 1 (fun _ => .inr (9, [.null, .null, .null, .null, .null, .null, .null, .null, .int 0]))) (fun v H => v = none ∧ NB G1 497 (S8 G1 (fun _ => .inr (9, [.null, .null, .null, .null, .null, .null, .null, .null, .int 0]))) H) := cnX12_init rfl
  subst hG1
  refine J_runA (A := fun q => n1 ≤ q) (I2 := fun v9 H1 => v9 = none ∧ MK n1 I H1 ∧ CH G n1 w0 H1) (P1 := fun v9 H1 => v9 = none ∧ NB (upG G n1 n1 (fun q => n1 ≤ q)) 497 (S8 (upG G n1 n1 (fun q => n1 ≤ q)) (fun _ => .inr (9, [.null, .null, .null, .null, .null, .null, .null, .null, .int 0]))) H1) hX (fun q hq => hX.2.2.2.2.2.2.2.2.2 q (Nat.le_trans hn1 hq)) (fun st v t ⟨v9, e9, hp, hf⟩ => by cases e9; exact ⟨hp, hf⟩) (va_runI (As := []) (rest := rest) ⟨hX.1, hX.2.1, hX.2.2.1, hX.2.2.2.1, hX.2.2.2.2.1⟩ hM ⟨cb_call hX miX12_init hw ⟨rfl, rfl, hrm.1, Nat.le_trans (by decide) hrm.2⟩, rfl, hX.2.2.2.2.1 _ hin⟩ ⟨CTN.blind _ _ _, fun U hU hW => ⟨rfl, ?_⟩⟩ rfl rfl h1.1 rfl (lv_room hcat) hdg hf) h3 h1 (fun v9 H1 a b d => ⟨a.1, ?_⟩) (fun v9 => J_pure fun hv => by subst hv; exact kk)
  · obtain ⟨⟨b1, b2, b3, b4, b5⟩, b6⟩ := hX.preN (I := fun H9 => (MK n1 I H9 ∧ H9.size = n1 + 1) ∧ va_at (gD G) jcl (n1, .inr (9, [.null, .null, .null, .null, .null, .null, .null, .null, .int 0])) H9) hX.ao h2 h3 U hU hW
    refine ⟨⟨?_, b2, b3, by rw [hU, h2.1.2]; exact Nat.le_succ _, fun q hq => Nat.le_trans hg0 hq, fun q hq => hq⟩, b6⟩
    rw [hU]
    refine ⟨h2.1.2, Nat.le_refl _, fun o ho => ?_⟩
    have : o = 0 := by omega
    subst this
    exact h2.2
  · have hS8 := a.2
    refine ⟨?_, ?_⟩
    · obtain ⟨H0, k1, k2, k3, k4⟩ := h2.1.1
      exact ⟨H0, k1, k2, by omega, fun q hq => (d q (by omega) (Nat.not_le.mpr hq)).trans (k4 q hq)⟩
    · have h9 : GH (upG G n1 n1 (fun q => n1 ≤ q)) w0 H1 := GH0 (f := fun _ => .inr (9, [.null, .null, .null, .null, .null, .null, .null, .null, .int 0])) (hS8.congr (fun o ho => by rw [allF_lo ho]; congr 1; funext i; unfold nf; split <;> rfl)) (fun q hq => hq)
      exact h9.1
end LAWROWS

theorem law_A {G : GG} {l : Launch} {p : Program} {e : Env} {R : Room} {s : State} {m : MethodId} {args : Array Value} {below : List Frame} {meth : Method} {c : Code} {Q : State → Prop} (hX : FX G RL cL_law 7 p s m args c) (hR : 14 ≤ R.frames ∧ 548 ≤ R.locals ∧ 600086 ≤ R.cells ∧ 7301442 ≤ R.slots) {n1 : Nat} {X : Heap → Prop} (hL : LOK G n1 X) {n : Nat} {z9 : Wd × MM} : ∀ (d i : Nat), i + d = 40 → ∀ (z : Wd × MM), lwA n (gN G) (gX G) d i z = some z9 → (J G p l e R s m args below meth c 7 1620 838000 Q (LH G n1 X z9) 70 [(0, .ref (ga G 90)), (1, .ref (adW G 0)), (2, .ref (aC n1))] []) → J G p l e R s m args below meth c 7 (1300 + 8 * i) (710000 + 3200 * i) Q (LH G n1 X z) 39 [(3, .int (nI i)), (0, .ref (ga G 90)), (1, .ref (adW G 0)), (2, .ref (aC n1))] [] := by
  intro d
  induction d with
  | zero =>
    intro i hi z hF kk
    have hi : i = 40 := by omega
    subst hi
    have e0 := Option.some.inj hF
    subst e0
    refine J_iload_n hX dL_law_39 0 rfl (t := 40) rfl ?_
    refine J_bipush (v := 40) hX dL_law_40 (by decide) (t := 42) rfl ?_
    refine J_icmp_ge (tgt := 70) hX dL_law_42 (by decide) (t := 45) rfl (fun zc => ?_) (fun zc => absurd (by decide) zc)
    exact J_sub [1, 2, 3] rfl kk
  | succ d ih =>
    intro i hi z hF kk
    unfold lwA at hF
    obtain ⟨b1, z2, e1, hF⟩ := bo2_e hF
    obtain ⟨g1, hF⟩ := gd_e hF
    obtain ⟨b2, e2, hF⟩ := bo1_e hF
    obtain ⟨g2, hF⟩ := gd_e hF
    refine J_iload_n hX dL_law_39 0 rfl (t := 40) rfl ?_
    refine J_bipush (v := 40) hX dL_law_40 (by decide) (t := 42) rfl ?_
    refine J_icmp_ge (tgt := 70) hX dL_law_42 (by decide) (t := 45) rfl (fun z => absurd z (nI_ge (show i < 40 by omega) (by decide))) (fun zc => ?_)
    refine J_aload_n hX dL_law_45 3 rfl (t := 46) rfl ?_
    refine J_aload_n hX dL_law_46 2 rfl (t := 47) rfl ?_
    refine J_aload_n hX dL_law_47 1 rfl (t := 48) rfl ?_
    refine J_iload_n hX dL_law_48 0 rfl (t := 49) rfl ?_
    refine J_lS hX [.ref (aC n1), .ref (adW G 0), .ref (ga G 90), .int (nI i)] [] [.int (bI b1)] (ctQ_acts (l := l) hL z (nI i) n e1) miL_acts p_1446 p_1445 ⟨rfl, rfl, Nat.le_trans (by decide) hR.1, Nat.le_trans (by decide) hR.2.1⟩ rfl rfl (Nat.le_of_ble_eq_true rfl) ⟨by have := hR.2.2.1; omega, by have := hR.2.2.2; omega⟩ dL_law_49 (t := 52) rfl rfl ?_
    subst g1
    refine J_if_eq (tgt := 62) hX dL_law_52 (by decide) (t := 55) rfl (fun z => absurd z (by decide)) (fun zc => ?_)
    refine J_aload_n hX dL_law_55 3 rfl (t := 56) rfl ?_
    refine J_lS hX [.ref (aC n1)] [] [.int (bI b2)] (ctQ_holds (l := l) hL z2 n e2) miL_holds p_1589 p_1588 ⟨rfl, rfl, Nat.le_trans (by decide) hR.1, Nat.le_trans (by decide) hR.2.1⟩ rfl rfl (Nat.le_of_ble_eq_true rfl) ⟨by have := hR.2.2.1; omega, by have := hR.2.2.2; omega⟩ dL_law_56 (t := 59) rfl rfl ?_
    subst g2
    refine J_if_ne (tgt := 64) hX dL_law_59 (by decide) (t := 62) rfl (fun zc => ?_) (fun z => absurd z (by decide))
    refine J_iinc (v := nI (i + 1)) (lc2 := [(3, .int (nI (i + 1))), (0, .ref (ga G 90)), (1, .ref (adW G 0)), (2, .ref (aC n1))]) hX dL_law_64 0 rfl (nI_succ i).symm (Nat.le_of_ble_eq_true rfl) rfl (t := 67) rfl ?_
    refine J_goto (tgt := 39) hX dL_law_67 (by decide) ?_
    exact J_wid (k := 1300 + 8 * (i + 1)) (n := 710000 + 3200 * (i + 1)) (by omega) (by omega) (ih (i + 1) (by omega) z2 hF kk)
theorem law_B {G : GG} {l : Launch} {p : Program} {e : Env} {R : Room} {s : State} {m : MethodId} {args : Array Value} {below : List Frame} {meth : Method} {c : Code} {Q : State → Prop} {cells slots : Nat} (hX : FX G RL cL_law 7 p s m args c) (hR : 14 ≤ R.frames ∧ 548 ≤ R.locals ∧ 600086 ≤ R.cells ∧ 7301442 ≤ R.slots) {n1 : Nat} {X : Heap → Prop} (hL : LOK G n1 X) {k0 q : Nat} (hk0 : n1 + 495 ≤ k0) (hq : k0 ≤ q) (hc : cells ≤ 2000 ∧ slots ≤ 900000) {z : Wd × MM} {f9 : Nat → Int32} : ∀ (d i : Nat), i + d ≤ 31 → ∀ (f : Nat → Int32), lwB z d i f = some f9 → (J G p l e R s m args below meth c 7 cells slots Q (LH G n1 (XR G q 30 f9 (XK G n1 k0 X)) z) 113 [(0, .ref (ga G 90)), (1, .ref (adW G 0)), (2, .ref (aC n1)), (3, .ref q)] []) → J G p l e R s m args below meth c 7 cells slots Q (LH G n1 (XR G q 30 f (XK G n1 k0 X)) z) 88 [(4, .int (nI i)), (0, .ref (ga G 90)), (1, .ref (adW G 0)), (2, .ref (aC n1)), (3, .ref q)] [] := by
  intro d
  induction d with
  | zero => intro i hi f hF; cases hF
  | succ d ih =>
    intro i hi f hF kk
    unfold lwB at hF
    refine J_iload hX dL_law_88 0 rfl (t := 90) rfl ?_
    refine J_aload_n hX dL_law_90 2 rfl (t := 91) rfl ?_
    refine J_wGet hX 2 (by decide) p_1024 rfl dL_law_91 (t := 94) rfl ?_
    refine J_icmp_ge (tgt := 113) hX dL_law_94 (by decide) (t := 97) rfl (fun zc => ?_) (fun zc => ?_)
    · rw [if_pos zc] at hF
      have e0 := Option.some.inj hF
      subst e0
      exact J_sub [1, 2, 3, 4] rfl kk
    · rw [if_neg zc] at hF
      obtain ⟨g1, hF⟩ := gd_e hF
      obtain ⟨x1, e1, hF⟩ := bx1_e hF
      refine J_aload_n hX dL_law_97 4 rfl (t := 98) rfl ?_
      refine J_iload hX dL_law_98 0 rfl (t := 100) rfl ?_
      refine J_aload_n hX dL_law_100 3 rfl (t := 101) rfl ?_
      refine J_iload hX dL_law_101 0 rfl (t := 103) rfl ?_
      refine J_lC hX (XR.lok hL hk0 hq) [.int (nI i)] [.int (nI i), .ref q] [.int x1, .int (nI i), .ref q] (fun zz => ctX12_finalState (G := GCz G n1 zz) (l := l) z.1 (nI i) e1) rfl miX12_finalState mvX12_finalState cb9 p_961 ⟨rfl, rfl, Nat.le_trans (by decide) hR.1, Nat.le_trans (by decide) hR.2.1⟩ rfl rfl (Nat.le_of_ble_eq_true rfl) ⟨by have := hR.2.2.1; omega, by have := hR.2.2.2; omega⟩ dL_law_103 (t := 106) rfl rfl ?_
      refine J_stR hX hk0 hL hq g1 (f2 := upd f i x1) (by rw [nI_clamp (by omega)]) dL_law_106 (t := 107) rfl ?_
      refine J_iinc (v := nI (i + 1)) (lc2 := [(4, .int (nI (i + 1))), (0, .ref (ga G 90)), (1, .ref (adW G 0)), (2, .ref (aC n1)), (3, .ref q)]) hX dL_law_107 0 rfl (nI_succ i).symm (Nat.le_of_ble_eq_true rfl) rfl (t := 110) rfl ?_
      refine J_goto (tgt := 88) hX dL_law_110 (by decide) ?_
      exact ih (i + 1) (by omega) _ hF kk
theorem law_C {G : GG} {l : Launch} {p : Program} {e : Env} {R : Room} {s : State} {m : MethodId} {args : Array Value} {below : List Frame} {meth : Method} {c : Code} {Q : State → Prop} {cells slots : Nat} (hX : FX G RL cL_law 7 p s m args c) (hR : 14 ≤ R.frames ∧ 548 ≤ R.locals ∧ 600086 ≤ R.cells ∧ 7301442 ≤ R.slots) {n1 : Nat} {X : Heap → Prop} (hL : LOK G n1 X) {k0 q : Nat} (hk0 : n1 + 495 ≤ k0) (hq : k0 ≤ q) (hc : cells ≤ 2000 ∧ slots ≤ 900000) {n : Nat} {V : MM} {f : Nat → Int32} {w9 : Wd} : ∀ (d i : Nat), i + d = 200 → ∀ (w : Wd), lwC n d i w = some w9 → (J G p l e R s m args below meth c 7 cells slots Q (LH G n1 (XR G q 30 f (XK G n1 k0 X)) (w9, V)) 172 [(0, .ref (ga G 90)), (1, .ref (adW G 0)), (2, .ref (aC n1)), (3, .ref q)] []) → J G p l e R s m args below meth c 7 cells slots Q (LH G n1 (XR G q 30 f (XK G n1 k0 X)) (w, V)) 116 [(4, .int (nI i)), (0, .ref (ga G 90)), (1, .ref (adW G 0)), (2, .ref (aC n1)), (3, .ref q)] [] := by
  intro d
  induction d with
  | zero =>
    intro i hi w hF kk
    have hi : i = 200 := by omega
    subst hi
    have e0 := Option.some.inj hF
    subst e0
    refine J_iload hX dL_law_116 0 rfl (t := 118) rfl ?_
    refine J_sipush (v := 200) hX dL_law_118 (by decide) (t := 121) rfl ?_
    refine J_icmp_ge (tgt := 172) hX dL_law_121 (by decide) (t := 124) rfl (fun zc => ?_) (fun zc => absurd (by decide) zc)
    exact J_sub [1, 2, 3, 4] rfl kk
  | succ d ih =>
    intro i hi w hF kk
    unfold lwC at hF
    obtain ⟨x1, e1, hF⟩ := bo1_e hF
    refine J_iload hX dL_law_116 0 rfl (t := 118) rfl ?_
    refine J_sipush (v := 200) hX dL_law_118 (by decide) (t := 121) rfl ?_
    refine J_icmp_ge (tgt := 172) hX dL_law_121 (by decide) (t := 124) rfl (fun z => absurd z (nI_ge (show i < 200 by omega) (by decide))) (fun zc => ?_)
    refine J_aload_n hX dL_law_124 3 rfl (t := 125) rfl ?_
    refine J_lC hX (XR.lok hL hk0 hq) [] [] [.int x1] (fun zz => ctX12_openShouts (G := GCz G n1 zz) (l := l) w n e1) rfl miX12_openShouts mvX12_openShouts cb9 p_920 ⟨rfl, rfl, Nat.le_trans (by decide) hR.1, Nat.le_trans (by decide) hR.2.1⟩ rfl rfl (Nat.le_of_ble_eq_true rfl) ⟨by have := hR.2.2.1; omega, by have := hR.2.2.2; omega⟩ dL_law_125 (t := 128) rfl rfl ?_
    refine J_if_le (tgt := 172) hX dL_law_128 (by decide) (t := 131) rfl (fun zc => ?_) (fun zc => ?_)
    · rw [if_pos zc] at hF
      have e0 := Option.some.inj hF
      subst e0
      exact J_sub [1, 2, 3, 4] rfl kk
    · rw [if_neg zc] at hF
      obtain ⟨nx, e2, hF⟩ := bo1_e hF
      obtain ⟨r, w2, e3, hF⟩ := bx2_e hF
      obtain ⟨w3, hAG, hF⟩ := gh_e hF
      obtain ⟨g1, hF⟩ := gd_e hF
      obtain ⟨g2, hF⟩ := gd_e hF
      refine J_aload_n hX dL_law_131 3 rfl (t := 132) rfl ?_
      refine J_lC hX (XR.lok hL hk0 hq) [] [] [.int nx] (fun zz => ctX12_nextEvent (G := GCz G n1 zz) (l := l) w n e2) rfl miX12_nextEvent mvX12_nextEvent cb9 p_956 ⟨rfl, rfl, Nat.le_trans (by decide) hR.1, Nat.le_trans (by decide) hR.2.1⟩ rfl rfl (Nat.le_of_ble_eq_true rfl) ⟨by have := hR.2.2.1; omega, by have := hR.2.2.2; omega⟩ dL_law_132 (t := 135) rfl rfl ?_
      refine J_istore (lc2 := [(5, .int nx), (4, .int (nI i)), (0, .ref (ga G 90)), (1, .ref (adW G 0)), (2, .ref (aC n1)), (3, .ref q)]) hX dL_law_135 (Nat.le_of_ble_eq_true rfl) rfl (t := 137) rfl ?_
      refine J_aload_n hX dL_law_137 4 rfl (t := 138) rfl ?_
      refine J_iload hX dL_law_138 0 rfl (t := 140) rfl ?_
      refine J_aload_n hX dL_law_140 4 rfl (t := 141) rfl ?_
      refine J_lC hX (XR.lok hL hk0 hq) [] [.int nx, .ref (aC n1)] [.int (FX12_time w), .int nx, .ref (aC n1)] (fun zz => ctX12_time (G := GCz G n1 zz) (l := l) w rfl) rfl miX12_time mvX12_time cb9 p_912 ⟨rfl, rfl, Nat.le_trans (by decide) hR.1, Nat.le_trans (by decide) hR.2.1⟩ rfl rfl (Nat.le_of_ble_eq_true rfl) ⟨by have := hR.2.2.1; omega, by have := hR.2.2.2; omega⟩ dL_law_141 (t := 144) rfl rfl ?_
      refine J_isub hX dL_law_144 (t := 145) rfl ?_
      refine J_lCg hX (XR.lok hL hk0 hq) hAG [.int (nx - FX12_time w)] [] [.int r] (fun zz => ctX12_pass (G := GCz G n1 zz) (l := l) w (nx - FX12_time w) n e3) (z2 := (w3, V)) rfl miX12_pass mvX12_pass cb9 p_970 ⟨rfl, rfl, Nat.le_trans (by decide) hR.1, Nat.le_trans (by decide) hR.2.1⟩ rfl rfl (Nat.le_of_ble_eq_true rfl) ⟨by have := hR.2.2.1; omega, by have := hR.2.2.2; omega⟩ dL_law_145 (t := 148) rfl rfl ?_
      refine J_istore (lc2 := [(6, .int r), (5, .int nx), (4, .int (nI i)), (0, .ref (ga G 90)), (1, .ref (adW G 0)), (2, .ref (aC n1)), (3, .ref q)]) hX dL_law_148 (Nat.le_of_ble_eq_true rfl) rfl (t := 150) rfl ?_
      refine J_aload_n hX dL_law_150 5 rfl (t := 151) rfl ?_
      refine J_lC hX (XR.lok hL hk0 hq) [] [] [.int (FX12_time w3)] (fun zz => ctX12_time (G := GCz G n1 zz) (l := l) w3 rfl) rfl miX12_time mvX12_time cb9 p_912 ⟨rfl, rfl, Nat.le_trans (by decide) hR.1, Nat.le_trans (by decide) hR.2.1⟩ rfl rfl (Nat.le_of_ble_eq_true rfl) ⟨by have := hR.2.2.1; omega, by have := hR.2.2.2; omega⟩ dL_law_151 (t := 154) rfl rfl ?_
      refine J_iload hX dL_law_154 1 rfl (t := 156) rfl ?_
      refine J_icmp_ne (tgt := 164) hX dL_law_156 (by decide) (t := 159) rfl (fun z => absurd (of_decide_eq_true g1) z) (fun zc => ?_)
      refine J_iload hX dL_law_159 0 rfl (t := 161) rfl ?_
      refine J_if_ge (tgt := 166) hX dL_law_161 (by decide) (t := 164) rfl (fun zc => ?_) (fun z => absurd (of_decide_eq_true g2) z)
      refine J_iinc (v := nI (i + 1)) (lc2 := [(4, .int (nI (i + 1))), (6, .int r), (5, .int nx), (0, .ref (ga G 90)), (1, .ref (adW G 0)), (2, .ref (aC n1)), (3, .ref q)]) hX dL_law_166 2 rfl (nI_succ i).symm (Nat.le_of_ble_eq_true rfl) rfl (t := 169) rfl ?_
      refine J_goto (tgt := 116) hX dL_law_169 (by decide) ?_
      refine J_sub [0, 3, 4, 5, 6] rfl ?_
      exact ih (i + 1) (by omega) w3 hF kk
theorem law_D {G : GG} {l : Launch} {p : Program} {e : Env} {R : Room} {s : State} {m : MethodId} {args : Array Value} {below : List Frame} {meth : Method} {c : Code} {Q : State → Prop} {cells slots : Nat} (hX : FX G RL cL_law 7 p s m args c) (hR : 14 ≤ R.frames ∧ 548 ≤ R.locals ∧ 600086 ≤ R.cells ∧ 7301442 ≤ R.slots) {n1 : Nat} {X : Heap → Prop} (hL : LOK G n1 X) {k0 q : Nat} (hk0 : n1 + 495 ≤ k0) (hq : k0 ≤ q) (hc : cells ≤ 2000 ∧ slots ≤ 900000) {z : Wd × MM} {f : Nat → Int32} : ∀ (d i : Nat), i + d ≤ 31 → lwD z f d i = some () → (J G p l e R s m args below meth c 7 cells slots Q (LH G n1 (XR G q 30 f (XK G n1 k0 X)) z) 205 [(0, .ref (ga G 90)), (1, .ref (adW G 0)), (2, .ref (aC n1)), (3, .ref q)] []) → J G p l e R s m args below meth c 7 cells slots Q (LH G n1 (XR G q 30 f (XK G n1 k0 X)) z) 175 [(4, .int (nI i)), (0, .ref (ga G 90)), (1, .ref (adW G 0)), (2, .ref (aC n1)), (3, .ref q)] [] := by
  intro d
  induction d with
  | zero => intro i hi hF; cases hF
  | succ d ih =>
    intro i hi hF kk
    unfold lwD at hF
    refine J_iload hX dL_law_175 0 rfl (t := 177) rfl ?_
    refine J_aload_n hX dL_law_177 2 rfl (t := 178) rfl ?_
    refine J_wGet hX 2 (by decide) p_1024 rfl dL_law_178 (t := 181) rfl ?_
    refine J_icmp_ge (tgt := 205) hX dL_law_181 (by decide) (t := 184) rfl (fun zc => ?_) (fun zc => ?_)
    · exact J_sub [1, 2, 3, 4] rfl kk
    · rw [if_neg zc] at hF
      obtain ⟨g1, hF⟩ := gd_e hF
      obtain ⟨x1, e1, hF⟩ := bx1_e hF
      obtain ⟨g2, hF⟩ := gd_e hF
      refine J_aload_n hX dL_law_184 3 rfl (t := 185) rfl ?_
      refine J_iload hX dL_law_185 0 rfl (t := 187) rfl ?_
      refine J_lC hX (XR.lok hL hk0 hq) [.int (nI i)] [] [.int x1] (fun zz => ctX12_shoutState (G := GCz G n1 zz) (l := l) z.1 (nI i) e1) rfl miX12_shoutState mvX12_shoutState cb9 p_928 ⟨rfl, rfl, Nat.le_trans (by decide) hR.1, Nat.le_trans (by decide) hR.2.1⟩ rfl rfl (Nat.le_of_ble_eq_true rfl) ⟨by have := hR.2.2.1; omega, by have := hR.2.2.2; omega⟩ dL_law_187 (t := 190) rfl rfl ?_
      refine J_aload_n hX dL_law_190 4 rfl (t := 191) rfl ?_
      refine J_iload hX dL_law_191 0 rfl (t := 193) rfl ?_
      refine J_ldR hX g1 (v := f i) (by rw [nI_clamp (by omega)]) dL_law_193 (t := 194) rfl ?_
      refine J_icmp_eq (tgt := 199) hX dL_law_194 (by decide) (t := 197) rfl (fun zc => ?_) (fun z => absurd (of_decide_eq_true g2) z)
      refine J_iinc (v := nI (i + 1)) (lc2 := [(4, .int (nI (i + 1))), (0, .ref (ga G 90)), (1, .ref (adW G 0)), (2, .ref (aC n1)), (3, .ref q)]) hX dL_law_199 0 rfl (nI_succ i).symm (Nat.le_of_ble_eq_true rfl) rfl (t := 202) rfl ?_
      refine J_goto (tgt := 175) hX dL_law_202 (by decide) ?_
      exact ih (i + 1) (by omega) hF kk
theorem ctW_grown {G : GG} {l : Launch} {f : Nat → va_E} (hg : gn G = g0 G) (hAll : ∀ q, g0 G ≤ q → gA G q) (n : Nat) {rw9 : MM × List Nat} (hF : FW_grown n (gN G) (gX G) (V0, []) = some rw9) : CTP G l yX13_grown cX13_grown 13 (some (.object RX13)) rmX13_grown 700 700000 [.ref (ga G 90)] (NB G 0 f) (fun v9 H => v9 = some (.ref (adW G 0)) ∧ TH G rw9 H) := by
  refine CTP.of miX13_grown [(0, .ref (ga G 90))] rfl (Nat.le_of_ble_eq_true rfl) ?_
  intro p e s m args below meth c hX hR hlk
  have hX : FX G RX13 cX13_grown 13 p s m args c := hX
  refine N_new (k := 0) hX cb10 p_1010 p_1011 p_25 [.int 0, .int 0, .int 0, .int 0, .int 0, .int 0, .int 0, .int 0, .null, .null, .null, .null] dfX13 ⟨Nat.le_of_ble_eq_true rfl, Nat.le_of_ble_eq_true rfl⟩ dX13_grown_0 (t := 3) rfl ?_
  refine J_dup hX dX13_grown_3 rfl (t := 4) rfl ?_
  refine N_call hX hX.ao [] [.ref (gn G + 0)] (cnX13_init hg nf_s) miX13_init p_1013 rfl p_1012 ⟨rfl, rfl, Nat.le_of_ble_eq_true rfl, Nat.le_of_ble_eq_true rfl⟩ rfl rfl (Nat.le_of_ble_eq_true rfl) ⟨Nat.le_of_ble_eq_true rfl, Nat.le_of_ble_eq_true rfl⟩ dX13_grown_4 (t := 7) rfl (fun v => J_pure fun hv => ?_)
  subst hv
  refine J_imp (I2 := TH G (V0, [])) (fun H h => h) ?_
  refine J_wid (k := 60) (n := 600) (Nat.le_of_ble_eq_true rfl) (Nat.le_of_ble_eq_true rfl) ?_
  rw [show gn G + 0 = adW G 0 from by unfold adW; rw [hg]]
  exact bTW_grown hAll hX hR hlk n (V0, []) (by decide) hF
theorem law_walk {G : GG} {l : Launch} {p : Program} {e : Env} {R : Room} {s : State} {m : MethodId} {args : Array Value} {below : List Frame} {meth : Method} {c : Code} {Q : State → Prop} (hX : FX G RL cL_law 7 p s m args c) (hR : 14 ≤ R.frames ∧ 548 ≤ R.locals ∧ 600086 ≤ R.cells ∧ 7301442 ≤ R.slots) (hg : gn G = g0 G) (hAll : ∀ q, g0 G ≤ q → gA G q) {n : Nat} {f0 : Nat → va_E} (hF : FQ_law n (gN G) (gX G) = some ()) (kk : ∀ I : Heap → Prop, J G p l e R s m args below meth c 7 2000 900000 Q I 225 [] [.int 1]) : J G p l e R s m args below meth c 7 0 0 Q (NB G 0 f0) 0 [(0, .ref (ga G 90))] [] := by
  unfold FQ_law at hF
  obtain ⟨y, h1, hF⟩ := bo1_e hF
  obtain ⟨hy, hF⟩ := gd_e hF
  replace hy := of_decide_eq_true hy
  obtain ⟨b1, w1, h2, hF⟩ := bo2_e hF
  obtain ⟨hb, hF⟩ := gd_e hF
  obtain ⟨r1, w2, h3, hF⟩ := bx2_e hF
  obtain ⟨w3, hAG, hF⟩ := gh_e hF
  obtain ⟨hr, hF⟩ := gd_e hF
  replace hr := of_decide_eq_true hr
  obtain ⟨z, h4, hF⟩ := bo1_e hF
  obtain ⟨al, h5, hF⟩ := bo1_e hF
  obtain ⟨hal, hF⟩ := gd_e hF
  obtain ⟨f9, h6, hF⟩ := bo1_e hF
  obtain ⟨w4, h7, hF⟩ := bo1_e hF
  obtain ⟨u9, h8, hF⟩ := bo1_e hF
  obtain ⟨h9, hF⟩ := gd_e hF
  replace h9 := of_decide_eq_true h9
  obtain ⟨nx, h10, hF⟩ := bo1_e hF
  obtain ⟨h11, hF⟩ := gd_e hF
  replace h11 := of_decide_eq_true h11
  refine J_aload_n hX dL_law_0 0 rfl (t := 1) rfl ?_
  refine J_callSP hX [.ref (ga G 90)] [] (ctW_grown (l := l) hg hAll n h1) miX13_grown p_1008 p_1007 ⟨rfl, rfl, Nat.le_trans (by decide) hR.1, Nat.le_trans (by decide) hR.2.1⟩ rfl rfl (Nat.le_of_ble_eq_true rfl) ⟨by have := hR.2.2.1; omega, by have := hR.2.2.2; omega⟩ dL_law_1 (t := 4) rfl (fun v => J_pure fun hv => ?_)
  subst hv
  refine J_astore_n (lc2 := [(1, .ref (adW G 0)), (0, .ref (ga G 90))]) hX dL_law_4 rfl (Nat.le_of_ble_eq_true rfl) rfl (t := 5) rfl ?_
  refine J_exE fun q => J_exE fun cap => J_exE fun ml => J_exE fun bs => J_pure fun hp => ?_
  refine J_newN hX cb9 p_57 p_58 p_37 [.null, .null, .null, .null, .null, .null, .null, .null, .int 0] dfX12 ⟨by have := hR.2.2.1; omega, by have := hR.2.2.2; omega⟩ dL_law_5 (t := 8) rfl (fun n1 hP hz1 => ?_)
  have hq1 : q < n1 := hP (fun z => q < z) (fun H h => h.1.2.lt)
  have hb1 : g0 G + 52 ≤ n1 := by have := hp.1.1.1; omega
  refine J_dup hX dL_law_8 rfl (t := 9) rfl ?_
  refine J_echo hX hz1 (by omega) [.ref n1] p_59 p_60 ⟨Nat.le_trans (by decide) hR.1, Nat.le_trans (by decide) hR.2.1⟩ rfl (Nat.le_of_ble_eq_true rfl) ⟨by have := hR.2.2.1; omega, by have := hR.2.2.2; omega⟩ dL_law_9 (t := 12) rfl ?_
  refine J_astore_n (lc2 := [(2, .ref n1), (1, .ref (adW G 0)), (0, .ref (ga G 90))]) hX dL_law_12 rfl (Nat.le_of_ble_eq_true rfl) rfl (t := 13) rfl ?_
  have hL : LOK G n1 (XB G q cap ml (nI y.2.length) bs) := ⟨hb1, hAll, fun H H1 h hz ho => ⟨h.1.kept (ho _ h.1.lt (fun k => by have := k.2; unfold adW at this; omega) (fun k => by have := k.1; unfold adW at this; omega)), h.2.kept (ho _ h.2.lt (fun k => by have := k.2; have := hp.1.1.1; omega) (fun k => by have := k.1; omega))⟩⟩
  have hT : ∀ H, XB G q cap ml (nI y.2.length) bs H → TX G true (adW G 50) y.2 H := fun H h => ⟨q, cap, bs, ml, 0, ⟨hp.2.1.2.1, by have := hp.2.1.2.2.1; have := hy; omega, hp.2.2⟩, h.2, h.1⟩
  refine J_imp (I2 := LH G n1 (XB G q cap ml (nI y.2.length) bs) (w0, y.1)) (fun H h => ?_) ?_
  · obtain ⟨⟨H0, i1, i2, i3, i4⟩, i5⟩ := h
    exact ⟨i1.2.1.kept (fun x hk _ => i4 x (by have := hk.2; omega)), i5, i1.1.1.kept (i4 _ (by unfold adW; omega)), i1.1.2.kept (i4 _ hq1)⟩
  refine J_sub (lc2 := [(2, .ref (aC n1)), (1, .ref (adW G 0)), (0, .ref (ga G 90))]) [0, 1, 2] rfl ?_
  refine J_aload_n hX dL_law_13 0 rfl (t := 14) rfl ?_
  refine J_aload_n hX dL_law_14 1 rfl (t := 15) rfl ?_
  refine J_wGet hX 11 (by decide) p_1042 rfl dL_law_15 (t := 18) rfl ?_
  refine J_lS hX [.ref (aC n1), .ref (adW G 50)] [] [.int (bI b1)] (z2 := (w1, y.1)) (ctQ_feeds (l := l) hL hT hy (w0, y.1) n h2) miL_feeds p_1260 p_1259 ⟨rfl, rfl, Nat.le_trans (by decide) hR.1, Nat.le_trans (by decide) hR.2.1⟩ rfl rfl (Nat.le_of_ble_eq_true rfl) ⟨by have := hR.2.2.1; omega, by have := hR.2.2.2; omega⟩ dL_law_18 (t := 21) rfl rfl ?_
  subst hb
  refine J_if_eq (tgt := 35) hX dL_law_21 (by decide) (t := 24) rfl (fun z => absurd z (by decide)) (fun zc => ?_)
  refine J_aload_n hX dL_law_24 0 rfl (t := 25) rfl ?_
  refine J_lCg hX hL hAG [] [] [.int r1] (fun zz => ctX12_readText (G := GCz G n1 zz) (l := l) w1 n h3) (z2 := (w3, y.1)) rfl miX12_readText mvX12_readText cb9 p_460 ⟨rfl, rfl, Nat.le_trans (by decide) hR.1, Nat.le_trans (by decide) hR.2.1⟩ rfl rfl (Nat.le_of_ble_eq_true rfl) ⟨by have := hR.2.2.1; omega, by have := hR.2.2.2; omega⟩ dL_law_25 (t := 28) rfl rfl ?_
  refine J_aload_n hX dL_law_28 1 rfl (t := 29) rfl ?_
  refine J_wGet hX 2 (by decide) p_1024 rfl dL_law_29 (t := 32) rfl ?_
  refine J_icmp_eq (tgt := 37) hX dL_law_32 (by decide) (t := 35) rfl (fun zc => ?_) (fun z => absurd hr z)
  refine J_iconst (v := 0) hX dL_law_37 (by decide) (t := 38) rfl ?_
  refine J_val nI_0.symm ?_
  refine J_istore_n (lc2 := [(3, .int (nI 0)), (2, .ref (aC n1)), (1, .ref (adW G 0)), (0, .ref (ga G 90))]) hX dL_law_38 rfl (Nat.le_of_ble_eq_true rfl) rfl (t := 39) rfl ?_
  refine J_sub (lc2 := [(3, .int (nI 0)), (0, .ref (ga G 90)), (1, .ref (adW G 0)), (2, .ref (aC n1))]) [0, 3, 2, 1] rfl ?_
  refine J_wid (k := 1300 + 8 * 0) (n := 710000 + 3200 * 0) (Nat.le_of_ble_eq_true rfl) (Nat.le_of_ble_eq_true rfl) ?_
  refine law_A hX hR hL 40 0 rfl (w3, y.1) h4 ?_
  refine J_aload_n hX dL_law_70 2 rfl (t := 71) rfl ?_
  refine J_aload_n hX dL_law_71 1 rfl (t := 72) rfl ?_
  refine J_lS hX [.ref (aC n1), .ref (adW G 0)] [] [.int (bI al)] (ctQ_alike (l := l) hL z n h5) miL_alike p_1310 p_1309 ⟨rfl, rfl, Nat.le_trans (by decide) hR.1, Nat.le_trans (by decide) hR.2.1⟩ rfl rfl (Nat.le_of_ble_eq_true rfl) ⟨by have := hR.2.2.1; omega, by have := hR.2.2.2; omega⟩ dL_law_72 (t := 75) rfl rfl ?_
  subst hal
  refine J_if_ne (tgt := 80) hX dL_law_75 (by decide) (t := 78) rfl (fun zc => ?_) (fun z => absurd z (by decide))
  refine J_mark fun k0 hk0 => ?_
  refine J_bipush (v := 30) hX dL_law_80 (by decide) (t := 82) rfl ?_
  refine J_newR hX hk0 hL (N := 30) (by decide) (by decide) (Nat.le_of_ble_eq_true rfl) p_101 ⟨by have := hR.2.2.1; omega, by have := hR.2.2.2; omega⟩ dL_law_82 (t := 84) rfl (fun q2 hq2 => ?_)
  refine J_astore_n (lc2 := [(3, .ref q2), (0, .ref (ga G 90)), (1, .ref (adW G 0)), (2, .ref (aC n1))]) hX dL_law_84 rfl (Nat.le_of_ble_eq_true rfl) rfl (t := 85) rfl ?_
  refine J_iconst (v := 0) hX dL_law_85 (by decide) (t := 86) rfl ?_
  refine J_val nI_0.symm ?_
  refine J_istore (lc2 := [(4, .int (nI 0)), (3, .ref q2), (0, .ref (ga G 90)), (1, .ref (adW G 0)), (2, .ref (aC n1))]) hX dL_law_86 (Nat.le_of_ble_eq_true rfl) rfl (t := 88) rfl ?_
  refine J_sub (lc2 := [(4, .int (nI 0)), (0, .ref (ga G 90)), (1, .ref (adW G 0)), (2, .ref (aC n1)), (3, .ref q2)]) [0, 2, 3, 4, 1] rfl ?_
  have hc : 1620 + 1 ≤ 2000 ∧ 838000 + 30 ≤ 900000 := by decide
  refine law_B hX hR hL hk0 hq2 hc 31 0 (by decide) _ h6 ?_
  refine J_iconst (v := 0) hX dL_law_113 (by decide) (t := 114) rfl ?_
  refine J_val nI_0.symm ?_
  refine J_istore (lc2 := [(4, .int (nI 0)), (0, .ref (ga G 90)), (1, .ref (adW G 0)), (2, .ref (aC n1)), (3, .ref q2)]) hX dL_law_114 (Nat.le_of_ble_eq_true rfl) rfl (t := 116) rfl ?_
  refine law_C hX hR hL hk0 hq2 hc 200 0 rfl z.1 h7 ?_
  refine J_iconst (v := 0) hX dL_law_172 (by decide) (t := 173) rfl ?_
  refine J_val nI_0.symm ?_
  refine J_istore (lc2 := [(4, .int (nI 0)), (0, .ref (ga G 90)), (1, .ref (adW G 0)), (2, .ref (aC n1)), (3, .ref q2)]) hX dL_law_173 (Nat.le_of_ble_eq_true rfl) rfl (t := 175) rfl ?_
  refine law_D (z := (w4, z.2)) hX hR hL hk0 hq2 hc 31 0 (by decide) h8 ?_
  refine J_aload_n hX dL_law_205 2 rfl (t := 206) rfl ?_
  refine J_lC hX (XR.lok hL hk0 hq2) [] [] [.int (FX12_held w4)] (fun zz => ctX12_held (G := GCz G n1 zz) (l := l) w4 rfl) rfl miX12_held mvX12_held cb9 p_916 ⟨rfl, rfl, Nat.le_trans (by decide) hR.1, Nat.le_trans (by decide) hR.2.1⟩ rfl rfl (Nat.le_of_ble_eq_true rfl) ⟨by have := hR.2.2.1; omega, by have := hR.2.2.2; omega⟩ dL_law_206 (t := 209) rfl rfl ?_
  refine J_if_ne (tgt := 224) hX dL_law_209 (by decide) (t := 212) rfl (fun z => absurd h9 z) (fun zc => ?_)
  refine J_aload_n hX dL_law_212 2 rfl (t := 213) rfl ?_
  refine J_lC hX (XR.lok hL hk0 hq2) [] [] [.int nx] (fun zz => ctX12_nextEvent (G := GCz G n1 zz) (l := l) w4 n h10) rfl miX12_nextEvent mvX12_nextEvent cb9 p_956 ⟨rfl, rfl, Nat.le_trans (by decide) hR.1, Nat.le_trans (by decide) hR.2.1⟩ rfl rfl (Nat.le_of_ble_eq_true rfl) ⟨by have := hR.2.2.1; omega, by have := hR.2.2.2; omega⟩ dL_law_213 (t := 216) rfl rfl ?_
  refine J_iconst (v := (-1)) hX dL_law_216 (by decide) (t := 217) rfl ?_
  refine J_icmp_ne (tgt := 224) hX dL_law_217 (by decide) (t := 220) rfl (fun z => absurd h11 z) (fun zc => ?_)
  refine J_iconst (v := 1) hX dL_law_220 (by decide) (t := 221) rfl ?_
  refine J_goto (tgt := 225) hX dL_law_221 (by decide) ?_
  exact J_wid (k := 2000) (n := 900000) hc.1 hc.2 (J_sub [] rfl (kk _))
