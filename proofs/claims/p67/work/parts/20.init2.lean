/-! CONSTRUCTORS with loops: a market, a script's commands; the whole EchoMarket; the reference -/
theorem nf_nf {f : Nat → va_E} {o : Nat} {x y : va_E} : nf (nf f o x) o y = nf f o y := by
  funext i
  unfold nf
  split <;> rfl
theorem nf_self {f : Nat → va_E} {o : Nat} {x : va_E} (h : f o = x) : nf f o x = f := by
  funext i
  unfold nf
  split
  · next e => rw [e, h]
  · rfl
def lp (G : GG) (g : Nat → va_E) (a0 t N base : Nat) (b : va_E) (h : Nat → Nat) (i : Nat) : Nat → va_E := fun x => if x = a0 then aRp G t N i h else if base ≤ x ∧ x < base + i then b else g x
theorem lp_step {G : GG} {g : Nat → va_E} {a0 t N base : Nat} {b : va_E} {h : Nat → Nat} {i : Nat} (ha : a0 < base) : nf (nf (lp G g a0 t N base b h i) (base + i) b) a0 (aRp G t N (i + 1) h) = lp G g a0 t N base b h (i + 1) := by
  funext x
  unfold nf lp
  by_cases h1 : x = a0
  · rw [if_pos h1, if_pos h1]
  · simp only [if_neg h1]
    by_cases h2 : x = base + i
    · rw [if_pos h2, if_pos (by omega)]
    · rw [if_neg h2]
      by_cases h3 : base ≤ x ∧ x < base + i
      · rw [if_pos h3, if_pos (by omega)]
      · rw [if_neg h3, if_neg (by omega)]
theorem lp_0 {G : GG} {g : Nat → va_E} {a0 t N base : Nat} {b : va_E} {h : Nat → Nat} (hg : g a0 = aRp G t N 0 h) : lp G g a0 t N base b h 0 = g := by
  funext x
  unfold lp
  by_cases h1 : x = a0
  · rw [if_pos h1, h1, hg]
  · rw [if_neg h1, if_neg (by omega)]
theorem lp_o {G : GG} {g : Nat → va_E} {a0 t N base : Nat} {b : va_E} {h : Nat → Nat} {i x : Nat} (h1 : x ≠ a0) (h2 : ¬ (base ≤ x ∧ x < base + i)) : lp G g a0 t N base b h i x = g x := by
  unfold lp
  rw [if_neg h1, if_neg h2]
theorem lp_a {G : GG} {g : Nat → va_E} {a0 t N base : Nat} {b : va_E} {h : Nat → Nat} {i : Nat} : lp G g a0 t N base b h i a0 = aRp G t N i h := if_pos rfl
theorem lp_b {G : GG} {g : Nat → va_E} {a0 t N base : Nat} {b : va_E} {h : Nat → Nat} {i x : Nat} (h1 : x ≠ a0) (h2 : base ≤ x ∧ x < base + i) : lp G g a0 t N base b h i x = b := by
  unfold lp
  rw [if_neg h1, if_pos h2]
theorem arrV_same {c : ClassId} {N : Nat} {f g : Nat → Value} (h : ∀ j, j < N → f j = g j) : arrV c N f = arrV c N g := by
  unfold arrV
  congr 1
  apply Array.ext
  · simp
  · intro j h1 h2
    simp only [Array.getElem_ofFn]
    exact h j (by simpa using h1)
theorem aRp_full {G : GG} {t N q : Nat} {h g : Nat → Nat} {H : Heap} (hat : va_at (gD G) jcl (q, aRp G t N N h) H) (e : ∀ j, j < N → h j = g j) : va_at (gD G) jcl (q, aR G t N g) H := by
  have h1 : H[q]? = some (arrV (gc G t) N (fun j => va_rf (if j < N then some (h j) else none))) := hat
  show H[q]? = some (arrV (gc G t) N (fun j => va_rf (some (g j))))
  rw [h1, arrV_same (fun j hj => by rw [if_pos hj, e j hj])]
section NB2
variable {G : GG} {own : String} {cc : ByteArray} {p : Program} {l : Launch} {e : Env} {R : Room} {s : State} {m : MethodId} {args : Array Value} {below : List Frame} {meth : Method} {c : Code} {nL cells slots : Nat} {Q : State → Prop} {pc t : Nat} {lc : List (Nat × Value)} {st : List Value} {k : Nat} {f : Nat → va_E}
theorem N_eq {g : Nat → va_E} (h : f = g) (kk : J G p l e R s m args below meth c nL cells slots Q (NB G k g) pc lc st) : J G p l e R s m args below meth c nL cells slots Q (NB G k f) pc lc st := by rw [h]; exact kk
theorem N_iast (hX : FX G own cc nL p s m args c) {o n : Nat} {a : Nat → Int32} (ho : o < k) (hf : f o = aI G n a) {i x : Int32} (hin : inb i n = true) (hdg : decode cc pc = .ok (.iastore, 1)) (ht : pc + 1 = t)
    (kk : J G p l e R s m args below meth c nL cells slots Q (NB G k (nf f o (aI G n (upd a i.toNatClampNeg x)))) t lc st) : J G p l e R s m args below meth c nL cells slots Q (NB G k f) pc lc (.int x :: .int i :: .ref (gn G + o) :: st) := by
  subst ht
  intro H locs ls h1 h2 h3
  have hat := h2.2.2 o ho
  rw [hf] at hat
  refine W.iast hX.1 hX.2.1 hat ((hX.2.2.2.2.2.1.2 0 _ rfl).1 n (fun j9 => .int (a j9))) (fun q => by cases q) (by show ¬ (i < 0 ∨ (arrV _ _ _).slots.size ≤ _); rw [arrV_size]; exact inb_in hin) rfl rfl hdg fun H1 e z oq => ?_
  refine kk H1 _ ls h1 (h2.put ho ?_ z oq) (h3.put z oq (hX.newA h2.2.1 _))
  show H1[gn G + o]? = some (vp_cell _ _)
  rw [e, vp_cell_i, vp_cell_i, arrV_store]
  congr 2
  funext q
  by_cases hq : q = i.toNatClampNeg
  · subst hq
    simp [updV, upd]
  · simp [updV, upd, hq]
theorem N_callV (hX : FX G own cc nL p s m args c) (hAO : AO s) {y : MethodName} {cd : ByteArray} {mL n9 index mc ms o ci : Nat} {rm : Room} {P : Option Value → Heap → Prop} {fs : List Value} {T : u_T} {N : Nat} {ty : Nat → FieldType} (As rest : List Value) (hM : CTN G l y cd mL none rm mc ms (.ref (gn G + o) :: As) (NB G k f) P) (mi : MI y cd mL none n9) (mv : MV y) (cb : CB ci y.cls T N ty) (ho : o < k) (hf9 : f o = .inr (ci, fs)) (hw : Cond.methodLink own index y ∈ WALL) (hrm : rm.cells = mc ∧ rm.slots = ms ∧ rm.frames + 1 ≤ R.frames ∧ 8 + (mL + 11) + rm.locals ≤ R.locals) (hn : As.length = n9) (hst : st = As.reverse ++ .ref (gn G + o) :: rest) (hcat : (rest.map fun v => v.category).sum ≤ 8) (hf : cells + mc ≤ R.cells ∧ slots + ms ≤ R.slots)
    (hdg : decode cc pc = .ok (.invokevirtual index, 3)) (ht : pc + 3 = t) (kk : ∀ v, J G p l e R s m args below meth c nL (cells + mc) (slots + ms) Q (P v) t lc (v.toList ++ rest)) : J G p l e R s m args below meth c nL cells slots Q (NB G k f) pc lc st := by
  subst ht
  intro H locs ls h1 h2 h3
  have hat := h2.2.2 o ho
  rw [hf9] at hat
  exact J_runP (va_runV (C := y.cls) (As := As) (rest := rest) ⟨hX.1, hX.2.1, hX.2.2.1, hX.2.2.2.1, hX.2.2.2.2.1⟩ hM ⟨cb_call hX mi hw hrm, hX.2.2.2.2.1 _ mv.1, hX.2.2.2.2.1 _ mv.2⟩ ⟨CTN.blind G _ _, va_recv hX.2.2.2.2.2.1 (one_P hat) (ci := ci) (q0 := 0) cb.1 rfl, fun U hU hW => ⟨rfl, hX.preN hAO h2 h3 U hU hW⟩⟩ rfl hn h1.1 hst (lv_room hcat) hdg hf) h3 h1 kk
end NB2
theorem miX6_init : MI yX6_init cX6_init 2 none 0 := ⟨q_222, q_138, by decide +kernel, by decide +kernel, by decide +kernel, by decide +kernel⟩
abbrev rmX6_init : Room := { frames := 3, cells := 49, slots := 600, locals := 120 }
def mA (G : GG) (o : Nat) (f : Nat → va_E) : Nat → va_E := nf (nf (nf (nf (nf (nf f (o + 1) (aRp G 3 8 0 (fun i => gn G + (o + 4 + i)))) o (.inr (4, [.ref (gn G + (o + 1)), .null, .null, .int 0, .int 0, .int 0, .int 0, .int 0, .int 0, .int 0, .int 0, .int 0, .int 0]))) (o + 2) (aRp G 4 8 0 (fun i => gn G + (o + 12 + i)))) o (.inr (4, [.ref (gn G + (o + 1)), .ref (gn G + (o + 2)), .null, .int 0, .int 0, .int 0, .int 0, .int 0, .int 0, .int 0, .int 0, .int 0, .int 0]))) (o + 3) (aRp G 5 30 0 (fun i => gn G + (o + 20 + i)))) o (.inr (4, [.ref (gn G + (o + 1)), .ref (gn G + (o + 2)), .ref (gn G + (o + 3)), .int 0, .int 0, .int 0, .int 0, .int 0, .int 0, .int 0, .int 0, .int 0, .int 0]))
abbrev mO (G : GG) (o : Nat) : va_E := .inr (4, [.ref (gn G + (o + 1)), .ref (gn G + (o + 2)), .ref (gn G + (o + 3)), .int 0, .int 0, .int 0, .int 0, .int 0, .int 0, .int 0, .int 0, .int 0, .int 0])
abbrev vB : va_E := .inr (8, [.long 0, .int 0, .int 0, .int 0, .int 0, .int 0, .int 0, .int 0])
abbrev cB : va_E := .inr (1, [.long 0, .int 0, .int 0, .int 0, .int 0, .int 0, .int 0])
abbrev sB : va_E := .inr (6, [.int 0, .int 0, .int 0, .int 0, .int 0, .int 0, .int 0, .int 0, .int 0, .int 0, .int 0])
def mV (G : GG) (o : Nat) (f : Nat → va_E) (i : Nat) : Nat → va_E := lp G (mA G o f) (o + 1) 3 8 (o + 4) vB (fun i => gn G + (o + 4 + i)) i
def mC (G : GG) (o : Nat) (f : Nat → va_E) (i : Nat) : Nat → va_E := lp G (mV G o f 8) (o + 2) 4 8 (o + 12) cB (fun i => gn G + (o + 12 + i)) i
def mS (G : GG) (o : Nat) (f : Nat → va_E) (i : Nat) : Nat → va_E := lp G (mC G o f 8) (o + 3) 5 30 (o + 20) sB (fun i => gn G + (o + 20 + i)) i
def mkt (G : GG) (o : Nat) (f : Nat → va_E) : Nat → va_E := mS G o f 30
theorem mA_0 {G : GG} {o : Nat} {f : Nat → va_E} : mA G o f o = mO G o := nf_s
theorem mA_1 {G : GG} {o : Nat} {f : Nat → va_E} : mA G o f (o + 1) = aRp G 3 8 0 (fun i => gn G + (o + 4 + i)) := (nf_o (by omega)).trans ((nf_o (by omega)).trans ((nf_o (by omega)).trans ((nf_o (by omega)).trans ((nf_o (by omega)).trans (nf_s)))))
theorem mA_2 {G : GG} {o : Nat} {f : Nat → va_E} : mA G o f (o + 2) = aRp G 4 8 0 (fun i => gn G + (o + 12 + i)) := (nf_o (by omega)).trans ((nf_o (by omega)).trans ((nf_o (by omega)).trans (nf_s)))
theorem mA_3 {G : GG} {o : Nat} {f : Nat → va_E} : mA G o f (o + 3) = aRp G 5 30 0 (fun i => gn G + (o + 20 + i)) := (nf_o (by omega)).trans (nf_s)
theorem mA_lo {G : GG} {o x : Nat} {f : Nat → va_E} (h : x < o) : mA G o f x = f x := by
  unfold mA
  rw [nf_o (by omega), nf_o (by omega), nf_o (by omega), nf_o (by omega), nf_o (by omega), nf_o (by omega)]
theorem mV_0 {G : GG} {o i : Nat} {f : Nat → va_E} : mV G o f i o = mO G o := (lp_o (by omega) (by omega)).trans mA_0
theorem mC_0 {G : GG} {o i : Nat} {f : Nat → va_E} : mC G o f i o = mO G o := (lp_o (by omega) (by omega)).trans mV_0
theorem mS_0 {G : GG} {o i : Nat} {f : Nat → va_E} : mS G o f i o = mO G o := (lp_o (by omega) (by omega)).trans mC_0
set_option maxHeartbeats 4000000 in
theorem LX6_init_33 {G : GG} {l : Launch} {p : Program} {e : Env} {s : State} {m : MethodId} {args : Array Value} {below : List Frame} {meth : Method} {c : Code} {Q : State → Prop} (hX : FX G RX6 cX6_init 2 p s m args c) (hAO : AO s) (o : Nat) (f : Nat → va_E) : ∀ (n i cells slots : Nat), i + n = 8 → cells + n ≤ 49 → slots + 8 * n ≤ 600 → J G p l e rmX6_init s m args below meth c 2 (cells + n) (slots + 8 * n) Q (NB G (o + 12) (mV G o f 8)) 58 [(1, .int (nI 8)), (0, .ref (gn G + o))] [] → J G p l e rmX6_init s m args below meth c 2 cells slots Q (NB G (o + 4 + i) (mV G o f i)) 33 [(1, .int (nI i)), (0, .ref (gn G + o))] [] := by
  intro n
  induction n with
  | zero =>
    intro i cells slots h1 h2 h3 kk
    obtain rfl : i = 8 := by omega
    refine J_iload_n hX dX6_init_33 0 rfl (t := 34) rfl ?_
    refine J_bipush (v := 8) hX dX6_init_34 (by decide) (t := 36) rfl ?_
    refine J_icmp_ge (tgt := 58) hX dX6_init_36 (by decide) (t := 39) rfl (fun z => ?_) (fun z => absurd (by decide) z)
    exact kk
  | succ n ih =>
    intro i cells slots h1 h2 h3 kk
    have hi : i < 8 := by omega
    refine J_iload_n hX dX6_init_33 0 rfl (t := 34) rfl ?_
    refine J_bipush (v := 8) hX dX6_init_34 (by decide) (t := 36) rfl ?_
    refine J_icmp_ge (tgt := 58) hX dX6_init_36 (by decide) (t := 39) rfl (fun z => absurd z (show ¬ nI 8 ≤ nI i from nI_ge hi (by decide))) (fun z => ?_)
    refine J_aload_n hX dX6_init_39 1 rfl (t := 40) rfl ?_
    refine N_get hX cb4 (o := o) (by omega) mV_0 0 (by decide) q_371 rfl dX6_init_40 (t := 43) rfl ?_
    refine J_iload_n hX dX6_init_43 0 rfl (t := 44) rfl ?_
    refine N_new (k := o + 4 + i) hX cb8 q_224 q_230 q_139 [.long 0, .int 0, .int 0, .int 0, .int 0, .int 0, .int 0, .int 0] dfX10 ⟨by show cells + 1 ≤ 49; omega, by show slots + 8 ≤ 600; omega⟩ dX6_init_44 (t := 47) rfl ?_
    refine J_dup hX dX6_init_47 rfl (t := 48) rfl ?_
    refine N_callN hX hAO [] [.ref (gn G + (o + 4 + i)), .int (nI i), .ref (gn G + (o + 1))] (cnX10_init (a := gn G + (o + 4 + i))) miX10_init q_232 rfl (by simp [nestL]) ⟨rfl, rfl, Nat.le_of_ble_eq_true rfl, Nat.le_of_ble_eq_true rfl⟩ rfl rfl (Nat.le_of_ble_eq_true rfl) ⟨by show cells + 1 + 0 ≤ 49; omega, by show slots + 8 + 0 ≤ 600; omega⟩ dX6_init_48 (t := 51) rfl (fun v9 => J_pure fun hv9 => ?_)
    subst hv9
    refine N_aast (a0 := o + 1) (v := o + 4 + i) (i := i) (h := fun i => gn G + (o + 4 + i)) hX (by omega) (by omega) ((nf_o (by omega)).trans lp_a) nf_s rfl rfl hi (by decide) rfl dX6_init_51 (t := 52) rfl ?_
    refine N_eq (g := mV G o f (i + 1)) (lp_step (by omega)) ?_
    refine J_iinc (v := nI (i + 1)) (lc2 := [(1, .int (nI (i + 1))), (0, .ref (gn G + o))]) hX dX6_init_52 0 rfl (nI_1 i) (Nat.le_of_ble_eq_true rfl) rfl (t := 55) rfl ?_
    refine J_goto (tgt := 33) hX dX6_init_55 (by decide) ?_
    have e1 : cells + 1 + 0 + n = cells + (n + 1) := by omega
    have e2 : slots + 8 + 0 + 8 * n = slots + 8 * (n + 1) := by omega
    exact ih (i + 1) (cells + 1 + 0) (slots + 8 + 0) (by omega) (by omega) (by omega) (by rw [e1, e2]; exact kk)
set_option maxHeartbeats 4000000 in
theorem LX6_init_60 {G : GG} {l : Launch} {p : Program} {e : Env} {s : State} {m : MethodId} {args : Array Value} {below : List Frame} {meth : Method} {c : Code} {Q : State → Prop} (hX : FX G RX6 cX6_init 2 p s m args c) (hAO : AO s) (o : Nat) (f : Nat → va_E) : ∀ (n i cells slots : Nat), i + n = 8 → cells + n ≤ 49 → slots + 7 * n ≤ 600 → J G p l e rmX6_init s m args below meth c 2 (cells + n) (slots + 7 * n) Q (NB G (o + 20) (mC G o f 8)) 85 [(1, .int (nI 8)), (0, .ref (gn G + o))] [] → J G p l e rmX6_init s m args below meth c 2 cells slots Q (NB G (o + 12 + i) (mC G o f i)) 60 [(1, .int (nI i)), (0, .ref (gn G + o))] [] := by
  intro n
  induction n with
  | zero =>
    intro i cells slots h1 h2 h3 kk
    obtain rfl : i = 8 := by omega
    refine J_iload_n hX dX6_init_60 0 rfl (t := 61) rfl ?_
    refine J_bipush (v := 8) hX dX6_init_61 (by decide) (t := 63) rfl ?_
    refine J_icmp_ge (tgt := 85) hX dX6_init_63 (by decide) (t := 66) rfl (fun z => ?_) (fun z => absurd (by decide) z)
    exact kk
  | succ n ih =>
    intro i cells slots h1 h2 h3 kk
    have hi : i < 8 := by omega
    refine J_iload_n hX dX6_init_60 0 rfl (t := 61) rfl ?_
    refine J_bipush (v := 8) hX dX6_init_61 (by decide) (t := 63) rfl ?_
    refine J_icmp_ge (tgt := 85) hX dX6_init_63 (by decide) (t := 66) rfl (fun z => absurd z (show ¬ nI 8 ≤ nI i from nI_ge hi (by decide))) (fun z => ?_)
    refine J_aload_n hX dX6_init_66 1 rfl (t := 67) rfl ?_
    refine N_get hX cb4 (o := o) (by omega) mC_0 1 (by decide) q_373 rfl dX6_init_67 (t := 70) rfl ?_
    refine J_iload_n hX dX6_init_70 0 rfl (t := 71) rfl ?_
    refine N_new (k := o + 12 + i) hX cb1 q_226 q_275 q_140 [.long 0, .int 0, .int 0, .int 0, .int 0, .int 0, .int 0] dfX2 ⟨by show cells + 1 ≤ 49; omega, by show slots + 7 ≤ 600; omega⟩ dX6_init_71 (t := 74) rfl ?_
    refine J_dup hX dX6_init_74 rfl (t := 75) rfl ?_
    refine N_callN hX hAO [] [.ref (gn G + (o + 12 + i)), .int (nI i), .ref (gn G + (o + 2))] (cnX2_init (a := gn G + (o + 12 + i))) miX2_init q_277 rfl (by simp [nestL]) ⟨rfl, rfl, Nat.le_of_ble_eq_true rfl, Nat.le_of_ble_eq_true rfl⟩ rfl rfl (Nat.le_of_ble_eq_true rfl) ⟨by show cells + 1 + 0 ≤ 49; omega, by show slots + 7 + 0 ≤ 600; omega⟩ dX6_init_75 (t := 78) rfl (fun v9 => J_pure fun hv9 => ?_)
    subst hv9
    refine N_aast (a0 := o + 2) (v := o + 12 + i) (i := i) (h := fun i => gn G + (o + 12 + i)) hX (by omega) (by omega) ((nf_o (by omega)).trans lp_a) nf_s rfl rfl hi (by decide) rfl dX6_init_78 (t := 79) rfl ?_
    refine N_eq (g := mC G o f (i + 1)) (lp_step (by omega)) ?_
    refine J_iinc (v := nI (i + 1)) (lc2 := [(1, .int (nI (i + 1))), (0, .ref (gn G + o))]) hX dX6_init_79 0 rfl (nI_1 i) (Nat.le_of_ble_eq_true rfl) rfl (t := 82) rfl ?_
    refine J_goto (tgt := 60) hX dX6_init_82 (by decide) ?_
    have e1 : cells + 1 + 0 + n = cells + (n + 1) := by omega
    have e2 : slots + 7 + 0 + 7 * n = slots + 7 * (n + 1) := by omega
    exact ih (i + 1) (cells + 1 + 0) (slots + 7 + 0) (by omega) (by omega) (by omega) (by rw [e1, e2]; exact kk)
set_option maxHeartbeats 4000000 in
theorem LX6_init_87 {G : GG} {l : Launch} {p : Program} {e : Env} {s : State} {m : MethodId} {args : Array Value} {below : List Frame} {meth : Method} {c : Code} {Q : State → Prop} (hX : FX G RX6 cX6_init 2 p s m args c) (hAO : AO s) (o : Nat) (f : Nat → va_E) : ∀ (n i cells slots : Nat), i + n = 30 → cells + n ≤ 49 → slots + 11 * n ≤ 600 → J G p l e rmX6_init s m args below meth c 2 (cells + n) (slots + 11 * n) Q (NB G (o + 50) (mS G o f 30)) 112 [(1, .int (nI 30)), (0, .ref (gn G + o))] [] → J G p l e rmX6_init s m args below meth c 2 cells slots Q (NB G (o + 20 + i) (mS G o f i)) 87 [(1, .int (nI i)), (0, .ref (gn G + o))] [] := by
  intro n
  induction n with
  | zero =>
    intro i cells slots h1 h2 h3 kk
    obtain rfl : i = 30 := by omega
    refine J_iload_n hX dX6_init_87 0 rfl (t := 88) rfl ?_
    refine J_bipush (v := 30) hX dX6_init_88 (by decide) (t := 90) rfl ?_
    refine J_icmp_ge (tgt := 112) hX dX6_init_90 (by decide) (t := 93) rfl (fun z => ?_) (fun z => absurd (by decide) z)
    exact kk
  | succ n ih =>
    intro i cells slots h1 h2 h3 kk
    have hi : i < 30 := by omega
    refine J_iload_n hX dX6_init_87 0 rfl (t := 88) rfl ?_
    refine J_bipush (v := 30) hX dX6_init_88 (by decide) (t := 90) rfl ?_
    refine J_icmp_ge (tgt := 112) hX dX6_init_90 (by decide) (t := 93) rfl (fun z => absurd z (show ¬ nI 30 ≤ nI i from nI_ge hi (by decide))) (fun z => ?_)
    refine J_aload_n hX dX6_init_93 1 rfl (t := 94) rfl ?_
    refine N_get hX cb4 (o := o) (by omega) mS_0 2 (by decide) q_375 rfl dX6_init_94 (t := 97) rfl ?_
    refine J_iload_n hX dX6_init_97 0 rfl (t := 98) rfl ?_
    refine N_new (k := o + 20 + i) hX cb6 q_228 q_315 q_141 [.int 0, .int 0, .int 0, .int 0, .int 0, .int 0, .int 0, .int 0, .int 0, .int 0, .int 0] dfX8 ⟨by show cells + 1 ≤ 49; omega, by show slots + 11 ≤ 600; omega⟩ dX6_init_98 (t := 101) rfl ?_
    refine J_dup hX dX6_init_101 rfl (t := 102) rfl ?_
    refine N_callN hX hAO [] [.ref (gn G + (o + 20 + i)), .int (nI i), .ref (gn G + (o + 3))] (cnX8_init (a := gn G + (o + 20 + i))) miX8_init q_317 rfl (by simp [nestL]) ⟨rfl, rfl, Nat.le_of_ble_eq_true rfl, Nat.le_of_ble_eq_true rfl⟩ rfl rfl (Nat.le_of_ble_eq_true rfl) ⟨by show cells + 1 + 0 ≤ 49; omega, by show slots + 11 + 0 ≤ 600; omega⟩ dX6_init_102 (t := 105) rfl (fun v9 => J_pure fun hv9 => ?_)
    subst hv9
    refine N_aast (a0 := o + 3) (v := o + 20 + i) (i := i) (h := fun i => gn G + (o + 20 + i)) hX (by omega) (by omega) ((nf_o (by omega)).trans lp_a) nf_s rfl rfl hi (by decide) rfl dX6_init_105 (t := 106) rfl ?_
    refine N_eq (g := mS G o f (i + 1)) (lp_step (by omega)) ?_
    refine J_iinc (v := nI (i + 1)) (lc2 := [(1, .int (nI (i + 1))), (0, .ref (gn G + o))]) hX dX6_init_106 0 rfl (nI_1 i) (Nat.le_of_ble_eq_true rfl) rfl (t := 109) rfl ?_
    refine J_goto (tgt := 87) hX dX6_init_109 (by decide) ?_
    have e1 : cells + 1 + 0 + n = cells + (n + 1) := by omega
    have e2 : slots + 11 + 0 + 11 * n = slots + 11 * (n + 1) := by omega
    exact ih (i + 1) (cells + 1 + 0) (slots + 11 + 0) (by omega) (by omega) (by omega) (by rw [e1, e2]; exact kk)
set_option maxHeartbeats 4000000 in
theorem cnX6_init {G : GG} {l : Launch} {o : Nat} {f : Nat → va_E} (hf : f o = .inr (4, [.null, .null, .null, .int 0, .int 0, .int 0, .int 0, .int 0, .int 0, .int 0, .int 0, .int 0, .int 0])) : CTN G l yX6_init cX6_init 2 none rmX6_init 49 600 [.ref (gn G + o)] (NB G (o + 1) f) (fun v H => v = none ∧ NB G (o + 50) (mkt G o f) H) := by
  refine CTN.of miX6_init [(0, .ref (gn G + o))] rfl (Nat.le_of_ble_eq_true rfl) ?_
  intro p e s m args below meth c hX hAO hnm hR hlk
  have hX : FX G RX6 cX6_init 2 p s m args c := hX
  have hnm : meth.name = "<init>" := hnm
  refine J_aload_n hX dX6_init_0 0 rfl (t := 1) rfl ?_
  refine N_obj hX q_223 ⟨Nat.le_of_ble_eq_true rfl, Nat.le_of_ble_eq_true rfl⟩ dX6_init_1 (t := 4) rfl ?_
  refine J_aload_n hX dX6_init_4 0 rfl (t := 5) rfl ?_
  refine J_bipush (v := 8) hX dX6_init_5 (by decide) (t := 7) rfl ?_
  refine N_anew (k := o + 1) (t0 := 3) (N := 8) hX hAO (C := "EchoMarket$Valley") (by simp [aoL]) q_224 rfl (by decide) (by decide) (Nat.le_of_ble_eq_true rfl) (fun i => gn G + (o + 4 + i)) ⟨Nat.le_of_ble_eq_true rfl, Nat.le_of_ble_eq_true rfl⟩ dX6_init_7 (t := 10) rfl ?_
  refine N_putF hX hnm cb4 (o := o) (by omega) (fs := [.null, .null, .null, .int 0, .int 0, .int 0, .int 0, .int 0, .int 0, .int 0, .int 0, .int 0, .int 0]) (fs2 := [.ref (gn G + (o + 1)), .null, .null, .int 0, .int 0, .int 0, .int 0, .int 0, .int 0, .int 0, .int 0, .int 0, .int 0]) ((nf_o (by omega)).trans (hf)) 0 (by decide) q_371 rfl rfl (ty := .array (.object "EchoMarket$Valley")) rfl rfl rfl (Nat.le_of_ble_eq_true rfl) rfl dX6_init_10 (t := 13) rfl ?_
  refine J_aload_n hX dX6_init_13 0 rfl (t := 14) rfl ?_
  refine J_bipush (v := 8) hX dX6_init_14 (by decide) (t := 16) rfl ?_
  refine N_anew (k := o + 2) (t0 := 4) (N := 8) hX hAO (C := "EchoMarket$Customer") (by simp [aoL]) q_226 rfl (by decide) (by decide) (Nat.le_of_ble_eq_true rfl) (fun i => gn G + (o + 12 + i)) ⟨Nat.le_of_ble_eq_true rfl, Nat.le_of_ble_eq_true rfl⟩ dX6_init_16 (t := 19) rfl ?_
  refine N_putF hX hnm cb4 (o := o) (by omega) (fs := [.ref (gn G + (o + 1)), .null, .null, .int 0, .int 0, .int 0, .int 0, .int 0, .int 0, .int 0, .int 0, .int 0, .int 0]) (fs2 := [.ref (gn G + (o + 1)), .ref (gn G + (o + 2)), .null, .int 0, .int 0, .int 0, .int 0, .int 0, .int 0, .int 0, .int 0, .int 0, .int 0]) ((nf_o (by omega)).trans (nf_s)) 1 (by decide) q_373 rfl rfl (ty := .array (.object "EchoMarket$Customer")) rfl rfl rfl (Nat.le_of_ble_eq_true rfl) rfl dX6_init_19 (t := 22) rfl ?_
  refine J_aload_n hX dX6_init_22 0 rfl (t := 23) rfl ?_
  refine J_bipush (v := 30) hX dX6_init_23 (by decide) (t := 25) rfl ?_
  refine N_anew (k := o + 3) (t0 := 5) (N := 30) hX hAO (C := "EchoMarket$Shout") (by simp [aoL]) q_228 rfl (by decide) (by decide) (Nat.le_of_ble_eq_true rfl) (fun i => gn G + (o + 20 + i)) ⟨Nat.le_of_ble_eq_true rfl, Nat.le_of_ble_eq_true rfl⟩ dX6_init_25 (t := 28) rfl ?_
  refine N_putF hX hnm cb4 (o := o) (by omega) (fs := [.ref (gn G + (o + 1)), .ref (gn G + (o + 2)), .null, .int 0, .int 0, .int 0, .int 0, .int 0, .int 0, .int 0, .int 0, .int 0, .int 0]) (fs2 := [.ref (gn G + (o + 1)), .ref (gn G + (o + 2)), .ref (gn G + (o + 3)), .int 0, .int 0, .int 0, .int 0, .int 0, .int 0, .int 0, .int 0, .int 0, .int 0]) ((nf_o (by omega)).trans (nf_s)) 2 (by decide) q_375 rfl rfl (ty := .array (.object "EchoMarket$Shout")) rfl rfl rfl (Nat.le_of_ble_eq_true rfl) rfl dX6_init_28 (t := 31) rfl ?_
  refine J_iconst (v := 0) hX dX6_init_31 (by decide) (t := 32) rfl ?_
  refine J_istore_n (lc2 := [(1, .int 0), (0, .ref (gn G + o))]) hX dX6_init_32 rfl (Nat.le_of_ble_eq_true rfl) rfl (t := 33) rfl ?_
  refine N_eq (g := mV G o f 0) (lp_0 mA_1).symm ?_
  refine LX6_init_33 hX hAO o f 8 0 _ _ rfl (by decide) (by decide) ?_
  refine J_iconst (v := 0) hX dX6_init_58 (by decide) (t := 59) rfl ?_
  refine J_istore_n (lc2 := [(1, .int 0), (0, .ref (gn G + o))]) hX dX6_init_59 rfl (Nat.le_of_ble_eq_true rfl) rfl (t := 60) rfl ?_
  refine N_eq (g := mC G o f 0) (lp_0 ((lp_o (by omega) (by omega)).trans mA_2)).symm ?_
  refine J_sub (lc2 := [(1, .int (nI 0)), (0, .ref (gn G + o))]) [0, 1] rfl ?_
  refine LX6_init_60 hX hAO o f 8 0 _ _ rfl (by decide) (by decide) ?_
  refine J_iconst (v := 0) hX dX6_init_85 (by decide) (t := 86) rfl ?_
  refine J_istore_n (lc2 := [(1, .int 0), (0, .ref (gn G + o))]) hX dX6_init_86 rfl (Nat.le_of_ble_eq_true rfl) rfl (t := 87) rfl ?_
  refine N_eq (g := mS G o f 0) (lp_0 ((lp_o (by omega) (by omega)).trans ((lp_o (by omega) (by omega)).trans mA_3))).symm ?_
  refine J_sub (lc2 := [(1, .int (nI 0)), (0, .ref (gn G + o))]) [0, 1] rfl ?_
  refine LX6_init_87 hX hAO o f 30 0 _ _ rfl (by decide) (by decide) ?_
  refine J_wid (k := 49) (n := 600) (by decide) (by decide) ?_
  exact J_vretP hX hR hlk (fun H h => ⟨rfl, h⟩) dX6_init_112
theorem mkt_lo {G : GG} {o x : Nat} {f : Nat → va_E} (h : x < o) : mkt G o f x = f x := (lp_o (by omega) (by omega)).trans ((lp_o (by omega) (by omega)).trans ((lp_o (by omega) (by omega)).trans (mA_lo h)))
theorem mkt_0 {G : GG} {o : Nat} {f : Nat → va_E} : mkt G o f o = mO G o := mS_0
abbrev zI : Nat → Int32 := fun _ => 0
abbrev zL : Nat → Int64 := fun _ => 0
/-- a market's cells, where it stands at region r -/
theorem mkt_rd {G : GG} {r : Nat} {f : Nat → va_E} {H : Heap} {j : Nat} (hj : j < 50) (h : va_at (gD G) jcl (gn G + (offr r + j), mkt G (offr r) f (offr r + j)) H) : va_at (gD G) jcl (adr G r j, cellM G r j zI zL) H := by
  show va_at (gD G) jcl (gn G + (offr r + j), cellM G r j zI zL) H
  unfold cellM
  by_cases h0 : j = 0
  · subst h0
    rw [if_pos rfl]
    rw [show mkt G (offr r) f (offr r + 0) = mO G (offr r) from mkt_0] at h
    exact h
  rw [if_neg h0]
  by_cases h1 : j = 1
  · subst h1
    rw [if_pos rfl]
    rw [show mkt G (offr r) f (offr r + 1) = aRp G 3 8 8 (fun i => gn G + (offr r + 4 + i)) from (lp_o (by omega) (by omega)).trans ((lp_o (by omega) (by omega)).trans lp_a)] at h
    exact aRp_full h (fun i _ => by unfold adr; omega)
  rw [if_neg h1]
  by_cases h2 : j = 2
  · subst h2
    rw [if_pos rfl]
    rw [show mkt G (offr r) f (offr r + 2) = aRp G 4 8 8 (fun i => gn G + (offr r + 12 + i)) from (lp_o (by omega) (by omega)).trans lp_a] at h
    exact aRp_full h (fun i _ => by unfold adr; omega)
  rw [if_neg h2]
  by_cases h3 : j = 3
  · subst h3
    rw [if_pos rfl]
    rw [show mkt G (offr r) f (offr r + 3) = aRp G 5 30 30 (fun i => gn G + (offr r + 20 + i)) from lp_a] at h
    exact aRp_full h (fun i _ => by unfold adr; omega)
  rw [if_neg h3]
  by_cases h4 : j < 12
  · rw [if_pos h4]
    rw [show mkt G (offr r) f (offr r + j) = vB from (lp_o (by omega) (by omega)).trans ((lp_o (by omega) (by omega)).trans (lp_b (by omega) (by omega)))] at h
    exact h
  rw [if_neg h4]
  by_cases h5 : j < 20
  · rw [if_pos h5]
    rw [show mkt G (offr r) f (offr r + j) = cB from (lp_o (by omega) (by omega)).trans (lp_b (by omega) (by omega))] at h
    exact h
  rw [if_neg h5]
  rw [show mkt G (offr r) f (offr r + j) = sB from lp_b (by omega) (by omega)] at h
  exact h
theorem miX9_init : MI yX9_init cX9_init 1 none 0 := ⟨q_182, q_137, by decide +kernel, by decide +kernel, by decide +kernel, by decide +kernel⟩
abbrev rmX9_init : Room := { frames := 2, cells := 4, slots := 2403, locals := 80 }
def textF (G : GG) (f : Nat → va_E) : Nat → va_E := nf (nf (nf (nf (nf (nf (nf (nf (nf f 2 (aB G 600 (fun _ => 0))) 1 (.inr (7, [.ref (gn G + 2), .null, .null, .null, .int 0, .int 0, .int 0, .int 0, .int 0]))) 3 (aI G 601 (fun _ => 0))) 1 (.inr (7, [.ref (gn G + 2), .ref (gn G + 3), .null, .null, .int 0, .int 0, .int 0, .int 0, .int 0]))) 4 (aI G 601 (fun _ => 0))) 1 (.inr (7, [.ref (gn G + 2), .ref (gn G + 3), .ref (gn G + 4), .null, .int 0, .int 0, .int 0, .int 0, .int 0]))) 5 (aJ G 601 (fun _ => 0))) 1 (.inr (7, [.ref (gn G + 2), .ref (gn G + 3), .ref (gn G + 4), .ref (gn G + 5), .int 0, .int 0, .int 0, .int 0, .int 0]))) 1 (.inr (7, [.ref (gn G + 2), .ref (gn G + 3), .ref (gn G + 4), .ref (gn G + 5), .int 0, .int 0, .int 0, .int 0, .int (-1)]))
theorem textF_1 {G : GG} {f : Nat → va_E} : textF G f 1 = .inr (7, [.ref (gn G + 2), .ref (gn G + 3), .ref (gn G + 4), .ref (gn G + 5), .int 0, .int 0, .int 0, .int 0, .int (-1)]) := nf_s
theorem textF_2 {G : GG} {f : Nat → va_E} : textF G f 2 = aB G 600 (fun _ => 0) := (nf_o (by omega)).trans ((nf_o (by omega)).trans ((nf_o (by omega)).trans ((nf_o (by omega)).trans ((nf_o (by omega)).trans ((nf_o (by omega)).trans ((nf_o (by omega)).trans ((nf_o (by omega)).trans (nf_s))))))))
theorem textF_3 {G : GG} {f : Nat → va_E} : textF G f 3 = aI G 601 (fun _ => 0) := (nf_o (by omega)).trans ((nf_o (by omega)).trans ((nf_o (by omega)).trans ((nf_o (by omega)).trans ((nf_o (by omega)).trans ((nf_o (by omega)).trans (nf_s))))))
theorem textF_4 {G : GG} {f : Nat → va_E} : textF G f 4 = aI G 601 (fun _ => 0) := (nf_o (by omega)).trans ((nf_o (by omega)).trans ((nf_o (by omega)).trans ((nf_o (by omega)).trans (nf_s))))
theorem textF_5 {G : GG} {f : Nat → va_E} : textF G f 5 = aJ G 601 (fun _ => 0) := (nf_o (by omega)).trans ((nf_o (by omega)).trans (nf_s))
theorem textF_lo {G : GG} {f : Nat → va_E} {x : Nat} (h : x < 1) : textF G f x = f x := by
  unfold textF
  rw [nf_o (by omega), nf_o (by omega), nf_o (by omega), nf_o (by omega), nf_o (by omega), nf_o (by omega), nf_o (by omega), nf_o (by omega), nf_o (by omega)]
theorem cnX9_init {G : GG} {l : Launch} {f : Nat → va_E} (hf : f 1 = .inr (7, [.null, .null, .null, .null, .int 0, .int 0, .int 0, .int 0, .int 0])) : CTN G l yX9_init cX9_init 1 none rmX9_init 4 2403 [.ref (gn G + 1)] (NB G 2 f) (fun v H => v = none ∧ NB G 6 (textF G f) H) := by
  refine CTN.of miX9_init [(0, .ref (gn G + 1))] rfl (Nat.le_of_ble_eq_true rfl) ?_
  intro p e s m args below meth c hX hAO hnm hR hlk
  have hX : FX G RX9 cX9_init 1 p s m args c := hX
  have hnm : meth.name = "<init>" := hnm
  refine J_aload_n hX dX9_init_0 0 rfl (t := 1) rfl ?_
  refine N_obj hX q_183 ⟨Nat.le_of_ble_eq_true rfl, Nat.le_of_ble_eq_true rfl⟩ dX9_init_1 (t := 4) rfl ?_
  refine J_aload_n hX dX9_init_4 0 rfl (t := 5) rfl ?_
  refine J_sipush (v := 600) hX dX9_init_5 (by decide) (t := 8) rfl ?_
  refine N_newB (k := 2) (N := 600) hX (by decide) (by decide) (Nat.le_of_ble_eq_true rfl) q_215 ⟨Nat.le_of_ble_eq_true rfl, Nat.le_of_ble_eq_true rfl⟩ dX9_init_8 (t := 10) rfl ?_
  refine N_putF hX hnm cb7 (o := 1) (by omega) (fs := [.null, .null, .null, .null, .int 0, .int 0, .int 0, .int 0, .int 0]) (fs2 := [.ref (gn G + 2), .null, .null, .null, .int 0, .int 0, .int 0, .int 0, .int 0]) ((nf_o (by omega)).trans (hf)) 0 (by decide) q_184 rfl rfl (ty := .array .byte) rfl rfl rfl (Nat.le_of_ble_eq_true rfl) rfl dX9_init_10 (t := 13) rfl ?_
  refine J_aload_n hX dX9_init_13 0 rfl (t := 14) rfl ?_
  refine J_sipush (v := 601) hX dX9_init_14 (by decide) (t := 17) rfl ?_
  refine N_newI (k := 3) (N := 601) hX (by decide) (by decide) (Nat.le_of_ble_eq_true rfl) q_216 ⟨Nat.le_of_ble_eq_true rfl, Nat.le_of_ble_eq_true rfl⟩ dX9_init_17 (t := 19) rfl ?_
  refine N_putF hX hnm cb7 (o := 1) (by omega) (fs := [.ref (gn G + 2), .null, .null, .null, .int 0, .int 0, .int 0, .int 0, .int 0]) (fs2 := [.ref (gn G + 2), .ref (gn G + 3), .null, .null, .int 0, .int 0, .int 0, .int 0, .int 0]) ((nf_o (by omega)).trans (nf_s)) 1 (by decide) q_185 rfl rfl (ty := .array .int) rfl rfl rfl (Nat.le_of_ble_eq_true rfl) rfl dX9_init_19 (t := 22) rfl ?_
  refine J_aload_n hX dX9_init_22 0 rfl (t := 23) rfl ?_
  refine J_sipush (v := 601) hX dX9_init_23 (by decide) (t := 26) rfl ?_
  refine N_newI (k := 4) (N := 601) hX (by decide) (by decide) (Nat.le_of_ble_eq_true rfl) q_216 ⟨Nat.le_of_ble_eq_true rfl, Nat.le_of_ble_eq_true rfl⟩ dX9_init_26 (t := 28) rfl ?_
  refine N_putF hX hnm cb7 (o := 1) (by omega) (fs := [.ref (gn G + 2), .ref (gn G + 3), .null, .null, .int 0, .int 0, .int 0, .int 0, .int 0]) (fs2 := [.ref (gn G + 2), .ref (gn G + 3), .ref (gn G + 4), .null, .int 0, .int 0, .int 0, .int 0, .int 0]) ((nf_o (by omega)).trans (nf_s)) 2 (by decide) q_186 rfl rfl (ty := .array .int) rfl rfl rfl (Nat.le_of_ble_eq_true rfl) rfl dX9_init_28 (t := 31) rfl ?_
  refine J_aload_n hX dX9_init_31 0 rfl (t := 32) rfl ?_
  refine J_sipush (v := 601) hX dX9_init_32 (by decide) (t := 35) rfl ?_
  refine N_newJ (k := 5) (N := 601) hX (by decide) (by decide) (Nat.le_of_ble_eq_true rfl) q_217 ⟨Nat.le_of_ble_eq_true rfl, Nat.le_of_ble_eq_true rfl⟩ dX9_init_35 (t := 37) rfl ?_
  refine N_putF hX hnm cb7 (o := 1) (by omega) (fs := [.ref (gn G + 2), .ref (gn G + 3), .ref (gn G + 4), .null, .int 0, .int 0, .int 0, .int 0, .int 0]) (fs2 := [.ref (gn G + 2), .ref (gn G + 3), .ref (gn G + 4), .ref (gn G + 5), .int 0, .int 0, .int 0, .int 0, .int 0]) ((nf_o (by omega)).trans (nf_s)) 3 (by decide) q_187 rfl rfl (ty := .array .long) rfl rfl rfl (Nat.le_of_ble_eq_true rfl) rfl dX9_init_37 (t := 40) rfl ?_
  refine J_aload_n hX dX9_init_40 0 rfl (t := 41) rfl ?_
  refine J_iconst (v := (-1)) hX dX9_init_41 (by decide) (t := 42) rfl ?_
  refine N_put hX cb7 (o := 1) (by omega) (fs := [.ref (gn G + 2), .ref (gn G + 3), .ref (gn G + 4), .ref (gn G + 5), .int 0, .int 0, .int 0, .int 0, .int 0]) (fs2 := [.ref (gn G + 2), .ref (gn G + 3), .ref (gn G + 4), .ref (gn G + 5), .int 0, .int 0, .int 0, .int 0, .int (-1)]) (nf_s) 8 (by decide) q_194 rfl (ty := .int) rfl rfl rfl (Nat.le_of_ble_eq_true rfl) rfl dX9_init_42 (t := 45) rfl ?_
  exact J_vretP hX hR hlk (fun H h => ⟨rfl, h⟩) dX9_init_45
theorem miX3_init : MI yX3_init cX3_init 1 none 0 := ⟨q_431, q_142, by decide +kernel, by decide +kernel, by decide +kernel, by decide +kernel⟩
abbrev rmX3_init : Room := { frames := 3, cells := 1, slots := 7, locals := 100 }
def descF (G : GG) (f : Nat → va_E) : Nat → va_E := nf (nf (nf f 157 (.inr (0, [.null, .long 0, .int 0, .int 0, .int 0, .int 0, .int 0]))) 157 (chg0 G)) 156 (.inr (2, [.ref (gn G + 157)]))
theorem descF_156 {G : GG} {f : Nat → va_E} : descF G f 156 = .inr (2, [.ref (gn G + 157)]) := nf_s
theorem descF_157 {G : GG} {f : Nat → va_E} : descF G f 157 = chg0 G := (nf_o (by omega)).trans (nf_s)
theorem descF_lo {G : GG} {f : Nat → va_E} {x : Nat} (h : x < 156) : descF G f x = f x := by
  unfold descF
  rw [nf_o (by omega), nf_o (by omega), nf_o (by omega)]
theorem cnX3_init {G : GG} {l : Launch} {f : Nat → va_E} (hf : f 156 = .inr (2, [.null])) : CTN G l yX3_init cX3_init 1 none rmX3_init 1 7 [.ref (gn G + 156)] (NB G 157 f) (fun v H => v = none ∧ NB G 158 (descF G f) H) := by
  refine CTN.of miX3_init [(0, .ref (gn G + 156))] rfl (Nat.le_of_ble_eq_true rfl) ?_
  intro p e s m args below meth c hX hAO hnm hR hlk
  have hX : FX G RX3 cX3_init 1 p s m args c := hX
  have hnm : meth.name = "<init>" := hnm
  refine J_aload_n hX dX3_init_0 0 rfl (t := 1) rfl ?_
  refine N_obj hX q_432 ⟨Nat.le_of_ble_eq_true rfl, Nat.le_of_ble_eq_true rfl⟩ dX3_init_1 (t := 4) rfl ?_
  refine J_aload_n hX dX3_init_4 0 rfl (t := 5) rfl ?_
  refine N_new (k := 157) hX cb0 q_433 q_434 q_143 [.null, .long 0, .int 0, .int 0, .int 0, .int 0, .int 0] dfX1 ⟨Nat.le_of_ble_eq_true rfl, Nat.le_of_ble_eq_true rfl⟩ dX3_init_5 (t := 8) rfl ?_
  refine J_dup hX dX3_init_8 rfl (t := 9) rfl ?_
  refine N_callN hX hAO [] [.ref (gn G + 157), .ref (gn G + 156)] (cnX1_init (a := 157) (by decide) (nf_s)) miX1_init q_436 rfl (by simp [nestL]) ⟨rfl, rfl, Nat.le_of_ble_eq_true rfl, Nat.le_of_ble_eq_true rfl⟩ rfl rfl (Nat.le_of_ble_eq_true rfl) ⟨Nat.le_of_ble_eq_true rfl, Nat.le_of_ble_eq_true rfl⟩ dX3_init_9 (t := 12) rfl (fun v9 => J_pure fun hv9 => ?_)
  subst hv9
  refine N_putF hX hnm cb2 (o := 156) (by omega) (fs := [.null]) (fs2 := [.ref (gn G + 157)]) ((nf_o (by omega)).trans ((nf_o (by omega)).trans (hf))) 0 (by decide) q_475 rfl rfl (ty := .object "EchoMarket$Change") rfl rfl rfl (Nat.le_of_ble_eq_true rfl) rfl dX3_init_12 (t := 15) rfl ?_
  exact J_vretP hX hR hlk (fun H h => ⟨rfl, h⟩) dX3_init_15
theorem miX7_init : MI yX7_init cX7_init 2 none 0 := ⟨q_483, q_146, by decide +kernel, by decide +kernel, by decide +kernel, by decide +kernel⟩
abbrev rmX7_init : Room := { frames := 3, cells := 34, slots := 300, locals := 120 }
def sA (G : GG) (f : Nat → va_E) : Nat → va_E := nf (nf (nf (nf (nf (nf (nf (nf f 159 (aRp G 7 30 0 (fun i => gn G + (163 + i)))) 158 (.inr (5, [.ref (gn G + 159), .null, .null, .null, .int 0, .int 0, .int 0]))) 160 (aI G 40 (fun _ => 0))) 158 (.inr (5, [.ref (gn G + 159), .ref (gn G + 160), .null, .null, .int 0, .int 0, .int 0]))) 161 (aI G 2 (fun _ => 0))) 158 (.inr (5, [.ref (gn G + 159), .ref (gn G + 160), .ref (gn G + 161), .null, .int 0, .int 0, .int 0]))) 162 (aI G 2 (fun _ => 0))) 158 (.inr (5, [.ref (gn G + 159), .ref (gn G + 160), .ref (gn G + 161), .ref (gn G + 162), .int 0, .int 0, .int 0]))
def sF (G : GG) (f : Nat → va_E) (i : Nat) : Nat → va_E := lp G (sA G f) 159 7 30 163 (chg0 G) (fun i => gn G + (163 + i)) i
theorem sA_158 {G : GG} {f : Nat → va_E} : sA G f 158 = .inr (5, [.ref (gn G + 159), .ref (gn G + 160), .ref (gn G + 161), .ref (gn G + 162), .int 0, .int 0, .int 0]) := nf_s
theorem sA_159 {G : GG} {f : Nat → va_E} : sA G f 159 = aRp G 7 30 0 (fun i => gn G + (163 + i)) := (nf_o (by omega)).trans ((nf_o (by omega)).trans ((nf_o (by omega)).trans ((nf_o (by omega)).trans ((nf_o (by omega)).trans ((nf_o (by omega)).trans ((nf_o (by omega)).trans (nf_s)))))))
theorem sA_160 {G : GG} {f : Nat → va_E} : sA G f 160 = aI G 40 (fun _ => 0) := (nf_o (by omega)).trans ((nf_o (by omega)).trans ((nf_o (by omega)).trans ((nf_o (by omega)).trans ((nf_o (by omega)).trans (nf_s)))))
theorem sA_161 {G : GG} {f : Nat → va_E} : sA G f 161 = aI G 2 (fun _ => 0) := (nf_o (by omega)).trans ((nf_o (by omega)).trans ((nf_o (by omega)).trans (nf_s)))
theorem sA_162 {G : GG} {f : Nat → va_E} : sA G f 162 = aI G 2 (fun _ => 0) := (nf_o (by omega)).trans (nf_s)
theorem sA_lo {G : GG} {f : Nat → va_E} {x : Nat} (h : x < 158) : sA G f x = f x := by
  unfold sA
  rw [nf_o (by omega), nf_o (by omega), nf_o (by omega), nf_o (by omega), nf_o (by omega), nf_o (by omega), nf_o (by omega), nf_o (by omega)]
theorem sF_0 {G : GG} {f : Nat → va_E} {i : Nat} : sF G f i 158 = .inr (5, [.ref (gn G + 159), .ref (gn G + 160), .ref (gn G + 161), .ref (gn G + 162), .int 0, .int 0, .int 0]) := (lp_o (by omega) (by omega)).trans sA_158
theorem sF_lo {G : GG} {f : Nat → va_E} {x i : Nat} (h : x < 158) : sF G f i x = f x := (lp_o (by omega) (by omega)).trans (sA_lo h)
set_option maxHeartbeats 4000000 in
theorem LX7_init_37 {G : GG} {l : Launch} {p : Program} {e : Env} {s : State} {m : MethodId} {args : Array Value} {below : List Frame} {meth : Method} {c : Code} {Q : State → Prop} (hX : FX G RX7 cX7_init 2 p s m args c) (hAO : AO s) (f : Nat → va_E) : ∀ (n i cells slots : Nat), i + n = 30 → cells + n ≤ 34 → slots + 7 * n ≤ 300 → J G p l e rmX7_init s m args below meth c 2 (cells + n) (slots + 7 * n) Q (NB G 193 (sF G f 30)) 62 [(1, .int (nI 30)), (0, .ref (gn G + 158))] [] → J G p l e rmX7_init s m args below meth c 2 cells slots Q (NB G (163 + i) (sF G f i)) 37 [(1, .int (nI i)), (0, .ref (gn G + 158))] [] := by
  intro n
  induction n with
  | zero =>
    intro i cells slots h1 h2 h3 kk
    obtain rfl : i = 30 := by omega
    refine J_iload_n hX dX7_init_37 0 rfl (t := 38) rfl ?_
    refine J_bipush (v := 30) hX dX7_init_38 (by decide) (t := 40) rfl ?_
    refine J_icmp_ge (tgt := 62) hX dX7_init_40 (by decide) (t := 43) rfl (fun z => ?_) (fun z => absurd (by decide) z)
    exact kk
  | succ n ih =>
    intro i cells slots h1 h2 h3 kk
    have hi : i < 30 := by omega
    refine J_iload_n hX dX7_init_37 0 rfl (t := 38) rfl ?_
    refine J_bipush (v := 30) hX dX7_init_38 (by decide) (t := 40) rfl ?_
    refine J_icmp_ge (tgt := 62) hX dX7_init_40 (by decide) (t := 43) rfl (fun z => absurd z (show ¬ nI 30 ≤ nI i from nI_ge hi (by decide))) (fun z => ?_)
    refine J_aload_n hX dX7_init_43 1 rfl (t := 44) rfl ?_
    refine N_get hX cb5 (o := 158) (by omega) sF_0 0 (by decide) q_488 rfl dX7_init_44 (t := 47) rfl ?_
    refine J_iload_n hX dX7_init_47 0 rfl (t := 48) rfl ?_
    refine N_new (k := 163 + i) hX cb0 q_485 q_434 q_143 [.null, .long 0, .int 0, .int 0, .int 0, .int 0, .int 0] dfX1 ⟨by show cells + 1 ≤ 34; omega, by show slots + 7 ≤ 300; omega⟩ dX7_init_48 (t := 51) rfl ?_
    refine J_dup hX dX7_init_51 rfl (t := 52) rfl ?_
    refine N_callN hX hAO [] [.ref (gn G + (163 + i)), .int (nI i), .ref (gn G + 159)] (cnX1_init (a := 163 + i) (by omega) nf_s) miX1_init q_436 rfl (by simp [nestL]) ⟨rfl, rfl, Nat.le_of_ble_eq_true rfl, Nat.le_of_ble_eq_true rfl⟩ rfl rfl (Nat.le_of_ble_eq_true rfl) ⟨by show cells + 1 + 0 ≤ 34; omega, by show slots + 7 + 0 ≤ 300; omega⟩ dX7_init_52 (t := 55) rfl (fun v9 => J_pure fun hv9 => ?_)
    subst hv9
    refine N_aast (a0 := 159) (v := 163 + i) (i := i) (h := fun i => gn G + (163 + i)) hX (by omega) (by omega) ((nf_o (by omega)).trans ((nf_o (by omega)).trans lp_a)) nf_s rfl rfl hi (by decide) rfl dX7_init_55 (t := 56) rfl ?_
    refine N_eq (g := sF G f (i + 1)) (by rw [nf_nf]; exact lp_step (by omega)) ?_
    refine J_iinc (v := nI (i + 1)) (lc2 := [(1, .int (nI (i + 1))), (0, .ref (gn G + 158))]) hX dX7_init_56 0 rfl (nI_1 i) (Nat.le_of_ble_eq_true rfl) rfl (t := 59) rfl ?_
    refine J_goto (tgt := 37) hX dX7_init_59 (by decide) ?_
    have e1 : cells + 1 + 0 + n = cells + (n + 1) := by omega
    have e2 : slots + 7 + 0 + 7 * n = slots + 7 * (n + 1) := by omega
    exact ih (i + 1) (cells + 1 + 0) (slots + 7 + 0) (by omega) (by omega) (by omega) (by rw [e1, e2]; exact kk)
set_option maxHeartbeats 4000000 in
theorem cnX7_init {G : GG} {l : Launch} {f : Nat → va_E} (hf : f 158 = .inr (5, [.null, .null, .null, .null, .int 0, .int 0, .int 0])) : CTN G l yX7_init cX7_init 2 none rmX7_init 34 300 [.ref (gn G + 158)] (NB G 159 f) (fun v H => v = none ∧ NB G 193 (sF G f 30) H) := by
  refine CTN.of miX7_init [(0, .ref (gn G + 158))] rfl (Nat.le_of_ble_eq_true rfl) ?_
  intro p e s m args below meth c hX hAO hnm hR hlk
  have hX : FX G RX7 cX7_init 2 p s m args c := hX
  have hnm : meth.name = "<init>" := hnm
  refine J_aload_n hX dX7_init_0 0 rfl (t := 1) rfl ?_
  refine N_obj hX q_484 ⟨Nat.le_of_ble_eq_true rfl, Nat.le_of_ble_eq_true rfl⟩ dX7_init_1 (t := 4) rfl ?_
  refine J_aload_n hX dX7_init_4 0 rfl (t := 5) rfl ?_
  refine J_bipush (v := 30) hX dX7_init_5 (by decide) (t := 7) rfl ?_
  refine N_anew (k := 159) (t0 := 7) (N := 30) hX hAO (C := "EchoMarket$Change") (by simp [aoL]) q_485 rfl (by decide) (by decide) (Nat.le_of_ble_eq_true rfl) (fun i => gn G + (163 + i)) ⟨Nat.le_of_ble_eq_true rfl, Nat.le_of_ble_eq_true rfl⟩ dX7_init_7 (t := 10) rfl ?_
  refine N_putF hX hnm cb5 (o := 158) (by omega) (fs := [.null, .null, .null, .null, .int 0, .int 0, .int 0]) (fs2 := [.ref (gn G + 159), .null, .null, .null, .int 0, .int 0, .int 0]) ((nf_o (by omega)).trans (hf)) 0 (by decide) q_488 rfl rfl (ty := .array (.object "EchoMarket$Change")) rfl rfl rfl (Nat.le_of_ble_eq_true rfl) rfl dX7_init_10 (t := 13) rfl ?_
  refine J_aload_n hX dX7_init_13 0 rfl (t := 14) rfl ?_
  refine J_bipush (v := 40) hX dX7_init_14 (by decide) (t := 16) rfl ?_
  refine N_newI (k := 160) (N := 40) hX (by decide) (by decide) (Nat.le_of_ble_eq_true rfl) q_216 ⟨Nat.le_of_ble_eq_true rfl, Nat.le_of_ble_eq_true rfl⟩ dX7_init_16 (t := 18) rfl ?_
  refine N_putF hX hnm cb5 (o := 158) (by omega) (fs := [.ref (gn G + 159), .null, .null, .null, .int 0, .int 0, .int 0]) (fs2 := [.ref (gn G + 159), .ref (gn G + 160), .null, .null, .int 0, .int 0, .int 0]) ((nf_o (by omega)).trans (nf_s)) 1 (by decide) q_489 rfl rfl (ty := .array .int) rfl rfl rfl (Nat.le_of_ble_eq_true rfl) rfl dX7_init_18 (t := 21) rfl ?_
  refine J_aload_n hX dX7_init_21 0 rfl (t := 22) rfl ?_
  refine J_iconst (v := 2) hX dX7_init_22 (by decide) (t := 23) rfl ?_
  refine N_newI (k := 161) (N := 2) hX (by decide) (by decide) (Nat.le_of_ble_eq_true rfl) q_216 ⟨Nat.le_of_ble_eq_true rfl, Nat.le_of_ble_eq_true rfl⟩ dX7_init_23 (t := 25) rfl ?_
  refine N_putF hX hnm cb5 (o := 158) (by omega) (fs := [.ref (gn G + 159), .ref (gn G + 160), .null, .null, .int 0, .int 0, .int 0]) (fs2 := [.ref (gn G + 159), .ref (gn G + 160), .ref (gn G + 161), .null, .int 0, .int 0, .int 0]) ((nf_o (by omega)).trans (nf_s)) 2 (by decide) q_490 rfl rfl (ty := .array .int) rfl rfl rfl (Nat.le_of_ble_eq_true rfl) rfl dX7_init_25 (t := 28) rfl ?_
  refine J_aload_n hX dX7_init_28 0 rfl (t := 29) rfl ?_
  refine J_iconst (v := 2) hX dX7_init_29 (by decide) (t := 30) rfl ?_
  refine N_newI (k := 162) (N := 2) hX (by decide) (by decide) (Nat.le_of_ble_eq_true rfl) q_216 ⟨Nat.le_of_ble_eq_true rfl, Nat.le_of_ble_eq_true rfl⟩ dX7_init_30 (t := 32) rfl ?_
  refine N_putF hX hnm cb5 (o := 158) (by omega) (fs := [.ref (gn G + 159), .ref (gn G + 160), .ref (gn G + 161), .null, .int 0, .int 0, .int 0]) (fs2 := [.ref (gn G + 159), .ref (gn G + 160), .ref (gn G + 161), .ref (gn G + 162), .int 0, .int 0, .int 0]) ((nf_o (by omega)).trans (nf_s)) 3 (by decide) q_491 rfl rfl (ty := .array .int) rfl rfl rfl (Nat.le_of_ble_eq_true rfl) rfl dX7_init_32 (t := 35) rfl ?_
  refine J_iconst (v := 0) hX dX7_init_35 (by decide) (t := 36) rfl ?_
  refine J_istore_n (lc2 := [(1, .int 0), (0, .ref (gn G + 158))]) hX dX7_init_36 rfl (Nat.le_of_ble_eq_true rfl) rfl (t := 37) rfl ?_
  refine N_eq (g := sF G f 0) (lp_0 sA_159).symm ?_
  refine LX7_init_37 hX hAO f 30 0 _ _ rfl (by decide) (by decide) ?_
  refine J_wid (k := 34) (n := 300) (by decide) (by decide) ?_
  exact J_vretP hX hR hlk (fun H h => ⟨rfl, h⟩) dX7_init_62
theorem miX5_init : MI yX5_init cX5_init 2 none 0 := ⟨q_514, q_147, by decide +kernel, by decide +kernel, by decide +kernel, by decide +kernel⟩
abbrev rmX5_init : Room := { frames := 4, cells := 301, slots := 3684, locals := 180 }
def hA (G : GG) (f : Nat → va_E) : Nat → va_E := nf (nf f 194 (aRp G 6 6 0 (fun i => gn G + (195 + 50 * i)))) 193 (.inr (3, [.ref (gn G + 194), .int 0, .int 0]))
theorem hA_193 {G : GG} {f : Nat → va_E} : hA G f 193 = .inr (3, [.ref (gn G + 194), .int 0, .int 0]) := nf_s
theorem hA_194 {G : GG} {f : Nat → va_E} : hA G f 194 = aRp G 6 6 0 (fun i => gn G + (195 + 50 * i)) := (nf_o (by omega)).trans (nf_s)
theorem hA_lo {G : GG} {f : Nat → va_E} {x : Nat} (h : x < 193) : hA G f x = f x := by
  unfold hA
  rw [nf_o (by omega), nf_o (by omega)]
def h1 (G : GG) (f : Nat → va_E) : Nat → va_E := nf (mkt G 195 (nf (hA G f) 195 (.inr (4, [.null, .null, .null, .int 0, .int 0, .int 0, .int 0, .int 0, .int 0, .int 0, .int 0, .int 0, .int 0])))) 194 (aRp G 6 6 1 (fun i => gn G + (195 + 50 * i)))
theorem h1_193 {G : GG} {f : Nat → va_E} : h1 G f 193 = .inr (3, [.ref (gn G + 194), .int 0, .int 0]) := (nf_o (by omega)).trans ((mkt_lo (by omega)).trans ((nf_o (by omega)).trans hA_193))
theorem h1_194 {G : GG} {f : Nat → va_E} : h1 G f 194 = aRp G 6 6 1 (fun i => gn G + (195 + 50 * i)) := nf_s
theorem h1_lo {G : GG} {f : Nat → va_E} {x : Nat} (h : x < 193) : h1 G f x = f x := (nf_o (by omega)).trans ((mkt_lo (by omega)).trans ((nf_o (by omega)).trans (hA_lo h)))
def h2 (G : GG) (f : Nat → va_E) : Nat → va_E := nf (mkt G 245 (nf (h1 G f) 245 (.inr (4, [.null, .null, .null, .int 0, .int 0, .int 0, .int 0, .int 0, .int 0, .int 0, .int 0, .int 0, .int 0])))) 194 (aRp G 6 6 2 (fun i => gn G + (195 + 50 * i)))
theorem h2_193 {G : GG} {f : Nat → va_E} : h2 G f 193 = .inr (3, [.ref (gn G + 194), .int 0, .int 0]) := (nf_o (by omega)).trans ((mkt_lo (by omega)).trans ((nf_o (by omega)).trans h1_193))
theorem h2_194 {G : GG} {f : Nat → va_E} : h2 G f 194 = aRp G 6 6 2 (fun i => gn G + (195 + 50 * i)) := nf_s
theorem h2_lo {G : GG} {f : Nat → va_E} {x : Nat} (h : x < 193) : h2 G f x = f x := (nf_o (by omega)).trans ((mkt_lo (by omega)).trans ((nf_o (by omega)).trans (h1_lo h)))
def h3 (G : GG) (f : Nat → va_E) : Nat → va_E := nf (mkt G 295 (nf (h2 G f) 295 (.inr (4, [.null, .null, .null, .int 0, .int 0, .int 0, .int 0, .int 0, .int 0, .int 0, .int 0, .int 0, .int 0])))) 194 (aRp G 6 6 3 (fun i => gn G + (195 + 50 * i)))
theorem h3_193 {G : GG} {f : Nat → va_E} : h3 G f 193 = .inr (3, [.ref (gn G + 194), .int 0, .int 0]) := (nf_o (by omega)).trans ((mkt_lo (by omega)).trans ((nf_o (by omega)).trans h2_193))
theorem h3_194 {G : GG} {f : Nat → va_E} : h3 G f 194 = aRp G 6 6 3 (fun i => gn G + (195 + 50 * i)) := nf_s
theorem h3_lo {G : GG} {f : Nat → va_E} {x : Nat} (h : x < 193) : h3 G f x = f x := (nf_o (by omega)).trans ((mkt_lo (by omega)).trans ((nf_o (by omega)).trans (h2_lo h)))
def h4 (G : GG) (f : Nat → va_E) : Nat → va_E := nf (mkt G 345 (nf (h3 G f) 345 (.inr (4, [.null, .null, .null, .int 0, .int 0, .int 0, .int 0, .int 0, .int 0, .int 0, .int 0, .int 0, .int 0])))) 194 (aRp G 6 6 4 (fun i => gn G + (195 + 50 * i)))
theorem h4_193 {G : GG} {f : Nat → va_E} : h4 G f 193 = .inr (3, [.ref (gn G + 194), .int 0, .int 0]) := (nf_o (by omega)).trans ((mkt_lo (by omega)).trans ((nf_o (by omega)).trans h3_193))
theorem h4_194 {G : GG} {f : Nat → va_E} : h4 G f 194 = aRp G 6 6 4 (fun i => gn G + (195 + 50 * i)) := nf_s
theorem h4_lo {G : GG} {f : Nat → va_E} {x : Nat} (h : x < 193) : h4 G f x = f x := (nf_o (by omega)).trans ((mkt_lo (by omega)).trans ((nf_o (by omega)).trans (h3_lo h)))
def h5 (G : GG) (f : Nat → va_E) : Nat → va_E := nf (mkt G 395 (nf (h4 G f) 395 (.inr (4, [.null, .null, .null, .int 0, .int 0, .int 0, .int 0, .int 0, .int 0, .int 0, .int 0, .int 0, .int 0])))) 194 (aRp G 6 6 5 (fun i => gn G + (195 + 50 * i)))
theorem h5_193 {G : GG} {f : Nat → va_E} : h5 G f 193 = .inr (3, [.ref (gn G + 194), .int 0, .int 0]) := (nf_o (by omega)).trans ((mkt_lo (by omega)).trans ((nf_o (by omega)).trans h4_193))
theorem h5_194 {G : GG} {f : Nat → va_E} : h5 G f 194 = aRp G 6 6 5 (fun i => gn G + (195 + 50 * i)) := nf_s
theorem h5_lo {G : GG} {f : Nat → va_E} {x : Nat} (h : x < 193) : h5 G f x = f x := (nf_o (by omega)).trans ((mkt_lo (by omega)).trans ((nf_o (by omega)).trans (h4_lo h)))
def h6 (G : GG) (f : Nat → va_E) : Nat → va_E := nf (mkt G 445 (nf (h5 G f) 445 (.inr (4, [.null, .null, .null, .int 0, .int 0, .int 0, .int 0, .int 0, .int 0, .int 0, .int 0, .int 0, .int 0])))) 194 (aRp G 6 6 6 (fun i => gn G + (195 + 50 * i)))
theorem h6_193 {G : GG} {f : Nat → va_E} : h6 G f 193 = .inr (3, [.ref (gn G + 194), .int 0, .int 0]) := (nf_o (by omega)).trans ((mkt_lo (by omega)).trans ((nf_o (by omega)).trans h5_193))
theorem h6_194 {G : GG} {f : Nat → va_E} : h6 G f 194 = aRp G 6 6 6 (fun i => gn G + (195 + 50 * i)) := nf_s
theorem h6_lo {G : GG} {f : Nat → va_E} {x : Nat} (h : x < 193) : h6 G f x = f x := (nf_o (by omega)).trans ((mkt_lo (by omega)).trans ((nf_o (by omega)).trans (h5_lo h)))
set_option maxHeartbeats 4000000 in
theorem cnX5_init {G : GG} {l : Launch} {f : Nat → va_E} (hf : f 193 = .inr (3, [.null, .int 0, .int 0])) : CTN G l yX5_init cX5_init 2 none rmX5_init 301 3684 [.ref (gn G + 193)] (NB G 194 f) (fun v H => v = none ∧ NB G 495 (h6 G f) H) := by
  refine CTN.of miX5_init [(0, .ref (gn G + 193))] rfl (Nat.le_of_ble_eq_true rfl) ?_
  intro p e s m args below meth c hX hAO hnm hR hlk
  have hX : FX G RX5 cX5_init 2 p s m args c := hX
  have hnm : meth.name = "<init>" := hnm
  refine J_aload_n hX dX5_init_0 0 rfl (t := 1) rfl ?_
  refine N_obj hX q_515 ⟨Nat.le_of_ble_eq_true rfl, Nat.le_of_ble_eq_true rfl⟩ dX5_init_1 (t := 4) rfl ?_
  refine J_aload_n hX dX5_init_4 0 rfl (t := 5) rfl ?_
  refine J_bipush (v := 6) hX dX5_init_5 (by decide) (t := 7) rfl ?_
  refine N_anew (k := 194) (t0 := 6) (N := 6) hX hAO (C := "EchoMarket$Market") (by simp [aoL]) q_516 rfl (by decide) (by decide) (Nat.le_of_ble_eq_true rfl) (fun i => gn G + (195 + 50 * i)) ⟨Nat.le_of_ble_eq_true rfl, Nat.le_of_ble_eq_true rfl⟩ dX5_init_7 (t := 10) rfl ?_
  refine N_putF hX hnm cb3 (o := 193) (by omega) (fs := [.null, .int 0, .int 0]) (fs2 := [.ref (gn G + 194), .int 0, .int 0]) ((nf_o (by omega)).trans (hf)) 0 (by decide) q_519 rfl rfl (ty := .array (.object "EchoMarket$Market")) rfl rfl rfl (Nat.le_of_ble_eq_true rfl) rfl dX5_init_10 (t := 13) rfl ?_
  refine J_iconst (v := 0) hX dX5_init_13 (by decide) (t := 14) rfl ?_
  refine J_istore_n (lc2 := [(1, .int 0), (0, .ref (gn G + 193))]) hX dX5_init_14 rfl (Nat.le_of_ble_eq_true rfl) rfl (t := 15) rfl ?_
  refine N_eq (g := hA G f) rfl ?_
  refine J_iload_n hX dX5_init_15 0 rfl (t := 16) rfl ?_
  refine J_bipush (v := 6) hX dX5_init_16 (by decide) (t := 18) rfl ?_
  refine J_icmp_ge (tgt := 40) hX dX5_init_18 (by decide) (t := 21) rfl (fun z => absurd z (by decide)) (fun z => ?_)
  refine J_aload_n hX dX5_init_21 1 rfl (t := 22) rfl ?_
  refine N_get hX cb3 (o := 193) (by decide) hA_193 0 (by decide) q_519 rfl dX5_init_22 (t := 25) rfl ?_
  refine J_iload_n hX dX5_init_25 0 rfl (t := 26) rfl ?_
  refine N_new (k := 195) hX cb4 q_516 q_219 q_138 [.null, .null, .null, .int 0, .int 0, .int 0, .int 0, .int 0, .int 0, .int 0, .int 0, .int 0, .int 0] dfX6 ⟨Nat.le_of_ble_eq_true rfl, Nat.le_of_ble_eq_true rfl⟩ dX5_init_26 (t := 29) rfl ?_
  refine J_dup hX dX5_init_29 rfl (t := 30) rfl ?_
  refine N_call hX hAO [] [.ref (gn G + 195), .int 0, .ref (gn G + 194)] (cnX6_init (o := 195) nf_s) miX6_init q_221 rfl q_518 ⟨rfl, rfl, Nat.le_of_ble_eq_true rfl, Nat.le_of_ble_eq_true rfl⟩ rfl rfl (Nat.le_of_ble_eq_true rfl) ⟨Nat.le_of_ble_eq_true rfl, Nat.le_of_ble_eq_true rfl⟩ dX5_init_30 (t := 33) rfl (fun v9 => J_pure fun hv9 => ?_)
  subst hv9
  refine N_aast (a0 := 194) (v := 195) (i := 0) (h := fun i => gn G + (195 + 50 * i)) hX (by decide) (by decide) ((mkt_lo (by omega)).trans ((nf_o (by omega)).trans hA_194)) mkt_0 rfl rfl (by decide) (by decide) rfl dX5_init_33 (t := 34) rfl ?_
  refine N_eq (g := h1 G f) rfl ?_
  refine J_iinc (v := 1) (lc2 := [(1, .int 1), (0, .ref (gn G + 193))]) hX dX5_init_34 0 rfl (by decide) (Nat.le_of_ble_eq_true rfl) rfl (t := 37) rfl ?_
  refine J_goto (tgt := 15) hX dX5_init_37 (by decide) ?_
  refine J_iload_n hX dX5_init_15 0 rfl (t := 16) rfl ?_
  refine J_bipush (v := 6) hX dX5_init_16 (by decide) (t := 18) rfl ?_
  refine J_icmp_ge (tgt := 40) hX dX5_init_18 (by decide) (t := 21) rfl (fun z => absurd z (by decide)) (fun z => ?_)
  refine J_aload_n hX dX5_init_21 1 rfl (t := 22) rfl ?_
  refine N_get hX cb3 (o := 193) (by decide) h1_193 0 (by decide) q_519 rfl dX5_init_22 (t := 25) rfl ?_
  refine J_iload_n hX dX5_init_25 0 rfl (t := 26) rfl ?_
  refine N_new (k := 245) hX cb4 q_516 q_219 q_138 [.null, .null, .null, .int 0, .int 0, .int 0, .int 0, .int 0, .int 0, .int 0, .int 0, .int 0, .int 0] dfX6 ⟨Nat.le_of_ble_eq_true rfl, Nat.le_of_ble_eq_true rfl⟩ dX5_init_26 (t := 29) rfl ?_
  refine J_dup hX dX5_init_29 rfl (t := 30) rfl ?_
  refine N_call hX hAO [] [.ref (gn G + 245), .int 1, .ref (gn G + 194)] (cnX6_init (o := 245) nf_s) miX6_init q_221 rfl q_518 ⟨rfl, rfl, Nat.le_of_ble_eq_true rfl, Nat.le_of_ble_eq_true rfl⟩ rfl rfl (Nat.le_of_ble_eq_true rfl) ⟨Nat.le_of_ble_eq_true rfl, Nat.le_of_ble_eq_true rfl⟩ dX5_init_30 (t := 33) rfl (fun v9 => J_pure fun hv9 => ?_)
  subst hv9
  refine N_aast (a0 := 194) (v := 245) (i := 1) (h := fun i => gn G + (195 + 50 * i)) hX (by decide) (by decide) ((mkt_lo (by omega)).trans ((nf_o (by omega)).trans h1_194)) mkt_0 rfl rfl (by decide) (by decide) rfl dX5_init_33 (t := 34) rfl ?_
  refine N_eq (g := h2 G f) rfl ?_
  refine J_iinc (v := 2) (lc2 := [(1, .int 2), (0, .ref (gn G + 193))]) hX dX5_init_34 0 rfl (by decide) (Nat.le_of_ble_eq_true rfl) rfl (t := 37) rfl ?_
  refine J_goto (tgt := 15) hX dX5_init_37 (by decide) ?_
  refine J_iload_n hX dX5_init_15 0 rfl (t := 16) rfl ?_
  refine J_bipush (v := 6) hX dX5_init_16 (by decide) (t := 18) rfl ?_
  refine J_icmp_ge (tgt := 40) hX dX5_init_18 (by decide) (t := 21) rfl (fun z => absurd z (by decide)) (fun z => ?_)
  refine J_aload_n hX dX5_init_21 1 rfl (t := 22) rfl ?_
  refine N_get hX cb3 (o := 193) (by decide) h2_193 0 (by decide) q_519 rfl dX5_init_22 (t := 25) rfl ?_
  refine J_iload_n hX dX5_init_25 0 rfl (t := 26) rfl ?_
  refine N_new (k := 295) hX cb4 q_516 q_219 q_138 [.null, .null, .null, .int 0, .int 0, .int 0, .int 0, .int 0, .int 0, .int 0, .int 0, .int 0, .int 0] dfX6 ⟨Nat.le_of_ble_eq_true rfl, Nat.le_of_ble_eq_true rfl⟩ dX5_init_26 (t := 29) rfl ?_
  refine J_dup hX dX5_init_29 rfl (t := 30) rfl ?_
  refine N_call hX hAO [] [.ref (gn G + 295), .int 2, .ref (gn G + 194)] (cnX6_init (o := 295) nf_s) miX6_init q_221 rfl q_518 ⟨rfl, rfl, Nat.le_of_ble_eq_true rfl, Nat.le_of_ble_eq_true rfl⟩ rfl rfl (Nat.le_of_ble_eq_true rfl) ⟨Nat.le_of_ble_eq_true rfl, Nat.le_of_ble_eq_true rfl⟩ dX5_init_30 (t := 33) rfl (fun v9 => J_pure fun hv9 => ?_)
  subst hv9
  refine N_aast (a0 := 194) (v := 295) (i := 2) (h := fun i => gn G + (195 + 50 * i)) hX (by decide) (by decide) ((mkt_lo (by omega)).trans ((nf_o (by omega)).trans h2_194)) mkt_0 rfl rfl (by decide) (by decide) rfl dX5_init_33 (t := 34) rfl ?_
  refine N_eq (g := h3 G f) rfl ?_
  refine J_iinc (v := 3) (lc2 := [(1, .int 3), (0, .ref (gn G + 193))]) hX dX5_init_34 0 rfl (by decide) (Nat.le_of_ble_eq_true rfl) rfl (t := 37) rfl ?_
  refine J_goto (tgt := 15) hX dX5_init_37 (by decide) ?_
  refine J_iload_n hX dX5_init_15 0 rfl (t := 16) rfl ?_
  refine J_bipush (v := 6) hX dX5_init_16 (by decide) (t := 18) rfl ?_
  refine J_icmp_ge (tgt := 40) hX dX5_init_18 (by decide) (t := 21) rfl (fun z => absurd z (by decide)) (fun z => ?_)
  refine J_aload_n hX dX5_init_21 1 rfl (t := 22) rfl ?_
  refine N_get hX cb3 (o := 193) (by decide) h3_193 0 (by decide) q_519 rfl dX5_init_22 (t := 25) rfl ?_
  refine J_iload_n hX dX5_init_25 0 rfl (t := 26) rfl ?_
  refine N_new (k := 345) hX cb4 q_516 q_219 q_138 [.null, .null, .null, .int 0, .int 0, .int 0, .int 0, .int 0, .int 0, .int 0, .int 0, .int 0, .int 0] dfX6 ⟨Nat.le_of_ble_eq_true rfl, Nat.le_of_ble_eq_true rfl⟩ dX5_init_26 (t := 29) rfl ?_
  refine J_dup hX dX5_init_29 rfl (t := 30) rfl ?_
  refine N_call hX hAO [] [.ref (gn G + 345), .int 3, .ref (gn G + 194)] (cnX6_init (o := 345) nf_s) miX6_init q_221 rfl q_518 ⟨rfl, rfl, Nat.le_of_ble_eq_true rfl, Nat.le_of_ble_eq_true rfl⟩ rfl rfl (Nat.le_of_ble_eq_true rfl) ⟨Nat.le_of_ble_eq_true rfl, Nat.le_of_ble_eq_true rfl⟩ dX5_init_30 (t := 33) rfl (fun v9 => J_pure fun hv9 => ?_)
  subst hv9
  refine N_aast (a0 := 194) (v := 345) (i := 3) (h := fun i => gn G + (195 + 50 * i)) hX (by decide) (by decide) ((mkt_lo (by omega)).trans ((nf_o (by omega)).trans h3_194)) mkt_0 rfl rfl (by decide) (by decide) rfl dX5_init_33 (t := 34) rfl ?_
  refine N_eq (g := h4 G f) rfl ?_
  refine J_iinc (v := 4) (lc2 := [(1, .int 4), (0, .ref (gn G + 193))]) hX dX5_init_34 0 rfl (by decide) (Nat.le_of_ble_eq_true rfl) rfl (t := 37) rfl ?_
  refine J_goto (tgt := 15) hX dX5_init_37 (by decide) ?_
  refine J_iload_n hX dX5_init_15 0 rfl (t := 16) rfl ?_
  refine J_bipush (v := 6) hX dX5_init_16 (by decide) (t := 18) rfl ?_
  refine J_icmp_ge (tgt := 40) hX dX5_init_18 (by decide) (t := 21) rfl (fun z => absurd z (by decide)) (fun z => ?_)
  refine J_aload_n hX dX5_init_21 1 rfl (t := 22) rfl ?_
  refine N_get hX cb3 (o := 193) (by decide) h4_193 0 (by decide) q_519 rfl dX5_init_22 (t := 25) rfl ?_
  refine J_iload_n hX dX5_init_25 0 rfl (t := 26) rfl ?_
  refine N_new (k := 395) hX cb4 q_516 q_219 q_138 [.null, .null, .null, .int 0, .int 0, .int 0, .int 0, .int 0, .int 0, .int 0, .int 0, .int 0, .int 0] dfX6 ⟨Nat.le_of_ble_eq_true rfl, Nat.le_of_ble_eq_true rfl⟩ dX5_init_26 (t := 29) rfl ?_
  refine J_dup hX dX5_init_29 rfl (t := 30) rfl ?_
  refine N_call hX hAO [] [.ref (gn G + 395), .int 4, .ref (gn G + 194)] (cnX6_init (o := 395) nf_s) miX6_init q_221 rfl q_518 ⟨rfl, rfl, Nat.le_of_ble_eq_true rfl, Nat.le_of_ble_eq_true rfl⟩ rfl rfl (Nat.le_of_ble_eq_true rfl) ⟨Nat.le_of_ble_eq_true rfl, Nat.le_of_ble_eq_true rfl⟩ dX5_init_30 (t := 33) rfl (fun v9 => J_pure fun hv9 => ?_)
  subst hv9
  refine N_aast (a0 := 194) (v := 395) (i := 4) (h := fun i => gn G + (195 + 50 * i)) hX (by decide) (by decide) ((mkt_lo (by omega)).trans ((nf_o (by omega)).trans h4_194)) mkt_0 rfl rfl (by decide) (by decide) rfl dX5_init_33 (t := 34) rfl ?_
  refine N_eq (g := h5 G f) rfl ?_
  refine J_iinc (v := 5) (lc2 := [(1, .int 5), (0, .ref (gn G + 193))]) hX dX5_init_34 0 rfl (by decide) (Nat.le_of_ble_eq_true rfl) rfl (t := 37) rfl ?_
  refine J_goto (tgt := 15) hX dX5_init_37 (by decide) ?_
  refine J_iload_n hX dX5_init_15 0 rfl (t := 16) rfl ?_
  refine J_bipush (v := 6) hX dX5_init_16 (by decide) (t := 18) rfl ?_
  refine J_icmp_ge (tgt := 40) hX dX5_init_18 (by decide) (t := 21) rfl (fun z => absurd z (by decide)) (fun z => ?_)
  refine J_aload_n hX dX5_init_21 1 rfl (t := 22) rfl ?_
  refine N_get hX cb3 (o := 193) (by decide) h5_193 0 (by decide) q_519 rfl dX5_init_22 (t := 25) rfl ?_
  refine J_iload_n hX dX5_init_25 0 rfl (t := 26) rfl ?_
  refine N_new (k := 445) hX cb4 q_516 q_219 q_138 [.null, .null, .null, .int 0, .int 0, .int 0, .int 0, .int 0, .int 0, .int 0, .int 0, .int 0, .int 0] dfX6 ⟨Nat.le_of_ble_eq_true rfl, Nat.le_of_ble_eq_true rfl⟩ dX5_init_26 (t := 29) rfl ?_
  refine J_dup hX dX5_init_29 rfl (t := 30) rfl ?_
  refine N_call hX hAO [] [.ref (gn G + 445), .int 5, .ref (gn G + 194)] (cnX6_init (o := 445) nf_s) miX6_init q_221 rfl q_518 ⟨rfl, rfl, Nat.le_of_ble_eq_true rfl, Nat.le_of_ble_eq_true rfl⟩ rfl rfl (Nat.le_of_ble_eq_true rfl) ⟨Nat.le_of_ble_eq_true rfl, Nat.le_of_ble_eq_true rfl⟩ dX5_init_30 (t := 33) rfl (fun v9 => J_pure fun hv9 => ?_)
  subst hv9
  refine N_aast (a0 := 194) (v := 445) (i := 5) (h := fun i => gn G + (195 + 50 * i)) hX (by decide) (by decide) ((mkt_lo (by omega)).trans ((nf_o (by omega)).trans h5_194)) mkt_0 rfl rfl (by decide) (by decide) rfl dX5_init_33 (t := 34) rfl ?_
  refine N_eq (g := h6 G f) rfl ?_
  refine J_iinc (v := 6) (lc2 := [(1, .int 6), (0, .ref (gn G + 193))]) hX dX5_init_34 0 rfl (by decide) (Nat.le_of_ble_eq_true rfl) rfl (t := 37) rfl ?_
  refine J_goto (tgt := 15) hX dX5_init_37 (by decide) ?_
  refine J_iload_n hX dX5_init_15 0 rfl (t := 16) rfl ?_
  refine J_bipush (v := 6) hX dX5_init_16 (by decide) (t := 18) rfl ?_
  refine J_icmp_ge (tgt := 40) hX dX5_init_18 (by decide) (t := 21) rfl (fun z => ?_) (fun z => absurd (by decide) z)
  exact J_vretP hX hR hlk (fun H h => ⟨rfl, h⟩) dX5_init_40
theorem miJ5_init_d00df : MI yJ5_init_d00df cJ5_init_d00df 2 none 1 := ⟨q_537, q_148, by decide +kernel, by decide +kernel, by decide +kernel, by decide +kernel⟩
theorem miJ4_init_da8c8 : MI yJ4_init_da8c8 cJ4_init_da8c8 1 none 0 := ⟨q_534, q_149, by decide +kernel, by decide +kernel, by decide +kernel, by decide +kernel⟩
abbrev rmJ5_init_d00df : Room := { frames := 2, cells := 1, slots := 16, locals := 80 }
abbrev rmJ4_init_da8c8 : Room := { frames := 3, cells := 1, slots := 16, locals := 120 }
def sbF (G : GG) (f : Nat → va_E) : Nat → va_E := nf (nf (nf f 496 (aB G 16 (fun _ => 0))) 495 (.inr (11, [.ref (gn G + 496), .int 0, .int 0, .int 0]))) 495 (.inr (11, [.ref (gn G + 496), .int 0, .int 0, .int 0]))
theorem sbF_495 {G : GG} {f : Nat → va_E} : sbF G f 495 = .inr (11, [.ref (gn G + 496), .int 0, .int 0, .int 0]) := nf_s
theorem sbF_496 {G : GG} {f : Nat → va_E} : sbF G f 496 = aB G 16 (fun _ => 0) := (nf_o (by omega)).trans ((nf_o (by omega)).trans (nf_s))
theorem sbF_lo {G : GG} {f : Nat → va_E} {x : Nat} (h : x < 495) : sbF G f x = f x := by
  unfold sbF
  rw [nf_o (by omega), nf_o (by omega), nf_o (by omega)]
theorem cnJ5_init_d00df {G : GG} {l : Launch} {f : Nat → va_E} (hf : f 495 = .inr (11, [.null, .int 0, .int 0, .int 0])) : CTN G l yJ5_init_d00df cJ5_init_d00df 2 none rmJ5_init_d00df 1 16 [.ref (gn G + 495), .int 16] (NB G 496 f) (fun v H => v = none ∧ NB G 497 (sbF G f) H) := by
  refine CTN.of miJ5_init_d00df [(0, .ref (gn G + 495)), (1, .int 16)] rfl (Nat.le_of_ble_eq_true rfl) ?_
  intro p e s m args below meth c hX hAO hnm hR hlk
  have hX : FX G RJ5 cJ5_init_d00df 2 p s m args c := hX
  have hnm : meth.name = "<init>" := hnm
  refine J_aload_n hX dJ5_init_d00df_0 0 rfl (t := 1) rfl ?_
  refine N_obj hX q_538 ⟨Nat.le_of_ble_eq_true rfl, Nat.le_of_ble_eq_true rfl⟩ dJ5_init_d00df_1 (t := 4) rfl ?_
  refine J_gst hX hX.G2.1 q_539 dJ5_init_d00df_4 (t := 7) rfl ?_
  refine J_if_eq (tgt := 25) hX dJ5_init_d00df_7 (by decide) (t := 10) rfl (fun z => absurd z (by decide)) (fun z => ?_)
  refine J_aload_n hX dJ5_init_d00df_10 0 rfl (t := 11) rfl ?_
  refine J_iload_n hX dJ5_init_d00df_11 1 rfl (t := 12) rfl ?_
  refine N_newB (k := 496) (N := 16) hX (by decide) (by decide) (Nat.le_of_ble_eq_true rfl) q_215 ⟨Nat.le_of_ble_eq_true rfl, Nat.le_of_ble_eq_true rfl⟩ dJ5_init_d00df_12 (t := 14) rfl ?_
  refine N_put hX cb11 (o := 495) (by omega) (fs := [.null, .int 0, .int 0, .int 0]) (fs2 := [.ref (gn G + 496), .int 0, .int 0, .int 0]) ((nf_o (by omega)).trans (hf)) 0 (by decide) q_548 rfl (ty := .array .byte) rfl rfl rfl (Nat.le_of_ble_eq_true rfl) rfl dJ5_init_d00df_14 (t := 17) rfl ?_
  refine J_aload_n hX dJ5_init_d00df_17 0 rfl (t := 18) rfl ?_
  refine J_iconst (v := 0) hX dJ5_init_d00df_18 (by decide) (t := 19) rfl ?_
  refine N_put hX cb11 (o := 495) (by omega) (fs := [.ref (gn G + 496), .int 0, .int 0, .int 0]) (fs2 := [.ref (gn G + 496), .int 0, .int 0, .int 0]) (nf_s) 1 (by decide) q_549 rfl (ty := .byte) rfl rfl rfl (Nat.le_of_ble_eq_true rfl) rfl dJ5_init_d00df_19 (t := 22) rfl ?_
  refine J_goto (tgt := 38) hX dJ5_init_d00df_22 (by decide) ?_
  exact J_vretP hX hR hlk (fun H h => ⟨rfl, h⟩) dJ5_init_d00df_38
theorem cnJ4_init_da8c8 {G : GG} {l : Launch} {f : Nat → va_E} (hf : f 495 = .inr (11, [.null, .int 0, .int 0, .int 0])) : CTN G l yJ4_init_da8c8 cJ4_init_da8c8 1 none rmJ4_init_da8c8 1 16 [.ref (gn G + 495)] (NB G 496 f) (fun v H => v = none ∧ NB G 497 (sbF G f) H) := by
  refine CTN.of miJ4_init_da8c8 [(0, .ref (gn G + 495))] rfl (Nat.le_of_ble_eq_true rfl) ?_
  intro p e s m args below meth c hX hAO hnm hR hlk
  have hX : FX G RJ4 cJ4_init_da8c8 1 p s m args c := hX
  have hnm : meth.name = "<init>" := hnm
  refine J_aload_n hX dJ4_init_da8c8_0 0 rfl (t := 1) rfl ?_
  refine J_bipush (v := 16) hX dJ4_init_da8c8_1 (by decide) (t := 3) rfl ?_
  refine N_call hX hAO [.int 16] [] (cnJ5_init_d00df hf) miJ5_init_d00df q_536 rfl q_535 ⟨rfl, rfl, Nat.le_of_ble_eq_true rfl, Nat.le_of_ble_eq_true rfl⟩ rfl rfl (Nat.le_of_ble_eq_true rfl) ⟨Nat.le_of_ble_eq_true rfl, Nat.le_of_ble_eq_true rfl⟩ dJ4_init_da8c8_3 (t := 6) rfl (fun v9 => J_pure fun hv9 => ?_)
  subst hv9
  exact J_vretP hX hR hlk (fun H h => ⟨rfl, h⟩) dJ4_init_da8c8_6

