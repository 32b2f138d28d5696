theorem p_518 : Cond.instanceMethod yJ0_length_8abf5 ∈ WALL := WALL_in (List.mem_append_right _ (List.mem_append_right _ (List.mem_append_right _ (List.mem_append_left _ (List.mem_of_getElem? (i := 14) rfl))))) rfl
theorem p_531 : Cond.instanceMethod yJ0_charAt_5068e ∈ WALL := WALL_in (List.mem_append_right _ (List.mem_append_right _ (List.mem_append_right _ (List.mem_append_left _ (List.mem_of_getElem? (i := 27) rfl))))) rfl
theorem p_1261 : Cond.code yL_feeds cL_feeds 6 (some .boolean) ∈ WALL := WALL_in (List.mem_append_right _ (List.mem_append_right _ (List.mem_append_right _ (List.mem_append_right _ (List.mem_append_right _ (List.mem_append_right _ (List.mem_append_left _ (List.mem_of_getElem? (i := 37) rfl)))))))) rfl
theorem p_1263 : Cond.methodLink RL 16 ⟨RJx9f9b0, "length", "()I"⟩ ∈ WALL := WALL_in (List.mem_append_right _ (List.mem_append_right _ (List.mem_append_right _ (List.mem_append_right _ (List.mem_append_right _ (List.mem_append_right _ (List.mem_append_left _ (List.mem_of_getElem? (i := 39) rfl)))))))) rfl
theorem p_1267 : Cond.selects RJ0 ⟨RJx9f9b0, "length", "()I"⟩ yJ0_length_8abf5 ∈ WALL := WALL_in (List.mem_append_right _ (List.mem_append_right _ (List.mem_append_right _ (List.mem_append_right _ (List.mem_append_right _ (List.mem_append_right _ (List.mem_append_left _ (List.mem_of_getElem? (i := 43) rfl)))))))) rfl
theorem p_1271 : Cond.selects RJ4 ⟨RJx9f9b0, "length", "()I"⟩ yJ4_length_8abf5 ∈ WALL := WALL_in (List.mem_append_right _ (List.mem_append_right _ (List.mem_append_right _ (List.mem_append_right _ (List.mem_append_right _ (List.mem_append_right _ (List.mem_append_left _ (List.mem_of_getElem? (i := 47) rfl)))))))) rfl
theorem p_1273 : Cond.instanceMethod yJ4_length_8abf5 ∈ WALL := WALL_in (List.mem_append_right _ (List.mem_append_right _ (List.mem_append_right _ (List.mem_append_right _ (List.mem_append_right _ (List.mem_append_right _ (List.mem_append_left _ (List.mem_of_getElem? (i := 49) rfl)))))))) rfl
theorem p_1280 : Cond.methodLink RL 22 ⟨RJx9f9b0, "charAt", "(I)C"⟩ ∈ WALL := WALL_in (List.mem_append_right _ (List.mem_append_right _ (List.mem_append_right _ (List.mem_append_right _ (List.mem_append_right _ (List.mem_append_right _ (List.mem_append_left _ (List.mem_of_getElem? (i := 56) rfl)))))))) rfl
theorem p_1283 : Cond.selects RJ0 ⟨RJx9f9b0, "charAt", "(I)C"⟩ yJ0_charAt_5068e ∈ WALL := WALL_in (List.mem_append_right _ (List.mem_append_right _ (List.mem_append_right _ (List.mem_append_right _ (List.mem_append_right _ (List.mem_append_right _ (List.mem_append_left _ (List.mem_of_getElem? (i := 59) rfl)))))))) rfl
theorem p_1286 : Cond.selects RJ4 ⟨RJx9f9b0, "charAt", "(I)C"⟩ yJ4_charAt_5068e ∈ WALL := WALL_in (List.mem_append_right _ (List.mem_append_right _ (List.mem_append_right _ (List.mem_append_right _ (List.mem_append_right _ (List.mem_append_right _ (List.mem_append_left _ (List.mem_of_getElem? (i := 62) rfl)))))))) rfl
theorem p_1288 : Cond.instanceMethod yJ4_charAt_5068e ∈ WALL := WALL_in (List.mem_append_right _ (List.mem_append_right _ (List.mem_append_right _ (List.mem_append_right _ (List.mem_append_right _ (List.mem_append_right _ (List.mem_append_left _ (List.mem_of_getElem? (i := 64) rfl)))))))) rfl
theorem p_1297 : Cond.methodLink RL 26 yX12_feed ∈ WALL := WALL_in (List.mem_append_right _ (List.mem_append_right _ (List.mem_append_right _ (List.mem_append_right _ (List.mem_append_right _ (List.mem_append_right _ (List.mem_append_left _ (List.mem_of_getElem? (i := 73) rfl)))))))) rfl
theorem p_1305 : Cond.methodLink RL 32 yX12_truncate ∈ WALL := WALL_in (List.mem_append_right _ (List.mem_append_right _ (List.mem_append_right _ (List.mem_append_right _ (List.mem_append_right _ (List.mem_append_right _ (List.mem_append_left _ (List.mem_of_getElem? (i := 81) rfl)))))))) rfl
/-! THE LAW's feeds: the letters of a CharSequence, twenty at a time -/
/-- the letters L at b: a builder's (kd), or a String's -/
def TX (G : GG) (kd : Bool) (b : Nat) (L : List Nat) (H : Heap) : Prop := ∃ q cap bs ml x8, (L.length ≤ cap ∧ cap < 2 ^ 20 ∧ ∀ j, j < L.length → L.getD j 0 < 128 ∧ bs j = nI (L.getD j 0)) ∧ va_at (gD G) jcl (q, aB G cap bs) H ∧ (if kd then va_at (gD G) jcl (b, .inr (11, [.ref q, .int 0, .int ml, .int (nI L.length)])) H else cap = L.length ∧ va_at (gD G) jcl (b, .inr (12, [.ref q, .int 0, .int ml, .int x8])) H)
/-- what X said when the heap had k0 cells, of what lies elsewhere than the world and the class -/
def XK (G : GG) (n1 k0 : Nat) (X : Heap → Prop) (H : Heap) : Prop := ∃ H0 : Heap, X H0 ∧ H0.size = k0 ∧ k0 ≤ H.size ∧ ∀ q : Nat, q < k0 → ¬ KwA G q → ¬ KcA n1 q → H[q]? = H0[q]?
theorem XK.x {G : GG} {n1 k0 : Nat} {X : Heap → Prop} {H : Heap} (hX : XS G n1 X) (h : XK G n1 k0 X H) : X H := by
  obtain ⟨H0, h1, h2, h3, h4⟩ := h
  exact hX H0 H h1 (by omega) (fun q hq => h4 q (by omega))
theorem XK.go {G : GG} {n1 k0 : Nat} {X : Heap → Prop} {H H1 : Heap} (h : XK G n1 k0 X H) (hz : H.size ≤ H1.size) (hq : ∀ q : Nat, q < k0 → ¬ KwA G q → ¬ KcA n1 q → H1[q]? = H[q]?) : XK G n1 k0 X H1 := by
  obtain ⟨H0, h1, h2, h3, h4⟩ := h
  exact ⟨H0, h1, h2, by omega, fun q a b d => (hq q a b d).trans (h4 q a b d)⟩
theorem XK.le {G : GG} {n1 k0 : Nat} {X : Heap → Prop} {H : Heap} (h : XK G n1 k0 X H) : k0 ≤ H.size := by
  obtain ⟨H0, h1, h2, h3, h4⟩ := h
  exact h3
/-- beside X a row of ints -/
def XR (G : GG) (q n : Nat) (f : Nat → Int32) (X : Heap → Prop) (H : Heap) : Prop := X H ∧ va_at (gD G) jcl (q, aI G n f) H
theorem CH.last {G : GG} {n1 : Nat} {w : Wd} {H : Heap} (h : CH G n1 w H) : n1 + 495 ≤ H.size := by
  have h9 := (h 9 49 ⟨by decide, by decide⟩).lt
  have e : adr (GCz G n1 0) 9 49 = n1 + 494 := rfl
  rw [e] at h9
  omega
theorem XR.lok {G : GG} {n1 k0 q n : Nat} {f : Nat → Int32} {X : Heap → Prop} (hL : LOK G n1 X) (h1 : n1 + 495 ≤ k0) (hq : k0 ≤ q) : LOK G n1 (XR G q n f (XK G n1 k0 X)) :=
  ⟨hL.1, hL.2.1, fun H H1 h hz ho => ⟨h.1.go hz (fun x a b d => ho x (by have := h.1.le; omega) b d), h.2.kept (ho q h.2.lt (fun a => by have := a.2; have := hL.1; omega) (fun a => by have := a.2; omega))⟩⟩
def lch (L : List Nat) (j : Nat) : Int32 := if j < L.length then nI (L.getD j 0) else 32
def fdI (L : List Nat) (k : Nat) : Nat → Nat → (Nat → Int32) → (Nat → Int32)
  | 0, _, f => f
  | d + 1, i, f => fdI L k d (i + 1) (upd f (i / 4) ((f (i / 4) <<< ((8 : Int32) &&& 31)) ||| lch L (k + i)))
noncomputable def fdO (n : Nat) (L : List Nat) : Nat → Wd → Nat → (Nat → Int32) → Int32 → Option (Int32 × Wd)
  | 0, _, _, _, _ => none
  | m + 1, w, k, f, got => if k < L.length then bx2 (FX12_feed n w (fdI L k 20 0 f 0) (fdI L k 20 0 f 1) (fdI L k 20 0 f 2) (fdI L k 20 0 f 3) (fdI L k 20 0 f 4)) fun g w2 => gh (FLc_0 n w (fdI L k 20 0 f 0) (fdI L k 20 0 f 1) (fdI L k 20 0 f 2) (fdI L k 20 0 f 3) (fdI L k 20 0 f 4)) w2 fun w3 => fdO n L m w3 (k + 20) (fdI L k 20 0 f) g else some (got, w)
noncomputable def FQ_feeds (n : Nat) (L : List Nat) (w : Wd) : Option (Bool × Wd) :=
  bo2 (fdO n L n w 0 (fun _ => 0) 0) fun got w2 =>
    if L.length = 0 then some (true, w2) else if got < nI L.length then some (false, w2) else bx2 (FX12_truncate w2 (nI L.length)) fun g w3 => gh (FLc_1 n w2 (nI L.length) 0 0 0 0) w3 fun w4 => some (decide (g = nI L.length), w4)
theorem tx_ch {c : Nat} (h : c < 128) : (((nI c) &&& 255).toUInt32 % 65536).toInt32 = nI c := by
  revert h
  revert c
  decide
section FEEDROWS
variable {G : GG} {own : String} {cc : ByteArray} {p : Program} {l : Launch} {e : Env} {R : Room} {s : State} {m : MethodId} {args : Array Value} {below : List Frame} {meth : Method} {c : Code} {nL cells slots : Nat} {Q : State → Prop} {pc t : Nat} {lc : List (Nat × Value)} {st : List Value} {I : Heap → Prop} {b : Nat} {kd : Bool} {L : List Nat}
theorem J_txLen (hX : FX G own cc nL p s m args c) (hT : ∀ H, I H → TX G kd b L H) (hw : Cond.methodLink own 16 ⟨"java/lang/CharSequence", "length", "()I"⟩ ∈ WALL) (hr : 3 ≤ R.frames ∧ 200 ≤ R.locals ∧ cells ≤ R.cells ∧ slots ≤ R.slots) (hcat : (st.map fun v => v.category).sum ≤ 8) (hdg : decode cc pc = .ok (.invokeinterface 16 1, 5)) (ht : pc + 5 = t) (kk : J G p l e R s m args below meth c nL cells slots Q I t lc (.int (nI L.length) :: st)) : J G p l e R s m args below meth c nL cells slots Q I pc lc (.ref b :: st) := by
  refine J_imp (I2 := fun H => ∃ q cap bs ml x8, I H ∧ (L.length ≤ cap ∧ cap < 2 ^ 20 ∧ ∀ j, j < L.length → L.getD j 0 < 128 ∧ bs j = nI (L.getD j 0)) ∧ va_at (gD G) jcl (q, aB G cap bs) H ∧ (if kd then va_at (gD G) jcl (b, .inr (11, [.ref q, .int 0, .int ml, .int (nI L.length)])) H else cap = L.length ∧ va_at (gD G) jcl (b, .inr (12, [.ref q, .int 0, .int ml, .int x8])) H)) (fun H h => by
    obtain ⟨q, cap, bs, ml, x8, h9⟩ := hT H h
    exact ⟨q, cap, bs, ml, x8, h, h9⟩) ?_
  refine J_exE fun q => J_exE fun cap => J_exE fun bs => J_exE fun ml => J_exE fun x8 => ?_
  cases kd with
  | true =>
    refine J_callF hX [] st (ct_ln4I (l := l) (q := q) (ml := ml) (n := nI L.length) (fun H h => h.2.2.2)) miJ4_length_8abf5 p_1273 p_1271 (List.mem_of_getElem? (i := 2) rfl) (by decide +kernel) cb11 (fun H h => ⟨_, h.2.2.2⟩) hw ⟨rfl, rfl, Nat.le_trans (by decide) hr.1, Nat.le_trans (by decide) hr.2.1⟩ rfl rfl hcat hr.2.2 hdg ht (fun v => J_pure fun hv => ?_)
    subst hv
    exact J_imp (fun H h => h.1) kk
  | false =>
    refine J_callF hX [] st (ct_lenS (l := l) (q := q) (cap := cap) (bs := bs) (x8 := ml) (x9 := x8) (fun H h => h.2.2.2.2) (fun H h => h.2.2.1)) miJ0_length_8abf5 p_518 p_1267 (List.mem_of_getElem? (i := 0) rfl) (by decide +kernel) cb12 (fun H h => ⟨_, h.2.2.2.2⟩) hw ⟨rfl, rfl, Nat.le_trans (by decide) hr.1, Nat.le_trans (by decide) hr.2.1⟩ rfl rfl hcat hr.2.2 hdg ht (fun v => J_pure fun hv => ?_)
    subst hv
    refine J_imp (I2 := fun H => cap = L.length ∧ I H) (fun H h => ⟨h.2.2.2.1, h.1⟩) (J_pure fun hc => ?_)
    subst hc
    exact kk
theorem J_txCh (hX : FX G own cc nL p s m args c) (hT : ∀ H, I H → TX G kd b L H) {k : Nat} (hk : k < L.length) (hw : Cond.methodLink own 22 ⟨"java/lang/CharSequence", "charAt", "(I)C"⟩ ∈ WALL) (hr : 4 ≤ R.frames ∧ 300 ≤ R.locals ∧ cells ≤ R.cells ∧ slots ≤ R.slots) (hcat : (st.map fun v => v.category).sum ≤ 8) (hdg : decode cc pc = .ok (.invokeinterface 22 2, 5)) (ht : pc + 5 = t) (kk : J G p l e R s m args below meth c nL cells slots Q I t lc (.int (nI (L.getD k 0)) :: st)) : J G p l e R s m args below meth c nL cells slots Q I pc lc (.int (nI k) :: .ref b :: st) := by
  refine J_imp (I2 := fun H => ∃ q cap bs ml x8, (L.length ≤ cap ∧ cap < 2 ^ 20 ∧ ∀ j, j < L.length → L.getD j 0 < 128 ∧ bs j = nI (L.getD j 0)) ∧ I H ∧ va_at (gD G) jcl (q, aB G cap bs) H ∧ (if kd then va_at (gD G) jcl (b, .inr (11, [.ref q, .int 0, .int ml, .int (nI L.length)])) H else cap = L.length ∧ va_at (gD G) jcl (b, .inr (12, [.ref q, .int 0, .int ml, .int x8])) H)) (fun H h => by
    obtain ⟨q, cap, bs, ml, x8, h8, h9⟩ := hT H h
    exact ⟨q, cap, bs, ml, x8, h8, h, h9⟩) ?_
  refine J_exE fun q => J_exE fun cap => J_exE fun bs => J_exE fun ml => J_exE fun x8 => J_pure fun hc => ?_
  have hb := hc.2.2 k hk
  have ev : (((bs k) &&& 255).toUInt32 % 65536).toInt32 = nI (L.getD k 0) := by rw [hb.2, tx_ch hb.1]
  cases kd with
  | true =>
    refine J_callF hX [.int (nI k)] st (ct_ch4I (l := l) (q := q) (ml := ml) hc.1 hc.2.1 hk (fun H h => h.2.2) (fun H h => h.2.1)) miJ4_charAt_5068e p_1288 p_1286 (List.mem_of_getElem? (i := 3) rfl) (by decide +kernel) cb11 (fun H h => ⟨_, h.2.2⟩) hw ⟨rfl, rfl, Nat.le_trans (by decide) hr.1, Nat.le_trans (by decide) hr.2.1⟩ rfl rfl hcat hr.2.2 hdg ht (fun v => J_pure fun hv => ?_)
    subst hv
    refine J_imp (fun H h => h.1) ?_
    show J G p l e R s m args below meth c nL cells slots Q I t lc (.int _ :: st)
    rw [ev]
    exact kk
  | false =>
    refine J_callF hX [.int (nI k)] st (ct_chS (l := l) (q := q) (cap := cap) (bs := bs) (x8 := ml) (x9 := x8) hc.2.1 (Nat.lt_of_lt_of_le hk hc.1) (fun H h => h.2.2.2) (fun H h => h.2.1)) miJ0_charAt_5068e p_531 p_1283 (List.mem_of_getElem? (i := 1) rfl) (by decide +kernel) cb12 (fun H h => ⟨_, h.2.2.2⟩) hw ⟨rfl, rfl, Nat.le_trans (by decide) hr.1, Nat.le_trans (by decide) hr.2.1⟩ rfl rfl hcat hr.2.2 hdg ht (fun v => J_pure fun hv => ?_)
    subst hv
    refine J_imp (fun H h => h.1) ?_
    show J G p l e R s m args below meth c nL cells slots Q I t lc (.int _ :: st)
    rw [ev]
    exact kk
variable {n1 : Nat} {X : Heap → Prop} {z : Wd × MM}
/-- from here on, what is new lies behind k0 -/
theorem J_mark (kk : ∀ k0, n1 + 495 ≤ k0 → J G p l e R s m args below meth c nL cells slots Q (LH G n1 (XK G n1 k0 X) z) pc lc st) : J G p l e R s m args below meth c nL cells slots Q (LH G n1 X z) pc lc st := fun H locs ls h1 h2 h3 => kk H.size h2.2.1.last H locs ls h1 ⟨h2.1, h2.2.1, H, h2.2.2, rfl, Nat.le_refl _, fun _ _ _ _ => rfl⟩ h3
/-- a new row of ints -/
theorem J_newR (hX : FX G own cc nL p s m args c) {k0 : Nat} (hk0 : n1 + 495 ≤ k0) (hL : LOK G n1 X) {x : Int32} {N : Nat} (hn : ¬ x < 0) (hN : x.toNatClampNeg = N) (hbig : N * componentBytes .int ≤ 536870912) (harr : Cond.arrayClass .int ∈ WALL) (hroom : cells + 1 ≤ R.cells ∧ slots + N ≤ R.slots) (hdg : decode cc pc = .ok (.newarray .int, 2)) (ht : pc + 2 = t)
    (kk : ∀ q, k0 ≤ q → J G p l e R s m args below meth c nL (cells + 1) (slots + N) Q (LH G n1 (XR G q N (fun _ => 0) (XK G n1 k0 X)) z) t lc (.ref q :: st)) : J G p l e R s m args below meth c nL cells slots Q (LH G n1 (XK G n1 k0 X) z) pc lc (.int x :: st) := by
  refine J_newII hX hn hN hbig harr hroom (fun H H1 h hz hq => ⟨h.1.kept (fun q _ hl => hq q hl), h.2.1.kept (fun q _ hl => hq q hl), h.2.2.go hz (fun q hl _ _ => hq q (Nat.lt_of_lt_of_le hl h.2.2.le))⟩) (Φ := fun q => k0 ≤ q) (fun H h => h.2.2.le) hdg ht (fun q hA hq => J_imp (fun H h => ⟨h.1.1, h.1.2.1, h.1.2.2, h.2⟩) (kk q hq))
/-- a store into it -/
theorem J_stR (hX : FX G own cc nL p s m args c) {k0 : Nat} (hk0 : n1 + 495 ≤ k0) (hL : LOK G n1 X) {q N : Nat} (hq : k0 ≤ q) {f f2 : Nat → Int32} {i x : Int32} (hin : inb i N = true) (hf : upd f i.toNatClampNeg x = f2) (hdg : decode cc pc = .ok (.iastore, 1)) (ht : pc + 1 = t)
    (kk : J G p l e R s m args below meth c nL cells slots Q (LH G n1 (XR G q N f2 (XK G n1 k0 X)) z) t lc st) : J G p l e R s m args below meth c nL cells slots Q (LH G n1 (XR G q N f (XK G n1 k0 X)) z) pc lc (.int x :: .int i :: .ref q :: st) := by
  subst hf
  refine J_iastI hX (fun H h => h.2.2.2) (hL.2.1 q (by have := hL.1; omega)) hin (fun H H1 h e hz ho => ⟨h.1.kept (fun x hk hl => ho x (fun e9 => by have := hk.2; have := hL.1; omega)), h.2.1.kept (fun x hk hl => ho x (fun e9 => by have := hk.2; omega)), h.2.2.1.go (by omega) (fun x hl _ _ => ho x (by omega)), e⟩) hdg ht kk
theorem J_ldR (hX : FX G own cc nL p s m args c) {q N k0 : Nat} {f : Nat → Int32} {i v : Int32} (hin : inb i N = true) (hv : f i.toNatClampNeg = v) (hdg : decode cc pc = .ok (.iaload, 1)) (ht : pc + 1 = t)
    (kk : J G p l e R s m args below meth c nL cells slots Q (LH G n1 (XR G q N f (XK G n1 k0 X)) z) t lc (.int v :: st)) : J G p l e R s m args below meth c nL cells slots Q (LH G n1 (XR G q N f (XK G n1 k0 X)) z) pc lc (.int i :: .ref q :: st) := J_ialdI hX (fun H h => h.2.2.2) hin hv hdg ht kk
end FEEDROWS
theorem i4_ok : ∀ i, i < 20 → nI i / 4 = nI (i / 4) := by decide
theorem i4_lt {i : Nat} (h : i < 20) : i / 4 < 5 := by omega

theorem miL_feeds : MI yL_feeds cL_feeds 6 (some .boolean) 2 := ⟨p_1261, p_24, by decide +kernel, by decide +kernel, by decide +kernel, by decide +kernel⟩
abbrev rmL_feeds : Room := { frames := 8, cells := 1, slots := 5, locals := 327 }
theorem LQ_feeds_23 {G : GG} {l : Launch} {n1 k0 b q : Nat} {kd : Bool} {L : List Nat} {X : Heap → Prop} (hL : LOK G n1 X) (hT : ∀ H, X H → TX G kd b L H) (hLn : L.length < 600) (hk0 : n1 + 495 ≤ k0) (hq : k0 ≤ q) {p : Program} {e : Env} {s : State} {m : MethodId} {args : Array Value} {below : List Frame} {meth : Method} {c : Code} (hX : FX G RL cL_feeds 6 p s m args c) {Q : State → Prop} {z : Wd × MM} {k : Nat} (hk : k < 600) {got : Int32} (hRw : 1 ≤ rmL_feeds.cells) : ∀ (d i : Nat), i + d = 20 → ∀ (f : Nat → Int32), J G p l e rmL_feeds s m args below meth c 6 1 5 Q (LH G n1 (XR G q 5 (fdI L k d i f) (XK G n1 k0 X)) z) 82 [(4, .int (nI k)), (0, .ref (aC n1)), (1, .ref b), (2, .int got), (3, .ref q)] [] → J G p l e rmL_feeds s m args below meth c 6 1 5 Q (LH G n1 (XR G q 5 f (XK G n1 k0 X)) z) 23 [(5, .int (nI i)), (4, .int (nI k)), (0, .ref (aC n1)), (1, .ref b), (2, .int got), (3, .ref q)] [] := by
  intro d
  induction d with
  | zero =>
    intro i hi f kk
    have hi : i = 20 := by omega
    subst hi
    refine J_iload hX dL_feeds_23 0 rfl (t := 25) rfl ?_
    refine J_bipush (v := 20) hX dL_feeds_25 (by decide) (t := 27) rfl ?_
    refine J_icmp_ge (tgt := 82) hX dL_feeds_27 (by decide) (t := 30) rfl (fun zc => ?_) (fun zc => absurd (by decide) zc)
    exact J_sub [1, 2, 3, 4, 5] rfl kk
  | succ d ih =>
    intro i hi f kk
    refine J_iload hX dL_feeds_23 0 rfl (t := 25) rfl ?_
    refine J_bipush (v := 20) hX dL_feeds_25 (by decide) (t := 27) rfl ?_
    refine J_icmp_ge (tgt := 82) hX dL_feeds_27 (by decide) (t := 30) rfl (fun z => absurd z (nI_ge (show i < 20 by omega) (by decide))) (fun zc => ?_)
    refine J_aload_n hX dL_feeds_30 5 rfl (t := 31) rfl ?_
    refine J_iload hX dL_feeds_31 0 rfl (t := 33) rfl ?_
    refine J_iconst (v := 4) hX dL_feeds_33 (by decide) (t := 34) rfl ?_
    refine J_idiv hX dL_feeds_34 (by decide) (t := 35) rfl ?_
    refine J_val (i4_ok i (by omega)) ?_
    refine J_aload_n hX dL_feeds_35 5 rfl (t := 36) rfl ?_
    refine J_iload hX dL_feeds_36 0 rfl (t := 38) rfl ?_
    refine J_iconst (v := 4) hX dL_feeds_38 (by decide) (t := 39) rfl ?_
    refine J_idiv hX dL_feeds_39 (by decide) (t := 40) rfl ?_
    refine J_val (i4_ok i (by omega)) ?_
    refine J_ldR hX (inbN (i4_lt (by omega)) (by decide)) (v := f (i / 4)) (by rw [nI_clamp (by omega)]) dL_feeds_40 (t := 41) rfl ?_
    refine J_bipush (v := 8) hX dL_feeds_41 (by decide) (t := 43) rfl ?_
    refine J_ishl hX dL_feeds_43 (t := 44) rfl ?_
    refine J_iload hX dL_feeds_44 1 rfl (t := 46) rfl ?_
    refine J_iload hX dL_feeds_46 0 rfl (t := 48) rfl ?_
    refine J_iadd hX dL_feeds_48 (t := 49) rfl ?_
    refine J_val (nI_add k i) ?_
    refine J_aload_n hX dL_feeds_49 3 rfl (t := 50) rfl ?_
    refine J_txLen hX (fun H h => hT H (h.2.2.1.x hL.2.2)) p_1263 ⟨Nat.le_of_ble_eq_true rfl, Nat.le_of_ble_eq_true rfl, Nat.le_of_ble_eq_true rfl, Nat.le_of_ble_eq_true rfl⟩ (Nat.le_of_ble_eq_true rfl) dL_feeds_50 (t := 55) rfl ?_
    have tl : J G p l e rmL_feeds s m args below meth c 6 1 5 Q (LH G n1 (XR G q 5 f (XK G n1 k0 X)) z) 74 [(5, .int (nI i)), (4, .int (nI k)), (0, .ref (aC n1)), (1, .ref b), (2, .int got), (3, .ref q)] (.int (lch L (k + i)) :: [.int (((f (i / 4))) <<< (8 &&& 31)), .int (nI (i / 4)), .ref q]) := by
      refine J_ior hX dL_feeds_74 (t := 75) rfl ?_
      refine J_stR hX hk0 hL hq (inbN (i4_lt (by omega)) (by decide)) (f2 := upd f (i / 4) ((f (i / 4) <<< ((8 : Int32) &&& 31)) ||| lch L (k + i))) (by rw [nI_clamp (by omega)]) dL_feeds_75 (t := 76) rfl ?_
      refine J_iinc (v := nI (i + 1)) (lc2 := [(5, .int (nI (i + 1))), (4, .int (nI k)), (0, .ref (aC n1)), (1, .ref b), (2, .int got), (3, .ref q)]) hX dL_feeds_76 0 rfl (nI_succ i).symm (Nat.le_of_ble_eq_true rfl) rfl (t := 79) rfl ?_
      refine J_goto (tgt := 23) hX dL_feeds_79 (by decide) ?_
      exact ih (i + 1) (by omega) _ kk
    refine J_icmp_ge (tgt := 72) hX dL_feeds_55 (by decide) (t := 58) rfl (fun zc => ?_) (fun zc => ?_)
    · have hz : ¬ k + i < L.length := fun h => nI_ge h (by omega) zc
      refine J_bipush (v := 32) hX dL_feeds_72 (by decide) (t := 74) rfl ?_
      refine J_val (show (32 : Int32) = lch L (k + i) from (if_neg hz).symm) ?_
      exact tl
    · have hz : k + i < L.length := Nat.not_le.mp fun h => zc (nI_le h (by omega))
      refine J_aload_n hX dL_feeds_58 3 rfl (t := 59) rfl ?_
      refine J_iload hX dL_feeds_59 1 rfl (t := 61) rfl ?_
      refine J_iload hX dL_feeds_61 0 rfl (t := 63) rfl ?_
      refine J_iadd hX dL_feeds_63 (t := 64) rfl ?_
      refine J_val (nI_add k i) ?_
      refine J_txCh hX (fun H h => hT H (h.2.2.1.x hL.2.2)) hz p_1280 ⟨Nat.le_of_ble_eq_true rfl, Nat.le_of_ble_eq_true rfl, Nat.le_of_ble_eq_true rfl, Nat.le_of_ble_eq_true rfl⟩ (Nat.le_of_ble_eq_true rfl) dL_feeds_64 (t := 69) rfl ?_
      refine J_goto (tgt := 74) hX dL_feeds_69 (by decide) ?_
      refine J_val (show nI (L.getD (k + i) 0) = lch L (k + i) from (if_pos hz).symm) ?_
      exact tl
theorem LQ_feeds_9 {G : GG} {l : Launch} {n1 k0 b q : Nat} {kd : Bool} {L : List Nat} {X : Heap → Prop} (hL : LOK G n1 X) (hT : ∀ H, X H → TX G kd b L H) (hLn : L.length < 600) (hk0 : n1 + 495 ≤ k0) (hq : k0 ≤ q) {p : Program} {e : Env} {s : State} {m : MethodId} {args : Array Value} {below : List Frame} {meth : Method} {c : Code} (hX : FX G RL cL_feeds 6 p s m args c) {Q : State → Prop} {n : Nat} {g9 : Int32} {w9 : Wd} {V : MM} : ∀ (mm : Nat) (z : Wd × MM) (k : Nat) (hk : k < 620) (f : Nat → Int32) (got : Int32), fdO n L mm z.1 k f got = some (g9, w9) → (∀ f9 k9, J G p l e rmL_feeds s m args below meth c 6 1 5 Q (LH G n1 (XR G q 5 f9 (XK G n1 k0 X)) (w9, z.2)) 108 [(4, .int (nI k9)), (0, .ref (aC n1)), (1, .ref b), (2, .int g9), (3, .ref q)] []) → J G p l e rmL_feeds s m args below meth c 6 1 5 Q (LH G n1 (XR G q 5 f (XK G n1 k0 X)) z) 9 [(4, .int (nI k)), (0, .ref (aC n1)), (1, .ref b), (2, .int got), (3, .ref q)] [] := by
  intro mm
  induction mm with
  | zero => intro z k hk f got hF; cases hF
  | succ mm ih =>
    intro z k hk f got hF kk
    unfold fdO at hF
    refine J_iload hX dL_feeds_9 0 rfl (t := 11) rfl ?_
    refine J_aload_n hX dL_feeds_11 2 rfl (t := 12) rfl ?_
    refine J_txLen hX (fun H h => hT H (h.2.2.1.x hL.2.2)) p_1263 ⟨Nat.le_of_ble_eq_true rfl, Nat.le_of_ble_eq_true rfl, Nat.le_of_ble_eq_true rfl, Nat.le_of_ble_eq_true rfl⟩ (Nat.le_of_ble_eq_true rfl) dL_feeds_12 (t := 17) rfl ?_
    refine J_icmp_ge (tgt := 108) hX dL_feeds_17 (by decide) (t := 20) rfl (fun zc => ?_) (fun zc => ?_)
    · rw [if_neg (show ¬ k < L.length from fun h => nI_ge h (by omega) zc)] at hF
      obtain ⟨h1, h2⟩ := Prod.mk.inj (Option.some.inj hF)
      subst h1; subst h2
      exact kk f k
    · have hz : k < L.length := Nat.not_le.mp fun h => zc (nI_le h (by omega))
      rw [if_pos hz] at hF
      obtain ⟨g1, w1, e1, hF⟩ := bx2_e hF
      obtain ⟨w3, hAG, hF⟩ := gh_e hF
      refine J_iconst (v := 0) hX dL_feeds_20 (by decide) (t := 21) rfl ?_
      refine J_val nI_0.symm ?_
      refine J_istore (lc2 := [(5, .int (nI 0)), (4, .int (nI k)), (0, .ref (aC n1)), (1, .ref b), (2, .int got), (3, .ref q)]) hX dL_feeds_21 (Nat.le_of_ble_eq_true rfl) rfl (t := 23) rfl ?_
      refine LQ_feeds_23 hL hT hLn hk0 hq hX (by omega) (Nat.le_refl _) 20 0 rfl f ?_
      refine J_aload_n hX dL_feeds_82 1 rfl (t := 83) rfl ?_
      refine J_aload_n hX dL_feeds_83 4 rfl (t := 84) rfl ?_
      refine J_iconst (v := 0) hX dL_feeds_84 (by decide) (t := 85) rfl ?_
      refine J_ldR hX (by decide) rfl dL_feeds_85 (t := 86) rfl ?_
      refine J_aload_n hX dL_feeds_86 4 rfl (t := 87) rfl ?_
      refine J_iconst (v := 1) hX dL_feeds_87 (by decide) (t := 88) rfl ?_
      refine J_ldR hX (by decide) rfl dL_feeds_88 (t := 89) rfl ?_
      refine J_aload_n hX dL_feeds_89 4 rfl (t := 90) rfl ?_
      refine J_iconst (v := 2) hX dL_feeds_90 (by decide) (t := 91) rfl ?_
      refine J_ldR hX (by decide) rfl dL_feeds_91 (t := 92) rfl ?_
      refine J_aload_n hX dL_feeds_92 4 rfl (t := 93) rfl ?_
      refine J_iconst (v := 3) hX dL_feeds_93 (by decide) (t := 94) rfl ?_
      refine J_ldR hX (by decide) rfl dL_feeds_94 (t := 95) rfl ?_
      refine J_aload_n hX dL_feeds_95 4 rfl (t := 96) rfl ?_
      refine J_iconst (v := 4) hX dL_feeds_96 (by decide) (t := 97) rfl ?_
      refine J_ldR hX (by decide) rfl dL_feeds_97 (t := 98) rfl ?_
      refine J_lCg hX (XR.lok hL hk0 hq) hAG [.int (fdI L k 20 0 f 0), .int (fdI L k 20 0 f 1), .int (fdI L k 20 0 f 2), .int (fdI L k 20 0 f 3), .int (fdI L k 20 0 f 4)] [] [.int g1] (fun zz => ctX12_feed (G := GCz G n1 zz) (l := l) z.1 (fdI L k 20 0 f 0) (fdI L k 20 0 f 1) (fdI L k 20 0 f 2) (fdI L k 20 0 f 3) (fdI L k 20 0 f 4) n e1) rfl miX12_feed mvX12_feed cb9 p_1297 ⟨rfl, rfl, Nat.le_of_ble_eq_true rfl, Nat.le_of_ble_eq_true rfl⟩ rfl rfl (Nat.le_of_ble_eq_true rfl) ⟨Nat.le_of_ble_eq_true rfl, Nat.le_of_ble_eq_true rfl⟩ dL_feeds_98 (t := 101) rfl rfl ?_
      refine J_istore_n (lc2 := [(2, .int g1), (4, .int (nI k)), (0, .ref (aC n1)), (1, .ref b), (3, .ref q)]) hX dL_feeds_101 rfl (Nat.le_of_ble_eq_true rfl) rfl (t := 102) rfl ?_
      refine J_iinc (v := nI (k + 20)) (lc2 := [(4, .int (nI (k + 20))), (2, .int g1), (0, .ref (aC n1)), (1, .ref b), (3, .ref q)]) hX dL_feeds_102 1 rfl (nI_add k 20) (Nat.le_of_ble_eq_true rfl) rfl (t := 105) rfl ?_
      refine J_goto (tgt := 9) hX dL_feeds_105 (by decide) ?_
      refine J_sub [0, 2, 3, 1, 4] rfl ?_
      exact ih _ _ (by omega) _ _ hF kk
theorem ctQ_feeds {G : GG} {l : Launch} {n1 b : Nat} {kd : Bool} {L : List Nat} {X : Heap → Prop} (hL : LOK G n1 X) (hT : ∀ H, X H → TX G kd b L H) (hLn : L.length < 600) (z : Wd × MM) (n : Nat) {rx : Bool} {rw9 : Wd} (hF : FQ_feeds n L z.1 = some (rx, rw9)) : CTP G l yL_feeds cL_feeds 6 (some .boolean) rmL_feeds 1 5 [.ref (aC n1), .ref b] (LH G n1 X z) (fun v9 H => v9 = some (.int (bI rx)) ∧ LH G n1 X (rw9, z.2) H) := by
  refine CTP.of miL_feeds [(0, .ref (aC n1)), (1, .ref b)] rfl (Nat.le_of_ble_eq_true rfl) ?_
  intro p e s m args below meth c hX hR hlk
  have hX : FX G RL cL_feeds 6 p s m args c := hX
  unfold FQ_feeds at hF
  obtain ⟨g9, w2, e0, hF⟩ := bo2_e hF
  refine J_iconst (v := 0) hX dL_feeds_0 (by decide) (t := 1) rfl ?_
  refine J_istore_n (lc2 := [(2, .int 0), (0, .ref (aC n1)), (1, .ref b)]) hX dL_feeds_1 rfl (Nat.le_of_ble_eq_true rfl) rfl (t := 2) rfl ?_
  refine J_mark fun k0 hk0 => ?_
  refine J_iconst (v := 5) hX dL_feeds_2 (by decide) (t := 3) rfl ?_
  refine J_newR hX hk0 hL (N := 5) (by decide) (by decide) (Nat.le_of_ble_eq_true rfl) p_101 ⟨Nat.le_of_ble_eq_true rfl, Nat.le_of_ble_eq_true rfl⟩ dL_feeds_3 (t := 5) rfl (fun q hq => ?_)
  refine J_astore_n (lc2 := [(3, .ref q), (2, .int 0), (0, .ref (aC n1)), (1, .ref b)]) hX dL_feeds_5 rfl (Nat.le_of_ble_eq_true rfl) rfl (t := 6) rfl ?_
  refine J_iconst (v := 0) hX dL_feeds_6 (by decide) (t := 7) rfl ?_
  refine J_val nI_0.symm ?_
  refine J_istore (lc2 := [(4, .int (nI 0)), (3, .ref q), (2, .int 0), (0, .ref (aC n1)), (1, .ref b)]) hX dL_feeds_7 (Nat.le_of_ble_eq_true rfl) rfl (t := 9) rfl ?_
  refine J_sub (lc2 := [(4, .int (nI 0)), (0, .ref (aC n1)), (1, .ref b), (2, .int 0), (3, .ref q)]) [0, 3, 4, 2, 1] rfl ?_
  refine LQ_feeds_9 (V := z.2) hL hT hLn hk0 hq hX n z 0 (by decide) _ _ e0 (fun f9 k9 => ?_)
  refine J_aload_n hX dL_feeds_108 2 rfl (t := 109) rfl ?_
  refine J_txLen hX (fun H h => hT H (h.2.2.1.x hL.2.2)) p_1263 ⟨Nat.le_of_ble_eq_true rfl, Nat.le_of_ble_eq_true rfl, Nat.le_of_ble_eq_true rfl, Nat.le_of_ble_eq_true rfl⟩ (Nat.le_of_ble_eq_true rfl) dL_feeds_109 (t := 114) rfl ?_
  refine J_if_eq (tgt := 146) hX dL_feeds_114 (by decide) (t := 117) rfl (fun zc => ?_) (fun zc => ?_)
  · have hz : L.length = 0 := (nI_eq (by omega) (by decide)).mp (zc.trans nI_0.symm)
    rw [if_pos hz] at hF
    obtain ⟨h1, h2⟩ := Prod.mk.inj (Option.some.inj hF)
    subst h1; subst h2
    refine J_iconst (v := 1) hX dL_feeds_146 (by decide) (t := 147) rfl ?_
    refine J_goto (tgt := 151) hX dL_feeds_147 (by decide) ?_
    exact J_zretP (b := true) hX hR hlk (fun H h => ⟨rfl, h.1, h.2.1, h.2.2.1.x hL.2.2⟩) dL_feeds_151
  · rw [if_neg (show ¬ L.length = 0 from fun h => zc (by rw [h]; exact nI_0))] at hF
    refine J_iload_n hX dL_feeds_117 3 rfl (t := 118) rfl ?_
    refine J_aload_n hX dL_feeds_118 2 rfl (t := 119) rfl ?_
    refine J_txLen hX (fun H h => hT H (h.2.2.1.x hL.2.2)) p_1263 ⟨Nat.le_of_ble_eq_true rfl, Nat.le_of_ble_eq_true rfl, Nat.le_of_ble_eq_true rfl, Nat.le_of_ble_eq_true rfl⟩ (Nat.le_of_ble_eq_true rfl) dL_feeds_119 (t := 124) rfl ?_
    refine J_icmp_lt (tgt := 150) hX dL_feeds_124 (by decide) (t := 127) rfl (fun zc => ?_) (fun zc => ?_)
    · rw [if_pos zc] at hF
      obtain ⟨h1, h2⟩ := Prod.mk.inj (Option.some.inj hF)
      subst h1; subst h2
      refine J_iconst (v := 0) hX dL_feeds_150 (by decide) (t := 151) rfl ?_
      exact J_zretP (b := false) hX hR hlk (fun H h => ⟨rfl, h.1, h.2.1, h.2.2.1.x hL.2.2⟩) dL_feeds_151
    · rw [if_neg zc] at hF
      obtain ⟨g3, w3, e3, hF⟩ := bx2_e hF
      obtain ⟨w4, hAG, hF⟩ := gh_e hF
      obtain ⟨h1, h2⟩ := Prod.mk.inj (Option.some.inj hF)
      subst h1; subst h2
      refine J_aload_n hX dL_feeds_127 1 rfl (t := 128) rfl ?_
      refine J_aload_n hX dL_feeds_128 2 rfl (t := 129) rfl ?_
      refine J_txLen hX (fun H h => hT H (h.2.2.1.x hL.2.2)) p_1263 ⟨Nat.le_of_ble_eq_true rfl, Nat.le_of_ble_eq_true rfl, Nat.le_of_ble_eq_true rfl, Nat.le_of_ble_eq_true rfl⟩ (Nat.le_of_ble_eq_true rfl) dL_feeds_129 (t := 134) rfl ?_
      refine J_lCg hX (XR.lok hL hk0 hq) hAG [.int (nI L.length)] [] [.int g3] (fun zz => ctX12_truncate (G := GCz G n1 zz) (l := l) w2 (nI L.length) e3) rfl miX12_truncate mvX12_truncate cb9 p_1305 ⟨rfl, rfl, Nat.le_of_ble_eq_true rfl, Nat.le_of_ble_eq_true rfl⟩ rfl rfl (Nat.le_of_ble_eq_true rfl) ⟨Nat.le_of_ble_eq_true rfl, Nat.le_of_ble_eq_true rfl⟩ dL_feeds_134 (t := 137) rfl rfl ?_
      refine J_aload_n hX dL_feeds_137 2 rfl (t := 138) rfl ?_
      refine J_txLen hX (fun H h => hT H (h.2.2.1.x hL.2.2)) p_1263 ⟨Nat.le_of_ble_eq_true rfl, Nat.le_of_ble_eq_true rfl, Nat.le_of_ble_eq_true rfl, Nat.le_of_ble_eq_true rfl⟩ (Nat.le_of_ble_eq_true rfl) dL_feeds_138 (t := 143) rfl ?_
      refine J_icmp_ne (tgt := 150) hX dL_feeds_143 (by decide) (t := 146) rfl (fun zc => ?_) (fun zc => ?_)
      · rw [decide_eq_false zc]
        refine J_iconst (v := 0) hX dL_feeds_150 (by decide) (t := 151) rfl ?_
        exact J_zretP (b := false) hX hR hlk (fun H h => ⟨rfl, h.1, h.2.1, h.2.2.1.x hL.2.2⟩) dL_feeds_151
      · rw [decide_eq_true zc]
        refine J_iconst (v := 1) hX dL_feeds_146 (by decide) (t := 147) rfl ?_
        refine J_goto (tgt := 151) hX dL_feeds_147 (by decide) ?_
        exact J_zretP (b := true) hX hR hlk (fun H h => ⟨rfl, h.1, h.2.1, h.2.2.1.x hL.2.2⟩) dL_feeds_151
