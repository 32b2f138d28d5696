section JR
variable {G : GG} {own : String} {cc : ByteArray} {p : Program} {l : Launch} {e : Env} {R : Room} {s : State} {m : MethodId} {args : Array Value} {below : List Frame} {meth : Method} {c : Code} {nL cells slots : Nat} {Q : State → Prop} {I : Heap → Prop} {pc t : Nat} {lc : List (Nat × Value)} {st : List Value}

theorem J_iconst (hX : FX G own cc nL p s m args c) {n : Int} {v : Int32} (hdg : decode cc pc = .ok (.iconst n, 1)) (hv : Int32.ofInt n = v) (ht : pc + 1 = t) (kk : J G p l e R s m args below meth c nL cells slots Q I t lc (.int v :: st)) : J G p l e R s m args below meth c nL cells slots Q I pc lc st := by
  subst ht
  intro H locs ls h1 h2 h3
  exact lv_iconst hX.1 hX.2.1 hdg hv (kk H locs ls h1 h2 h3)

theorem J_bipush (hX : FX G own cc nL p s m args c) {n : Int} {v : Int32} (hdg : decode cc pc = .ok (.bipush n, 2)) (hv : (Int8.ofInt n).toInt32 = v) (ht : pc + 2 = t) (kk : J G p l e R s m args below meth c nL cells slots Q I t lc (.int v :: st)) : J G p l e R s m args below meth c nL cells slots Q I pc lc st := by
  subst ht
  intro H locs ls h1 h2 h3
  exact lv_bipush hX.1 hX.2.1 hdg hv (kk H locs ls h1 h2 h3)

theorem J_sipush (hX : FX G own cc nL p s m args c) {n : Int} {v : Int32} (hdg : decode cc pc = .ok (.sipush n, 3)) (hv : (Int16.ofInt n).toInt32 = v) (ht : pc + 3 = t) (kk : J G p l e R s m args below meth c nL cells slots Q I t lc (.int v :: st)) : J G p l e R s m args below meth c nL cells slots Q I pc lc st := by
  subst ht
  intro H locs ls h1 h2 h3
  exact lv_sipush hX.1 hX.2.1 hdg hv (kk H locs ls h1 h2 h3)

theorem J_lconst (hX : FX G own cc nL p s m args c) {n : Fin 2} {v : Int64} (hdg : decode cc pc = .ok (.lconst n, 1)) (hv : Int64.ofNat (n : Nat) = v) (ht : pc + 1 = t) (kk : J G p l e R s m args below meth c nL cells slots Q I t lc (.long v :: st)) : J G p l e R s m args below meth c nL cells slots Q I pc lc st := by
  subst ht
  intro H locs ls h1 h2 h3
  exact lv_lconst hX.1 hX.2.1 hdg hv (kk H locs ls h1 h2 h3)

theorem J_iload_n (hX : FX G own cc nL p s m args c) {k : Fin 4} {x : Int32} (hdg : decode cc pc = .ok (.iload_n k, 1)) (q : Nat) (hl : lc[q]? = some ((k : Nat), .int x)) (ht : pc + 1 = t) (kk : J G p l e R s m args below meth c nL cells slots Q I t lc (.int x :: st)) : J G p l e R s m args below meth c nL cells slots Q I pc lc st := by
  subst ht
  intro H locs ls h1 h2 h3
  exact lv_iload_n hX.1 hX.2.1 hdg rfl (lv_at h1 q hl) (kk H locs ls h1 h2 h3)

theorem J_iload (hX : FX G own cc nL p s m args c) {i : Nat} {x : Int32} (hdg : decode cc pc = .ok (.iload i, 2)) (q : Nat) (hl : lc[q]? = some (i, .int x)) (ht : pc + 2 = t) (kk : J G p l e R s m args below meth c nL cells slots Q I t lc (.int x :: st)) : J G p l e R s m args below meth c nL cells slots Q I pc lc st := by
  subst ht
  intro H locs ls h1 h2 h3
  exact lv_iload hX.1 hX.2.1 hdg (lv_at h1 q hl) (kk H locs ls h1 h2 h3)

theorem J_istore_n (hX : FX G own cc nL p s m args c) {k : Fin 4} {i : Nat} {x : Int32} {lc2 : List (Nat × Value)} (hdg : decode cc pc = .ok (.istore_n k, 1)) (hi : (k : Nat) = i) (hn : i < nL) (hl : (i, Value.int x) :: lc.filter (fun q => !(q.1 == i) && !(q.1 + 1 == i && q.2.category == 2)) = lc2) (ht : pc + 1 = t) (kk : J G p l e R s m args below meth c nL cells slots Q I t lc2 st) : J G p l e R s m args below meth c nL cells slots Q I pc lc (.int x :: st) := by
  subst ht
  intro H locs ls h1 h2 h3
  exact lv_istore_n hX.1 hX.2.1 hdg hi h1 hn hl (fun ls9 h9 => kk H locs ls9 h9 h2 h3)

theorem J_istore (hX : FX G own cc nL p s m args c) {i : Nat} {x : Int32} {lc2 : List (Nat × Value)} (hdg : decode cc pc = .ok (.istore i, 2)) (hn : i < nL) (hl : (i, Value.int x) :: lc.filter (fun q => !(q.1 == i) && !(q.1 + 1 == i && q.2.category == 2)) = lc2) (ht : pc + 2 = t) (kk : J G p l e R s m args below meth c nL cells slots Q I t lc2 st) : J G p l e R s m args below meth c nL cells slots Q I pc lc (.int x :: st) := by
  subst ht
  intro H locs ls h1 h2 h3
  exact lv_istore hX.1 hX.2.1 hdg h1 hn hl (fun ls9 h9 => kk H locs ls9 h9 h2 h3)

theorem J_lload_n (hX : FX G own cc nL p s m args c) {k : Fin 4} {x : Int64} (hdg : decode cc pc = .ok (.lload_n k, 1)) (q : Nat) (hl : lc[q]? = some ((k : Nat), .long x)) (ht : pc + 1 = t) (kk : J G p l e R s m args below meth c nL cells slots Q I t lc (.long x :: st)) : J G p l e R s m args below meth c nL cells slots Q I pc lc st := by
  subst ht
  intro H locs ls h1 h2 h3
  exact lv_lload_n hX.1 hX.2.1 hdg rfl (lv_at h1 q hl) (kk H locs ls h1 h2 h3)

theorem J_lload (hX : FX G own cc nL p s m args c) {i : Nat} {x : Int64} (hdg : decode cc pc = .ok (.lload i, 2)) (q : Nat) (hl : lc[q]? = some (i, .long x)) (ht : pc + 2 = t) (kk : J G p l e R s m args below meth c nL cells slots Q I t lc (.long x :: st)) : J G p l e R s m args below meth c nL cells slots Q I pc lc st := by
  subst ht
  intro H locs ls h1 h2 h3
  exact lv_lload hX.1 hX.2.1 hdg (lv_at h1 q hl) (kk H locs ls h1 h2 h3)

theorem J_lstore_n (hX : FX G own cc nL p s m args c) {k : Fin 4} {i : Nat} {x : Int64} {lc2 : List (Nat × Value)} (hdg : decode cc pc = .ok (.lstore_n k, 1)) (hi : (k : Nat) = i) (hn : i + 1 < nL) (hl : (i, Value.long x) :: lc.filter (fun q => !(q.1 == i) && (!(q.1 == i + 1) && !(q.1 + 1 == i && q.2.category == 2))) = lc2) (ht : pc + 1 = t) (kk : J G p l e R s m args below meth c nL cells slots Q I t lc2 st) : J G p l e R s m args below meth c nL cells slots Q I pc lc (.long x :: st) := by
  subst ht
  intro H locs ls h1 h2 h3
  exact lv_lstore_n hX.1 hX.2.1 hdg hi h1 hn hl (fun ls9 h9 => kk H locs ls9 h9 h2 h3)

theorem J_lstore (hX : FX G own cc nL p s m args c) {i : Nat} {x : Int64} {lc2 : List (Nat × Value)} (hdg : decode cc pc = .ok (.lstore i, 2)) (hn : i + 1 < nL) (hl : (i, Value.long x) :: lc.filter (fun q => !(q.1 == i) && (!(q.1 == i + 1) && !(q.1 + 1 == i && q.2.category == 2))) = lc2) (ht : pc + 2 = t) (kk : J G p l e R s m args below meth c nL cells slots Q I t lc2 st) : J G p l e R s m args below meth c nL cells slots Q I pc lc (.long x :: st) := by
  subst ht
  intro H locs ls h1 h2 h3
  exact lv_lstore hX.1 hX.2.1 hdg h1 hn hl (fun ls9 h9 => kk H locs ls9 h9 h2 h3)

theorem J_aload_n (hX : FX G own cc nL p s m args c) {k : Fin 4} {x : Nat} (hdg : decode cc pc = .ok (.aload_n k, 1)) (q : Nat) (hl : lc[q]? = some ((k : Nat), .ref x)) (ht : pc + 1 = t) (kk : J G p l e R s m args below meth c nL cells slots Q I t lc (.ref x :: st)) : J G p l e R s m args below meth c nL cells slots Q I pc lc st := by
  subst ht
  intro H locs ls h1 h2 h3
  exact lv_aload_n hX.1 hX.2.1 hdg rfl (lv_at h1 q hl) (kk H locs ls h1 h2 h3)

theorem J_aload (hX : FX G own cc nL p s m args c) {i : Nat} {x : Nat} (hdg : decode cc pc = .ok (.aload i, 2)) (q : Nat) (hl : lc[q]? = some (i, .ref x)) (ht : pc + 2 = t) (kk : J G p l e R s m args below meth c nL cells slots Q I t lc (.ref x :: st)) : J G p l e R s m args below meth c nL cells slots Q I pc lc st := by
  subst ht
  intro H locs ls h1 h2 h3
  exact lv_aload hX.1 hX.2.1 hdg (lv_at h1 q hl) (kk H locs ls h1 h2 h3)

theorem J_astore_n (hX : FX G own cc nL p s m args c) {k : Fin 4} {i : Nat} {x : Nat} {lc2 : List (Nat × Value)} (hdg : decode cc pc = .ok (.astore_n k, 1)) (hi : (k : Nat) = i) (hn : i < nL) (hl : (i, Value.ref x) :: lc.filter (fun q => !(q.1 == i) && !(q.1 + 1 == i && q.2.category == 2)) = lc2) (ht : pc + 1 = t) (kk : J G p l e R s m args below meth c nL cells slots Q I t lc2 st) : J G p l e R s m args below meth c nL cells slots Q I pc lc (.ref x :: st) := by
  subst ht
  intro H locs ls h1 h2 h3
  exact lv_astore_n hX.1 hX.2.1 hdg hi h1 hn hl (fun ls9 h9 => kk H locs ls9 h9 h2 h3)

theorem J_astore (hX : FX G own cc nL p s m args c) {i : Nat} {x : Nat} {lc2 : List (Nat × Value)} (hdg : decode cc pc = .ok (.astore i, 2)) (hn : i < nL) (hl : (i, Value.ref x) :: lc.filter (fun q => !(q.1 == i) && !(q.1 + 1 == i && q.2.category == 2)) = lc2) (ht : pc + 2 = t) (kk : J G p l e R s m args below meth c nL cells slots Q I t lc2 st) : J G p l e R s m args below meth c nL cells slots Q I pc lc (.ref x :: st) := by
  subst ht
  intro H locs ls h1 h2 h3
  exact lv_astore hX.1 hX.2.1 hdg h1 hn hl (fun ls9 h9 => kk H locs ls9 h9 h2 h3)

theorem J_iinc (hX : FX G own cc nL p s m args c) {i : Nat} {n : Int} {x v : Int32} {lc2 : List (Nat × Value)} (hdg : decode cc pc = .ok (.iinc i n, 3)) (q : Nat) (hk : lc[q]? = some (i, .int x)) (hv : x + Int32.ofInt n = v) (hn : i < nL) (hl : (i, Value.int v) :: lc.filter (fun q => !(q.1 == i) && !(q.1 + 1 == i && q.2.category == 2)) = lc2) (ht : pc + 3 = t) (kk : J G p l e R s m args below meth c nL cells slots Q I t lc2 st) : J G p l e R s m args below meth c nL cells slots Q I pc lc st := by
  subst ht
  intro H locs ls h1 h2 h3
  exact lv_iinc hX.1 hX.2.1 hdg h1 hk hv hn hl (fun ls9 h9 => kk H locs ls9 h9 h2 h3)

theorem J_iadd (hX : FX G own cc nL p s m args c) {x y : Int32} (hdg : decode cc pc = .ok (.iadd, 1)) (ht : pc + 1 = t) (kk : J G p l e R s m args below meth c nL cells slots Q I t lc (.int (x + y) :: st)) : J G p l e R s m args below meth c nL cells slots Q I pc lc (.int y :: .int x :: st) := by
  subst ht
  intro H locs ls h1 h2 h3
  exact lv_iadd hX.1 hX.2.1 hdg (kk H locs ls h1 h2 h3)

theorem J_isub (hX : FX G own cc nL p s m args c) {x y : Int32} (hdg : decode cc pc = .ok (.isub, 1)) (ht : pc + 1 = t) (kk : J G p l e R s m args below meth c nL cells slots Q I t lc (.int (x - y) :: st)) : J G p l e R s m args below meth c nL cells slots Q I pc lc (.int y :: .int x :: st) := by
  subst ht
  intro H locs ls h1 h2 h3
  exact lv_isub hX.1 hX.2.1 hdg (kk H locs ls h1 h2 h3)

theorem J_imul (hX : FX G own cc nL p s m args c) {x y : Int32} (hdg : decode cc pc = .ok (.imul, 1)) (ht : pc + 1 = t) (kk : J G p l e R s m args below meth c nL cells slots Q I t lc (.int (x * y) :: st)) : J G p l e R s m args below meth c nL cells slots Q I pc lc (.int y :: .int x :: st) := by
  subst ht
  intro H locs ls h1 h2 h3
  exact lv_imul hX.1 hX.2.1 hdg (kk H locs ls h1 h2 h3)

theorem J_iand (hX : FX G own cc nL p s m args c) {x y : Int32} (hdg : decode cc pc = .ok (.iand, 1)) (ht : pc + 1 = t) (kk : J G p l e R s m args below meth c nL cells slots Q I t lc (.int (x &&& y) :: st)) : J G p l e R s m args below meth c nL cells slots Q I pc lc (.int y :: .int x :: st) := by
  subst ht
  intro H locs ls h1 h2 h3
  exact lv_iand hX.1 hX.2.1 hdg (kk H locs ls h1 h2 h3)

theorem J_ior (hX : FX G own cc nL p s m args c) {x y : Int32} (hdg : decode cc pc = .ok (.ior, 1)) (ht : pc + 1 = t) (kk : J G p l e R s m args below meth c nL cells slots Q I t lc (.int (x ||| y) :: st)) : J G p l e R s m args below meth c nL cells slots Q I pc lc (.int y :: .int x :: st) := by
  subst ht
  intro H locs ls h1 h2 h3
  exact lv_ior hX.1 hX.2.1 hdg (kk H locs ls h1 h2 h3)

theorem J_ishl (hX : FX G own cc nL p s m args c) {x y : Int32} (hdg : decode cc pc = .ok (.ishl, 1)) (ht : pc + 1 = t) (kk : J G p l e R s m args below meth c nL cells slots Q I t lc (.int (x <<< (y &&& 31)) :: st)) : J G p l e R s m args below meth c nL cells slots Q I pc lc (.int y :: .int x :: st) := by
  subst ht
  intro H locs ls h1 h2 h3
  exact lv_ishl hX.1 hX.2.1 hdg (kk H locs ls h1 h2 h3)

theorem J_ishr (hX : FX G own cc nL p s m args c) {x y : Int32} (hdg : decode cc pc = .ok (.ishr, 1)) (ht : pc + 1 = t) (kk : J G p l e R s m args below meth c nL cells slots Q I t lc (.int (x >>> (y &&& 31)) :: st)) : J G p l e R s m args below meth c nL cells slots Q I pc lc (.int y :: .int x :: st) := by
  subst ht
  intro H locs ls h1 h2 h3
  exact lv_ishr hX.1 hX.2.1 hdg (kk H locs ls h1 h2 h3)

theorem J_idiv (hX : FX G own cc nL p s m args c) {x y : Int32} (hdg : decode cc pc = .ok (.idiv, 1)) (hne : ¬ y = 0) (ht : pc + 1 = t) (kk : J G p l e R s m args below meth c nL cells slots Q I t lc (.int (x / y) :: st)) : J G p l e R s m args below meth c nL cells slots Q I pc lc (.int y :: .int x :: st) := by
  subst ht
  intro H locs ls h1 h2 h3
  exact lv_idiv hX.1 hX.2.1 hdg hne (kk H locs ls h1 h2 h3)

theorem J_irem (hX : FX G own cc nL p s m args c) {x y : Int32} (hdg : decode cc pc = .ok (.irem, 1)) (hne : ¬ y = 0) (ht : pc + 1 = t) (kk : J G p l e R s m args below meth c nL cells slots Q I t lc (.int (x - x / y * y) :: st)) : J G p l e R s m args below meth c nL cells slots Q I pc lc (.int y :: .int x :: st) := by
  subst ht
  intro H locs ls h1 h2 h3
  exact lv_irem hX.1 hX.2.1 hdg hne (kk H locs ls h1 h2 h3)

theorem J_ineg (hX : FX G own cc nL p s m args c) {x : Int32} (hdg : decode cc pc = .ok (.ineg, 1)) (ht : pc + 1 = t) (kk : J G p l e R s m args below meth c nL cells slots Q I t lc (.int (-x) :: st)) : J G p l e R s m args below meth c nL cells slots Q I pc lc (.int x :: st) := by
  subst ht
  intro H locs ls h1 h2 h3
  exact lv_ineg hX.1 hX.2.1 hdg (kk H locs ls h1 h2 h3)

theorem J_ladd (hX : FX G own cc nL p s m args c) {x y : Int64} (hdg : decode cc pc = .ok (.ladd, 1)) (ht : pc + 1 = t) (kk : J G p l e R s m args below meth c nL cells slots Q I t lc (.long (x + y) :: st)) : J G p l e R s m args below meth c nL cells slots Q I pc lc (.long y :: .long x :: st) := by
  subst ht
  intro H locs ls h1 h2 h3
  exact lv_ladd hX.1 hX.2.1 hdg (kk H locs ls h1 h2 h3)

theorem J_lsub (hX : FX G own cc nL p s m args c) {x y : Int64} (hdg : decode cc pc = .ok (.lsub, 1)) (ht : pc + 1 = t) (kk : J G p l e R s m args below meth c nL cells slots Q I t lc (.long (x - y) :: st)) : J G p l e R s m args below meth c nL cells slots Q I pc lc (.long y :: .long x :: st) := by
  subst ht
  intro H locs ls h1 h2 h3
  exact lv_lsub hX.1 hX.2.1 hdg (kk H locs ls h1 h2 h3)

theorem J_lmul (hX : FX G own cc nL p s m args c) {x y : Int64} (hdg : decode cc pc = .ok (.lmul, 1)) (ht : pc + 1 = t) (kk : J G p l e R s m args below meth c nL cells slots Q I t lc (.long (x * y) :: st)) : J G p l e R s m args below meth c nL cells slots Q I pc lc (.long y :: .long x :: st) := by
  subst ht
  intro H locs ls h1 h2 h3
  exact lv_lmul hX.1 hX.2.1 hdg (kk H locs ls h1 h2 h3)

theorem J_land (hX : FX G own cc nL p s m args c) {x y : Int64} (hdg : decode cc pc = .ok (.land, 1)) (ht : pc + 1 = t) (kk : J G p l e R s m args below meth c nL cells slots Q I t lc (.long (x &&& y) :: st)) : J G p l e R s m args below meth c nL cells slots Q I pc lc (.long y :: .long x :: st) := by
  subst ht
  intro H locs ls h1 h2 h3
  exact lv_land hX.1 hX.2.1 hdg (kk H locs ls h1 h2 h3)

theorem J_lor (hX : FX G own cc nL p s m args c) {x y : Int64} (hdg : decode cc pc = .ok (.lor, 1)) (ht : pc + 1 = t) (kk : J G p l e R s m args below meth c nL cells slots Q I t lc (.long (x ||| y) :: st)) : J G p l e R s m args below meth c nL cells slots Q I pc lc (.long y :: .long x :: st) := by
  subst ht
  intro H locs ls h1 h2 h3
  exact lv_lor hX.1 hX.2.1 hdg (kk H locs ls h1 h2 h3)

theorem J_iushr (hX : FX G own cc nL p s m args c) {x y : Int32} (hdg : decode cc pc = .ok (.iushr, 1)) (ht : pc + 1 = t) (kk : J G p l e R s m args below meth c nL cells slots Q I t lc (.int ((x.toUInt32 >>> (y.toUInt32 &&& Int32.toUInt32 31)).toInt32) :: st)) : J G p l e R s m args below meth c nL cells slots Q I pc lc (.int y :: .int x :: st) := by
  subst ht
  intro H locs ls h1 h2 h3
  exact lv_iushr hX.1 hX.2.1 hdg rfl (kk H locs ls h1 h2 h3)

theorem J_lushr (hX : FX G own cc nL p s m args c) {x : Int64} {y : Int32} (hdg : decode cc pc = .ok (.lushr, 1)) (ht : pc + 1 = t) (kk : J G p l e R s m args below meth c nL cells slots Q I t lc (.long ((x.toUInt64 >>> (y.toInt64.toUInt64 &&& Int64.toUInt64 63)).toInt64) :: st)) : J G p l e R s m args below meth c nL cells slots Q I pc lc (.int y :: .long x :: st) := by
  subst ht
  intro H locs ls h1 h2 h3
  exact lv_lushr hX.1 hX.2.1 hdg rfl (kk H locs ls h1 h2 h3)

theorem J_lshl (hX : FX G own cc nL p s m args c) {x : Int64} {y : Int32} (hdg : decode cc pc = .ok (.lshl, 1)) (ht : pc + 1 = t) (kk : J G p l e R s m args below meth c nL cells slots Q I t lc (.long (x <<< (y.toInt64 &&& 63)) :: st)) : J G p l e R s m args below meth c nL cells slots Q I pc lc (.int y :: .long x :: st) := by
  subst ht
  intro H locs ls h1 h2 h3
  exact lv_lshl hX.1 hX.2.1 hdg rfl (kk H locs ls h1 h2 h3)

theorem J_lshr (hX : FX G own cc nL p s m args c) {x : Int64} {y : Int32} (hdg : decode cc pc = .ok (.lshr, 1)) (ht : pc + 1 = t) (kk : J G p l e R s m args below meth c nL cells slots Q I t lc (.long (x >>> (y.toInt64 &&& 63)) :: st)) : J G p l e R s m args below meth c nL cells slots Q I pc lc (.int y :: .long x :: st) := by
  subst ht
  intro H locs ls h1 h2 h3
  exact lv_lshr hX.1 hX.2.1 hdg rfl (kk H locs ls h1 h2 h3)

theorem J_i2l (hX : FX G own cc nL p s m args c) {x : Int32} (hdg : decode cc pc = .ok (.i2l, 1)) (ht : pc + 1 = t) (kk : J G p l e R s m args below meth c nL cells slots Q I t lc (.long x.toInt64 :: st)) : J G p l e R s m args below meth c nL cells slots Q I pc lc (.int x :: st) := by
  subst ht
  intro H locs ls h1 h2 h3
  exact lv_i2l hX.1 hX.2.1 hdg rfl (kk H locs ls h1 h2 h3)

theorem J_l2i (hX : FX G own cc nL p s m args c) {x : Int64} (hdg : decode cc pc = .ok (.l2i, 1)) (ht : pc + 1 = t) (kk : J G p l e R s m args below meth c nL cells slots Q I t lc (.int x.toInt32 :: st)) : J G p l e R s m args below meth c nL cells slots Q I pc lc (.long x :: st) := by
  subst ht
  intro H locs ls h1 h2 h3
  exact lv_l2i hX.1 hX.2.1 hdg rfl (kk H locs ls h1 h2 h3)

theorem J_i2b (hX : FX G own cc nL p s m args c) {x : Int32} (hdg : decode cc pc = .ok (.i2b, 1)) (ht : pc + 1 = t) (kk : J G p l e R s m args below meth c nL cells slots Q I t lc (.int x.toInt8.toInt32 :: st)) : J G p l e R s m args below meth c nL cells slots Q I pc lc (.int x :: st) := by
  subst ht
  intro H locs ls h1 h2 h3
  exact lv_i2b hX.1 hX.2.1 hdg rfl (kk H locs ls h1 h2 h3)

theorem J_i2c (hX : FX G own cc nL p s m args c) {x : Int32} (hdg : decode cc pc = .ok (.i2c, 1)) (ht : pc + 1 = t) (kk : J G p l e R s m args below meth c nL cells slots Q I t lc (.int (x.toUInt32 % 65536).toInt32 :: st)) : J G p l e R s m args below meth c nL cells slots Q I pc lc (.int x :: st) := by
  subst ht
  intro H locs ls h1 h2 h3
  exact lv_i2c hX.1 hX.2.1 hdg rfl (kk H locs ls h1 h2 h3)

theorem J_lcmp (hX : FX G own cc nL p s m args c) {x y : Int64} (hdg : decode cc pc = .ok (.lcmp, 1)) (ht : pc + 1 = t) (kk : J G p l e R s m args below meth c nL cells slots Q I t lc (.int (lg_cmp x y) :: st)) : J G p l e R s m args below meth c nL cells slots Q I pc lc (.long y :: .long x :: st) := by
  subst ht
  intro H locs ls h1 h2 h3
  exact W.lcmp hX.1 hX.2.1 hdg (kk H locs ls h1 h2 h3)

theorem J_dup (hX : FX G own cc nL p s m args c) {va : Value} (hdg : decode cc pc = .ok (.dup, 1)) (hva : va.category = 1) (ht : pc + 1 = t) (kk : J G p l e R s m args below meth c nL cells slots Q I t lc (va :: va :: st)) : J G p l e R s m args below meth c nL cells slots Q I pc lc (va :: st) := by
  subst ht
  intro H locs ls h1 h2 h3
  exact lv_dup hX.1 hX.2.1 hdg hva (kk H locs ls h1 h2 h3)

theorem J_pop (hX : FX G own cc nL p s m args c) {va : Value} (hdg : decode cc pc = .ok (.pop, 1)) (hva : va.category = 1) (ht : pc + 1 = t) (kk : J G p l e R s m args below meth c nL cells slots Q I t lc st) : J G p l e R s m args below meth c nL cells slots Q I pc lc (va :: st) := by
  subst ht
  intro H locs ls h1 h2 h3
  exact lv_pop hX.1 hX.2.1 hdg hva (kk H locs ls h1 h2 h3)

theorem J_dup_x1 (hX : FX G own cc nL p s m args c) {va vb : Value} (hdg : decode cc pc = .ok (.dup_x1, 1)) (hva : va.category = 1) (hvb : vb.category = 1) (ht : pc + 1 = t) (kk : J G p l e R s m args below meth c nL cells slots Q I t lc (va :: vb :: va :: st)) : J G p l e R s m args below meth c nL cells slots Q I pc lc (va :: vb :: st) := by
  subst ht
  intro H locs ls h1 h2 h3
  exact lv_dup_x1 hX.1 hX.2.1 hdg hva hvb (kk H locs ls h1 h2 h3)

theorem J_dup2 (hX : FX G own cc nL p s m args c) {va vb : Value} (hdg : decode cc pc = .ok (.dup2, 1)) (hva : va.category = 1) (hvb : vb.category = 1) (ht : pc + 1 = t) (kk : J G p l e R s m args below meth c nL cells slots Q I t lc (va :: vb :: va :: vb :: st)) : J G p l e R s m args below meth c nL cells slots Q I pc lc (va :: vb :: st) := by
  subst ht
  intro H locs ls h1 h2 h3
  exact lv_dup2_11 hX.1 hX.2.1 hdg hva hvb (kk H locs ls h1 h2 h3)

theorem J_if_eq (hX : FX G own cc nL p s m args c) {x : Int32} {off : Int} {tgt : Nat} (hdg : decode cc pc = .ok (.ifCond .eq off, 3)) (hg : (pc : Int) + off = (tgt : Int)) (ht : pc + 3 = t) (kt : x = 0 → J G p l e R s m args below meth c nL cells slots Q I tgt lc st) (kf : ¬ x = 0 → J G p l e R s m args below meth c nL cells slots Q I t lc st) : J G p l e R s m args below meth c nL cells slots Q I pc lc (.int x :: st) := by
  subst ht
  intro H locs ls h1 h2 h3
  exact lv_if_eq hX.1 hX.2.1 hdg hg (fun z => kt z H locs ls h1 h2 h3) (fun z => kf z H locs ls h1 h2 h3)

theorem J_icmp_eq (hX : FX G own cc nL p s m args c) {x y : Int32} {off : Int} {tgt : Nat} (hdg : decode cc pc = .ok (.if_icmp .eq off, 3)) (hg : (pc : Int) + off = (tgt : Int)) (ht : pc + 3 = t) (kt : x = y → J G p l e R s m args below meth c nL cells slots Q I tgt lc st) (kf : ¬ x = y → J G p l e R s m args below meth c nL cells slots Q I t lc st) : J G p l e R s m args below meth c nL cells slots Q I pc lc (.int y :: .int x :: st) := by
  subst ht
  intro H locs ls h1 h2 h3
  exact lv_icmp_eq hX.1 hX.2.1 hdg hg (fun z => kt z H locs ls h1 h2 h3) (fun z => kf z H locs ls h1 h2 h3)

theorem J_if_ne (hX : FX G own cc nL p s m args c) {x : Int32} {off : Int} {tgt : Nat} (hdg : decode cc pc = .ok (.ifCond .ne off, 3)) (hg : (pc : Int) + off = (tgt : Int)) (ht : pc + 3 = t) (kt : ¬ x = 0 → J G p l e R s m args below meth c nL cells slots Q I tgt lc st) (kf : x = 0 → J G p l e R s m args below meth c nL cells slots Q I t lc st) : J G p l e R s m args below meth c nL cells slots Q I pc lc (.int x :: st) := by
  subst ht
  intro H locs ls h1 h2 h3
  exact lv_if_ne hX.1 hX.2.1 hdg hg (fun z => kt z H locs ls h1 h2 h3) (fun z => kf z H locs ls h1 h2 h3)

theorem J_icmp_ne (hX : FX G own cc nL p s m args c) {x y : Int32} {off : Int} {tgt : Nat} (hdg : decode cc pc = .ok (.if_icmp .ne off, 3)) (hg : (pc : Int) + off = (tgt : Int)) (ht : pc + 3 = t) (kt : ¬ x = y → J G p l e R s m args below meth c nL cells slots Q I tgt lc st) (kf : x = y → J G p l e R s m args below meth c nL cells slots Q I t lc st) : J G p l e R s m args below meth c nL cells slots Q I pc lc (.int y :: .int x :: st) := by
  subst ht
  intro H locs ls h1 h2 h3
  exact lv_icmp_ne hX.1 hX.2.1 hdg hg (fun z => kt z H locs ls h1 h2 h3) (fun z => kf z H locs ls h1 h2 h3)

theorem J_if_lt (hX : FX G own cc nL p s m args c) {x : Int32} {off : Int} {tgt : Nat} (hdg : decode cc pc = .ok (.ifCond .lt off, 3)) (hg : (pc : Int) + off = (tgt : Int)) (ht : pc + 3 = t) (kt : x < 0 → J G p l e R s m args below meth c nL cells slots Q I tgt lc st) (kf : ¬ x < 0 → J G p l e R s m args below meth c nL cells slots Q I t lc st) : J G p l e R s m args below meth c nL cells slots Q I pc lc (.int x :: st) := by
  subst ht
  intro H locs ls h1 h2 h3
  exact lv_if_lt hX.1 hX.2.1 hdg hg (fun z => kt z H locs ls h1 h2 h3) (fun z => kf z H locs ls h1 h2 h3)

theorem J_icmp_lt (hX : FX G own cc nL p s m args c) {x y : Int32} {off : Int} {tgt : Nat} (hdg : decode cc pc = .ok (.if_icmp .lt off, 3)) (hg : (pc : Int) + off = (tgt : Int)) (ht : pc + 3 = t) (kt : x < y → J G p l e R s m args below meth c nL cells slots Q I tgt lc st) (kf : ¬ x < y → J G p l e R s m args below meth c nL cells slots Q I t lc st) : J G p l e R s m args below meth c nL cells slots Q I pc lc (.int y :: .int x :: st) := by
  subst ht
  intro H locs ls h1 h2 h3
  exact lv_icmp_lt hX.1 hX.2.1 hdg hg (fun z => kt z H locs ls h1 h2 h3) (fun z => kf z H locs ls h1 h2 h3)

theorem J_if_ge (hX : FX G own cc nL p s m args c) {x : Int32} {off : Int} {tgt : Nat} (hdg : decode cc pc = .ok (.ifCond .ge off, 3)) (hg : (pc : Int) + off = (tgt : Int)) (ht : pc + 3 = t) (kt : 0 ≤ x → J G p l e R s m args below meth c nL cells slots Q I tgt lc st) (kf : ¬ 0 ≤ x → J G p l e R s m args below meth c nL cells slots Q I t lc st) : J G p l e R s m args below meth c nL cells slots Q I pc lc (.int x :: st) := by
  subst ht
  intro H locs ls h1 h2 h3
  exact lv_if_ge hX.1 hX.2.1 hdg hg (fun z => kt z H locs ls h1 h2 h3) (fun z => kf z H locs ls h1 h2 h3)

theorem J_icmp_ge (hX : FX G own cc nL p s m args c) {x y : Int32} {off : Int} {tgt : Nat} (hdg : decode cc pc = .ok (.if_icmp .ge off, 3)) (hg : (pc : Int) + off = (tgt : Int)) (ht : pc + 3 = t) (kt : y ≤ x → J G p l e R s m args below meth c nL cells slots Q I tgt lc st) (kf : ¬ y ≤ x → J G p l e R s m args below meth c nL cells slots Q I t lc st) : J G p l e R s m args below meth c nL cells slots Q I pc lc (.int y :: .int x :: st) := by
  subst ht
  intro H locs ls h1 h2 h3
  exact lv_icmp_ge hX.1 hX.2.1 hdg hg (fun z => kt z H locs ls h1 h2 h3) (fun z => kf z H locs ls h1 h2 h3)

theorem J_if_gt (hX : FX G own cc nL p s m args c) {x : Int32} {off : Int} {tgt : Nat} (hdg : decode cc pc = .ok (.ifCond .gt off, 3)) (hg : (pc : Int) + off = (tgt : Int)) (ht : pc + 3 = t) (kt : 0 < x → J G p l e R s m args below meth c nL cells slots Q I tgt lc st) (kf : ¬ 0 < x → J G p l e R s m args below meth c nL cells slots Q I t lc st) : J G p l e R s m args below meth c nL cells slots Q I pc lc (.int x :: st) := by
  subst ht
  intro H locs ls h1 h2 h3
  exact lv_if_gt hX.1 hX.2.1 hdg hg (fun z => kt z H locs ls h1 h2 h3) (fun z => kf z H locs ls h1 h2 h3)

theorem J_icmp_gt (hX : FX G own cc nL p s m args c) {x y : Int32} {off : Int} {tgt : Nat} (hdg : decode cc pc = .ok (.if_icmp .gt off, 3)) (hg : (pc : Int) + off = (tgt : Int)) (ht : pc + 3 = t) (kt : y < x → J G p l e R s m args below meth c nL cells slots Q I tgt lc st) (kf : ¬ y < x → J G p l e R s m args below meth c nL cells slots Q I t lc st) : J G p l e R s m args below meth c nL cells slots Q I pc lc (.int y :: .int x :: st) := by
  subst ht
  intro H locs ls h1 h2 h3
  exact lv_icmp_gt hX.1 hX.2.1 hdg hg (fun z => kt z H locs ls h1 h2 h3) (fun z => kf z H locs ls h1 h2 h3)

theorem J_if_le (hX : FX G own cc nL p s m args c) {x : Int32} {off : Int} {tgt : Nat} (hdg : decode cc pc = .ok (.ifCond .le off, 3)) (hg : (pc : Int) + off = (tgt : Int)) (ht : pc + 3 = t) (kt : x ≤ 0 → J G p l e R s m args below meth c nL cells slots Q I tgt lc st) (kf : ¬ x ≤ 0 → J G p l e R s m args below meth c nL cells slots Q I t lc st) : J G p l e R s m args below meth c nL cells slots Q I pc lc (.int x :: st) := by
  subst ht
  intro H locs ls h1 h2 h3
  exact lv_if_le hX.1 hX.2.1 hdg hg (fun z => kt z H locs ls h1 h2 h3) (fun z => kf z H locs ls h1 h2 h3)

theorem J_icmp_le (hX : FX G own cc nL p s m args c) {x y : Int32} {off : Int} {tgt : Nat} (hdg : decode cc pc = .ok (.if_icmp .le off, 3)) (hg : (pc : Int) + off = (tgt : Int)) (ht : pc + 3 = t) (kt : x ≤ y → J G p l e R s m args below meth c nL cells slots Q I tgt lc st) (kf : ¬ x ≤ y → J G p l e R s m args below meth c nL cells slots Q I t lc st) : J G p l e R s m args below meth c nL cells slots Q I pc lc (.int y :: .int x :: st) := by
  subst ht
  intro H locs ls h1 h2 h3
  exact lv_icmp_le hX.1 hX.2.1 hdg hg (fun z => kt z H locs ls h1 h2 h3) (fun z => kf z H locs ls h1 h2 h3)

theorem J_acmp_eq (hX : FX G own cc nL p s m args c) {x y : Nat} {off : Int} {tgt : Nat} (hdg : decode cc pc = .ok (.if_acmp .eq off, 3)) (hg : (pc : Int) + off = (tgt : Int)) (ht : pc + 3 = t) (kt : x = y → J G p l e R s m args below meth c nL cells slots Q I tgt lc st) (kf : ¬ x = y → J G p l e R s m args below meth c nL cells slots Q I t lc st) : J G p l e R s m args below meth c nL cells slots Q I pc lc (.ref y :: .ref x :: st) := by
  subst ht
  intro H locs ls h1 h2 h3
  exact (fun a b c d f g => lv_acmp_eq (rx := some x) (ry := some y) a b c d (fun z => f (Option.some.inj z)) (fun z => g (fun w => z (congrArg some w)))) hX.1 hX.2.1 hdg hg (fun z => kt z H locs ls h1 h2 h3) (fun z => kf z H locs ls h1 h2 h3)

theorem J_acmp_ne (hX : FX G own cc nL p s m args c) {x y : Nat} {off : Int} {tgt : Nat} (hdg : decode cc pc = .ok (.if_acmp .ne off, 3)) (hg : (pc : Int) + off = (tgt : Int)) (ht : pc + 3 = t) (kt : ¬ x = y → J G p l e R s m args below meth c nL cells slots Q I tgt lc st) (kf : x = y → J G p l e R s m args below meth c nL cells slots Q I t lc st) : J G p l e R s m args below meth c nL cells slots Q I pc lc (.ref y :: .ref x :: st) := by
  subst ht
  intro H locs ls h1 h2 h3
  exact (fun a b c d f g => lv_acmp_ne (rx := some x) (ry := some y) a b c d (fun z => f (fun w => z (congrArg some w))) (fun z => g (Option.some.inj z))) hX.1 hX.2.1 hdg hg (fun z => kt z H locs ls h1 h2 h3) (fun z => kf z H locs ls h1 h2 h3)

theorem J_goto (hX : FX G own cc nL p s m args c) {off : Int} {tgt : Nat} (hdg : decode cc pc = .ok (.goto off, 3)) (hg : (pc : Int) + off = (tgt : Int)) (kk : J G p l e R s m args below meth c nL cells slots Q I tgt lc st) : J G p l e R s m args below meth c nL cells slots Q I pc lc st := fun H locs ls h1 h2 h3 => lv_goto hX.1 hX.2.1 hdg hg (kk H locs ls h1 h2 h3)

theorem J_ldc2 (hX : FX G own cc nL p s m args c) {index : Nat} {v : Int64} (hdg : decode cc pc = .ok (.ldc2_w index, 3)) (hw : Cond.constantLong own index v ∈ WALL) (ht : pc + 3 = t) (kk : J G p l e R s m args below meth c nL cells slots Q I t lc (.long v :: st)) : J G p l e R s m args below meth c nL cells slots Q I pc lc st := by
  subst ht
  intro H locs ls h1 h2 h3
  exact lv_ldc2 hX.1 hX.2.1 hX.2.2.2.1 (hX.2.2.2.2.1 _ hw) hdg (kk H locs ls h1 h2 h3)

theorem J_sub {lc2 : List (Nat × Value)} (ks : List Nat) (hl : lv_pick lc ks = lc2) (kk : J G p l e R s m args below meth c nL cells slots Q I pc lc2 st) : J G p l e R s m args below meth c nL cells slots Q I pc lc st := fun H locs ls h1 h2 h3 => kk H locs ls (lv_sub h1 ks hl) h2 h3

end JR
