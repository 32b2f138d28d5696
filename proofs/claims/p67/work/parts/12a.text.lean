abbrev rmX9_behindSpaces : Room := { frames := 0, cells := 0, slots := 0, locals := 0 }
theorem miX9_behindSpaces : MI yX9_behindSpaces cX9_behindSpaces 3 (some .int) 1 := ⟨q_915, q_137, by decide +kernel, by decide +kernel, by decide +kernel, by decide +kernel⟩
theorem mvX9_behindSpaces : MV yX9_behindSpaces := ⟨q_914, q_3⟩
def FX9_behindSpaces_L2 (n : Nat) : Nat → Wd → Int32 → Int32 → Option (Int32)
  | 0 => fun _ _ _ => none
  | k + 1 => fun w l1 l2 =>
    if (w 10).1 0 6 ≤ l2 then
      some l2
    else
      gd (inb l2 600) <|
      if (w 10).1 1 l2.toNatClampNeg = 32 then
        FX9_behindSpaces_L2 n k w l1 (l2 + 1)
      else
        gd (inb l2 600) <|
        if (w 10).1 1 l2.toNatClampNeg = 10 then
          FX9_behindSpaces_L2 n k w l1 (l2 + 1)
        else
          some l2
set_option maxHeartbeats 4000000 in
set_option maxRecDepth 100000 in
theorem LX9_behindSpaces_2 {G : GG} {l : Launch} {p : Program} {e : Env} {s : State} {m : MethodId} {args : Array Value} {below : List Frame} {meth : Method} {c : Code} (hX : FX G RX9 cX9_behindSpaces 3 p s m args c) (hR : meth.sig.returnType = (some .int)) (hlk : meth.locks = false) {rx : Int32} (n : Nat) : ∀ (k : Nat) (w : Wd) (l1 : Int32) (l2 : Int32) , FX9_behindSpaces_L2 n k w l1 l2 = some rx → J G p l e rmX9_behindSpaces s m args below meth c 3 0 0 (MQ below (QV G (some (.int rx)) w) args s 0 0 (gA G)) (GH G w) 2 [(0, .ref (adr G 10 0)), (1, .int l1), (2, .int l2)] [] := by
  intro k
  induction k with
  | zero => intro w l1 l2  hF; cases hF
  | succ k ih =>
    intro w l1 l2  hF
    simp only [FX9_behindSpaces_L2] at hF
    refine J_iload_n hX dX9_behindSpaces_2 2 rfl (t := 3) rfl ?_
    refine J_aload_n hX dX9_behindSpaces_3 0 rfl (t := 4) rfl ?_
    refine J_get hX cb7 kText 6 (by decide) q_191 rfl dX9_behindSpaces_4 (t := 7) rfl ?_
    refine J_icmp_ge (tgt := 38) hX dX9_behindSpaces_7 (by decide) (t := 10) rfl (fun z => ?_) (fun z => ?_)
    · replace hF := it_t hF z
      refine J_iload_n hX dX9_behindSpaces_38 2 rfl (t := 39) rfl ?_
      replace hF := Option.some.inj hF
      subst hF
      exact J_iret hX hR hlk dX9_behindSpaces_39
    · replace hF := it_f hF z
      refine J_aload_n hX dX9_behindSpaces_10 0 rfl (t := 11) rfl ?_
      refine J_get hX cb7 kText 0 (by decide) q_184 rfl dX9_behindSpaces_11 (t := 14) rfl ?_
      refine J_iload_n hX dX9_behindSpaces_14 2 rfl (t := 15) rfl ?_
      obtain ⟨g1, hF⟩ := gd_e hF
      refine J_bald hX kBytes g1 rfl dX9_behindSpaces_15 (t := 16) rfl ?_
      refine J_bipush (v := 32) hX dX9_behindSpaces_16 (by decide) (t := 18) rfl ?_
      refine J_icmp_eq (tgt := 32) hX dX9_behindSpaces_18 (by decide) (t := 21) rfl (fun z => ?_) (fun z => ?_)
      · replace hF := it_t hF z
        refine J_iinc (v := l2 + 1) (lc2 := [(2, .int (l2 + 1)), (0, .ref (adr G 10 0)), (1, .int l1)]) hX dX9_behindSpaces_32 2 rfl rfl (Nat.le_of_ble_eq_true rfl) rfl (t := 35) rfl ?_
        refine J_goto (tgt := 2) hX dX9_behindSpaces_35 (by decide) ?_
        refine J_sub (lc2 := [(0, .ref (adr G 10 0)), (1, .int l1), (2, .int (l2 + 1))]) [1, 2, 0] rfl ?_
        exact ih w l1 (l2 + 1) hF
      · replace hF := it_f hF z
        refine J_aload_n hX dX9_behindSpaces_21 0 rfl (t := 22) rfl ?_
        refine J_get hX cb7 kText 0 (by decide) q_184 rfl dX9_behindSpaces_22 (t := 25) rfl ?_
        refine J_iload_n hX dX9_behindSpaces_25 2 rfl (t := 26) rfl ?_
        obtain ⟨g2, hF⟩ := gd_e hF
        refine J_bald hX kBytes g2 rfl dX9_behindSpaces_26 (t := 27) rfl ?_
        refine J_bipush (v := 10) hX dX9_behindSpaces_27 (by decide) (t := 29) rfl ?_
        refine J_icmp_ne (tgt := 38) hX dX9_behindSpaces_29 (by decide) (t := 32) rfl (fun z => ?_) (fun z => ?_)
        · replace hF := it_f hF z
          refine J_iload_n hX dX9_behindSpaces_38 2 rfl (t := 39) rfl ?_
          replace hF := Option.some.inj hF
          subst hF
          exact J_iret hX hR hlk dX9_behindSpaces_39
        · replace hF := it_t hF z
          refine J_iinc (v := l2 + 1) (lc2 := [(2, .int (l2 + 1)), (0, .ref (adr G 10 0)), (1, .int l1)]) hX dX9_behindSpaces_32 2 rfl rfl (Nat.le_of_ble_eq_true rfl) rfl (t := 35) rfl ?_
          refine J_goto (tgt := 2) hX dX9_behindSpaces_35 (by decide) ?_
          refine J_sub (lc2 := [(0, .ref (adr G 10 0)), (1, .int l1), (2, .int (l2 + 1))]) [1, 2, 0] rfl ?_
          exact ih w l1 (l2 + 1) hF
def FX9_behindSpaces (n : Nat) (w : Wd) (p1 : Int32) : Option (Int32) :=
  FX9_behindSpaces_L2 n n w p1 p1
set_option maxHeartbeats 4000000 in
set_option maxRecDepth 100000 in
theorem ctX9_behindSpaces {G : GG} {l : Launch} (w : Wd) (p1 : Int32)  (n : Nat) {rx : Int32} (hF : FX9_behindSpaces n w p1 = some rx) : CT G l yX9_behindSpaces cX9_behindSpaces 3 (some .int) rmX9_behindSpaces 0 0 [.ref (adr G 10 0), .int p1] w (some (.int rx)) w := by
  refine CT.of miX9_behindSpaces [(0, .ref (adr G 10 0)), (1, .int p1)] rfl (Nat.le_of_ble_eq_true rfl) ?_
  intro p e s m args below meth c hX hR hlk
  have hX : FX G RX9 cX9_behindSpaces 3 p s m args c := hX
  unfold FX9_behindSpaces at hF
  refine J_iload_n hX dX9_behindSpaces_0 1 rfl (t := 1) rfl ?_
  refine J_istore_n (lc2 := [(2, .int p1), (0, .ref (adr G 10 0)), (1, .int p1)]) hX dX9_behindSpaces_1 rfl (Nat.le_of_ble_eq_true rfl) rfl (t := 2) rfl ?_
  refine J_sub (lc2 := [(0, .ref (adr G 10 0)), (1, .int p1), (2, .int p1)]) [1, 2, 0] rfl ?_
  exact LX9_behindSpaces_2 hX hR hlk n n w p1 p1 hF
abbrev rmX9_nameIn : Room := { frames := 1, cells := 0, slots := 0, locals := 22 }
theorem miX9_nameIn : MI yX9_nameIn cX9_nameIn 6 (some .long) 2 := ⟨q_653, q_137, by decide +kernel, by decide +kernel, by decide +kernel, by decide +kernel⟩
theorem mvX9_nameIn : MV yX9_nameIn := ⟨q_652, q_0⟩
def FX9_nameIn_L19 (n : Nat) : Nat → Wd → Int32 → Int32 → Int64 → Int32 → Option (Int64)
  | 0 => fun _ _ _ _ _ => none
  | k + 1 => fun w l1 l2 l3 l5 =>
    if l2 ≤ l5 then
      some (l3 <<< ((8 * ((8 - l2) + l1)).toInt64 &&& 63))
    else
      gd (inb l5 600) <|
      bnd (FX12_isLetter ((w 10).1 1 l5.toNatClampNeg)) fun x6 =>
      if x6 = true then
        gd (inb l5 600) <|
        FX9_nameIn_L19 n k w l1 l2 ((l3 <<< ((8 : Int32).toInt64 &&& 63)) ||| (((w 10).1 1 l5.toNatClampNeg).toInt64)) (l5 + 1)
      else
        some 0
set_option maxHeartbeats 4000000 in
set_option maxRecDepth 100000 in
theorem LX9_nameIn_19 {G : GG} {l : Launch} {p : Program} {e : Env} {s : State} {m : MethodId} {args : Array Value} {below : List Frame} {meth : Method} {c : Code} (hX : FX G RX9 cX9_nameIn 6 p s m args c) (hR : meth.sig.returnType = (some .long)) (hlk : meth.locks = false) {rx : Int64} (n : Nat) : ∀ (k : Nat) (w : Wd) (l1 : Int32) (l2 : Int32) (l3 : Int64) (l5 : Int32) , FX9_nameIn_L19 n k w l1 l2 l3 l5 = some rx → J G p l e rmX9_nameIn s m args below meth c 6 0 0 (MQ below (QV G (some (.long rx)) w) args s 0 0 (gA G)) (GH G w) 19 [(0, .ref (adr G 10 0)), (1, .int l1), (2, .int l2), (3, .long l3), (5, .int l5)] [] := by
  intro k
  induction k with
  | zero => intro w l1 l2 l3 l5  hF; cases hF
  | succ k ih =>
    intro w l1 l2 l3 l5  hF
    simp only [FX9_nameIn_L19] at hF
    refine J_iload hX dX9_nameIn_19 4 rfl (t := 21) rfl ?_
    refine J_iload_n hX dX9_nameIn_21 2 rfl (t := 22) rfl ?_
    refine J_icmp_ge (tgt := 60) hX dX9_nameIn_22 (by decide) (t := 25) rfl (fun z => ?_) (fun z => ?_)
    · replace hF := it_t hF z
      refine J_lload_n hX dX9_nameIn_60 3 rfl (t := 61) rfl ?_
      refine J_bipush (v := 8) hX dX9_nameIn_61 (by decide) (t := 63) rfl ?_
      refine J_bipush (v := 8) hX dX9_nameIn_63 (by decide) (t := 65) rfl ?_
      refine J_iload_n hX dX9_nameIn_65 2 rfl (t := 66) rfl ?_
      refine J_isub hX dX9_nameIn_66 (t := 67) rfl ?_
      refine J_iload_n hX dX9_nameIn_67 1 rfl (t := 68) rfl ?_
      refine J_iadd hX dX9_nameIn_68 (t := 69) rfl ?_
      refine J_imul hX dX9_nameIn_69 (t := 70) rfl ?_
      refine J_lshl hX dX9_nameIn_70 (t := 71) rfl ?_
      replace hF := Option.some.inj hF
      subst hF
      exact J_lret hX hR hlk dX9_nameIn_71
    · replace hF := it_f hF z
      refine J_aload_n hX dX9_nameIn_25 0 rfl (t := 26) rfl ?_
      refine J_get hX cb7 kText 0 (by decide) q_184 rfl dX9_nameIn_26 (t := 29) rfl ?_
      refine J_iload hX dX9_nameIn_29 4 rfl (t := 31) rfl ?_
      obtain ⟨g4, hF⟩ := gd_e hF
      refine J_bald hX kBytes g4 rfl dX9_nameIn_31 (t := 32) rfl ?_
      obtain ⟨x6, h5, hF⟩ := bnd_e hF
      have k7 := (ctX12_isLetter (l := l) (G := G) (w := w) ((w 10).1 1 l5.toNatClampNeg) h5)
      refine J_callSN hX [.int ((w 10).1 1 l5.toNatClampNeg)] [] [.int (bI x6)] k7 miX12_isLetter q_658 (by simp [nestL]) ⟨rfl, rfl, Nat.le_of_ble_eq_true rfl, Nat.le_of_ble_eq_true rfl⟩ rfl rfl (Nat.le_of_ble_eq_true rfl) ⟨Nat.le_of_ble_eq_true rfl, Nat.le_of_ble_eq_true rfl⟩ dX9_nameIn_32 (t := 35) rfl rfl ?_
      refine J_ifZ_ne (tgt := 40) hX dX9_nameIn_35 (by decide) (t := 38) rfl (fun z => ?_) (fun z => ?_)
      · replace hF := it_t hF z
        refine J_lload_n hX dX9_nameIn_40 3 rfl (t := 41) rfl ?_
        refine J_bipush (v := 8) hX dX9_nameIn_41 (by decide) (t := 43) rfl ?_
        refine J_lshl hX dX9_nameIn_43 (t := 44) rfl ?_
        refine J_aload_n hX dX9_nameIn_44 0 rfl (t := 45) rfl ?_
        refine J_get hX cb7 kText 0 (by decide) q_184 rfl dX9_nameIn_45 (t := 48) rfl ?_
        refine J_iload hX dX9_nameIn_48 4 rfl (t := 50) rfl ?_
        obtain ⟨g8, hF⟩ := gd_e hF
        refine J_bald hX kBytes g8 rfl dX9_nameIn_50 (t := 51) rfl ?_
        refine J_i2l hX dX9_nameIn_51 (t := 52) rfl ?_
        refine J_lor hX dX9_nameIn_52 (t := 53) rfl ?_
        refine J_lstore_n (lc2 := [(3, .long ((l3 <<< ((8 : Int32).toInt64 &&& 63)) ||| (((w 10).1 1 l5.toNatClampNeg).toInt64))), (0, .ref (adr G 10 0)), (1, .int l1), (2, .int l2), (5, .int l5)]) hX dX9_nameIn_53 rfl (Nat.le_of_ble_eq_true rfl) rfl (t := 54) rfl ?_
        refine J_iinc (v := l5 + 1) (lc2 := [(5, .int (l5 + 1)), (3, .long ((l3 <<< ((8 : Int32).toInt64 &&& 63)) ||| (((w 10).1 1 l5.toNatClampNeg).toInt64))), (0, .ref (adr G 10 0)), (1, .int l1), (2, .int l2)]) hX dX9_nameIn_54 4 rfl rfl (Nat.le_of_ble_eq_true rfl) rfl (t := 57) rfl ?_
        refine J_goto (tgt := 19) hX dX9_nameIn_57 (by decide) ?_
        refine J_sub (lc2 := [(0, .ref (adr G 10 0)), (1, .int l1), (2, .int l2), (3, .long ((l3 <<< ((8 : Int32).toInt64 &&& 63)) ||| (((w 10).1 1 l5.toNatClampNeg).toInt64))), (5, .int (l5 + 1))]) [2, 3, 4, 1, 0] rfl ?_
        exact ih w l1 l2 ((l3 <<< ((8 : Int32).toInt64 &&& 63)) ||| (((w 10).1 1 l5.toNatClampNeg).toInt64)) (l5 + 1) hF
      · replace hF := ib_f hF z
        refine J_lconst (v := 0) hX dX9_nameIn_38 (by decide) (t := 39) rfl ?_
        replace hF := Option.some.inj hF
        subst hF
        exact J_lret hX hR hlk dX9_nameIn_39
def FX9_nameIn (n : Nat) (w : Wd) (p1 : Int32) (p2 : Int32) : Option (Int64) :=
  bnd (FX12_isWithin (p2 - p1) 1 8) fun x2 =>
  if x2 = true then
    FX9_nameIn_L19 n n w p1 p2 0 p1
  else
    some 0
set_option maxHeartbeats 4000000 in
set_option maxRecDepth 100000 in
theorem ctX9_nameIn {G : GG} {l : Launch} (w : Wd) (p1 : Int32) (p2 : Int32)  (n : Nat) {rx : Int64} (hF : FX9_nameIn n w p1 p2 = some rx) : CT G l yX9_nameIn cX9_nameIn 6 (some .long) rmX9_nameIn 0 0 [.ref (adr G 10 0), .int p1, .int p2] w (some (.long rx)) w := by
  refine CT.of miX9_nameIn [(0, .ref (adr G 10 0)), (1, .int p1), (2, .int p2)] rfl (Nat.le_of_ble_eq_true rfl) ?_
  intro p e s m args below meth c hX hR hlk
  have hX : FX G RX9 cX9_nameIn 6 p s m args c := hX
  unfold FX9_nameIn at hF
  refine J_iload_n hX dX9_nameIn_0 2 rfl (t := 1) rfl ?_
  refine J_iload_n hX dX9_nameIn_1 1 rfl (t := 2) rfl ?_
  refine J_isub hX dX9_nameIn_2 (t := 3) rfl ?_
  refine J_iconst (v := 1) hX dX9_nameIn_3 (by decide) (t := 4) rfl ?_
  refine J_bipush (v := 8) hX dX9_nameIn_4 (by decide) (t := 6) rfl ?_
  obtain ⟨x2, h1, hF⟩ := bnd_e hF
  have k3 := (ctX12_isWithin (l := l) (G := G) (w := w) (p2 - p1) 1 8 h1)
  refine J_callSN hX [.int (p2 - p1), .int 1, .int 8] [] [.int (bI x2)] k3 miX12_isWithin q_655 (by simp [nestL]) ⟨rfl, rfl, Nat.le_of_ble_eq_true rfl, Nat.le_of_ble_eq_true rfl⟩ rfl rfl (Nat.le_of_ble_eq_true rfl) ⟨Nat.le_of_ble_eq_true rfl, Nat.le_of_ble_eq_true rfl⟩ dX9_nameIn_6 (t := 9) rfl rfl ?_
  refine J_ifZ_ne (tgt := 14) hX dX9_nameIn_9 (by decide) (t := 12) rfl (fun z => ?_) (fun z => ?_)
  · replace hF := it_t hF z
    refine J_lconst (v := 0) hX dX9_nameIn_14 (by decide) (t := 15) rfl ?_
    refine J_lstore_n (lc2 := [(3, .long 0), (0, .ref (adr G 10 0)), (1, .int p1), (2, .int p2)]) hX dX9_nameIn_15 rfl (Nat.le_of_ble_eq_true rfl) rfl (t := 16) rfl ?_
    refine J_iload_n hX dX9_nameIn_16 2 rfl (t := 17) rfl ?_
    refine J_istore (lc2 := [(5, .int p1), (3, .long 0), (0, .ref (adr G 10 0)), (1, .int p1), (2, .int p2)]) hX dX9_nameIn_17 (Nat.le_of_ble_eq_true rfl) rfl (t := 19) rfl ?_
    refine J_sub (lc2 := [(0, .ref (adr G 10 0)), (1, .int p1), (2, .int p2), (3, .long 0), (5, .int p1)]) [2, 3, 4, 1, 0] rfl ?_
    exact LX9_nameIn_19 hX hR hlk n n w p1 p2 0 p1 hF
  · replace hF := ib_f hF z
    refine J_lconst (v := 0) hX dX9_nameIn_12 (by decide) (t := 13) rfl ?_
    replace hF := Option.some.inj hF
    subst hF
    exact J_lret hX hR hlk dX9_nameIn_13
abbrev rmX9_behindWord : Room := { frames := 2, cells := 0, slots := 0, locals := 47 }
theorem miX9_behindWord : MI yX9_behindWord cX9_behindWord 3 (some .int) 1 := ⟨q_923, q_137, by decide +kernel, by decide +kernel, by decide +kernel, by decide +kernel⟩
theorem mvX9_behindWord : MV yX9_behindWord := ⟨q_922, q_5⟩
def FX9_behindWord_L2 (n : Nat) : Nat → Wd → Int32 → Int32 → Option (Int32 × Wd)
  | 0 => fun _ _ _ => none
  | k + 1 => fun w l1 l2 =>
    if (w 10).1 0 6 ≤ l2 then
      bo1 (FX9_nameIn n w l1 l2) fun x2 =>
      gd (inb ((w 10).1 0 4) 601) <| bnd (sW w 10 (sL (w 10) 4 (((w 10).1 0 4).toNatClampNeg) x2)) fun w5 =>
      if l2 - l1 ≤ 8 then
        gd (inb ((w5 10).1 0 4) 601) <| bnd (sW w5 10 (sI (w5 10) 2 (((w5 10).1 0 4).toNatClampNeg) 1)) fun w8 =>
        some (l2, w8)
      else
        gd (inb ((w5 10).1 0 4) 601) <| bnd (sW w5 10 (sI (w5 10) 2 (((w5 10).1 0 4).toNatClampNeg) 4)) fun w11 =>
        some (l2, w11)
    else
      gd (inb l2 600) <|
      bnd (FX12_isLetter ((w 10).1 1 l2.toNatClampNeg)) fun x15 =>
      if x15 = true then
        FX9_behindWord_L2 n k w l1 (l2 + 1)
      else
        bo1 (FX9_nameIn n w l1 l2) fun x18 =>
        gd (inb ((w 10).1 0 4) 601) <| bnd (sW w 10 (sL (w 10) 4 (((w 10).1 0 4).toNatClampNeg) x18)) fun w21 =>
        if l2 - l1 ≤ 8 then
          gd (inb ((w21 10).1 0 4) 601) <| bnd (sW w21 10 (sI (w21 10) 2 (((w21 10).1 0 4).toNatClampNeg) 1)) fun w24 =>
          some (l2, w24)
        else
          gd (inb ((w21 10).1 0 4) 601) <| bnd (sW w21 10 (sI (w21 10) 2 (((w21 10).1 0 4).toNatClampNeg) 4)) fun w27 =>
          some (l2, w27)
set_option maxHeartbeats 4000000 in
set_option maxRecDepth 100000 in
theorem LX9_behindWord_2 {G : GG} {l : Launch} {p : Program} {e : Env} {s : State} {m : MethodId} {args : Array Value} {below : List Frame} {meth : Method} {c : Code} (hX : FX G RX9 cX9_behindWord 3 p s m args c) (hR : meth.sig.returnType = (some .int)) (hlk : meth.locks = false) {rx : Int32} {rw : Wd} (n : Nat) : ∀ (k : Nat) (w : Wd) (l1 : Int32) (l2 : Int32) , FX9_behindWord_L2 n k w l1 l2 = some (rx, rw) → J G p l e rmX9_behindWord s m args below meth c 3 0 0 (MQ below (QV G (some (.int rx)) rw) args s 0 0 (gA G)) (GH G w) 2 [(0, .ref (adr G 10 0)), (1, .int l1), (2, .int l2)] [] := by
  intro k
  induction k with
  | zero => intro w l1 l2  hF; cases hF
  | succ k ih =>
    intro w l1 l2  hF
    simp only [FX9_behindWord_L2] at hF
    refine J_iload_n hX dX9_behindWord_2 2 rfl (t := 3) rfl ?_
    refine J_aload_n hX dX9_behindWord_3 0 rfl (t := 4) rfl ?_
    refine J_get hX cb7 kText 6 (by decide) q_191 rfl dX9_behindWord_4 (t := 7) rfl ?_
    refine J_icmp_ge (tgt := 28) hX dX9_behindWord_7 (by decide) (t := 10) rfl (fun z => ?_) (fun z => ?_)
    · replace hF := it_t hF z
      refine J_aload_n hX dX9_behindWord_28 0 rfl (t := 29) rfl ?_
      refine J_get hX cb7 kText 3 (by decide) q_187 rfl dX9_behindWord_29 (t := 32) rfl ?_
      refine J_aload_n hX dX9_behindWord_32 0 rfl (t := 33) rfl ?_
      refine J_get hX cb7 kText 4 (by decide) q_188 rfl dX9_behindWord_33 (t := 36) rfl ?_
      refine J_aload_n hX dX9_behindWord_36 0 rfl (t := 37) rfl ?_
      refine J_iload_n hX dX9_behindWord_37 1 rfl (t := 38) rfl ?_
      refine J_iload_n hX dX9_behindWord_38 2 rfl (t := 39) rfl ?_
      obtain ⟨x2, h1, hF⟩ := bo1_e hF
      have k3 := (ctX9_nameIn (G := G) (l := l) w l1 l2 n h1)
      refine J_callV hX [.int l1, .int l2] [.int ((w 10).1 0 4), .ref (adr G 10 4)] [.long x2, .int ((w 10).1 0 4), .ref (adr G 10 4)] k3 miX9_nameIn mvX9_nameIn cb7 kText q_650 ⟨rfl, rfl, Nat.le_of_ble_eq_true rfl, Nat.le_of_ble_eq_true rfl⟩ rfl rfl (Nat.le_of_ble_eq_true rfl) ⟨Nat.le_of_ble_eq_true rfl, Nat.le_of_ble_eq_true rfl⟩ dX9_behindWord_39 (t := 42) rfl rfl ?_
      obtain ⟨g4, hF⟩ := gd_e hF
      obtain ⟨w5, e6, hF⟩ := bnd_e hF
      refine J_last hX kValues g4 rfl e6 dX9_behindWord_42 (t := 43) rfl ?_
      refine J_aload_n hX dX9_behindWord_43 0 rfl (t := 44) rfl ?_
      refine J_get hX cb7 kText 1 (by decide) q_185 rfl dX9_behindWord_44 (t := 47) rfl ?_
      refine J_aload_n hX dX9_behindWord_47 0 rfl (t := 48) rfl ?_
      refine J_get hX cb7 kText 4 (by decide) q_188 rfl dX9_behindWord_48 (t := 51) rfl ?_
      refine J_iload_n hX dX9_behindWord_51 2 rfl (t := 52) rfl ?_
      refine J_iload_n hX dX9_behindWord_52 1 rfl (t := 53) rfl ?_
      refine J_isub hX dX9_behindWord_53 (t := 54) rfl ?_
      refine J_bipush (v := 8) hX dX9_behindWord_54 (by decide) (t := 56) rfl ?_
      refine J_icmp_le (tgt := 63) hX dX9_behindWord_56 (by decide) (t := 59) rfl (fun z => ?_) (fun z => ?_)
      · replace hF := it_t hF z
        refine J_iconst (v := 1) hX dX9_behindWord_63 (by decide) (t := 64) rfl ?_
        obtain ⟨g7, hF⟩ := gd_e hF
        obtain ⟨w8, e9, hF⟩ := bnd_e hF
        refine J_iast hX kKinds g7 rfl e9 dX9_behindWord_64 (t := 65) rfl ?_
        refine J_iload_n hX dX9_behindWord_65 2 rfl (t := 66) rfl ?_
        replace hF := Option.some.inj hF
        obtain ⟨hF, hF2⟩ := Prod.mk.inj hF
        subst hF
        subst hF2
        exact J_iret hX hR hlk dX9_behindWord_66
      · replace hF := it_f hF z
        refine J_iconst (v := 4) hX dX9_behindWord_59 (by decide) (t := 60) rfl ?_
        refine J_goto (tgt := 64) hX dX9_behindWord_60 (by decide) ?_
        obtain ⟨g10, hF⟩ := gd_e hF
        obtain ⟨w11, e12, hF⟩ := bnd_e hF
        refine J_iast hX kKinds g10 rfl e12 dX9_behindWord_64 (t := 65) rfl ?_
        refine J_iload_n hX dX9_behindWord_65 2 rfl (t := 66) rfl ?_
        replace hF := Option.some.inj hF
        obtain ⟨hF, hF2⟩ := Prod.mk.inj hF
        subst hF
        subst hF2
        exact J_iret hX hR hlk dX9_behindWord_66
    · replace hF := it_f hF z
      refine J_aload_n hX dX9_behindWord_10 0 rfl (t := 11) rfl ?_
      refine J_get hX cb7 kText 0 (by decide) q_184 rfl dX9_behindWord_11 (t := 14) rfl ?_
      refine J_iload_n hX dX9_behindWord_14 2 rfl (t := 15) rfl ?_
      obtain ⟨g13, hF⟩ := gd_e hF
      refine J_bald hX kBytes g13 rfl dX9_behindWord_15 (t := 16) rfl ?_
      obtain ⟨x15, h14, hF⟩ := bnd_e hF
      have k16 := (ctX12_isLetter (l := l) (G := G) (w := w) ((w 10).1 1 l2.toNatClampNeg) h14)
      refine J_callSN hX [.int ((w 10).1 1 l2.toNatClampNeg)] [] [.int (bI x15)] k16 miX12_isLetter q_658 (by simp [nestL]) ⟨rfl, rfl, Nat.le_of_ble_eq_true rfl, Nat.le_of_ble_eq_true rfl⟩ rfl rfl (Nat.le_of_ble_eq_true rfl) ⟨Nat.le_of_ble_eq_true rfl, Nat.le_of_ble_eq_true rfl⟩ dX9_behindWord_16 (t := 19) rfl rfl ?_
      refine J_ifZ_eq (tgt := 28) hX dX9_behindWord_19 (by decide) (t := 22) rfl (fun z => ?_) (fun z => ?_)
      · replace hF := ib_f hF z
        refine J_aload_n hX dX9_behindWord_28 0 rfl (t := 29) rfl ?_
        refine J_get hX cb7 kText 3 (by decide) q_187 rfl dX9_behindWord_29 (t := 32) rfl ?_
        refine J_aload_n hX dX9_behindWord_32 0 rfl (t := 33) rfl ?_
        refine J_get hX cb7 kText 4 (by decide) q_188 rfl dX9_behindWord_33 (t := 36) rfl ?_
        refine J_aload_n hX dX9_behindWord_36 0 rfl (t := 37) rfl ?_
        refine J_iload_n hX dX9_behindWord_37 1 rfl (t := 38) rfl ?_
        refine J_iload_n hX dX9_behindWord_38 2 rfl (t := 39) rfl ?_
        obtain ⟨x18, h17, hF⟩ := bo1_e hF
        have k19 := (ctX9_nameIn (G := G) (l := l) w l1 l2 n h17)
        refine J_callV hX [.int l1, .int l2] [.int ((w 10).1 0 4), .ref (adr G 10 4)] [.long x18, .int ((w 10).1 0 4), .ref (adr G 10 4)] k19 miX9_nameIn mvX9_nameIn cb7 kText q_650 ⟨rfl, rfl, Nat.le_of_ble_eq_true rfl, Nat.le_of_ble_eq_true rfl⟩ rfl rfl (Nat.le_of_ble_eq_true rfl) ⟨Nat.le_of_ble_eq_true rfl, Nat.le_of_ble_eq_true rfl⟩ dX9_behindWord_39 (t := 42) rfl rfl ?_
        obtain ⟨g20, hF⟩ := gd_e hF
        obtain ⟨w21, e22, hF⟩ := bnd_e hF
        refine J_last hX kValues g20 rfl e22 dX9_behindWord_42 (t := 43) rfl ?_
        refine J_aload_n hX dX9_behindWord_43 0 rfl (t := 44) rfl ?_
        refine J_get hX cb7 kText 1 (by decide) q_185 rfl dX9_behindWord_44 (t := 47) rfl ?_
        refine J_aload_n hX dX9_behindWord_47 0 rfl (t := 48) rfl ?_
        refine J_get hX cb7 kText 4 (by decide) q_188 rfl dX9_behindWord_48 (t := 51) rfl ?_
        refine J_iload_n hX dX9_behindWord_51 2 rfl (t := 52) rfl ?_
        refine J_iload_n hX dX9_behindWord_52 1 rfl (t := 53) rfl ?_
        refine J_isub hX dX9_behindWord_53 (t := 54) rfl ?_
        refine J_bipush (v := 8) hX dX9_behindWord_54 (by decide) (t := 56) rfl ?_
        refine J_icmp_le (tgt := 63) hX dX9_behindWord_56 (by decide) (t := 59) rfl (fun z => ?_) (fun z => ?_)
        · replace hF := it_t hF z
          refine J_iconst (v := 1) hX dX9_behindWord_63 (by decide) (t := 64) rfl ?_
          obtain ⟨g23, hF⟩ := gd_e hF
          obtain ⟨w24, e25, hF⟩ := bnd_e hF
          refine J_iast hX kKinds g23 rfl e25 dX9_behindWord_64 (t := 65) rfl ?_
          refine J_iload_n hX dX9_behindWord_65 2 rfl (t := 66) rfl ?_
          replace hF := Option.some.inj hF
          obtain ⟨hF, hF2⟩ := Prod.mk.inj hF
          subst hF
          subst hF2
          exact J_iret hX hR hlk dX9_behindWord_66
        · replace hF := it_f hF z
          refine J_iconst (v := 4) hX dX9_behindWord_59 (by decide) (t := 60) rfl ?_
          refine J_goto (tgt := 64) hX dX9_behindWord_60 (by decide) ?_
          obtain ⟨g26, hF⟩ := gd_e hF
          obtain ⟨w27, e28, hF⟩ := bnd_e hF
          refine J_iast hX kKinds g26 rfl e28 dX9_behindWord_64 (t := 65) rfl ?_
          refine J_iload_n hX dX9_behindWord_65 2 rfl (t := 66) rfl ?_
          replace hF := Option.some.inj hF
          obtain ⟨hF, hF2⟩ := Prod.mk.inj hF
          subst hF
          subst hF2
          exact J_iret hX hR hlk dX9_behindWord_66
      · replace hF := it_t hF z
        refine J_iinc (v := l2 + 1) (lc2 := [(2, .int (l2 + 1)), (0, .ref (adr G 10 0)), (1, .int l1)]) hX dX9_behindWord_22 2 rfl rfl (Nat.le_of_ble_eq_true rfl) rfl (t := 25) rfl ?_
        refine J_goto (tgt := 2) hX dX9_behindWord_25 (by decide) ?_
        refine J_sub (lc2 := [(0, .ref (adr G 10 0)), (1, .int l1), (2, .int (l2 + 1))]) [1, 2, 0] rfl ?_
        exact ih w l1 (l2 + 1) hF
def FX9_behindWord (n : Nat) (w : Wd) (p1 : Int32) : Option (Int32 × Wd) :=
  FX9_behindWord_L2 n n w p1 p1
set_option maxHeartbeats 4000000 in
set_option maxRecDepth 100000 in
theorem ctX9_behindWord {G : GG} {l : Launch} (w : Wd) (p1 : Int32)  (n : Nat) {rx : Int32} {rw : Wd} (hF : FX9_behindWord n w p1 = some (rx, rw)) : CT G l yX9_behindWord cX9_behindWord 3 (some .int) rmX9_behindWord 0 0 [.ref (adr G 10 0), .int p1] w (some (.int rx)) rw := by
  refine CT.of miX9_behindWord [(0, .ref (adr G 10 0)), (1, .int p1)] rfl (Nat.le_of_ble_eq_true rfl) ?_
  intro p e s m args below meth c hX hR hlk
  have hX : FX G RX9 cX9_behindWord 3 p s m args c := hX
  unfold FX9_behindWord at hF
  refine J_iload_n hX dX9_behindWord_0 1 rfl (t := 1) rfl ?_
  refine J_istore_n (lc2 := [(2, .int p1), (0, .ref (adr G 10 0)), (1, .int p1)]) hX dX9_behindWord_1 rfl (Nat.le_of_ble_eq_true rfl) rfl (t := 2) rfl ?_
  refine J_sub (lc2 := [(0, .ref (adr G 10 0)), (1, .int p1), (2, .int p1)]) [1, 2, 0] rfl ?_
  exact LX9_behindWord_2 hX hR hlk n n w p1 p1 hF
abbrev rmX9_behindNumber : Room := { frames := 1, cells := 0, slots := 0, locals := 20 }
theorem miX9_behindNumber : MI yX9_behindNumber cX9_behindNumber 5 (some .int) 1 := ⟨q_930, q_137, by decide +kernel, by decide +kernel, by decide +kernel, by decide +kernel⟩
theorem mvX9_behindNumber : MV yX9_behindNumber := ⟨q_929, q_6⟩
def FX9_behindNumber_L4 (n : Nat) : Nat → Wd → Int32 → Int32 → Int64 → Option (Int32 × Wd)
  | 0 => fun _ _ _ _ => none
  | k + 1 => fun w l1 l2 l3 =>
    if (w 10).1 0 6 ≤ l2 then
      gd (inb ((w 10).1 0 4) 601) <| bnd (sW w 10 (sL (w 10) 4 (((w 10).1 0 4).toNatClampNeg) l3)) fun w2 =>
      if l2 - l1 ≤ 4 then
        gd (inb ((w2 10).1 0 4) 601) <| bnd (sW w2 10 (sI (w2 10) 2 (((w2 10).1 0 4).toNatClampNeg) 2)) fun w5 =>
        some (l2, w5)
      else
        gd (inb ((w2 10).1 0 4) 601) <| bnd (sW w2 10 (sI (w2 10) 2 (((w2 10).1 0 4).toNatClampNeg) 4)) fun w8 =>
        some (l2, w8)
    else
      gd (inb l2 600) <|
      bnd (FX12_isDigit ((w 10).1 1 l2.toNatClampNeg)) fun x12 =>
      if x12 = true then
        gd (inb l2 600) <|
        FX9_behindNumber_L4 n k w l1 (l2 + 1) (((l3 * 10) + (((w 10).1 1 l2.toNatClampNeg).toInt64)) - 48)
      else
        gd (inb ((w 10).1 0 4) 601) <| bnd (sW w 10 (sL (w 10) 4 (((w 10).1 0 4).toNatClampNeg) l3)) fun w15 =>
        if l2 - l1 ≤ 4 then
          gd (inb ((w15 10).1 0 4) 601) <| bnd (sW w15 10 (sI (w15 10) 2 (((w15 10).1 0 4).toNatClampNeg) 2)) fun w18 =>
          some (l2, w18)
        else
          gd (inb ((w15 10).1 0 4) 601) <| bnd (sW w15 10 (sI (w15 10) 2 (((w15 10).1 0 4).toNatClampNeg) 4)) fun w21 =>
          some (l2, w21)
set_option maxHeartbeats 4000000 in
set_option maxRecDepth 100000 in
theorem LX9_behindNumber_4 {G : GG} {l : Launch} {p : Program} {e : Env} {s : State} {m : MethodId} {args : Array Value} {below : List Frame} {meth : Method} {c : Code} (hX : FX G RX9 cX9_behindNumber 5 p s m args c) (hR : meth.sig.returnType = (some .int)) (hlk : meth.locks = false) {rx : Int32} {rw : Wd} (n : Nat) : ∀ (k : Nat) (w : Wd) (l1 : Int32) (l2 : Int32) (l3 : Int64) , FX9_behindNumber_L4 n k w l1 l2 l3 = some (rx, rw) → J G p l e rmX9_behindNumber s m args below meth c 5 0 0 (MQ below (QV G (some (.int rx)) rw) args s 0 0 (gA G)) (GH G w) 4 [(0, .ref (adr G 10 0)), (1, .int l1), (2, .int l2), (3, .long l3)] [] := by
  intro k
  induction k with
  | zero => intro w l1 l2 l3  hF; cases hF
  | succ k ih =>
    intro w l1 l2 l3  hF
    simp only [FX9_behindNumber_L4] at hF
    refine J_iload_n hX dX9_behindNumber_4 2 rfl (t := 5) rfl ?_
    refine J_aload_n hX dX9_behindNumber_5 0 rfl (t := 6) rfl ?_
    refine J_get hX cb7 kText 6 (by decide) q_191 rfl dX9_behindNumber_6 (t := 9) rfl ?_
    refine J_icmp_ge (tgt := 48) hX dX9_behindNumber_9 (by decide) (t := 12) rfl (fun z => ?_) (fun z => ?_)
    · replace hF := it_t hF z
      refine J_aload_n hX dX9_behindNumber_48 0 rfl (t := 49) rfl ?_
      refine J_get hX cb7 kText 3 (by decide) q_187 rfl dX9_behindNumber_49 (t := 52) rfl ?_
      refine J_aload_n hX dX9_behindNumber_52 0 rfl (t := 53) rfl ?_
      refine J_get hX cb7 kText 4 (by decide) q_188 rfl dX9_behindNumber_53 (t := 56) rfl ?_
      refine J_lload_n hX dX9_behindNumber_56 3 rfl (t := 57) rfl ?_
      obtain ⟨g1, hF⟩ := gd_e hF
      obtain ⟨w2, e3, hF⟩ := bnd_e hF
      refine J_last hX kValues g1 rfl e3 dX9_behindNumber_57 (t := 58) rfl ?_
      refine J_aload_n hX dX9_behindNumber_58 0 rfl (t := 59) rfl ?_
      refine J_get hX cb7 kText 1 (by decide) q_185 rfl dX9_behindNumber_59 (t := 62) rfl ?_
      refine J_aload_n hX dX9_behindNumber_62 0 rfl (t := 63) rfl ?_
      refine J_get hX cb7 kText 4 (by decide) q_188 rfl dX9_behindNumber_63 (t := 66) rfl ?_
      refine J_iload_n hX dX9_behindNumber_66 2 rfl (t := 67) rfl ?_
      refine J_iload_n hX dX9_behindNumber_67 1 rfl (t := 68) rfl ?_
      refine J_isub hX dX9_behindNumber_68 (t := 69) rfl ?_
      refine J_iconst (v := 4) hX dX9_behindNumber_69 (by decide) (t := 70) rfl ?_
      refine J_icmp_le (tgt := 77) hX dX9_behindNumber_70 (by decide) (t := 73) rfl (fun z => ?_) (fun z => ?_)
      · replace hF := it_t hF z
        refine J_iconst (v := 2) hX dX9_behindNumber_77 (by decide) (t := 78) rfl ?_
        obtain ⟨g4, hF⟩ := gd_e hF
        obtain ⟨w5, e6, hF⟩ := bnd_e hF
        refine J_iast hX kKinds g4 rfl e6 dX9_behindNumber_78 (t := 79) rfl ?_
        refine J_iload_n hX dX9_behindNumber_79 2 rfl (t := 80) rfl ?_
        replace hF := Option.some.inj hF
        obtain ⟨hF, hF2⟩ := Prod.mk.inj hF
        subst hF
        subst hF2
        exact J_iret hX hR hlk dX9_behindNumber_80
      · replace hF := it_f hF z
        refine J_iconst (v := 4) hX dX9_behindNumber_73 (by decide) (t := 74) rfl ?_
        refine J_goto (tgt := 78) hX dX9_behindNumber_74 (by decide) ?_
        obtain ⟨g7, hF⟩ := gd_e hF
        obtain ⟨w8, e9, hF⟩ := bnd_e hF
        refine J_iast hX kKinds g7 rfl e9 dX9_behindNumber_78 (t := 79) rfl ?_
        refine J_iload_n hX dX9_behindNumber_79 2 rfl (t := 80) rfl ?_
        replace hF := Option.some.inj hF
        obtain ⟨hF, hF2⟩ := Prod.mk.inj hF
        subst hF
        subst hF2
        exact J_iret hX hR hlk dX9_behindNumber_80
    · replace hF := it_f hF z
      refine J_aload_n hX dX9_behindNumber_12 0 rfl (t := 13) rfl ?_
      refine J_get hX cb7 kText 0 (by decide) q_184 rfl dX9_behindNumber_13 (t := 16) rfl ?_
      refine J_iload_n hX dX9_behindNumber_16 2 rfl (t := 17) rfl ?_
      obtain ⟨g10, hF⟩ := gd_e hF
      refine J_bald hX kBytes g10 rfl dX9_behindNumber_17 (t := 18) rfl ?_
      obtain ⟨x12, h11, hF⟩ := bnd_e hF
      have k13 := (ctX12_isDigit (l := l) (G := G) (w := w) ((w 10).1 1 l2.toNatClampNeg) h11)
      refine J_callSN hX [.int ((w 10).1 1 l2.toNatClampNeg)] [] [.int (bI x12)] k13 miX12_isDigit q_925 (by simp [nestL]) ⟨rfl, rfl, Nat.le_of_ble_eq_true rfl, Nat.le_of_ble_eq_true rfl⟩ rfl rfl (Nat.le_of_ble_eq_true rfl) ⟨Nat.le_of_ble_eq_true rfl, Nat.le_of_ble_eq_true rfl⟩ dX9_behindNumber_18 (t := 21) rfl rfl ?_
      refine J_ifZ_eq (tgt := 48) hX dX9_behindNumber_21 (by decide) (t := 24) rfl (fun z => ?_) (fun z => ?_)
      · replace hF := ib_f hF z
        refine J_aload_n hX dX9_behindNumber_48 0 rfl (t := 49) rfl ?_
        refine J_get hX cb7 kText 3 (by decide) q_187 rfl dX9_behindNumber_49 (t := 52) rfl ?_
        refine J_aload_n hX dX9_behindNumber_52 0 rfl (t := 53) rfl ?_
        refine J_get hX cb7 kText 4 (by decide) q_188 rfl dX9_behindNumber_53 (t := 56) rfl ?_
        refine J_lload_n hX dX9_behindNumber_56 3 rfl (t := 57) rfl ?_
        obtain ⟨g14, hF⟩ := gd_e hF
        obtain ⟨w15, e16, hF⟩ := bnd_e hF
        refine J_last hX kValues g14 rfl e16 dX9_behindNumber_57 (t := 58) rfl ?_
        refine J_aload_n hX dX9_behindNumber_58 0 rfl (t := 59) rfl ?_
        refine J_get hX cb7 kText 1 (by decide) q_185 rfl dX9_behindNumber_59 (t := 62) rfl ?_
        refine J_aload_n hX dX9_behindNumber_62 0 rfl (t := 63) rfl ?_
        refine J_get hX cb7 kText 4 (by decide) q_188 rfl dX9_behindNumber_63 (t := 66) rfl ?_
        refine J_iload_n hX dX9_behindNumber_66 2 rfl (t := 67) rfl ?_
        refine J_iload_n hX dX9_behindNumber_67 1 rfl (t := 68) rfl ?_
        refine J_isub hX dX9_behindNumber_68 (t := 69) rfl ?_
        refine J_iconst (v := 4) hX dX9_behindNumber_69 (by decide) (t := 70) rfl ?_
        refine J_icmp_le (tgt := 77) hX dX9_behindNumber_70 (by decide) (t := 73) rfl (fun z => ?_) (fun z => ?_)
        · replace hF := it_t hF z
          refine J_iconst (v := 2) hX dX9_behindNumber_77 (by decide) (t := 78) rfl ?_
          obtain ⟨g17, hF⟩ := gd_e hF
          obtain ⟨w18, e19, hF⟩ := bnd_e hF
          refine J_iast hX kKinds g17 rfl e19 dX9_behindNumber_78 (t := 79) rfl ?_
          refine J_iload_n hX dX9_behindNumber_79 2 rfl (t := 80) rfl ?_
          replace hF := Option.some.inj hF
          obtain ⟨hF, hF2⟩ := Prod.mk.inj hF
          subst hF
          subst hF2
          exact J_iret hX hR hlk dX9_behindNumber_80
        · replace hF := it_f hF z
          refine J_iconst (v := 4) hX dX9_behindNumber_73 (by decide) (t := 74) rfl ?_
          refine J_goto (tgt := 78) hX dX9_behindNumber_74 (by decide) ?_
          obtain ⟨g20, hF⟩ := gd_e hF
          obtain ⟨w21, e22, hF⟩ := bnd_e hF
          refine J_iast hX kKinds g20 rfl e22 dX9_behindNumber_78 (t := 79) rfl ?_
          refine J_iload_n hX dX9_behindNumber_79 2 rfl (t := 80) rfl ?_
          replace hF := Option.some.inj hF
          obtain ⟨hF, hF2⟩ := Prod.mk.inj hF
          subst hF
          subst hF2
          exact J_iret hX hR hlk dX9_behindNumber_80
      · replace hF := it_t hF z
        refine J_lload_n hX dX9_behindNumber_24 3 rfl (t := 25) rfl ?_
        refine J_ldc2 hX dX9_behindNumber_25 q_931 (t := 28) rfl ?_
        refine J_lmul hX dX9_behindNumber_28 (t := 29) rfl ?_
        refine J_aload_n hX dX9_behindNumber_29 0 rfl (t := 30) rfl ?_
        refine J_get hX cb7 kText 0 (by decide) q_184 rfl dX9_behindNumber_30 (t := 33) rfl ?_
        refine J_iload_n hX dX9_behindNumber_33 2 rfl (t := 34) rfl ?_
        obtain ⟨g23, hF⟩ := gd_e hF
        refine J_bald hX kBytes g23 rfl dX9_behindNumber_34 (t := 35) rfl ?_
        refine J_i2l hX dX9_behindNumber_35 (t := 36) rfl ?_
        refine J_ladd hX dX9_behindNumber_36 (t := 37) rfl ?_
        refine J_ldc2 hX dX9_behindNumber_37 q_932 (t := 40) rfl ?_
        refine J_lsub hX dX9_behindNumber_40 (t := 41) rfl ?_
        refine J_lstore_n (lc2 := [(3, .long (((l3 * 10) + (((w 10).1 1 l2.toNatClampNeg).toInt64)) - 48)), (0, .ref (adr G 10 0)), (1, .int l1), (2, .int l2)]) hX dX9_behindNumber_41 rfl (Nat.le_of_ble_eq_true rfl) rfl (t := 42) rfl ?_
        refine J_iinc (v := l2 + 1) (lc2 := [(2, .int (l2 + 1)), (3, .long (((l3 * 10) + (((w 10).1 1 l2.toNatClampNeg).toInt64)) - 48)), (0, .ref (adr G 10 0)), (1, .int l1)]) hX dX9_behindNumber_42 3 rfl rfl (Nat.le_of_ble_eq_true rfl) rfl (t := 45) rfl ?_
        refine J_goto (tgt := 4) hX dX9_behindNumber_45 (by decide) ?_
        refine J_sub (lc2 := [(0, .ref (adr G 10 0)), (1, .int l1), (2, .int (l2 + 1)), (3, .long (((l3 * 10) + (((w 10).1 1 l2.toNatClampNeg).toInt64)) - 48))]) [2, 3, 0, 1] rfl ?_
        exact ih w l1 (l2 + 1) (((l3 * 10) + (((w 10).1 1 l2.toNatClampNeg).toInt64)) - 48) hF
def FX9_behindNumber (n : Nat) (w : Wd) (p1 : Int32) : Option (Int32 × Wd) :=
  FX9_behindNumber_L4 n n w p1 p1 0
set_option maxHeartbeats 4000000 in
set_option maxRecDepth 100000 in
theorem ctX9_behindNumber {G : GG} {l : Launch} (w : Wd) (p1 : Int32)  (n : Nat) {rx : Int32} {rw : Wd} (hF : FX9_behindNumber n w p1 = some (rx, rw)) : CT G l yX9_behindNumber cX9_behindNumber 5 (some .int) rmX9_behindNumber 0 0 [.ref (adr G 10 0), .int p1] w (some (.int rx)) rw := by
  refine CT.of miX9_behindNumber [(0, .ref (adr G 10 0)), (1, .int p1)] rfl (Nat.le_of_ble_eq_true rfl) ?_
  intro p e s m args below meth c hX hR hlk
  have hX : FX G RX9 cX9_behindNumber 5 p s m args c := hX
  unfold FX9_behindNumber at hF
  refine J_iload_n hX dX9_behindNumber_0 1 rfl (t := 1) rfl ?_
  refine J_istore_n (lc2 := [(2, .int p1), (0, .ref (adr G 10 0)), (1, .int p1)]) hX dX9_behindNumber_1 rfl (Nat.le_of_ble_eq_true rfl) rfl (t := 2) rfl ?_
  refine J_lconst (v := 0) hX dX9_behindNumber_2 (by decide) (t := 3) rfl ?_
  refine J_lstore_n (lc2 := [(3, .long 0), (2, .int p1), (0, .ref (adr G 10 0)), (1, .int p1)]) hX dX9_behindNumber_3 rfl (Nat.le_of_ble_eq_true rfl) rfl (t := 4) rfl ?_
  refine J_sub (lc2 := [(0, .ref (adr G 10 0)), (1, .int p1), (2, .int p1), (3, .long 0)]) [2, 3, 1, 0] rfl ?_
  exact LX9_behindNumber_4 hX hR hlk n n w p1 p1 0 hF
abbrev rmX9_behindToken : Room := { frames := 3, cells := 0, slots := 0, locals := 69 }
theorem miX9_behindToken : MI yX9_behindToken cX9_behindToken 3 (some .int) 1 := ⟨q_919, q_137, by decide +kernel, by decide +kernel, by decide +kernel, by decide +kernel⟩
theorem mvX9_behindToken : MV yX9_behindToken := ⟨q_918, q_4⟩
def FX9_behindToken (n : Nat) (w : Wd) (p1 : Int32) : Option (Int32 × Wd) :=
  gd (inb p1 600) <|
  bnd (FX12_isLetter ((w 10).1 1 p1.toNatClampNeg)) fun x3 =>
  if x3 = true then
    bo2 (FX9_behindWord n w p1) fun x37 w38 =>
    some (x37, w38)
  else
    bnd (FX12_isDigit ((w 10).1 1 p1.toNatClampNeg)) fun x6 =>
    if x6 = true then
      bo2 (FX9_behindNumber n w p1) fun x33 w34 =>
      some (x33, w34)
    else
      if (w 10).1 1 p1.toNatClampNeg = 59 then
        gd (inb ((w 10).1 0 4) 601) <| bnd (sW w 10 (sI (w 10) 2 (((w 10).1 0 4).toNatClampNeg) 3)) fun w9 =>
        gd (inb ((w9 10).1 0 4) 601) <| bnd (sW w9 10 (sL (w9 10) 4 (((w9 10).1 0 4).toNatClampNeg) (((w 10).1 1 p1.toNatClampNeg).toInt64))) fun w12 =>
        some (p1 + 1, w12)
      else
        if (w 10).1 1 p1.toNatClampNeg = 40 then
          gd (inb ((w 10).1 0 4) 601) <| bnd (sW w 10 (sI (w 10) 2 (((w 10).1 0 4).toNatClampNeg) 3)) fun w15 =>
          gd (inb ((w15 10).1 0 4) 601) <| bnd (sW w15 10 (sL (w15 10) 4 (((w15 10).1 0 4).toNatClampNeg) (((w 10).1 1 p1.toNatClampNeg).toInt64))) fun w18 =>
          some (p1 + 1, w18)
        else
          if (w 10).1 1 p1.toNatClampNeg = 41 then
            gd (inb ((w 10).1 0 4) 601) <| bnd (sW w 10 (sI (w 10) 2 (((w 10).1 0 4).toNatClampNeg) 3)) fun w27 =>
            gd (inb ((w27 10).1 0 4) 601) <| bnd (sW w27 10 (sL (w27 10) 4 (((w27 10).1 0 4).toNatClampNeg) (((w 10).1 1 p1.toNatClampNeg).toInt64))) fun w30 =>
            some (p1 + 1, w30)
          else
            gd (inb ((w 10).1 0 4) 601) <| bnd (sW w 10 (sI (w 10) 2 (((w 10).1 0 4).toNatClampNeg) 4)) fun w21 =>
            gd (inb ((w21 10).1 0 4) 601) <| bnd (sW w21 10 (sL (w21 10) 4 (((w21 10).1 0 4).toNatClampNeg) (((w 10).1 1 p1.toNatClampNeg).toInt64))) fun w24 =>
            some (p1 + 1, w24)
set_option maxHeartbeats 4000000 in
set_option maxRecDepth 100000 in
theorem ctX9_behindToken {G : GG} {l : Launch} (w : Wd) (p1 : Int32)  (n : Nat) {rx : Int32} {rw : Wd} (hF : FX9_behindToken n w p1 = some (rx, rw)) : CT G l yX9_behindToken cX9_behindToken 3 (some .int) rmX9_behindToken 0 0 [.ref (adr G 10 0), .int p1] w (some (.int rx)) rw := by
  refine CT.of miX9_behindToken [(0, .ref (adr G 10 0)), (1, .int p1)] rfl (Nat.le_of_ble_eq_true rfl) ?_
  intro p e s m args below meth c hX hR hlk
  have hX : FX G RX9 cX9_behindToken 3 p s m args c := hX
  unfold FX9_behindToken at hF
  refine J_aload_n hX dX9_behindToken_0 0 rfl (t := 1) rfl ?_
  refine J_get hX cb7 kText 0 (by decide) q_184 rfl dX9_behindToken_1 (t := 4) rfl ?_
  refine J_iload_n hX dX9_behindToken_4 1 rfl (t := 5) rfl ?_
  obtain ⟨g1, hF⟩ := gd_e hF
  refine J_bald hX kBytes g1 rfl dX9_behindToken_5 (t := 6) rfl ?_
  refine J_istore_n (lc2 := [(2, .int ((w 10).1 1 p1.toNatClampNeg)), (0, .ref (adr G 10 0)), (1, .int p1)]) hX dX9_behindToken_6 rfl (Nat.le_of_ble_eq_true rfl) rfl (t := 7) rfl ?_
  refine J_iload_n hX dX9_behindToken_7 0 rfl (t := 8) rfl ?_
  obtain ⟨x3, h2, hF⟩ := bnd_e hF
  have k4 := (ctX12_isLetter (l := l) (G := G) (w := w) ((w 10).1 1 p1.toNatClampNeg) h2)
  refine J_callSN hX [.int ((w 10).1 1 p1.toNatClampNeg)] [] [.int (bI x3)] k4 miX12_isLetter q_658 (by simp [nestL]) ⟨rfl, rfl, Nat.le_of_ble_eq_true rfl, Nat.le_of_ble_eq_true rfl⟩ rfl rfl (Nat.le_of_ble_eq_true rfl) ⟨Nat.le_of_ble_eq_true rfl, Nat.le_of_ble_eq_true rfl⟩ dX9_behindToken_8 (t := 11) rfl rfl ?_
  refine J_ifZ_eq (tgt := 20) hX dX9_behindToken_11 (by decide) (t := 14) rfl (fun z => ?_) (fun z => ?_)
  · replace hF := ib_f hF z
    refine J_iload_n hX dX9_behindToken_20 0 rfl (t := 21) rfl ?_
    obtain ⟨x6, h5, hF⟩ := bnd_e hF
    have k7 := (ctX12_isDigit (l := l) (G := G) (w := w) ((w 10).1 1 p1.toNatClampNeg) h5)
    refine J_callSN hX [.int ((w 10).1 1 p1.toNatClampNeg)] [] [.int (bI x6)] k7 miX12_isDigit q_925 (by simp [nestL]) ⟨rfl, rfl, Nat.le_of_ble_eq_true rfl, Nat.le_of_ble_eq_true rfl⟩ rfl rfl (Nat.le_of_ble_eq_true rfl) ⟨Nat.le_of_ble_eq_true rfl, Nat.le_of_ble_eq_true rfl⟩ dX9_behindToken_21 (t := 24) rfl rfl ?_
    refine J_ifZ_eq (tgt := 33) hX dX9_behindToken_24 (by decide) (t := 27) rfl (fun z => ?_) (fun z => ?_)
    · replace hF := ib_f hF z
      refine J_aload_n hX dX9_behindToken_33 1 rfl (t := 34) rfl ?_
      refine J_get hX cb7 kText 1 (by decide) q_185 rfl dX9_behindToken_34 (t := 37) rfl ?_
      refine J_aload_n hX dX9_behindToken_37 1 rfl (t := 38) rfl ?_
      refine J_get hX cb7 kText 4 (by decide) q_188 rfl dX9_behindToken_38 (t := 41) rfl ?_
      refine J_iload_n hX dX9_behindToken_41 0 rfl (t := 42) rfl ?_
      refine J_bipush (v := 59) hX dX9_behindToken_42 (by decide) (t := 44) rfl ?_
      refine J_icmp_eq (tgt := 59) hX dX9_behindToken_44 (by decide) (t := 47) rfl (fun z => ?_) (fun z => ?_)
      · replace hF := it_t hF z
        refine J_iconst (v := 3) hX dX9_behindToken_59 (by decide) (t := 60) rfl ?_
        refine J_goto (tgt := 64) hX dX9_behindToken_60 (by decide) ?_
        obtain ⟨g8, hF⟩ := gd_e hF
        obtain ⟨w9, e10, hF⟩ := bnd_e hF
        refine J_iast hX kKinds g8 rfl e10 dX9_behindToken_64 (t := 65) rfl ?_
        refine J_aload_n hX dX9_behindToken_65 1 rfl (t := 66) rfl ?_
        refine J_get hX cb7 kText 3 (by decide) q_187 rfl dX9_behindToken_66 (t := 69) rfl ?_
        refine J_aload_n hX dX9_behindToken_69 1 rfl (t := 70) rfl ?_
        refine J_get hX cb7 kText 4 (by decide) q_188 rfl dX9_behindToken_70 (t := 73) rfl ?_
        refine J_iload_n hX dX9_behindToken_73 0 rfl (t := 74) rfl ?_
        refine J_i2l hX dX9_behindToken_74 (t := 75) rfl ?_
        obtain ⟨g11, hF⟩ := gd_e hF
        obtain ⟨w12, e13, hF⟩ := bnd_e hF
        refine J_last hX kValues g11 rfl e13 dX9_behindToken_75 (t := 76) rfl ?_
        refine J_iload_n hX dX9_behindToken_76 2 rfl (t := 77) rfl ?_
        refine J_iconst (v := 1) hX dX9_behindToken_77 (by decide) (t := 78) rfl ?_
        refine J_iadd hX dX9_behindToken_78 (t := 79) rfl ?_
        replace hF := Option.some.inj hF
        obtain ⟨hF, hF2⟩ := Prod.mk.inj hF
        subst hF
        subst hF2
        exact J_iret hX hR hlk dX9_behindToken_79
      · replace hF := it_f hF z
        refine J_iload_n hX dX9_behindToken_47 0 rfl (t := 48) rfl ?_
        refine J_bipush (v := 40) hX dX9_behindToken_48 (by decide) (t := 50) rfl ?_
        refine J_icmp_eq (tgt := 59) hX dX9_behindToken_50 (by decide) (t := 53) rfl (fun z => ?_) (fun z => ?_)
        · replace hF := it_t hF z
          refine J_iconst (v := 3) hX dX9_behindToken_59 (by decide) (t := 60) rfl ?_
          refine J_goto (tgt := 64) hX dX9_behindToken_60 (by decide) ?_
          obtain ⟨g14, hF⟩ := gd_e hF
          obtain ⟨w15, e16, hF⟩ := bnd_e hF
          refine J_iast hX kKinds g14 rfl e16 dX9_behindToken_64 (t := 65) rfl ?_
          refine J_aload_n hX dX9_behindToken_65 1 rfl (t := 66) rfl ?_
          refine J_get hX cb7 kText 3 (by decide) q_187 rfl dX9_behindToken_66 (t := 69) rfl ?_
          refine J_aload_n hX dX9_behindToken_69 1 rfl (t := 70) rfl ?_
          refine J_get hX cb7 kText 4 (by decide) q_188 rfl dX9_behindToken_70 (t := 73) rfl ?_
          refine J_iload_n hX dX9_behindToken_73 0 rfl (t := 74) rfl ?_
          refine J_i2l hX dX9_behindToken_74 (t := 75) rfl ?_
          obtain ⟨g17, hF⟩ := gd_e hF
          obtain ⟨w18, e19, hF⟩ := bnd_e hF
          refine J_last hX kValues g17 rfl e19 dX9_behindToken_75 (t := 76) rfl ?_
          refine J_iload_n hX dX9_behindToken_76 2 rfl (t := 77) rfl ?_
          refine J_iconst (v := 1) hX dX9_behindToken_77 (by decide) (t := 78) rfl ?_
          refine J_iadd hX dX9_behindToken_78 (t := 79) rfl ?_
          replace hF := Option.some.inj hF
          obtain ⟨hF, hF2⟩ := Prod.mk.inj hF
          subst hF
          subst hF2
          exact J_iret hX hR hlk dX9_behindToken_79
        · replace hF := it_f hF z
          refine J_iload_n hX dX9_behindToken_53 0 rfl (t := 54) rfl ?_
          refine J_bipush (v := 41) hX dX9_behindToken_54 (by decide) (t := 56) rfl ?_
          refine J_icmp_ne (tgt := 63) hX dX9_behindToken_56 (by decide) (t := 59) rfl (fun z => ?_) (fun z => ?_)
          · replace hF := it_f hF z
            refine J_iconst (v := 4) hX dX9_behindToken_63 (by decide) (t := 64) rfl ?_
            obtain ⟨g20, hF⟩ := gd_e hF
            obtain ⟨w21, e22, hF⟩ := bnd_e hF
            refine J_iast hX kKinds g20 rfl e22 dX9_behindToken_64 (t := 65) rfl ?_
            refine J_aload_n hX dX9_behindToken_65 1 rfl (t := 66) rfl ?_
            refine J_get hX cb7 kText 3 (by decide) q_187 rfl dX9_behindToken_66 (t := 69) rfl ?_
            refine J_aload_n hX dX9_behindToken_69 1 rfl (t := 70) rfl ?_
            refine J_get hX cb7 kText 4 (by decide) q_188 rfl dX9_behindToken_70 (t := 73) rfl ?_
            refine J_iload_n hX dX9_behindToken_73 0 rfl (t := 74) rfl ?_
            refine J_i2l hX dX9_behindToken_74 (t := 75) rfl ?_
            obtain ⟨g23, hF⟩ := gd_e hF
            obtain ⟨w24, e25, hF⟩ := bnd_e hF
            refine J_last hX kValues g23 rfl e25 dX9_behindToken_75 (t := 76) rfl ?_
            refine J_iload_n hX dX9_behindToken_76 2 rfl (t := 77) rfl ?_
            refine J_iconst (v := 1) hX dX9_behindToken_77 (by decide) (t := 78) rfl ?_
            refine J_iadd hX dX9_behindToken_78 (t := 79) rfl ?_
            replace hF := Option.some.inj hF
            obtain ⟨hF, hF2⟩ := Prod.mk.inj hF
            subst hF
            subst hF2
            exact J_iret hX hR hlk dX9_behindToken_79
          · replace hF := it_t hF z
            refine J_iconst (v := 3) hX dX9_behindToken_59 (by decide) (t := 60) rfl ?_
            refine J_goto (tgt := 64) hX dX9_behindToken_60 (by decide) ?_
            obtain ⟨g26, hF⟩ := gd_e hF
            obtain ⟨w27, e28, hF⟩ := bnd_e hF
            refine J_iast hX kKinds g26 rfl e28 dX9_behindToken_64 (t := 65) rfl ?_
            refine J_aload_n hX dX9_behindToken_65 1 rfl (t := 66) rfl ?_
            refine J_get hX cb7 kText 3 (by decide) q_187 rfl dX9_behindToken_66 (t := 69) rfl ?_
            refine J_aload_n hX dX9_behindToken_69 1 rfl (t := 70) rfl ?_
            refine J_get hX cb7 kText 4 (by decide) q_188 rfl dX9_behindToken_70 (t := 73) rfl ?_
            refine J_iload_n hX dX9_behindToken_73 0 rfl (t := 74) rfl ?_
            refine J_i2l hX dX9_behindToken_74 (t := 75) rfl ?_
            obtain ⟨g29, hF⟩ := gd_e hF
            obtain ⟨w30, e31, hF⟩ := bnd_e hF
            refine J_last hX kValues g29 rfl e31 dX9_behindToken_75 (t := 76) rfl ?_
            refine J_iload_n hX dX9_behindToken_76 2 rfl (t := 77) rfl ?_
            refine J_iconst (v := 1) hX dX9_behindToken_77 (by decide) (t := 78) rfl ?_
            refine J_iadd hX dX9_behindToken_78 (t := 79) rfl ?_
            replace hF := Option.some.inj hF
            obtain ⟨hF, hF2⟩ := Prod.mk.inj hF
            subst hF
            subst hF2
            exact J_iret hX hR hlk dX9_behindToken_79
    · replace hF := it_t hF z
      refine J_aload_n hX dX9_behindToken_27 1 rfl (t := 28) rfl ?_
      refine J_iload_n hX dX9_behindToken_28 2 rfl (t := 29) rfl ?_
      obtain ⟨x33, w34, h32, hF⟩ := bo2_e hF
      have k35 := (ctX9_behindNumber (G := G) (l := l) w p1 n h32)
      refine J_callV hX [.int p1] [] [.int x33] k35 miX9_behindNumber mvX9_behindNumber cb7 kText q_927 ⟨rfl, rfl, Nat.le_of_ble_eq_true rfl, Nat.le_of_ble_eq_true rfl⟩ rfl rfl (Nat.le_of_ble_eq_true rfl) ⟨Nat.le_of_ble_eq_true rfl, Nat.le_of_ble_eq_true rfl⟩ dX9_behindToken_29 (t := 32) rfl rfl ?_
      replace hF := Option.some.inj hF
      obtain ⟨hF, hF2⟩ := Prod.mk.inj hF
      subst hF
      subst hF2
      exact J_iret hX hR hlk dX9_behindToken_32
  · replace hF := it_t hF z
    refine J_aload_n hX dX9_behindToken_14 1 rfl (t := 15) rfl ?_
    refine J_iload_n hX dX9_behindToken_15 2 rfl (t := 16) rfl ?_
    obtain ⟨x37, w38, h36, hF⟩ := bo2_e hF
    have k39 := (ctX9_behindWord (G := G) (l := l) w p1 n h36)
    refine J_callV hX [.int p1] [] [.int x37] k39 miX9_behindWord mvX9_behindWord cb7 kText q_920 ⟨rfl, rfl, Nat.le_of_ble_eq_true rfl, Nat.le_of_ble_eq_true rfl⟩ rfl rfl (Nat.le_of_ble_eq_true rfl) ⟨Nat.le_of_ble_eq_true rfl, Nat.le_of_ble_eq_true rfl⟩ dX9_behindToken_16 (t := 19) rfl rfl ?_
    replace hF := Option.some.inj hF
    obtain ⟨hF, hF2⟩ := Prod.mk.inj hF
    subst hF
    subst hF2
    exact J_iret hX hR hlk dX9_behindToken_19
abbrev rmX9_open : Room := { frames := 4, cells := 0, slots := 0, locals := 91 }
theorem miX9_open : MI yX9_open cX9_open 3 none 0 := ⟨q_911, q_137, by decide +kernel, by decide +kernel, by decide +kernel, by decide +kernel⟩
theorem mvX9_open : MV yX9_open := ⟨q_909, q_910⟩
def FX9_open_L13 (n : Nat) : Nat → Wd → Int32 → Int32 → Option (Wd)
  | 0 => fun _ _ _ => none
  | k + 1 => fun w l1 l2 =>
    if 600 ≤ l2 then
      gd (inb ((w 10).1 0 4) 601) <| bnd (sW w 10 (sI (w 10) 2 (((w 10).1 0 4).toNatClampNeg) 0)) fun w7 =>
      gd (inb ((w7 10).1 0 4) 601) <| bnd (sW w7 10 (sI (w7 10) 3 (((w7 10).1 0 4).toNatClampNeg) ((w7 10).1 0 6))) fun w10 =>
      bnd (sW w10 10 (sI (w10 10) 0 5 0)) fun w12 =>
      bnd (sW w12 10 (sI (w12 10) 0 7 0)) fun w14 =>
      bnd (sW w14 10 (sI (w14 10) 0 8 (-1))) fun w16 =>
      some w16
    else
      if (w 10).1 0 6 ≤ l1 then
        gd (inb ((w 10).1 0 4) 601) <| bnd (sW w 10 (sI (w 10) 2 (((w 10).1 0 4).toNatClampNeg) 0)) fun w19 =>
        gd (inb ((w19 10).1 0 4) 601) <| bnd (sW w19 10 (sI (w19 10) 3 (((w19 10).1 0 4).toNatClampNeg) ((w19 10).1 0 6))) fun w22 =>
        bnd (sW w22 10 (sI (w22 10) 0 5 0)) fun w24 =>
        bnd (sW w24 10 (sI (w24 10) 0 7 0)) fun w26 =>
        bnd (sW w26 10 (sI (w26 10) 0 8 (-1))) fun w28 =>
        some w28
      else
        gd (inb ((w 10).1 0 4) 601) <| bnd (sW w 10 (sI (w 10) 3 (((w 10).1 0 4).toNatClampNeg) l1)) fun w31 =>
        bo2 (FX9_behindToken n w31 l1) fun x34 w35 =>
        bo1 (FX9_behindSpaces n w35 x34) fun x38 =>
        bnd (sW w35 10 (sI (w35 10) 0 4 (((w35 10).1 0 4) + 1))) fun w40 =>
        FX9_open_L13 n k w40 x38 (l2 + 1)
set_option maxHeartbeats 4000000 in
set_option maxRecDepth 100000 in
theorem LX9_open_13 {G : GG} {l : Launch} {p : Program} {e : Env} {s : State} {m : MethodId} {args : Array Value} {below : List Frame} {meth : Method} {c : Code} (hX : FX G RX9 cX9_open 3 p s m args c) (hR : meth.sig.returnType = none) (hlk : meth.locks = false) {rw : Wd} (n : Nat) : ∀ (k : Nat) (w : Wd) (l1 : Int32) (l2 : Int32) , FX9_open_L13 n k w l1 l2 = some rw → J G p l e rmX9_open s m args below meth c 3 0 0 (MQ below (QV G (none) rw) args s 0 0 (gA G)) (GH G w) 13 [(0, .ref (adr G 10 0)), (1, .int l1), (2, .int l2)] [] := by
  intro k
  induction k with
  | zero => intro w l1 l2  hF; cases hF
  | succ k ih =>
    intro w l1 l2  hF
    simp only [FX9_open_L13] at hF
    refine J_iload_n hX dX9_open_13 2 rfl (t := 14) rfl ?_
    refine J_sipush (v := 600) hX dX9_open_14 (by decide) (t := 17) rfl ?_
    refine J_icmp_ge (tgt := 64) hX dX9_open_17 (by decide) (t := 20) rfl (fun z => ?_) (fun z => ?_)
    · replace hF := it_t hF z
      refine J_aload_n hX dX9_open_64 0 rfl (t := 65) rfl ?_
      refine J_get hX cb7 kText 1 (by decide) q_185 rfl dX9_open_65 (t := 68) rfl ?_
      refine J_aload_n hX dX9_open_68 0 rfl (t := 69) rfl ?_
      refine J_get hX cb7 kText 4 (by decide) q_188 rfl dX9_open_69 (t := 72) rfl ?_
      refine J_iconst (v := 0) hX dX9_open_72 (by decide) (t := 73) rfl ?_
      obtain ⟨g6, hF⟩ := gd_e hF
      obtain ⟨w7, e8, hF⟩ := bnd_e hF
      refine J_iast hX kKinds g6 rfl e8 dX9_open_73 (t := 74) rfl ?_
      refine J_aload_n hX dX9_open_74 0 rfl (t := 75) rfl ?_
      refine J_get hX cb7 kText 2 (by decide) q_186 rfl dX9_open_75 (t := 78) rfl ?_
      refine J_aload_n hX dX9_open_78 0 rfl (t := 79) rfl ?_
      refine J_get hX cb7 kText 4 (by decide) q_188 rfl dX9_open_79 (t := 82) rfl ?_
      refine J_aload_n hX dX9_open_82 0 rfl (t := 83) rfl ?_
      refine J_get hX cb7 kText 6 (by decide) q_191 rfl dX9_open_83 (t := 86) rfl ?_
      obtain ⟨g9, hF⟩ := gd_e hF
      obtain ⟨w10, e11, hF⟩ := bnd_e hF
      refine J_iast hX kStarts g9 rfl e11 dX9_open_86 (t := 87) rfl ?_
      refine J_aload_n hX dX9_open_87 0 rfl (t := 88) rfl ?_
      refine J_iconst (v := 0) hX dX9_open_88 (by decide) (t := 89) rfl ?_
      obtain ⟨w12, e13, hF⟩ := bnd_e hF
      refine J_puti hX cb7 kText 5 (by decide) q_189 rfl rfl e13 (fun _ _ => Nat.le_of_ble_eq_true rfl) (fun _ _ => rfl) dX9_open_89 (t := 92) rfl ?_
      refine J_aload_n hX dX9_open_92 0 rfl (t := 93) rfl ?_
      refine J_iconst (v := 0) hX dX9_open_93 (by decide) (t := 94) rfl ?_
      obtain ⟨w14, e15, hF⟩ := bnd_e hF
      refine J_puti hX cb7 kText 7 (by decide) q_192 rfl rfl e15 (fun _ _ => Nat.le_of_ble_eq_true rfl) (fun _ _ => rfl) dX9_open_94 (t := 97) rfl ?_
      refine J_aload_n hX dX9_open_97 0 rfl (t := 98) rfl ?_
      refine J_iconst (v := (-1)) hX dX9_open_98 (by decide) (t := 99) rfl ?_
      obtain ⟨w16, e17, hF⟩ := bnd_e hF
      refine J_puti hX cb7 kText 8 (by decide) q_194 rfl rfl e17 (fun _ _ => Nat.le_of_ble_eq_true rfl) (fun _ _ => rfl) dX9_open_99 (t := 102) rfl ?_
      replace hF := Option.some.inj hF
      subst hF
      exact J_vret hX hR hlk dX9_open_102
    · replace hF := it_f hF z
      refine J_iload_n hX dX9_open_20 1 rfl (t := 21) rfl ?_
      refine J_aload_n hX dX9_open_21 0 rfl (t := 22) rfl ?_
      refine J_get hX cb7 kText 6 (by decide) q_191 rfl dX9_open_22 (t := 25) rfl ?_
      refine J_icmp_ge (tgt := 64) hX dX9_open_25 (by decide) (t := 28) rfl (fun z => ?_) (fun z => ?_)
      · replace hF := it_t hF z
        refine J_aload_n hX dX9_open_64 0 rfl (t := 65) rfl ?_
        refine J_get hX cb7 kText 1 (by decide) q_185 rfl dX9_open_65 (t := 68) rfl ?_
        refine J_aload_n hX dX9_open_68 0 rfl (t := 69) rfl ?_
        refine J_get hX cb7 kText 4 (by decide) q_188 rfl dX9_open_69 (t := 72) rfl ?_
        refine J_iconst (v := 0) hX dX9_open_72 (by decide) (t := 73) rfl ?_
        obtain ⟨g18, hF⟩ := gd_e hF
        obtain ⟨w19, e20, hF⟩ := bnd_e hF
        refine J_iast hX kKinds g18 rfl e20 dX9_open_73 (t := 74) rfl ?_
        refine J_aload_n hX dX9_open_74 0 rfl (t := 75) rfl ?_
        refine J_get hX cb7 kText 2 (by decide) q_186 rfl dX9_open_75 (t := 78) rfl ?_
        refine J_aload_n hX dX9_open_78 0 rfl (t := 79) rfl ?_
        refine J_get hX cb7 kText 4 (by decide) q_188 rfl dX9_open_79 (t := 82) rfl ?_
        refine J_aload_n hX dX9_open_82 0 rfl (t := 83) rfl ?_
        refine J_get hX cb7 kText 6 (by decide) q_191 rfl dX9_open_83 (t := 86) rfl ?_
        obtain ⟨g21, hF⟩ := gd_e hF
        obtain ⟨w22, e23, hF⟩ := bnd_e hF
        refine J_iast hX kStarts g21 rfl e23 dX9_open_86 (t := 87) rfl ?_
        refine J_aload_n hX dX9_open_87 0 rfl (t := 88) rfl ?_
        refine J_iconst (v := 0) hX dX9_open_88 (by decide) (t := 89) rfl ?_
        obtain ⟨w24, e25, hF⟩ := bnd_e hF
        refine J_puti hX cb7 kText 5 (by decide) q_189 rfl rfl e25 (fun _ _ => Nat.le_of_ble_eq_true rfl) (fun _ _ => rfl) dX9_open_89 (t := 92) rfl ?_
        refine J_aload_n hX dX9_open_92 0 rfl (t := 93) rfl ?_
        refine J_iconst (v := 0) hX dX9_open_93 (by decide) (t := 94) rfl ?_
        obtain ⟨w26, e27, hF⟩ := bnd_e hF
        refine J_puti hX cb7 kText 7 (by decide) q_192 rfl rfl e27 (fun _ _ => Nat.le_of_ble_eq_true rfl) (fun _ _ => rfl) dX9_open_94 (t := 97) rfl ?_
        refine J_aload_n hX dX9_open_97 0 rfl (t := 98) rfl ?_
        refine J_iconst (v := (-1)) hX dX9_open_98 (by decide) (t := 99) rfl ?_
        obtain ⟨w28, e29, hF⟩ := bnd_e hF
        refine J_puti hX cb7 kText 8 (by decide) q_194 rfl rfl e29 (fun _ _ => Nat.le_of_ble_eq_true rfl) (fun _ _ => rfl) dX9_open_99 (t := 102) rfl ?_
        replace hF := Option.some.inj hF
        subst hF
        exact J_vret hX hR hlk dX9_open_102
      · replace hF := it_f hF z
        refine J_aload_n hX dX9_open_28 0 rfl (t := 29) rfl ?_
        refine J_get hX cb7 kText 2 (by decide) q_186 rfl dX9_open_29 (t := 32) rfl ?_
        refine J_aload_n hX dX9_open_32 0 rfl (t := 33) rfl ?_
        refine J_get hX cb7 kText 4 (by decide) q_188 rfl dX9_open_33 (t := 36) rfl ?_
        refine J_iload_n hX dX9_open_36 1 rfl (t := 37) rfl ?_
        obtain ⟨g30, hF⟩ := gd_e hF
        obtain ⟨w31, e32, hF⟩ := bnd_e hF
        refine J_iast hX kStarts g30 rfl e32 dX9_open_37 (t := 38) rfl ?_
        refine J_aload_n hX dX9_open_38 0 rfl (t := 39) rfl ?_
        refine J_aload_n hX dX9_open_39 0 rfl (t := 40) rfl ?_
        refine J_iload_n hX dX9_open_40 1 rfl (t := 41) rfl ?_
        obtain ⟨x34, w35, h33, hF⟩ := bo2_e hF
        have k36 := (ctX9_behindToken (G := G) (l := l) w31 l1 n h33)
        refine J_callV hX [.int l1] [.ref (adr G 10 0)] [.int x34, .ref (adr G 10 0)] k36 miX9_behindToken mvX9_behindToken cb7 kText q_916 ⟨rfl, rfl, Nat.le_of_ble_eq_true rfl, Nat.le_of_ble_eq_true rfl⟩ rfl rfl (Nat.le_of_ble_eq_true rfl) ⟨Nat.le_of_ble_eq_true rfl, Nat.le_of_ble_eq_true rfl⟩ dX9_open_41 (t := 44) rfl rfl ?_
        obtain ⟨x38, h37, hF⟩ := bo1_e hF
        have k39 := (ctX9_behindSpaces (G := G) (l := l) w35 x34 n h37)
        refine J_callV hX [.int x34] [] [.int x38] k39 miX9_behindSpaces mvX9_behindSpaces cb7 kText q_912 ⟨rfl, rfl, Nat.le_of_ble_eq_true rfl, Nat.le_of_ble_eq_true rfl⟩ rfl rfl (Nat.le_of_ble_eq_true rfl) ⟨Nat.le_of_ble_eq_true rfl, Nat.le_of_ble_eq_true rfl⟩ dX9_open_44 (t := 47) rfl rfl ?_
        refine J_istore_n (lc2 := [(1, .int x38), (0, .ref (adr G 10 0)), (2, .int l2)]) hX dX9_open_47 rfl (Nat.le_of_ble_eq_true rfl) rfl (t := 48) rfl ?_
        refine J_aload_n hX dX9_open_48 1 rfl (t := 49) rfl ?_
        refine J_dup hX dX9_open_49 rfl (t := 50) rfl ?_
        refine J_get hX cb7 kText 4 (by decide) q_188 rfl dX9_open_50 (t := 53) rfl ?_
        refine J_iconst (v := 1) hX dX9_open_53 (by decide) (t := 54) rfl ?_
        refine J_iadd hX dX9_open_54 (t := 55) rfl ?_
        obtain ⟨w40, e41, hF⟩ := bnd_e hF
        refine J_puti hX cb7 kText 4 (by decide) q_188 rfl rfl e41 (fun _ _ => Nat.le_of_ble_eq_true rfl) (fun _ _ => rfl) dX9_open_55 (t := 58) rfl ?_
        refine J_iinc (v := l2 + 1) (lc2 := [(2, .int (l2 + 1)), (1, .int x38), (0, .ref (adr G 10 0))]) hX dX9_open_58 2 rfl rfl (Nat.le_of_ble_eq_true rfl) rfl (t := 61) rfl ?_
        refine J_goto (tgt := 13) hX dX9_open_61 (by decide) ?_
        refine J_sub (lc2 := [(0, .ref (adr G 10 0)), (1, .int x38), (2, .int (l2 + 1))]) [2, 1, 0] rfl ?_
        exact ih w40 x38 (l2 + 1) hF
def FX9_open (n : Nat) (w : Wd)  : Option (Wd) :=
  bo1 (FX9_behindSpaces n w 0) fun x2 =>
  bnd (sW w 10 (sI (w 10) 0 4 0)) fun w4 =>
  FX9_open_L13 n n w4 x2 0
set_option maxHeartbeats 4000000 in
set_option maxRecDepth 100000 in
theorem ctX9_open {G : GG} {l : Launch} (w : Wd)   (n : Nat) {rw : Wd} (hF : FX9_open n w  = some rw) : CT G l yX9_open cX9_open 3 none rmX9_open 0 0 [.ref (adr G 10 0)] w (none) rw := by
  refine CT.of miX9_open [(0, .ref (adr G 10 0))] rfl (Nat.le_of_ble_eq_true rfl) ?_
  intro p e s m args below meth c hX hR hlk
  have hX : FX G RX9 cX9_open 3 p s m args c := hX
  unfold FX9_open at hF
  refine J_aload_n hX dX9_open_0 0 rfl (t := 1) rfl ?_
  refine J_iconst (v := 0) hX dX9_open_1 (by decide) (t := 2) rfl ?_
  obtain ⟨x2, h1, hF⟩ := bo1_e hF
  have k3 := (ctX9_behindSpaces (G := G) (l := l) w 0 n h1)
  refine J_callV hX [.int 0] [] [.int x2] k3 miX9_behindSpaces mvX9_behindSpaces cb7 kText q_912 ⟨rfl, rfl, Nat.le_of_ble_eq_true rfl, Nat.le_of_ble_eq_true rfl⟩ rfl rfl (Nat.le_of_ble_eq_true rfl) ⟨Nat.le_of_ble_eq_true rfl, Nat.le_of_ble_eq_true rfl⟩ dX9_open_2 (t := 5) rfl rfl ?_
  refine J_istore_n (lc2 := [(1, .int x2), (0, .ref (adr G 10 0))]) hX dX9_open_5 rfl (Nat.le_of_ble_eq_true rfl) rfl (t := 6) rfl ?_
  refine J_aload_n hX dX9_open_6 1 rfl (t := 7) rfl ?_
  refine J_iconst (v := 0) hX dX9_open_7 (by decide) (t := 8) rfl ?_
  obtain ⟨w4, e5, hF⟩ := bnd_e hF
  refine J_puti hX cb7 kText 4 (by decide) q_188 rfl rfl e5 (fun _ _ => Nat.le_of_ble_eq_true rfl) (fun _ _ => rfl) dX9_open_8 (t := 11) rfl ?_
  refine J_iconst (v := 0) hX dX9_open_11 (by decide) (t := 12) rfl ?_
  refine J_istore_n (lc2 := [(2, .int 0), (1, .int x2), (0, .ref (adr G 10 0))]) hX dX9_open_12 rfl (Nat.le_of_ble_eq_true rfl) rfl (t := 13) rfl ?_
  refine J_sub (lc2 := [(0, .ref (adr G 10 0)), (1, .int x2), (2, .int 0)]) [2, 1, 0] rfl ?_
  exact LX9_open_13 hX hR hlk n n w4 x2 0 hF
abbrev rmX9_failIf : Room := { frames := 0, cells := 0, slots := 0, locals := 0 }
theorem miX9_failIf : MI yX9_failIf cX9_failIf 3 none 2 := ⟨q_999, q_137, by decide +kernel, by decide +kernel, by decide +kernel, by decide +kernel⟩
theorem mvX9_failIf : MV yX9_failIf := ⟨q_997, q_998⟩
def FX9_failIf (w : Wd) (p1 : Bool) (p2 : Int32) : Option (Wd) :=
  if p1 = true then
    if (w 10).1 0 7 = 0 then
      bnd (sW w 10 (sI (w 10) 0 7 p2)) fun w1 =>
      gd (inb ((w1 10).1 0 5) 601) <|
      bnd (sW w1 10 (sI (w1 10) 0 8 ((w1 10).1 3 (((w1 10).1 0 5).toNatClampNeg)))) fun w4 =>
      some w4
    else
      some w
  else
    some w
set_option maxHeartbeats 4000000 in
set_option maxRecDepth 100000 in
theorem ctX9_failIf {G : GG} {l : Launch} (w : Wd) (p1 : Bool) (p2 : Int32)  {rw : Wd} (hF : FX9_failIf w p1 p2 = some rw) : CT G l yX9_failIf cX9_failIf 3 none rmX9_failIf 0 0 [.ref (adr G 10 0), .int (bI p1), .int p2] w (none) rw := by
  refine CT.of miX9_failIf [(0, .ref (adr G 10 0)), (1, .int (bI p1)), (2, .int p2)] rfl (Nat.le_of_ble_eq_true rfl) ?_
  intro p e s m args below meth c hX hR hlk
  have hX : FX G RX9 cX9_failIf 3 p s m args c := hX
  unfold FX9_failIf at hF
  refine J_iload_n hX dX9_failIf_0 1 rfl (t := 1) rfl ?_
  refine J_ifZ_eq (tgt := 29) hX dX9_failIf_1 (by decide) (t := 4) rfl (fun z => ?_) (fun z => ?_)
  · replace hF := ib_f hF z
    replace hF := Option.some.inj hF
    subst hF
    exact J_vret hX hR hlk dX9_failIf_29
  · replace hF := it_t hF z
    refine J_aload_n hX dX9_failIf_4 0 rfl (t := 5) rfl ?_
    refine J_get hX cb7 kText 7 (by decide) q_192 rfl dX9_failIf_5 (t := 8) rfl ?_
    refine J_if_ne (tgt := 29) hX dX9_failIf_8 (by decide) (t := 11) rfl (fun z => ?_) (fun z => ?_)
    · replace hF := it_f hF z
      replace hF := Option.some.inj hF
      subst hF
      exact J_vret hX hR hlk dX9_failIf_29
    · replace hF := it_t hF z
      refine J_aload_n hX dX9_failIf_11 0 rfl (t := 12) rfl ?_
      refine J_iload_n hX dX9_failIf_12 2 rfl (t := 13) rfl ?_
      obtain ⟨w1, e2, hF⟩ := bnd_e hF
      refine J_puti hX cb7 kText 7 (by decide) q_192 rfl rfl e2 (fun _ _ => Nat.le_of_ble_eq_true rfl) (fun _ _ => rfl) dX9_failIf_13 (t := 16) rfl ?_
      refine J_aload_n hX dX9_failIf_16 0 rfl (t := 17) rfl ?_
      refine J_aload_n hX dX9_failIf_17 0 rfl (t := 18) rfl ?_
      refine J_get hX cb7 kText 2 (by decide) q_186 rfl dX9_failIf_18 (t := 21) rfl ?_
      refine J_aload_n hX dX9_failIf_21 0 rfl (t := 22) rfl ?_
      refine J_get hX cb7 kText 5 (by decide) q_189 rfl dX9_failIf_22 (t := 25) rfl ?_
      obtain ⟨g3, hF⟩ := gd_e hF
      refine J_iald hX kStarts g3 rfl dX9_failIf_25 (t := 26) rfl ?_
      obtain ⟨w4, e5, hF⟩ := bnd_e hF
      refine J_puti hX cb7 kText 8 (by decide) q_194 rfl rfl e5 (fun _ _ => Nat.le_of_ble_eq_true rfl) (fun _ _ => rfl) dX9_failIf_26 (t := 29) rfl ?_
      replace hF := Option.some.inj hF
      subst hF
      exact J_vret hX hR hlk dX9_failIf_29
abbrev rmX9_skip : Room := { frames := 0, cells := 0, slots := 0, locals := 0 }
theorem miX9_skip : MI yX9_skip cX9_skip 1 none 0 := ⟨q_1003, q_137, by decide +kernel, by decide +kernel, by decide +kernel, by decide +kernel⟩
theorem mvX9_skip : MV yX9_skip := ⟨q_1001, q_1002⟩
def FX9_skip (w : Wd)  : Wd :=
  if (w 10).1 0 7 = 0 then
    if (w 10).1 0 4 ≤ (w 10).1 0 5 then
      w
    else
      bnd (sW w 10 (sI (w 10) 0 5 (((w 10).1 0 5) + 1))) fun w1 =>
      w1
  else
    w
set_option maxHeartbeats 4000000 in
set_option maxRecDepth 100000 in
theorem ctX9_skip {G : GG} {l : Launch} (w : Wd)   {rw : Wd} (hF : FX9_skip w  = rw) : CT G l yX9_skip cX9_skip 1 none rmX9_skip 0 0 [.ref (adr G 10 0)] w (none) rw := by
  refine CT.of miX9_skip [(0, .ref (adr G 10 0))] rfl (Nat.le_of_ble_eq_true rfl) ?_
  intro p e s m args below meth c hX hR hlk
  have hX : FX G RX9 cX9_skip 1 p s m args c := hX
  unfold FX9_skip at hF
  refine J_aload_n hX dX9_skip_0 0 rfl (t := 1) rfl ?_
  refine J_get hX cb7 kText 7 (by decide) q_192 rfl dX9_skip_1 (t := 4) rfl ?_
  refine J_if_ne (tgt := 28) hX dX9_skip_4 (by decide) (t := 7) rfl (fun z => ?_) (fun z => ?_)
  · replace hF := it_f hF z
    subst hF
    exact J_vret hX hR hlk dX9_skip_28
  · replace hF := it_t hF z
    refine J_aload_n hX dX9_skip_7 0 rfl (t := 8) rfl ?_
    refine J_get hX cb7 kText 5 (by decide) q_189 rfl dX9_skip_8 (t := 11) rfl ?_
    refine J_aload_n hX dX9_skip_11 0 rfl (t := 12) rfl ?_
    refine J_get hX cb7 kText 4 (by decide) q_188 rfl dX9_skip_12 (t := 15) rfl ?_
    refine J_icmp_ge (tgt := 28) hX dX9_skip_15 (by decide) (t := 18) rfl (fun z => ?_) (fun z => ?_)
    · replace hF := it_t hF z
      subst hF
      exact J_vret hX hR hlk dX9_skip_28
    · replace hF := it_f hF z
      refine J_aload_n hX dX9_skip_18 0 rfl (t := 19) rfl ?_
      refine J_dup hX dX9_skip_19 rfl (t := 20) rfl ?_
      refine J_get hX cb7 kText 5 (by decide) q_189 rfl dX9_skip_20 (t := 23) rfl ?_
      refine J_iconst (v := 1) hX dX9_skip_23 (by decide) (t := 24) rfl ?_
      refine J_iadd hX dX9_skip_24 (t := 25) rfl ?_
      obtain ⟨w1, e2, hF⟩ := bnd_e hF
      refine J_puti hX cb7 kText 5 (by decide) q_189 rfl rfl e2 (fun _ _ => Nat.le_of_ble_eq_true rfl) (fun _ _ => rfl) dX9_skip_25 (t := 28) rfl ?_
      subst hF
      exact J_vret hX hR hlk dX9_skip_28
abbrev rmX9_isSign : Room := { frames := 0, cells := 0, slots := 0, locals := 0 }
theorem miX9_isSign : MI yX9_isSign cX9_isSign 2 (some .boolean) 1 := ⟨q_1015, q_137, by decide +kernel, by decide +kernel, by decide +kernel, by decide +kernel⟩
theorem mvX9_isSign : MV yX9_isSign := ⟨q_1013, q_1014⟩
def FX9_isSign (w : Wd) (p1 : Int32) : Option (Bool) :=
  gd (inb ((w 10).1 0 5) 601) <|
  if (w 10).1 2 (((w 10).1 0 5).toNatClampNeg) = 3 then
    gd (inb ((w 10).1 0 5) 601) <|
    if lg_cmp ((w 10).2 4 (((w 10).1 0 5).toNatClampNeg)) p1.toInt64 = 0 then
      some true
    else
      some false
  else
    some false
set_option maxHeartbeats 4000000 in
set_option maxRecDepth 100000 in
theorem ctX9_isSign {G : GG} {l : Launch} (w : Wd) (p1 : Int32)  {rx : Bool} (hF : FX9_isSign w p1 = some rx) : CT G l yX9_isSign cX9_isSign 2 (some .boolean) rmX9_isSign 0 0 [.ref (adr G 10 0), .int p1] w (some (.int (bI rx))) w := by
  refine CT.of miX9_isSign [(0, .ref (adr G 10 0)), (1, .int p1)] rfl (Nat.le_of_ble_eq_true rfl) ?_
  intro p e s m args below meth c hX hR hlk
  have hX : FX G RX9 cX9_isSign 2 p s m args c := hX
  unfold FX9_isSign at hF
  refine J_aload_n hX dX9_isSign_0 0 rfl (t := 1) rfl ?_
  refine J_get hX cb7 kText 1 (by decide) q_185 rfl dX9_isSign_1 (t := 4) rfl ?_
  refine J_aload_n hX dX9_isSign_4 0 rfl (t := 5) rfl ?_
  refine J_get hX cb7 kText 5 (by decide) q_189 rfl dX9_isSign_5 (t := 8) rfl ?_
  obtain ⟨g1, hF⟩ := gd_e hF
  refine J_iald hX kKinds g1 rfl dX9_isSign_8 (t := 9) rfl ?_
  refine J_iconst (v := 3) hX dX9_isSign_9 (by decide) (t := 10) rfl ?_
  refine J_icmp_ne (tgt := 32) hX dX9_isSign_10 (by decide) (t := 13) rfl (fun z => ?_) (fun z => ?_)
  · replace hF := it_f hF z
    refine J_iconst (v := 0) hX dX9_isSign_32 (by decide) (t := 33) rfl ?_
    replace hF := Option.some.inj hF
    subst hF
    exact J_zret (b := false) hX hR hlk dX9_isSign_33
  · replace hF := it_t hF z
    refine J_aload_n hX dX9_isSign_13 0 rfl (t := 14) rfl ?_
    refine J_get hX cb7 kText 3 (by decide) q_187 rfl dX9_isSign_14 (t := 17) rfl ?_
    refine J_aload_n hX dX9_isSign_17 0 rfl (t := 18) rfl ?_
    refine J_get hX cb7 kText 5 (by decide) q_189 rfl dX9_isSign_18 (t := 21) rfl ?_
    obtain ⟨g2, hF⟩ := gd_e hF
    refine J_lald hX kValues g2 rfl dX9_isSign_21 (t := 22) rfl ?_
    refine J_iload_n hX dX9_isSign_22 1 rfl (t := 23) rfl ?_
    refine J_i2l hX dX9_isSign_23 (t := 24) rfl ?_
    refine J_lcmp hX dX9_isSign_24 (t := 25) rfl ?_
    refine J_if_ne (tgt := 32) hX dX9_isSign_25 (by decide) (t := 28) rfl (fun z => ?_) (fun z => ?_)
    · replace hF := it_f hF z
      refine J_iconst (v := 0) hX dX9_isSign_32 (by decide) (t := 33) rfl ?_
      replace hF := Option.some.inj hF
      subst hF
      exact J_zret (b := false) hX hR hlk dX9_isSign_33
    · replace hF := it_t hF z
      refine J_iconst (v := 1) hX dX9_isSign_28 (by decide) (t := 29) rfl ?_
      refine J_goto (tgt := 33) hX dX9_isSign_29 (by decide) ?_
      replace hF := Option.some.inj hF
      subst hF
      exact J_zret (b := true) hX hR hlk dX9_isSign_33
abbrev rmX9_expectSign : Room := { frames := 1, cells := 0, slots := 0, locals := 22 }
theorem miX9_expectSign : MI yX9_expectSign cX9_expectSign 2 none 1 := ⟨q_1011, q_137, by decide +kernel, by decide +kernel, by decide +kernel, by decide +kernel⟩
theorem mvX9_expectSign : MV yX9_expectSign := ⟨q_1009, q_1010⟩
def FX9_expectSign (w : Wd) (p1 : Int32) : Option (Wd) :=
  bo1 (FX9_isSign w p1) fun x2 =>
  if x2 = true then
    bo1 (FX9_failIf w false 1) fun w5 =>
    some w5
  else
    bo1 (FX9_failIf w true 1) fun w8 =>
    some w8
set_option maxHeartbeats 4000000 in
set_option maxRecDepth 100000 in
theorem ctX9_expectSign {G : GG} {l : Launch} (w : Wd) (p1 : Int32)  {rw : Wd} (hF : FX9_expectSign w p1 = some rw) : CT G l yX9_expectSign cX9_expectSign 2 none rmX9_expectSign 0 0 [.ref (adr G 10 0), .int p1] w (none) rw := by
  refine CT.of miX9_expectSign [(0, .ref (adr G 10 0)), (1, .int p1)] rfl (Nat.le_of_ble_eq_true rfl) ?_
  intro p e s m args below meth c hX hR hlk
  have hX : FX G RX9 cX9_expectSign 2 p s m args c := hX
  unfold FX9_expectSign at hF
  refine J_aload_n hX dX9_expectSign_0 0 rfl (t := 1) rfl ?_
  refine J_aload_n hX dX9_expectSign_1 0 rfl (t := 2) rfl ?_
  refine J_iload_n hX dX9_expectSign_2 1 rfl (t := 3) rfl ?_
  obtain ⟨x2, h1, hF⟩ := bo1_e hF
  have k3 := (ctX9_isSign (G := G) (l := l) w p1 h1)
  refine J_callV hX [.int p1] [.ref (adr G 10 0)] [.int (bI x2), .ref (adr G 10 0)] k3 miX9_isSign mvX9_isSign cb7 kText q_1012 ⟨rfl, rfl, Nat.le_of_ble_eq_true rfl, Nat.le_of_ble_eq_true rfl⟩ rfl rfl (Nat.le_of_ble_eq_true rfl) ⟨Nat.le_of_ble_eq_true rfl, Nat.le_of_ble_eq_true rfl⟩ dX9_expectSign_3 (t := 6) rfl rfl ?_
  refine J_ifZ_ne (tgt := 13) hX dX9_expectSign_6 (by decide) (t := 9) rfl (fun z => ?_) (fun z => ?_)
  · replace hF := it_t hF z
    refine J_iconst (v := 0) hX dX9_expectSign_13 (by decide) (t := 14) rfl ?_
    refine J_iconst (v := 1) hX dX9_expectSign_14 (by decide) (t := 15) rfl ?_
    obtain ⟨w5, h4, hF⟩ := bo1_e hF
    have k6 := (ctX9_failIf (G := G) (l := l) w false 1 h4)
    refine J_callV hX [.int (bI false), .int 1] [] [] k6 miX9_failIf mvX9_failIf cb7 kText q_1016 ⟨rfl, rfl, Nat.le_of_ble_eq_true rfl, Nat.le_of_ble_eq_true rfl⟩ rfl rfl (Nat.le_of_ble_eq_true rfl) ⟨Nat.le_of_ble_eq_true rfl, Nat.le_of_ble_eq_true rfl⟩ dX9_expectSign_15 (t := 18) rfl rfl ?_
    replace hF := Option.some.inj hF
    subst hF
    exact J_vret hX hR hlk dX9_expectSign_18
  · replace hF := ib_f hF z
    refine J_iconst (v := 1) hX dX9_expectSign_9 (by decide) (t := 10) rfl ?_
    refine J_goto (tgt := 14) hX dX9_expectSign_10 (by decide) ?_
    refine J_iconst (v := 1) hX dX9_expectSign_14 (by decide) (t := 15) rfl ?_
    obtain ⟨w8, h7, hF⟩ := bo1_e hF
    have k9 := (ctX9_failIf (G := G) (l := l) w true 1 h7)
    refine J_callV hX [.int (bI true), .int 1] [] [] k9 miX9_failIf mvX9_failIf cb7 kText q_1016 ⟨rfl, rfl, Nat.le_of_ble_eq_true rfl, Nat.le_of_ble_eq_true rfl⟩ rfl rfl (Nat.le_of_ble_eq_true rfl) ⟨Nat.le_of_ble_eq_true rfl, Nat.le_of_ble_eq_true rfl⟩ dX9_expectSign_15 (t := 18) rfl rfl ?_
    replace hF := Option.some.inj hF
    subst hF
    exact J_vret hX hR hlk dX9_expectSign_18
abbrev rmX9_takeSign : Room := { frames := 2, cells := 0, slots := 0, locals := 43 }
theorem miX9_takeSign : MI yX9_takeSign cX9_takeSign 2 none 1 := ⟨q_1007, q_137, by decide +kernel, by decide +kernel, by decide +kernel, by decide +kernel⟩
theorem mvX9_takeSign : MV yX9_takeSign := ⟨q_1005, q_1006⟩
def FX9_takeSign (w : Wd) (p1 : Int32) : Option (Wd) :=
  bo1 (FX9_expectSign w p1) fun w2 =>
  bnd (FX9_skip w2) fun w5 =>
  some w5
set_option maxHeartbeats 4000000 in
set_option maxRecDepth 100000 in
theorem ctX9_takeSign {G : GG} {l : Launch} (w : Wd) (p1 : Int32)  {rw : Wd} (hF : FX9_takeSign w p1 = some rw) : CT G l yX9_takeSign cX9_takeSign 2 none rmX9_takeSign 0 0 [.ref (adr G 10 0), .int p1] w (none) rw := by
  refine CT.of miX9_takeSign [(0, .ref (adr G 10 0)), (1, .int p1)] rfl (Nat.le_of_ble_eq_true rfl) ?_
  intro p e s m args below meth c hX hR hlk
  have hX : FX G RX9 cX9_takeSign 2 p s m args c := hX
  unfold FX9_takeSign at hF
  refine J_aload_n hX dX9_takeSign_0 0 rfl (t := 1) rfl ?_
  refine J_iload_n hX dX9_takeSign_1 1 rfl (t := 2) rfl ?_
  obtain ⟨w2, h1, hF⟩ := bo1_e hF
  have k3 := (ctX9_expectSign (G := G) (l := l) w p1 h1)
  refine J_callV hX [.int p1] [] [] k3 miX9_expectSign mvX9_expectSign cb7 kText q_1008 ⟨rfl, rfl, Nat.le_of_ble_eq_true rfl, Nat.le_of_ble_eq_true rfl⟩ rfl rfl (Nat.le_of_ble_eq_true rfl) ⟨Nat.le_of_ble_eq_true rfl, Nat.le_of_ble_eq_true rfl⟩ dX9_takeSign_2 (t := 5) rfl rfl ?_
  refine J_aload_n hX dX9_takeSign_5 0 rfl (t := 6) rfl ?_
  obtain ⟨w5, h4, hF⟩ := bnd_e hF
  have k6 := (ctX9_skip (G := G) (l := l) w2  h4)
  refine J_callV hX [] [] [] k6 miX9_skip mvX9_skip cb7 kText q_1017 ⟨rfl, rfl, Nat.le_of_ble_eq_true rfl, Nat.le_of_ble_eq_true rfl⟩ rfl rfl (Nat.le_of_ble_eq_true rfl) ⟨Nat.le_of_ble_eq_true rfl, Nat.le_of_ble_eq_true rfl⟩ dX9_takeSign_6 (t := 9) rfl rfl ?_
  replace hF := Option.some.inj hF
  subst hF
  exact J_vret hX hR hlk dX9_takeSign_9
abbrev rmX9_hasMore : Room := { frames := 0, cells := 0, slots := 0, locals := 0 }
theorem miX9_hasMore : MI yX9_hasMore cX9_hasMore 1 (some .boolean) 0 := ⟨q_1021, q_137, by decide +kernel, by decide +kernel, by decide +kernel, by decide +kernel⟩
theorem mvX9_hasMore : MV yX9_hasMore := ⟨q_1019, q_1020⟩
def FX9_hasMore (w : Wd)  : Option (Bool) :=
  if (w 10).1 0 7 = 0 then
    gd (inb ((w 10).1 0 5) 601) <|
    if (w 10).1 2 (((w 10).1 0 5).toNatClampNeg) = 0 then
      some false
    else
      some true
  else
    some false
set_option maxHeartbeats 4000000 in
set_option maxRecDepth 100000 in
theorem ctX9_hasMore {G : GG} {l : Launch} (w : Wd)   {rx : Bool} (hF : FX9_hasMore w  = some rx) : CT G l yX9_hasMore cX9_hasMore 1 (some .boolean) rmX9_hasMore 0 0 [.ref (adr G 10 0)] w (some (.int (bI rx))) w := by
  refine CT.of miX9_hasMore [(0, .ref (adr G 10 0))] rfl (Nat.le_of_ble_eq_true rfl) ?_
  intro p e s m args below meth c hX hR hlk
  have hX : FX G RX9 cX9_hasMore 1 p s m args c := hX
  unfold FX9_hasMore at hF
  refine J_aload_n hX dX9_hasMore_0 0 rfl (t := 1) rfl ?_
  refine J_get hX cb7 kText 7 (by decide) q_192 rfl dX9_hasMore_1 (t := 4) rfl ?_
  refine J_if_ne (tgt := 23) hX dX9_hasMore_4 (by decide) (t := 7) rfl (fun z => ?_) (fun z => ?_)
  · replace hF := it_f hF z
    refine J_iconst (v := 0) hX dX9_hasMore_23 (by decide) (t := 24) rfl ?_
    replace hF := Option.some.inj hF
    subst hF
    exact J_zret (b := false) hX hR hlk dX9_hasMore_24
  · replace hF := it_t hF z
    refine J_aload_n hX dX9_hasMore_7 0 rfl (t := 8) rfl ?_
    refine J_get hX cb7 kText 1 (by decide) q_185 rfl dX9_hasMore_8 (t := 11) rfl ?_
    refine J_aload_n hX dX9_hasMore_11 0 rfl (t := 12) rfl ?_
    refine J_get hX cb7 kText 5 (by decide) q_189 rfl dX9_hasMore_12 (t := 15) rfl ?_
    obtain ⟨g1, hF⟩ := gd_e hF
    refine J_iald hX kKinds g1 rfl dX9_hasMore_15 (t := 16) rfl ?_
    refine J_if_eq (tgt := 23) hX dX9_hasMore_16 (by decide) (t := 19) rfl (fun z => ?_) (fun z => ?_)
    · replace hF := it_t hF z
      refine J_iconst (v := 0) hX dX9_hasMore_23 (by decide) (t := 24) rfl ?_
      replace hF := Option.some.inj hF
      subst hF
      exact J_zret (b := false) hX hR hlk dX9_hasMore_24
    · replace hF := it_f hF z
      refine J_iconst (v := 1) hX dX9_hasMore_19 (by decide) (t := 20) rfl ?_
      refine J_goto (tgt := 24) hX dX9_hasMore_20 (by decide) ?_
      replace hF := Option.some.inj hF
      subst hF
      exact J_zret (b := true) hX hR hlk dX9_hasMore_24
abbrev rmX9_word : Room := { frames := 0, cells := 0, slots := 0, locals := 0 }
theorem miX9_word : MI yX9_word cX9_word 1 (some .long) 0 := ⟨q_1045, q_137, by decide +kernel, by decide +kernel, by decide +kernel, by decide +kernel⟩
theorem mvX9_word : MV yX9_word := ⟨q_1043, q_1044⟩
def FX9_word (w : Wd)  : Option (Int64) :=
  gd (inb ((w 10).1 0 5) 601) <|
  if (w 10).1 2 (((w 10).1 0 5).toNatClampNeg) = 1 then
    gd (inb ((w 10).1 0 5) 601) <|
    some ((w 10).2 4 (((w 10).1 0 5).toNatClampNeg))
  else
    some 0
set_option maxHeartbeats 4000000 in
set_option maxRecDepth 100000 in
theorem ctX9_word {G : GG} {l : Launch} (w : Wd)   {rx : Int64} (hF : FX9_word w  = some rx) : CT G l yX9_word cX9_word 1 (some .long) rmX9_word 0 0 [.ref (adr G 10 0)] w (some (.long rx)) w := by
  refine CT.of miX9_word [(0, .ref (adr G 10 0))] rfl (Nat.le_of_ble_eq_true rfl) ?_
  intro p e s m args below meth c hX hR hlk
  have hX : FX G RX9 cX9_word 1 p s m args c := hX
  unfold FX9_word at hF
  refine J_aload_n hX dX9_word_0 0 rfl (t := 1) rfl ?_
  refine J_get hX cb7 kText 1 (by decide) q_185 rfl dX9_word_1 (t := 4) rfl ?_
  refine J_aload_n hX dX9_word_4 0 rfl (t := 5) rfl ?_
  refine J_get hX cb7 kText 5 (by decide) q_189 rfl dX9_word_5 (t := 8) rfl ?_
  obtain ⟨g1, hF⟩ := gd_e hF
  refine J_iald hX kKinds g1 rfl dX9_word_8 (t := 9) rfl ?_
  refine J_iconst (v := 1) hX dX9_word_9 (by decide) (t := 10) rfl ?_
  refine J_icmp_ne (tgt := 25) hX dX9_word_10 (by decide) (t := 13) rfl (fun z => ?_) (fun z => ?_)
  · replace hF := it_f hF z
    refine J_lconst (v := 0) hX dX9_word_25 (by decide) (t := 26) rfl ?_
    replace hF := Option.some.inj hF
    subst hF
    exact J_lret hX hR hlk dX9_word_26
  · replace hF := it_t hF z
    refine J_aload_n hX dX9_word_13 0 rfl (t := 14) rfl ?_
    refine J_get hX cb7 kText 3 (by decide) q_187 rfl dX9_word_14 (t := 17) rfl ?_
    refine J_aload_n hX dX9_word_17 0 rfl (t := 18) rfl ?_
    refine J_get hX cb7 kText 5 (by decide) q_189 rfl dX9_word_18 (t := 21) rfl ?_
    obtain ⟨g2, hF⟩ := gd_e hF
    refine J_lald hX kValues g2 rfl dX9_word_21 (t := 22) rfl ?_
    refine J_goto (tgt := 26) hX dX9_word_22 (by decide) ?_
    replace hF := Option.some.inj hF
    subst hF
    exact J_lret hX hR hlk dX9_word_26
abbrev rmX9_takeNewName : Room := { frames := 1, cells := 0, slots := 0, locals := 22 }
theorem miX9_takeNewName : MI yX9_takeNewName cX9_takeNewName 4 (some .long) 1 := ⟨q_1050, q_137, by decide +kernel, by decide +kernel, by decide +kernel, by decide +kernel⟩
theorem mvX9_takeNewName : MV yX9_takeNewName := ⟨q_1048, q_1049⟩
def FX9_takeNewName (w : Wd) (p1 : Int32) : Option (Int64 × Wd) :=
  bo1 (FX9_word w) fun x2 =>
  gd (inb ((w 10).1 0 5) 601) <|
  if (w 10).1 2 (((w 10).1 0 5).toNatClampNeg) = 1 then
    bo1 (FX9_failIf w false 1) fun w6 =>
    if p1 = (-1) then
      bo1 (FX9_failIf w6 false 3) fun w9 =>
      bnd (FX9_skip w9) fun w12 =>
      some (x2, w12)
    else
      bo1 (FX9_failIf w6 true 3) fun w15 =>
      bnd (FX9_skip w15) fun w18 =>
      some (x2, w18)
  else
    bo1 (FX9_failIf w true 1) fun w21 =>
    if p1 = (-1) then
      bo1 (FX9_failIf w21 false 3) fun w24 =>
      bnd (FX9_skip w24) fun w27 =>
      some (x2, w27)
    else
      bo1 (FX9_failIf w21 true 3) fun w30 =>
      bnd (FX9_skip w30) fun w33 =>
      some (x2, w33)
set_option maxHeartbeats 4000000 in
set_option maxRecDepth 100000 in
theorem ctX9_takeNewName {G : GG} {l : Launch} (w : Wd) (p1 : Int32)  {rx : Int64} {rw : Wd} (hF : FX9_takeNewName w p1 = some (rx, rw)) : CT G l yX9_takeNewName cX9_takeNewName 4 (some .long) rmX9_takeNewName 0 0 [.ref (adr G 10 0), .int p1] w (some (.long rx)) rw := by
  refine CT.of miX9_takeNewName [(0, .ref (adr G 10 0)), (1, .int p1)] rfl (Nat.le_of_ble_eq_true rfl) ?_
  intro p e s m args below meth c hX hR hlk
  have hX : FX G RX9 cX9_takeNewName 4 p s m args c := hX
  unfold FX9_takeNewName at hF
  refine J_aload_n hX dX9_takeNewName_0 0 rfl (t := 1) rfl ?_
  obtain ⟨x2, h1, hF⟩ := bo1_e hF
  have k3 := (ctX9_word (G := G) (l := l) w  h1)
  refine J_callV hX [] [] [.long x2] k3 miX9_word mvX9_word cb7 kText q_1051 ⟨rfl, rfl, Nat.le_of_ble_eq_true rfl, Nat.le_of_ble_eq_true rfl⟩ rfl rfl (Nat.le_of_ble_eq_true rfl) ⟨Nat.le_of_ble_eq_true rfl, Nat.le_of_ble_eq_true rfl⟩ dX9_takeNewName_1 (t := 4) rfl rfl ?_
  refine J_lstore_n (lc2 := [(2, .long x2), (0, .ref (adr G 10 0)), (1, .int p1)]) hX dX9_takeNewName_4 rfl (Nat.le_of_ble_eq_true rfl) rfl (t := 5) rfl ?_
  refine J_aload_n hX dX9_takeNewName_5 1 rfl (t := 6) rfl ?_
  refine J_aload_n hX dX9_takeNewName_6 1 rfl (t := 7) rfl ?_
  refine J_get hX cb7 kText 1 (by decide) q_185 rfl dX9_takeNewName_7 (t := 10) rfl ?_
  refine J_aload_n hX dX9_takeNewName_10 1 rfl (t := 11) rfl ?_
  refine J_get hX cb7 kText 5 (by decide) q_189 rfl dX9_takeNewName_11 (t := 14) rfl ?_
  obtain ⟨g4, hF⟩ := gd_e hF
  refine J_iald hX kKinds g4 rfl dX9_takeNewName_14 (t := 15) rfl ?_
  refine J_iconst (v := 1) hX dX9_takeNewName_15 (by decide) (t := 16) rfl ?_
  refine J_icmp_eq (tgt := 23) hX dX9_takeNewName_16 (by decide) (t := 19) rfl (fun z => ?_) (fun z => ?_)
  · replace hF := it_t hF z
    refine J_iconst (v := 0) hX dX9_takeNewName_23 (by decide) (t := 24) rfl ?_
    refine J_iconst (v := 1) hX dX9_takeNewName_24 (by decide) (t := 25) rfl ?_
    obtain ⟨w6, h5, hF⟩ := bo1_e hF
    have k7 := (ctX9_failIf (G := G) (l := l) w false 1 h5)
    refine J_callV hX [.int (bI false), .int 1] [] [] k7 miX9_failIf mvX9_failIf cb7 kText q_1016 ⟨rfl, rfl, Nat.le_of_ble_eq_true rfl, Nat.le_of_ble_eq_true rfl⟩ rfl rfl (Nat.le_of_ble_eq_true rfl) ⟨Nat.le_of_ble_eq_true rfl, Nat.le_of_ble_eq_true rfl⟩ dX9_takeNewName_25 (t := 28) rfl rfl ?_
    refine J_aload_n hX dX9_takeNewName_28 1 rfl (t := 29) rfl ?_
    refine J_iload_n hX dX9_takeNewName_29 2 rfl (t := 30) rfl ?_
    refine J_iconst (v := (-1)) hX dX9_takeNewName_30 (by decide) (t := 31) rfl ?_
    refine J_icmp_eq (tgt := 38) hX dX9_takeNewName_31 (by decide) (t := 34) rfl (fun z => ?_) (fun z => ?_)
    · replace hF := it_t hF z
      refine J_iconst (v := 0) hX dX9_takeNewName_38 (by decide) (t := 39) rfl ?_
      refine J_iconst (v := 3) hX dX9_takeNewName_39 (by decide) (t := 40) rfl ?_
      obtain ⟨w9, h8, hF⟩ := bo1_e hF
      have k10 := (ctX9_failIf (G := G) (l := l) w6 false 3 h8)
      refine J_callV hX [.int (bI false), .int 3] [] [] k10 miX9_failIf mvX9_failIf cb7 kText q_1016 ⟨rfl, rfl, Nat.le_of_ble_eq_true rfl, Nat.le_of_ble_eq_true rfl⟩ rfl rfl (Nat.le_of_ble_eq_true rfl) ⟨Nat.le_of_ble_eq_true rfl, Nat.le_of_ble_eq_true rfl⟩ dX9_takeNewName_40 (t := 43) rfl rfl ?_
      refine J_aload_n hX dX9_takeNewName_43 1 rfl (t := 44) rfl ?_
      obtain ⟨w12, h11, hF⟩ := bnd_e hF
      have k13 := (ctX9_skip (G := G) (l := l) w9  h11)
      refine J_callV hX [] [] [] k13 miX9_skip mvX9_skip cb7 kText q_1017 ⟨rfl, rfl, Nat.le_of_ble_eq_true rfl, Nat.le_of_ble_eq_true rfl⟩ rfl rfl (Nat.le_of_ble_eq_true rfl) ⟨Nat.le_of_ble_eq_true rfl, Nat.le_of_ble_eq_true rfl⟩ dX9_takeNewName_44 (t := 47) rfl rfl ?_
      refine J_lload_n hX dX9_takeNewName_47 0 rfl (t := 48) rfl ?_
      replace hF := Option.some.inj hF
      obtain ⟨hF, hF2⟩ := Prod.mk.inj hF
      subst hF
      subst hF2
      exact J_lret hX hR hlk dX9_takeNewName_48
    · replace hF := it_f hF z
      refine J_iconst (v := 1) hX dX9_takeNewName_34 (by decide) (t := 35) rfl ?_
      refine J_goto (tgt := 39) hX dX9_takeNewName_35 (by decide) ?_
      refine J_iconst (v := 3) hX dX9_takeNewName_39 (by decide) (t := 40) rfl ?_
      obtain ⟨w15, h14, hF⟩ := bo1_e hF
      have k16 := (ctX9_failIf (G := G) (l := l) w6 true 3 h14)
      refine J_callV hX [.int (bI true), .int 3] [] [] k16 miX9_failIf mvX9_failIf cb7 kText q_1016 ⟨rfl, rfl, Nat.le_of_ble_eq_true rfl, Nat.le_of_ble_eq_true rfl⟩ rfl rfl (Nat.le_of_ble_eq_true rfl) ⟨Nat.le_of_ble_eq_true rfl, Nat.le_of_ble_eq_true rfl⟩ dX9_takeNewName_40 (t := 43) rfl rfl ?_
      refine J_aload_n hX dX9_takeNewName_43 1 rfl (t := 44) rfl ?_
      obtain ⟨w18, h17, hF⟩ := bnd_e hF
      have k19 := (ctX9_skip (G := G) (l := l) w15  h17)
      refine J_callV hX [] [] [] k19 miX9_skip mvX9_skip cb7 kText q_1017 ⟨rfl, rfl, Nat.le_of_ble_eq_true rfl, Nat.le_of_ble_eq_true rfl⟩ rfl rfl (Nat.le_of_ble_eq_true rfl) ⟨Nat.le_of_ble_eq_true rfl, Nat.le_of_ble_eq_true rfl⟩ dX9_takeNewName_44 (t := 47) rfl rfl ?_
      refine J_lload_n hX dX9_takeNewName_47 0 rfl (t := 48) rfl ?_
      replace hF := Option.some.inj hF
      obtain ⟨hF, hF2⟩ := Prod.mk.inj hF
      subst hF
      subst hF2
      exact J_lret hX hR hlk dX9_takeNewName_48
  · replace hF := it_f hF z
    refine J_iconst (v := 1) hX dX9_takeNewName_19 (by decide) (t := 20) rfl ?_
    refine J_goto (tgt := 24) hX dX9_takeNewName_20 (by decide) ?_
    refine J_iconst (v := 1) hX dX9_takeNewName_24 (by decide) (t := 25) rfl ?_
    obtain ⟨w21, h20, hF⟩ := bo1_e hF
    have k22 := (ctX9_failIf (G := G) (l := l) w true 1 h20)
    refine J_callV hX [.int (bI true), .int 1] [] [] k22 miX9_failIf mvX9_failIf cb7 kText q_1016 ⟨rfl, rfl, Nat.le_of_ble_eq_true rfl, Nat.le_of_ble_eq_true rfl⟩ rfl rfl (Nat.le_of_ble_eq_true rfl) ⟨Nat.le_of_ble_eq_true rfl, Nat.le_of_ble_eq_true rfl⟩ dX9_takeNewName_25 (t := 28) rfl rfl ?_
    refine J_aload_n hX dX9_takeNewName_28 1 rfl (t := 29) rfl ?_
    refine J_iload_n hX dX9_takeNewName_29 2 rfl (t := 30) rfl ?_
    refine J_iconst (v := (-1)) hX dX9_takeNewName_30 (by decide) (t := 31) rfl ?_
    refine J_icmp_eq (tgt := 38) hX dX9_takeNewName_31 (by decide) (t := 34) rfl (fun z => ?_) (fun z => ?_)
    · replace hF := it_t hF z
      refine J_iconst (v := 0) hX dX9_takeNewName_38 (by decide) (t := 39) rfl ?_
      refine J_iconst (v := 3) hX dX9_takeNewName_39 (by decide) (t := 40) rfl ?_
      obtain ⟨w24, h23, hF⟩ := bo1_e hF
      have k25 := (ctX9_failIf (G := G) (l := l) w21 false 3 h23)
      refine J_callV hX [.int (bI false), .int 3] [] [] k25 miX9_failIf mvX9_failIf cb7 kText q_1016 ⟨rfl, rfl, Nat.le_of_ble_eq_true rfl, Nat.le_of_ble_eq_true rfl⟩ rfl rfl (Nat.le_of_ble_eq_true rfl) ⟨Nat.le_of_ble_eq_true rfl, Nat.le_of_ble_eq_true rfl⟩ dX9_takeNewName_40 (t := 43) rfl rfl ?_
      refine J_aload_n hX dX9_takeNewName_43 1 rfl (t := 44) rfl ?_
      obtain ⟨w27, h26, hF⟩ := bnd_e hF
      have k28 := (ctX9_skip (G := G) (l := l) w24  h26)
      refine J_callV hX [] [] [] k28 miX9_skip mvX9_skip cb7 kText q_1017 ⟨rfl, rfl, Nat.le_of_ble_eq_true rfl, Nat.le_of_ble_eq_true rfl⟩ rfl rfl (Nat.le_of_ble_eq_true rfl) ⟨Nat.le_of_ble_eq_true rfl, Nat.le_of_ble_eq_true rfl⟩ dX9_takeNewName_44 (t := 47) rfl rfl ?_
      refine J_lload_n hX dX9_takeNewName_47 0 rfl (t := 48) rfl ?_
      replace hF := Option.some.inj hF
      obtain ⟨hF, hF2⟩ := Prod.mk.inj hF
      subst hF
      subst hF2
      exact J_lret hX hR hlk dX9_takeNewName_48
    · replace hF := it_f hF z
      refine J_iconst (v := 1) hX dX9_takeNewName_34 (by decide) (t := 35) rfl ?_
      refine J_goto (tgt := 39) hX dX9_takeNewName_35 (by decide) ?_
      refine J_iconst (v := 3) hX dX9_takeNewName_39 (by decide) (t := 40) rfl ?_
      obtain ⟨w30, h29, hF⟩ := bo1_e hF
      have k31 := (ctX9_failIf (G := G) (l := l) w21 true 3 h29)
      refine J_callV hX [.int (bI true), .int 3] [] [] k31 miX9_failIf mvX9_failIf cb7 kText q_1016 ⟨rfl, rfl, Nat.le_of_ble_eq_true rfl, Nat.le_of_ble_eq_true rfl⟩ rfl rfl (Nat.le_of_ble_eq_true rfl) ⟨Nat.le_of_ble_eq_true rfl, Nat.le_of_ble_eq_true rfl⟩ dX9_takeNewName_40 (t := 43) rfl rfl ?_
      refine J_aload_n hX dX9_takeNewName_43 1 rfl (t := 44) rfl ?_
      obtain ⟨w33, h32, hF⟩ := bnd_e hF
      have k34 := (ctX9_skip (G := G) (l := l) w30  h32)
      refine J_callV hX [] [] [] k34 miX9_skip mvX9_skip cb7 kText q_1017 ⟨rfl, rfl, Nat.le_of_ble_eq_true rfl, Nat.le_of_ble_eq_true rfl⟩ rfl rfl (Nat.le_of_ble_eq_true rfl) ⟨Nat.le_of_ble_eq_true rfl, Nat.le_of_ble_eq_true rfl⟩ dX9_takeNewName_44 (t := 47) rfl rfl ?_
      refine J_lload_n hX dX9_takeNewName_47 0 rfl (t := 48) rfl ?_
      replace hF := Option.some.inj hF
      obtain ⟨hF, hF2⟩ := Prod.mk.inj hF
      subst hF
      subst hF2
      exact J_lret hX hR hlk dX9_takeNewName_48
abbrev rmX9_number : Room := { frames := 0, cells := 0, slots := 0, locals := 0 }
theorem miX9_number : MI yX9_number cX9_number 1 (some .int) 0 := ⟨q_1059, q_137, by decide +kernel, by decide +kernel, by decide +kernel, by decide +kernel⟩
theorem mvX9_number : MV yX9_number := ⟨q_1057, q_1058⟩
def FX9_number (w : Wd)  : Option (Int32) :=
  gd (inb ((w 10).1 0 5) 601) <|
  if (w 10).1 2 (((w 10).1 0 5).toNatClampNeg) = 2 then
    gd (inb ((w 10).1 0 5) 601) <|
    some (((w 10).2 4 (((w 10).1 0 5).toNatClampNeg)).toInt32)
  else
    some (-1)
set_option maxHeartbeats 4000000 in
set_option maxRecDepth 100000 in
theorem ctX9_number {G : GG} {l : Launch} (w : Wd)   {rx : Int32} (hF : FX9_number w  = some rx) : CT G l yX9_number cX9_number 1 (some .int) rmX9_number 0 0 [.ref (adr G 10 0)] w (some (.int rx)) w := by
  refine CT.of miX9_number [(0, .ref (adr G 10 0))] rfl (Nat.le_of_ble_eq_true rfl) ?_
  intro p e s m args below meth c hX hR hlk
  have hX : FX G RX9 cX9_number 1 p s m args c := hX
  unfold FX9_number at hF
  refine J_aload_n hX dX9_number_0 0 rfl (t := 1) rfl ?_
  refine J_get hX cb7 kText 1 (by decide) q_185 rfl dX9_number_1 (t := 4) rfl ?_
  refine J_aload_n hX dX9_number_4 0 rfl (t := 5) rfl ?_
  refine J_get hX cb7 kText 5 (by decide) q_189 rfl dX9_number_5 (t := 8) rfl ?_
  obtain ⟨g1, hF⟩ := gd_e hF
  refine J_iald hX kKinds g1 rfl dX9_number_8 (t := 9) rfl ?_
  refine J_iconst (v := 2) hX dX9_number_9 (by decide) (t := 10) rfl ?_
  refine J_icmp_ne (tgt := 26) hX dX9_number_10 (by decide) (t := 13) rfl (fun z => ?_) (fun z => ?_)
  · replace hF := it_f hF z
    refine J_iconst (v := (-1)) hX dX9_number_26 (by decide) (t := 27) rfl ?_
    replace hF := Option.some.inj hF
    subst hF
    exact J_iret hX hR hlk dX9_number_27
  · replace hF := it_t hF z
    refine J_aload_n hX dX9_number_13 0 rfl (t := 14) rfl ?_
    refine J_get hX cb7 kText 3 (by decide) q_187 rfl dX9_number_14 (t := 17) rfl ?_
    refine J_aload_n hX dX9_number_17 0 rfl (t := 18) rfl ?_
    refine J_get hX cb7 kText 5 (by decide) q_189 rfl dX9_number_18 (t := 21) rfl ?_
    obtain ⟨g2, hF⟩ := gd_e hF
    refine J_lald hX kValues g2 rfl dX9_number_21 (t := 22) rfl ?_
    refine J_l2i hX dX9_number_22 (t := 23) rfl ?_
    refine J_goto (tgt := 27) hX dX9_number_23 (by decide) ?_
    replace hF := Option.some.inj hF
    subst hF
    exact J_iret hX hR hlk dX9_number_27
abbrev rmX9_expectNumber : Room := { frames := 1, cells := 0, slots := 0, locals := 22 }
theorem miX9_expectNumber : MI yX9_expectNumber cX9_expectNumber 3 none 2 := ⟨q_1063, q_137, by decide +kernel, by decide +kernel, by decide +kernel, by decide +kernel⟩
theorem mvX9_expectNumber : MV yX9_expectNumber := ⟨q_1061, q_1062⟩
def FX9_expectNumber (w : Wd) (p1 : Int32) (p2 : Int32) : Option (Wd) :=
  gd (inb ((w 10).1 0 5) 601) <|
  if (w 10).1 2 (((w 10).1 0 5).toNatClampNeg) = 2 then
    bo1 (FX9_failIf w false 1) fun w3 =>
    bo1 (FX9_number w3) fun x6 =>
    bnd (FX12_isWithin x6 p1 p2) fun x9 =>
    if x9 = true then
      bo1 (FX9_failIf w3 false 2) fun w12 =>
      some w12
    else
      bo1 (FX9_failIf w3 true 2) fun w15 =>
      some w15
  else
    bo1 (FX9_failIf w true 1) fun w18 =>
    bo1 (FX9_number w18) fun x21 =>
    bnd (FX12_isWithin x21 p1 p2) fun x24 =>
    if x24 = true then
      bo1 (FX9_failIf w18 false 2) fun w27 =>
      some w27
    else
      bo1 (FX9_failIf w18 true 2) fun w30 =>
      some w30
set_option maxHeartbeats 4000000 in
set_option maxRecDepth 100000 in
theorem ctX9_expectNumber {G : GG} {l : Launch} (w : Wd) (p1 : Int32) (p2 : Int32)  {rw : Wd} (hF : FX9_expectNumber w p1 p2 = some rw) : CT G l yX9_expectNumber cX9_expectNumber 3 none rmX9_expectNumber 0 0 [.ref (adr G 10 0), .int p1, .int p2] w (none) rw := by
  refine CT.of miX9_expectNumber [(0, .ref (adr G 10 0)), (1, .int p1), (2, .int p2)] rfl (Nat.le_of_ble_eq_true rfl) ?_
  intro p e s m args below meth c hX hR hlk
  have hX : FX G RX9 cX9_expectNumber 3 p s m args c := hX
  unfold FX9_expectNumber at hF
  refine J_aload_n hX dX9_expectNumber_0 0 rfl (t := 1) rfl ?_
  refine J_aload_n hX dX9_expectNumber_1 0 rfl (t := 2) rfl ?_
  refine J_get hX cb7 kText 1 (by decide) q_185 rfl dX9_expectNumber_2 (t := 5) rfl ?_
  refine J_aload_n hX dX9_expectNumber_5 0 rfl (t := 6) rfl ?_
  refine J_get hX cb7 kText 5 (by decide) q_189 rfl dX9_expectNumber_6 (t := 9) rfl ?_
  obtain ⟨g1, hF⟩ := gd_e hF
  refine J_iald hX kKinds g1 rfl dX9_expectNumber_9 (t := 10) rfl ?_
  refine J_iconst (v := 2) hX dX9_expectNumber_10 (by decide) (t := 11) rfl ?_
  refine J_icmp_eq (tgt := 18) hX dX9_expectNumber_11 (by decide) (t := 14) rfl (fun z => ?_) (fun z => ?_)
  · replace hF := it_t hF z
    refine J_iconst (v := 0) hX dX9_expectNumber_18 (by decide) (t := 19) rfl ?_
    refine J_iconst (v := 1) hX dX9_expectNumber_19 (by decide) (t := 20) rfl ?_
    obtain ⟨w3, h2, hF⟩ := bo1_e hF
    have k4 := (ctX9_failIf (G := G) (l := l) w false 1 h2)
    refine J_callV hX [.int (bI false), .int 1] [] [] k4 miX9_failIf mvX9_failIf cb7 kText q_1016 ⟨rfl, rfl, Nat.le_of_ble_eq_true rfl, Nat.le_of_ble_eq_true rfl⟩ rfl rfl (Nat.le_of_ble_eq_true rfl) ⟨Nat.le_of_ble_eq_true rfl, Nat.le_of_ble_eq_true rfl⟩ dX9_expectNumber_20 (t := 23) rfl rfl ?_
    refine J_aload_n hX dX9_expectNumber_23 0 rfl (t := 24) rfl ?_
    refine J_aload_n hX dX9_expectNumber_24 0 rfl (t := 25) rfl ?_
    obtain ⟨x6, h5, hF⟩ := bo1_e hF
    have k7 := (ctX9_number (G := G) (l := l) w3  h5)
    refine J_callV hX [] [.ref (adr G 10 0)] [.int x6, .ref (adr G 10 0)] k7 miX9_number mvX9_number cb7 kText q_1056 ⟨rfl, rfl, Nat.le_of_ble_eq_true rfl, Nat.le_of_ble_eq_true rfl⟩ rfl rfl (Nat.le_of_ble_eq_true rfl) ⟨Nat.le_of_ble_eq_true rfl, Nat.le_of_ble_eq_true rfl⟩ dX9_expectNumber_25 (t := 28) rfl rfl ?_
    refine J_iload_n hX dX9_expectNumber_28 1 rfl (t := 29) rfl ?_
    refine J_iload_n hX dX9_expectNumber_29 2 rfl (t := 30) rfl ?_
    obtain ⟨x9, h8, hF⟩ := bnd_e hF
    have k10 := (ctX12_isWithin (l := l) (G := G) (w := w3) x6 p1 p2 h8)
    refine J_callSN hX [.int x6, .int p1, .int p2] [.ref (adr G 10 0)] [.int (bI x9), .ref (adr G 10 0)] k10 miX12_isWithin q_655 (by simp [nestL]) ⟨rfl, rfl, Nat.le_of_ble_eq_true rfl, Nat.le_of_ble_eq_true rfl⟩ rfl rfl (Nat.le_of_ble_eq_true rfl) ⟨Nat.le_of_ble_eq_true rfl, Nat.le_of_ble_eq_true rfl⟩ dX9_expectNumber_30 (t := 33) rfl rfl ?_
    refine J_ifZ_ne (tgt := 40) hX dX9_expectNumber_33 (by decide) (t := 36) rfl (fun z => ?_) (fun z => ?_)
    · replace hF := it_t hF z
      refine J_iconst (v := 0) hX dX9_expectNumber_40 (by decide) (t := 41) rfl ?_
      refine J_iconst (v := 2) hX dX9_expectNumber_41 (by decide) (t := 42) rfl ?_
      obtain ⟨w12, h11, hF⟩ := bo1_e hF
      have k13 := (ctX9_failIf (G := G) (l := l) w3 false 2 h11)
      refine J_callV hX [.int (bI false), .int 2] [] [] k13 miX9_failIf mvX9_failIf cb7 kText q_1016 ⟨rfl, rfl, Nat.le_of_ble_eq_true rfl, Nat.le_of_ble_eq_true rfl⟩ rfl rfl (Nat.le_of_ble_eq_true rfl) ⟨Nat.le_of_ble_eq_true rfl, Nat.le_of_ble_eq_true rfl⟩ dX9_expectNumber_42 (t := 45) rfl rfl ?_
      replace hF := Option.some.inj hF
      subst hF
      exact J_vret hX hR hlk dX9_expectNumber_45
    · replace hF := ib_f hF z
      refine J_iconst (v := 1) hX dX9_expectNumber_36 (by decide) (t := 37) rfl ?_
      refine J_goto (tgt := 41) hX dX9_expectNumber_37 (by decide) ?_
      refine J_iconst (v := 2) hX dX9_expectNumber_41 (by decide) (t := 42) rfl ?_
      obtain ⟨w15, h14, hF⟩ := bo1_e hF
      have k16 := (ctX9_failIf (G := G) (l := l) w3 true 2 h14)
      refine J_callV hX [.int (bI true), .int 2] [] [] k16 miX9_failIf mvX9_failIf cb7 kText q_1016 ⟨rfl, rfl, Nat.le_of_ble_eq_true rfl, Nat.le_of_ble_eq_true rfl⟩ rfl rfl (Nat.le_of_ble_eq_true rfl) ⟨Nat.le_of_ble_eq_true rfl, Nat.le_of_ble_eq_true rfl⟩ dX9_expectNumber_42 (t := 45) rfl rfl ?_
      replace hF := Option.some.inj hF
      subst hF
      exact J_vret hX hR hlk dX9_expectNumber_45
  · replace hF := it_f hF z
    refine J_iconst (v := 1) hX dX9_expectNumber_14 (by decide) (t := 15) rfl ?_
    refine J_goto (tgt := 19) hX dX9_expectNumber_15 (by decide) ?_
    refine J_iconst (v := 1) hX dX9_expectNumber_19 (by decide) (t := 20) rfl ?_
    obtain ⟨w18, h17, hF⟩ := bo1_e hF
    have k19 := (ctX9_failIf (G := G) (l := l) w true 1 h17)
    refine J_callV hX [.int (bI true), .int 1] [] [] k19 miX9_failIf mvX9_failIf cb7 kText q_1016 ⟨rfl, rfl, Nat.le_of_ble_eq_true rfl, Nat.le_of_ble_eq_true rfl⟩ rfl rfl (Nat.le_of_ble_eq_true rfl) ⟨Nat.le_of_ble_eq_true rfl, Nat.le_of_ble_eq_true rfl⟩ dX9_expectNumber_20 (t := 23) rfl rfl ?_
    refine J_aload_n hX dX9_expectNumber_23 0 rfl (t := 24) rfl ?_
    refine J_aload_n hX dX9_expectNumber_24 0 rfl (t := 25) rfl ?_
    obtain ⟨x21, h20, hF⟩ := bo1_e hF
    have k22 := (ctX9_number (G := G) (l := l) w18  h20)
    refine J_callV hX [] [.ref (adr G 10 0)] [.int x21, .ref (adr G 10 0)] k22 miX9_number mvX9_number cb7 kText q_1056 ⟨rfl, rfl, Nat.le_of_ble_eq_true rfl, Nat.le_of_ble_eq_true rfl⟩ rfl rfl (Nat.le_of_ble_eq_true rfl) ⟨Nat.le_of_ble_eq_true rfl, Nat.le_of_ble_eq_true rfl⟩ dX9_expectNumber_25 (t := 28) rfl rfl ?_
    refine J_iload_n hX dX9_expectNumber_28 1 rfl (t := 29) rfl ?_
    refine J_iload_n hX dX9_expectNumber_29 2 rfl (t := 30) rfl ?_
    obtain ⟨x24, h23, hF⟩ := bnd_e hF
    have k25 := (ctX12_isWithin (l := l) (G := G) (w := w18) x21 p1 p2 h23)
    refine J_callSN hX [.int x21, .int p1, .int p2] [.ref (adr G 10 0)] [.int (bI x24), .ref (adr G 10 0)] k25 miX12_isWithin q_655 (by simp [nestL]) ⟨rfl, rfl, Nat.le_of_ble_eq_true rfl, Nat.le_of_ble_eq_true rfl⟩ rfl rfl (Nat.le_of_ble_eq_true rfl) ⟨Nat.le_of_ble_eq_true rfl, Nat.le_of_ble_eq_true rfl⟩ dX9_expectNumber_30 (t := 33) rfl rfl ?_
    refine J_ifZ_ne (tgt := 40) hX dX9_expectNumber_33 (by decide) (t := 36) rfl (fun z => ?_) (fun z => ?_)
    · replace hF := it_t hF z
      refine J_iconst (v := 0) hX dX9_expectNumber_40 (by decide) (t := 41) rfl ?_
      refine J_iconst (v := 2) hX dX9_expectNumber_41 (by decide) (t := 42) rfl ?_
      obtain ⟨w27, h26, hF⟩ := bo1_e hF
      have k28 := (ctX9_failIf (G := G) (l := l) w18 false 2 h26)
      refine J_callV hX [.int (bI false), .int 2] [] [] k28 miX9_failIf mvX9_failIf cb7 kText q_1016 ⟨rfl, rfl, Nat.le_of_ble_eq_true rfl, Nat.le_of_ble_eq_true rfl⟩ rfl rfl (Nat.le_of_ble_eq_true rfl) ⟨Nat.le_of_ble_eq_true rfl, Nat.le_of_ble_eq_true rfl⟩ dX9_expectNumber_42 (t := 45) rfl rfl ?_
      replace hF := Option.some.inj hF
      subst hF
      exact J_vret hX hR hlk dX9_expectNumber_45
    · replace hF := ib_f hF z
      refine J_iconst (v := 1) hX dX9_expectNumber_36 (by decide) (t := 37) rfl ?_
      refine J_goto (tgt := 41) hX dX9_expectNumber_37 (by decide) ?_
      refine J_iconst (v := 2) hX dX9_expectNumber_41 (by decide) (t := 42) rfl ?_
      obtain ⟨w30, h29, hF⟩ := bo1_e hF
      have k31 := (ctX9_failIf (G := G) (l := l) w18 true 2 h29)
      refine J_callV hX [.int (bI true), .int 2] [] [] k31 miX9_failIf mvX9_failIf cb7 kText q_1016 ⟨rfl, rfl, Nat.le_of_ble_eq_true rfl, Nat.le_of_ble_eq_true rfl⟩ rfl rfl (Nat.le_of_ble_eq_true rfl) ⟨Nat.le_of_ble_eq_true rfl, Nat.le_of_ble_eq_true rfl⟩ dX9_expectNumber_42 (t := 45) rfl rfl ?_
      replace hF := Option.some.inj hF
      subst hF
      exact J_vret hX hR hlk dX9_expectNumber_45
abbrev rmX9_takeNumber : Room := { frames := 2, cells := 0, slots := 0, locals := 44 }
theorem miX9_takeNumber : MI yX9_takeNumber cX9_takeNumber 4 (some .int) 2 := ⟨q_1055, q_137, by decide +kernel, by decide +kernel, by decide +kernel, by decide +kernel⟩
theorem mvX9_takeNumber : MV yX9_takeNumber := ⟨q_1053, q_1054⟩
def FX9_takeNumber (w : Wd) (p1 : Int32) (p2 : Int32) : Option (Int32 × Wd) :=
  bo1 (FX9_number w) fun x2 =>
  bo1 (FX9_expectNumber w p1 p2) fun w5 =>
  bnd (FX9_skip w5) fun w8 =>
  some (x2, w8)
set_option maxHeartbeats 4000000 in
set_option maxRecDepth 100000 in
theorem ctX9_takeNumber {G : GG} {l : Launch} (w : Wd) (p1 : Int32) (p2 : Int32)  {rx : Int32} {rw : Wd} (hF : FX9_takeNumber w p1 p2 = some (rx, rw)) : CT G l yX9_takeNumber cX9_takeNumber 4 (some .int) rmX9_takeNumber 0 0 [.ref (adr G 10 0), .int p1, .int p2] w (some (.int rx)) rw := by
  refine CT.of miX9_takeNumber [(0, .ref (adr G 10 0)), (1, .int p1), (2, .int p2)] rfl (Nat.le_of_ble_eq_true rfl) ?_
  intro p e s m args below meth c hX hR hlk
  have hX : FX G RX9 cX9_takeNumber 4 p s m args c := hX
  unfold FX9_takeNumber at hF
  refine J_aload_n hX dX9_takeNumber_0 0 rfl (t := 1) rfl ?_
  obtain ⟨x2, h1, hF⟩ := bo1_e hF
  have k3 := (ctX9_number (G := G) (l := l) w  h1)
  refine J_callV hX [] [] [.int x2] k3 miX9_number mvX9_number cb7 kText q_1056 ⟨rfl, rfl, Nat.le_of_ble_eq_true rfl, Nat.le_of_ble_eq_true rfl⟩ rfl rfl (Nat.le_of_ble_eq_true rfl) ⟨Nat.le_of_ble_eq_true rfl, Nat.le_of_ble_eq_true rfl⟩ dX9_takeNumber_1 (t := 4) rfl rfl ?_
  refine J_istore_n (lc2 := [(3, .int x2), (0, .ref (adr G 10 0)), (1, .int p1), (2, .int p2)]) hX dX9_takeNumber_4 rfl (Nat.le_of_ble_eq_true rfl) rfl (t := 5) rfl ?_
  refine J_aload_n hX dX9_takeNumber_5 1 rfl (t := 6) rfl ?_
  refine J_iload_n hX dX9_takeNumber_6 2 rfl (t := 7) rfl ?_
  refine J_iload_n hX dX9_takeNumber_7 3 rfl (t := 8) rfl ?_
  obtain ⟨w5, h4, hF⟩ := bo1_e hF
  have k6 := (ctX9_expectNumber (G := G) (l := l) w p1 p2 h4)
  refine J_callV hX [.int p1, .int p2] [] [] k6 miX9_expectNumber mvX9_expectNumber cb7 kText q_1060 ⟨rfl, rfl, Nat.le_of_ble_eq_true rfl, Nat.le_of_ble_eq_true rfl⟩ rfl rfl (Nat.le_of_ble_eq_true rfl) ⟨Nat.le_of_ble_eq_true rfl, Nat.le_of_ble_eq_true rfl⟩ dX9_takeNumber_8 (t := 11) rfl rfl ?_
  refine J_aload_n hX dX9_takeNumber_11 1 rfl (t := 12) rfl ?_
  obtain ⟨w8, h7, hF⟩ := bnd_e hF
  have k9 := (ctX9_skip (G := G) (l := l) w5  h7)
  refine J_callV hX [] [] [] k9 miX9_skip mvX9_skip cb7 kText q_1017 ⟨rfl, rfl, Nat.le_of_ble_eq_true rfl, Nat.le_of_ble_eq_true rfl⟩ rfl rfl (Nat.le_of_ble_eq_true rfl) ⟨Nat.le_of_ble_eq_true rfl, Nat.le_of_ble_eq_true rfl⟩ dX9_takeNumber_12 (t := 15) rfl rfl ?_
  refine J_iload_n hX dX9_takeNumber_15 0 rfl (t := 16) rfl ?_
  replace hF := Option.some.inj hF
  obtain ⟨hF, hF2⟩ := Prod.mk.inj hF
  subst hF
  subst hF2
  exact J_iret hX hR hlk dX9_takeNumber_16
abbrev rmX3_readValley : Room := { frames := 3, cells := 0, slots := 0, locals := 67 }
theorem miX3_readValley : MI yX3_readValley cX3_readValley 3 none 2 := ⟨q_1041, q_142, by decide +kernel, by decide +kernel, by decide +kernel, by decide +kernel⟩
theorem mvX3_readValley : MV yX3_readValley := ⟨q_1040, q_8⟩
def FX3_readValley (n : Nat) (w : Wd) (r2 : Nat) : Option (Wd) :=
  bo1 (FX9_word w) fun x2 =>
  bo1 (FX6_valleyNamed n (w r2) x2) fun x5 =>
  bo2 (FX9_takeNewName w x5) fun x8 w9 =>
  bnd (sW w9 11 (sL (w9 11) 1 1 x8)) fun w11 =>
  bo2 (FX9_takeNumber w11 1 60) fun x14 w15 =>
  bnd (sW w15 11 (sI (w15 11) 1 4 x14)) fun w17 =>
  bo2 (FX9_takeNumber w17 1 4) fun x20 w21 =>
  bnd (sW w21 11 (sI (w21 11) 1 5 x20)) fun w23 =>
  bo2 (FX9_takeNumber w23 1 99) fun x26 w27 =>
  bnd (sW w27 11 (sI (w27 11) 1 6 x26)) fun w29 =>
  some w29
set_option maxHeartbeats 4000000 in
set_option maxRecDepth 100000 in
theorem ctX3_readValley {G : GG} {l : Launch} (w : Wd) (r2 : Nat) (hr2 : 1 ≤ r2 ∧ r2 ≤ 9) (n : Nat) {rw : Wd} (hF : FX3_readValley n w r2 = some rw) : CT G l yX3_readValley cX3_readValley 3 none rmX3_readValley 0 0 [.ref (adr G 11 0), .ref (adr G 10 0), .ref (adr G r2 0)] w (none) rw := by
  refine CT.of miX3_readValley [(0, .ref (adr G 11 0)), (1, .ref (adr G 10 0)), (2, .ref (adr G r2 0))] rfl (Nat.le_of_ble_eq_true rfl) ?_
  intro p e s m args below meth c hX hR hlk
  have hX : FX G RX3 cX3_readValley 3 p s m args c := hX
  unfold FX3_readValley at hF
  refine J_aload_n hX dX3_readValley_0 0 rfl (t := 1) rfl ?_
  refine J_get hX cb2 kDescription 0 (by decide) q_475 rfl dX3_readValley_1 (t := 4) rfl ?_
  refine J_aload_n hX dX3_readValley_4 1 rfl (t := 5) rfl ?_
  refine J_aload_n hX dX3_readValley_5 2 rfl (t := 6) rfl ?_
  refine J_aload_n hX dX3_readValley_6 1 rfl (t := 7) rfl ?_
  obtain ⟨x2, h1, hF⟩ := bo1_e hF
  have k3 := (ctX9_word (G := G) (l := l) w  h1)
  refine J_callV hX [] [.ref (adr G r2 0), .ref (adr G 10 0), .ref (adr G 11 1)] [.long x2, .ref (adr G r2 0), .ref (adr G 10 0), .ref (adr G 11 1)] k3 miX9_word mvX9_word cb7 kText q_1042 ⟨rfl, rfl, Nat.le_of_ble_eq_true rfl, Nat.le_of_ble_eq_true rfl⟩ rfl rfl (Nat.le_of_ble_eq_true rfl) ⟨Nat.le_of_ble_eq_true rfl, Nat.le_of_ble_eq_true rfl⟩ dX3_readValley_7 (t := 10) rfl rfl ?_
  obtain ⟨x5, h4, hF⟩ := bo1_e hF
  have k6 := (CT.self2 (ctX6_valleyNamed (G := G) (l := l) w r2 hr2 (w r2) x2 n h4))
  refine J_callV hX [.long x2] [.ref (adr G 10 0), .ref (adr G 11 1)] [.int x5, .ref (adr G 10 0), .ref (adr G 11 1)] k6 miX6_valleyNamed mvX6_valleyNamed cb4 (kMarket hr2) q_1046 ⟨rfl, rfl, Nat.le_of_ble_eq_true rfl, Nat.le_of_ble_eq_true rfl⟩ rfl rfl (Nat.le_of_ble_eq_true rfl) ⟨Nat.le_of_ble_eq_true rfl, Nat.le_of_ble_eq_true rfl⟩ dX3_readValley_10 (t := 13) rfl rfl ?_
  obtain ⟨x8, w9, h7, hF⟩ := bo2_e hF
  have k10 := (ctX9_takeNewName (G := G) (l := l) w x5 h7)
  refine J_callV hX [.int x5] [.ref (adr G 11 1)] [.long x8, .ref (adr G 11 1)] k10 miX9_takeNewName mvX9_takeNewName cb7 kText q_1047 ⟨rfl, rfl, Nat.le_of_ble_eq_true rfl, Nat.le_of_ble_eq_true rfl⟩ rfl rfl (Nat.le_of_ble_eq_true rfl) ⟨Nat.le_of_ble_eq_true rfl, Nat.le_of_ble_eq_true rfl⟩ dX3_readValley_13 (t := 16) rfl rfl ?_
  obtain ⟨w11, e12, hF⟩ := bnd_e hF
  refine J_putl hX cb0 kChange0 1 (by decide) q_445 rfl rfl e12 (fun _ _ => Nat.le_of_ble_eq_true rfl) (fun _ _ => rfl) dX3_readValley_16 (t := 19) rfl ?_
  refine J_aload_n hX dX3_readValley_19 0 rfl (t := 20) rfl ?_
  refine J_get hX cb2 kDescription 0 (by decide) q_475 rfl dX3_readValley_20 (t := 23) rfl ?_
  refine J_aload_n hX dX3_readValley_23 1 rfl (t := 24) rfl ?_
  refine J_iconst (v := 1) hX dX3_readValley_24 (by decide) (t := 25) rfl ?_
  refine J_bipush (v := 60) hX dX3_readValley_25 (by decide) (t := 27) rfl ?_
  obtain ⟨x14, w15, h13, hF⟩ := bo2_e hF
  have k16 := (ctX9_takeNumber (G := G) (l := l) w11 1 60 h13)
  refine J_callV hX [.int 1, .int 60] [.ref (adr G 11 1)] [.int x14, .ref (adr G 11 1)] k16 miX9_takeNumber mvX9_takeNumber cb7 kText q_1052 ⟨rfl, rfl, Nat.le_of_ble_eq_true rfl, Nat.le_of_ble_eq_true rfl⟩ rfl rfl (Nat.le_of_ble_eq_true rfl) ⟨Nat.le_of_ble_eq_true rfl, Nat.le_of_ble_eq_true rfl⟩ dX3_readValley_27 (t := 30) rfl rfl ?_
  obtain ⟨w17, e18, hF⟩ := bnd_e hF
  refine J_puti hX cb0 kChange0 4 (by decide) q_453 rfl rfl e18 (fun _ _ => Nat.le_of_ble_eq_true rfl) (fun _ _ => rfl) dX3_readValley_30 (t := 33) rfl ?_
  refine J_aload_n hX dX3_readValley_33 0 rfl (t := 34) rfl ?_
  refine J_get hX cb2 kDescription 0 (by decide) q_475 rfl dX3_readValley_34 (t := 37) rfl ?_
  refine J_aload_n hX dX3_readValley_37 1 rfl (t := 38) rfl ?_
  refine J_iconst (v := 1) hX dX3_readValley_38 (by decide) (t := 39) rfl ?_
  refine J_iconst (v := 4) hX dX3_readValley_39 (by decide) (t := 40) rfl ?_
  obtain ⟨x20, w21, h19, hF⟩ := bo2_e hF
  have k22 := (ctX9_takeNumber (G := G) (l := l) w17 1 4 h19)
  refine J_callV hX [.int 1, .int 4] [.ref (adr G 11 1)] [.int x20, .ref (adr G 11 1)] k22 miX9_takeNumber mvX9_takeNumber cb7 kText q_1052 ⟨rfl, rfl, Nat.le_of_ble_eq_true rfl, Nat.le_of_ble_eq_true rfl⟩ rfl rfl (Nat.le_of_ble_eq_true rfl) ⟨Nat.le_of_ble_eq_true rfl, Nat.le_of_ble_eq_true rfl⟩ dX3_readValley_40 (t := 43) rfl rfl ?_
  obtain ⟨w23, e24, hF⟩ := bnd_e hF
  refine J_puti hX cb0 kChange0 5 (by decide) q_456 rfl rfl e24 (fun _ _ => Nat.le_of_ble_eq_true rfl) (fun _ _ => rfl) dX3_readValley_43 (t := 46) rfl ?_
  refine J_aload_n hX dX3_readValley_46 0 rfl (t := 47) rfl ?_
  refine J_get hX cb2 kDescription 0 (by decide) q_475 rfl dX3_readValley_47 (t := 50) rfl ?_
  refine J_aload_n hX dX3_readValley_50 1 rfl (t := 51) rfl ?_
  refine J_iconst (v := 1) hX dX3_readValley_51 (by decide) (t := 52) rfl ?_
  refine J_bipush (v := 99) hX dX3_readValley_52 (by decide) (t := 54) rfl ?_
  obtain ⟨x26, w27, h25, hF⟩ := bo2_e hF
  have k28 := (ctX9_takeNumber (G := G) (l := l) w23 1 99 h25)
  refine J_callV hX [.int 1, .int 99] [.ref (adr G 11 1)] [.int x26, .ref (adr G 11 1)] k28 miX9_takeNumber mvX9_takeNumber cb7 kText q_1052 ⟨rfl, rfl, Nat.le_of_ble_eq_true rfl, Nat.le_of_ble_eq_true rfl⟩ rfl rfl (Nat.le_of_ble_eq_true rfl) ⟨Nat.le_of_ble_eq_true rfl, Nat.le_of_ble_eq_true rfl⟩ dX3_readValley_54 (t := 57) rfl rfl ?_
  obtain ⟨w29, e30, hF⟩ := bnd_e hF
  refine J_puti hX cb0 kChange0 6 (by decide) q_459 rfl rfl e30 (fun _ _ => Nat.le_of_ble_eq_true rfl) (fun _ _ => rfl) dX3_readValley_57 (t := 60) rfl ?_
  replace hF := Option.some.inj hF
  subst hF
  exact J_vret hX hR hlk dX3_readValley_60
abbrev rmX3_readCustomer : Room := { frames := 3, cells := 0, slots := 0, locals := 67 }
theorem miX3_readCustomer : MI yX3_readCustomer cX3_readCustomer 3 none 2 := ⟨q_1067, q_142, by decide +kernel, by decide +kernel, by decide +kernel, by decide +kernel⟩
theorem mvX3_readCustomer : MV yX3_readCustomer := ⟨q_1066, q_9⟩
def FX3_readCustomer (n : Nat) (w : Wd) (r2 : Nat) : Option (Wd) :=
  bo1 (FX9_word w) fun x2 =>
  bo1 (FX6_customerNamed n (w r2) x2) fun x5 =>
  bo2 (FX9_takeNewName w x5) fun x8 w9 =>
  bnd (sW w9 11 (sL (w9 11) 1 1 x8)) fun w11 =>
  bo2 (FX9_takeNumber w11 1 240) fun x14 w15 =>
  bnd (sW w15 11 (sI (w15 11) 1 4 x14)) fun w17 =>
  bo2 (FX9_takeNumber w17 0 9999) fun x20 w21 =>
  bnd (sW w21 11 (sI (w21 11) 1 5 x20)) fun w23 =>
  some w23
set_option maxHeartbeats 4000000 in
set_option maxRecDepth 100000 in
theorem ctX3_readCustomer {G : GG} {l : Launch} (w : Wd) (r2 : Nat) (hr2 : 1 ≤ r2 ∧ r2 ≤ 9) (n : Nat) {rw : Wd} (hF : FX3_readCustomer n w r2 = some rw) : CT G l yX3_readCustomer cX3_readCustomer 3 none rmX3_readCustomer 0 0 [.ref (adr G 11 0), .ref (adr G 10 0), .ref (adr G r2 0)] w (none) rw := by
  refine CT.of miX3_readCustomer [(0, .ref (adr G 11 0)), (1, .ref (adr G 10 0)), (2, .ref (adr G r2 0))] rfl (Nat.le_of_ble_eq_true rfl) ?_
  intro p e s m args below meth c hX hR hlk
  have hX : FX G RX3 cX3_readCustomer 3 p s m args c := hX
  unfold FX3_readCustomer at hF
  refine J_aload_n hX dX3_readCustomer_0 0 rfl (t := 1) rfl ?_
  refine J_get hX cb2 kDescription 0 (by decide) q_475 rfl dX3_readCustomer_1 (t := 4) rfl ?_
  refine J_aload_n hX dX3_readCustomer_4 1 rfl (t := 5) rfl ?_
  refine J_aload_n hX dX3_readCustomer_5 2 rfl (t := 6) rfl ?_
  refine J_aload_n hX dX3_readCustomer_6 1 rfl (t := 7) rfl ?_
  obtain ⟨x2, h1, hF⟩ := bo1_e hF
  have k3 := (ctX9_word (G := G) (l := l) w  h1)
  refine J_callV hX [] [.ref (adr G r2 0), .ref (adr G 10 0), .ref (adr G 11 1)] [.long x2, .ref (adr G r2 0), .ref (adr G 10 0), .ref (adr G 11 1)] k3 miX9_word mvX9_word cb7 kText q_1042 ⟨rfl, rfl, Nat.le_of_ble_eq_true rfl, Nat.le_of_ble_eq_true rfl⟩ rfl rfl (Nat.le_of_ble_eq_true rfl) ⟨Nat.le_of_ble_eq_true rfl, Nat.le_of_ble_eq_true rfl⟩ dX3_readCustomer_7 (t := 10) rfl rfl ?_
  obtain ⟨x5, h4, hF⟩ := bo1_e hF
  have k6 := (CT.self2 (ctX6_customerNamed (G := G) (l := l) w r2 hr2 (w r2) x2 n h4))
  refine J_callV hX [.long x2] [.ref (adr G 10 0), .ref (adr G 11 1)] [.int x5, .ref (adr G 10 0), .ref (adr G 11 1)] k6 miX6_customerNamed mvX6_customerNamed cb4 (kMarket hr2) q_1068 ⟨rfl, rfl, Nat.le_of_ble_eq_true rfl, Nat.le_of_ble_eq_true rfl⟩ rfl rfl (Nat.le_of_ble_eq_true rfl) ⟨Nat.le_of_ble_eq_true rfl, Nat.le_of_ble_eq_true rfl⟩ dX3_readCustomer_10 (t := 13) rfl rfl ?_
  obtain ⟨x8, w9, h7, hF⟩ := bo2_e hF
  have k10 := (ctX9_takeNewName (G := G) (l := l) w x5 h7)
  refine J_callV hX [.int x5] [.ref (adr G 11 1)] [.long x8, .ref (adr G 11 1)] k10 miX9_takeNewName mvX9_takeNewName cb7 kText q_1047 ⟨rfl, rfl, Nat.le_of_ble_eq_true rfl, Nat.le_of_ble_eq_true rfl⟩ rfl rfl (Nat.le_of_ble_eq_true rfl) ⟨Nat.le_of_ble_eq_true rfl, Nat.le_of_ble_eq_true rfl⟩ dX3_readCustomer_13 (t := 16) rfl rfl ?_
  obtain ⟨w11, e12, hF⟩ := bnd_e hF
  refine J_putl hX cb0 kChange0 1 (by decide) q_445 rfl rfl e12 (fun _ _ => Nat.le_of_ble_eq_true rfl) (fun _ _ => rfl) dX3_readCustomer_16 (t := 19) rfl ?_
  refine J_aload_n hX dX3_readCustomer_19 0 rfl (t := 20) rfl ?_
  refine J_get hX cb2 kDescription 0 (by decide) q_475 rfl dX3_readCustomer_20 (t := 23) rfl ?_
  refine J_aload_n hX dX3_readCustomer_23 1 rfl (t := 24) rfl ?_
  refine J_iconst (v := 1) hX dX3_readCustomer_24 (by decide) (t := 25) rfl ?_
  refine J_sipush (v := 240) hX dX3_readCustomer_25 (by decide) (t := 28) rfl ?_
  obtain ⟨x14, w15, h13, hF⟩ := bo2_e hF
  have k16 := (ctX9_takeNumber (G := G) (l := l) w11 1 240 h13)
  refine J_callV hX [.int 1, .int 240] [.ref (adr G 11 1)] [.int x14, .ref (adr G 11 1)] k16 miX9_takeNumber mvX9_takeNumber cb7 kText q_1052 ⟨rfl, rfl, Nat.le_of_ble_eq_true rfl, Nat.le_of_ble_eq_true rfl⟩ rfl rfl (Nat.le_of_ble_eq_true rfl) ⟨Nat.le_of_ble_eq_true rfl, Nat.le_of_ble_eq_true rfl⟩ dX3_readCustomer_28 (t := 31) rfl rfl ?_
  obtain ⟨w17, e18, hF⟩ := bnd_e hF
  refine J_puti hX cb0 kChange0 4 (by decide) q_453 rfl rfl e18 (fun _ _ => Nat.le_of_ble_eq_true rfl) (fun _ _ => rfl) dX3_readCustomer_31 (t := 34) rfl ?_
  refine J_aload_n hX dX3_readCustomer_34 0 rfl (t := 35) rfl ?_
  refine J_get hX cb2 kDescription 0 (by decide) q_475 rfl dX3_readCustomer_35 (t := 38) rfl ?_
  refine J_aload_n hX dX3_readCustomer_38 1 rfl (t := 39) rfl ?_
  refine J_iconst (v := 0) hX dX3_readCustomer_39 (by decide) (t := 40) rfl ?_
  refine J_sipush (v := 9999) hX dX3_readCustomer_40 (by decide) (t := 43) rfl ?_
  obtain ⟨x20, w21, h19, hF⟩ := bo2_e hF
  have k22 := (ctX9_takeNumber (G := G) (l := l) w17 0 9999 h19)
  refine J_callV hX [.int 0, .int 9999] [.ref (adr G 11 1)] [.int x20, .ref (adr G 11 1)] k22 miX9_takeNumber mvX9_takeNumber cb7 kText q_1052 ⟨rfl, rfl, Nat.le_of_ble_eq_true rfl, Nat.le_of_ble_eq_true rfl⟩ rfl rfl (Nat.le_of_ble_eq_true rfl) ⟨Nat.le_of_ble_eq_true rfl, Nat.le_of_ble_eq_true rfl⟩ dX3_readCustomer_43 (t := 46) rfl rfl ?_
  obtain ⟨w23, e24, hF⟩ := bnd_e hF
  refine J_puti hX cb0 kChange0 5 (by decide) q_456 rfl rfl e24 (fun _ _ => Nat.le_of_ble_eq_true rfl) (fun _ _ => rfl) dX3_readCustomer_46 (t := 49) rfl ?_
  replace hF := Option.some.inj hF
  subst hF
  exact J_vret hX hR hlk dX3_readCustomer_49
abbrev rmX9_takeKnownName : Room := { frames := 1, cells := 0, slots := 0, locals := 22 }
theorem miX9_takeKnownName : MI yX9_takeKnownName cX9_takeKnownName 2 none 1 := ⟨q_1081, q_137, by decide +kernel, by decide +kernel, by decide +kernel, by decide +kernel⟩
theorem mvX9_takeKnownName : MV yX9_takeKnownName := ⟨q_1080, q_11⟩
def FX9_takeKnownName (w : Wd) (p1 : Int32) : Option (Wd) :=
  gd (inb ((w 10).1 0 5) 601) <|
  if (w 10).1 2 (((w 10).1 0 5).toNatClampNeg) = 1 then
    bo1 (FX9_failIf w false 1) fun w3 =>
    if p1 = (-1) then
      bo1 (FX9_failIf w3 true 4) fun w12 =>
      bnd (FX9_skip w12) fun w15 =>
      some w15
    else
      bo1 (FX9_failIf w3 false 4) fun w6 =>
      bnd (FX9_skip w6) fun w9 =>
      some w9
  else
    bo1 (FX9_failIf w true 1) fun w18 =>
    if p1 = (-1) then
      bo1 (FX9_failIf w18 true 4) fun w27 =>
      bnd (FX9_skip w27) fun w30 =>
      some w30
    else
      bo1 (FX9_failIf w18 false 4) fun w21 =>
      bnd (FX9_skip w21) fun w24 =>
      some w24
set_option maxHeartbeats 4000000 in
set_option maxRecDepth 100000 in
theorem ctX9_takeKnownName {G : GG} {l : Launch} (w : Wd) (p1 : Int32)  {rw : Wd} (hF : FX9_takeKnownName w p1 = some rw) : CT G l yX9_takeKnownName cX9_takeKnownName 2 none rmX9_takeKnownName 0 0 [.ref (adr G 10 0), .int p1] w (none) rw := by
  refine CT.of miX9_takeKnownName [(0, .ref (adr G 10 0)), (1, .int p1)] rfl (Nat.le_of_ble_eq_true rfl) ?_
  intro p e s m args below meth c hX hR hlk
  have hX : FX G RX9 cX9_takeKnownName 2 p s m args c := hX
  unfold FX9_takeKnownName at hF
  refine J_aload_n hX dX9_takeKnownName_0 0 rfl (t := 1) rfl ?_
  refine J_aload_n hX dX9_takeKnownName_1 0 rfl (t := 2) rfl ?_
  refine J_get hX cb7 kText 1 (by decide) q_185 rfl dX9_takeKnownName_2 (t := 5) rfl ?_
  refine J_aload_n hX dX9_takeKnownName_5 0 rfl (t := 6) rfl ?_
  refine J_get hX cb7 kText 5 (by decide) q_189 rfl dX9_takeKnownName_6 (t := 9) rfl ?_
  obtain ⟨g1, hF⟩ := gd_e hF
  refine J_iald hX kKinds g1 rfl dX9_takeKnownName_9 (t := 10) rfl ?_
  refine J_iconst (v := 1) hX dX9_takeKnownName_10 (by decide) (t := 11) rfl ?_
  refine J_icmp_eq (tgt := 18) hX dX9_takeKnownName_11 (by decide) (t := 14) rfl (fun z => ?_) (fun z => ?_)
  · replace hF := it_t hF z
    refine J_iconst (v := 0) hX dX9_takeKnownName_18 (by decide) (t := 19) rfl ?_
    refine J_iconst (v := 1) hX dX9_takeKnownName_19 (by decide) (t := 20) rfl ?_
    obtain ⟨w3, h2, hF⟩ := bo1_e hF
    have k4 := (ctX9_failIf (G := G) (l := l) w false 1 h2)
    refine J_callV hX [.int (bI false), .int 1] [] [] k4 miX9_failIf mvX9_failIf cb7 kText q_1016 ⟨rfl, rfl, Nat.le_of_ble_eq_true rfl, Nat.le_of_ble_eq_true rfl⟩ rfl rfl (Nat.le_of_ble_eq_true rfl) ⟨Nat.le_of_ble_eq_true rfl, Nat.le_of_ble_eq_true rfl⟩ dX9_takeKnownName_20 (t := 23) rfl rfl ?_
    refine J_aload_n hX dX9_takeKnownName_23 0 rfl (t := 24) rfl ?_
    refine J_iload_n hX dX9_takeKnownName_24 1 rfl (t := 25) rfl ?_
    refine J_iconst (v := (-1)) hX dX9_takeKnownName_25 (by decide) (t := 26) rfl ?_
    refine J_icmp_ne (tgt := 33) hX dX9_takeKnownName_26 (by decide) (t := 29) rfl (fun z => ?_) (fun z => ?_)
    · replace hF := it_f hF z
      refine J_iconst (v := 0) hX dX9_takeKnownName_33 (by decide) (t := 34) rfl ?_
      refine J_iconst (v := 4) hX dX9_takeKnownName_34 (by decide) (t := 35) rfl ?_
      obtain ⟨w6, h5, hF⟩ := bo1_e hF
      have k7 := (ctX9_failIf (G := G) (l := l) w3 false 4 h5)
      refine J_callV hX [.int (bI false), .int 4] [] [] k7 miX9_failIf mvX9_failIf cb7 kText q_1016 ⟨rfl, rfl, Nat.le_of_ble_eq_true rfl, Nat.le_of_ble_eq_true rfl⟩ rfl rfl (Nat.le_of_ble_eq_true rfl) ⟨Nat.le_of_ble_eq_true rfl, Nat.le_of_ble_eq_true rfl⟩ dX9_takeKnownName_35 (t := 38) rfl rfl ?_
      refine J_aload_n hX dX9_takeKnownName_38 0 rfl (t := 39) rfl ?_
      obtain ⟨w9, h8, hF⟩ := bnd_e hF
      have k10 := (ctX9_skip (G := G) (l := l) w6  h8)
      refine J_callV hX [] [] [] k10 miX9_skip mvX9_skip cb7 kText q_1017 ⟨rfl, rfl, Nat.le_of_ble_eq_true rfl, Nat.le_of_ble_eq_true rfl⟩ rfl rfl (Nat.le_of_ble_eq_true rfl) ⟨Nat.le_of_ble_eq_true rfl, Nat.le_of_ble_eq_true rfl⟩ dX9_takeKnownName_39 (t := 42) rfl rfl ?_
      replace hF := Option.some.inj hF
      subst hF
      exact J_vret hX hR hlk dX9_takeKnownName_42
    · replace hF := it_t hF z
      refine J_iconst (v := 1) hX dX9_takeKnownName_29 (by decide) (t := 30) rfl ?_
      refine J_goto (tgt := 34) hX dX9_takeKnownName_30 (by decide) ?_
      refine J_iconst (v := 4) hX dX9_takeKnownName_34 (by decide) (t := 35) rfl ?_
      obtain ⟨w12, h11, hF⟩ := bo1_e hF
      have k13 := (ctX9_failIf (G := G) (l := l) w3 true 4 h11)
      refine J_callV hX [.int (bI true), .int 4] [] [] k13 miX9_failIf mvX9_failIf cb7 kText q_1016 ⟨rfl, rfl, Nat.le_of_ble_eq_true rfl, Nat.le_of_ble_eq_true rfl⟩ rfl rfl (Nat.le_of_ble_eq_true rfl) ⟨Nat.le_of_ble_eq_true rfl, Nat.le_of_ble_eq_true rfl⟩ dX9_takeKnownName_35 (t := 38) rfl rfl ?_
      refine J_aload_n hX dX9_takeKnownName_38 0 rfl (t := 39) rfl ?_
      obtain ⟨w15, h14, hF⟩ := bnd_e hF
      have k16 := (ctX9_skip (G := G) (l := l) w12  h14)
      refine J_callV hX [] [] [] k16 miX9_skip mvX9_skip cb7 kText q_1017 ⟨rfl, rfl, Nat.le_of_ble_eq_true rfl, Nat.le_of_ble_eq_true rfl⟩ rfl rfl (Nat.le_of_ble_eq_true rfl) ⟨Nat.le_of_ble_eq_true rfl, Nat.le_of_ble_eq_true rfl⟩ dX9_takeKnownName_39 (t := 42) rfl rfl ?_
      replace hF := Option.some.inj hF
      subst hF
      exact J_vret hX hR hlk dX9_takeKnownName_42
  · replace hF := it_f hF z
    refine J_iconst (v := 1) hX dX9_takeKnownName_14 (by decide) (t := 15) rfl ?_
    refine J_goto (tgt := 19) hX dX9_takeKnownName_15 (by decide) ?_
    refine J_iconst (v := 1) hX dX9_takeKnownName_19 (by decide) (t := 20) rfl ?_
    obtain ⟨w18, h17, hF⟩ := bo1_e hF
    have k19 := (ctX9_failIf (G := G) (l := l) w true 1 h17)
    refine J_callV hX [.int (bI true), .int 1] [] [] k19 miX9_failIf mvX9_failIf cb7 kText q_1016 ⟨rfl, rfl, Nat.le_of_ble_eq_true rfl, Nat.le_of_ble_eq_true rfl⟩ rfl rfl (Nat.le_of_ble_eq_true rfl) ⟨Nat.le_of_ble_eq_true rfl, Nat.le_of_ble_eq_true rfl⟩ dX9_takeKnownName_20 (t := 23) rfl rfl ?_
    refine J_aload_n hX dX9_takeKnownName_23 0 rfl (t := 24) rfl ?_
    refine J_iload_n hX dX9_takeKnownName_24 1 rfl (t := 25) rfl ?_
    refine J_iconst (v := (-1)) hX dX9_takeKnownName_25 (by decide) (t := 26) rfl ?_
    refine J_icmp_ne (tgt := 33) hX dX9_takeKnownName_26 (by decide) (t := 29) rfl (fun z => ?_) (fun z => ?_)
    · replace hF := it_f hF z
      refine J_iconst (v := 0) hX dX9_takeKnownName_33 (by decide) (t := 34) rfl ?_
      refine J_iconst (v := 4) hX dX9_takeKnownName_34 (by decide) (t := 35) rfl ?_
      obtain ⟨w21, h20, hF⟩ := bo1_e hF
      have k22 := (ctX9_failIf (G := G) (l := l) w18 false 4 h20)
      refine J_callV hX [.int (bI false), .int 4] [] [] k22 miX9_failIf mvX9_failIf cb7 kText q_1016 ⟨rfl, rfl, Nat.le_of_ble_eq_true rfl, Nat.le_of_ble_eq_true rfl⟩ rfl rfl (Nat.le_of_ble_eq_true rfl) ⟨Nat.le_of_ble_eq_true rfl, Nat.le_of_ble_eq_true rfl⟩ dX9_takeKnownName_35 (t := 38) rfl rfl ?_
      refine J_aload_n hX dX9_takeKnownName_38 0 rfl (t := 39) rfl ?_
      obtain ⟨w24, h23, hF⟩ := bnd_e hF
      have k25 := (ctX9_skip (G := G) (l := l) w21  h23)
      refine J_callV hX [] [] [] k25 miX9_skip mvX9_skip cb7 kText q_1017 ⟨rfl, rfl, Nat.le_of_ble_eq_true rfl, Nat.le_of_ble_eq_true rfl⟩ rfl rfl (Nat.le_of_ble_eq_true rfl) ⟨Nat.le_of_ble_eq_true rfl, Nat.le_of_ble_eq_true rfl⟩ dX9_takeKnownName_39 (t := 42) rfl rfl ?_
      replace hF := Option.some.inj hF
      subst hF
      exact J_vret hX hR hlk dX9_takeKnownName_42
    · replace hF := it_t hF z
      refine J_iconst (v := 1) hX dX9_takeKnownName_29 (by decide) (t := 30) rfl ?_
      refine J_goto (tgt := 34) hX dX9_takeKnownName_30 (by decide) ?_
      refine J_iconst (v := 4) hX dX9_takeKnownName_34 (by decide) (t := 35) rfl ?_
      obtain ⟨w27, h26, hF⟩ := bo1_e hF
      have k28 := (ctX9_failIf (G := G) (l := l) w18 true 4 h26)
      refine J_callV hX [.int (bI true), .int 4] [] [] k28 miX9_failIf mvX9_failIf cb7 kText q_1016 ⟨rfl, rfl, Nat.le_of_ble_eq_true rfl, Nat.le_of_ble_eq_true rfl⟩ rfl rfl (Nat.le_of_ble_eq_true rfl) ⟨Nat.le_of_ble_eq_true rfl, Nat.le_of_ble_eq_true rfl⟩ dX9_takeKnownName_35 (t := 38) rfl rfl ?_
      refine J_aload_n hX dX9_takeKnownName_38 0 rfl (t := 39) rfl ?_
      obtain ⟨w30, h29, hF⟩ := bnd_e hF
      have k31 := (ctX9_skip (G := G) (l := l) w27  h29)
      refine J_callV hX [] [] [] k31 miX9_skip mvX9_skip cb7 kText q_1017 ⟨rfl, rfl, Nat.le_of_ble_eq_true rfl, Nat.le_of_ble_eq_true rfl⟩ rfl rfl (Nat.le_of_ble_eq_true rfl) ⟨Nat.le_of_ble_eq_true rfl, Nat.le_of_ble_eq_true rfl⟩ dX9_takeKnownName_39 (t := 42) rfl rfl ?_
      replace hF := Option.some.inj hF
      subst hF
      exact J_vret hX hR hlk dX9_takeKnownName_42
abbrev rmX9_takeCustomer : Room := { frames := 2, cells := 0, slots := 0, locals := 43 }
theorem miX9_takeCustomer : MI yX9_takeCustomer cX9_takeCustomer 3 (some .int) 1 := ⟨q_1076, q_137, by decide +kernel, by decide +kernel, by decide +kernel, by decide +kernel⟩
theorem mvX9_takeCustomer : MV yX9_takeCustomer := ⟨q_1074, q_1075⟩
def FX9_takeCustomer (n : Nat) (w : Wd) (r1 : Nat) : Option (Int32 × Wd) :=
  bo1 (FX9_word w) fun x2 =>
  bo1 (FX6_customerNamed n (w r1) x2) fun x5 =>
  bo1 (FX9_takeKnownName w x5) fun w8 =>
  some (x5, w8)
set_option maxHeartbeats 4000000 in
set_option maxRecDepth 100000 in
theorem ctX9_takeCustomer {G : GG} {l : Launch} (w : Wd) (r1 : Nat) (hr1 : 1 ≤ r1 ∧ r1 ≤ 9) (n : Nat) {rx : Int32} {rw : Wd} (hF : FX9_takeCustomer n w r1 = some (rx, rw)) : CT G l yX9_takeCustomer cX9_takeCustomer 3 (some .int) rmX9_takeCustomer 0 0 [.ref (adr G 10 0), .ref (adr G r1 0)] w (some (.int rx)) rw := by
  refine CT.of miX9_takeCustomer [(0, .ref (adr G 10 0)), (1, .ref (adr G r1 0))] rfl (Nat.le_of_ble_eq_true rfl) ?_
  intro p e s m args below meth c hX hR hlk
  have hX : FX G RX9 cX9_takeCustomer 3 p s m args c := hX
  unfold FX9_takeCustomer at hF
  refine J_aload_n hX dX9_takeCustomer_0 1 rfl (t := 1) rfl ?_
  refine J_aload_n hX dX9_takeCustomer_1 0 rfl (t := 2) rfl ?_
  obtain ⟨x2, h1, hF⟩ := bo1_e hF
  have k3 := (ctX9_word (G := G) (l := l) w  h1)
  refine J_callV hX [] [.ref (adr G r1 0)] [.long x2, .ref (adr G r1 0)] k3 miX9_word mvX9_word cb7 kText q_1051 ⟨rfl, rfl, Nat.le_of_ble_eq_true rfl, Nat.le_of_ble_eq_true rfl⟩ rfl rfl (Nat.le_of_ble_eq_true rfl) ⟨Nat.le_of_ble_eq_true rfl, Nat.le_of_ble_eq_true rfl⟩ dX9_takeCustomer_2 (t := 5) rfl rfl ?_
  obtain ⟨x5, h4, hF⟩ := bo1_e hF
  have k6 := (CT.self2 (ctX6_customerNamed (G := G) (l := l) w r1 hr1 (w r1) x2 n h4))
  refine J_callV hX [.long x2] [] [.int x5] k6 miX6_customerNamed mvX6_customerNamed cb4 (kMarket hr1) q_1077 ⟨rfl, rfl, Nat.le_of_ble_eq_true rfl, Nat.le_of_ble_eq_true rfl⟩ rfl rfl (Nat.le_of_ble_eq_true rfl) ⟨Nat.le_of_ble_eq_true rfl, Nat.le_of_ble_eq_true rfl⟩ dX9_takeCustomer_5 (t := 8) rfl rfl ?_
  refine J_istore_n (lc2 := [(2, .int x5), (0, .ref (adr G 10 0)), (1, .ref (adr G r1 0))]) hX dX9_takeCustomer_8 rfl (Nat.le_of_ble_eq_true rfl) rfl (t := 9) rfl ?_
  refine J_aload_n hX dX9_takeCustomer_9 1 rfl (t := 10) rfl ?_
  refine J_iload_n hX dX9_takeCustomer_10 0 rfl (t := 11) rfl ?_
  obtain ⟨w8, h7, hF⟩ := bo1_e hF
  have k9 := (ctX9_takeKnownName (G := G) (l := l) w x5 h7)
  refine J_callV hX [.int x5] [] [] k9 miX9_takeKnownName mvX9_takeKnownName cb7 kText q_1078 ⟨rfl, rfl, Nat.le_of_ble_eq_true rfl, Nat.le_of_ble_eq_true rfl⟩ rfl rfl (Nat.le_of_ble_eq_true rfl) ⟨Nat.le_of_ble_eq_true rfl, Nat.le_of_ble_eq_true rfl⟩ dX9_takeCustomer_11 (t := 14) rfl rfl ?_
  refine J_iload_n hX dX9_takeCustomer_14 0 rfl (t := 15) rfl ?_
  replace hF := Option.some.inj hF
  obtain ⟨hF, hF2⟩ := Prod.mk.inj hF
  subst hF
  subst hF2
  exact J_iret hX hR hlk dX9_takeCustomer_15
abbrev rmX9_takeValley : Room := { frames := 2, cells := 0, slots := 0, locals := 43 }
theorem miX9_takeValley : MI yX9_takeValley cX9_takeValley 3 (some .int) 1 := ⟨q_1085, q_137, by decide +kernel, by decide +kernel, by decide +kernel, by decide +kernel⟩
theorem mvX9_takeValley : MV yX9_takeValley := ⟨q_1083, q_1084⟩
def FX9_takeValley (n : Nat) (w : Wd) (r1 : Nat) : Option (Int32 × Wd) :=
  bo1 (FX9_word w) fun x2 =>
  bo1 (FX6_valleyNamed n (w r1) x2) fun x5 =>
  bo1 (FX9_takeKnownName w x5) fun w8 =>
  some (x5, w8)
set_option maxHeartbeats 4000000 in
set_option maxRecDepth 100000 in
theorem ctX9_takeValley {G : GG} {l : Launch} (w : Wd) (r1 : Nat) (hr1 : 1 ≤ r1 ∧ r1 ≤ 9) (n : Nat) {rx : Int32} {rw : Wd} (hF : FX9_takeValley n w r1 = some (rx, rw)) : CT G l yX9_takeValley cX9_takeValley 3 (some .int) rmX9_takeValley 0 0 [.ref (adr G 10 0), .ref (adr G r1 0)] w (some (.int rx)) rw := by
  refine CT.of miX9_takeValley [(0, .ref (adr G 10 0)), (1, .ref (adr G r1 0))] rfl (Nat.le_of_ble_eq_true rfl) ?_
  intro p e s m args below meth c hX hR hlk
  have hX : FX G RX9 cX9_takeValley 3 p s m args c := hX
  unfold FX9_takeValley at hF
  refine J_aload_n hX dX9_takeValley_0 1 rfl (t := 1) rfl ?_
  refine J_aload_n hX dX9_takeValley_1 0 rfl (t := 2) rfl ?_
  obtain ⟨x2, h1, hF⟩ := bo1_e hF
  have k3 := (ctX9_word (G := G) (l := l) w  h1)
  refine J_callV hX [] [.ref (adr G r1 0)] [.long x2, .ref (adr G r1 0)] k3 miX9_word mvX9_word cb7 kText q_1051 ⟨rfl, rfl, Nat.le_of_ble_eq_true rfl, Nat.le_of_ble_eq_true rfl⟩ rfl rfl (Nat.le_of_ble_eq_true rfl) ⟨Nat.le_of_ble_eq_true rfl, Nat.le_of_ble_eq_true rfl⟩ dX9_takeValley_2 (t := 5) rfl rfl ?_
  obtain ⟨x5, h4, hF⟩ := bo1_e hF
  have k6 := (CT.self2 (ctX6_valleyNamed (G := G) (l := l) w r1 hr1 (w r1) x2 n h4))
  refine J_callV hX [.long x2] [] [.int x5] k6 miX6_valleyNamed mvX6_valleyNamed cb4 (kMarket hr1) q_1086 ⟨rfl, rfl, Nat.le_of_ble_eq_true rfl, Nat.le_of_ble_eq_true rfl⟩ rfl rfl (Nat.le_of_ble_eq_true rfl) ⟨Nat.le_of_ble_eq_true rfl, Nat.le_of_ble_eq_true rfl⟩ dX9_takeValley_5 (t := 8) rfl rfl ?_
  refine J_istore_n (lc2 := [(2, .int x5), (0, .ref (adr G 10 0)), (1, .ref (adr G r1 0))]) hX dX9_takeValley_8 rfl (Nat.le_of_ble_eq_true rfl) rfl (t := 9) rfl ?_
  refine J_aload_n hX dX9_takeValley_9 1 rfl (t := 10) rfl ?_
  refine J_iload_n hX dX9_takeValley_10 0 rfl (t := 11) rfl ?_
  obtain ⟨w8, h7, hF⟩ := bo1_e hF
  have k9 := (ctX9_takeKnownName (G := G) (l := l) w x5 h7)
  refine J_callV hX [.int x5] [] [] k9 miX9_takeKnownName mvX9_takeKnownName cb7 kText q_1078 ⟨rfl, rfl, Nat.le_of_ble_eq_true rfl, Nat.le_of_ble_eq_true rfl⟩ rfl rfl (Nat.le_of_ble_eq_true rfl) ⟨Nat.le_of_ble_eq_true rfl, Nat.le_of_ble_eq_true rfl⟩ dX9_takeValley_11 (t := 14) rfl rfl ?_
  refine J_iload_n hX dX9_takeValley_14 0 rfl (t := 15) rfl ?_
  replace hF := Option.some.inj hF
  obtain ⟨hF, hF2⟩ := Prod.mk.inj hF
  subst hF
  subst hF2
  exact J_iret hX hR hlk dX9_takeValley_15
abbrev rmX9_hasFailed : Room := { frames := 0, cells := 0, slots := 0, locals := 0 }
theorem miX9_hasFailed : MI yX9_hasFailed cX9_hasFailed 1 (some .boolean) 0 := ⟨q_1091, q_137, by decide +kernel, by decide +kernel, by decide +kernel, by decide +kernel⟩
theorem mvX9_hasFailed : MV yX9_hasFailed := ⟨q_1089, q_1090⟩
def FX9_hasFailed (w : Wd)  : Bool :=
  if (w 10).1 0 7 = 0 then
    false
  else
    true
set_option maxHeartbeats 4000000 in
set_option maxRecDepth 100000 in
theorem ctX9_hasFailed {G : GG} {l : Launch} (w : Wd)   {rx : Bool} (hF : FX9_hasFailed w  = rx) : CT G l yX9_hasFailed cX9_hasFailed 1 (some .boolean) rmX9_hasFailed 0 0 [.ref (adr G 10 0)] w (some (.int (bI rx))) w := by
  refine CT.of miX9_hasFailed [(0, .ref (adr G 10 0))] rfl (Nat.le_of_ble_eq_true rfl) ?_
  intro p e s m args below meth c hX hR hlk
  have hX : FX G RX9 cX9_hasFailed 1 p s m args c := hX
  unfold FX9_hasFailed at hF
  refine J_aload_n hX dX9_hasFailed_0 0 rfl (t := 1) rfl ?_
  refine J_get hX cb7 kText 7 (by decide) q_192 rfl dX9_hasFailed_1 (t := 4) rfl ?_
  refine J_if_eq (tgt := 11) hX dX9_hasFailed_4 (by decide) (t := 7) rfl (fun z => ?_) (fun z => ?_)
  · replace hF := it_t hF z
    refine J_iconst (v := 0) hX dX9_hasFailed_11 (by decide) (t := 12) rfl ?_
    subst hF
    exact J_zret (b := false) hX hR hlk dX9_hasFailed_12
  · replace hF := it_f hF z
    refine J_iconst (v := 1) hX dX9_hasFailed_7 (by decide) (t := 8) rfl ?_
    refine J_goto (tgt := 12) hX dX9_hasFailed_8 (by decide) ?_
    subst hF
    exact J_zret (b := true) hX hR hlk dX9_hasFailed_12
abbrev rmX3_readShout : Room := { frames := 3, cells := 0, slots := 0, locals := 68 }
theorem miX3_readShout : MI yX3_readShout cX3_readShout 3 none 2 := ⟨q_1072, q_142, by decide +kernel, by decide +kernel, by decide +kernel, by decide +kernel⟩
theorem mvX3_readShout : MV yX3_readShout := ⟨q_1071, q_10⟩
def FX3_readShout (n : Nat) (w : Wd) (r2 : Nat) : Option (Wd) :=
  bo2 (FX9_takeCustomer n w r2) fun x2 w3 =>
  bnd (sW w3 11 (sI (w3 11) 1 2 x2)) fun w5 =>
  bo2 (FX9_takeValley n w5 r2) fun x8 w9 =>
  bnd (sW w9 11 (sI (w9 11) 1 3 x8)) fun w11 =>
  bo2 (FX9_takeNumber w11 1 20) fun x14 w15 =>
  bnd (sW w15 11 (sI (w15 11) 1 4 x14)) fun w17 =>
  bo2 (FX9_takeNumber w17 1 4) fun x20 w21 =>
  bnd (sW w21 11 (sI (w21 11) 1 5 x20)) fun w23 =>
  bo1 (FX9_expectSign w23 59) fun w26 =>
  bnd (FX9_hasFailed w26) fun x29 =>
  if x29 = true then
    some w26
  else
    bo1 (FX6_whyRefused n (w26 r2) ((w26 11).1 1 2) ((w26 11).1 1 3) ((w26 11).1 1 5)) fun x32 =>
    if x32 = 0 then
      bo1 (FX9_failIf w26 false 6) fun w35 =>
      some w35
    else
      bo1 (FX9_failIf w26 true 6) fun w38 =>
      some w38
set_option maxHeartbeats 4000000 in
set_option maxRecDepth 100000 in
theorem ctX3_readShout {G : GG} {l : Launch} (w : Wd) (r2 : Nat) (hr2 : 1 ≤ r2 ∧ r2 ≤ 9) (n : Nat) {rw : Wd} (hF : FX3_readShout n w r2 = some rw) : CT G l yX3_readShout cX3_readShout 3 none rmX3_readShout 0 0 [.ref (adr G 11 0), .ref (adr G 10 0), .ref (adr G r2 0)] w (none) rw := by
  refine CT.of miX3_readShout [(0, .ref (adr G 11 0)), (1, .ref (adr G 10 0)), (2, .ref (adr G r2 0))] rfl (Nat.le_of_ble_eq_true rfl) ?_
  intro p e s m args below meth c hX hR hlk
  have hX : FX G RX3 cX3_readShout 3 p s m args c := hX
  unfold FX3_readShout at hF
  refine J_aload_n hX dX3_readShout_0 0 rfl (t := 1) rfl ?_
  refine J_get hX cb2 kDescription 0 (by decide) q_475 rfl dX3_readShout_1 (t := 4) rfl ?_
  refine J_aload_n hX dX3_readShout_4 1 rfl (t := 5) rfl ?_
  refine J_aload_n hX dX3_readShout_5 2 rfl (t := 6) rfl ?_
  obtain ⟨x2, w3, h1, hF⟩ := bo2_e hF
  have k4 := (ctX9_takeCustomer (G := G) (l := l) w r2 hr2 n h1)
  refine J_callV hX [.ref (adr G r2 0)] [.ref (adr G 11 1)] [.int x2, .ref (adr G 11 1)] k4 miX9_takeCustomer mvX9_takeCustomer cb7 kText q_1073 ⟨rfl, rfl, Nat.le_of_ble_eq_true rfl, Nat.le_of_ble_eq_true rfl⟩ rfl rfl (Nat.le_of_ble_eq_true rfl) ⟨Nat.le_of_ble_eq_true rfl, Nat.le_of_ble_eq_true rfl⟩ dX3_readShout_6 (t := 9) rfl rfl ?_
  obtain ⟨w5, e6, hF⟩ := bnd_e hF
  refine J_puti hX cb0 kChange0 2 (by decide) q_447 rfl rfl e6 (fun _ _ => Nat.le_of_ble_eq_true rfl) (fun _ _ => rfl) dX3_readShout_9 (t := 12) rfl ?_
  refine J_aload_n hX dX3_readShout_12 0 rfl (t := 13) rfl ?_
  refine J_get hX cb2 kDescription 0 (by decide) q_475 rfl dX3_readShout_13 (t := 16) rfl ?_
  refine J_aload_n hX dX3_readShout_16 1 rfl (t := 17) rfl ?_
  refine J_aload_n hX dX3_readShout_17 2 rfl (t := 18) rfl ?_
  obtain ⟨x8, w9, h7, hF⟩ := bo2_e hF
  have k10 := (ctX9_takeValley (G := G) (l := l) w5 r2 hr2 n h7)
  refine J_callV hX [.ref (adr G r2 0)] [.ref (adr G 11 1)] [.int x8, .ref (adr G 11 1)] k10 miX9_takeValley mvX9_takeValley cb7 kText q_1082 ⟨rfl, rfl, Nat.le_of_ble_eq_true rfl, Nat.le_of_ble_eq_true rfl⟩ rfl rfl (Nat.le_of_ble_eq_true rfl) ⟨Nat.le_of_ble_eq_true rfl, Nat.le_of_ble_eq_true rfl⟩ dX3_readShout_18 (t := 21) rfl rfl ?_
  obtain ⟨w11, e12, hF⟩ := bnd_e hF
  refine J_puti hX cb0 kChange0 3 (by decide) q_450 rfl rfl e12 (fun _ _ => Nat.le_of_ble_eq_true rfl) (fun _ _ => rfl) dX3_readShout_21 (t := 24) rfl ?_
  refine J_aload_n hX dX3_readShout_24 0 rfl (t := 25) rfl ?_
  refine J_get hX cb2 kDescription 0 (by decide) q_475 rfl dX3_readShout_25 (t := 28) rfl ?_
  refine J_aload_n hX dX3_readShout_28 1 rfl (t := 29) rfl ?_
  refine J_iconst (v := 1) hX dX3_readShout_29 (by decide) (t := 30) rfl ?_
  refine J_bipush (v := 20) hX dX3_readShout_30 (by decide) (t := 32) rfl ?_
  obtain ⟨x14, w15, h13, hF⟩ := bo2_e hF
  have k16 := (ctX9_takeNumber (G := G) (l := l) w11 1 20 h13)
  refine J_callV hX [.int 1, .int 20] [.ref (adr G 11 1)] [.int x14, .ref (adr G 11 1)] k16 miX9_takeNumber mvX9_takeNumber cb7 kText q_1052 ⟨rfl, rfl, Nat.le_of_ble_eq_true rfl, Nat.le_of_ble_eq_true rfl⟩ rfl rfl (Nat.le_of_ble_eq_true rfl) ⟨Nat.le_of_ble_eq_true rfl, Nat.le_of_ble_eq_true rfl⟩ dX3_readShout_32 (t := 35) rfl rfl ?_
  obtain ⟨w17, e18, hF⟩ := bnd_e hF
  refine J_puti hX cb0 kChange0 4 (by decide) q_453 rfl rfl e18 (fun _ _ => Nat.le_of_ble_eq_true rfl) (fun _ _ => rfl) dX3_readShout_35 (t := 38) rfl ?_
  refine J_aload_n hX dX3_readShout_38 0 rfl (t := 39) rfl ?_
  refine J_get hX cb2 kDescription 0 (by decide) q_475 rfl dX3_readShout_39 (t := 42) rfl ?_
  refine J_aload_n hX dX3_readShout_42 1 rfl (t := 43) rfl ?_
  refine J_iconst (v := 1) hX dX3_readShout_43 (by decide) (t := 44) rfl ?_
  refine J_iconst (v := 4) hX dX3_readShout_44 (by decide) (t := 45) rfl ?_
  obtain ⟨x20, w21, h19, hF⟩ := bo2_e hF
  have k22 := (ctX9_takeNumber (G := G) (l := l) w17 1 4 h19)
  refine J_callV hX [.int 1, .int 4] [.ref (adr G 11 1)] [.int x20, .ref (adr G 11 1)] k22 miX9_takeNumber mvX9_takeNumber cb7 kText q_1052 ⟨rfl, rfl, Nat.le_of_ble_eq_true rfl, Nat.le_of_ble_eq_true rfl⟩ rfl rfl (Nat.le_of_ble_eq_true rfl) ⟨Nat.le_of_ble_eq_true rfl, Nat.le_of_ble_eq_true rfl⟩ dX3_readShout_45 (t := 48) rfl rfl ?_
  obtain ⟨w23, e24, hF⟩ := bnd_e hF
  refine J_puti hX cb0 kChange0 5 (by decide) q_456 rfl rfl e24 (fun _ _ => Nat.le_of_ble_eq_true rfl) (fun _ _ => rfl) dX3_readShout_48 (t := 51) rfl ?_
  refine J_aload_n hX dX3_readShout_51 1 rfl (t := 52) rfl ?_
  refine J_bipush (v := 59) hX dX3_readShout_52 (by decide) (t := 54) rfl ?_
  obtain ⟨w26, h25, hF⟩ := bo1_e hF
  have k27 := (ctX9_expectSign (G := G) (l := l) w23 59 h25)
  refine J_callV hX [.int 59] [] [] k27 miX9_expectSign mvX9_expectSign cb7 kText q_1087 ⟨rfl, rfl, Nat.le_of_ble_eq_true rfl, Nat.le_of_ble_eq_true rfl⟩ rfl rfl (Nat.le_of_ble_eq_true rfl) ⟨Nat.le_of_ble_eq_true rfl, Nat.le_of_ble_eq_true rfl⟩ dX3_readShout_54 (t := 57) rfl rfl ?_
  refine J_aload_n hX dX3_readShout_57 1 rfl (t := 58) rfl ?_
  obtain ⟨x29, h28, hF⟩ := bnd_e hF
  have k30 := (ctX9_hasFailed (G := G) (l := l) w26  h28)
  refine J_callV hX [] [] [.int (bI x29)] k30 miX9_hasFailed mvX9_hasFailed cb7 kText q_1088 ⟨rfl, rfl, Nat.le_of_ble_eq_true rfl, Nat.le_of_ble_eq_true rfl⟩ rfl rfl (Nat.le_of_ble_eq_true rfl) ⟨Nat.le_of_ble_eq_true rfl, Nat.le_of_ble_eq_true rfl⟩ dX3_readShout_58 (t := 61) rfl rfl ?_
  refine J_ifZ_ne (tgt := 103) hX dX3_readShout_61 (by decide) (t := 64) rfl (fun z => ?_) (fun z => ?_)
  · replace hF := it_t hF z
    replace hF := Option.some.inj hF
    subst hF
    exact J_vret hX hR hlk dX3_readShout_103
  · replace hF := ib_f hF z
    refine J_aload_n hX dX3_readShout_64 1 rfl (t := 65) rfl ?_
    refine J_aload_n hX dX3_readShout_65 2 rfl (t := 66) rfl ?_
    refine J_aload_n hX dX3_readShout_66 0 rfl (t := 67) rfl ?_
    refine J_get hX cb2 kDescription 0 (by decide) q_475 rfl dX3_readShout_67 (t := 70) rfl ?_
    refine J_get hX cb0 kChange0 2 (by decide) q_447 rfl dX3_readShout_70 (t := 73) rfl ?_
    refine J_aload_n hX dX3_readShout_73 0 rfl (t := 74) rfl ?_
    refine J_get hX cb2 kDescription 0 (by decide) q_475 rfl dX3_readShout_74 (t := 77) rfl ?_
    refine J_get hX cb0 kChange0 3 (by decide) q_450 rfl dX3_readShout_77 (t := 80) rfl ?_
    refine J_aload_n hX dX3_readShout_80 0 rfl (t := 81) rfl ?_
    refine J_get hX cb2 kDescription 0 (by decide) q_475 rfl dX3_readShout_81 (t := 84) rfl ?_
    refine J_get hX cb0 kChange0 5 (by decide) q_456 rfl dX3_readShout_84 (t := 87) rfl ?_
    obtain ⟨x32, h31, hF⟩ := bo1_e hF
    have k33 := (CT.self2 (ctX6_whyRefused (G := G) (l := l) w26 r2 hr2 (w26 r2) ((w26 11).1 1 2) ((w26 11).1 1 3) ((w26 11).1 1 5) n h31))
    refine J_callV hX [.int ((w26 11).1 1 2), .int ((w26 11).1 1 3), .int ((w26 11).1 1 5)] [.ref (adr G 10 0)] [.int x32, .ref (adr G 10 0)] k33 miX6_whyRefused mvX6_whyRefused cb4 (kMarket hr2) q_1092 ⟨rfl, rfl, Nat.le_of_ble_eq_true rfl, Nat.le_of_ble_eq_true rfl⟩ rfl rfl (Nat.le_of_ble_eq_true rfl) ⟨Nat.le_of_ble_eq_true rfl, Nat.le_of_ble_eq_true rfl⟩ dX3_readShout_87 (t := 90) rfl rfl ?_
    refine J_if_eq (tgt := 97) hX dX3_readShout_90 (by decide) (t := 93) rfl (fun z => ?_) (fun z => ?_)
    · replace hF := it_t hF z
      refine J_iconst (v := 0) hX dX3_readShout_97 (by decide) (t := 98) rfl ?_
      refine J_bipush (v := 6) hX dX3_readShout_98 (by decide) (t := 100) rfl ?_
      obtain ⟨w35, h34, hF⟩ := bo1_e hF
      have k36 := (ctX9_failIf (G := G) (l := l) w26 false 6 h34)
      refine J_callV hX [.int (bI false), .int 6] [] [] k36 miX9_failIf mvX9_failIf cb7 kText q_996 ⟨rfl, rfl, Nat.le_of_ble_eq_true rfl, Nat.le_of_ble_eq_true rfl⟩ rfl rfl (Nat.le_of_ble_eq_true rfl) ⟨Nat.le_of_ble_eq_true rfl, Nat.le_of_ble_eq_true rfl⟩ dX3_readShout_100 (t := 103) rfl rfl ?_
      replace hF := Option.some.inj hF
      subst hF
      exact J_vret hX hR hlk dX3_readShout_103
    · replace hF := it_f hF z
      refine J_iconst (v := 1) hX dX3_readShout_93 (by decide) (t := 94) rfl ?_
      refine J_goto (tgt := 98) hX dX3_readShout_94 (by decide) ?_
      refine J_bipush (v := 6) hX dX3_readShout_98 (by decide) (t := 100) rfl ?_
      obtain ⟨w38, h37, hF⟩ := bo1_e hF
      have k39 := (ctX9_failIf (G := G) (l := l) w26 true 6 h37)
      refine J_callV hX [.int (bI true), .int 6] [] [] k39 miX9_failIf mvX9_failIf cb7 kText q_996 ⟨rfl, rfl, Nat.le_of_ble_eq_true rfl, Nat.le_of_ble_eq_true rfl⟩ rfl rfl (Nat.le_of_ble_eq_true rfl) ⟨Nat.le_of_ble_eq_true rfl, Nat.le_of_ble_eq_true rfl⟩ dX3_readShout_100 (t := 103) rfl rfl ?_
      replace hF := Option.some.inj hF
      subst hF
      exact J_vret hX hR hlk dX3_readShout_103
abbrev rmX3_readPass : Room := { frames := 2, cells := 0, slots := 0, locals := 44 }
theorem miX3_readPass : MI yX3_readPass cX3_readPass 3 none 2 := ⟨q_1103, q_142, by decide +kernel, by decide +kernel, by decide +kernel, by decide +kernel⟩
theorem mvX3_readPass : MV yX3_readPass := ⟨q_1102, q_13⟩
def FX3_readPass (w : Wd) (r2 : Nat) : Option (Wd) :=
  bo1 (FX9_number w) fun x2 =>
  bnd (sW w 11 (sI (w 11) 1 4 x2)) fun w4 =>
  bo1 (FX9_expectNumber w4 1 240) fun w7 =>
  bnd (FX6_faultOfPassing (w7 r2) ((w7 11).1 1 4)) fun x10 =>
  if x10 = 0 then
    bo1 (FX9_failIf w7 false 6) fun w13 =>
    bnd (FX9_skip w13) fun w16 =>
    some w16
  else
    bo1 (FX9_failIf w7 true 6) fun w19 =>
    bnd (FX9_skip w19) fun w22 =>
    some w22
set_option maxHeartbeats 4000000 in
set_option maxRecDepth 100000 in
theorem ctX3_readPass {G : GG} {l : Launch} (w : Wd) (r2 : Nat) (hr2 : 1 ≤ r2 ∧ r2 ≤ 9) {rw : Wd} (hF : FX3_readPass w r2 = some rw) : CT G l yX3_readPass cX3_readPass 3 none rmX3_readPass 0 0 [.ref (adr G 11 0), .ref (adr G 10 0), .ref (adr G r2 0)] w (none) rw := by
  refine CT.of miX3_readPass [(0, .ref (adr G 11 0)), (1, .ref (adr G 10 0)), (2, .ref (adr G r2 0))] rfl (Nat.le_of_ble_eq_true rfl) ?_
  intro p e s m args below meth c hX hR hlk
  have hX : FX G RX3 cX3_readPass 3 p s m args c := hX
  unfold FX3_readPass at hF
  refine J_aload_n hX dX3_readPass_0 0 rfl (t := 1) rfl ?_
  refine J_get hX cb2 kDescription 0 (by decide) q_475 rfl dX3_readPass_1 (t := 4) rfl ?_
  refine J_aload_n hX dX3_readPass_4 1 rfl (t := 5) rfl ?_
  obtain ⟨x2, h1, hF⟩ := bo1_e hF
  have k3 := (ctX9_number (G := G) (l := l) w  h1)
  refine J_callV hX [] [.ref (adr G 11 1)] [.int x2, .ref (adr G 11 1)] k3 miX9_number mvX9_number cb7 kText q_1104 ⟨rfl, rfl, Nat.le_of_ble_eq_true rfl, Nat.le_of_ble_eq_true rfl⟩ rfl rfl (Nat.le_of_ble_eq_true rfl) ⟨Nat.le_of_ble_eq_true rfl, Nat.le_of_ble_eq_true rfl⟩ dX3_readPass_5 (t := 8) rfl rfl ?_
  obtain ⟨w4, e5, hF⟩ := bnd_e hF
  refine J_puti hX cb0 kChange0 4 (by decide) q_453 rfl rfl e5 (fun _ _ => Nat.le_of_ble_eq_true rfl) (fun _ _ => rfl) dX3_readPass_8 (t := 11) rfl ?_
  refine J_aload_n hX dX3_readPass_11 1 rfl (t := 12) rfl ?_
  refine J_iconst (v := 1) hX dX3_readPass_12 (by decide) (t := 13) rfl ?_
  refine J_sipush (v := 240) hX dX3_readPass_13 (by decide) (t := 16) rfl ?_
  obtain ⟨w7, h6, hF⟩ := bo1_e hF
  have k8 := (ctX9_expectNumber (G := G) (l := l) w4 1 240 h6)
  refine J_callV hX [.int 1, .int 240] [] [] k8 miX9_expectNumber mvX9_expectNumber cb7 kText q_1105 ⟨rfl, rfl, Nat.le_of_ble_eq_true rfl, Nat.le_of_ble_eq_true rfl⟩ rfl rfl (Nat.le_of_ble_eq_true rfl) ⟨Nat.le_of_ble_eq_true rfl, Nat.le_of_ble_eq_true rfl⟩ dX3_readPass_16 (t := 19) rfl rfl ?_
  refine J_aload_n hX dX3_readPass_19 1 rfl (t := 20) rfl ?_
  refine J_aload_n hX dX3_readPass_20 2 rfl (t := 21) rfl ?_
  refine J_aload_n hX dX3_readPass_21 0 rfl (t := 22) rfl ?_
  refine J_get hX cb2 kDescription 0 (by decide) q_475 rfl dX3_readPass_22 (t := 25) rfl ?_
  refine J_get hX cb0 kChange0 4 (by decide) q_453 rfl dX3_readPass_25 (t := 28) rfl ?_
  obtain ⟨x10, h9, hF⟩ := bnd_e hF
  have k11 := (CT.self2 (ctX6_faultOfPassing (G := G) (l := l) w7 r2 hr2 (w7 r2) ((w7 11).1 1 4) h9))
  refine J_callV hX [.int ((w7 11).1 1 4)] [.ref (adr G 10 0)] [.ref (ga G (12 + x10)), .ref (adr G 10 0)] k11 miX6_faultOfPassing mvX6_faultOfPassing cb4 (kMarket hr2) q_1106 ⟨rfl, rfl, Nat.le_of_ble_eq_true rfl, Nat.le_of_ble_eq_true rfl⟩ rfl rfl (Nat.le_of_ble_eq_true rfl) ⟨Nat.le_of_ble_eq_true rfl, Nat.le_of_ble_eq_true rfl⟩ dX3_readPass_28 (t := 31) rfl rfl ?_
  refine J_gsX hX 0 (by decide) q_1117 dX3_readPass_31 (t := 34) rfl ?_
  refine J_acmp_eq (tgt := 41) hX dX3_readPass_34 (by decide) (t := 37) rfl (fun z => ?_) (fun z => ?_)
  · replace hF := it_t hF (hX.faultNe (ltX6_faultOfPassing h9) (by decide) z)
    refine J_iconst (v := 0) hX dX3_readPass_41 (by decide) (t := 42) rfl ?_
    refine J_bipush (v := 6) hX dX3_readPass_42 (by decide) (t := 44) rfl ?_
    obtain ⟨w13, h12, hF⟩ := bo1_e hF
    have k14 := (ctX9_failIf (G := G) (l := l) w7 false 6 h12)
    refine J_callV hX [.int (bI false), .int 6] [] [] k14 miX9_failIf mvX9_failIf cb7 kText q_996 ⟨rfl, rfl, Nat.le_of_ble_eq_true rfl, Nat.le_of_ble_eq_true rfl⟩ rfl rfl (Nat.le_of_ble_eq_true rfl) ⟨Nat.le_of_ble_eq_true rfl, Nat.le_of_ble_eq_true rfl⟩ dX3_readPass_44 (t := 47) rfl rfl ?_
    refine J_aload_n hX dX3_readPass_47 1 rfl (t := 48) rfl ?_
    obtain ⟨w16, h15, hF⟩ := bnd_e hF
    have k17 := (ctX9_skip (G := G) (l := l) w13  h15)
    refine J_callV hX [] [] [] k17 miX9_skip mvX9_skip cb7 kText q_1000 ⟨rfl, rfl, Nat.le_of_ble_eq_true rfl, Nat.le_of_ble_eq_true rfl⟩ rfl rfl (Nat.le_of_ble_eq_true rfl) ⟨Nat.le_of_ble_eq_true rfl, Nat.le_of_ble_eq_true rfl⟩ dX3_readPass_48 (t := 51) rfl rfl ?_
    replace hF := Option.some.inj hF
    subst hF
    exact J_vret hX hR hlk dX3_readPass_51
  · replace hF := it_f hF (fun k => z (by rw [k]))
    refine J_iconst (v := 1) hX dX3_readPass_37 (by decide) (t := 38) rfl ?_
    refine J_goto (tgt := 42) hX dX3_readPass_38 (by decide) ?_
    refine J_bipush (v := 6) hX dX3_readPass_42 (by decide) (t := 44) rfl ?_
    obtain ⟨w19, h18, hF⟩ := bo1_e hF
    have k20 := (ctX9_failIf (G := G) (l := l) w7 true 6 h18)
    refine J_callV hX [.int (bI true), .int 6] [] [] k20 miX9_failIf mvX9_failIf cb7 kText q_996 ⟨rfl, rfl, Nat.le_of_ble_eq_true rfl, Nat.le_of_ble_eq_true rfl⟩ rfl rfl (Nat.le_of_ble_eq_true rfl) ⟨Nat.le_of_ble_eq_true rfl, Nat.le_of_ble_eq_true rfl⟩ dX3_readPass_44 (t := 47) rfl rfl ?_
    refine J_aload_n hX dX3_readPass_47 1 rfl (t := 48) rfl ?_
    obtain ⟨w22, h21, hF⟩ := bnd_e hF
    have k23 := (ctX9_skip (G := G) (l := l) w19  h21)
    refine J_callV hX [] [] [] k23 miX9_skip mvX9_skip cb7 kText q_1000 ⟨rfl, rfl, Nat.le_of_ble_eq_true rfl, Nat.le_of_ble_eq_true rfl⟩ rfl rfl (Nat.le_of_ble_eq_true rfl) ⟨Nat.le_of_ble_eq_true rfl, Nat.le_of_ble_eq_true rfl⟩ dX3_readPass_48 (t := 51) rfl rfl ?_
    replace hF := Option.some.inj hF
    subst hF
    exact J_vret hX hR hlk dX3_readPass_51
abbrev rmX3_readFake : Room := { frames := 3, cells := 0, slots := 0, locals := 64 }
theorem miX3_readFake : MI yX3_readFake cX3_readFake 3 none 2 := ⟨q_1121, q_142, by decide +kernel, by decide +kernel, by decide +kernel, by decide +kernel⟩
theorem mvX3_readFake : MV yX3_readFake := ⟨q_1120, q_14⟩
def FX3_readFake (w : Wd) (r2 : Nat) : Option (Wd) :=
  bo1 (FX9_number w) fun x2 =>
  bnd (sW w 11 (sI (w 11) 1 4 x2)) fun w4 =>
  bo1 (FX9_expectNumber w4 0 (((w4 r2).1 0 5) - 1)) fun w7 =>
  bo1 (FX6_faultOfOpen (w7 r2) ((w7 11).1 1 4)) fun x10 =>
  if x10 = 0 then
    bo1 (FX9_failIf w7 false 6) fun w13 =>
    bnd (FX9_skip w13) fun w16 =>
    some w16
  else
    bo1 (FX9_failIf w7 true 6) fun w19 =>
    bnd (FX9_skip w19) fun w22 =>
    some w22
set_option maxHeartbeats 4000000 in
set_option maxRecDepth 100000 in
theorem ctX3_readFake {G : GG} {l : Launch} (w : Wd) (r2 : Nat) (hr2 : 1 ≤ r2 ∧ r2 ≤ 9) {rw : Wd} (hF : FX3_readFake w r2 = some rw) : CT G l yX3_readFake cX3_readFake 3 none rmX3_readFake 0 0 [.ref (adr G 11 0), .ref (adr G 10 0), .ref (adr G r2 0)] w (none) rw := by
  refine CT.of miX3_readFake [(0, .ref (adr G 11 0)), (1, .ref (adr G 10 0)), (2, .ref (adr G r2 0))] rfl (Nat.le_of_ble_eq_true rfl) ?_
  intro p e s m args below meth c hX hR hlk
  have hX : FX G RX3 cX3_readFake 3 p s m args c := hX
  unfold FX3_readFake at hF
  refine J_aload_n hX dX3_readFake_0 0 rfl (t := 1) rfl ?_
  refine J_get hX cb2 kDescription 0 (by decide) q_475 rfl dX3_readFake_1 (t := 4) rfl ?_
  refine J_aload_n hX dX3_readFake_4 1 rfl (t := 5) rfl ?_
  obtain ⟨x2, h1, hF⟩ := bo1_e hF
  have k3 := (ctX9_number (G := G) (l := l) w  h1)
  refine J_callV hX [] [.ref (adr G 11 1)] [.int x2, .ref (adr G 11 1)] k3 miX9_number mvX9_number cb7 kText q_1104 ⟨rfl, rfl, Nat.le_of_ble_eq_true rfl, Nat.le_of_ble_eq_true rfl⟩ rfl rfl (Nat.le_of_ble_eq_true rfl) ⟨Nat.le_of_ble_eq_true rfl, Nat.le_of_ble_eq_true rfl⟩ dX3_readFake_5 (t := 8) rfl rfl ?_
  obtain ⟨w4, e5, hF⟩ := bnd_e hF
  refine J_puti hX cb0 kChange0 4 (by decide) q_453 rfl rfl e5 (fun _ _ => Nat.le_of_ble_eq_true rfl) (fun _ _ => rfl) dX3_readFake_8 (t := 11) rfl ?_
  refine J_aload_n hX dX3_readFake_11 1 rfl (t := 12) rfl ?_
  refine J_iconst (v := 0) hX dX3_readFake_12 (by decide) (t := 13) rfl ?_
  refine J_aload_n hX dX3_readFake_13 2 rfl (t := 14) rfl ?_
  refine J_get hX cb4 (kMarket hr2) 5 (by decide) q_385 rfl dX3_readFake_14 (t := 17) rfl ?_
  refine J_iconst (v := 1) hX dX3_readFake_17 (by decide) (t := 18) rfl ?_
  refine J_isub hX dX3_readFake_18 (t := 19) rfl ?_
  obtain ⟨w7, h6, hF⟩ := bo1_e hF
  have k8 := (ctX9_expectNumber (G := G) (l := l) w4 0 (((w4 r2).1 0 5) - 1) h6)
  refine J_callV hX [.int 0, .int (((w4 r2).1 0 5) - 1)] [] [] k8 miX9_expectNumber mvX9_expectNumber cb7 kText q_1105 ⟨rfl, rfl, Nat.le_of_ble_eq_true rfl, Nat.le_of_ble_eq_true rfl⟩ rfl rfl (Nat.le_of_ble_eq_true rfl) ⟨Nat.le_of_ble_eq_true rfl, Nat.le_of_ble_eq_true rfl⟩ dX3_readFake_19 (t := 22) rfl rfl ?_
  refine J_aload_n hX dX3_readFake_22 1 rfl (t := 23) rfl ?_
  refine J_aload_n hX dX3_readFake_23 2 rfl (t := 24) rfl ?_
  refine J_aload_n hX dX3_readFake_24 0 rfl (t := 25) rfl ?_
  refine J_get hX cb2 kDescription 0 (by decide) q_475 rfl dX3_readFake_25 (t := 28) rfl ?_
  refine J_get hX cb0 kChange0 4 (by decide) q_453 rfl dX3_readFake_28 (t := 31) rfl ?_
  obtain ⟨x10, h9, hF⟩ := bo1_e hF
  have k11 := (CT.self2 (ctX6_faultOfOpen (G := G) (l := l) w7 r2 hr2 (w7 r2) ((w7 11).1 1 4) h9))
  refine J_callV hX [.int ((w7 11).1 1 4)] [.ref (adr G 10 0)] [.ref (ga G (12 + x10)), .ref (adr G 10 0)] k11 miX6_faultOfOpen mvX6_faultOfOpen cb4 (kMarket hr2) q_1122 ⟨rfl, rfl, Nat.le_of_ble_eq_true rfl, Nat.le_of_ble_eq_true rfl⟩ rfl rfl (Nat.le_of_ble_eq_true rfl) ⟨Nat.le_of_ble_eq_true rfl, Nat.le_of_ble_eq_true rfl⟩ dX3_readFake_31 (t := 34) rfl rfl ?_
  refine J_gsX hX 0 (by decide) q_1117 dX3_readFake_34 (t := 37) rfl ?_
  refine J_acmp_eq (tgt := 44) hX dX3_readFake_37 (by decide) (t := 40) rfl (fun z => ?_) (fun z => ?_)
  · replace hF := it_t hF (hX.faultNe (ltX6_faultOfOpen h9) (by decide) z)
    refine J_iconst (v := 0) hX dX3_readFake_44 (by decide) (t := 45) rfl ?_
    refine J_bipush (v := 6) hX dX3_readFake_45 (by decide) (t := 47) rfl ?_
    obtain ⟨w13, h12, hF⟩ := bo1_e hF
    have k14 := (ctX9_failIf (G := G) (l := l) w7 false 6 h12)
    refine J_callV hX [.int (bI false), .int 6] [] [] k14 miX9_failIf mvX9_failIf cb7 kText q_996 ⟨rfl, rfl, Nat.le_of_ble_eq_true rfl, Nat.le_of_ble_eq_true rfl⟩ rfl rfl (Nat.le_of_ble_eq_true rfl) ⟨Nat.le_of_ble_eq_true rfl, Nat.le_of_ble_eq_true rfl⟩ dX3_readFake_47 (t := 50) rfl rfl ?_
    refine J_aload_n hX dX3_readFake_50 1 rfl (t := 51) rfl ?_
    obtain ⟨w16, h15, hF⟩ := bnd_e hF
    have k17 := (ctX9_skip (G := G) (l := l) w13  h15)
    refine J_callV hX [] [] [] k17 miX9_skip mvX9_skip cb7 kText q_1000 ⟨rfl, rfl, Nat.le_of_ble_eq_true rfl, Nat.le_of_ble_eq_true rfl⟩ rfl rfl (Nat.le_of_ble_eq_true rfl) ⟨Nat.le_of_ble_eq_true rfl, Nat.le_of_ble_eq_true rfl⟩ dX3_readFake_51 (t := 54) rfl rfl ?_
    replace hF := Option.some.inj hF
    subst hF
    exact J_vret hX hR hlk dX3_readFake_54
  · replace hF := it_f hF (fun k => z (by rw [k]))
    refine J_iconst (v := 1) hX dX3_readFake_40 (by decide) (t := 41) rfl ?_
    refine J_goto (tgt := 45) hX dX3_readFake_41 (by decide) ?_
    refine J_bipush (v := 6) hX dX3_readFake_45 (by decide) (t := 47) rfl ?_
    obtain ⟨w19, h18, hF⟩ := bo1_e hF
    have k20 := (ctX9_failIf (G := G) (l := l) w7 true 6 h18)
    refine J_callV hX [.int (bI true), .int 6] [] [] k20 miX9_failIf mvX9_failIf cb7 kText q_996 ⟨rfl, rfl, Nat.le_of_ble_eq_true rfl, Nat.le_of_ble_eq_true rfl⟩ rfl rfl (Nat.le_of_ble_eq_true rfl) ⟨Nat.le_of_ble_eq_true rfl, Nat.le_of_ble_eq_true rfl⟩ dX3_readFake_47 (t := 50) rfl rfl ?_
    refine J_aload_n hX dX3_readFake_50 1 rfl (t := 51) rfl ?_
    obtain ⟨w22, h21, hF⟩ := bnd_e hF
    have k23 := (ctX9_skip (G := G) (l := l) w19  h21)
    refine J_callV hX [] [] [] k23 miX9_skip mvX9_skip cb7 kText q_1000 ⟨rfl, rfl, Nat.le_of_ble_eq_true rfl, Nat.le_of_ble_eq_true rfl⟩ rfl rfl (Nat.le_of_ble_eq_true rfl) ⟨Nat.le_of_ble_eq_true rfl, Nat.le_of_ble_eq_true rfl⟩ dX3_readFake_51 (t := 54) rfl rfl ?_
    replace hF := Option.some.inj hF
    subst hF
    exact J_vret hX hR hlk dX3_readFake_54
def FX7_appendToPlan (w : Wd) (p1 : Int32) : Option (Wd) :=
  if 40 ≤ (w 12).1 0 5 then
    some w
  else
    gd (inb ((w 12).1 0 5) 40) <| bnd (sW w 12 (sI (w 12) 2 (((w 12).1 0 5).toNatClampNeg) p1)) fun w2 =>
    bnd (sW w2 12 (sI (w2 12) 0 5 (((w2 12).1 0 5) + 1))) fun w4 =>
    some w4
def FX7_beginRepeat (w : Wd)  : Option (Wd) :=
  bo2 (FX9_takeNumber w 1 20) fun x2 w3 =>
  gd (inb ((w 12).1 0 6) 2) <| bnd (sW w3 12 (sI (w3 12) 4 (((w 12).1 0 6).toNatClampNeg) x2)) fun w6 =>
  gd (inb ((w6 12).1 0 6) 2) <| bnd (sW w6 12 (sI (w6 12) 3 (((w6 12).1 0 6).toNatClampNeg) ((w6 12).1 0 5))) fun w9 =>
  bnd (sW w9 12 (sI (w9 12) 0 6 (((w9 12).1 0 6) + 1))) fun w11 =>
  bo1 (FX9_takeSign w11 40) fun w14 =>
  some w14
def FX7_readChange_B56 (n : Nat) (w : Wd) (l3r : Nat) (l3j : Nat) (l4 : Nat) : Option (Wd) :=
  bo2 (FX9_takeNumber w 0 9999) fun x9 w10 =>
  bnd (sW w10 l3r (sI (w10 l3r) l3j 4 x9)) fun w12 =>
  if l4 = 4 then
    bo2 (FX9_takeNumber w12 0 9999) fun x18 w19 =>
    bnd (sW w19 l3r (sI (w19 l3r) l3j 5 x18)) fun w21 =>
    bo1 (FX9_takeSign w21 59) fun w24 =>
    some w24
  else
    bo1 (FX9_takeSign w12 59) fun w15 =>
    some w15
def FX7_readChange_B47 (n : Nat) (w : Wd) (l2 : Nat) (l3r : Nat) (l3j : Nat) (l4 : Nat) : Option (Wd) :=
  bo2 (FX9_takeValley n w l2) fun x3 w4 =>
  bnd (sW w4 l3r (sI (w4 l3r) l3j 3 x3)) fun w6 =>
  FX7_readChange_B56 n w6 l3r l3j l4
def FX7_readChange_B23 (n : Nat) (w : Wd) (l2 : Nat) (l3r : Nat) (l3j : Nat) (l4 : Nat) : Option (Wd) :=
  if l4 = 4 then
    FX7_readChange_B47 n w l2 l3r l3j l4
  else
    if l4 = 5 then
      FX7_readChange_B47 n w l2 l3r l3j l4
    else
      if l4 = 6 then
        FX7_readChange_B47 n w l2 l3r l3j l4
      else
        FX7_readChange_B56 n w l3r l3j l4
def FX7_readChange (n : Nat) (w : Wd) (r2 : Nat) (r3 : Nat) (j3 : Nat) : Option (Wd) :=
  gd (decide (((w r3).1 j3 0).toNatClampNeg < 12)) <|
  if ((w r3).1 j3 0).toNatClampNeg = 4 then
    bo2 (FX9_takeCustomer n w r2) fun x27 w28 =>
    bnd (sW w28 r3 (sI (w28 r3) j3 2 x27)) fun w30 =>
    FX7_readChange_B23 n w30 r2 r3 j3 (((w r3).1 j3 0).toNatClampNeg)
  else
    FX7_readChange_B23 n w r2 r3 j3 (((w r3).1 j3 0).toNatClampNeg)
abbrev rmX9_append : Room := { frames := 0, cells := 0, slots := 0, locals := 0 }
theorem miX9_append : MI yX9_append cX9_append 3 none 1 := ⟨q_864, q_137, by decide +kernel, by decide +kernel, by decide +kernel, by decide +kernel⟩
theorem mvX9_append : MV yX9_append := ⟨q_862, q_863⟩
def FX9_append_L3 (n : Nat) : Nat → Wd → Int32 → Int32 → Option (Wd)
  | 0 => fun _ _ _ => none
  | k + 1 => fun w l1 l2 =>
    if l2 < 0 then
      some w
    else
      if 600 ≤ (w 10).1 0 6 then
        some w
      else
        gd (inb ((w 10).1 0 6) 600) <| bnd (sW w 10 (sI (w 10) 1 (((w 10).1 0 6).toNatClampNeg) ((((l1.toUInt32 >>> (l2.toUInt32 &&& Int32.toUInt32 31)).toInt32).toInt8.toInt32).toInt8.toInt32))) fun w2 =>
        bnd (sW w2 10 (sI (w2 10) 0 6 (((w2 10).1 0 6) + 1))) fun w4 =>
        FX9_append_L3 n k w4 l1 (l2 + (-8))
set_option maxHeartbeats 4000000 in
set_option maxRecDepth 100000 in
theorem LX9_append_3 {G : GG} {l : Launch} {p : Program} {e : Env} {s : State} {m : MethodId} {args : Array Value} {below : List Frame} {meth : Method} {c : Code} (hX : FX G RX9 cX9_append 3 p s m args c) (hR : meth.sig.returnType = none) (hlk : meth.locks = false) {rw : Wd} (n : Nat) : ∀ (k : Nat) (w : Wd) (l1 : Int32) (l2 : Int32) , FX9_append_L3 n k w l1 l2 = some rw → J G p l e rmX9_append s m args below meth c 3 0 0 (MQ below (QV G (none) rw) args s 0 0 (gA G)) (GH G w) 3 [(0, .ref (adr G 10 0)), (1, .int l1), (2, .int l2)] [] := by
  intro k
  induction k with
  | zero => intro w l1 l2  hF; cases hF
  | succ k ih =>
    intro w l1 l2  hF
    simp only [FX9_append_L3] at hF
    refine J_iload_n hX dX9_append_3 2 rfl (t := 4) rfl ?_
    refine J_if_lt (tgt := 46) hX dX9_append_4 (by decide) (t := 7) rfl (fun z => ?_) (fun z => ?_)
    · replace hF := it_t hF z
      replace hF := Option.some.inj hF
      subst hF
      exact J_vret hX hR hlk dX9_append_46
    · replace hF := it_f hF z
      refine J_aload_n hX dX9_append_7 0 rfl (t := 8) rfl ?_
      refine J_get hX cb7 kText 6 (by decide) q_191 rfl dX9_append_8 (t := 11) rfl ?_
      refine J_sipush (v := 600) hX dX9_append_11 (by decide) (t := 14) rfl ?_
      refine J_icmp_ge (tgt := 46) hX dX9_append_14 (by decide) (t := 17) rfl (fun z => ?_) (fun z => ?_)
      · replace hF := it_t hF z
        replace hF := Option.some.inj hF
        subst hF
        exact J_vret hX hR hlk dX9_append_46
      · replace hF := it_f hF z
        refine J_aload_n hX dX9_append_17 0 rfl (t := 18) rfl ?_
        refine J_get hX cb7 kText 0 (by decide) q_184 rfl dX9_append_18 (t := 21) rfl ?_
        refine J_aload_n hX dX9_append_21 0 rfl (t := 22) rfl ?_
        refine J_get hX cb7 kText 6 (by decide) q_191 rfl dX9_append_22 (t := 25) rfl ?_
        refine J_iload_n hX dX9_append_25 1 rfl (t := 26) rfl ?_
        refine J_iload_n hX dX9_append_26 2 rfl (t := 27) rfl ?_
        refine J_iushr hX dX9_append_27 (t := 28) rfl ?_
        refine J_i2b hX dX9_append_28 (t := 29) rfl ?_
        obtain ⟨g1, hF⟩ := gd_e hF
        obtain ⟨w2, e3, hF⟩ := bnd_e hF
        refine J_bast hX kBytes g1 rfl e3 dX9_append_29 (t := 30) rfl ?_
        refine J_aload_n hX dX9_append_30 0 rfl (t := 31) rfl ?_
        refine J_dup hX dX9_append_31 rfl (t := 32) rfl ?_
        refine J_get hX cb7 kText 6 (by decide) q_191 rfl dX9_append_32 (t := 35) rfl ?_
        refine J_iconst (v := 1) hX dX9_append_35 (by decide) (t := 36) rfl ?_
        refine J_iadd hX dX9_append_36 (t := 37) rfl ?_
        obtain ⟨w4, e5, hF⟩ := bnd_e hF
        refine J_puti hX cb7 kText 6 (by decide) q_191 rfl rfl e5 (fun _ _ => Nat.le_of_ble_eq_true rfl) (fun _ _ => rfl) dX9_append_37 (t := 40) rfl ?_
        refine J_iinc (v := l2 + (-8)) (lc2 := [(2, .int (l2 + (-8))), (0, .ref (adr G 10 0)), (1, .int l1)]) hX dX9_append_40 2 rfl rfl (Nat.le_of_ble_eq_true rfl) rfl (t := 43) rfl ?_
        refine J_goto (tgt := 3) hX dX9_append_43 (by decide) ?_
        refine J_sub (lc2 := [(0, .ref (adr G 10 0)), (1, .int l1), (2, .int (l2 + (-8)))]) [1, 2, 0] rfl ?_
        exact ih w4 l1 (l2 + (-8)) hF
def FX9_append (n : Nat) (w : Wd) (p1 : Int32) : Option (Wd) :=
  FX9_append_L3 n n w p1 24
set_option maxHeartbeats 4000000 in
set_option maxRecDepth 100000 in
theorem ctX9_append {G : GG} {l : Launch} (w : Wd) (p1 : Int32)  (n : Nat) {rw : Wd} (hF : FX9_append n w p1 = some rw) : CT G l yX9_append cX9_append 3 none rmX9_append 0 0 [.ref (adr G 10 0), .int p1] w (none) rw := by
  refine CT.of miX9_append [(0, .ref (adr G 10 0)), (1, .int p1)] rfl (Nat.le_of_ble_eq_true rfl) ?_
  intro p e s m args below meth c hX hR hlk
  have hX : FX G RX9 cX9_append 3 p s m args c := hX
  unfold FX9_append at hF
  refine J_bipush (v := 24) hX dX9_append_0 (by decide) (t := 2) rfl ?_
  refine J_istore_n (lc2 := [(2, .int 24), (0, .ref (adr G 10 0)), (1, .int p1)]) hX dX9_append_2 rfl (Nat.le_of_ble_eq_true rfl) rfl (t := 3) rfl ?_
  refine J_sub (lc2 := [(0, .ref (adr G 10 0)), (1, .int p1), (2, .int 24)]) [1, 2, 0] rfl ?_
  exact LX9_append_3 hX hR hlk n n w p1 24 hF
abbrev rmX9_wholeName : Room := { frames := 2, cells := 0, slots := 0, locals := 47 }
theorem miX9_wholeName : MI yX9_wholeName cX9_wholeName 1 (some .long) 0 := ⟨q_649, q_137, by decide +kernel, by decide +kernel, by decide +kernel, by decide +kernel⟩
theorem mvX9_wholeName : MV yX9_wholeName := ⟨q_647, q_648⟩
def FX9_wholeName (n : Nat) (w : Wd)  : Option (Int64) :=
  bo1 (FX9_nameIn n w 0 ((w 10).1 0 6)) fun x2 =>
  some x2
set_option maxHeartbeats 4000000 in
set_option maxRecDepth 100000 in
theorem ctX9_wholeName {G : GG} {l : Launch} (w : Wd)   (n : Nat) {rx : Int64} (hF : FX9_wholeName n w  = some rx) : CT G l yX9_wholeName cX9_wholeName 1 (some .long) rmX9_wholeName 0 0 [.ref (adr G 10 0)] w (some (.long rx)) w := by
  refine CT.of miX9_wholeName [(0, .ref (adr G 10 0))] rfl (Nat.le_of_ble_eq_true rfl) ?_
  intro p e s m args below meth c hX hR hlk
  have hX : FX G RX9 cX9_wholeName 1 p s m args c := hX
  unfold FX9_wholeName at hF
  refine J_aload_n hX dX9_wholeName_0 0 rfl (t := 1) rfl ?_
  refine J_iconst (v := 0) hX dX9_wholeName_1 (by decide) (t := 2) rfl ?_
  refine J_aload_n hX dX9_wholeName_2 0 rfl (t := 3) rfl ?_
  refine J_get hX cb7 kText 6 (by decide) q_191 rfl dX9_wholeName_3 (t := 6) rfl ?_
  obtain ⟨x2, h1, hF⟩ := bo1_e hF
  have k3 := (ctX9_nameIn (G := G) (l := l) w 0 ((w 10).1 0 6) n h1)
  refine J_callV hX [.int 0, .int ((w 10).1 0 6)] [] [.long x2] k3 miX9_nameIn mvX9_nameIn cb7 kText q_650 ⟨rfl, rfl, Nat.le_of_ble_eq_true rfl, Nat.le_of_ble_eq_true rfl⟩ rfl rfl (Nat.le_of_ble_eq_true rfl) ⟨Nat.le_of_ble_eq_true rfl, Nat.le_of_ble_eq_true rfl⟩ dX9_wholeName_6 (t := 9) rfl rfl ?_
  replace hF := Option.some.inj hF
  subst hF
  exact J_lret hX hR hlk dX9_wholeName_9

