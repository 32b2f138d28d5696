abbrev rmX2_hasAnger : Room := { frames := 0, cells := 0, slots := 0, locals := 0 }
theorem miX2_hasAnger : MI yX2_hasAnger cX2_hasAnger 1 (some .boolean) 0 := ⟨q_706, q_140, by decide +kernel, by decide +kernel, by decide +kernel, by decide +kernel⟩
theorem mvX2_hasAnger : MV yX2_hasAnger := ⟨q_704, q_705⟩
def FX2_hasAnger (M : MM) (j0 : Nat) : Bool :=
  if M.1 j0 4 < 3 then
    false
  else
    true
set_option maxHeartbeats 4000000 in
set_option maxRecDepth 100000 in
theorem ctX2_hasAnger {G : GG} {l : Launch} (w : Wd) (r : Nat) (hr : 1 ≤ r ∧ r ≤ 9) (M : MM) (j0 : Nat) (hj0 : 12 ≤ j0 ∧ j0 < 20) {rx : Bool} (hF : FX2_hasAnger M j0 = rx) : CT G l yX2_hasAnger cX2_hasAnger 1 (some .boolean) rmX2_hasAnger 0 0 [.ref (adr G r j0)] (sW w r M) (some (.int (bI rx))) (sW w r M) := by
  refine CT.of miX2_hasAnger [(0, .ref (adr G r j0))] rfl (Nat.le_of_ble_eq_true rfl) ?_
  intro p e s m args below meth c hX hR hlk
  have hX : FX G RX2 cX2_hasAnger 1 p s m args c := hX
  unfold FX2_hasAnger at hF
  refine J_aload_n hX dX2_hasAnger_0 0 rfl (t := 1) rfl ?_
  refine JM_get hX cb1 (kCustomer hr hj0) 4 (by decide) q_291 rfl dX2_hasAnger_1 (t := 4) rfl ?_
  refine J_iconst (v := 3) hX dX2_hasAnger_4 (by decide) (t := 5) rfl ?_
  refine J_icmp_lt (tgt := 12) hX dX2_hasAnger_5 (by decide) (t := 8) rfl (fun z => ?_) (fun z => ?_)
  · replace hF := it_t hF z
    refine J_iconst (v := 0) hX dX2_hasAnger_12 (by decide) (t := 13) rfl ?_
    subst hF
    exact J_zret (b := false) hX hR hlk dX2_hasAnger_13
  · replace hF := it_f hF z
    refine J_iconst (v := 1) hX dX2_hasAnger_8 (by decide) (t := 9) rfl ?_
    refine J_goto (tgt := 13) hX dX2_hasAnger_9 (by decide) ?_
    subst hF
    exact J_zret (b := true) hX hR hlk dX2_hasAnger_13
abbrev rmX12_isWithin : Room := { frames := 0, cells := 0, slots := 0, locals := 0 }
theorem miX12_isWithin : MI yX12_isWithin cX12_isWithin 3 (some .boolean) 3 := ⟨q_656, q_136, by decide +kernel, by decide +kernel, by decide +kernel, by decide +kernel⟩
def FX12_isWithin (p0 : Int32) (p1 : Int32) (p2 : Int32) : Bool :=
  if p0 < p1 then
    false
  else
    if p2 < p0 then
      false
    else
      true
set_option maxHeartbeats 4000000 in
set_option maxRecDepth 100000 in
theorem ctX12_isWithin {G : GG} {l : Launch} {w : Wd} (p0 : Int32) (p1 : Int32) (p2 : Int32)  {rx : Bool} (hF : FX12_isWithin p0 p1 p2 = rx) : CT G l yX12_isWithin cX12_isWithin 3 (some .boolean) rmX12_isWithin 0 0 [.int p0, .int p1, .int p2] w (some (.int (bI rx))) w := by
  refine CT.of miX12_isWithin [(0, .int p0), (1, .int p1), (2, .int p2)] rfl (Nat.le_of_ble_eq_true rfl) ?_
  intro p e s m args below meth c hX hR hlk
  have hX : FX G RX12 cX12_isWithin 3 p s m args c := hX
  unfold FX12_isWithin at hF
  refine J_iload_n hX dX12_isWithin_0 0 rfl (t := 1) rfl ?_
  refine J_iload_n hX dX12_isWithin_1 1 rfl (t := 2) rfl ?_
  refine J_icmp_lt (tgt := 14) hX dX12_isWithin_2 (by decide) (t := 5) rfl (fun z => ?_) (fun z => ?_)
  · replace hF := it_t hF z
    refine J_iconst (v := 0) hX dX12_isWithin_14 (by decide) (t := 15) rfl ?_
    subst hF
    exact J_zret (b := false) hX hR hlk dX12_isWithin_15
  · replace hF := it_f hF z
    refine J_iload_n hX dX12_isWithin_5 0 rfl (t := 6) rfl ?_
    refine J_iload_n hX dX12_isWithin_6 2 rfl (t := 7) rfl ?_
    refine J_icmp_gt (tgt := 14) hX dX12_isWithin_7 (by decide) (t := 10) rfl (fun z => ?_) (fun z => ?_)
    · replace hF := it_t hF z
      refine J_iconst (v := 0) hX dX12_isWithin_14 (by decide) (t := 15) rfl ?_
      subst hF
      exact J_zret (b := false) hX hR hlk dX12_isWithin_15
    · replace hF := it_f hF z
      refine J_iconst (v := 1) hX dX12_isWithin_10 (by decide) (t := 11) rfl ?_
      refine J_goto (tgt := 15) hX dX12_isWithin_11 (by decide) ?_
      subst hF
      exact J_zret (b := true) hX hR hlk dX12_isWithin_15
abbrev rmX6_hasValley : Room := { frames := 1, cells := 0, slots := 0, locals := 22 }
theorem miX6_hasValley : MI yX6_hasValley cX6_hasValley 2 (some .boolean) 1 := ⟨q_1294, q_138, by decide +kernel, by decide +kernel, by decide +kernel, by decide +kernel⟩
theorem mvX6_hasValley : MV yX6_hasValley := ⟨q_1292, q_1293⟩
def FX6_hasValley (M : MM) (p1 : Int32) : Bool :=
  bnd (FX12_isWithin p1 0 ((M.1 0 3) - 1)) fun x2 =>
  x2
set_option maxHeartbeats 4000000 in
set_option maxRecDepth 100000 in
theorem ctX6_hasValley {G : GG} {l : Launch} (w : Wd) (r : Nat) (hr : 1 ≤ r ∧ r ≤ 9) (M : MM) (p1 : Int32)  {rx : Bool} (hF : FX6_hasValley M p1 = rx) : CT G l yX6_hasValley cX6_hasValley 2 (some .boolean) rmX6_hasValley 0 0 [.ref (adr G r 0), .int p1] (sW w r M) (some (.int (bI rx))) (sW w r M) := by
  refine CT.of miX6_hasValley [(0, .ref (adr G r 0)), (1, .int p1)] rfl (Nat.le_of_ble_eq_true rfl) ?_
  intro p e s m args below meth c hX hR hlk
  have hX : FX G RX6 cX6_hasValley 2 p s m args c := hX
  unfold FX6_hasValley at hF
  refine J_iload_n hX dX6_hasValley_0 1 rfl (t := 1) rfl ?_
  refine J_iconst (v := 0) hX dX6_hasValley_1 (by decide) (t := 2) rfl ?_
  refine J_aload_n hX dX6_hasValley_2 0 rfl (t := 3) rfl ?_
  refine JM_get hX cb4 (kMarket hr) 3 (by decide) q_377 rfl dX6_hasValley_3 (t := 6) rfl ?_
  refine J_iconst (v := 1) hX dX6_hasValley_6 (by decide) (t := 7) rfl ?_
  refine J_isub hX dX6_hasValley_7 (t := 8) rfl ?_
  obtain ⟨x2, h1, hF⟩ := bnd_e hF
  have k3 := (ctX12_isWithin (l := l) (G := G) (w := sW w r M) p1 0 ((M.1 0 3) - 1) h1)
  refine J_callSN hX [.int p1, .int 0, .int ((M.1 0 3) - 1)] [] k3 miX12_isWithin q_655 (by simp [nestL]) ⟨rfl, rfl, Nat.le_of_ble_eq_true rfl, Nat.le_of_ble_eq_true rfl⟩ rfl rfl (Nat.le_of_ble_eq_true rfl) ⟨Nat.le_of_ble_eq_true rfl, Nat.le_of_ble_eq_true rfl⟩ dX6_hasValley_8 (t := 11) rfl ?_
  subst hF
  exact J_zret (b := x2) hX hR hlk dX6_hasValley_11
abbrev rmX6_hasShout : Room := { frames := 1, cells := 0, slots := 0, locals := 22 }
theorem miX6_hasShout : MI yX6_hasShout cX6_hasShout 2 (some .boolean) 1 := ⟨q_1129, q_138, by decide +kernel, by decide +kernel, by decide +kernel, by decide +kernel⟩
theorem mvX6_hasShout : MV yX6_hasShout := ⟨q_1127, q_1128⟩
def FX6_hasShout (M : MM) (p1 : Int32) : Bool :=
  bnd (FX12_isWithin p1 0 ((M.1 0 5) - 1)) fun x2 =>
  x2
set_option maxHeartbeats 4000000 in
set_option maxRecDepth 100000 in
theorem ctX6_hasShout {G : GG} {l : Launch} (w : Wd) (r : Nat) (hr : 1 ≤ r ∧ r ≤ 9) (M : MM) (p1 : Int32)  {rx : Bool} (hF : FX6_hasShout M p1 = rx) : CT G l yX6_hasShout cX6_hasShout 2 (some .boolean) rmX6_hasShout 0 0 [.ref (adr G r 0), .int p1] (sW w r M) (some (.int (bI rx))) (sW w r M) := by
  refine CT.of miX6_hasShout [(0, .ref (adr G r 0)), (1, .int p1)] rfl (Nat.le_of_ble_eq_true rfl) ?_
  intro p e s m args below meth c hX hR hlk
  have hX : FX G RX6 cX6_hasShout 2 p s m args c := hX
  unfold FX6_hasShout at hF
  refine J_iload_n hX dX6_hasShout_0 1 rfl (t := 1) rfl ?_
  refine J_iconst (v := 0) hX dX6_hasShout_1 (by decide) (t := 2) rfl ?_
  refine J_aload_n hX dX6_hasShout_2 0 rfl (t := 3) rfl ?_
  refine JM_get hX cb4 (kMarket hr) 5 (by decide) q_383 rfl dX6_hasShout_3 (t := 6) rfl ?_
  refine J_iconst (v := 1) hX dX6_hasShout_6 (by decide) (t := 7) rfl ?_
  refine J_isub hX dX6_hasShout_7 (t := 8) rfl ?_
  obtain ⟨x2, h1, hF⟩ := bnd_e hF
  have k3 := (ctX12_isWithin (l := l) (G := G) (w := sW w r M) p1 0 ((M.1 0 5) - 1) h1)
  refine J_callSN hX [.int p1, .int 0, .int ((M.1 0 5) - 1)] [] k3 miX12_isWithin q_655 (by simp [nestL]) ⟨rfl, rfl, Nat.le_of_ble_eq_true rfl, Nat.le_of_ble_eq_true rfl⟩ rfl rfl (Nat.le_of_ble_eq_true rfl) ⟨Nat.le_of_ble_eq_true rfl, Nat.le_of_ble_eq_true rfl⟩ dX6_hasShout_8 (t := 11) rfl ?_
  subst hF
  exact J_zret (b := x2) hX hR hlk dX6_hasShout_11
abbrev rmX8_isOpen : Room := { frames := 0, cells := 0, slots := 0, locals := 0 }
theorem miX8_isOpen : MI yX8_isOpen cX8_isOpen 1 (some .boolean) 0 := ⟨q_641, q_141, by decide +kernel, by decide +kernel, by decide +kernel, by decide +kernel⟩
theorem mvX8_isOpen : MV yX8_isOpen := ⟨q_639, q_640⟩
def FX8_isOpen (M : MM) (j0 : Nat) : Bool :=
  if M.1 j0 8 = 0 then
    true
  else
    false
set_option maxHeartbeats 4000000 in
set_option maxRecDepth 100000 in
theorem ctX8_isOpen {G : GG} {l : Launch} (w : Wd) (r : Nat) (hr : 1 ≤ r ∧ r ≤ 9) (M : MM) (j0 : Nat) (hj0 : 20 ≤ j0 ∧ j0 < 50) {rx : Bool} (hF : FX8_isOpen M j0 = rx) : CT G l yX8_isOpen cX8_isOpen 1 (some .boolean) rmX8_isOpen 0 0 [.ref (adr G r j0)] (sW w r M) (some (.int (bI rx))) (sW w r M) := by
  refine CT.of miX8_isOpen [(0, .ref (adr G r j0))] rfl (Nat.le_of_ble_eq_true rfl) ?_
  intro p e s m args below meth c hX hR hlk
  have hX : FX G RX8 cX8_isOpen 1 p s m args c := hX
  unfold FX8_isOpen at hF
  refine J_aload_n hX dX8_isOpen_0 0 rfl (t := 1) rfl ?_
  refine JM_get hX cb6 (kShout hr hj0) 8 (by decide) q_340 rfl dX8_isOpen_1 (t := 4) rfl ?_
  refine J_if_ne (tgt := 11) hX dX8_isOpen_4 (by decide) (t := 7) rfl (fun z => ?_) (fun z => ?_)
  · replace hF := it_f hF z
    refine J_iconst (v := 0) hX dX8_isOpen_11 (by decide) (t := 12) rfl ?_
    subst hF
    exact J_zret (b := false) hX hR hlk dX8_isOpen_12
  · replace hF := it_t hF z
    refine J_iconst (v := 1) hX dX8_isOpen_7 (by decide) (t := 8) rfl ?_
    refine J_goto (tgt := 12) hX dX8_isOpen_8 (by decide) ?_
    subst hF
    exact J_zret (b := true) hX hR hlk dX8_isOpen_12
abbrev rmX6_openInAll : Room := { frames := 1, cells := 0, slots := 0, locals := 20 }
theorem miX6_openInAll : MI yX6_openInAll cX6_openInAll 3 (some .int) 0 := ⟨q_637, q_138, by decide +kernel, by decide +kernel, by decide +kernel, by decide +kernel⟩
theorem mvX6_openInAll : MV yX6_openInAll := ⟨q_635, q_636⟩
def FX6_openInAll_L4 (n : Nat) : Nat → MM → Int32 → Int32 → Option (Int32)
  | 0 => fun _ _ _ => none
  | k + 1 => fun M x1 x2 =>
    if M.1 0 5 ≤ x2 then
      some x1
    else
      gd (inb x2 30) <|
      bnd (FX8_isOpen M (20 + x2.toNatClampNeg)) fun x3 =>
      if x3 = true then
        FX6_openInAll_L4 n k M (x1 + 1) (x2 + 1)
      else
        FX6_openInAll_L4 n k M (x1 + 0) (x2 + 1)
set_option maxHeartbeats 4000000 in
set_option maxRecDepth 100000 in
theorem LX6_openInAll_4 {G : GG} {l : Launch} (w : Wd) (r : Nat) (hr : 1 ≤ r ∧ r ≤ 9) {p : Program} {e : Env} {s : State} {m : MethodId} {args : Array Value} {below : List Frame} {meth : Method} {c : Code} (hX : FX G RX6 cX6_openInAll 3 p s m args c) (hR : meth.sig.returnType = (some .int)) (hlk : meth.locks = false) {rx : Int32} (n : Nat) : ∀ (k : Nat) (M : MM) (x1 : Int32) (x2 : Int32) , FX6_openInAll_L4 n k M x1 x2 = some rx → J G p l e rmX6_openInAll s m args below meth c 3 0 0 (MQ below (QV G (some (.int rx)) (sW w r M)) args s 0 0 (gA G)) (GH G (sW w r M)) 4 [(0, .ref (adr G r 0)), (1, .int x1), (2, .int x2)] [] := by
  intro k
  induction k with
  | zero => intro M x1 x2  hF; cases hF
  | succ k ih =>
    intro M x1 x2  hF
    simp only [FX6_openInAll_L4] at hF
    refine J_iload_n hX dX6_openInAll_4 2 rfl (t := 5) rfl ?_
    refine J_aload_n hX dX6_openInAll_5 0 rfl (t := 6) rfl ?_
    refine JM_get hX cb4 (kMarket hr) 5 (by decide) q_383 rfl dX6_openInAll_6 (t := 9) rfl ?_
    refine J_icmp_ge (tgt := 38) hX dX6_openInAll_9 (by decide) (t := 12) rfl (fun z => ?_) (fun z => ?_)
    · replace hF := it_t hF z
      refine J_iload_n hX dX6_openInAll_38 1 rfl (t := 39) rfl ?_
      replace hF := Option.some.inj hF
      subst hF
      exact J_iret hX hR hlk dX6_openInAll_39
    · replace hF := it_f hF z
      refine J_iload_n hX dX6_openInAll_12 1 rfl (t := 13) rfl ?_
      refine J_aload_n hX dX6_openInAll_13 0 rfl (t := 14) rfl ?_
      refine JM_get hX cb4 (kMarket hr) 2 (by decide) q_375 rfl dX6_openInAll_14 (t := 17) rfl ?_
      refine J_iload_n hX dX6_openInAll_17 2 rfl (t := 18) rfl ?_
      obtain ⟨g1, hF⟩ := gd_e hF
      refine J_aald (k := 5) hX (kShouts hr) rfl g1 dX6_openInAll_18 (t := 19) rfl ?_
      obtain ⟨x3, h2, hF⟩ := bnd_e hF
      have k4 := (ctX8_isOpen (G := G) (l := l) w r hr M (20 + x2.toNatClampNeg) ⟨Nat.le_add_right 20 _, Nat.add_lt_add_left (inb_lt g1) 20⟩ h2)
      refine J_callV hX [] [.int x1] k4 miX8_isOpen mvX8_isOpen cb6 (kShout hr ⟨Nat.le_add_right 20 _, Nat.add_lt_add_left (inb_lt g1) 20⟩) q_638 ⟨rfl, rfl, Nat.le_of_ble_eq_true rfl, Nat.le_of_ble_eq_true rfl⟩ rfl rfl (Nat.le_of_ble_eq_true rfl) ⟨Nat.le_of_ble_eq_true rfl, Nat.le_of_ble_eq_true rfl⟩ dX6_openInAll_19 (t := 22) rfl ?_
      refine J_ifZ_eq (tgt := 29) hX dX6_openInAll_22 (by decide) (t := 25) rfl (fun z => ?_) (fun z => ?_)
      · replace hF := ib_f hF z
        refine J_iconst (v := 0) hX dX6_openInAll_29 (by decide) (t := 30) rfl ?_
        refine J_iadd hX dX6_openInAll_30 (t := 31) rfl ?_
        refine J_istore_n (lc2 := [(1, .int (x1 + 0)), (0, .ref (adr G r 0)), (2, .int x2)]) hX dX6_openInAll_31 rfl (Nat.le_of_ble_eq_true rfl) rfl (t := 32) rfl ?_
        refine J_iinc (v := x2 + 1) (lc2 := [(2, .int (x2 + 1)), (1, .int (x1 + 0)), (0, .ref (adr G r 0))]) hX dX6_openInAll_32 2 rfl rfl (Nat.le_of_ble_eq_true rfl) rfl (t := 35) rfl ?_
        refine J_goto (tgt := 4) hX dX6_openInAll_35 (by decide) ?_
        refine J_sub (lc2 := [(0, .ref (adr G r 0)), (1, .int (x1 + 0)), (2, .int (x2 + 1))]) [2, 1, 0] rfl ?_
        exact ih M (x1 + 0) (x2 + 1) hF
      · replace hF := it_t hF z
        refine J_iconst (v := 1) hX dX6_openInAll_25 (by decide) (t := 26) rfl ?_
        refine J_goto (tgt := 30) hX dX6_openInAll_26 (by decide) ?_
        refine J_iadd hX dX6_openInAll_30 (t := 31) rfl ?_
        refine J_istore_n (lc2 := [(1, .int (x1 + 1)), (0, .ref (adr G r 0)), (2, .int x2)]) hX dX6_openInAll_31 rfl (Nat.le_of_ble_eq_true rfl) rfl (t := 32) rfl ?_
        refine J_iinc (v := x2 + 1) (lc2 := [(2, .int (x2 + 1)), (1, .int (x1 + 1)), (0, .ref (adr G r 0))]) hX dX6_openInAll_32 2 rfl rfl (Nat.le_of_ble_eq_true rfl) rfl (t := 35) rfl ?_
        refine J_goto (tgt := 4) hX dX6_openInAll_35 (by decide) ?_
        refine J_sub (lc2 := [(0, .ref (adr G r 0)), (1, .int (x1 + 1)), (2, .int (x2 + 1))]) [2, 1, 0] rfl ?_
        exact ih M (x1 + 1) (x2 + 1) hF
def FX6_openInAll (n : Nat) (M : MM)  : Option (Int32) :=
  FX6_openInAll_L4 n n M 0 0
set_option maxHeartbeats 4000000 in
set_option maxRecDepth 100000 in
theorem ctX6_openInAll {G : GG} {l : Launch} (w : Wd) (r : Nat) (hr : 1 ≤ r ∧ r ≤ 9) (M : MM)   (n : Nat) {rx : Int32} (hF : FX6_openInAll n M  = some rx) : CT G l yX6_openInAll cX6_openInAll 3 (some .int) rmX6_openInAll 0 0 [.ref (adr G r 0)] (sW w r M) (some (.int rx)) (sW w r M) := by
  refine CT.of miX6_openInAll [(0, .ref (adr G r 0))] rfl (Nat.le_of_ble_eq_true rfl) ?_
  intro p e s m args below meth c hX hR hlk
  have hX : FX G RX6 cX6_openInAll 3 p s m args c := hX
  unfold FX6_openInAll at hF
  refine J_iconst (v := 0) hX dX6_openInAll_0 (by decide) (t := 1) rfl ?_
  refine J_istore_n (lc2 := [(1, .int 0), (0, .ref (adr G r 0))]) hX dX6_openInAll_1 rfl (Nat.le_of_ble_eq_true rfl) rfl (t := 2) rfl ?_
  refine J_iconst (v := 0) hX dX6_openInAll_2 (by decide) (t := 3) rfl ?_
  refine J_istore_n (lc2 := [(2, .int 0), (1, .int 0), (0, .ref (adr G r 0))]) hX dX6_openInAll_3 rfl (Nat.le_of_ble_eq_true rfl) rfl (t := 4) rfl ?_
  refine J_sub (lc2 := [(0, .ref (adr G r 0)), (1, .int 0), (2, .int 0)]) [2, 1, 0] rfl ?_
  exact LX6_openInAll_4 w r hr hX hR hlk n n M 0 0 hF
abbrev rmX8_cost : Room := { frames := 0, cells := 0, slots := 0, locals := 0 }
theorem miX8_cost : MI yX8_cost cX8_cost 1 (some .int) 0 := ⟨q_745, q_141, by decide +kernel, by decide +kernel, by decide +kernel, by decide +kernel⟩
theorem mvX8_cost : MV yX8_cost := ⟨q_743, q_744⟩
def FX8_cost (M : MM) (j0 : Nat) : Int32 :=
  (M.1 j0 4) * (M.1 j0 3)
set_option maxHeartbeats 4000000 in
set_option maxRecDepth 100000 in
theorem ctX8_cost {G : GG} {l : Launch} (w : Wd) (r : Nat) (hr : 1 ≤ r ∧ r ≤ 9) (M : MM) (j0 : Nat) (hj0 : 20 ≤ j0 ∧ j0 < 50) {rx : Int32} (hF : FX8_cost M j0 = rx) : CT G l yX8_cost cX8_cost 1 (some .int) rmX8_cost 0 0 [.ref (adr G r j0)] (sW w r M) (some (.int rx)) (sW w r M) := by
  refine CT.of miX8_cost [(0, .ref (adr G r j0))] rfl (Nat.le_of_ble_eq_true rfl) ?_
  intro p e s m args below meth c hX hR hlk
  have hX : FX G RX8 cX8_cost 1 p s m args c := hX
  unfold FX8_cost at hF
  refine J_aload_n hX dX8_cost_0 0 rfl (t := 1) rfl ?_
  refine JM_get hX cb6 (kShout hr hj0) 4 (by decide) q_331 rfl dX8_cost_1 (t := 4) rfl ?_
  refine J_aload_n hX dX8_cost_4 0 rfl (t := 5) rfl ?_
  refine JM_get hX cb6 (kShout hr hj0) 3 (by decide) q_328 rfl dX8_cost_5 (t := 8) rfl ?_
  refine J_imul hX dX8_cost_8 (t := 9) rfl ?_
  subst hF
  exact J_iret hX hR hlk dX8_cost_9
abbrev rmX6_hasOpenShout : Room := { frames := 1, cells := 0, slots := 0, locals := 20 }
theorem miX6_hasOpenShout : MI yX6_hasOpenShout cX6_hasOpenShout 6 (some .boolean) 2 := ⟨q_1099, q_138, by decide +kernel, by decide +kernel, by decide +kernel, by decide +kernel⟩
theorem mvX6_hasOpenShout : MV yX6_hasOpenShout := ⟨q_1098, q_12⟩
def FX6_hasOpenShout_L5 (n : Nat) : Nat → MM → Int32 → Int32 → Bool → Int32 → Option (Bool)
  | 0 => fun _ _ _ _ _ => none
  | k + 1 => fun M x1 x2 x3 x4 =>
    if M.1 0 5 ≤ x4 then
      some x3
    else
      gd (inb x4 30) <|
      if x3 = true then
        FX6_hasOpenShout_L5 n k M x1 x2 true (x4 + 1)
      else
        bnd (FX8_isOpen M (20 + x4.toNatClampNeg)) fun x3 =>
        if x3 = true then
          if M.1 (20 + x4.toNatClampNeg) 0 = x1 then
            if M.1 (20 + x4.toNatClampNeg) 1 = x2 then
              FX6_hasOpenShout_L5 n k M x1 x2 true (x4 + 1)
            else
              FX6_hasOpenShout_L5 n k M x1 x2 false (x4 + 1)
          else
            FX6_hasOpenShout_L5 n k M x1 x2 false (x4 + 1)
        else
          FX6_hasOpenShout_L5 n k M x1 x2 false (x4 + 1)
set_option maxHeartbeats 4000000 in
set_option maxRecDepth 100000 in
theorem LX6_hasOpenShout_5 {G : GG} {l : Launch} (w : Wd) (r : Nat) (hr : 1 ≤ r ∧ r ≤ 9) {p : Program} {e : Env} {s : State} {m : MethodId} {args : Array Value} {below : List Frame} {meth : Method} {c : Code} (hX : FX G RX6 cX6_hasOpenShout 6 p s m args c) (hR : meth.sig.returnType = (some .boolean)) (hlk : meth.locks = false) {rx : Bool} (n : Nat) : ∀ (k : Nat) (M : MM) (x1 : Int32) (x2 : Int32) (x3 : Bool) (x4 : Int32) , FX6_hasOpenShout_L5 n k M x1 x2 x3 x4 = some rx → J G p l e rmX6_hasOpenShout s m args below meth c 6 0 0 (MQ below (QV G (some (.int (bI rx))) (sW w r M)) args s 0 0 (gA G)) (GH G (sW w r M)) 5 [(0, .ref (adr G r 0)), (1, .int x1), (2, .int x2), (3, .int (bI x3)), (4, .int x4)] [] := by
  intro k
  induction k with
  | zero => intro M x1 x2 x3 x4  hF; cases hF
  | succ k ih =>
    intro M x1 x2 x3 x4  hF
    simp only [FX6_hasOpenShout_L5] at hF
    refine J_iload hX dX6_hasOpenShout_5 4 rfl (t := 7) rfl ?_
    refine J_aload_n hX dX6_hasOpenShout_7 0 rfl (t := 8) rfl ?_
    refine JM_get hX cb4 (kMarket hr) 5 (by decide) q_383 rfl dX6_hasOpenShout_8 (t := 11) rfl ?_
    refine J_icmp_ge (tgt := 65) hX dX6_hasOpenShout_11 (by decide) (t := 14) rfl (fun z => ?_) (fun z => ?_)
    · replace hF := it_t hF z
      refine J_iload_n hX dX6_hasOpenShout_65 3 rfl (t := 66) rfl ?_
      replace hF := Option.some.inj hF
      subst hF
      exact J_zret (b := x3) hX hR hlk dX6_hasOpenShout_66
    · replace hF := it_f hF z
      refine J_aload_n hX dX6_hasOpenShout_14 0 rfl (t := 15) rfl ?_
      refine JM_get hX cb4 (kMarket hr) 2 (by decide) q_375 rfl dX6_hasOpenShout_15 (t := 18) rfl ?_
      refine J_iload hX dX6_hasOpenShout_18 4 rfl (t := 20) rfl ?_
      obtain ⟨g1, hF⟩ := gd_e hF
      refine J_aald (k := 5) hX (kShouts hr) rfl g1 dX6_hasOpenShout_20 (t := 21) rfl ?_
      refine J_astore (lc2 := [(5, .ref (adr G r (20 + x4.toNatClampNeg))), (0, .ref (adr G r 0)), (1, .int x1), (2, .int x2), (3, .int (bI x3)), (4, .int x4)]) hX dX6_hasOpenShout_21 (Nat.le_of_ble_eq_true rfl) rfl (t := 23) rfl ?_
      refine J_iload_n hX dX6_hasOpenShout_23 4 rfl (t := 24) rfl ?_
      refine J_ifZ_ne (tgt := 53) hX dX6_hasOpenShout_24 (by decide) (t := 27) rfl (fun z => ?_) (fun z => ?_)
      · replace hF := it_t hF z
        refine J_iconst (v := 1) hX dX6_hasOpenShout_53 (by decide) (t := 54) rfl ?_
        refine J_goto (tgt := 58) hX dX6_hasOpenShout_54 (by decide) ?_
        refine J_istore_n (lc2 := [(3, .int 1), (5, .ref (adr G r (20 + x4.toNatClampNeg))), (0, .ref (adr G r 0)), (1, .int x1), (2, .int x2), (4, .int x4)]) hX dX6_hasOpenShout_58 rfl (Nat.le_of_ble_eq_true rfl) rfl (t := 59) rfl ?_
        refine J_iinc (v := x4 + 1) (lc2 := [(4, .int (x4 + 1)), (3, .int 1), (5, .ref (adr G r (20 + x4.toNatClampNeg))), (0, .ref (adr G r 0)), (1, .int x1), (2, .int x2)]) hX dX6_hasOpenShout_59 5 rfl rfl (Nat.le_of_ble_eq_true rfl) rfl (t := 62) rfl ?_
        refine J_goto (tgt := 5) hX dX6_hasOpenShout_62 (by decide) ?_
        refine J_sub (lc2 := [(0, .ref (adr G r 0)), (1, .int x1), (2, .int x2), (3, .int 1), (4, .int (x4 + 1))]) [3, 4, 5, 1, 0] rfl ?_
        exact ih M x1 x2 true (x4 + 1) hF
      · replace hF := ib_f hF z
        refine J_aload hX dX6_hasOpenShout_27 0 rfl (t := 29) rfl ?_
        obtain ⟨x3, h2, hF⟩ := bnd_e hF
        have k4 := (ctX8_isOpen (G := G) (l := l) w r hr M (20 + x4.toNatClampNeg) ⟨Nat.le_add_right 20 _, Nat.add_lt_add_left (inb_lt g1) 20⟩ h2)
        refine J_callV hX [] [] k4 miX8_isOpen mvX8_isOpen cb6 (kShout hr ⟨Nat.le_add_right 20 _, Nat.add_lt_add_left (inb_lt g1) 20⟩) q_638 ⟨rfl, rfl, Nat.le_of_ble_eq_true rfl, Nat.le_of_ble_eq_true rfl⟩ rfl rfl (Nat.le_of_ble_eq_true rfl) ⟨Nat.le_of_ble_eq_true rfl, Nat.le_of_ble_eq_true rfl⟩ dX6_hasOpenShout_29 (t := 32) rfl ?_
        refine J_ifZ_eq (tgt := 57) hX dX6_hasOpenShout_32 (by decide) (t := 35) rfl (fun z => ?_) (fun z => ?_)
        · replace hF := ib_f hF z
          refine J_iconst (v := 0) hX dX6_hasOpenShout_57 (by decide) (t := 58) rfl ?_
          refine J_istore_n (lc2 := [(3, .int 0), (5, .ref (adr G r (20 + x4.toNatClampNeg))), (0, .ref (adr G r 0)), (1, .int x1), (2, .int x2), (4, .int x4)]) hX dX6_hasOpenShout_58 rfl (Nat.le_of_ble_eq_true rfl) rfl (t := 59) rfl ?_
          refine J_iinc (v := x4 + 1) (lc2 := [(4, .int (x4 + 1)), (3, .int 0), (5, .ref (adr G r (20 + x4.toNatClampNeg))), (0, .ref (adr G r 0)), (1, .int x1), (2, .int x2)]) hX dX6_hasOpenShout_59 5 rfl rfl (Nat.le_of_ble_eq_true rfl) rfl (t := 62) rfl ?_
          refine J_goto (tgt := 5) hX dX6_hasOpenShout_62 (by decide) ?_
          refine J_sub (lc2 := [(0, .ref (adr G r 0)), (1, .int x1), (2, .int x2), (3, .int 0), (4, .int (x4 + 1))]) [3, 4, 5, 1, 0] rfl ?_
          exact ih M x1 x2 false (x4 + 1) hF
        · replace hF := it_t hF z
          refine J_aload hX dX6_hasOpenShout_35 0 rfl (t := 37) rfl ?_
          refine JM_get hX cb6 (kShout hr ⟨Nat.le_add_right 20 _, Nat.add_lt_add_left (inb_lt g1) 20⟩) 0 (by decide) q_321 rfl dX6_hasOpenShout_37 (t := 40) rfl ?_
          refine J_iload_n hX dX6_hasOpenShout_40 2 rfl (t := 41) rfl ?_
          refine J_icmp_ne (tgt := 57) hX dX6_hasOpenShout_41 (by decide) (t := 44) rfl (fun z => ?_) (fun z => ?_)
          · replace hF := it_f hF z
            refine J_iconst (v := 0) hX dX6_hasOpenShout_57 (by decide) (t := 58) rfl ?_
            refine J_istore_n (lc2 := [(3, .int 0), (5, .ref (adr G r (20 + x4.toNatClampNeg))), (0, .ref (adr G r 0)), (1, .int x1), (2, .int x2), (4, .int x4)]) hX dX6_hasOpenShout_58 rfl (Nat.le_of_ble_eq_true rfl) rfl (t := 59) rfl ?_
            refine J_iinc (v := x4 + 1) (lc2 := [(4, .int (x4 + 1)), (3, .int 0), (5, .ref (adr G r (20 + x4.toNatClampNeg))), (0, .ref (adr G r 0)), (1, .int x1), (2, .int x2)]) hX dX6_hasOpenShout_59 5 rfl rfl (Nat.le_of_ble_eq_true rfl) rfl (t := 62) rfl ?_
            refine J_goto (tgt := 5) hX dX6_hasOpenShout_62 (by decide) ?_
            refine J_sub (lc2 := [(0, .ref (adr G r 0)), (1, .int x1), (2, .int x2), (3, .int 0), (4, .int (x4 + 1))]) [3, 4, 5, 1, 0] rfl ?_
            exact ih M x1 x2 false (x4 + 1) hF
          · replace hF := it_t hF z
            refine J_aload hX dX6_hasOpenShout_44 0 rfl (t := 46) rfl ?_
            refine JM_get hX cb6 (kShout hr ⟨Nat.le_add_right 20 _, Nat.add_lt_add_left (inb_lt g1) 20⟩) 1 (by decide) q_324 rfl dX6_hasOpenShout_46 (t := 49) rfl ?_
            refine J_iload_n hX dX6_hasOpenShout_49 3 rfl (t := 50) rfl ?_
            refine J_icmp_ne (tgt := 57) hX dX6_hasOpenShout_50 (by decide) (t := 53) rfl (fun z => ?_) (fun z => ?_)
            · replace hF := it_f hF z
              refine J_iconst (v := 0) hX dX6_hasOpenShout_57 (by decide) (t := 58) rfl ?_
              refine J_istore_n (lc2 := [(3, .int 0), (5, .ref (adr G r (20 + x4.toNatClampNeg))), (0, .ref (adr G r 0)), (1, .int x1), (2, .int x2), (4, .int x4)]) hX dX6_hasOpenShout_58 rfl (Nat.le_of_ble_eq_true rfl) rfl (t := 59) rfl ?_
              refine J_iinc (v := x4 + 1) (lc2 := [(4, .int (x4 + 1)), (3, .int 0), (5, .ref (adr G r (20 + x4.toNatClampNeg))), (0, .ref (adr G r 0)), (1, .int x1), (2, .int x2)]) hX dX6_hasOpenShout_59 5 rfl rfl (Nat.le_of_ble_eq_true rfl) rfl (t := 62) rfl ?_
              refine J_goto (tgt := 5) hX dX6_hasOpenShout_62 (by decide) ?_
              refine J_sub (lc2 := [(0, .ref (adr G r 0)), (1, .int x1), (2, .int x2), (3, .int 0), (4, .int (x4 + 1))]) [3, 4, 5, 1, 0] rfl ?_
              exact ih M x1 x2 false (x4 + 1) hF
            · replace hF := it_t hF z
              refine J_iconst (v := 1) hX dX6_hasOpenShout_53 (by decide) (t := 54) rfl ?_
              refine J_goto (tgt := 58) hX dX6_hasOpenShout_54 (by decide) ?_
              refine J_istore_n (lc2 := [(3, .int 1), (5, .ref (adr G r (20 + x4.toNatClampNeg))), (0, .ref (adr G r 0)), (1, .int x1), (2, .int x2), (4, .int x4)]) hX dX6_hasOpenShout_58 rfl (Nat.le_of_ble_eq_true rfl) rfl (t := 59) rfl ?_
              refine J_iinc (v := x4 + 1) (lc2 := [(4, .int (x4 + 1)), (3, .int 1), (5, .ref (adr G r (20 + x4.toNatClampNeg))), (0, .ref (adr G r 0)), (1, .int x1), (2, .int x2)]) hX dX6_hasOpenShout_59 5 rfl rfl (Nat.le_of_ble_eq_true rfl) rfl (t := 62) rfl ?_
              refine J_goto (tgt := 5) hX dX6_hasOpenShout_62 (by decide) ?_
              refine J_sub (lc2 := [(0, .ref (adr G r 0)), (1, .int x1), (2, .int x2), (3, .int 1), (4, .int (x4 + 1))]) [3, 4, 5, 1, 0] rfl ?_
              exact ih M x1 x2 true (x4 + 1) hF
def FX6_hasOpenShout (n : Nat) (M : MM) (p1 : Int32) (p2 : Int32) : Option (Bool) :=
  FX6_hasOpenShout_L5 n n M p1 p2 false 0
set_option maxHeartbeats 4000000 in
set_option maxRecDepth 100000 in
theorem ctX6_hasOpenShout {G : GG} {l : Launch} (w : Wd) (r : Nat) (hr : 1 ≤ r ∧ r ≤ 9) (M : MM) (p1 : Int32) (p2 : Int32)  (n : Nat) {rx : Bool} (hF : FX6_hasOpenShout n M p1 p2 = some rx) : CT G l yX6_hasOpenShout cX6_hasOpenShout 6 (some .boolean) rmX6_hasOpenShout 0 0 [.ref (adr G r 0), .int p1, .int p2] (sW w r M) (some (.int (bI rx))) (sW w r M) := by
  refine CT.of miX6_hasOpenShout [(0, .ref (adr G r 0)), (1, .int p1), (2, .int p2)] rfl (Nat.le_of_ble_eq_true rfl) ?_
  intro p e s m args below meth c hX hR hlk
  have hX : FX G RX6 cX6_hasOpenShout 6 p s m args c := hX
  unfold FX6_hasOpenShout at hF
  refine J_iconst (v := 0) hX dX6_hasOpenShout_0 (by decide) (t := 1) rfl ?_
  refine J_istore_n (lc2 := [(3, .int 0), (0, .ref (adr G r 0)), (1, .int p1), (2, .int p2)]) hX dX6_hasOpenShout_1 rfl (Nat.le_of_ble_eq_true rfl) rfl (t := 2) rfl ?_
  refine J_iconst (v := 0) hX dX6_hasOpenShout_2 (by decide) (t := 3) rfl ?_
  refine J_istore (lc2 := [(4, .int 0), (3, .int 0), (0, .ref (adr G r 0)), (1, .int p1), (2, .int p2)]) hX dX6_hasOpenShout_3 (Nat.le_of_ble_eq_true rfl) rfl (t := 5) rfl ?_
  refine J_sub (lc2 := [(0, .ref (adr G r 0)), (1, .int p1), (2, .int p2), (3, .int 0), (4, .int 0)]) [2, 3, 4, 1, 0] rfl ?_
  exact LX6_hasOpenShout_5 w r hr hX hR hlk n n M p1 p2 false 0 hF
abbrev rmX8_secondOf : Room := { frames := 0, cells := 0, slots := 0, locals := 0 }
theorem miX8_secondOf : MI yX8_secondOf cX8_secondOf 2 (some .int) 1 := ⟨q_730, q_141, by decide +kernel, by decide +kernel, by decide +kernel, by decide +kernel⟩
theorem mvX8_secondOf : MV yX8_secondOf := ⟨q_728, q_729⟩
def FX8_secondOf (M : MM) (j0 : Nat) (p1 : Int32) : Int32 :=
  (M.1 j0 6) + ((M.1 j0 5) * p1)
set_option maxHeartbeats 4000000 in
set_option maxRecDepth 100000 in
theorem ctX8_secondOf {G : GG} {l : Launch} (w : Wd) (r : Nat) (hr : 1 ≤ r ∧ r ≤ 9) (M : MM) (j0 : Nat) (p1 : Int32) (hj0 : 20 ≤ j0 ∧ j0 < 50) {rx : Int32} (hF : FX8_secondOf M j0 p1 = rx) : CT G l yX8_secondOf cX8_secondOf 2 (some .int) rmX8_secondOf 0 0 [.ref (adr G r j0), .int p1] (sW w r M) (some (.int rx)) (sW w r M) := by
  refine CT.of miX8_secondOf [(0, .ref (adr G r j0)), (1, .int p1)] rfl (Nat.le_of_ble_eq_true rfl) ?_
  intro p e s m args below meth c hX hR hlk
  have hX : FX G RX8 cX8_secondOf 2 p s m args c := hX
  unfold FX8_secondOf at hF
  refine J_aload_n hX dX8_secondOf_0 0 rfl (t := 1) rfl ?_
  refine JM_get hX cb6 (kShout hr hj0) 6 (by decide) q_335 rfl dX8_secondOf_1 (t := 4) rfl ?_
  refine J_aload_n hX dX8_secondOf_4 0 rfl (t := 5) rfl ?_
  refine JM_get hX cb6 (kShout hr hj0) 5 (by decide) q_333 rfl dX8_secondOf_5 (t := 8) rfl ?_
  refine J_iload_n hX dX8_secondOf_8 1 rfl (t := 9) rfl ?_
  refine J_imul hX dX8_secondOf_9 (t := 10) rfl ?_
  refine J_iadd hX dX8_secondOf_10 (t := 11) rfl ?_
  subst hF
  exact J_iret hX hR hlk dX8_secondOf_11
abbrev rmX8_secondOfNext : Room := { frames := 1, cells := 0, slots := 0, locals := 21 }
theorem miX8_secondOfNext : MI yX8_secondOfNext cX8_secondOfNext 1 (some .int) 0 := ⟨q_726, q_141, by decide +kernel, by decide +kernel, by decide +kernel, by decide +kernel⟩
theorem mvX8_secondOfNext : MV yX8_secondOfNext := ⟨q_724, q_725⟩
def FX8_secondOfNext (M : MM) (j0 : Nat) : Int32 :=
  bnd (FX8_secondOf M j0 ((M.1 j0 9) + 1)) fun x2 =>
  x2
set_option maxHeartbeats 4000000 in
set_option maxRecDepth 100000 in
theorem ctX8_secondOfNext {G : GG} {l : Launch} (w : Wd) (r : Nat) (hr : 1 ≤ r ∧ r ≤ 9) (M : MM) (j0 : Nat) (hj0 : 20 ≤ j0 ∧ j0 < 50) {rx : Int32} (hF : FX8_secondOfNext M j0 = rx) : CT G l yX8_secondOfNext cX8_secondOfNext 1 (some .int) rmX8_secondOfNext 0 0 [.ref (adr G r j0)] (sW w r M) (some (.int rx)) (sW w r M) := by
  refine CT.of miX8_secondOfNext [(0, .ref (adr G r j0))] rfl (Nat.le_of_ble_eq_true rfl) ?_
  intro p e s m args below meth c hX hR hlk
  have hX : FX G RX8 cX8_secondOfNext 1 p s m args c := hX
  unfold FX8_secondOfNext at hF
  refine J_aload_n hX dX8_secondOfNext_0 0 rfl (t := 1) rfl ?_
  refine J_aload_n hX dX8_secondOfNext_1 0 rfl (t := 2) rfl ?_
  refine JM_get hX cb6 (kShout hr hj0) 9 (by decide) q_343 rfl dX8_secondOfNext_2 (t := 5) rfl ?_
  refine J_iconst (v := 1) hX dX8_secondOfNext_5 (by decide) (t := 6) rfl ?_
  refine J_iadd hX dX8_secondOfNext_6 (t := 7) rfl ?_
  obtain ⟨x2, h1, hF⟩ := bnd_e hF
  have k3 := (ctX8_secondOf (G := G) (l := l) w r hr M j0 ((M.1 j0 9) + 1) hj0 h1)
  refine J_callV hX [.int ((M.1 j0 9) + 1)] [] k3 miX8_secondOf mvX8_secondOf cb6 (kShout hr hj0) q_727 ⟨rfl, rfl, Nat.le_of_ble_eq_true rfl, Nat.le_of_ble_eq_true rfl⟩ rfl rfl (Nat.le_of_ble_eq_true rfl) ⟨Nat.le_of_ble_eq_true rfl, Nat.le_of_ble_eq_true rfl⟩ dX8_secondOfNext_7 (t := 10) rfl ?_
  subst hF
  exact J_iret hX hR hlk dX8_secondOfNext_10
abbrev rmX6_secondOfNextEvent : Room := { frames := 2, cells := 0, slots := 0, locals := 41 }
theorem miX6_secondOfNextEvent : MI yX6_secondOfNextEvent cX6_secondOfNextEvent 5 (some .int) 0 := ⟨q_722, q_138, by decide +kernel, by decide +kernel, by decide +kernel, by decide +kernel⟩
theorem mvX6_secondOfNextEvent : MV yX6_secondOfNextEvent := ⟨q_720, q_721⟩
def FX6_secondOfNextEvent_L4 (n : Nat) : Nat → MM → Int32 → Int32 → Option (Int32)
  | 0 => fun _ _ _ => none
  | k + 1 => fun M x1 x2 =>
    if M.1 0 5 ≤ x2 then
      some x1
    else
      gd (inb x2 30) <|
      bnd (FX8_secondOfNext M (20 + x2.toNatClampNeg)) fun x3 =>
      bnd (FX8_isOpen M (20 + x2.toNatClampNeg)) fun x6 =>
      if x6 = true then
        if x1 = (-1) then
          FX6_secondOfNextEvent_L4 n k M (if (M.1 (20 + x2.toNatClampNeg) 7) < x3 then (M.1 (20 + x2.toNatClampNeg) 7) else x3) (x2 + 1)
        else
          if x1 ≤ if (M.1 (20 + x2.toNatClampNeg) 7) < x3 then (M.1 (20 + x2.toNatClampNeg) 7) else x3 then
            FX6_secondOfNextEvent_L4 n k M x1 (x2 + 1)
          else
            FX6_secondOfNextEvent_L4 n k M (if (M.1 (20 + x2.toNatClampNeg) 7) < x3 then (M.1 (20 + x2.toNatClampNeg) 7) else x3) (x2 + 1)
      else
        FX6_secondOfNextEvent_L4 n k M x1 (x2 + 1)
set_option maxHeartbeats 4000000 in
set_option maxRecDepth 100000 in
theorem LX6_secondOfNextEvent_4 {G : GG} {l : Launch} (w : Wd) (r : Nat) (hr : 1 ≤ r ∧ r ≤ 9) {p : Program} {e : Env} {s : State} {m : MethodId} {args : Array Value} {below : List Frame} {meth : Method} {c : Code} (hX : FX G RX6 cX6_secondOfNextEvent 5 p s m args c) (hR : meth.sig.returnType = (some .int)) (hlk : meth.locks = false) {rx : Int32} (n : Nat) : ∀ (k : Nat) (M : MM) (x1 : Int32) (x2 : Int32) , FX6_secondOfNextEvent_L4 n k M x1 x2 = some rx → J G p l e rmX6_secondOfNextEvent s m args below meth c 5 0 0 (MQ below (QV G (some (.int rx)) (sW w r M)) args s 0 0 (gA G)) (GH G (sW w r M)) 4 [(0, .ref (adr G r 0)), (1, .int x1), (2, .int x2)] [] := by
  intro k
  induction k with
  | zero => intro M x1 x2  hF; cases hF
  | succ k ih =>
    intro M x1 x2  hF
    simp only [FX6_secondOfNextEvent_L4] at hF
    refine J_iload_n hX dX6_secondOfNextEvent_4 2 rfl (t := 5) rfl ?_
    refine J_aload_n hX dX6_secondOfNextEvent_5 0 rfl (t := 6) rfl ?_
    refine JM_get hX cb4 (kMarket hr) 5 (by decide) q_383 rfl dX6_secondOfNextEvent_6 (t := 9) rfl ?_
    refine J_icmp_ge (tgt := 59) hX dX6_secondOfNextEvent_9 (by decide) (t := 12) rfl (fun z => ?_) (fun z => ?_)
    · replace hF := it_t hF z
      refine J_iload_n hX dX6_secondOfNextEvent_59 1 rfl (t := 60) rfl ?_
      replace hF := Option.some.inj hF
      subst hF
      exact J_iret hX hR hlk dX6_secondOfNextEvent_60
    · replace hF := it_f hF z
      refine J_aload_n hX dX6_secondOfNextEvent_12 0 rfl (t := 13) rfl ?_
      refine JM_get hX cb4 (kMarket hr) 2 (by decide) q_375 rfl dX6_secondOfNextEvent_13 (t := 16) rfl ?_
      refine J_iload_n hX dX6_secondOfNextEvent_16 2 rfl (t := 17) rfl ?_
      obtain ⟨g1, hF⟩ := gd_e hF
      refine J_aald (k := 5) hX (kShouts hr) rfl g1 dX6_secondOfNextEvent_17 (t := 18) rfl ?_
      refine J_astore_n (lc2 := [(3, .ref (adr G r (20 + x2.toNatClampNeg))), (0, .ref (adr G r 0)), (1, .int x1), (2, .int x2)]) hX dX6_secondOfNextEvent_18 rfl (Nat.le_of_ble_eq_true rfl) rfl (t := 19) rfl ?_
      refine J_aload_n hX dX6_secondOfNextEvent_19 0 rfl (t := 20) rfl ?_
      obtain ⟨x3, h2, hF⟩ := bnd_e hF
      have k4 := (ctX8_secondOfNext (G := G) (l := l) w r hr M (20 + x2.toNatClampNeg) ⟨Nat.le_add_right 20 _, Nat.add_lt_add_left (inb_lt g1) 20⟩ h2)
      refine J_callV hX [] [] k4 miX8_secondOfNext mvX8_secondOfNext cb6 (kShout hr ⟨Nat.le_add_right 20 _, Nat.add_lt_add_left (inb_lt g1) 20⟩) q_723 ⟨rfl, rfl, Nat.le_of_ble_eq_true rfl, Nat.le_of_ble_eq_true rfl⟩ rfl rfl (Nat.le_of_ble_eq_true rfl) ⟨Nat.le_of_ble_eq_true rfl, Nat.le_of_ble_eq_true rfl⟩ dX6_secondOfNextEvent_20 (t := 23) rfl ?_
      refine J_aload_n hX dX6_secondOfNextEvent_23 0 rfl (t := 24) rfl ?_
      refine JM_get hX cb6 (kShout hr ⟨Nat.le_add_right 20 _, Nat.add_lt_add_left (inb_lt g1) 20⟩) 7 (by decide) q_338 rfl dX6_secondOfNextEvent_24 (t := 27) rfl ?_
      refine J_min hX ⟨q_731, q_732, q_162, q_733⟩ ⟨Nat.le_of_ble_eq_true rfl, Nat.le_of_ble_eq_true rfl, Nat.le_of_ble_eq_true rfl, Nat.le_of_ble_eq_true rfl⟩ dX6_secondOfNextEvent_27 (t := 30) rfl ?_
      refine J_istore (lc2 := [(4, .int (if (M.1 (20 + x2.toNatClampNeg) 7) < x3 then (M.1 (20 + x2.toNatClampNeg) 7) else x3)), (3, .ref (adr G r (20 + x2.toNatClampNeg))), (0, .ref (adr G r 0)), (1, .int x1), (2, .int x2)]) hX dX6_secondOfNextEvent_30 (Nat.le_of_ble_eq_true rfl) rfl (t := 32) rfl ?_
      refine J_aload_n hX dX6_secondOfNextEvent_32 1 rfl (t := 33) rfl ?_
      obtain ⟨x6, h5, hF⟩ := bnd_e hF
      have k7 := (ctX8_isOpen (G := G) (l := l) w r hr M (20 + x2.toNatClampNeg) ⟨Nat.le_add_right 20 _, Nat.add_lt_add_left (inb_lt g1) 20⟩ h5)
      refine J_callV hX [] [] k7 miX8_isOpen mvX8_isOpen cb6 (kShout hr ⟨Nat.le_add_right 20 _, Nat.add_lt_add_left (inb_lt g1) 20⟩) q_638 ⟨rfl, rfl, Nat.le_of_ble_eq_true rfl, Nat.le_of_ble_eq_true rfl⟩ rfl rfl (Nat.le_of_ble_eq_true rfl) ⟨Nat.le_of_ble_eq_true rfl, Nat.le_of_ble_eq_true rfl⟩ dX6_secondOfNextEvent_33 (t := 36) rfl ?_
      refine J_ifZ_eq (tgt := 53) hX dX6_secondOfNextEvent_36 (by decide) (t := 39) rfl (fun z => ?_) (fun z => ?_)
      · replace hF := ib_f hF z
        refine J_iinc (v := x2 + 1) (lc2 := [(2, .int (x2 + 1)), (4, .int (if (M.1 (20 + x2.toNatClampNeg) 7) < x3 then (M.1 (20 + x2.toNatClampNeg) 7) else x3)), (3, .ref (adr G r (20 + x2.toNatClampNeg))), (0, .ref (adr G r 0)), (1, .int x1)]) hX dX6_secondOfNextEvent_53 4 rfl rfl (Nat.le_of_ble_eq_true rfl) rfl (t := 56) rfl ?_
        refine J_goto (tgt := 4) hX dX6_secondOfNextEvent_56 (by decide) ?_
        refine J_sub (lc2 := [(0, .ref (adr G r 0)), (1, .int x1), (2, .int (x2 + 1))]) [3, 4, 0] rfl ?_
        exact ih M x1 (x2 + 1) hF
      · replace hF := it_t hF z
        refine J_iload_n hX dX6_secondOfNextEvent_39 3 rfl (t := 40) rfl ?_
        refine J_iconst (v := (-1)) hX dX6_secondOfNextEvent_40 (by decide) (t := 41) rfl ?_
        refine J_icmp_eq (tgt := 50) hX dX6_secondOfNextEvent_41 (by decide) (t := 44) rfl (fun z => ?_) (fun z => ?_)
        · replace hF := it_t hF z
          refine J_iload hX dX6_secondOfNextEvent_50 0 rfl (t := 52) rfl ?_
          refine J_istore_n (lc2 := [(1, .int (if (M.1 (20 + x2.toNatClampNeg) 7) < x3 then (M.1 (20 + x2.toNatClampNeg) 7) else x3)), (4, .int (if (M.1 (20 + x2.toNatClampNeg) 7) < x3 then (M.1 (20 + x2.toNatClampNeg) 7) else x3)), (3, .ref (adr G r (20 + x2.toNatClampNeg))), (0, .ref (adr G r 0)), (2, .int x2)]) hX dX6_secondOfNextEvent_52 rfl (Nat.le_of_ble_eq_true rfl) rfl (t := 53) rfl ?_
          refine J_iinc (v := x2 + 1) (lc2 := [(2, .int (x2 + 1)), (1, .int (if (M.1 (20 + x2.toNatClampNeg) 7) < x3 then (M.1 (20 + x2.toNatClampNeg) 7) else x3)), (4, .int (if (M.1 (20 + x2.toNatClampNeg) 7) < x3 then (M.1 (20 + x2.toNatClampNeg) 7) else x3)), (3, .ref (adr G r (20 + x2.toNatClampNeg))), (0, .ref (adr G r 0))]) hX dX6_secondOfNextEvent_53 4 rfl rfl (Nat.le_of_ble_eq_true rfl) rfl (t := 56) rfl ?_
          refine J_goto (tgt := 4) hX dX6_secondOfNextEvent_56 (by decide) ?_
          refine J_sub (lc2 := [(0, .ref (adr G r 0)), (1, .int (if (M.1 (20 + x2.toNatClampNeg) 7) < x3 then (M.1 (20 + x2.toNatClampNeg) 7) else x3)), (2, .int (x2 + 1))]) [4, 1, 0] rfl ?_
          exact ih M (if (M.1 (20 + x2.toNatClampNeg) 7) < x3 then (M.1 (20 + x2.toNatClampNeg) 7) else x3) (x2 + 1) hF
        · replace hF := it_f hF z
          refine J_iload hX dX6_secondOfNextEvent_44 0 rfl (t := 46) rfl ?_
          refine J_iload_n hX dX6_secondOfNextEvent_46 3 rfl (t := 47) rfl ?_
          refine J_icmp_ge (tgt := 53) hX dX6_secondOfNextEvent_47 (by decide) (t := 50) rfl (fun z => ?_) (fun z => ?_)
          · replace hF := it_t hF z
            refine J_iinc (v := x2 + 1) (lc2 := [(2, .int (x2 + 1)), (4, .int (if (M.1 (20 + x2.toNatClampNeg) 7) < x3 then (M.1 (20 + x2.toNatClampNeg) 7) else x3)), (3, .ref (adr G r (20 + x2.toNatClampNeg))), (0, .ref (adr G r 0)), (1, .int x1)]) hX dX6_secondOfNextEvent_53 4 rfl rfl (Nat.le_of_ble_eq_true rfl) rfl (t := 56) rfl ?_
            refine J_goto (tgt := 4) hX dX6_secondOfNextEvent_56 (by decide) ?_
            refine J_sub (lc2 := [(0, .ref (adr G r 0)), (1, .int x1), (2, .int (x2 + 1))]) [3, 4, 0] rfl ?_
            exact ih M x1 (x2 + 1) hF
          · replace hF := it_f hF z
            refine J_iload hX dX6_secondOfNextEvent_50 0 rfl (t := 52) rfl ?_
            refine J_istore_n (lc2 := [(1, .int (if (M.1 (20 + x2.toNatClampNeg) 7) < x3 then (M.1 (20 + x2.toNatClampNeg) 7) else x3)), (4, .int (if (M.1 (20 + x2.toNatClampNeg) 7) < x3 then (M.1 (20 + x2.toNatClampNeg) 7) else x3)), (3, .ref (adr G r (20 + x2.toNatClampNeg))), (0, .ref (adr G r 0)), (2, .int x2)]) hX dX6_secondOfNextEvent_52 rfl (Nat.le_of_ble_eq_true rfl) rfl (t := 53) rfl ?_
            refine J_iinc (v := x2 + 1) (lc2 := [(2, .int (x2 + 1)), (1, .int (if (M.1 (20 + x2.toNatClampNeg) 7) < x3 then (M.1 (20 + x2.toNatClampNeg) 7) else x3)), (4, .int (if (M.1 (20 + x2.toNatClampNeg) 7) < x3 then (M.1 (20 + x2.toNatClampNeg) 7) else x3)), (3, .ref (adr G r (20 + x2.toNatClampNeg))), (0, .ref (adr G r 0))]) hX dX6_secondOfNextEvent_53 4 rfl rfl (Nat.le_of_ble_eq_true rfl) rfl (t := 56) rfl ?_
            refine J_goto (tgt := 4) hX dX6_secondOfNextEvent_56 (by decide) ?_
            refine J_sub (lc2 := [(0, .ref (adr G r 0)), (1, .int (if (M.1 (20 + x2.toNatClampNeg) 7) < x3 then (M.1 (20 + x2.toNatClampNeg) 7) else x3)), (2, .int (x2 + 1))]) [4, 1, 0] rfl ?_
            exact ih M (if (M.1 (20 + x2.toNatClampNeg) 7) < x3 then (M.1 (20 + x2.toNatClampNeg) 7) else x3) (x2 + 1) hF
def FX6_secondOfNextEvent (n : Nat) (M : MM)  : Option (Int32) :=
  FX6_secondOfNextEvent_L4 n n M (-1) 0
set_option maxHeartbeats 4000000 in
set_option maxRecDepth 100000 in
theorem ctX6_secondOfNextEvent {G : GG} {l : Launch} (w : Wd) (r : Nat) (hr : 1 ≤ r ∧ r ≤ 9) (M : MM)   (n : Nat) {rx : Int32} (hF : FX6_secondOfNextEvent n M  = some rx) : CT G l yX6_secondOfNextEvent cX6_secondOfNextEvent 5 (some .int) rmX6_secondOfNextEvent 0 0 [.ref (adr G r 0)] (sW w r M) (some (.int rx)) (sW w r M) := by
  refine CT.of miX6_secondOfNextEvent [(0, .ref (adr G r 0))] rfl (Nat.le_of_ble_eq_true rfl) ?_
  intro p e s m args below meth c hX hR hlk
  have hX : FX G RX6 cX6_secondOfNextEvent 5 p s m args c := hX
  unfold FX6_secondOfNextEvent at hF
  refine J_iconst (v := (-1)) hX dX6_secondOfNextEvent_0 (by decide) (t := 1) rfl ?_
  refine J_istore_n (lc2 := [(1, .int (-1)), (0, .ref (adr G r 0))]) hX dX6_secondOfNextEvent_1 rfl (Nat.le_of_ble_eq_true rfl) rfl (t := 2) rfl ?_
  refine J_iconst (v := 0) hX dX6_secondOfNextEvent_2 (by decide) (t := 3) rfl ?_
  refine J_istore_n (lc2 := [(2, .int 0), (1, .int (-1)), (0, .ref (adr G r 0))]) hX dX6_secondOfNextEvent_3 rfl (Nat.le_of_ble_eq_true rfl) rfl (t := 4) rfl ?_
  refine J_sub (lc2 := [(0, .ref (adr G r 0)), (1, .int (-1)), (2, .int 0)]) [2, 1, 0] rfl ?_
  exact LX6_secondOfNextEvent_4 w r hr hX hR hlk n n M (-1) 0 hF
abbrev rmX10_loudnessNeeded : Room := { frames := 0, cells := 0, slots := 0, locals := 0 }
theorem miX10_loudnessNeeded : MI yX10_loudnessNeeded cX10_loudnessNeeded 2 (some .int) 1 := ⟨q_1178, q_139, by decide +kernel, by decide +kernel, by decide +kernel, by decide +kernel⟩
theorem mvX10_loudnessNeeded : MV yX10_loudnessNeeded := ⟨q_1176, q_1177⟩
def FX10_loudnessNeeded (M : MM) (j0 : Nat) (p1 : Int32) : Int32 :=
  ((2 * p1) + (M.1 j0 4)) + 1
set_option maxHeartbeats 4000000 in
set_option maxRecDepth 100000 in
theorem ctX10_loudnessNeeded {G : GG} {l : Launch} (w : Wd) (r : Nat) (hr : 1 ≤ r ∧ r ≤ 9) (M : MM) (j0 : Nat) (p1 : Int32) (hj0 : 4 ≤ j0 ∧ j0 < 12) {rx : Int32} (hF : FX10_loudnessNeeded M j0 p1 = rx) : CT G l yX10_loudnessNeeded cX10_loudnessNeeded 2 (some .int) rmX10_loudnessNeeded 0 0 [.ref (adr G r j0), .int p1] (sW w r M) (some (.int rx)) (sW w r M) := by
  refine CT.of miX10_loudnessNeeded [(0, .ref (adr G r j0)), (1, .int p1)] rfl (Nat.le_of_ble_eq_true rfl) ?_
  intro p e s m args below meth c hX hR hlk
  have hX : FX G RX10 cX10_loudnessNeeded 2 p s m args c := hX
  unfold FX10_loudnessNeeded at hF
  refine J_iconst (v := 2) hX dX10_loudnessNeeded_0 (by decide) (t := 1) rfl ?_
  refine J_iload_n hX dX10_loudnessNeeded_1 1 rfl (t := 2) rfl ?_
  refine J_imul hX dX10_loudnessNeeded_2 (t := 3) rfl ?_
  refine J_aload_n hX dX10_loudnessNeeded_3 0 rfl (t := 4) rfl ?_
  refine JM_get hX cb8 (kValley hr hj0) 4 (by decide) q_247 rfl dX10_loudnessNeeded_4 (t := 7) rfl ?_
  refine J_iadd hX dX10_loudnessNeeded_7 (t := 8) rfl ?_
  refine J_iconst (v := 1) hX dX10_loudnessNeeded_8 (by decide) (t := 9) rfl ?_
  refine J_iadd hX dX10_loudnessNeeded_9 (t := 10) rfl ?_
  subst hF
  exact J_iret hX hR hlk dX10_loudnessNeeded_10
abbrev rmX6_earn : Room := { frames := 0, cells := 0, slots := 0, locals := 0 }
theorem miX6_earn : MI yX6_earn cX6_earn 4 none 1 := ⟨q_1186, q_138, by decide +kernel, by decide +kernel, by decide +kernel, by decide +kernel⟩
theorem mvX6_earn : MV yX6_earn := ⟨q_1185, q_18⟩
def FX6_earn (M : MM) (j1 : Nat) : Option (MM) :=
  gd (inb (M.1 j1 1) 8) <|
  gd (inb (M.1 j1 0) 8) <|
  bnd (sI M j1 10 ((M.1 j1 10) ||| (1 <<< ((M.1 j1 9) &&& 31)))) fun M3 =>
  bnd (sI M3 (4 + (M.1 j1 1).toNatClampNeg) 5 ((M3.1 (4 + (M.1 j1 1).toNatClampNeg) 5) + 1)) fun M5 =>
  bnd (sI M5 (4 + (M.1 j1 1).toNatClampNeg) 6 ((M5.1 (4 + (M.1 j1 1).toNatClampNeg) 6) + (M5.1 j1 4))) fun M7 =>
  bnd (sI M7 0 8 ((M7.1 0 8) + (M7.1 j1 4))) fun M9 =>
  bnd (sI M9 (12 + (M.1 j1 0).toNatClampNeg) 5 ((M9.1 (12 + (M.1 j1 0).toNatClampNeg) 5) - (M9.1 j1 4))) fun M11 =>
  bnd (sI M11 0 10 ((M11.1 0 10) - (M11.1 j1 4))) fun M13 =>
  bnd (sI M13 (12 + (M.1 j1 0).toNatClampNeg) 6 ((M13.1 (12 + (M.1 j1 0).toNatClampNeg) 6) + 1)) fun M15 =>
  bnd (sI M15 0 11 ((M15.1 0 11) + 1)) fun M17 =>
  some M17
set_option maxHeartbeats 4000000 in
set_option maxRecDepth 100000 in
theorem ctX6_earn {G : GG} {l : Launch} (w : Wd) (r : Nat) (hr : 1 ≤ r ∧ r ≤ 9) (M : MM) (j1 : Nat) (hj1 : 20 ≤ j1 ∧ j1 < 50) {rw : MM} (hF : FX6_earn M j1 = some rw) : CT G l yX6_earn cX6_earn 4 none rmX6_earn 0 0 [.ref (adr G r 0), .ref (adr G r j1)] (sW w r M) (none) (sW w r rw) := by
  refine CT.of miX6_earn [(0, .ref (adr G r 0)), (1, .ref (adr G r j1))] rfl (Nat.le_of_ble_eq_true rfl) ?_
  intro p e s m args below meth c hX hR hlk
  have hX : FX G RX6 cX6_earn 4 p s m args c := hX
  unfold FX6_earn at hF
  refine J_aload_n hX dX6_earn_0 0 rfl (t := 1) rfl ?_
  refine JM_get hX cb4 (kMarket hr) 0 (by decide) q_371 rfl dX6_earn_1 (t := 4) rfl ?_
  refine J_aload_n hX dX6_earn_4 1 rfl (t := 5) rfl ?_
  refine JM_get hX cb6 (kShout hr hj1) 1 (by decide) q_324 rfl dX6_earn_5 (t := 8) rfl ?_
  obtain ⟨g1, hF⟩ := gd_e hF
  refine J_aald (k := 3) hX (kValleys hr) rfl g1 dX6_earn_8 (t := 9) rfl ?_
  refine J_astore_n (lc2 := [(2, .ref (adr G r (4 + (M.1 j1 1).toNatClampNeg))), (0, .ref (adr G r 0)), (1, .ref (adr G r j1))]) hX dX6_earn_9 rfl (Nat.le_of_ble_eq_true rfl) rfl (t := 10) rfl ?_
  refine J_aload_n hX dX6_earn_10 1 rfl (t := 11) rfl ?_
  refine JM_get hX cb4 (kMarket hr) 1 (by decide) q_373 rfl dX6_earn_11 (t := 14) rfl ?_
  refine J_aload_n hX dX6_earn_14 2 rfl (t := 15) rfl ?_
  refine JM_get hX cb6 (kShout hr hj1) 0 (by decide) q_321 rfl dX6_earn_15 (t := 18) rfl ?_
  obtain ⟨g2, hF⟩ := gd_e hF
  refine J_aald (k := 4) hX (kCustomers hr) rfl g2 dX6_earn_18 (t := 19) rfl ?_
  refine J_astore_n (lc2 := [(3, .ref (adr G r (12 + (M.1 j1 0).toNatClampNeg))), (2, .ref (adr G r (4 + (M.1 j1 1).toNatClampNeg))), (0, .ref (adr G r 0)), (1, .ref (adr G r j1))]) hX dX6_earn_19 rfl (Nat.le_of_ble_eq_true rfl) rfl (t := 20) rfl ?_
  refine J_aload_n hX dX6_earn_20 3 rfl (t := 21) rfl ?_
  refine J_dup hX dX6_earn_21 rfl (t := 22) rfl ?_
  refine JM_get hX cb6 (kShout hr hj1) 10 (by decide) q_347 rfl dX6_earn_22 (t := 25) rfl ?_
  refine J_iconst (v := 1) hX dX6_earn_25 (by decide) (t := 26) rfl ?_
  refine J_aload_n hX dX6_earn_26 3 rfl (t := 27) rfl ?_
  refine JM_get hX cb6 (kShout hr hj1) 9 (by decide) q_344 rfl dX6_earn_27 (t := 30) rfl ?_
  refine J_ishl hX dX6_earn_30 (t := 31) rfl ?_
  refine J_ior hX dX6_earn_31 (t := 32) rfl ?_
  obtain ⟨M3, e4, hF⟩ := bnd_e hF
  refine JM_puti hX cb6 (kShout hr hj1) 10 (by decide) q_347 rfl rfl e4 (fun _ _ => Nat.le_of_ble_eq_true rfl) (fun _ _ => rfl) dX6_earn_32 (t := 35) rfl ?_
  refine J_aload_n hX dX6_earn_35 1 rfl (t := 36) rfl ?_
  refine J_dup hX dX6_earn_36 rfl (t := 37) rfl ?_
  refine JM_get hX cb8 (kValley hr ⟨Nat.le_add_right 4 _, Nat.add_lt_add_left (inb_lt g1) 4⟩) 5 (by decide) q_250 rfl dX6_earn_37 (t := 40) rfl ?_
  refine J_iconst (v := 1) hX dX6_earn_40 (by decide) (t := 41) rfl ?_
  refine J_iadd hX dX6_earn_41 (t := 42) rfl ?_
  obtain ⟨M5, e6, hF⟩ := bnd_e hF
  refine JM_puti hX cb8 (kValley hr ⟨Nat.le_add_right 4 _, Nat.add_lt_add_left (inb_lt g1) 4⟩) 5 (by decide) q_250 rfl rfl e6 (fun _ _ => Nat.le_of_ble_eq_true rfl) (fun _ _ => rfl) dX6_earn_42 (t := 45) rfl ?_
  refine J_aload_n hX dX6_earn_45 1 rfl (t := 46) rfl ?_
  refine J_dup hX dX6_earn_46 rfl (t := 47) rfl ?_
  refine JM_get hX cb8 (kValley hr ⟨Nat.le_add_right 4 _, Nat.add_lt_add_left (inb_lt g1) 4⟩) 6 (by decide) q_254 rfl dX6_earn_47 (t := 50) rfl ?_
  refine J_aload_n hX dX6_earn_50 3 rfl (t := 51) rfl ?_
  refine JM_get hX cb6 (kShout hr hj1) 4 (by decide) q_332 rfl dX6_earn_51 (t := 54) rfl ?_
  refine J_iadd hX dX6_earn_54 (t := 55) rfl ?_
  obtain ⟨M7, e8, hF⟩ := bnd_e hF
  refine JM_puti hX cb8 (kValley hr ⟨Nat.le_add_right 4 _, Nat.add_lt_add_left (inb_lt g1) 4⟩) 6 (by decide) q_254 rfl rfl e8 (fun _ _ => Nat.le_of_ble_eq_true rfl) (fun _ _ => rfl) dX6_earn_55 (t := 58) rfl ?_
  refine J_aload_n hX dX6_earn_58 2 rfl (t := 59) rfl ?_
  refine J_dup hX dX6_earn_59 rfl (t := 60) rfl ?_
  refine JM_get hX cb4 (kMarket hr) 8 (by decide) q_390 rfl dX6_earn_60 (t := 63) rfl ?_
  refine J_aload_n hX dX6_earn_63 3 rfl (t := 64) rfl ?_
  refine JM_get hX cb6 (kShout hr hj1) 4 (by decide) q_332 rfl dX6_earn_64 (t := 67) rfl ?_
  refine J_iadd hX dX6_earn_67 (t := 68) rfl ?_
  obtain ⟨M9, e10, hF⟩ := bnd_e hF
  refine JM_puti hX cb4 (kMarket hr) 8 (by decide) q_390 rfl rfl e10 (fun _ _ => Nat.le_of_ble_eq_true rfl) (fun _ _ => rfl) dX6_earn_68 (t := 71) rfl ?_
  refine J_aload_n hX dX6_earn_71 0 rfl (t := 72) rfl ?_
  refine J_dup hX dX6_earn_72 rfl (t := 73) rfl ?_
  refine JM_get hX cb1 (kCustomer hr ⟨Nat.le_add_right 12 _, Nat.add_lt_add_left (inb_lt g2) 12⟩) 5 (by decide) q_295 rfl dX6_earn_73 (t := 76) rfl ?_
  refine J_aload_n hX dX6_earn_76 3 rfl (t := 77) rfl ?_
  refine JM_get hX cb6 (kShout hr hj1) 4 (by decide) q_332 rfl dX6_earn_77 (t := 80) rfl ?_
  refine J_isub hX dX6_earn_80 (t := 81) rfl ?_
  obtain ⟨M11, e12, hF⟩ := bnd_e hF
  refine JM_puti hX cb1 (kCustomer hr ⟨Nat.le_add_right 12 _, Nat.add_lt_add_left (inb_lt g2) 12⟩) 5 (by decide) q_295 rfl rfl e12 (fun _ _ => Nat.le_of_ble_eq_true rfl) (fun _ _ => rfl) dX6_earn_81 (t := 84) rfl ?_
  refine J_aload_n hX dX6_earn_84 2 rfl (t := 85) rfl ?_
  refine J_dup hX dX6_earn_85 rfl (t := 86) rfl ?_
  refine JM_get hX cb4 (kMarket hr) 10 (by decide) q_394 rfl dX6_earn_86 (t := 89) rfl ?_
  refine J_aload_n hX dX6_earn_89 3 rfl (t := 90) rfl ?_
  refine JM_get hX cb6 (kShout hr hj1) 4 (by decide) q_332 rfl dX6_earn_90 (t := 93) rfl ?_
  refine J_isub hX dX6_earn_93 (t := 94) rfl ?_
  obtain ⟨M13, e14, hF⟩ := bnd_e hF
  refine JM_puti hX cb4 (kMarket hr) 10 (by decide) q_394 rfl rfl e14 (fun _ _ => Nat.le_of_ble_eq_true rfl) (fun _ _ => rfl) dX6_earn_94 (t := 97) rfl ?_
  refine J_aload_n hX dX6_earn_97 0 rfl (t := 98) rfl ?_
  refine J_dup hX dX6_earn_98 rfl (t := 99) rfl ?_
  refine JM_get hX cb1 (kCustomer hr ⟨Nat.le_add_right 12 _, Nat.add_lt_add_left (inb_lt g2) 12⟩) 6 (by decide) q_298 rfl dX6_earn_99 (t := 102) rfl ?_
  refine J_iconst (v := 1) hX dX6_earn_102 (by decide) (t := 103) rfl ?_
  refine J_iadd hX dX6_earn_103 (t := 104) rfl ?_
  obtain ⟨M15, e16, hF⟩ := bnd_e hF
  refine JM_puti hX cb1 (kCustomer hr ⟨Nat.le_add_right 12 _, Nat.add_lt_add_left (inb_lt g2) 12⟩) 6 (by decide) q_298 rfl rfl e16 (fun _ _ => Nat.le_of_ble_eq_true rfl) (fun _ _ => rfl) dX6_earn_104 (t := 107) rfl ?_
  refine J_aload_n hX dX6_earn_107 2 rfl (t := 108) rfl ?_
  refine J_dup hX dX6_earn_108 rfl (t := 109) rfl ?_
  refine JM_get hX cb4 (kMarket hr) 11 (by decide) q_396 rfl dX6_earn_109 (t := 112) rfl ?_
  refine J_iconst (v := 1) hX dX6_earn_112 (by decide) (t := 113) rfl ?_
  refine J_iadd hX dX6_earn_113 (t := 114) rfl ?_
  obtain ⟨M17, e18, hF⟩ := bnd_e hF
  refine JM_puti hX cb4 (kMarket hr) 11 (by decide) q_396 rfl rfl e18 (fun _ _ => Nat.le_of_ble_eq_true rfl) (fun _ _ => rfl) dX6_earn_114 (t := 117) rfl ?_
  replace hF := Option.some.inj hF
  subst hF
  exact J_vret hX hR hlk dX6_earn_117
abbrev rmX6_refund : Room := { frames := 0, cells := 0, slots := 0, locals := 0 }
theorem miX6_refund : MI yX6_refund cX6_refund 4 none 2 := ⟨q_1190, q_138, by decide +kernel, by decide +kernel, by decide +kernel, by decide +kernel⟩
theorem mvX6_refund : MV yX6_refund := ⟨q_1189, q_19⟩
def FX6_refund (M : MM) (j1 : Nat) (p2 : Int32) : Option (MM) :=
  gd (inb (M.1 j1 0) 8) <|
  bnd (sI M (12 + (M.1 j1 0).toNatClampNeg) 5 ((M.1 (12 + (M.1 j1 0).toNatClampNeg) 5) - p2)) fun M2 =>
  bnd (sI M2 0 10 ((M2.1 0 10) - p2)) fun M4 =>
  bnd (sI M4 (12 + (M.1 j1 0).toNatClampNeg) 3 ((M4.1 (12 + (M.1 j1 0).toNatClampNeg) 3) + p2)) fun M6 =>
  bnd (sI M6 0 9 ((M6.1 0 9) + p2)) fun M8 =>
  some M8
set_option maxHeartbeats 4000000 in
set_option maxRecDepth 100000 in
theorem ctX6_refund {G : GG} {l : Launch} (w : Wd) (r : Nat) (hr : 1 ≤ r ∧ r ≤ 9) (M : MM) (j1 : Nat) (p2 : Int32) (hj1 : 20 ≤ j1 ∧ j1 < 50) {rw : MM} (hF : FX6_refund M j1 p2 = some rw) : CT G l yX6_refund cX6_refund 4 none rmX6_refund 0 0 [.ref (adr G r 0), .ref (adr G r j1), .int p2] (sW w r M) (none) (sW w r rw) := by
  refine CT.of miX6_refund [(0, .ref (adr G r 0)), (1, .ref (adr G r j1)), (2, .int p2)] rfl (Nat.le_of_ble_eq_true rfl) ?_
  intro p e s m args below meth c hX hR hlk
  have hX : FX G RX6 cX6_refund 4 p s m args c := hX
  unfold FX6_refund at hF
  refine J_aload_n hX dX6_refund_0 0 rfl (t := 1) rfl ?_
  refine JM_get hX cb4 (kMarket hr) 1 (by decide) q_373 rfl dX6_refund_1 (t := 4) rfl ?_
  refine J_aload_n hX dX6_refund_4 1 rfl (t := 5) rfl ?_
  refine JM_get hX cb6 (kShout hr hj1) 0 (by decide) q_321 rfl dX6_refund_5 (t := 8) rfl ?_
  obtain ⟨g1, hF⟩ := gd_e hF
  refine J_aald (k := 4) hX (kCustomers hr) rfl g1 dX6_refund_8 (t := 9) rfl ?_
  refine J_astore_n (lc2 := [(3, .ref (adr G r (12 + (M.1 j1 0).toNatClampNeg))), (0, .ref (adr G r 0)), (1, .ref (adr G r j1)), (2, .int p2)]) hX dX6_refund_9 rfl (Nat.le_of_ble_eq_true rfl) rfl (t := 10) rfl ?_
  refine J_aload_n hX dX6_refund_10 0 rfl (t := 11) rfl ?_
  refine J_dup hX dX6_refund_11 rfl (t := 12) rfl ?_
  refine JM_get hX cb1 (kCustomer hr ⟨Nat.le_add_right 12 _, Nat.add_lt_add_left (inb_lt g1) 12⟩) 5 (by decide) q_295 rfl dX6_refund_12 (t := 15) rfl ?_
  refine J_iload_n hX dX6_refund_15 3 rfl (t := 16) rfl ?_
  refine J_isub hX dX6_refund_16 (t := 17) rfl ?_
  obtain ⟨M2, e3, hF⟩ := bnd_e hF
  refine JM_puti hX cb1 (kCustomer hr ⟨Nat.le_add_right 12 _, Nat.add_lt_add_left (inb_lt g1) 12⟩) 5 (by decide) q_295 rfl rfl e3 (fun _ _ => Nat.le_of_ble_eq_true rfl) (fun _ _ => rfl) dX6_refund_17 (t := 20) rfl ?_
  refine J_aload_n hX dX6_refund_20 1 rfl (t := 21) rfl ?_
  refine J_dup hX dX6_refund_21 rfl (t := 22) rfl ?_
  refine JM_get hX cb4 (kMarket hr) 10 (by decide) q_394 rfl dX6_refund_22 (t := 25) rfl ?_
  refine J_iload_n hX dX6_refund_25 3 rfl (t := 26) rfl ?_
  refine J_isub hX dX6_refund_26 (t := 27) rfl ?_
  obtain ⟨M4, e5, hF⟩ := bnd_e hF
  refine JM_puti hX cb4 (kMarket hr) 10 (by decide) q_394 rfl rfl e5 (fun _ _ => Nat.le_of_ble_eq_true rfl) (fun _ _ => rfl) dX6_refund_27 (t := 30) rfl ?_
  refine J_aload_n hX dX6_refund_30 0 rfl (t := 31) rfl ?_
  refine J_dup hX dX6_refund_31 rfl (t := 32) rfl ?_
  refine JM_get hX cb1 (kCustomer hr ⟨Nat.le_add_right 12 _, Nat.add_lt_add_left (inb_lt g1) 12⟩) 3 (by decide) q_289 rfl dX6_refund_32 (t := 35) rfl ?_
  refine J_iload_n hX dX6_refund_35 3 rfl (t := 36) rfl ?_
  refine J_iadd hX dX6_refund_36 (t := 37) rfl ?_
  obtain ⟨M6, e7, hF⟩ := bnd_e hF
  refine JM_puti hX cb1 (kCustomer hr ⟨Nat.le_add_right 12 _, Nat.add_lt_add_left (inb_lt g1) 12⟩) 3 (by decide) q_289 rfl rfl e7 (fun _ _ => Nat.le_of_ble_eq_true rfl) (fun _ _ => rfl) dX6_refund_37 (t := 40) rfl ?_
  refine J_aload_n hX dX6_refund_40 1 rfl (t := 41) rfl ?_
  refine J_dup hX dX6_refund_41 rfl (t := 42) rfl ?_
  refine JM_get hX cb4 (kMarket hr) 9 (by decide) q_392 rfl dX6_refund_42 (t := 45) rfl ?_
  refine J_iload_n hX dX6_refund_45 3 rfl (t := 46) rfl ?_
  refine J_iadd hX dX6_refund_46 (t := 47) rfl ?_
  obtain ⟨M8, e9, hF⟩ := bnd_e hF
  refine JM_puti hX cb4 (kMarket hr) 9 (by decide) q_392 rfl rfl e9 (fun _ _ => Nat.le_of_ble_eq_true rfl) (fun _ _ => rfl) dX6_refund_47 (t := 50) rfl ?_
  replace hF := Option.some.inj hF
  subst hF
  exact J_vret hX hR hlk dX6_refund_50
abbrev rmX8_amountToCome : Room := { frames := 0, cells := 0, slots := 0, locals := 0 }
theorem miX8_amountToCome : MI yX8_amountToCome cX8_amountToCome 1 (some .int) 0 := ⟨q_1205, q_141, by decide +kernel, by decide +kernel, by decide +kernel, by decide +kernel⟩
theorem mvX8_amountToCome : MV yX8_amountToCome := ⟨q_1203, q_1204⟩
def FX8_amountToCome (M : MM) (j0 : Nat) : Int32 :=
  (M.1 j0 4) * ((M.1 j0 3) - (M.1 j0 9))
set_option maxHeartbeats 4000000 in
set_option maxRecDepth 100000 in
theorem ctX8_amountToCome {G : GG} {l : Launch} (w : Wd) (r : Nat) (hr : 1 ≤ r ∧ r ≤ 9) (M : MM) (j0 : Nat) (hj0 : 20 ≤ j0 ∧ j0 < 50) {rx : Int32} (hF : FX8_amountToCome M j0 = rx) : CT G l yX8_amountToCome cX8_amountToCome 1 (some .int) rmX8_amountToCome 0 0 [.ref (adr G r j0)] (sW w r M) (some (.int rx)) (sW w r M) := by
  refine CT.of miX8_amountToCome [(0, .ref (adr G r j0))] rfl (Nat.le_of_ble_eq_true rfl) ?_
  intro p e s m args below meth c hX hR hlk
  have hX : FX G RX8 cX8_amountToCome 1 p s m args c := hX
  unfold FX8_amountToCome at hF
  refine J_aload_n hX dX8_amountToCome_0 0 rfl (t := 1) rfl ?_
  refine JM_get hX cb6 (kShout hr hj0) 4 (by decide) q_331 rfl dX8_amountToCome_1 (t := 4) rfl ?_
  refine J_aload_n hX dX8_amountToCome_4 0 rfl (t := 5) rfl ?_
  refine JM_get hX cb6 (kShout hr hj0) 3 (by decide) q_328 rfl dX8_amountToCome_5 (t := 8) rfl ?_
  refine J_aload_n hX dX8_amountToCome_8 0 rfl (t := 9) rfl ?_
  refine JM_get hX cb6 (kShout hr hj0) 9 (by decide) q_343 rfl dX8_amountToCome_9 (t := 12) rfl ?_
  refine J_isub hX dX8_amountToCome_12 (t := 13) rfl ?_
  refine J_imul hX dX8_amountToCome_13 (t := 14) rfl ?_
  subst hF
  exact J_iret hX hR hlk dX8_amountToCome_14
abbrev rmX6_callOff : Room := { frames := 1, cells := 0, slots := 0, locals := 23 }
theorem miX6_callOff : MI yX6_callOff cX6_callOff 4 (some .int) 1 := ⟨q_1201, q_138, by decide +kernel, by decide +kernel, by decide +kernel, by decide +kernel⟩
theorem mvX6_callOff : MV yX6_callOff := ⟨q_1199, q_1200⟩
def FX6_callOff (M : MM) (p1 : Int32) : Option (Int32 × MM) :=
  gd (inb p1 30) <|
  bnd (FX8_amountToCome M (20 + p1.toNatClampNeg)) fun x3 =>
  bnd (sI M (20 + p1.toNatClampNeg) 8 2) fun M5 =>
  bo1 (FX6_refund M5 (20 + p1.toNatClampNeg) x3) fun M8 =>
  some (x3, M8)
set_option maxHeartbeats 4000000 in
set_option maxRecDepth 100000 in
theorem ctX6_callOff {G : GG} {l : Launch} (w : Wd) (r : Nat) (hr : 1 ≤ r ∧ r ≤ 9) (M : MM) (p1 : Int32)  {rx : Int32} {rw : MM} (hF : FX6_callOff M p1 = some (rx, rw)) : CT G l yX6_callOff cX6_callOff 4 (some .int) rmX6_callOff 0 0 [.ref (adr G r 0), .int p1] (sW w r M) (some (.int rx)) (sW w r rw) := by
  refine CT.of miX6_callOff [(0, .ref (adr G r 0)), (1, .int p1)] rfl (Nat.le_of_ble_eq_true rfl) ?_
  intro p e s m args below meth c hX hR hlk
  have hX : FX G RX6 cX6_callOff 4 p s m args c := hX
  unfold FX6_callOff at hF
  refine J_aload_n hX dX6_callOff_0 0 rfl (t := 1) rfl ?_
  refine JM_get hX cb4 (kMarket hr) 2 (by decide) q_375 rfl dX6_callOff_1 (t := 4) rfl ?_
  refine J_iload_n hX dX6_callOff_4 1 rfl (t := 5) rfl ?_
  obtain ⟨g1, hF⟩ := gd_e hF
  refine J_aald (k := 5) hX (kShouts hr) rfl g1 dX6_callOff_5 (t := 6) rfl ?_
  refine J_astore_n (lc2 := [(2, .ref (adr G r (20 + p1.toNatClampNeg))), (0, .ref (adr G r 0)), (1, .int p1)]) hX dX6_callOff_6 rfl (Nat.le_of_ble_eq_true rfl) rfl (t := 7) rfl ?_
  refine J_aload_n hX dX6_callOff_7 0 rfl (t := 8) rfl ?_
  obtain ⟨x3, h2, hF⟩ := bnd_e hF
  have k4 := (ctX8_amountToCome (G := G) (l := l) w r hr M (20 + p1.toNatClampNeg) ⟨Nat.le_add_right 20 _, Nat.add_lt_add_left (inb_lt g1) 20⟩ h2)
  refine J_callV hX [] [] k4 miX8_amountToCome mvX8_amountToCome cb6 (kShout hr ⟨Nat.le_add_right 20 _, Nat.add_lt_add_left (inb_lt g1) 20⟩) q_1202 ⟨rfl, rfl, Nat.le_of_ble_eq_true rfl, Nat.le_of_ble_eq_true rfl⟩ rfl rfl (Nat.le_of_ble_eq_true rfl) ⟨Nat.le_of_ble_eq_true rfl, Nat.le_of_ble_eq_true rfl⟩ dX6_callOff_8 (t := 11) rfl ?_
  refine J_istore_n (lc2 := [(3, .int x3), (2, .ref (adr G r (20 + p1.toNatClampNeg))), (0, .ref (adr G r 0)), (1, .int p1)]) hX dX6_callOff_11 rfl (Nat.le_of_ble_eq_true rfl) rfl (t := 12) rfl ?_
  refine J_aload_n hX dX6_callOff_12 1 rfl (t := 13) rfl ?_
  refine J_iconst (v := 2) hX dX6_callOff_13 (by decide) (t := 14) rfl ?_
  obtain ⟨M5, e6, hF⟩ := bnd_e hF
  refine JM_puti hX cb6 (kShout hr ⟨Nat.le_add_right 20 _, Nat.add_lt_add_left (inb_lt g1) 20⟩) 8 (by decide) q_341 rfl rfl e6 (fun _ _ => Nat.le_of_ble_eq_true rfl) (fun _ _ => rfl) dX6_callOff_14 (t := 17) rfl ?_
  refine J_aload_n hX dX6_callOff_17 2 rfl (t := 18) rfl ?_
  refine J_aload_n hX dX6_callOff_18 1 rfl (t := 19) rfl ?_
  refine J_iload_n hX dX6_callOff_19 0 rfl (t := 20) rfl ?_
  obtain ⟨M8, h7, hF⟩ := bo1_e hF
  have k9 := (ctX6_refund (G := G) (l := l) w r hr M5 (20 + p1.toNatClampNeg) x3 ⟨Nat.le_add_right 20 _, Nat.add_lt_add_left (inb_lt g1) 20⟩ h7)
  refine J_callV hX [.ref (adr G r (20 + p1.toNatClampNeg)), .int x3] [] k9 miX6_refund mvX6_refund cb4 (kMarket hr) q_1187 ⟨rfl, rfl, Nat.le_of_ble_eq_true rfl, Nat.le_of_ble_eq_true rfl⟩ rfl rfl (Nat.le_of_ble_eq_true rfl) ⟨Nat.le_of_ble_eq_true rfl, Nat.le_of_ble_eq_true rfl⟩ dX6_callOff_20 (t := 23) rfl ?_
  refine J_iload_n hX dX6_callOff_23 0 rfl (t := 24) rfl ?_
  replace hF := Option.some.inj hF
  obtain ⟨hF, hF2⟩ := Prod.mk.inj hF
  subst hF
  subst hF2
  exact J_iret hX hR hlk dX6_callOff_24
abbrev rmX8_stateInTheEnd : Room := { frames := 1, cells := 0, slots := 0, locals := 21 }
theorem miX8_stateInTheEnd : MI yX8_stateInTheEnd cX8_stateInTheEnd 1 (some .int) 0 := ⟨q_1557, q_141, by decide +kernel, by decide +kernel, by decide +kernel, by decide +kernel⟩
theorem mvX8_stateInTheEnd : MV yX8_stateInTheEnd := ⟨q_1555, q_1556⟩
def FX8_stateInTheEnd (M : MM) (j0 : Nat) : Int32 :=
  bnd (FX8_isOpen M j0) fun x2 =>
  if x2 = true then
    bnd (FX8_secondOf M j0 (M.1 j0 3)) fun x5 =>
    if M.1 j0 7 < x5 then
      2
    else
      1
  else
    M.1 j0 8
set_option maxHeartbeats 4000000 in
set_option maxRecDepth 100000 in
theorem ctX8_stateInTheEnd {G : GG} {l : Launch} (w : Wd) (r : Nat) (hr : 1 ≤ r ∧ r ≤ 9) (M : MM) (j0 : Nat) (hj0 : 20 ≤ j0 ∧ j0 < 50) {rx : Int32} (hF : FX8_stateInTheEnd M j0 = rx) : CT G l yX8_stateInTheEnd cX8_stateInTheEnd 1 (some .int) rmX8_stateInTheEnd 0 0 [.ref (adr G r j0)] (sW w r M) (some (.int rx)) (sW w r M) := by
  refine CT.of miX8_stateInTheEnd [(0, .ref (adr G r j0))] rfl (Nat.le_of_ble_eq_true rfl) ?_
  intro p e s m args below meth c hX hR hlk
  have hX : FX G RX8 cX8_stateInTheEnd 1 p s m args c := hX
  unfold FX8_stateInTheEnd at hF
  refine J_aload_n hX dX8_stateInTheEnd_0 0 rfl (t := 1) rfl ?_
  obtain ⟨x2, h1, hF⟩ := bnd_e hF
  have k3 := (ctX8_isOpen (G := G) (l := l) w r hr M j0 hj0 h1)
  refine J_callV hX [] [] k3 miX8_isOpen mvX8_isOpen cb6 (kShout hr hj0) q_1558 ⟨rfl, rfl, Nat.le_of_ble_eq_true rfl, Nat.le_of_ble_eq_true rfl⟩ rfl rfl (Nat.le_of_ble_eq_true rfl) ⟨Nat.le_of_ble_eq_true rfl, Nat.le_of_ble_eq_true rfl⟩ dX8_stateInTheEnd_1 (t := 4) rfl ?_
  refine J_ifZ_ne (tgt := 12) hX dX8_stateInTheEnd_4 (by decide) (t := 7) rfl (fun z => ?_) (fun z => ?_)
  · replace hF := it_t hF z
    refine J_aload_n hX dX8_stateInTheEnd_12 0 rfl (t := 13) rfl ?_
    refine J_aload_n hX dX8_stateInTheEnd_13 0 rfl (t := 14) rfl ?_
    refine JM_get hX cb6 (kShout hr hj0) 3 (by decide) q_328 rfl dX8_stateInTheEnd_14 (t := 17) rfl ?_
    obtain ⟨x5, h4, hF⟩ := bnd_e hF
    have k6 := (ctX8_secondOf (G := G) (l := l) w r hr M j0 (M.1 j0 3) hj0 h4)
    refine J_callV hX [.int (M.1 j0 3)] [] k6 miX8_secondOf mvX8_secondOf cb6 (kShout hr hj0) q_727 ⟨rfl, rfl, Nat.le_of_ble_eq_true rfl, Nat.le_of_ble_eq_true rfl⟩ rfl rfl (Nat.le_of_ble_eq_true rfl) ⟨Nat.le_of_ble_eq_true rfl, Nat.le_of_ble_eq_true rfl⟩ dX8_stateInTheEnd_17 (t := 20) rfl ?_
    refine J_aload_n hX dX8_stateInTheEnd_20 0 rfl (t := 21) rfl ?_
    refine JM_get hX cb6 (kShout hr hj0) 7 (by decide) q_337 rfl dX8_stateInTheEnd_21 (t := 24) rfl ?_
    refine J_icmp_gt (tgt := 31) hX dX8_stateInTheEnd_24 (by decide) (t := 27) rfl (fun z => ?_) (fun z => ?_)
    · replace hF := it_t hF z
      refine J_iconst (v := 2) hX dX8_stateInTheEnd_31 (by decide) (t := 32) rfl ?_
      subst hF
      exact J_iret hX hR hlk dX8_stateInTheEnd_32
    · replace hF := it_f hF z
      refine J_iconst (v := 1) hX dX8_stateInTheEnd_27 (by decide) (t := 28) rfl ?_
      refine J_goto (tgt := 32) hX dX8_stateInTheEnd_28 (by decide) ?_
      subst hF
      exact J_iret hX hR hlk dX8_stateInTheEnd_32
  · replace hF := ib_f hF z
    refine J_aload_n hX dX8_stateInTheEnd_7 0 rfl (t := 8) rfl ?_
    refine JM_get hX cb6 (kShout hr hj0) 8 (by decide) q_340 rfl dX8_stateInTheEnd_8 (t := 11) rfl ?_
    subst hF
    exact J_iret hX hR hlk dX8_stateInTheEnd_11
abbrev rmX8_signOfEcho : Room := { frames := 0, cells := 0, slots := 0, locals := 0 }
theorem miX8_signOfEcho : MI yX8_signOfEcho cX8_signOfEcho 2 (some .char) 1 := ⟨q_1930, q_141, by decide +kernel, by decide +kernel, by decide +kernel, by decide +kernel⟩
theorem mvX8_signOfEcho : MV yX8_signOfEcho := ⟨q_1928, q_1929⟩
def FX8_signOfEcho (M : MM) (j0 : Nat) (p1 : Int32) : Int32 :=
  if p1 ≤ M.1 j0 9 then
    if ((M.1 j0 10) >>> ((p1 - 1) &&& 31)) &&& 1 = 1 then
      104
    else
      108
  else
    46
set_option maxHeartbeats 4000000 in
set_option maxRecDepth 100000 in
theorem ctX8_signOfEcho {G : GG} {l : Launch} (w : Wd) (r : Nat) (hr : 1 ≤ r ∧ r ≤ 9) (M : MM) (j0 : Nat) (p1 : Int32) (hj0 : 20 ≤ j0 ∧ j0 < 50) {rx : Int32} (hF : FX8_signOfEcho M j0 p1 = rx) : CT G l yX8_signOfEcho cX8_signOfEcho 2 (some .char) rmX8_signOfEcho 0 0 [.ref (adr G r j0), .int p1] (sW w r M) (some (.int rx)) (sW w r M) := by
  refine CT.of miX8_signOfEcho [(0, .ref (adr G r j0)), (1, .int p1)] rfl (Nat.le_of_ble_eq_true rfl) ?_
  intro p e s m args below meth c hX hR hlk
  have hX : FX G RX8 cX8_signOfEcho 2 p s m args c := hX
  unfold FX8_signOfEcho at hF
  refine J_iload_n hX dX8_signOfEcho_0 1 rfl (t := 1) rfl ?_
  refine J_aload_n hX dX8_signOfEcho_1 0 rfl (t := 2) rfl ?_
  refine JM_get hX cb6 (kShout hr hj0) 9 (by decide) q_343 rfl dX8_signOfEcho_2 (t := 5) rfl ?_
  refine J_icmp_le (tgt := 11) hX dX8_signOfEcho_5 (by decide) (t := 8) rfl (fun z => ?_) (fun z => ?_)
  · replace hF := it_t hF z
    refine J_aload_n hX dX8_signOfEcho_11 0 rfl (t := 12) rfl ?_
    refine JM_get hX cb6 (kShout hr hj0) 10 (by decide) q_346 rfl dX8_signOfEcho_12 (t := 15) rfl ?_
    refine J_iload_n hX dX8_signOfEcho_15 1 rfl (t := 16) rfl ?_
    refine J_iconst (v := 1) hX dX8_signOfEcho_16 (by decide) (t := 17) rfl ?_
    refine J_isub hX dX8_signOfEcho_17 (t := 18) rfl ?_
    refine J_ishr hX dX8_signOfEcho_18 (t := 19) rfl ?_
    refine J_iconst (v := 1) hX dX8_signOfEcho_19 (by decide) (t := 20) rfl ?_
    refine J_iand hX dX8_signOfEcho_20 (t := 21) rfl ?_
    refine J_iconst (v := 1) hX dX8_signOfEcho_21 (by decide) (t := 22) rfl ?_
    refine J_icmp_ne (tgt := 30) hX dX8_signOfEcho_22 (by decide) (t := 25) rfl (fun z => ?_) (fun z => ?_)
    · replace hF := it_f hF z
      refine J_bipush (v := 108) hX dX8_signOfEcho_30 (by decide) (t := 32) rfl ?_
      subst hF
      exact J_nret hX hR hlk rfl dX8_signOfEcho_32
    · replace hF := it_t hF z
      refine J_bipush (v := 104) hX dX8_signOfEcho_25 (by decide) (t := 27) rfl ?_
      refine J_goto (tgt := 32) hX dX8_signOfEcho_27 (by decide) ?_
      subst hF
      exact J_nret hX hR hlk rfl dX8_signOfEcho_32
  · replace hF := it_f hF z
    refine J_bipush (v := 46) hX dX8_signOfEcho_8 (by decide) (t := 10) rfl ?_
    subst hF
    exact J_nret hX hR hlk rfl dX8_signOfEcho_10
abbrev rmX12_isLetter : Room := { frames := 0, cells := 0, slots := 0, locals := 0 }
theorem miX12_isLetter : MI yX12_isLetter cX12_isLetter 1 (some .boolean) 1 := ⟨q_659, q_136, by decide +kernel, by decide +kernel, by decide +kernel, by decide +kernel⟩
def FX12_isLetter (p0 : Int32) : Bool :=
  if p0 < 97 then
    false
  else
    if 122 < p0 then
      false
    else
      true
set_option maxHeartbeats 4000000 in
set_option maxRecDepth 100000 in
theorem ctX12_isLetter {G : GG} {l : Launch} {w : Wd} (p0 : Int32)  {rx : Bool} (hF : FX12_isLetter p0 = rx) : CT G l yX12_isLetter cX12_isLetter 1 (some .boolean) rmX12_isLetter 0 0 [.int p0] w (some (.int (bI rx))) w := by
  refine CT.of miX12_isLetter [(0, .int p0)] rfl (Nat.le_of_ble_eq_true rfl) ?_
  intro p e s m args below meth c hX hR hlk
  have hX : FX G RX12 cX12_isLetter 1 p s m args c := hX
  unfold FX12_isLetter at hF
  refine J_iload_n hX dX12_isLetter_0 0 rfl (t := 1) rfl ?_
  refine J_bipush (v := 97) hX dX12_isLetter_1 (by decide) (t := 3) rfl ?_
  refine J_icmp_lt (tgt := 16) hX dX12_isLetter_3 (by decide) (t := 6) rfl (fun z => ?_) (fun z => ?_)
  · replace hF := it_t hF z
    refine J_iconst (v := 0) hX dX12_isLetter_16 (by decide) (t := 17) rfl ?_
    subst hF
    exact J_zret (b := false) hX hR hlk dX12_isLetter_17
  · replace hF := it_f hF z
    refine J_iload_n hX dX12_isLetter_6 0 rfl (t := 7) rfl ?_
    refine J_bipush (v := 122) hX dX12_isLetter_7 (by decide) (t := 9) rfl ?_
    refine J_icmp_gt (tgt := 16) hX dX12_isLetter_9 (by decide) (t := 12) rfl (fun z => ?_) (fun z => ?_)
    · replace hF := it_t hF z
      refine J_iconst (v := 0) hX dX12_isLetter_16 (by decide) (t := 17) rfl ?_
      subst hF
      exact J_zret (b := false) hX hR hlk dX12_isLetter_17
    · replace hF := it_f hF z
      refine J_iconst (v := 1) hX dX12_isLetter_12 (by decide) (t := 13) rfl ?_
      refine J_goto (tgt := 17) hX dX12_isLetter_13 (by decide) ?_
      subst hF
      exact J_zret (b := true) hX hR hlk dX12_isLetter_17
abbrev rmX12_isDigit : Room := { frames := 0, cells := 0, slots := 0, locals := 0 }
theorem miX12_isDigit : MI yX12_isDigit cX12_isDigit 1 (some .boolean) 1 := ⟨q_926, q_136, by decide +kernel, by decide +kernel, by decide +kernel, by decide +kernel⟩
def FX12_isDigit (p0 : Int32) : Bool :=
  if p0 < 48 then
    false
  else
    if 57 < p0 then
      false
    else
      true
set_option maxHeartbeats 4000000 in
set_option maxRecDepth 100000 in
theorem ctX12_isDigit {G : GG} {l : Launch} {w : Wd} (p0 : Int32)  {rx : Bool} (hF : FX12_isDigit p0 = rx) : CT G l yX12_isDigit cX12_isDigit 1 (some .boolean) rmX12_isDigit 0 0 [.int p0] w (some (.int (bI rx))) w := by
  refine CT.of miX12_isDigit [(0, .int p0)] rfl (Nat.le_of_ble_eq_true rfl) ?_
  intro p e s m args below meth c hX hR hlk
  have hX : FX G RX12 cX12_isDigit 1 p s m args c := hX
  unfold FX12_isDigit at hF
  refine J_iload_n hX dX12_isDigit_0 0 rfl (t := 1) rfl ?_
  refine J_bipush (v := 48) hX dX12_isDigit_1 (by decide) (t := 3) rfl ?_
  refine J_icmp_lt (tgt := 16) hX dX12_isDigit_3 (by decide) (t := 6) rfl (fun z => ?_) (fun z => ?_)
  · replace hF := it_t hF z
    refine J_iconst (v := 0) hX dX12_isDigit_16 (by decide) (t := 17) rfl ?_
    subst hF
    exact J_zret (b := false) hX hR hlk dX12_isDigit_17
  · replace hF := it_f hF z
    refine J_iload_n hX dX12_isDigit_6 0 rfl (t := 7) rfl ?_
    refine J_bipush (v := 57) hX dX12_isDigit_7 (by decide) (t := 9) rfl ?_
    refine J_icmp_gt (tgt := 16) hX dX12_isDigit_9 (by decide) (t := 12) rfl (fun z => ?_) (fun z => ?_)
    · replace hF := it_t hF z
      refine J_iconst (v := 0) hX dX12_isDigit_16 (by decide) (t := 17) rfl ?_
      subst hF
      exact J_zret (b := false) hX hR hlk dX12_isDigit_17
    · replace hF := it_f hF z
      refine J_iconst (v := 1) hX dX12_isDigit_12 (by decide) (t := 13) rfl ?_
      refine J_goto (tgt := 17) hX dX12_isDigit_13 (by decide) ?_
      subst hF
      exact J_zret (b := true) hX hR hlk dX12_isDigit_17
abbrev rmX12_letterOf : Room := { frames := 1, cells := 0, slots := 0, locals := 22 }
theorem miX12_letterOf : MI yX12_letterOf cX12_letterOf 4 (some .int) 2 := ⟨q_954, q_136, by decide +kernel, by decide +kernel, by decide +kernel, by decide +kernel⟩
def FX12_letterOf (p0 : Int64) (p2 : Int32) : Int32 :=
  bnd (FX12_isWithin p2 0 7) fun x2 =>
  if x2 = true then
    if (((p0.toUInt64 >>> ((8 * (7 - p2)).toInt64.toUInt64 &&& Int64.toUInt64 63)).toInt64).toInt32) &&& 255 = 0 then
      (-1)
    else
      (((p0.toUInt64 >>> ((8 * (7 - p2)).toInt64.toUInt64 &&& Int64.toUInt64 63)).toInt64).toInt32) &&& 255
  else
    (-1)
set_option maxHeartbeats 4000000 in
set_option maxRecDepth 100000 in
theorem ctX12_letterOf {G : GG} {l : Launch} {w : Wd} (p0 : Int64) (p2 : Int32)  {rx : Int32} (hF : FX12_letterOf p0 p2 = rx) : CT G l yX12_letterOf cX12_letterOf 4 (some .int) rmX12_letterOf 0 0 [.long p0, .int p2] w (some (.int rx)) w := by
  refine CT.of miX12_letterOf [(0, .long p0), (2, .int p2)] rfl (Nat.le_of_ble_eq_true rfl) ?_
  intro p e s m args below meth c hX hR hlk
  have hX : FX G RX12 cX12_letterOf 4 p s m args c := hX
  unfold FX12_letterOf at hF
  refine J_iload_n hX dX12_letterOf_0 1 rfl (t := 1) rfl ?_
  refine J_iconst (v := 0) hX dX12_letterOf_1 (by decide) (t := 2) rfl ?_
  refine J_bipush (v := 7) hX dX12_letterOf_2 (by decide) (t := 4) rfl ?_
  obtain ⟨x2, h1, hF⟩ := bnd_e hF
  have k3 := (ctX12_isWithin (l := l) (G := G) (w := w) p2 0 7 h1)
  refine J_callS hX [.int p2, .int 0, .int 7] [] k3 miX12_isWithin q_655 q_873 ⟨rfl, rfl, Nat.le_of_ble_eq_true rfl, Nat.le_of_ble_eq_true rfl⟩ rfl rfl (Nat.le_of_ble_eq_true rfl) ⟨Nat.le_of_ble_eq_true rfl, Nat.le_of_ble_eq_true rfl⟩ dX12_letterOf_4 (t := 7) rfl ?_
  refine J_ifZ_ne (tgt := 12) hX dX12_letterOf_7 (by decide) (t := 10) rfl (fun z => ?_) (fun z => ?_)
  · replace hF := it_t hF z
    refine J_lload_n hX dX12_letterOf_12 0 rfl (t := 13) rfl ?_
    refine J_bipush (v := 8) hX dX12_letterOf_13 (by decide) (t := 15) rfl ?_
    refine J_bipush (v := 7) hX dX12_letterOf_15 (by decide) (t := 17) rfl ?_
    refine J_iload_n hX dX12_letterOf_17 1 rfl (t := 18) rfl ?_
    refine J_isub hX dX12_letterOf_18 (t := 19) rfl ?_
    refine J_imul hX dX12_letterOf_19 (t := 20) rfl ?_
    refine J_lushr hX dX12_letterOf_20 (t := 21) rfl ?_
    refine J_l2i hX dX12_letterOf_21 (t := 22) rfl ?_
    refine J_sipush (v := 255) hX dX12_letterOf_22 (by decide) (t := 25) rfl ?_
    refine J_iand hX dX12_letterOf_25 (t := 26) rfl ?_
    refine J_istore_n (lc2 := [(3, .int ((((p0.toUInt64 >>> ((8 * (7 - p2)).toInt64.toUInt64 &&& Int64.toUInt64 63)).toInt64).toInt32) &&& 255)), (0, .long p0), (2, .int p2)]) hX dX12_letterOf_26 rfl (Nat.le_of_ble_eq_true rfl) rfl (t := 27) rfl ?_
    refine J_iload_n hX dX12_letterOf_27 0 rfl (t := 28) rfl ?_
    refine J_if_ne (tgt := 35) hX dX12_letterOf_28 (by decide) (t := 31) rfl (fun z => ?_) (fun z => ?_)
    · replace hF := it_f hF z
      refine J_iload_n hX dX12_letterOf_35 0 rfl (t := 36) rfl ?_
      subst hF
      exact J_iret hX hR hlk dX12_letterOf_36
    · replace hF := it_t hF z
      refine J_iconst (v := (-1)) hX dX12_letterOf_31 (by decide) (t := 32) rfl ?_
      refine J_goto (tgt := 36) hX dX12_letterOf_32 (by decide) ?_
      subst hF
      exact J_iret hX hR hlk dX12_letterOf_36
  · replace hF := ib_f hF z
    refine J_iconst (v := (-1)) hX dX12_letterOf_10 (by decide) (t := 11) rfl ?_
    subst hF
    exact J_iret hX hR hlk dX12_letterOf_11
