abbrev rmX2_hasAnger : Room := { frames := 0, cells := 0, slots := 0, locals := 0 }
theorem miX2_hasAnger : MI yX2_hasAnger cX2_hasAnger 1 (some .boolean) 0 := ⟨q_706, q_140, by decide +kernel, by decide +kernel, by decide +kernel, by decide +kernel⟩
theorem mvX2_hasAnger : MV yX2_hasAnger := ⟨q_704, q_705⟩
def FX2_hasAnger (M : MM) (j0 : Nat) : Bool :=
  if M.1 j0 4 < 3 then
    false
  else
    true
set_option maxHeartbeats 4000000 in
set_option maxRecDepth 100000 in
theorem ctX2_hasAnger {G : GG} {l : Launch} (w : Wd) (r : Nat) (hr : 1 ≤ r ∧ r ≤ 9) (M : MM) (j0 : Nat) (hj0 : 12 ≤ j0 ∧ j0 < 20) {rx : Bool} (hF : FX2_hasAnger M j0 = rx) : CT G l yX2_hasAnger cX2_hasAnger 1 (some .boolean) rmX2_hasAnger 0 0 [.ref (adr G r j0)] (sW w r M) (some (.int (bI rx))) (sW w r M) := by
  refine CT.of miX2_hasAnger [(0, .ref (adr G r j0))] rfl (Nat.le_of_ble_eq_true rfl) ?_
  intro p e s m args below meth c hX hR hlk
  have hX : FX G RX2 cX2_hasAnger 1 p s m args c := hX
  unfold FX2_hasAnger at hF
  refine J_aload_n hX dX2_hasAnger_0 0 rfl (t := 1) rfl ?_
  refine JM_get hX cb1 (kCustomer hr hj0) 4 (by decide) q_291 rfl dX2_hasAnger_1 (t := 4) rfl ?_
  refine J_iconst (v := 3) hX dX2_hasAnger_4 (by decide) (t := 5) rfl ?_
  refine J_icmp_lt (tgt := 12) hX dX2_hasAnger_5 (by decide) (t := 8) rfl (fun z => ?_) (fun z => ?_)
  · replace hF := it_t hF z
    refine J_iconst (v := 0) hX dX2_hasAnger_12 (by decide) (t := 13) rfl ?_
    subst hF
    exact J_zret (b := false) hX hR hlk dX2_hasAnger_13
  · replace hF := it_f hF z
    refine J_iconst (v := 1) hX dX2_hasAnger_8 (by decide) (t := 9) rfl ?_
    refine J_goto (tgt := 13) hX dX2_hasAnger_9 (by decide) ?_
    subst hF
    exact J_zret (b := true) hX hR hlk dX2_hasAnger_13
abbrev rmX6_clear : Room := { frames := 0, cells := 0, slots := 0, locals := 0 }
theorem miX6_clear : MI yX6_clear cX6_clear 1 none 0 := ⟨q_907, q_138, by decide +kernel, by decide +kernel, by decide +kernel, by decide +kernel⟩
theorem mvX6_clear : MV yX6_clear := ⟨q_905, q_906⟩
def FX6_clear (M : MM)  : MM :=
  bnd (sI M 0 3 0) fun M1 =>
  bnd (sI M1 0 4 0) fun M3 =>
  bnd (sI M3 0 5 0) fun M5 =>
  bnd (sI M5 0 6 0) fun M7 =>
  bnd (sI M7 0 7 0) fun M9 =>
  bnd (sI M9 0 8 0) fun M11 =>
  bnd (sI M11 0 9 0) fun M13 =>
  bnd (sI M13 0 10 0) fun M15 =>
  bnd (sI M15 0 11 0) fun M17 =>
  bnd (sI M17 0 12 0) fun M19 =>
  M19
set_option maxHeartbeats 4000000 in
set_option maxRecDepth 100000 in
theorem ctX6_clear {G : GG} {l : Launch} (w : Wd) (r : Nat) (hr : 1 ≤ r ∧ r ≤ 9) (M : MM)   {rw : MM} (hF : FX6_clear M  = rw) : CT G l yX6_clear cX6_clear 1 none rmX6_clear 0 0 [.ref (adr G r 0)] (sW w r M) (none) (sW w r rw) := by
  refine CT.of miX6_clear [(0, .ref (adr G r 0))] rfl (Nat.le_of_ble_eq_true rfl) ?_
  intro p e s m args below meth c hX hR hlk
  have hX : FX G RX6 cX6_clear 1 p s m args c := hX
  unfold FX6_clear at hF
  refine J_aload_n hX dX6_clear_0 0 rfl (t := 1) rfl ?_
  refine J_iconst (v := 0) hX dX6_clear_1 (by decide) (t := 2) rfl ?_
  obtain ⟨M1, e2, hF⟩ := bnd_e hF
  refine JM_puti hX cb4 (kMarket hr) 3 (by decide) q_377 rfl rfl e2 (fun _ _ => Nat.le_of_ble_eq_true rfl) (fun _ _ => rfl) dX6_clear_2 (t := 5) rfl ?_
  refine J_aload_n hX dX6_clear_5 0 rfl (t := 6) rfl ?_
  refine J_iconst (v := 0) hX dX6_clear_6 (by decide) (t := 7) rfl ?_
  obtain ⟨M3, e4, hF⟩ := bnd_e hF
  refine JM_puti hX cb4 (kMarket hr) 4 (by decide) q_380 rfl rfl e4 (fun _ _ => Nat.le_of_ble_eq_true rfl) (fun _ _ => rfl) dX6_clear_7 (t := 10) rfl ?_
  refine J_aload_n hX dX6_clear_10 0 rfl (t := 11) rfl ?_
  refine J_iconst (v := 0) hX dX6_clear_11 (by decide) (t := 12) rfl ?_
  obtain ⟨M5, e6, hF⟩ := bnd_e hF
  refine JM_puti hX cb4 (kMarket hr) 5 (by decide) q_383 rfl rfl e6 (fun _ _ => Nat.le_of_ble_eq_true rfl) (fun _ _ => rfl) dX6_clear_12 (t := 15) rfl ?_
  refine J_aload_n hX dX6_clear_15 0 rfl (t := 16) rfl ?_
  refine J_iconst (v := 0) hX dX6_clear_16 (by decide) (t := 17) rfl ?_
  obtain ⟨M7, e8, hF⟩ := bnd_e hF
  refine JM_puti hX cb4 (kMarket hr) 6 (by decide) q_386 rfl rfl e8 (fun _ _ => Nat.le_of_ble_eq_true rfl) (fun _ _ => rfl) dX6_clear_17 (t := 20) rfl ?_
  refine J_aload_n hX dX6_clear_20 0 rfl (t := 21) rfl ?_
  refine J_iconst (v := 0) hX dX6_clear_21 (by decide) (t := 22) rfl ?_
  obtain ⟨M9, e10, hF⟩ := bnd_e hF
  refine JM_puti hX cb4 (kMarket hr) 7 (by decide) q_388 rfl rfl e10 (fun _ _ => Nat.le_of_ble_eq_true rfl) (fun _ _ => rfl) dX6_clear_22 (t := 25) rfl ?_
  refine J_aload_n hX dX6_clear_25 0 rfl (t := 26) rfl ?_
  refine J_iconst (v := 0) hX dX6_clear_26 (by decide) (t := 27) rfl ?_
  obtain ⟨M11, e12, hF⟩ := bnd_e hF
  refine JM_puti hX cb4 (kMarket hr) 8 (by decide) q_390 rfl rfl e12 (fun _ _ => Nat.le_of_ble_eq_true rfl) (fun _ _ => rfl) dX6_clear_27 (t := 30) rfl ?_
  refine J_aload_n hX dX6_clear_30 0 rfl (t := 31) rfl ?_
  refine J_iconst (v := 0) hX dX6_clear_31 (by decide) (t := 32) rfl ?_
  obtain ⟨M13, e14, hF⟩ := bnd_e hF
  refine JM_puti hX cb4 (kMarket hr) 9 (by decide) q_392 rfl rfl e14 (fun _ _ => Nat.le_of_ble_eq_true rfl) (fun _ _ => rfl) dX6_clear_32 (t := 35) rfl ?_
  refine J_aload_n hX dX6_clear_35 0 rfl (t := 36) rfl ?_
  refine J_iconst (v := 0) hX dX6_clear_36 (by decide) (t := 37) rfl ?_
  obtain ⟨M15, e16, hF⟩ := bnd_e hF
  refine JM_puti hX cb4 (kMarket hr) 10 (by decide) q_394 rfl rfl e16 (fun _ _ => Nat.le_of_ble_eq_true rfl) (fun _ _ => rfl) dX6_clear_37 (t := 40) rfl ?_
  refine J_aload_n hX dX6_clear_40 0 rfl (t := 41) rfl ?_
  refine J_iconst (v := 0) hX dX6_clear_41 (by decide) (t := 42) rfl ?_
  obtain ⟨M17, e18, hF⟩ := bnd_e hF
  refine JM_puti hX cb4 (kMarket hr) 11 (by decide) q_396 rfl rfl e18 (fun _ _ => Nat.le_of_ble_eq_true rfl) (fun _ _ => rfl) dX6_clear_42 (t := 45) rfl ?_
  refine J_aload_n hX dX6_clear_45 0 rfl (t := 46) rfl ?_
  refine J_iconst (v := 0) hX dX6_clear_46 (by decide) (t := 47) rfl ?_
  obtain ⟨M19, e20, hF⟩ := bnd_e hF
  refine JM_puti hX cb4 (kMarket hr) 12 (by decide) q_398 rfl rfl e20 (fun _ _ => Nat.le_of_ble_eq_true rfl) (fun _ _ => rfl) dX6_clear_47 (t := 50) rfl ?_
  subst hF
  exact J_vret hX hR hlk dX6_clear_50
abbrev rmX12_isWithin : Room := { frames := 0, cells := 0, slots := 0, locals := 0 }
theorem miX12_isWithin : MI yX12_isWithin cX12_isWithin 3 (some .boolean) 3 := ⟨q_656, q_136, by decide +kernel, by decide +kernel, by decide +kernel, by decide +kernel⟩
def FX12_isWithin (p0 : Int32) (p1 : Int32) (p2 : Int32) : Bool :=
  if p0 < p1 then
    false
  else
    if p2 < p0 then
      false
    else
      true
set_option maxHeartbeats 4000000 in
set_option maxRecDepth 100000 in
theorem ctX12_isWithin {G : GG} {l : Launch} {w : Wd} (p0 : Int32) (p1 : Int32) (p2 : Int32)  {rx : Bool} (hF : FX12_isWithin p0 p1 p2 = rx) : CT G l yX12_isWithin cX12_isWithin 3 (some .boolean) rmX12_isWithin 0 0 [.int p0, .int p1, .int p2] w (some (.int (bI rx))) w := by
  refine CT.of miX12_isWithin [(0, .int p0), (1, .int p1), (2, .int p2)] rfl (Nat.le_of_ble_eq_true rfl) ?_
  intro p e s m args below meth c hX hR hlk
  have hX : FX G RX12 cX12_isWithin 3 p s m args c := hX
  unfold FX12_isWithin at hF
  refine J_iload_n hX dX12_isWithin_0 0 rfl (t := 1) rfl ?_
  refine J_iload_n hX dX12_isWithin_1 1 rfl (t := 2) rfl ?_
  refine J_icmp_lt (tgt := 14) hX dX12_isWithin_2 (by decide) (t := 5) rfl (fun z => ?_) (fun z => ?_)
  · replace hF := it_t hF z
    refine J_iconst (v := 0) hX dX12_isWithin_14 (by decide) (t := 15) rfl ?_
    subst hF
    exact J_zret (b := false) hX hR hlk dX12_isWithin_15
  · replace hF := it_f hF z
    refine J_iload_n hX dX12_isWithin_5 0 rfl (t := 6) rfl ?_
    refine J_iload_n hX dX12_isWithin_6 2 rfl (t := 7) rfl ?_
    refine J_icmp_gt (tgt := 14) hX dX12_isWithin_7 (by decide) (t := 10) rfl (fun z => ?_) (fun z => ?_)
    · replace hF := it_t hF z
      refine J_iconst (v := 0) hX dX12_isWithin_14 (by decide) (t := 15) rfl ?_
      subst hF
      exact J_zret (b := false) hX hR hlk dX12_isWithin_15
    · replace hF := it_f hF z
      refine J_iconst (v := 1) hX dX12_isWithin_10 (by decide) (t := 11) rfl ?_
      refine J_goto (tgt := 15) hX dX12_isWithin_11 (by decide) ?_
      subst hF
      exact J_zret (b := true) hX hR hlk dX12_isWithin_15
abbrev rmX6_hasValley : Room := { frames := 1, cells := 0, slots := 0, locals := 22 }
theorem miX6_hasValley : MI yX6_hasValley cX6_hasValley 2 (some .boolean) 1 := ⟨q_1294, q_138, by decide +kernel, by decide +kernel, by decide +kernel, by decide +kernel⟩
theorem mvX6_hasValley : MV yX6_hasValley := ⟨q_1292, q_1293⟩
def FX6_hasValley (M : MM) (p1 : Int32) : Bool :=
  bnd (FX12_isWithin p1 0 ((M.1 0 3) - 1)) fun x2 =>
  x2
set_option maxHeartbeats 4000000 in
set_option maxRecDepth 100000 in
theorem ctX6_hasValley {G : GG} {l : Launch} (w : Wd) (r : Nat) (hr : 1 ≤ r ∧ r ≤ 9) (M : MM) (p1 : Int32)  {rx : Bool} (hF : FX6_hasValley M p1 = rx) : CT G l yX6_hasValley cX6_hasValley 2 (some .boolean) rmX6_hasValley 0 0 [.ref (adr G r 0), .int p1] (sW w r M) (some (.int (bI rx))) (sW w r M) := by
  refine CT.of miX6_hasValley [(0, .ref (adr G r 0)), (1, .int p1)] rfl (Nat.le_of_ble_eq_true rfl) ?_
  intro p e s m args below meth c hX hR hlk
  have hX : FX G RX6 cX6_hasValley 2 p s m args c := hX
  unfold FX6_hasValley at hF
  refine J_iload_n hX dX6_hasValley_0 1 rfl (t := 1) rfl ?_
  refine J_iconst (v := 0) hX dX6_hasValley_1 (by decide) (t := 2) rfl ?_
  refine J_aload_n hX dX6_hasValley_2 0 rfl (t := 3) rfl ?_
  refine JM_get hX cb4 (kMarket hr) 3 (by decide) q_377 rfl dX6_hasValley_3 (t := 6) rfl ?_
  refine J_iconst (v := 1) hX dX6_hasValley_6 (by decide) (t := 7) rfl ?_
  refine J_isub hX dX6_hasValley_7 (t := 8) rfl ?_
  obtain ⟨x2, h1, hF⟩ := bnd_e hF
  have k3 := (ctX12_isWithin (l := l) (G := G) (w := sW w r M) p1 0 ((M.1 0 3) - 1) h1)
  refine J_callSN hX [.int p1, .int 0, .int ((M.1 0 3) - 1)] [] [.int (bI x2)] k3 miX12_isWithin q_655 (by simp [nestL]) ⟨rfl, rfl, Nat.le_of_ble_eq_true rfl, Nat.le_of_ble_eq_true rfl⟩ rfl rfl (Nat.le_of_ble_eq_true rfl) ⟨Nat.le_of_ble_eq_true rfl, Nat.le_of_ble_eq_true rfl⟩ dX6_hasValley_8 (t := 11) rfl rfl ?_
  subst hF
  exact J_zret (b := x2) hX hR hlk dX6_hasValley_11
abbrev rmX6_hasCustomer : Room := { frames := 1, cells := 0, slots := 0, locals := 22 }
theorem miX6_hasCustomer : MI yX6_hasCustomer cX6_hasCustomer 2 (some .boolean) 1 := ⟨q_1290, q_138, by decide +kernel, by decide +kernel, by decide +kernel, by decide +kernel⟩
theorem mvX6_hasCustomer : MV yX6_hasCustomer := ⟨q_1288, q_1289⟩
def FX6_hasCustomer (M : MM) (p1 : Int32) : Bool :=
  bnd (FX12_isWithin p1 0 ((M.1 0 4) - 1)) fun x2 =>
  x2
set_option maxHeartbeats 4000000 in
set_option maxRecDepth 100000 in
theorem ctX6_hasCustomer {G : GG} {l : Launch} (w : Wd) (r : Nat) (hr : 1 ≤ r ∧ r ≤ 9) (M : MM) (p1 : Int32)  {rx : Bool} (hF : FX6_hasCustomer M p1 = rx) : CT G l yX6_hasCustomer cX6_hasCustomer 2 (some .boolean) rmX6_hasCustomer 0 0 [.ref (adr G r 0), .int p1] (sW w r M) (some (.int (bI rx))) (sW w r M) := by
  refine CT.of miX6_hasCustomer [(0, .ref (adr G r 0)), (1, .int p1)] rfl (Nat.le_of_ble_eq_true rfl) ?_
  intro p e s m args below meth c hX hR hlk
  have hX : FX G RX6 cX6_hasCustomer 2 p s m args c := hX
  unfold FX6_hasCustomer at hF
  refine J_iload_n hX dX6_hasCustomer_0 1 rfl (t := 1) rfl ?_
  refine J_iconst (v := 0) hX dX6_hasCustomer_1 (by decide) (t := 2) rfl ?_
  refine J_aload_n hX dX6_hasCustomer_2 0 rfl (t := 3) rfl ?_
  refine JM_get hX cb4 (kMarket hr) 4 (by decide) q_380 rfl dX6_hasCustomer_3 (t := 6) rfl ?_
  refine J_iconst (v := 1) hX dX6_hasCustomer_6 (by decide) (t := 7) rfl ?_
  refine J_isub hX dX6_hasCustomer_7 (t := 8) rfl ?_
  obtain ⟨x2, h1, hF⟩ := bnd_e hF
  have k3 := (ctX12_isWithin (l := l) (G := G) (w := sW w r M) p1 0 ((M.1 0 4) - 1) h1)
  refine J_callSN hX [.int p1, .int 0, .int ((M.1 0 4) - 1)] [] [.int (bI x2)] k3 miX12_isWithin q_655 (by simp [nestL]) ⟨rfl, rfl, Nat.le_of_ble_eq_true rfl, Nat.le_of_ble_eq_true rfl⟩ rfl rfl (Nat.le_of_ble_eq_true rfl) ⟨Nat.le_of_ble_eq_true rfl, Nat.le_of_ble_eq_true rfl⟩ dX6_hasCustomer_8 (t := 11) rfl rfl ?_
  subst hF
  exact J_zret (b := x2) hX hR hlk dX6_hasCustomer_11
abbrev rmX6_hasShout : Room := { frames := 1, cells := 0, slots := 0, locals := 22 }
theorem miX6_hasShout : MI yX6_hasShout cX6_hasShout 2 (some .boolean) 1 := ⟨q_1129, q_138, by decide +kernel, by decide +kernel, by decide +kernel, by decide +kernel⟩
theorem mvX6_hasShout : MV yX6_hasShout := ⟨q_1127, q_1128⟩
def FX6_hasShout (M : MM) (p1 : Int32) : Bool :=
  bnd (FX12_isWithin p1 0 ((M.1 0 5) - 1)) fun x2 =>
  x2
set_option maxHeartbeats 4000000 in
set_option maxRecDepth 100000 in
theorem ctX6_hasShout {G : GG} {l : Launch} (w : Wd) (r : Nat) (hr : 1 ≤ r ∧ r ≤ 9) (M : MM) (p1 : Int32)  {rx : Bool} (hF : FX6_hasShout M p1 = rx) : CT G l yX6_hasShout cX6_hasShout 2 (some .boolean) rmX6_hasShout 0 0 [.ref (adr G r 0), .int p1] (sW w r M) (some (.int (bI rx))) (sW w r M) := by
  refine CT.of miX6_hasShout [(0, .ref (adr G r 0)), (1, .int p1)] rfl (Nat.le_of_ble_eq_true rfl) ?_
  intro p e s m args below meth c hX hR hlk
  have hX : FX G RX6 cX6_hasShout 2 p s m args c := hX
  unfold FX6_hasShout at hF
  refine J_iload_n hX dX6_hasShout_0 1 rfl (t := 1) rfl ?_
  refine J_iconst (v := 0) hX dX6_hasShout_1 (by decide) (t := 2) rfl ?_
  refine J_aload_n hX dX6_hasShout_2 0 rfl (t := 3) rfl ?_
  refine JM_get hX cb4 (kMarket hr) 5 (by decide) q_383 rfl dX6_hasShout_3 (t := 6) rfl ?_
  refine J_iconst (v := 1) hX dX6_hasShout_6 (by decide) (t := 7) rfl ?_
  refine J_isub hX dX6_hasShout_7 (t := 8) rfl ?_
  obtain ⟨x2, h1, hF⟩ := bnd_e hF
  have k3 := (ctX12_isWithin (l := l) (G := G) (w := sW w r M) p1 0 ((M.1 0 5) - 1) h1)
  refine J_callSN hX [.int p1, .int 0, .int ((M.1 0 5) - 1)] [] [.int (bI x2)] k3 miX12_isWithin q_655 (by simp [nestL]) ⟨rfl, rfl, Nat.le_of_ble_eq_true rfl, Nat.le_of_ble_eq_true rfl⟩ rfl rfl (Nat.le_of_ble_eq_true rfl) ⟨Nat.le_of_ble_eq_true rfl, Nat.le_of_ble_eq_true rfl⟩ dX6_hasShout_8 (t := 11) rfl rfl ?_
  subst hF
  exact J_zret (b := x2) hX hR hlk dX6_hasShout_11
abbrev rmX8_isOpen : Room := { frames := 0, cells := 0, slots := 0, locals := 0 }
theorem miX8_isOpen : MI yX8_isOpen cX8_isOpen 1 (some .boolean) 0 := ⟨q_641, q_141, by decide +kernel, by decide +kernel, by decide +kernel, by decide +kernel⟩
theorem mvX8_isOpen : MV yX8_isOpen := ⟨q_639, q_640⟩
def FX8_isOpen (M : MM) (j0 : Nat) : Bool :=
  if M.1 j0 8 = 0 then
    true
  else
    false
set_option maxHeartbeats 4000000 in
set_option maxRecDepth 100000 in
theorem ctX8_isOpen {G : GG} {l : Launch} (w : Wd) (r : Nat) (hr : 1 ≤ r ∧ r ≤ 9) (M : MM) (j0 : Nat) (hj0 : 20 ≤ j0 ∧ j0 < 50) {rx : Bool} (hF : FX8_isOpen M j0 = rx) : CT G l yX8_isOpen cX8_isOpen 1 (some .boolean) rmX8_isOpen 0 0 [.ref (adr G r j0)] (sW w r M) (some (.int (bI rx))) (sW w r M) := by
  refine CT.of miX8_isOpen [(0, .ref (adr G r j0))] rfl (Nat.le_of_ble_eq_true rfl) ?_
  intro p e s m args below meth c hX hR hlk
  have hX : FX G RX8 cX8_isOpen 1 p s m args c := hX
  unfold FX8_isOpen at hF
  refine J_aload_n hX dX8_isOpen_0 0 rfl (t := 1) rfl ?_
  refine JM_get hX cb6 (kShout hr hj0) 8 (by decide) q_340 rfl dX8_isOpen_1 (t := 4) rfl ?_
  refine J_if_ne (tgt := 11) hX dX8_isOpen_4 (by decide) (t := 7) rfl (fun z => ?_) (fun z => ?_)
  · replace hF := it_f hF z
    refine J_iconst (v := 0) hX dX8_isOpen_11 (by decide) (t := 12) rfl ?_
    subst hF
    exact J_zret (b := false) hX hR hlk dX8_isOpen_12
  · replace hF := it_t hF z
    refine J_iconst (v := 1) hX dX8_isOpen_7 (by decide) (t := 8) rfl ?_
    refine J_goto (tgt := 12) hX dX8_isOpen_8 (by decide) ?_
    subst hF
    exact J_zret (b := true) hX hR hlk dX8_isOpen_12
abbrev rmX6_openInAll : Room := { frames := 1, cells := 0, slots := 0, locals := 20 }
theorem miX6_openInAll : MI yX6_openInAll cX6_openInAll 3 (some .int) 0 := ⟨q_637, q_138, by decide +kernel, by decide +kernel, by decide +kernel, by decide +kernel⟩
theorem mvX6_openInAll : MV yX6_openInAll := ⟨q_635, q_636⟩
def FX6_openInAll_L4 (n : Nat) : Nat → MM → Int32 → Int32 → Option (Int32)
  | 0 => fun _ _ _ => none
  | k + 1 => fun M l1 l2 =>
    if M.1 0 5 ≤ l2 then
      some l1
    else
      gd (inb l2 30) <|
      bnd (FX8_isOpen M (20 + l2.toNatClampNeg)) fun x3 =>
      if x3 = true then
        FX6_openInAll_L4 n k M (l1 + 1) (l2 + 1)
      else
        FX6_openInAll_L4 n k M (l1 + 0) (l2 + 1)
set_option maxHeartbeats 4000000 in
set_option maxRecDepth 100000 in
theorem LX6_openInAll_4 {G : GG} {l : Launch} (w : Wd) (r : Nat) (hr : 1 ≤ r ∧ r ≤ 9) {p : Program} {e : Env} {s : State} {m : MethodId} {args : Array Value} {below : List Frame} {meth : Method} {c : Code} (hX : FX G RX6 cX6_openInAll 3 p s m args c) (hR : meth.sig.returnType = (some .int)) (hlk : meth.locks = false) {rx : Int32} (n : Nat) : ∀ (k : Nat) (M : MM) (l1 : Int32) (l2 : Int32) , FX6_openInAll_L4 n k M l1 l2 = some rx → J G p l e rmX6_openInAll s m args below meth c 3 0 0 (MQ below (QV G (some (.int rx)) (sW w r M)) args s 0 0 (gA G)) (GH G (sW w r M)) 4 [(0, .ref (adr G r 0)), (1, .int l1), (2, .int l2)] [] := by
  intro k
  induction k with
  | zero => intro M l1 l2  hF; cases hF
  | succ k ih =>
    intro M l1 l2  hF
    simp only [FX6_openInAll_L4] at hF
    refine J_iload_n hX dX6_openInAll_4 2 rfl (t := 5) rfl ?_
    refine J_aload_n hX dX6_openInAll_5 0 rfl (t := 6) rfl ?_
    refine JM_get hX cb4 (kMarket hr) 5 (by decide) q_383 rfl dX6_openInAll_6 (t := 9) rfl ?_
    refine J_icmp_ge (tgt := 38) hX dX6_openInAll_9 (by decide) (t := 12) rfl (fun z => ?_) (fun z => ?_)
    · replace hF := it_t hF z
      refine J_iload_n hX dX6_openInAll_38 1 rfl (t := 39) rfl ?_
      replace hF := Option.some.inj hF
      subst hF
      exact J_iret hX hR hlk dX6_openInAll_39
    · replace hF := it_f hF z
      refine J_iload_n hX dX6_openInAll_12 1 rfl (t := 13) rfl ?_
      refine J_aload_n hX dX6_openInAll_13 0 rfl (t := 14) rfl ?_
      refine JM_get hX cb4 (kMarket hr) 2 (by decide) q_375 rfl dX6_openInAll_14 (t := 17) rfl ?_
      refine J_iload_n hX dX6_openInAll_17 2 rfl (t := 18) rfl ?_
      obtain ⟨g1, hF⟩ := gd_e hF
      refine J_aald (k := 5) hX (kShouts hr) rfl g1 dX6_openInAll_18 (t := 19) rfl ?_
      obtain ⟨x3, h2, hF⟩ := bnd_e hF
      have k4 := (ctX8_isOpen (G := G) (l := l) w r hr M (20 + l2.toNatClampNeg) ⟨Nat.le_add_right 20 _, Nat.add_lt_add_left (inb_lt g1) 20⟩ h2)
      refine J_callV hX [] [.int l1] [.int (bI x3), .int l1] k4 miX8_isOpen mvX8_isOpen cb6 (kShout hr ⟨Nat.le_add_right 20 _, Nat.add_lt_add_left (inb_lt g1) 20⟩) q_638 ⟨rfl, rfl, Nat.le_of_ble_eq_true rfl, Nat.le_of_ble_eq_true rfl⟩ rfl rfl (Nat.le_of_ble_eq_true rfl) ⟨Nat.le_of_ble_eq_true rfl, Nat.le_of_ble_eq_true rfl⟩ dX6_openInAll_19 (t := 22) rfl rfl ?_
      refine J_ifZ_eq (tgt := 29) hX dX6_openInAll_22 (by decide) (t := 25) rfl (fun z => ?_) (fun z => ?_)
      · replace hF := ib_f hF z
        refine J_iconst (v := 0) hX dX6_openInAll_29 (by decide) (t := 30) rfl ?_
        refine J_iadd hX dX6_openInAll_30 (t := 31) rfl ?_
        refine J_istore_n (lc2 := [(1, .int (l1 + 0)), (0, .ref (adr G r 0)), (2, .int l2)]) hX dX6_openInAll_31 rfl (Nat.le_of_ble_eq_true rfl) rfl (t := 32) rfl ?_
        refine J_iinc (v := l2 + 1) (lc2 := [(2, .int (l2 + 1)), (1, .int (l1 + 0)), (0, .ref (adr G r 0))]) hX dX6_openInAll_32 2 rfl rfl (Nat.le_of_ble_eq_true rfl) rfl (t := 35) rfl ?_
        refine J_goto (tgt := 4) hX dX6_openInAll_35 (by decide) ?_
        refine J_sub (lc2 := [(0, .ref (adr G r 0)), (1, .int (l1 + 0)), (2, .int (l2 + 1))]) [2, 1, 0] rfl ?_
        exact ih M (l1 + 0) (l2 + 1) hF
      · replace hF := it_t hF z
        refine J_iconst (v := 1) hX dX6_openInAll_25 (by decide) (t := 26) rfl ?_
        refine J_goto (tgt := 30) hX dX6_openInAll_26 (by decide) ?_
        refine J_iadd hX dX6_openInAll_30 (t := 31) rfl ?_
        refine J_istore_n (lc2 := [(1, .int (l1 + 1)), (0, .ref (adr G r 0)), (2, .int l2)]) hX dX6_openInAll_31 rfl (Nat.le_of_ble_eq_true rfl) rfl (t := 32) rfl ?_
        refine J_iinc (v := l2 + 1) (lc2 := [(2, .int (l2 + 1)), (1, .int (l1 + 1)), (0, .ref (adr G r 0))]) hX dX6_openInAll_32 2 rfl rfl (Nat.le_of_ble_eq_true rfl) rfl (t := 35) rfl ?_
        refine J_goto (tgt := 4) hX dX6_openInAll_35 (by decide) ?_
        refine J_sub (lc2 := [(0, .ref (adr G r 0)), (1, .int (l1 + 1)), (2, .int (l2 + 1))]) [2, 1, 0] rfl ?_
        exact ih M (l1 + 1) (l2 + 1) hF
def FX6_openInAll (n : Nat) (M : MM)  : Option (Int32) :=
  FX6_openInAll_L4 n n M 0 0
set_option maxHeartbeats 4000000 in
set_option maxRecDepth 100000 in
theorem ctX6_openInAll {G : GG} {l : Launch} (w : Wd) (r : Nat) (hr : 1 ≤ r ∧ r ≤ 9) (M : MM)   (n : Nat) {rx : Int32} (hF : FX6_openInAll n M  = some rx) : CT G l yX6_openInAll cX6_openInAll 3 (some .int) rmX6_openInAll 0 0 [.ref (adr G r 0)] (sW w r M) (some (.int rx)) (sW w r M) := by
  refine CT.of miX6_openInAll [(0, .ref (adr G r 0))] rfl (Nat.le_of_ble_eq_true rfl) ?_
  intro p e s m args below meth c hX hR hlk
  have hX : FX G RX6 cX6_openInAll 3 p s m args c := hX
  unfold FX6_openInAll at hF
  refine J_iconst (v := 0) hX dX6_openInAll_0 (by decide) (t := 1) rfl ?_
  refine J_istore_n (lc2 := [(1, .int 0), (0, .ref (adr G r 0))]) hX dX6_openInAll_1 rfl (Nat.le_of_ble_eq_true rfl) rfl (t := 2) rfl ?_
  refine J_iconst (v := 0) hX dX6_openInAll_2 (by decide) (t := 3) rfl ?_
  refine J_istore_n (lc2 := [(2, .int 0), (1, .int 0), (0, .ref (adr G r 0))]) hX dX6_openInAll_3 rfl (Nat.le_of_ble_eq_true rfl) rfl (t := 4) rfl ?_
  refine J_sub (lc2 := [(0, .ref (adr G r 0)), (1, .int 0), (2, .int 0)]) [2, 1, 0] rfl ?_
  exact LX6_openInAll_4 w r hr hX hR hlk n n M 0 0 hF
def FX6_ratingsInAll_L4 (n : Nat) : Nat → MM → Int32 → Int32 → Option (Int32)
  | 0 => fun _ _ _ => none
  | k + 1 => fun M l1 l2 =>
    if M.1 0 3 ≤ l2 then
      some l1
    else
      gd (inb l2 8) <|
      FX6_ratingsInAll_L4 n k M (l1 + (M.1 (4 + l2.toNatClampNeg) 5)) (l2 + 1)
def FX6_ratingsInAll (n : Nat) (M : MM)  : Option (Int32) :=
  FX6_ratingsInAll_L4 n n M 0 0
def FX6_angerMask_L4 (n : Nat) : Nat → MM → Int32 → Int32 → Option (Int32)
  | 0 => fun _ _ _ => none
  | k + 1 => fun M l1 l2 =>
    if M.1 0 4 ≤ l2 then
      some l1
    else
      gd (inb l2 8) <|
      bnd (FX2_hasAnger M (12 + l2.toNatClampNeg)) fun x3 =>
      if x3 = true then
        FX6_angerMask_L4 n k M (l1 ||| (1 <<< (l2 &&& 31))) (l2 + 1)
      else
        FX6_angerMask_L4 n k M (l1 ||| 0) (l2 + 1)
def FX6_angerMask (n : Nat) (M : MM)  : Option (Int32) :=
  FX6_angerMask_L4 n n M 0 0
abbrev rmX8_cost : Room := { frames := 0, cells := 0, slots := 0, locals := 0 }
theorem miX8_cost : MI yX8_cost cX8_cost 1 (some .int) 0 := ⟨q_745, q_141, by decide +kernel, by decide +kernel, by decide +kernel, by decide +kernel⟩
theorem mvX8_cost : MV yX8_cost := ⟨q_743, q_744⟩
def FX8_cost (M : MM) (j0 : Nat) : Int32 :=
  (M.1 j0 4) * (M.1 j0 3)
set_option maxHeartbeats 4000000 in
set_option maxRecDepth 100000 in
theorem ctX8_cost {G : GG} {l : Launch} (w : Wd) (r : Nat) (hr : 1 ≤ r ∧ r ≤ 9) (M : MM) (j0 : Nat) (hj0 : 20 ≤ j0 ∧ j0 < 50) {rx : Int32} (hF : FX8_cost M j0 = rx) : CT G l yX8_cost cX8_cost 1 (some .int) rmX8_cost 0 0 [.ref (adr G r j0)] (sW w r M) (some (.int rx)) (sW w r M) := by
  refine CT.of miX8_cost [(0, .ref (adr G r j0))] rfl (Nat.le_of_ble_eq_true rfl) ?_
  intro p e s m args below meth c hX hR hlk
  have hX : FX G RX8 cX8_cost 1 p s m args c := hX
  unfold FX8_cost at hF
  refine J_aload_n hX dX8_cost_0 0 rfl (t := 1) rfl ?_
  refine JM_get hX cb6 (kShout hr hj0) 4 (by decide) q_331 rfl dX8_cost_1 (t := 4) rfl ?_
  refine J_aload_n hX dX8_cost_4 0 rfl (t := 5) rfl ?_
  refine JM_get hX cb6 (kShout hr hj0) 3 (by decide) q_328 rfl dX8_cost_5 (t := 8) rfl ?_
  refine J_imul hX dX8_cost_8 (t := 9) rfl ?_
  subst hF
  exact J_iret hX hR hlk dX8_cost_9
abbrev rmX6_brokenInvariants : Room := { frames := 1, cells := 0, slots := 0, locals := 21 }
theorem miX6_brokenInvariants : MI yX6_brokenInvariants cX6_brokenInvariants 6 (some .int) 0 := ⟨q_741, q_138, by decide +kernel, by decide +kernel, by decide +kernel, by decide +kernel⟩
theorem mvX6_brokenInvariants : MV yX6_brokenInvariants := ⟨q_739, q_740⟩
def FX6_brokenInvariants_L74 (n : Nat) : Nat → MM → Int32 → Int32 → Int32 → Int32 → Int32 → Option (Int32)
  | 0 => fun _ _ _ _ _ _ => none
  | k + 1 => fun M l1 l2 l3 l4 l5 =>
    if M.1 0 4 ≤ l5 then
      some (((if 0 ≤ ((l1 - ((M.1 0 8) + (M.1 0 10))) - (M.1 0 9)) then ((l1 - ((M.1 0 8) + (M.1 0 10))) - (M.1 0 9)) else 0 - ((l1 - ((M.1 0 8) + (M.1 0 10))) - (M.1 0 9))) + (if 0 ≤ ((l3 - l4) - ((M.1 0 8) + (M.1 0 10))) then ((l3 - l4) - ((M.1 0 8) + (M.1 0 10))) else 0 - ((l3 - l4) - ((M.1 0 8) + (M.1 0 10))))) + l2)
    else
      gd (inb l5 8) <|
      gd (inb l5 8) <|
      FX6_brokenInvariants_L74 n k M l1 l2 (l3 + (M.1 (12 + l5.toNatClampNeg) 2)) (l4 + (M.1 (12 + l5.toNatClampNeg) 3)) (l5 + 1)
set_option maxHeartbeats 4000000 in
set_option maxRecDepth 100000 in
theorem LX6_brokenInvariants_74 {G : GG} {l : Launch} (w : Wd) (r : Nat) (hr : 1 ≤ r ∧ r ≤ 9) {p : Program} {e : Env} {s : State} {m : MethodId} {args : Array Value} {below : List Frame} {meth : Method} {c : Code} (hX : FX G RX6 cX6_brokenInvariants 6 p s m args c) (hR : meth.sig.returnType = (some .int)) (hlk : meth.locks = false) {rx : Int32} (n : Nat) : ∀ (k : Nat) (M : MM) (l1 : Int32) (l2 : Int32) (l3 : Int32) (l4 : Int32) (l5 : Int32) , FX6_brokenInvariants_L74 n k M l1 l2 l3 l4 l5 = some rx → J G p l e rmX6_brokenInvariants s m args below meth c 6 0 0 (MQ below (QV G (some (.int rx)) (sW w r M)) args s 0 0 (gA G)) (GH G (sW w r M)) 74 [(0, .ref (adr G r 0)), (1, .int l1), (2, .int l2), (3, .int l3), (4, .int l4), (5, .int l5)] [] := by
  intro k
  induction k with
  | zero => intro M l1 l2 l3 l4 l5  hF; cases hF
  | succ k ih =>
    intro M l1 l2 l3 l4 l5  hF
    simp only [FX6_brokenInvariants_L74] at hF
    refine J_iload hX dX6_brokenInvariants_74 5 rfl (t := 76) rfl ?_
    refine J_aload_n hX dX6_brokenInvariants_76 0 rfl (t := 77) rfl ?_
    refine JM_get hX cb4 (kMarket hr) 4 (by decide) q_380 rfl dX6_brokenInvariants_77 (t := 80) rfl ?_
    refine J_icmp_ge (tgt := 117) hX dX6_brokenInvariants_80 (by decide) (t := 83) rfl (fun z => ?_) (fun z => ?_)
    · replace hF := it_t hF z
      refine J_aload_n hX dX6_brokenInvariants_117 0 rfl (t := 118) rfl ?_
      refine JM_get hX cb4 (kMarket hr) 8 (by decide) q_390 rfl dX6_brokenInvariants_118 (t := 121) rfl ?_
      refine J_aload_n hX dX6_brokenInvariants_121 0 rfl (t := 122) rfl ?_
      refine JM_get hX cb4 (kMarket hr) 10 (by decide) q_394 rfl dX6_brokenInvariants_122 (t := 125) rfl ?_
      refine J_iadd hX dX6_brokenInvariants_125 (t := 126) rfl ?_
      refine J_istore (lc2 := [(5, .int ((M.1 0 8) + (M.1 0 10))), (0, .ref (adr G r 0)), (1, .int l1), (2, .int l2), (3, .int l3), (4, .int l4)]) hX dX6_brokenInvariants_126 (Nat.le_of_ble_eq_true rfl) rfl (t := 128) rfl ?_
      refine J_iload_n hX dX6_brokenInvariants_128 2 rfl (t := 129) rfl ?_
      refine J_iload hX dX6_brokenInvariants_129 0 rfl (t := 131) rfl ?_
      refine J_isub hX dX6_brokenInvariants_131 (t := 132) rfl ?_
      refine J_aload_n hX dX6_brokenInvariants_132 1 rfl (t := 133) rfl ?_
      refine JM_get hX cb4 (kMarket hr) 9 (by decide) q_392 rfl dX6_brokenInvariants_133 (t := 136) rfl ?_
      refine J_isub hX dX6_brokenInvariants_136 (t := 137) rfl ?_
      refine J_abs hX ⟨q_746, q_747, q_162, q_748⟩ ⟨Nat.le_of_ble_eq_true rfl, Nat.le_of_ble_eq_true rfl, Nat.le_of_ble_eq_true rfl, Nat.le_of_ble_eq_true rfl⟩ dX6_brokenInvariants_137 (t := 140) rfl ?_
      refine J_iload_n hX dX6_brokenInvariants_140 4 rfl (t := 141) rfl ?_
      refine J_iload hX dX6_brokenInvariants_141 5 rfl (t := 143) rfl ?_
      refine J_isub hX dX6_brokenInvariants_143 (t := 144) rfl ?_
      refine J_iload hX dX6_brokenInvariants_144 0 rfl (t := 146) rfl ?_
      refine J_isub hX dX6_brokenInvariants_146 (t := 147) rfl ?_
      refine J_abs hX ⟨q_746, q_747, q_162, q_748⟩ ⟨Nat.le_of_ble_eq_true rfl, Nat.le_of_ble_eq_true rfl, Nat.le_of_ble_eq_true rfl, Nat.le_of_ble_eq_true rfl⟩ dX6_brokenInvariants_147 (t := 150) rfl ?_
      refine J_iadd hX dX6_brokenInvariants_150 (t := 151) rfl ?_
      refine J_iload_n hX dX6_brokenInvariants_151 3 rfl (t := 152) rfl ?_
      refine J_iadd hX dX6_brokenInvariants_152 (t := 153) rfl ?_
      replace hF := Option.some.inj hF
      subst hF
      exact J_iret hX hR hlk dX6_brokenInvariants_153
    · replace hF := it_f hF z
      refine J_iload_n hX dX6_brokenInvariants_83 3 rfl (t := 84) rfl ?_
      refine J_aload_n hX dX6_brokenInvariants_84 0 rfl (t := 85) rfl ?_
      refine JM_get hX cb4 (kMarket hr) 1 (by decide) q_373 rfl dX6_brokenInvariants_85 (t := 88) rfl ?_
      refine J_iload hX dX6_brokenInvariants_88 5 rfl (t := 90) rfl ?_
      obtain ⟨g1, hF⟩ := gd_e hF
      refine J_aald (k := 4) hX (kCustomers hr) rfl g1 dX6_brokenInvariants_90 (t := 91) rfl ?_
      refine JM_get hX cb1 (kCustomer hr ⟨Nat.le_add_right 12 _, Nat.add_lt_add_left (inb_lt g1) 12⟩) 2 (by decide) q_287 rfl dX6_brokenInvariants_91 (t := 94) rfl ?_
      refine J_iadd hX dX6_brokenInvariants_94 (t := 95) rfl ?_
      refine J_istore_n (lc2 := [(3, .int (l3 + (M.1 (12 + l5.toNatClampNeg) 2))), (0, .ref (adr G r 0)), (1, .int l1), (2, .int l2), (4, .int l4), (5, .int l5)]) hX dX6_brokenInvariants_95 rfl (Nat.le_of_ble_eq_true rfl) rfl (t := 96) rfl ?_
      refine J_iload hX dX6_brokenInvariants_96 4 rfl (t := 98) rfl ?_
      refine J_aload_n hX dX6_brokenInvariants_98 1 rfl (t := 99) rfl ?_
      refine JM_get hX cb4 (kMarket hr) 1 (by decide) q_373 rfl dX6_brokenInvariants_99 (t := 102) rfl ?_
      refine J_iload hX dX6_brokenInvariants_102 5 rfl (t := 104) rfl ?_
      obtain ⟨g2, hF⟩ := gd_e hF
      refine J_aald (k := 4) hX (kCustomers hr) rfl g2 dX6_brokenInvariants_104 (t := 105) rfl ?_
      refine JM_get hX cb1 (kCustomer hr ⟨Nat.le_add_right 12 _, Nat.add_lt_add_left (inb_lt g2) 12⟩) 3 (by decide) q_289 rfl dX6_brokenInvariants_105 (t := 108) rfl ?_
      refine J_iadd hX dX6_brokenInvariants_108 (t := 109) rfl ?_
      refine J_istore (lc2 := [(4, .int (l4 + (M.1 (12 + l5.toNatClampNeg) 3))), (3, .int (l3 + (M.1 (12 + l5.toNatClampNeg) 2))), (0, .ref (adr G r 0)), (1, .int l1), (2, .int l2), (5, .int l5)]) hX dX6_brokenInvariants_109 (Nat.le_of_ble_eq_true rfl) rfl (t := 111) rfl ?_
      refine J_iinc (v := l5 + 1) (lc2 := [(5, .int (l5 + 1)), (4, .int (l4 + (M.1 (12 + l5.toNatClampNeg) 3))), (3, .int (l3 + (M.1 (12 + l5.toNatClampNeg) 2))), (0, .ref (adr G r 0)), (1, .int l1), (2, .int l2)]) hX dX6_brokenInvariants_111 5 rfl rfl (Nat.le_of_ble_eq_true rfl) rfl (t := 114) rfl ?_
      refine J_goto (tgt := 74) hX dX6_brokenInvariants_114 (by decide) ?_
      refine J_sub (lc2 := [(0, .ref (adr G r 0)), (1, .int l1), (2, .int l2), (3, .int (l3 + (M.1 (12 + l5.toNatClampNeg) 2))), (4, .int (l4 + (M.1 (12 + l5.toNatClampNeg) 3))), (5, .int (l5 + 1))]) [3, 4, 5, 2, 1, 0] rfl ?_
      exact ih M l1 l2 (l3 + (M.1 (12 + l5.toNatClampNeg) 2)) (l4 + (M.1 (12 + l5.toNatClampNeg) 3)) (l5 + 1) hF
def FX6_brokenInvariants_L6 (n : Nat) : Nat → MM → Int32 → Int32 → Int32 → Option (Int32)
  | 0 => fun _ _ _ _ => none
  | k + 1 => fun M l1 l2 l3 =>
    if M.1 0 5 ≤ l3 then
      FX6_brokenInvariants_L74 n n M l1 l2 0 0 0
    else
      gd (inb l3 30) <|
      bnd (FX8_cost M (20 + l3.toNatClampNeg)) fun x5 =>
      if M.1 (20 + l3.toNatClampNeg) 8 = 1 then
        if M.1 (20 + l3.toNatClampNeg) 3 ≤ M.1 (20 + l3.toNatClampNeg) 9 then
          FX6_brokenInvariants_L6 n k M (l1 + x5) (l2 + 0) (l3 + 1)
        else
          FX6_brokenInvariants_L6 n k M (l1 + x5) (l2 + 1) (l3 + 1)
      else
        FX6_brokenInvariants_L6 n k M (l1 + x5) (l2 + 0) (l3 + 1)
set_option maxHeartbeats 4000000 in
set_option maxRecDepth 100000 in
theorem LX6_brokenInvariants_6 {G : GG} {l : Launch} (w : Wd) (r : Nat) (hr : 1 ≤ r ∧ r ≤ 9) {p : Program} {e : Env} {s : State} {m : MethodId} {args : Array Value} {below : List Frame} {meth : Method} {c : Code} (hX : FX G RX6 cX6_brokenInvariants 6 p s m args c) (hR : meth.sig.returnType = (some .int)) (hlk : meth.locks = false) {rx : Int32} (n : Nat) : ∀ (k : Nat) (M : MM) (l1 : Int32) (l2 : Int32) (l3 : Int32) , FX6_brokenInvariants_L6 n k M l1 l2 l3 = some rx → J G p l e rmX6_brokenInvariants s m args below meth c 6 0 0 (MQ below (QV G (some (.int rx)) (sW w r M)) args s 0 0 (gA G)) (GH G (sW w r M)) 6 [(0, .ref (adr G r 0)), (1, .int l1), (2, .int l2), (3, .int l3)] [] := by
  intro k
  induction k with
  | zero => intro M l1 l2 l3  hF; cases hF
  | succ k ih =>
    intro M l1 l2 l3  hF
    simp only [FX6_brokenInvariants_L6] at hF
    refine J_iload_n hX dX6_brokenInvariants_6 3 rfl (t := 7) rfl ?_
    refine J_aload_n hX dX6_brokenInvariants_7 0 rfl (t := 8) rfl ?_
    refine JM_get hX cb4 (kMarket hr) 5 (by decide) q_383 rfl dX6_brokenInvariants_8 (t := 11) rfl ?_
    refine J_icmp_ge (tgt := 66) hX dX6_brokenInvariants_11 (by decide) (t := 14) rfl (fun z => ?_) (fun z => ?_)
    · replace hF := it_t hF z
      refine J_iconst (v := 0) hX dX6_brokenInvariants_66 (by decide) (t := 67) rfl ?_
      refine J_istore_n (lc2 := [(3, .int 0), (0, .ref (adr G r 0)), (1, .int l1), (2, .int l2)]) hX dX6_brokenInvariants_67 rfl (Nat.le_of_ble_eq_true rfl) rfl (t := 68) rfl ?_
      refine J_iconst (v := 0) hX dX6_brokenInvariants_68 (by decide) (t := 69) rfl ?_
      refine J_istore (lc2 := [(4, .int 0), (3, .int 0), (0, .ref (adr G r 0)), (1, .int l1), (2, .int l2)]) hX dX6_brokenInvariants_69 (Nat.le_of_ble_eq_true rfl) rfl (t := 71) rfl ?_
      refine J_iconst (v := 0) hX dX6_brokenInvariants_71 (by decide) (t := 72) rfl ?_
      refine J_istore (lc2 := [(5, .int 0), (4, .int 0), (3, .int 0), (0, .ref (adr G r 0)), (1, .int l1), (2, .int l2)]) hX dX6_brokenInvariants_72 (Nat.le_of_ble_eq_true rfl) rfl (t := 74) rfl ?_
      refine J_sub (lc2 := [(0, .ref (adr G r 0)), (1, .int l1), (2, .int l2), (3, .int 0), (4, .int 0), (5, .int 0)]) [3, 4, 5, 2, 1, 0] rfl ?_
      exact LX6_brokenInvariants_74 w r hr hX hR hlk n n M l1 l2 0 0 0 hF
    · replace hF := it_f hF z
      refine J_aload_n hX dX6_brokenInvariants_14 0 rfl (t := 15) rfl ?_
      refine JM_get hX cb4 (kMarket hr) 2 (by decide) q_375 rfl dX6_brokenInvariants_15 (t := 18) rfl ?_
      refine J_iload_n hX dX6_brokenInvariants_18 3 rfl (t := 19) rfl ?_
      obtain ⟨g3, hF⟩ := gd_e hF
      refine J_aald (k := 5) hX (kShouts hr) rfl g3 dX6_brokenInvariants_19 (t := 20) rfl ?_
      refine J_astore (lc2 := [(4, .ref (adr G r (20 + l3.toNatClampNeg))), (0, .ref (adr G r 0)), (1, .int l1), (2, .int l2), (3, .int l3)]) hX dX6_brokenInvariants_20 (Nat.le_of_ble_eq_true rfl) rfl (t := 22) rfl ?_
      refine J_iload_n hX dX6_brokenInvariants_22 2 rfl (t := 23) rfl ?_
      refine J_aload hX dX6_brokenInvariants_23 0 rfl (t := 25) rfl ?_
      obtain ⟨x5, h4, hF⟩ := bnd_e hF
      have k6 := (ctX8_cost (G := G) (l := l) w r hr M (20 + l3.toNatClampNeg) ⟨Nat.le_add_right 20 _, Nat.add_lt_add_left (inb_lt g3) 20⟩ h4)
      refine J_callV hX [] [.int l1] [.int x5, .int l1] k6 miX8_cost mvX8_cost cb6 (kShout hr ⟨Nat.le_add_right 20 _, Nat.add_lt_add_left (inb_lt g3) 20⟩) q_742 ⟨rfl, rfl, Nat.le_of_ble_eq_true rfl, Nat.le_of_ble_eq_true rfl⟩ rfl rfl (Nat.le_of_ble_eq_true rfl) ⟨Nat.le_of_ble_eq_true rfl, Nat.le_of_ble_eq_true rfl⟩ dX6_brokenInvariants_25 (t := 28) rfl rfl ?_
      refine J_iadd hX dX6_brokenInvariants_28 (t := 29) rfl ?_
      refine J_istore_n (lc2 := [(1, .int (l1 + x5)), (4, .ref (adr G r (20 + l3.toNatClampNeg))), (0, .ref (adr G r 0)), (2, .int l2), (3, .int l3)]) hX dX6_brokenInvariants_29 rfl (Nat.le_of_ble_eq_true rfl) rfl (t := 30) rfl ?_
      refine J_iload_n hX dX6_brokenInvariants_30 3 rfl (t := 31) rfl ?_
      refine J_aload hX dX6_brokenInvariants_31 1 rfl (t := 33) rfl ?_
      refine JM_get hX cb6 (kShout hr ⟨Nat.le_add_right 20 _, Nat.add_lt_add_left (inb_lt g3) 20⟩) 8 (by decide) q_341 rfl dX6_brokenInvariants_33 (t := 36) rfl ?_
      refine J_iconst (v := 1) hX dX6_brokenInvariants_36 (by decide) (t := 37) rfl ?_
      refine J_icmp_ne (tgt := 57) hX dX6_brokenInvariants_37 (by decide) (t := 40) rfl (fun z => ?_) (fun z => ?_)
      · replace hF := it_f hF z
        refine J_iconst (v := 0) hX dX6_brokenInvariants_57 (by decide) (t := 58) rfl ?_
        refine J_iadd hX dX6_brokenInvariants_58 (t := 59) rfl ?_
        refine J_istore_n (lc2 := [(2, .int (l2 + 0)), (1, .int (l1 + x5)), (4, .ref (adr G r (20 + l3.toNatClampNeg))), (0, .ref (adr G r 0)), (3, .int l3)]) hX dX6_brokenInvariants_59 rfl (Nat.le_of_ble_eq_true rfl) rfl (t := 60) rfl ?_
        refine J_iinc (v := l3 + 1) (lc2 := [(3, .int (l3 + 1)), (2, .int (l2 + 0)), (1, .int (l1 + x5)), (4, .ref (adr G r (20 + l3.toNatClampNeg))), (0, .ref (adr G r 0))]) hX dX6_brokenInvariants_60 4 rfl rfl (Nat.le_of_ble_eq_true rfl) rfl (t := 63) rfl ?_
        refine J_goto (tgt := 6) hX dX6_brokenInvariants_63 (by decide) ?_
        refine J_sub (lc2 := [(0, .ref (adr G r 0)), (1, .int (l1 + x5)), (2, .int (l2 + 0)), (3, .int (l3 + 1))]) [4, 2, 1, 0] rfl ?_
        exact ih M (l1 + x5) (l2 + 0) (l3 + 1) hF
      · replace hF := it_t hF z
        refine J_aload hX dX6_brokenInvariants_40 1 rfl (t := 42) rfl ?_
        refine JM_get hX cb6 (kShout hr ⟨Nat.le_add_right 20 _, Nat.add_lt_add_left (inb_lt g3) 20⟩) 9 (by decide) q_344 rfl dX6_brokenInvariants_42 (t := 45) rfl ?_
        refine J_aload hX dX6_brokenInvariants_45 1 rfl (t := 47) rfl ?_
        refine JM_get hX cb6 (kShout hr ⟨Nat.le_add_right 20 _, Nat.add_lt_add_left (inb_lt g3) 20⟩) 3 (by decide) q_329 rfl dX6_brokenInvariants_47 (t := 50) rfl ?_
        refine J_icmp_ge (tgt := 57) hX dX6_brokenInvariants_50 (by decide) (t := 53) rfl (fun z => ?_) (fun z => ?_)
        · replace hF := it_t hF z
          refine J_iconst (v := 0) hX dX6_brokenInvariants_57 (by decide) (t := 58) rfl ?_
          refine J_iadd hX dX6_brokenInvariants_58 (t := 59) rfl ?_
          refine J_istore_n (lc2 := [(2, .int (l2 + 0)), (1, .int (l1 + x5)), (4, .ref (adr G r (20 + l3.toNatClampNeg))), (0, .ref (adr G r 0)), (3, .int l3)]) hX dX6_brokenInvariants_59 rfl (Nat.le_of_ble_eq_true rfl) rfl (t := 60) rfl ?_
          refine J_iinc (v := l3 + 1) (lc2 := [(3, .int (l3 + 1)), (2, .int (l2 + 0)), (1, .int (l1 + x5)), (4, .ref (adr G r (20 + l3.toNatClampNeg))), (0, .ref (adr G r 0))]) hX dX6_brokenInvariants_60 4 rfl rfl (Nat.le_of_ble_eq_true rfl) rfl (t := 63) rfl ?_
          refine J_goto (tgt := 6) hX dX6_brokenInvariants_63 (by decide) ?_
          refine J_sub (lc2 := [(0, .ref (adr G r 0)), (1, .int (l1 + x5)), (2, .int (l2 + 0)), (3, .int (l3 + 1))]) [4, 2, 1, 0] rfl ?_
          exact ih M (l1 + x5) (l2 + 0) (l3 + 1) hF
        · replace hF := it_f hF z
          refine J_iconst (v := 1) hX dX6_brokenInvariants_53 (by decide) (t := 54) rfl ?_
          refine J_goto (tgt := 58) hX dX6_brokenInvariants_54 (by decide) ?_
          refine J_iadd hX dX6_brokenInvariants_58 (t := 59) rfl ?_
          refine J_istore_n (lc2 := [(2, .int (l2 + 1)), (1, .int (l1 + x5)), (4, .ref (adr G r (20 + l3.toNatClampNeg))), (0, .ref (adr G r 0)), (3, .int l3)]) hX dX6_brokenInvariants_59 rfl (Nat.le_of_ble_eq_true rfl) rfl (t := 60) rfl ?_
          refine J_iinc (v := l3 + 1) (lc2 := [(3, .int (l3 + 1)), (2, .int (l2 + 1)), (1, .int (l1 + x5)), (4, .ref (adr G r (20 + l3.toNatClampNeg))), (0, .ref (adr G r 0))]) hX dX6_brokenInvariants_60 4 rfl rfl (Nat.le_of_ble_eq_true rfl) rfl (t := 63) rfl ?_
          refine J_goto (tgt := 6) hX dX6_brokenInvariants_63 (by decide) ?_
          refine J_sub (lc2 := [(0, .ref (adr G r 0)), (1, .int (l1 + x5)), (2, .int (l2 + 1)), (3, .int (l3 + 1))]) [4, 2, 1, 0] rfl ?_
          exact ih M (l1 + x5) (l2 + 1) (l3 + 1) hF
def FX6_brokenInvariants (n : Nat) (M : MM)  : Option (Int32) :=
  FX6_brokenInvariants_L6 n n M 0 0 0
set_option maxHeartbeats 4000000 in
set_option maxRecDepth 100000 in
theorem ctX6_brokenInvariants {G : GG} {l : Launch} (w : Wd) (r : Nat) (hr : 1 ≤ r ∧ r ≤ 9) (M : MM)   (n : Nat) {rx : Int32} (hF : FX6_brokenInvariants n M  = some rx) : CT G l yX6_brokenInvariants cX6_brokenInvariants 6 (some .int) rmX6_brokenInvariants 0 0 [.ref (adr G r 0)] (sW w r M) (some (.int rx)) (sW w r M) := by
  refine CT.of miX6_brokenInvariants [(0, .ref (adr G r 0))] rfl (Nat.le_of_ble_eq_true rfl) ?_
  intro p e s m args below meth c hX hR hlk
  have hX : FX G RX6 cX6_brokenInvariants 6 p s m args c := hX
  unfold FX6_brokenInvariants at hF
  refine J_iconst (v := 0) hX dX6_brokenInvariants_0 (by decide) (t := 1) rfl ?_
  refine J_istore_n (lc2 := [(1, .int 0), (0, .ref (adr G r 0))]) hX dX6_brokenInvariants_1 rfl (Nat.le_of_ble_eq_true rfl) rfl (t := 2) rfl ?_
  refine J_iconst (v := 0) hX dX6_brokenInvariants_2 (by decide) (t := 3) rfl ?_
  refine J_istore_n (lc2 := [(2, .int 0), (1, .int 0), (0, .ref (adr G r 0))]) hX dX6_brokenInvariants_3 rfl (Nat.le_of_ble_eq_true rfl) rfl (t := 4) rfl ?_
  refine J_iconst (v := 0) hX dX6_brokenInvariants_4 (by decide) (t := 5) rfl ?_
  refine J_istore_n (lc2 := [(3, .int 0), (2, .int 0), (1, .int 0), (0, .ref (adr G r 0))]) hX dX6_brokenInvariants_5 rfl (Nat.le_of_ble_eq_true rfl) rfl (t := 6) rfl ?_
  refine J_sub (lc2 := [(0, .ref (adr G r 0)), (1, .int 0), (2, .int 0), (3, .int 0)]) [3, 2, 1, 0] rfl ?_
  exact LX6_brokenInvariants_6 w r hr hX hR hlk n n M 0 0 0 hF
abbrev rmX6_valleyNamed : Room := { frames := 0, cells := 0, slots := 0, locals := 0 }
theorem miX6_valleyNamed : MI yX6_valleyNamed cX6_valleyNamed 4 (some .int) 1 := ⟨q_663, q_138, by decide +kernel, by decide +kernel, by decide +kernel, by decide +kernel⟩
theorem mvX6_valleyNamed : MV yX6_valleyNamed := ⟨q_661, q_662⟩
def FX6_valleyNamed_L2 (n : Nat) : Nat → MM → Int64 → Int32 → Option (Int32)
  | 0 => fun _ _ _ => none
  | k + 1 => fun M l1 l3 =>
    if M.1 0 3 ≤ l3 then
      some (-1)
    else
      gd (inb l3 8) <|
      if lg_cmp (M.2 (4 + l3.toNatClampNeg) 0) l1 = 0 then
        some l3
      else
        FX6_valleyNamed_L2 n k M l1 (l3 + 1)
set_option maxHeartbeats 4000000 in
set_option maxRecDepth 100000 in
theorem LX6_valleyNamed_2 {G : GG} {l : Launch} (w : Wd) (r : Nat) (hr : 1 ≤ r ∧ r ≤ 9) {p : Program} {e : Env} {s : State} {m : MethodId} {args : Array Value} {below : List Frame} {meth : Method} {c : Code} (hX : FX G RX6 cX6_valleyNamed 4 p s m args c) (hR : meth.sig.returnType = (some .int)) (hlk : meth.locks = false) {rx : Int32} (n : Nat) : ∀ (k : Nat) (M : MM) (l1 : Int64) (l3 : Int32) , FX6_valleyNamed_L2 n k M l1 l3 = some rx → J G p l e rmX6_valleyNamed s m args below meth c 4 0 0 (MQ below (QV G (some (.int rx)) (sW w r M)) args s 0 0 (gA G)) (GH G (sW w r M)) 2 [(0, .ref (adr G r 0)), (1, .long l1), (3, .int l3)] [] := by
  intro k
  induction k with
  | zero => intro M l1 l3  hF; cases hF
  | succ k ih =>
    intro M l1 l3  hF
    simp only [FX6_valleyNamed_L2] at hF
    refine J_iload_n hX dX6_valleyNamed_2 2 rfl (t := 3) rfl ?_
    refine J_aload_n hX dX6_valleyNamed_3 0 rfl (t := 4) rfl ?_
    refine JM_get hX cb4 (kMarket hr) 3 (by decide) q_377 rfl dX6_valleyNamed_4 (t := 7) rfl ?_
    refine J_icmp_ge (tgt := 32) hX dX6_valleyNamed_7 (by decide) (t := 10) rfl (fun z => ?_) (fun z => ?_)
    · replace hF := it_t hF z
      refine J_iconst (v := (-1)) hX dX6_valleyNamed_32 (by decide) (t := 33) rfl ?_
      replace hF := Option.some.inj hF
      subst hF
      exact J_iret hX hR hlk dX6_valleyNamed_33
    · replace hF := it_f hF z
      refine J_aload_n hX dX6_valleyNamed_10 0 rfl (t := 11) rfl ?_
      refine JM_get hX cb4 (kMarket hr) 0 (by decide) q_371 rfl dX6_valleyNamed_11 (t := 14) rfl ?_
      refine J_iload_n hX dX6_valleyNamed_14 2 rfl (t := 15) rfl ?_
      obtain ⟨g1, hF⟩ := gd_e hF
      refine J_aald (k := 3) hX (kValleys hr) rfl g1 dX6_valleyNamed_15 (t := 16) rfl ?_
      refine JM_get hX cb8 (kValley hr ⟨Nat.le_add_right 4 _, Nat.add_lt_add_left (inb_lt g1) 4⟩) 0 (by decide) q_236 rfl dX6_valleyNamed_16 (t := 19) rfl ?_
      refine J_lload_n hX dX6_valleyNamed_19 1 rfl (t := 20) rfl ?_
      refine J_lcmp hX dX6_valleyNamed_20 (t := 21) rfl ?_
      refine J_if_ne (tgt := 26) hX dX6_valleyNamed_21 (by decide) (t := 24) rfl (fun z => ?_) (fun z => ?_)
      · replace hF := it_f hF z
        refine J_iinc (v := l3 + 1) (lc2 := [(3, .int (l3 + 1)), (0, .ref (adr G r 0)), (1, .long l1)]) hX dX6_valleyNamed_26 2 rfl rfl (Nat.le_of_ble_eq_true rfl) rfl (t := 29) rfl ?_
        refine J_goto (tgt := 2) hX dX6_valleyNamed_29 (by decide) ?_
        refine J_sub (lc2 := [(0, .ref (adr G r 0)), (1, .long l1), (3, .int (l3 + 1))]) [1, 2, 0] rfl ?_
        exact ih M l1 (l3 + 1) hF
      · replace hF := it_t hF z
        refine J_iload_n hX dX6_valleyNamed_24 2 rfl (t := 25) rfl ?_
        replace hF := Option.some.inj hF
        subst hF
        exact J_iret hX hR hlk dX6_valleyNamed_25
def FX6_valleyNamed (n : Nat) (M : MM) (p1 : Int64) : Option (Int32) :=
  FX6_valleyNamed_L2 n n M p1 0
set_option maxHeartbeats 4000000 in
set_option maxRecDepth 100000 in
theorem ctX6_valleyNamed {G : GG} {l : Launch} (w : Wd) (r : Nat) (hr : 1 ≤ r ∧ r ≤ 9) (M : MM) (p1 : Int64)  (n : Nat) {rx : Int32} (hF : FX6_valleyNamed n M p1 = some rx) : CT G l yX6_valleyNamed cX6_valleyNamed 4 (some .int) rmX6_valleyNamed 0 0 [.ref (adr G r 0), .long p1] (sW w r M) (some (.int rx)) (sW w r M) := by
  refine CT.of miX6_valleyNamed [(0, .ref (adr G r 0)), (1, .long p1)] rfl (Nat.le_of_ble_eq_true rfl) ?_
  intro p e s m args below meth c hX hR hlk
  have hX : FX G RX6 cX6_valleyNamed 4 p s m args c := hX
  unfold FX6_valleyNamed at hF
  refine J_iconst (v := 0) hX dX6_valleyNamed_0 (by decide) (t := 1) rfl ?_
  refine J_istore_n (lc2 := [(3, .int 0), (0, .ref (adr G r 0)), (1, .long p1)]) hX dX6_valleyNamed_1 rfl (Nat.le_of_ble_eq_true rfl) rfl (t := 2) rfl ?_
  refine J_sub (lc2 := [(0, .ref (adr G r 0)), (1, .long p1), (3, .int 0)]) [1, 2, 0] rfl ?_
  exact LX6_valleyNamed_2 w r hr hX hR hlk n n M p1 0 hF
abbrev rmX6_customerNamed : Room := { frames := 0, cells := 0, slots := 0, locals := 0 }
theorem miX6_customerNamed : MI yX6_customerNamed cX6_customerNamed 4 (some .int) 1 := ⟨q_694, q_138, by decide +kernel, by decide +kernel, by decide +kernel, by decide +kernel⟩
theorem mvX6_customerNamed : MV yX6_customerNamed := ⟨q_692, q_693⟩
def FX6_customerNamed_L2 (n : Nat) : Nat → MM → Int64 → Int32 → Option (Int32)
  | 0 => fun _ _ _ => none
  | k + 1 => fun M l1 l3 =>
    if M.1 0 4 ≤ l3 then
      some (-1)
    else
      gd (inb l3 8) <|
      if lg_cmp (M.2 (12 + l3.toNatClampNeg) 0) l1 = 0 then
        some l3
      else
        FX6_customerNamed_L2 n k M l1 (l3 + 1)
set_option maxHeartbeats 4000000 in
set_option maxRecDepth 100000 in
theorem LX6_customerNamed_2 {G : GG} {l : Launch} (w : Wd) (r : Nat) (hr : 1 ≤ r ∧ r ≤ 9) {p : Program} {e : Env} {s : State} {m : MethodId} {args : Array Value} {below : List Frame} {meth : Method} {c : Code} (hX : FX G RX6 cX6_customerNamed 4 p s m args c) (hR : meth.sig.returnType = (some .int)) (hlk : meth.locks = false) {rx : Int32} (n : Nat) : ∀ (k : Nat) (M : MM) (l1 : Int64) (l3 : Int32) , FX6_customerNamed_L2 n k M l1 l3 = some rx → J G p l e rmX6_customerNamed s m args below meth c 4 0 0 (MQ below (QV G (some (.int rx)) (sW w r M)) args s 0 0 (gA G)) (GH G (sW w r M)) 2 [(0, .ref (adr G r 0)), (1, .long l1), (3, .int l3)] [] := by
  intro k
  induction k with
  | zero => intro M l1 l3  hF; cases hF
  | succ k ih =>
    intro M l1 l3  hF
    simp only [FX6_customerNamed_L2] at hF
    refine J_iload_n hX dX6_customerNamed_2 2 rfl (t := 3) rfl ?_
    refine J_aload_n hX dX6_customerNamed_3 0 rfl (t := 4) rfl ?_
    refine JM_get hX cb4 (kMarket hr) 4 (by decide) q_380 rfl dX6_customerNamed_4 (t := 7) rfl ?_
    refine J_icmp_ge (tgt := 32) hX dX6_customerNamed_7 (by decide) (t := 10) rfl (fun z => ?_) (fun z => ?_)
    · replace hF := it_t hF z
      refine J_iconst (v := (-1)) hX dX6_customerNamed_32 (by decide) (t := 33) rfl ?_
      replace hF := Option.some.inj hF
      subst hF
      exact J_iret hX hR hlk dX6_customerNamed_33
    · replace hF := it_f hF z
      refine J_aload_n hX dX6_customerNamed_10 0 rfl (t := 11) rfl ?_
      refine JM_get hX cb4 (kMarket hr) 1 (by decide) q_373 rfl dX6_customerNamed_11 (t := 14) rfl ?_
      refine J_iload_n hX dX6_customerNamed_14 2 rfl (t := 15) rfl ?_
      obtain ⟨g1, hF⟩ := gd_e hF
      refine J_aald (k := 4) hX (kCustomers hr) rfl g1 dX6_customerNamed_15 (t := 16) rfl ?_
      refine JM_get hX cb1 (kCustomer hr ⟨Nat.le_add_right 12 _, Nat.add_lt_add_left (inb_lt g1) 12⟩) 0 (by decide) q_281 rfl dX6_customerNamed_16 (t := 19) rfl ?_
      refine J_lload_n hX dX6_customerNamed_19 1 rfl (t := 20) rfl ?_
      refine J_lcmp hX dX6_customerNamed_20 (t := 21) rfl ?_
      refine J_if_ne (tgt := 26) hX dX6_customerNamed_21 (by decide) (t := 24) rfl (fun z => ?_) (fun z => ?_)
      · replace hF := it_f hF z
        refine J_iinc (v := l3 + 1) (lc2 := [(3, .int (l3 + 1)), (0, .ref (adr G r 0)), (1, .long l1)]) hX dX6_customerNamed_26 2 rfl rfl (Nat.le_of_ble_eq_true rfl) rfl (t := 29) rfl ?_
        refine J_goto (tgt := 2) hX dX6_customerNamed_29 (by decide) ?_
        refine J_sub (lc2 := [(0, .ref (adr G r 0)), (1, .long l1), (3, .int (l3 + 1))]) [1, 2, 0] rfl ?_
        exact ih M l1 (l3 + 1) hF
      · replace hF := it_t hF z
        refine J_iload_n hX dX6_customerNamed_24 2 rfl (t := 25) rfl ?_
        replace hF := Option.some.inj hF
        subst hF
        exact J_iret hX hR hlk dX6_customerNamed_25
def FX6_customerNamed (n : Nat) (M : MM) (p1 : Int64) : Option (Int32) :=
  FX6_customerNamed_L2 n n M p1 0
set_option maxHeartbeats 4000000 in
set_option maxRecDepth 100000 in
theorem ctX6_customerNamed {G : GG} {l : Launch} (w : Wd) (r : Nat) (hr : 1 ≤ r ∧ r ≤ 9) (M : MM) (p1 : Int64)  (n : Nat) {rx : Int32} (hF : FX6_customerNamed n M p1 = some rx) : CT G l yX6_customerNamed cX6_customerNamed 4 (some .int) rmX6_customerNamed 0 0 [.ref (adr G r 0), .long p1] (sW w r M) (some (.int rx)) (sW w r M) := by
  refine CT.of miX6_customerNamed [(0, .ref (adr G r 0)), (1, .long p1)] rfl (Nat.le_of_ble_eq_true rfl) ?_
  intro p e s m args below meth c hX hR hlk
  have hX : FX G RX6 cX6_customerNamed 4 p s m args c := hX
  unfold FX6_customerNamed at hF
  refine J_iconst (v := 0) hX dX6_customerNamed_0 (by decide) (t := 1) rfl ?_
  refine J_istore_n (lc2 := [(3, .int 0), (0, .ref (adr G r 0)), (1, .long p1)]) hX dX6_customerNamed_1 rfl (Nat.le_of_ble_eq_true rfl) rfl (t := 2) rfl ?_
  refine J_sub (lc2 := [(0, .ref (adr G r 0)), (1, .long p1), (3, .int 0)]) [1, 2, 0] rfl ?_
  exact LX6_customerNamed_2 w r hr hX hR hlk n n M p1 0 hF
def FX6_namesBefore_L5 (n : Nat) : Nat → MM → Int64 → Int32 → Int32 → Option (Int32)
  | 0 => fun _ _ _ _ => none
  | k + 1 => fun M l1 l3 l4 =>
    if M.1 0 3 ≤ l4 then
      some l3
    else
      gd (inb l4 8) <|
      if 0 ≤ lg_cmp (M.2 (4 + l4.toNatClampNeg) 0) l1 then
        FX6_namesBefore_L5 n k M l1 (l3 + 0) (l4 + 1)
      else
        FX6_namesBefore_L5 n k M l1 (l3 + 1) (l4 + 1)
def FX6_namesBefore (n : Nat) (M : MM) (p1 : Int64) : Option (Int32) :=
  FX6_namesBefore_L5 n n M p1 0 0
def FX6_valleyRanked_L2 (n : Nat) : Nat → MM → Int32 → Int32 → Option (Int32)
  | 0 => fun _ _ _ => none
  | k + 1 => fun M l1 l2 =>
    if M.1 0 3 ≤ l2 then
      some (-1)
    else
      gd (inb l2 8) <|
      bo1 (FX6_namesBefore n M (M.2 (4 + l2.toNatClampNeg) 0)) fun x3 =>
      if x3 = l1 then
        some l2
      else
        FX6_valleyRanked_L2 n k M l1 (l2 + 1)
def FX6_valleyRanked (n : Nat) (M : MM) (p1 : Int32) : Option (Int32) :=
  FX6_valleyRanked_L2 n n M p1 0
def FX6_isRatedBetter (M : MM) (j0 : Nat) (j1 : Nat) : Bool :=
  if M.1 j1 5 < M.1 j0 5 then
    true
  else
    if M.1 j0 5 = M.1 j1 5 then
      if M.1 j1 3 ≤ M.1 j0 3 then
        false
      else
        true
    else
      false
def FX6_valleyRatedBest_L4 (n : Nat) : Nat → MM → Int32 → Int32 → Option (Int32)
  | 0 => fun _ _ _ => none
  | k + 1 => fun M l1 l2 =>
    if M.1 0 3 ≤ l2 then
      some l1
    else
      if l1 = (-1) then
        FX6_valleyRatedBest_L4 n k M l2 (l2 + 1)
      else
        gd (inb l2 8) <|
        gd (inb l1 8) <|
        bnd (FX6_isRatedBetter M (4 + l2.toNatClampNeg) (4 + l1.toNatClampNeg)) fun x4 =>
        if x4 = true then
          FX6_valleyRatedBest_L4 n k M l2 (l2 + 1)
        else
          FX6_valleyRatedBest_L4 n k M l1 (l2 + 1)
def FX6_valleyRatedBest (n : Nat) (M : MM)  : Option (Int32) :=
  FX6_valleyRatedBest_L4 n n M (-1) 0
abbrev rmX6_hasOpenShout : Room := { frames := 1, cells := 0, slots := 0, locals := 20 }
theorem miX6_hasOpenShout : MI yX6_hasOpenShout cX6_hasOpenShout 6 (some .boolean) 2 := ⟨q_1099, q_138, by decide +kernel, by decide +kernel, by decide +kernel, by decide +kernel⟩
theorem mvX6_hasOpenShout : MV yX6_hasOpenShout := ⟨q_1098, q_12⟩
def FX6_hasOpenShout_L5 (n : Nat) : Nat → MM → Int32 → Int32 → Bool → Int32 → Option (Bool)
  | 0 => fun _ _ _ _ _ => none
  | k + 1 => fun M l1 l2 l3 l4 =>
    if M.1 0 5 ≤ l4 then
      some l3
    else
      gd (inb l4 30) <|
      if l3 = true then
        FX6_hasOpenShout_L5 n k M l1 l2 true (l4 + 1)
      else
        bnd (FX8_isOpen M (20 + l4.toNatClampNeg)) fun x3 =>
        if x3 = true then
          if M.1 (20 + l4.toNatClampNeg) 0 = l1 then
            if M.1 (20 + l4.toNatClampNeg) 1 = l2 then
              FX6_hasOpenShout_L5 n k M l1 l2 true (l4 + 1)
            else
              FX6_hasOpenShout_L5 n k M l1 l2 false (l4 + 1)
          else
            FX6_hasOpenShout_L5 n k M l1 l2 false (l4 + 1)
        else
          FX6_hasOpenShout_L5 n k M l1 l2 false (l4 + 1)
set_option maxHeartbeats 4000000 in
set_option maxRecDepth 100000 in
theorem LX6_hasOpenShout_5 {G : GG} {l : Launch} (w : Wd) (r : Nat) (hr : 1 ≤ r ∧ r ≤ 9) {p : Program} {e : Env} {s : State} {m : MethodId} {args : Array Value} {below : List Frame} {meth : Method} {c : Code} (hX : FX G RX6 cX6_hasOpenShout 6 p s m args c) (hR : meth.sig.returnType = (some .boolean)) (hlk : meth.locks = false) {rx : Bool} (n : Nat) : ∀ (k : Nat) (M : MM) (l1 : Int32) (l2 : Int32) (l3 : Bool) (l4 : Int32) , FX6_hasOpenShout_L5 n k M l1 l2 l3 l4 = some rx → J G p l e rmX6_hasOpenShout s m args below meth c 6 0 0 (MQ below (QV G (some (.int (bI rx))) (sW w r M)) args s 0 0 (gA G)) (GH G (sW w r M)) 5 [(0, .ref (adr G r 0)), (1, .int l1), (2, .int l2), (3, .int (bI l3)), (4, .int l4)] [] := by
  intro k
  induction k with
  | zero => intro M l1 l2 l3 l4  hF; cases hF
  | succ k ih =>
    intro M l1 l2 l3 l4  hF
    simp only [FX6_hasOpenShout_L5] at hF
    refine J_iload hX dX6_hasOpenShout_5 4 rfl (t := 7) rfl ?_
    refine J_aload_n hX dX6_hasOpenShout_7 0 rfl (t := 8) rfl ?_
    refine JM_get hX cb4 (kMarket hr) 5 (by decide) q_383 rfl dX6_hasOpenShout_8 (t := 11) rfl ?_
    refine J_icmp_ge (tgt := 65) hX dX6_hasOpenShout_11 (by decide) (t := 14) rfl (fun z => ?_) (fun z => ?_)
    · replace hF := it_t hF z
      refine J_iload_n hX dX6_hasOpenShout_65 3 rfl (t := 66) rfl ?_
      replace hF := Option.some.inj hF
      subst hF
      exact J_zret (b := l3) hX hR hlk dX6_hasOpenShout_66
    · replace hF := it_f hF z
      refine J_aload_n hX dX6_hasOpenShout_14 0 rfl (t := 15) rfl ?_
      refine JM_get hX cb4 (kMarket hr) 2 (by decide) q_375 rfl dX6_hasOpenShout_15 (t := 18) rfl ?_
      refine J_iload hX dX6_hasOpenShout_18 4 rfl (t := 20) rfl ?_
      obtain ⟨g1, hF⟩ := gd_e hF
      refine J_aald (k := 5) hX (kShouts hr) rfl g1 dX6_hasOpenShout_20 (t := 21) rfl ?_
      refine J_astore (lc2 := [(5, .ref (adr G r (20 + l4.toNatClampNeg))), (0, .ref (adr G r 0)), (1, .int l1), (2, .int l2), (3, .int (bI l3)), (4, .int l4)]) hX dX6_hasOpenShout_21 (Nat.le_of_ble_eq_true rfl) rfl (t := 23) rfl ?_
      refine J_iload_n hX dX6_hasOpenShout_23 4 rfl (t := 24) rfl ?_
      refine J_ifZ_ne (tgt := 53) hX dX6_hasOpenShout_24 (by decide) (t := 27) rfl (fun z => ?_) (fun z => ?_)
      · replace hF := it_t hF z
        refine J_iconst (v := 1) hX dX6_hasOpenShout_53 (by decide) (t := 54) rfl ?_
        refine J_goto (tgt := 58) hX dX6_hasOpenShout_54 (by decide) ?_
        refine J_istore_n (lc2 := [(3, .int 1), (5, .ref (adr G r (20 + l4.toNatClampNeg))), (0, .ref (adr G r 0)), (1, .int l1), (2, .int l2), (4, .int l4)]) hX dX6_hasOpenShout_58 rfl (Nat.le_of_ble_eq_true rfl) rfl (t := 59) rfl ?_
        refine J_iinc (v := l4 + 1) (lc2 := [(4, .int (l4 + 1)), (3, .int 1), (5, .ref (adr G r (20 + l4.toNatClampNeg))), (0, .ref (adr G r 0)), (1, .int l1), (2, .int l2)]) hX dX6_hasOpenShout_59 5 rfl rfl (Nat.le_of_ble_eq_true rfl) rfl (t := 62) rfl ?_
        refine J_goto (tgt := 5) hX dX6_hasOpenShout_62 (by decide) ?_
        refine J_sub (lc2 := [(0, .ref (adr G r 0)), (1, .int l1), (2, .int l2), (3, .int 1), (4, .int (l4 + 1))]) [3, 4, 5, 1, 0] rfl ?_
        exact ih M l1 l2 true (l4 + 1) hF
      · replace hF := ib_f hF z
        refine J_aload hX dX6_hasOpenShout_27 0 rfl (t := 29) rfl ?_
        obtain ⟨x3, h2, hF⟩ := bnd_e hF
        have k4 := (ctX8_isOpen (G := G) (l := l) w r hr M (20 + l4.toNatClampNeg) ⟨Nat.le_add_right 20 _, Nat.add_lt_add_left (inb_lt g1) 20⟩ h2)
        refine J_callV hX [] [] [.int (bI x3)] k4 miX8_isOpen mvX8_isOpen cb6 (kShout hr ⟨Nat.le_add_right 20 _, Nat.add_lt_add_left (inb_lt g1) 20⟩) q_638 ⟨rfl, rfl, Nat.le_of_ble_eq_true rfl, Nat.le_of_ble_eq_true rfl⟩ rfl rfl (Nat.le_of_ble_eq_true rfl) ⟨Nat.le_of_ble_eq_true rfl, Nat.le_of_ble_eq_true rfl⟩ dX6_hasOpenShout_29 (t := 32) rfl rfl ?_
        refine J_ifZ_eq (tgt := 57) hX dX6_hasOpenShout_32 (by decide) (t := 35) rfl (fun z => ?_) (fun z => ?_)
        · replace hF := ib_f hF z
          refine J_iconst (v := 0) hX dX6_hasOpenShout_57 (by decide) (t := 58) rfl ?_
          refine J_istore_n (lc2 := [(3, .int 0), (5, .ref (adr G r (20 + l4.toNatClampNeg))), (0, .ref (adr G r 0)), (1, .int l1), (2, .int l2), (4, .int l4)]) hX dX6_hasOpenShout_58 rfl (Nat.le_of_ble_eq_true rfl) rfl (t := 59) rfl ?_
          refine J_iinc (v := l4 + 1) (lc2 := [(4, .int (l4 + 1)), (3, .int 0), (5, .ref (adr G r (20 + l4.toNatClampNeg))), (0, .ref (adr G r 0)), (1, .int l1), (2, .int l2)]) hX dX6_hasOpenShout_59 5 rfl rfl (Nat.le_of_ble_eq_true rfl) rfl (t := 62) rfl ?_
          refine J_goto (tgt := 5) hX dX6_hasOpenShout_62 (by decide) ?_
          refine J_sub (lc2 := [(0, .ref (adr G r 0)), (1, .int l1), (2, .int l2), (3, .int 0), (4, .int (l4 + 1))]) [3, 4, 5, 1, 0] rfl ?_
          exact ih M l1 l2 false (l4 + 1) hF
        · replace hF := it_t hF z
          refine J_aload hX dX6_hasOpenShout_35 0 rfl (t := 37) rfl ?_
          refine JM_get hX cb6 (kShout hr ⟨Nat.le_add_right 20 _, Nat.add_lt_add_left (inb_lt g1) 20⟩) 0 (by decide) q_321 rfl dX6_hasOpenShout_37 (t := 40) rfl ?_
          refine J_iload_n hX dX6_hasOpenShout_40 2 rfl (t := 41) rfl ?_
          refine J_icmp_ne (tgt := 57) hX dX6_hasOpenShout_41 (by decide) (t := 44) rfl (fun z => ?_) (fun z => ?_)
          · replace hF := it_f hF z
            refine J_iconst (v := 0) hX dX6_hasOpenShout_57 (by decide) (t := 58) rfl ?_
            refine J_istore_n (lc2 := [(3, .int 0), (5, .ref (adr G r (20 + l4.toNatClampNeg))), (0, .ref (adr G r 0)), (1, .int l1), (2, .int l2), (4, .int l4)]) hX dX6_hasOpenShout_58 rfl (Nat.le_of_ble_eq_true rfl) rfl (t := 59) rfl ?_
            refine J_iinc (v := l4 + 1) (lc2 := [(4, .int (l4 + 1)), (3, .int 0), (5, .ref (adr G r (20 + l4.toNatClampNeg))), (0, .ref (adr G r 0)), (1, .int l1), (2, .int l2)]) hX dX6_hasOpenShout_59 5 rfl rfl (Nat.le_of_ble_eq_true rfl) rfl (t := 62) rfl ?_
            refine J_goto (tgt := 5) hX dX6_hasOpenShout_62 (by decide) ?_
            refine J_sub (lc2 := [(0, .ref (adr G r 0)), (1, .int l1), (2, .int l2), (3, .int 0), (4, .int (l4 + 1))]) [3, 4, 5, 1, 0] rfl ?_
            exact ih M l1 l2 false (l4 + 1) hF
          · replace hF := it_t hF z
            refine J_aload hX dX6_hasOpenShout_44 0 rfl (t := 46) rfl ?_
            refine JM_get hX cb6 (kShout hr ⟨Nat.le_add_right 20 _, Nat.add_lt_add_left (inb_lt g1) 20⟩) 1 (by decide) q_324 rfl dX6_hasOpenShout_46 (t := 49) rfl ?_
            refine J_iload_n hX dX6_hasOpenShout_49 3 rfl (t := 50) rfl ?_
            refine J_icmp_ne (tgt := 57) hX dX6_hasOpenShout_50 (by decide) (t := 53) rfl (fun z => ?_) (fun z => ?_)
            · replace hF := it_f hF z
              refine J_iconst (v := 0) hX dX6_hasOpenShout_57 (by decide) (t := 58) rfl ?_
              refine J_istore_n (lc2 := [(3, .int 0), (5, .ref (adr G r (20 + l4.toNatClampNeg))), (0, .ref (adr G r 0)), (1, .int l1), (2, .int l2), (4, .int l4)]) hX dX6_hasOpenShout_58 rfl (Nat.le_of_ble_eq_true rfl) rfl (t := 59) rfl ?_
              refine J_iinc (v := l4 + 1) (lc2 := [(4, .int (l4 + 1)), (3, .int 0), (5, .ref (adr G r (20 + l4.toNatClampNeg))), (0, .ref (adr G r 0)), (1, .int l1), (2, .int l2)]) hX dX6_hasOpenShout_59 5 rfl rfl (Nat.le_of_ble_eq_true rfl) rfl (t := 62) rfl ?_
              refine J_goto (tgt := 5) hX dX6_hasOpenShout_62 (by decide) ?_
              refine J_sub (lc2 := [(0, .ref (adr G r 0)), (1, .int l1), (2, .int l2), (3, .int 0), (4, .int (l4 + 1))]) [3, 4, 5, 1, 0] rfl ?_
              exact ih M l1 l2 false (l4 + 1) hF
            · replace hF := it_t hF z
              refine J_iconst (v := 1) hX dX6_hasOpenShout_53 (by decide) (t := 54) rfl ?_
              refine J_goto (tgt := 58) hX dX6_hasOpenShout_54 (by decide) ?_
              refine J_istore_n (lc2 := [(3, .int 1), (5, .ref (adr G r (20 + l4.toNatClampNeg))), (0, .ref (adr G r 0)), (1, .int l1), (2, .int l2), (4, .int l4)]) hX dX6_hasOpenShout_58 rfl (Nat.le_of_ble_eq_true rfl) rfl (t := 59) rfl ?_
              refine J_iinc (v := l4 + 1) (lc2 := [(4, .int (l4 + 1)), (3, .int 1), (5, .ref (adr G r (20 + l4.toNatClampNeg))), (0, .ref (adr G r 0)), (1, .int l1), (2, .int l2)]) hX dX6_hasOpenShout_59 5 rfl rfl (Nat.le_of_ble_eq_true rfl) rfl (t := 62) rfl ?_
              refine J_goto (tgt := 5) hX dX6_hasOpenShout_62 (by decide) ?_
              refine J_sub (lc2 := [(0, .ref (adr G r 0)), (1, .int l1), (2, .int l2), (3, .int 1), (4, .int (l4 + 1))]) [3, 4, 5, 1, 0] rfl ?_
              exact ih M l1 l2 true (l4 + 1) hF
def FX6_hasOpenShout (n : Nat) (M : MM) (p1 : Int32) (p2 : Int32) : Option (Bool) :=
  FX6_hasOpenShout_L5 n n M p1 p2 false 0
set_option maxHeartbeats 4000000 in
set_option maxRecDepth 100000 in
theorem ctX6_hasOpenShout {G : GG} {l : Launch} (w : Wd) (r : Nat) (hr : 1 ≤ r ∧ r ≤ 9) (M : MM) (p1 : Int32) (p2 : Int32)  (n : Nat) {rx : Bool} (hF : FX6_hasOpenShout n M p1 p2 = some rx) : CT G l yX6_hasOpenShout cX6_hasOpenShout 6 (some .boolean) rmX6_hasOpenShout 0 0 [.ref (adr G r 0), .int p1, .int p2] (sW w r M) (some (.int (bI rx))) (sW w r M) := by
  refine CT.of miX6_hasOpenShout [(0, .ref (adr G r 0)), (1, .int p1), (2, .int p2)] rfl (Nat.le_of_ble_eq_true rfl) ?_
  intro p e s m args below meth c hX hR hlk
  have hX : FX G RX6 cX6_hasOpenShout 6 p s m args c := hX
  unfold FX6_hasOpenShout at hF
  refine J_iconst (v := 0) hX dX6_hasOpenShout_0 (by decide) (t := 1) rfl ?_
  refine J_istore_n (lc2 := [(3, .int 0), (0, .ref (adr G r 0)), (1, .int p1), (2, .int p2)]) hX dX6_hasOpenShout_1 rfl (Nat.le_of_ble_eq_true rfl) rfl (t := 2) rfl ?_
  refine J_iconst (v := 0) hX dX6_hasOpenShout_2 (by decide) (t := 3) rfl ?_
  refine J_istore (lc2 := [(4, .int 0), (3, .int 0), (0, .ref (adr G r 0)), (1, .int p1), (2, .int p2)]) hX dX6_hasOpenShout_3 (Nat.le_of_ble_eq_true rfl) rfl (t := 5) rfl ?_
  refine J_sub (lc2 := [(0, .ref (adr G r 0)), (1, .int p1), (2, .int p2), (3, .int 0), (4, .int 0)]) [2, 3, 4, 1, 0] rfl ?_
  exact LX6_hasOpenShout_5 w r hr hX hR hlk n n M p1 p2 false 0 hF
abbrev rmX6_whyRefused : Room := { frames := 2, cells := 0, slots := 0, locals := 45 }
theorem miX6_whyRefused : MI yX6_whyRefused cX6_whyRefused 4 (some .int) 3 := ⟨q_1095, q_138, by decide +kernel, by decide +kernel, by decide +kernel, by decide +kernel⟩
theorem mvX6_whyRefused : MV yX6_whyRefused := ⟨q_1093, q_1094⟩
def FX6_whyRefused (n : Nat) (M : MM) (p1 : Int32) (p2 : Int32) (p3 : Int32) : Option (Int32) :=
  if M.1 0 5 < 30 then
    gd (inb p2 8) <|
    if p3 ≤ M.1 (4 + p2.toNatClampNeg) 2 then
      gd (inb p1 8) <|
      gd (inb p2 8) <|
      if (M.1 (4 + p2.toNatClampNeg) 3) * p3 ≤ M.1 (12 + p1.toNatClampNeg) 3 then
        bo1 (FX6_hasOpenShout n M p1 p2) fun x5 =>
        if x5 = true then
          some 4
        else
          gd (inb p1 8) <|
          bnd (FX2_hasAnger M (12 + p1.toNatClampNeg)) fun x9 =>
          if x9 = true then
            some 5
          else
            some 0
      else
        some 3
    else
      some 2
  else
    some 1
set_option maxHeartbeats 4000000 in
set_option maxRecDepth 100000 in
theorem ctX6_whyRefused {G : GG} {l : Launch} (w : Wd) (r : Nat) (hr : 1 ≤ r ∧ r ≤ 9) (M : MM) (p1 : Int32) (p2 : Int32) (p3 : Int32)  (n : Nat) {rx : Int32} (hF : FX6_whyRefused n M p1 p2 p3 = some rx) : CT G l yX6_whyRefused cX6_whyRefused 4 (some .int) rmX6_whyRefused 0 0 [.ref (adr G r 0), .int p1, .int p2, .int p3] (sW w r M) (some (.int rx)) (sW w r M) := by
  refine CT.of miX6_whyRefused [(0, .ref (adr G r 0)), (1, .int p1), (2, .int p2), (3, .int p3)] rfl (Nat.le_of_ble_eq_true rfl) ?_
  intro p e s m args below meth c hX hR hlk
  have hX : FX G RX6 cX6_whyRefused 4 p s m args c := hX
  unfold FX6_whyRefused at hF
  refine J_aload_n hX dX6_whyRefused_0 0 rfl (t := 1) rfl ?_
  refine JM_get hX cb4 (kMarket hr) 5 (by decide) q_383 rfl dX6_whyRefused_1 (t := 4) rfl ?_
  refine J_bipush (v := 30) hX dX6_whyRefused_4 (by decide) (t := 6) rfl ?_
  refine J_icmp_lt (tgt := 11) hX dX6_whyRefused_6 (by decide) (t := 9) rfl (fun z => ?_) (fun z => ?_)
  · replace hF := it_t hF z
    refine J_iload_n hX dX6_whyRefused_11 3 rfl (t := 12) rfl ?_
    refine J_aload_n hX dX6_whyRefused_12 0 rfl (t := 13) rfl ?_
    refine JM_get hX cb4 (kMarket hr) 0 (by decide) q_371 rfl dX6_whyRefused_13 (t := 16) rfl ?_
    refine J_iload_n hX dX6_whyRefused_16 2 rfl (t := 17) rfl ?_
    obtain ⟨g1, hF⟩ := gd_e hF
    refine J_aald (k := 3) hX (kValleys hr) rfl g1 dX6_whyRefused_17 (t := 18) rfl ?_
    refine JM_get hX cb8 (kValley hr ⟨Nat.le_add_right 4 _, Nat.add_lt_add_left (inb_lt g1) 4⟩) 2 (by decide) q_243 rfl dX6_whyRefused_18 (t := 21) rfl ?_
    refine J_icmp_le (tgt := 26) hX dX6_whyRefused_21 (by decide) (t := 24) rfl (fun z => ?_) (fun z => ?_)
    · replace hF := it_t hF z
      refine J_aload_n hX dX6_whyRefused_26 0 rfl (t := 27) rfl ?_
      refine JM_get hX cb4 (kMarket hr) 1 (by decide) q_373 rfl dX6_whyRefused_27 (t := 30) rfl ?_
      refine J_iload_n hX dX6_whyRefused_30 1 rfl (t := 31) rfl ?_
      obtain ⟨g2, hF⟩ := gd_e hF
      refine J_aald (k := 4) hX (kCustomers hr) rfl g2 dX6_whyRefused_31 (t := 32) rfl ?_
      refine JM_get hX cb1 (kCustomer hr ⟨Nat.le_add_right 12 _, Nat.add_lt_add_left (inb_lt g2) 12⟩) 3 (by decide) q_289 rfl dX6_whyRefused_32 (t := 35) rfl ?_
      refine J_aload_n hX dX6_whyRefused_35 0 rfl (t := 36) rfl ?_
      refine JM_get hX cb4 (kMarket hr) 0 (by decide) q_371 rfl dX6_whyRefused_36 (t := 39) rfl ?_
      refine J_iload_n hX dX6_whyRefused_39 2 rfl (t := 40) rfl ?_
      obtain ⟨g3, hF⟩ := gd_e hF
      refine J_aald (k := 3) hX (kValleys hr) rfl g3 dX6_whyRefused_40 (t := 41) rfl ?_
      refine JM_get hX cb8 (kValley hr ⟨Nat.le_add_right 4 _, Nat.add_lt_add_left (inb_lt g3) 4⟩) 3 (by decide) q_245 rfl dX6_whyRefused_41 (t := 44) rfl ?_
      refine J_iload_n hX dX6_whyRefused_44 3 rfl (t := 45) rfl ?_
      refine J_imul hX dX6_whyRefused_45 (t := 46) rfl ?_
      refine J_icmp_ge (tgt := 51) hX dX6_whyRefused_46 (by decide) (t := 49) rfl (fun z => ?_) (fun z => ?_)
      · replace hF := it_t hF z
        refine J_aload_n hX dX6_whyRefused_51 0 rfl (t := 52) rfl ?_
        refine J_iload_n hX dX6_whyRefused_52 1 rfl (t := 53) rfl ?_
        refine J_iload_n hX dX6_whyRefused_53 2 rfl (t := 54) rfl ?_
        obtain ⟨x5, h4, hF⟩ := bo1_e hF
        have k6 := (ctX6_hasOpenShout (G := G) (l := l) w r hr M p1 p2 n h4)
        refine J_callV hX [.int p1, .int p2] [] [.int (bI x5)] k6 miX6_hasOpenShout mvX6_hasOpenShout cb4 (kMarket hr) q_1096 ⟨rfl, rfl, Nat.le_of_ble_eq_true rfl, Nat.le_of_ble_eq_true rfl⟩ rfl rfl (Nat.le_of_ble_eq_true rfl) ⟨Nat.le_of_ble_eq_true rfl, Nat.le_of_ble_eq_true rfl⟩ dX6_whyRefused_54 (t := 57) rfl rfl ?_
        refine J_ifZ_eq (tgt := 62) hX dX6_whyRefused_57 (by decide) (t := 60) rfl (fun z => ?_) (fun z => ?_)
        · replace hF := ib_f hF z
          refine J_aload_n hX dX6_whyRefused_62 0 rfl (t := 63) rfl ?_
          refine JM_get hX cb4 (kMarket hr) 1 (by decide) q_373 rfl dX6_whyRefused_63 (t := 66) rfl ?_
          refine J_iload_n hX dX6_whyRefused_66 1 rfl (t := 67) rfl ?_
          obtain ⟨g7, hF⟩ := gd_e hF
          refine J_aald (k := 4) hX (kCustomers hr) rfl g7 dX6_whyRefused_67 (t := 68) rfl ?_
          obtain ⟨x9, h8, hF⟩ := bnd_e hF
          have k10 := (ctX2_hasAnger (G := G) (l := l) w r hr M (12 + p1.toNatClampNeg) ⟨Nat.le_add_right 12 _, Nat.add_lt_add_left (inb_lt g7) 12⟩ h8)
          refine J_callV hX [] [] [.int (bI x9)] k10 miX2_hasAnger mvX2_hasAnger cb1 (kCustomer hr ⟨Nat.le_add_right 12 _, Nat.add_lt_add_left (inb_lt g7) 12⟩) q_703 ⟨rfl, rfl, Nat.le_of_ble_eq_true rfl, Nat.le_of_ble_eq_true rfl⟩ rfl rfl (Nat.le_of_ble_eq_true rfl) ⟨Nat.le_of_ble_eq_true rfl, Nat.le_of_ble_eq_true rfl⟩ dX6_whyRefused_68 (t := 71) rfl rfl ?_
          refine J_ifZ_eq (tgt := 78) hX dX6_whyRefused_71 (by decide) (t := 74) rfl (fun z => ?_) (fun z => ?_)
          · replace hF := ib_f hF z
            refine J_iconst (v := 0) hX dX6_whyRefused_78 (by decide) (t := 79) rfl ?_
            replace hF := Option.some.inj hF
            subst hF
            exact J_iret hX hR hlk dX6_whyRefused_79
          · replace hF := it_t hF z
            refine J_iconst (v := 5) hX dX6_whyRefused_74 (by decide) (t := 75) rfl ?_
            refine J_goto (tgt := 79) hX dX6_whyRefused_75 (by decide) ?_
            replace hF := Option.some.inj hF
            subst hF
            exact J_iret hX hR hlk dX6_whyRefused_79
        · replace hF := it_t hF z
          refine J_iconst (v := 4) hX dX6_whyRefused_60 (by decide) (t := 61) rfl ?_
          replace hF := Option.some.inj hF
          subst hF
          exact J_iret hX hR hlk dX6_whyRefused_61
      · replace hF := it_f hF z
        refine J_iconst (v := 3) hX dX6_whyRefused_49 (by decide) (t := 50) rfl ?_
        replace hF := Option.some.inj hF
        subst hF
        exact J_iret hX hR hlk dX6_whyRefused_50
    · replace hF := it_f hF z
      refine J_iconst (v := 2) hX dX6_whyRefused_24 (by decide) (t := 25) rfl ?_
      replace hF := Option.some.inj hF
      subst hF
      exact J_iret hX hR hlk dX6_whyRefused_25
  · replace hF := it_f hF z
    refine J_iconst (v := 1) hX dX6_whyRefused_9 (by decide) (t := 10) rfl ?_
    replace hF := Option.some.inj hF
    subst hF
    exact J_iret hX hR hlk dX6_whyRefused_10
def FX6_isOfferedBetter (M : MM) (j0 : Nat) (j1 : Nat) : Bool :=
  if M.1 j0 3 < M.1 j1 3 then
    true
  else
    if M.1 j0 3 = M.1 j1 3 then
      if M.1 j0 5 ≤ M.1 j1 5 then
        false
      else
        true
    else
      false
def FX6_valleyToBuyIn_L5 (n : Nat) : Nat → MM → Int32 → Int32 → Int32 → Int32 → Option (Int32)
  | 0 => fun _ _ _ _ _ => none
  | k + 1 => fun M l1 l2 l3 l4 =>
    if M.1 0 3 ≤ l4 then
      some l3
    else
      gd (inb l4 8) <|
      gd (inb l1 8) <|
      if M.1 (12 + l1.toNatClampNeg) 1 < (M.1 (4 + l4.toNatClampNeg) 1) * l2 then
        FX6_valleyToBuyIn_L5 n k M l1 l2 l3 (l4 + 1)
      else
        bo1 (FX6_whyRefused n M l1 l4 l2) fun x4 =>
        if x4 = 0 then
          if l3 = (-1) then
            FX6_valleyToBuyIn_L5 n k M l1 l2 l4 (l4 + 1)
          else
            gd (inb l4 8) <|
            gd (inb l3 8) <|
            bnd (FX6_isOfferedBetter M (4 + l4.toNatClampNeg) (4 + l3.toNatClampNeg)) fun x9 =>
            if x9 = true then
              FX6_valleyToBuyIn_L5 n k M l1 l2 l4 (l4 + 1)
            else
              FX6_valleyToBuyIn_L5 n k M l1 l2 l3 (l4 + 1)
        else
          FX6_valleyToBuyIn_L5 n k M l1 l2 l3 (l4 + 1)
def FX6_valleyToBuyIn (n : Nat) (M : MM) (p1 : Int32) (p2 : Int32) : Option (Int32) :=
  FX6_valleyToBuyIn_L5 n n M p1 p2 (-1) 0
def FX6_customerHearingMost_L4 (n : Nat) : Nat → MM → Int32 → Int32 → Option (Int32)
  | 0 => fun _ _ _ => none
  | k + 1 => fun M l1 l2 =>
    if M.1 0 4 ≤ l2 then
      some l1
    else
      if l1 = (-1) then
        FX6_customerHearingMost_L4 n k M l2 (l2 + 1)
      else
        gd (inb l2 8) <|
        gd (inb l1 8) <|
        if M.1 (12 + l2.toNatClampNeg) 6 ≤ M.1 (12 + l1.toNatClampNeg) 6 then
          FX6_customerHearingMost_L4 n k M l1 (l2 + 1)
        else
          FX6_customerHearingMost_L4 n k M l2 (l2 + 1)
def FX6_customerHearingMost (n : Nat) (M : MM)  : Option (Int32) :=
  FX6_customerHearingMost_L4 n n M (-1) 0
abbrev rmX8_secondOf : Room := { frames := 0, cells := 0, slots := 0, locals := 0 }
theorem miX8_secondOf : MI yX8_secondOf cX8_secondOf 2 (some .int) 1 := ⟨q_730, q_141, by decide +kernel, by decide +kernel, by decide +kernel, by decide +kernel⟩
theorem mvX8_secondOf : MV yX8_secondOf := ⟨q_728, q_729⟩
def FX8_secondOf (M : MM) (j0 : Nat) (p1 : Int32) : Int32 :=
  (M.1 j0 6) + ((M.1 j0 5) * p1)
set_option maxHeartbeats 4000000 in
set_option maxRecDepth 100000 in
theorem ctX8_secondOf {G : GG} {l : Launch} (w : Wd) (r : Nat) (hr : 1 ≤ r ∧ r ≤ 9) (M : MM) (j0 : Nat) (p1 : Int32) (hj0 : 20 ≤ j0 ∧ j0 < 50) {rx : Int32} (hF : FX8_secondOf M j0 p1 = rx) : CT G l yX8_secondOf cX8_secondOf 2 (some .int) rmX8_secondOf 0 0 [.ref (adr G r j0), .int p1] (sW w r M) (some (.int rx)) (sW w r M) := by
  refine CT.of miX8_secondOf [(0, .ref (adr G r j0)), (1, .int p1)] rfl (Nat.le_of_ble_eq_true rfl) ?_
  intro p e s m args below meth c hX hR hlk
  have hX : FX G RX8 cX8_secondOf 2 p s m args c := hX
  unfold FX8_secondOf at hF
  refine J_aload_n hX dX8_secondOf_0 0 rfl (t := 1) rfl ?_
  refine JM_get hX cb6 (kShout hr hj0) 6 (by decide) q_335 rfl dX8_secondOf_1 (t := 4) rfl ?_
  refine J_aload_n hX dX8_secondOf_4 0 rfl (t := 5) rfl ?_
  refine JM_get hX cb6 (kShout hr hj0) 5 (by decide) q_333 rfl dX8_secondOf_5 (t := 8) rfl ?_
  refine J_iload_n hX dX8_secondOf_8 1 rfl (t := 9) rfl ?_
  refine J_imul hX dX8_secondOf_9 (t := 10) rfl ?_
  refine J_iadd hX dX8_secondOf_10 (t := 11) rfl ?_
  subst hF
  exact J_iret hX hR hlk dX8_secondOf_11
abbrev rmX8_secondOfNext : Room := { frames := 1, cells := 0, slots := 0, locals := 21 }
theorem miX8_secondOfNext : MI yX8_secondOfNext cX8_secondOfNext 1 (some .int) 0 := ⟨q_726, q_141, by decide +kernel, by decide +kernel, by decide +kernel, by decide +kernel⟩
theorem mvX8_secondOfNext : MV yX8_secondOfNext := ⟨q_724, q_725⟩
def FX8_secondOfNext (M : MM) (j0 : Nat) : Int32 :=
  bnd (FX8_secondOf M j0 ((M.1 j0 9) + 1)) fun x2 =>
  x2
set_option maxHeartbeats 4000000 in
set_option maxRecDepth 100000 in
theorem ctX8_secondOfNext {G : GG} {l : Launch} (w : Wd) (r : Nat) (hr : 1 ≤ r ∧ r ≤ 9) (M : MM) (j0 : Nat) (hj0 : 20 ≤ j0 ∧ j0 < 50) {rx : Int32} (hF : FX8_secondOfNext M j0 = rx) : CT G l yX8_secondOfNext cX8_secondOfNext 1 (some .int) rmX8_secondOfNext 0 0 [.ref (adr G r j0)] (sW w r M) (some (.int rx)) (sW w r M) := by
  refine CT.of miX8_secondOfNext [(0, .ref (adr G r j0))] rfl (Nat.le_of_ble_eq_true rfl) ?_
  intro p e s m args below meth c hX hR hlk
  have hX : FX G RX8 cX8_secondOfNext 1 p s m args c := hX
  unfold FX8_secondOfNext at hF
  refine J_aload_n hX dX8_secondOfNext_0 0 rfl (t := 1) rfl ?_
  refine J_aload_n hX dX8_secondOfNext_1 0 rfl (t := 2) rfl ?_
  refine JM_get hX cb6 (kShout hr hj0) 9 (by decide) q_343 rfl dX8_secondOfNext_2 (t := 5) rfl ?_
  refine J_iconst (v := 1) hX dX8_secondOfNext_5 (by decide) (t := 6) rfl ?_
  refine J_iadd hX dX8_secondOfNext_6 (t := 7) rfl ?_
  obtain ⟨x2, h1, hF⟩ := bnd_e hF
  have k3 := (ctX8_secondOf (G := G) (l := l) w r hr M j0 ((M.1 j0 9) + 1) hj0 h1)
  refine J_callV hX [.int ((M.1 j0 9) + 1)] [] [.int x2] k3 miX8_secondOf mvX8_secondOf cb6 (kShout hr hj0) q_727 ⟨rfl, rfl, Nat.le_of_ble_eq_true rfl, Nat.le_of_ble_eq_true rfl⟩ rfl rfl (Nat.le_of_ble_eq_true rfl) ⟨Nat.le_of_ble_eq_true rfl, Nat.le_of_ble_eq_true rfl⟩ dX8_secondOfNext_7 (t := 10) rfl rfl ?_
  subst hF
  exact J_iret hX hR hlk dX8_secondOfNext_10
abbrev rmX6_secondOfNextEvent : Room := { frames := 2, cells := 0, slots := 0, locals := 41 }
theorem miX6_secondOfNextEvent : MI yX6_secondOfNextEvent cX6_secondOfNextEvent 5 (some .int) 0 := ⟨q_722, q_138, by decide +kernel, by decide +kernel, by decide +kernel, by decide +kernel⟩
theorem mvX6_secondOfNextEvent : MV yX6_secondOfNextEvent := ⟨q_720, q_721⟩
def FX6_secondOfNextEvent_L4 (n : Nat) : Nat → MM → Int32 → Int32 → Option (Int32)
  | 0 => fun _ _ _ => none
  | k + 1 => fun M l1 l2 =>
    if M.1 0 5 ≤ l2 then
      some l1
    else
      gd (inb l2 30) <|
      bnd (FX8_secondOfNext M (20 + l2.toNatClampNeg)) fun x3 =>
      bnd (FX8_isOpen M (20 + l2.toNatClampNeg)) fun x6 =>
      if x6 = true then
        if l1 = (-1) then
          FX6_secondOfNextEvent_L4 n k M (if (M.1 (20 + l2.toNatClampNeg) 7) < x3 then (M.1 (20 + l2.toNatClampNeg) 7) else x3) (l2 + 1)
        else
          if l1 ≤ if (M.1 (20 + l2.toNatClampNeg) 7) < x3 then (M.1 (20 + l2.toNatClampNeg) 7) else x3 then
            FX6_secondOfNextEvent_L4 n k M l1 (l2 + 1)
          else
            FX6_secondOfNextEvent_L4 n k M (if (M.1 (20 + l2.toNatClampNeg) 7) < x3 then (M.1 (20 + l2.toNatClampNeg) 7) else x3) (l2 + 1)
      else
        FX6_secondOfNextEvent_L4 n k M l1 (l2 + 1)
set_option maxHeartbeats 4000000 in
set_option maxRecDepth 100000 in
theorem LX6_secondOfNextEvent_4 {G : GG} {l : Launch} (w : Wd) (r : Nat) (hr : 1 ≤ r ∧ r ≤ 9) {p : Program} {e : Env} {s : State} {m : MethodId} {args : Array Value} {below : List Frame} {meth : Method} {c : Code} (hX : FX G RX6 cX6_secondOfNextEvent 5 p s m args c) (hR : meth.sig.returnType = (some .int)) (hlk : meth.locks = false) {rx : Int32} (n : Nat) : ∀ (k : Nat) (M : MM) (l1 : Int32) (l2 : Int32) , FX6_secondOfNextEvent_L4 n k M l1 l2 = some rx → J G p l e rmX6_secondOfNextEvent s m args below meth c 5 0 0 (MQ below (QV G (some (.int rx)) (sW w r M)) args s 0 0 (gA G)) (GH G (sW w r M)) 4 [(0, .ref (adr G r 0)), (1, .int l1), (2, .int l2)] [] := by
  intro k
  induction k with
  | zero => intro M l1 l2  hF; cases hF
  | succ k ih =>
    intro M l1 l2  hF
    simp only [FX6_secondOfNextEvent_L4] at hF
    refine J_iload_n hX dX6_secondOfNextEvent_4 2 rfl (t := 5) rfl ?_
    refine J_aload_n hX dX6_secondOfNextEvent_5 0 rfl (t := 6) rfl ?_
    refine JM_get hX cb4 (kMarket hr) 5 (by decide) q_383 rfl dX6_secondOfNextEvent_6 (t := 9) rfl ?_
    refine J_icmp_ge (tgt := 59) hX dX6_secondOfNextEvent_9 (by decide) (t := 12) rfl (fun z => ?_) (fun z => ?_)
    · replace hF := it_t hF z
      refine J_iload_n hX dX6_secondOfNextEvent_59 1 rfl (t := 60) rfl ?_
      replace hF := Option.some.inj hF
      subst hF
      exact J_iret hX hR hlk dX6_secondOfNextEvent_60
    · replace hF := it_f hF z
      refine J_aload_n hX dX6_secondOfNextEvent_12 0 rfl (t := 13) rfl ?_
      refine JM_get hX cb4 (kMarket hr) 2 (by decide) q_375 rfl dX6_secondOfNextEvent_13 (t := 16) rfl ?_
      refine J_iload_n hX dX6_secondOfNextEvent_16 2 rfl (t := 17) rfl ?_
      obtain ⟨g1, hF⟩ := gd_e hF
      refine J_aald (k := 5) hX (kShouts hr) rfl g1 dX6_secondOfNextEvent_17 (t := 18) rfl ?_
      refine J_astore_n (lc2 := [(3, .ref (adr G r (20 + l2.toNatClampNeg))), (0, .ref (adr G r 0)), (1, .int l1), (2, .int l2)]) hX dX6_secondOfNextEvent_18 rfl (Nat.le_of_ble_eq_true rfl) rfl (t := 19) rfl ?_
      refine J_aload_n hX dX6_secondOfNextEvent_19 0 rfl (t := 20) rfl ?_
      obtain ⟨x3, h2, hF⟩ := bnd_e hF
      have k4 := (ctX8_secondOfNext (G := G) (l := l) w r hr M (20 + l2.toNatClampNeg) ⟨Nat.le_add_right 20 _, Nat.add_lt_add_left (inb_lt g1) 20⟩ h2)
      refine J_callV hX [] [] [.int x3] k4 miX8_secondOfNext mvX8_secondOfNext cb6 (kShout hr ⟨Nat.le_add_right 20 _, Nat.add_lt_add_left (inb_lt g1) 20⟩) q_723 ⟨rfl, rfl, Nat.le_of_ble_eq_true rfl, Nat.le_of_ble_eq_true rfl⟩ rfl rfl (Nat.le_of_ble_eq_true rfl) ⟨Nat.le_of_ble_eq_true rfl, Nat.le_of_ble_eq_true rfl⟩ dX6_secondOfNextEvent_20 (t := 23) rfl rfl ?_
      refine J_aload_n hX dX6_secondOfNextEvent_23 0 rfl (t := 24) rfl ?_
      refine JM_get hX cb6 (kShout hr ⟨Nat.le_add_right 20 _, Nat.add_lt_add_left (inb_lt g1) 20⟩) 7 (by decide) q_338 rfl dX6_secondOfNextEvent_24 (t := 27) rfl ?_
      refine J_min hX ⟨q_731, q_732, q_162, q_733⟩ ⟨Nat.le_of_ble_eq_true rfl, Nat.le_of_ble_eq_true rfl, Nat.le_of_ble_eq_true rfl, Nat.le_of_ble_eq_true rfl⟩ dX6_secondOfNextEvent_27 (t := 30) rfl ?_
      refine J_istore (lc2 := [(4, .int (if (M.1 (20 + l2.toNatClampNeg) 7) < x3 then (M.1 (20 + l2.toNatClampNeg) 7) else x3)), (3, .ref (adr G r (20 + l2.toNatClampNeg))), (0, .ref (adr G r 0)), (1, .int l1), (2, .int l2)]) hX dX6_secondOfNextEvent_30 (Nat.le_of_ble_eq_true rfl) rfl (t := 32) rfl ?_
      refine J_aload_n hX dX6_secondOfNextEvent_32 1 rfl (t := 33) rfl ?_
      obtain ⟨x6, h5, hF⟩ := bnd_e hF
      have k7 := (ctX8_isOpen (G := G) (l := l) w r hr M (20 + l2.toNatClampNeg) ⟨Nat.le_add_right 20 _, Nat.add_lt_add_left (inb_lt g1) 20⟩ h5)
      refine J_callV hX [] [] [.int (bI x6)] k7 miX8_isOpen mvX8_isOpen cb6 (kShout hr ⟨Nat.le_add_right 20 _, Nat.add_lt_add_left (inb_lt g1) 20⟩) q_638 ⟨rfl, rfl, Nat.le_of_ble_eq_true rfl, Nat.le_of_ble_eq_true rfl⟩ rfl rfl (Nat.le_of_ble_eq_true rfl) ⟨Nat.le_of_ble_eq_true rfl, Nat.le_of_ble_eq_true rfl⟩ dX6_secondOfNextEvent_33 (t := 36) rfl rfl ?_
      refine J_ifZ_eq (tgt := 53) hX dX6_secondOfNextEvent_36 (by decide) (t := 39) rfl (fun z => ?_) (fun z => ?_)
      · replace hF := ib_f hF z
        refine J_iinc (v := l2 + 1) (lc2 := [(2, .int (l2 + 1)), (4, .int (if (M.1 (20 + l2.toNatClampNeg) 7) < x3 then (M.1 (20 + l2.toNatClampNeg) 7) else x3)), (3, .ref (adr G r (20 + l2.toNatClampNeg))), (0, .ref (adr G r 0)), (1, .int l1)]) hX dX6_secondOfNextEvent_53 4 rfl rfl (Nat.le_of_ble_eq_true rfl) rfl (t := 56) rfl ?_
        refine J_goto (tgt := 4) hX dX6_secondOfNextEvent_56 (by decide) ?_
        refine J_sub (lc2 := [(0, .ref (adr G r 0)), (1, .int l1), (2, .int (l2 + 1))]) [3, 4, 0] rfl ?_
        exact ih M l1 (l2 + 1) hF
      · replace hF := it_t hF z
        refine J_iload_n hX dX6_secondOfNextEvent_39 3 rfl (t := 40) rfl ?_
        refine J_iconst (v := (-1)) hX dX6_secondOfNextEvent_40 (by decide) (t := 41) rfl ?_
        refine J_icmp_eq (tgt := 50) hX dX6_secondOfNextEvent_41 (by decide) (t := 44) rfl (fun z => ?_) (fun z => ?_)
        · replace hF := it_t hF z
          refine J_iload hX dX6_secondOfNextEvent_50 0 rfl (t := 52) rfl ?_
          refine J_istore_n (lc2 := [(1, .int (if (M.1 (20 + l2.toNatClampNeg) 7) < x3 then (M.1 (20 + l2.toNatClampNeg) 7) else x3)), (4, .int (if (M.1 (20 + l2.toNatClampNeg) 7) < x3 then (M.1 (20 + l2.toNatClampNeg) 7) else x3)), (3, .ref (adr G r (20 + l2.toNatClampNeg))), (0, .ref (adr G r 0)), (2, .int l2)]) hX dX6_secondOfNextEvent_52 rfl (Nat.le_of_ble_eq_true rfl) rfl (t := 53) rfl ?_
          refine J_iinc (v := l2 + 1) (lc2 := [(2, .int (l2 + 1)), (1, .int (if (M.1 (20 + l2.toNatClampNeg) 7) < x3 then (M.1 (20 + l2.toNatClampNeg) 7) else x3)), (4, .int (if (M.1 (20 + l2.toNatClampNeg) 7) < x3 then (M.1 (20 + l2.toNatClampNeg) 7) else x3)), (3, .ref (adr G r (20 + l2.toNatClampNeg))), (0, .ref (adr G r 0))]) hX dX6_secondOfNextEvent_53 4 rfl rfl (Nat.le_of_ble_eq_true rfl) rfl (t := 56) rfl ?_
          refine J_goto (tgt := 4) hX dX6_secondOfNextEvent_56 (by decide) ?_
          refine J_sub (lc2 := [(0, .ref (adr G r 0)), (1, .int (if (M.1 (20 + l2.toNatClampNeg) 7) < x3 then (M.1 (20 + l2.toNatClampNeg) 7) else x3)), (2, .int (l2 + 1))]) [4, 1, 0] rfl ?_
          exact ih M (if (M.1 (20 + l2.toNatClampNeg) 7) < x3 then (M.1 (20 + l2.toNatClampNeg) 7) else x3) (l2 + 1) hF
        · replace hF := it_f hF z
          refine J_iload hX dX6_secondOfNextEvent_44 0 rfl (t := 46) rfl ?_
          refine J_iload_n hX dX6_secondOfNextEvent_46 3 rfl (t := 47) rfl ?_
          refine J_icmp_ge (tgt := 53) hX dX6_secondOfNextEvent_47 (by decide) (t := 50) rfl (fun z => ?_) (fun z => ?_)
          · replace hF := it_t hF z
            refine J_iinc (v := l2 + 1) (lc2 := [(2, .int (l2 + 1)), (4, .int (if (M.1 (20 + l2.toNatClampNeg) 7) < x3 then (M.1 (20 + l2.toNatClampNeg) 7) else x3)), (3, .ref (adr G r (20 + l2.toNatClampNeg))), (0, .ref (adr G r 0)), (1, .int l1)]) hX dX6_secondOfNextEvent_53 4 rfl rfl (Nat.le_of_ble_eq_true rfl) rfl (t := 56) rfl ?_
            refine J_goto (tgt := 4) hX dX6_secondOfNextEvent_56 (by decide) ?_
            refine J_sub (lc2 := [(0, .ref (adr G r 0)), (1, .int l1), (2, .int (l2 + 1))]) [3, 4, 0] rfl ?_
            exact ih M l1 (l2 + 1) hF
          · replace hF := it_f hF z
            refine J_iload hX dX6_secondOfNextEvent_50 0 rfl (t := 52) rfl ?_
            refine J_istore_n (lc2 := [(1, .int (if (M.1 (20 + l2.toNatClampNeg) 7) < x3 then (M.1 (20 + l2.toNatClampNeg) 7) else x3)), (4, .int (if (M.1 (20 + l2.toNatClampNeg) 7) < x3 then (M.1 (20 + l2.toNatClampNeg) 7) else x3)), (3, .ref (adr G r (20 + l2.toNatClampNeg))), (0, .ref (adr G r 0)), (2, .int l2)]) hX dX6_secondOfNextEvent_52 rfl (Nat.le_of_ble_eq_true rfl) rfl (t := 53) rfl ?_
            refine J_iinc (v := l2 + 1) (lc2 := [(2, .int (l2 + 1)), (1, .int (if (M.1 (20 + l2.toNatClampNeg) 7) < x3 then (M.1 (20 + l2.toNatClampNeg) 7) else x3)), (4, .int (if (M.1 (20 + l2.toNatClampNeg) 7) < x3 then (M.1 (20 + l2.toNatClampNeg) 7) else x3)), (3, .ref (adr G r (20 + l2.toNatClampNeg))), (0, .ref (adr G r 0))]) hX dX6_secondOfNextEvent_53 4 rfl rfl (Nat.le_of_ble_eq_true rfl) rfl (t := 56) rfl ?_
            refine J_goto (tgt := 4) hX dX6_secondOfNextEvent_56 (by decide) ?_
            refine J_sub (lc2 := [(0, .ref (adr G r 0)), (1, .int (if (M.1 (20 + l2.toNatClampNeg) 7) < x3 then (M.1 (20 + l2.toNatClampNeg) 7) else x3)), (2, .int (l2 + 1))]) [4, 1, 0] rfl ?_
            exact ih M (if (M.1 (20 + l2.toNatClampNeg) 7) < x3 then (M.1 (20 + l2.toNatClampNeg) 7) else x3) (l2 + 1) hF
def FX6_secondOfNextEvent (n : Nat) (M : MM)  : Option (Int32) :=
  FX6_secondOfNextEvent_L4 n n M (-1) 0
set_option maxHeartbeats 4000000 in
set_option maxRecDepth 100000 in
theorem ctX6_secondOfNextEvent {G : GG} {l : Launch} (w : Wd) (r : Nat) (hr : 1 ≤ r ∧ r ≤ 9) (M : MM)   (n : Nat) {rx : Int32} (hF : FX6_secondOfNextEvent n M  = some rx) : CT G l yX6_secondOfNextEvent cX6_secondOfNextEvent 5 (some .int) rmX6_secondOfNextEvent 0 0 [.ref (adr G r 0)] (sW w r M) (some (.int rx)) (sW w r M) := by
  refine CT.of miX6_secondOfNextEvent [(0, .ref (adr G r 0))] rfl (Nat.le_of_ble_eq_true rfl) ?_
  intro p e s m args below meth c hX hR hlk
  have hX : FX G RX6 cX6_secondOfNextEvent 5 p s m args c := hX
  unfold FX6_secondOfNextEvent at hF
  refine J_iconst (v := (-1)) hX dX6_secondOfNextEvent_0 (by decide) (t := 1) rfl ?_
  refine J_istore_n (lc2 := [(1, .int (-1)), (0, .ref (adr G r 0))]) hX dX6_secondOfNextEvent_1 rfl (Nat.le_of_ble_eq_true rfl) rfl (t := 2) rfl ?_
  refine J_iconst (v := 0) hX dX6_secondOfNextEvent_2 (by decide) (t := 3) rfl ?_
  refine J_istore_n (lc2 := [(2, .int 0), (1, .int (-1)), (0, .ref (adr G r 0))]) hX dX6_secondOfNextEvent_3 rfl (Nat.le_of_ble_eq_true rfl) rfl (t := 4) rfl ?_
  refine J_sub (lc2 := [(0, .ref (adr G r 0)), (1, .int (-1)), (2, .int 0)]) [2, 1, 0] rfl ?_
  exact LX6_secondOfNextEvent_4 w r hr hX hR hlk n n M (-1) 0 hF
abbrev rmX10_loudnessNeeded : Room := { frames := 0, cells := 0, slots := 0, locals := 0 }
theorem miX10_loudnessNeeded : MI yX10_loudnessNeeded cX10_loudnessNeeded 2 (some .int) 1 := ⟨q_1178, q_139, by decide +kernel, by decide +kernel, by decide +kernel, by decide +kernel⟩
theorem mvX10_loudnessNeeded : MV yX10_loudnessNeeded := ⟨q_1176, q_1177⟩
def FX10_loudnessNeeded (M : MM) (j0 : Nat) (p1 : Int32) : Int32 :=
  ((2 * p1) + (M.1 j0 4)) + 1
set_option maxHeartbeats 4000000 in
set_option maxRecDepth 100000 in
theorem ctX10_loudnessNeeded {G : GG} {l : Launch} (w : Wd) (r : Nat) (hr : 1 ≤ r ∧ r ≤ 9) (M : MM) (j0 : Nat) (p1 : Int32) (hj0 : 4 ≤ j0 ∧ j0 < 12) {rx : Int32} (hF : FX10_loudnessNeeded M j0 p1 = rx) : CT G l yX10_loudnessNeeded cX10_loudnessNeeded 2 (some .int) rmX10_loudnessNeeded 0 0 [.ref (adr G r j0), .int p1] (sW w r M) (some (.int rx)) (sW w r M) := by
  refine CT.of miX10_loudnessNeeded [(0, .ref (adr G r j0)), (1, .int p1)] rfl (Nat.le_of_ble_eq_true rfl) ?_
  intro p e s m args below meth c hX hR hlk
  have hX : FX G RX10 cX10_loudnessNeeded 2 p s m args c := hX
  unfold FX10_loudnessNeeded at hF
  refine J_iconst (v := 2) hX dX10_loudnessNeeded_0 (by decide) (t := 1) rfl ?_
  refine J_iload_n hX dX10_loudnessNeeded_1 1 rfl (t := 2) rfl ?_
  refine J_imul hX dX10_loudnessNeeded_2 (t := 3) rfl ?_
  refine J_aload_n hX dX10_loudnessNeeded_3 0 rfl (t := 4) rfl ?_
  refine JM_get hX cb8 (kValley hr hj0) 4 (by decide) q_247 rfl dX10_loudnessNeeded_4 (t := 7) rfl ?_
  refine J_iadd hX dX10_loudnessNeeded_7 (t := 8) rfl ?_
  refine J_iconst (v := 1) hX dX10_loudnessNeeded_8 (by decide) (t := 9) rfl ?_
  refine J_iadd hX dX10_loudnessNeeded_9 (t := 10) rfl ?_
  subst hF
  exact J_iret hX hR hlk dX10_loudnessNeeded_10
abbrev rmX6_isHeardFrom : Room := { frames := 1, cells := 0, slots := 0, locals := 21 }
theorem miX6_isHeardFrom : MI yX6_isHeardFrom cX6_isHeardFrom 3 (some .boolean) 2 := ⟨q_1174, q_138, by decide +kernel, by decide +kernel, by decide +kernel, by decide +kernel⟩
theorem mvX6_isHeardFrom : MV yX6_isHeardFrom := ⟨q_1173, q_16⟩
def FX6_isHeardFrom (M : MM) (j1 : Nat) (p2 : Int32) : Option (Bool) :=
  gd (inb (M.1 j1 1) 8) <|
  bnd (FX10_loudnessNeeded M (4 + (M.1 j1 1).toNatClampNeg) p2) fun x3 =>
  if M.1 j1 2 < x3 then
    some false
  else
    some true
set_option maxHeartbeats 4000000 in
set_option maxRecDepth 100000 in
theorem ctX6_isHeardFrom {G : GG} {l : Launch} (w : Wd) (r : Nat) (hr : 1 ≤ r ∧ r ≤ 9) (M : MM) (j1 : Nat) (p2 : Int32) (hj1 : 20 ≤ j1 ∧ j1 < 50) {rx : Bool} (hF : FX6_isHeardFrom M j1 p2 = some rx) : CT G l yX6_isHeardFrom cX6_isHeardFrom 3 (some .boolean) rmX6_isHeardFrom 0 0 [.ref (adr G r 0), .ref (adr G r j1), .int p2] (sW w r M) (some (.int (bI rx))) (sW w r M) := by
  refine CT.of miX6_isHeardFrom [(0, .ref (adr G r 0)), (1, .ref (adr G r j1)), (2, .int p2)] rfl (Nat.le_of_ble_eq_true rfl) ?_
  intro p e s m args below meth c hX hR hlk
  have hX : FX G RX6 cX6_isHeardFrom 3 p s m args c := hX
  unfold FX6_isHeardFrom at hF
  refine J_aload_n hX dX6_isHeardFrom_0 1 rfl (t := 1) rfl ?_
  refine JM_get hX cb6 (kShout hr hj1) 2 (by decide) q_327 rfl dX6_isHeardFrom_1 (t := 4) rfl ?_
  refine J_aload_n hX dX6_isHeardFrom_4 0 rfl (t := 5) rfl ?_
  refine JM_get hX cb4 (kMarket hr) 0 (by decide) q_371 rfl dX6_isHeardFrom_5 (t := 8) rfl ?_
  refine J_aload_n hX dX6_isHeardFrom_8 1 rfl (t := 9) rfl ?_
  refine JM_get hX cb6 (kShout hr hj1) 1 (by decide) q_324 rfl dX6_isHeardFrom_9 (t := 12) rfl ?_
  obtain ⟨g1, hF⟩ := gd_e hF
  refine J_aald (k := 3) hX (kValleys hr) rfl g1 dX6_isHeardFrom_12 (t := 13) rfl ?_
  refine J_iload_n hX dX6_isHeardFrom_13 2 rfl (t := 14) rfl ?_
  obtain ⟨x3, h2, hF⟩ := bnd_e hF
  have k4 := (ctX10_loudnessNeeded (G := G) (l := l) w r hr M (4 + (M.1 j1 1).toNatClampNeg) p2 ⟨Nat.le_add_right 4 _, Nat.add_lt_add_left (inb_lt g1) 4⟩ h2)
  refine J_callV hX [.int p2] [.int (M.1 j1 2)] [.int x3, .int (M.1 j1 2)] k4 miX10_loudnessNeeded mvX10_loudnessNeeded cb8 (kValley hr ⟨Nat.le_add_right 4 _, Nat.add_lt_add_left (inb_lt g1) 4⟩) q_1175 ⟨rfl, rfl, Nat.le_of_ble_eq_true rfl, Nat.le_of_ble_eq_true rfl⟩ rfl rfl (Nat.le_of_ble_eq_true rfl) ⟨Nat.le_of_ble_eq_true rfl, Nat.le_of_ble_eq_true rfl⟩ dX6_isHeardFrom_14 (t := 17) rfl rfl ?_
  refine J_icmp_lt (tgt := 24) hX dX6_isHeardFrom_17 (by decide) (t := 20) rfl (fun z => ?_) (fun z => ?_)
  · replace hF := it_t hF z
    refine J_iconst (v := 0) hX dX6_isHeardFrom_24 (by decide) (t := 25) rfl ?_
    replace hF := Option.some.inj hF
    subst hF
    exact J_zret (b := false) hX hR hlk dX6_isHeardFrom_25
  · replace hF := it_f hF z
    refine J_iconst (v := 1) hX dX6_isHeardFrom_20 (by decide) (t := 21) rfl ?_
    refine J_goto (tgt := 25) hX dX6_isHeardFrom_21 (by decide) ?_
    replace hF := Option.some.inj hF
    subst hF
    exact J_zret (b := true) hX hR hlk dX6_isHeardFrom_25
def FX6_earningsToCome_L20 (n : Nat) : Nat → MM → Nat → Int32 → Int32 → Int32 → Int32 → Option (Int32)
  | 0 => fun _ _ _ _ _ _ => none
  | k + 1 => fun M l1 l2 l3 l4 l5 =>
    if M.1 l1 3 < l5 then
      some l4
    else
      bnd (FX8_secondOf M l1 l5) fun x2 =>
      if l3 < x2 then
        FX6_earningsToCome_L20 n k M l1 l2 l3 (l4 + 0) (l5 + 1)
      else
        bo1 (FX6_isHeardFrom M l1 l5) fun x5 =>
        if x5 = true then
          FX6_earningsToCome_L20 n k M l1 l2 l3 (l4 + (M.1 l1 4)) (l5 + 1)
        else
          FX6_earningsToCome_L20 n k M l1 l2 l3 (l4 + 0) (l5 + 1)
def FX6_earningsToCome (n : Nat) (M : MM) (j1 : Nat) (p2 : Int32) : Option (Int32) :=
  FX6_earningsToCome_L20 n n M j1 p2 (if (M.1 j1 7) < p2 then (M.1 j1 7) else p2) 0 ((M.1 j1 9) + 1)
def FX6_earningsUntil_L7 (n : Nat) : Nat → MM → Int32 → Int32 → Int32 → Option (Int32)
  | 0 => fun _ _ _ _ => none
  | k + 1 => fun M l1 l2 l3 =>
    if M.1 0 5 ≤ l3 then
      some l2
    else
      gd (inb l3 30) <|
      bnd (FX8_isOpen M (20 + l3.toNatClampNeg)) fun x3 =>
      if x3 = true then
        gd (inb l3 30) <|
        bo1 (FX6_earningsToCome n M (20 + l3.toNatClampNeg) l1) fun x7 =>
        FX6_earningsUntil_L7 n k M l1 (l2 + x7) (l3 + 1)
      else
        FX6_earningsUntil_L7 n k M l1 (l2 + 0) (l3 + 1)
def FX6_earningsUntil (n : Nat) (M : MM) (p1 : Int32) : Option (Int32) :=
  FX6_earningsUntil_L7 n n M p1 (M.1 0 8) 0
abbrev rmX6_earn : Room := { frames := 0, cells := 0, slots := 0, locals := 0 }
theorem miX6_earn : MI yX6_earn cX6_earn 4 none 1 := ⟨q_1186, q_138, by decide +kernel, by decide +kernel, by decide +kernel, by decide +kernel⟩
theorem mvX6_earn : MV yX6_earn := ⟨q_1185, q_18⟩
def FX6_earn (M : MM) (j1 : Nat) : Option (MM) :=
  gd (inb (M.1 j1 1) 8) <|
  gd (inb (M.1 j1 0) 8) <|
  bnd (sI M j1 10 ((M.1 j1 10) ||| (1 <<< ((M.1 j1 9) &&& 31)))) fun M3 =>
  bnd (sI M3 (4 + (M.1 j1 1).toNatClampNeg) 5 ((M3.1 (4 + (M.1 j1 1).toNatClampNeg) 5) + 1)) fun M5 =>
  bnd (sI M5 (4 + (M.1 j1 1).toNatClampNeg) 6 ((M5.1 (4 + (M.1 j1 1).toNatClampNeg) 6) + (M5.1 j1 4))) fun M7 =>
  bnd (sI M7 0 8 ((M7.1 0 8) + (M7.1 j1 4))) fun M9 =>
  bnd (sI M9 (12 + (M.1 j1 0).toNatClampNeg) 5 ((M9.1 (12 + (M.1 j1 0).toNatClampNeg) 5) - (M9.1 j1 4))) fun M11 =>
  bnd (sI M11 0 10 ((M11.1 0 10) - (M11.1 j1 4))) fun M13 =>
  bnd (sI M13 (12 + (M.1 j1 0).toNatClampNeg) 6 ((M13.1 (12 + (M.1 j1 0).toNatClampNeg) 6) + 1)) fun M15 =>
  bnd (sI M15 0 11 ((M15.1 0 11) + 1)) fun M17 =>
  some M17
set_option maxHeartbeats 4000000 in
set_option maxRecDepth 100000 in
theorem ctX6_earn {G : GG} {l : Launch} (w : Wd) (r : Nat) (hr : 1 ≤ r ∧ r ≤ 9) (M : MM) (j1 : Nat) (hj1 : 20 ≤ j1 ∧ j1 < 50) {rw : MM} (hF : FX6_earn M j1 = some rw) : CT G l yX6_earn cX6_earn 4 none rmX6_earn 0 0 [.ref (adr G r 0), .ref (adr G r j1)] (sW w r M) (none) (sW w r rw) := by
  refine CT.of miX6_earn [(0, .ref (adr G r 0)), (1, .ref (adr G r j1))] rfl (Nat.le_of_ble_eq_true rfl) ?_
  intro p e s m args below meth c hX hR hlk
  have hX : FX G RX6 cX6_earn 4 p s m args c := hX
  unfold FX6_earn at hF
  refine J_aload_n hX dX6_earn_0 0 rfl (t := 1) rfl ?_
  refine JM_get hX cb4 (kMarket hr) 0 (by decide) q_371 rfl dX6_earn_1 (t := 4) rfl ?_
  refine J_aload_n hX dX6_earn_4 1 rfl (t := 5) rfl ?_
  refine JM_get hX cb6 (kShout hr hj1) 1 (by decide) q_324 rfl dX6_earn_5 (t := 8) rfl ?_
  obtain ⟨g1, hF⟩ := gd_e hF
  refine J_aald (k := 3) hX (kValleys hr) rfl g1 dX6_earn_8 (t := 9) rfl ?_
  refine J_astore_n (lc2 := [(2, .ref (adr G r (4 + (M.1 j1 1).toNatClampNeg))), (0, .ref (adr G r 0)), (1, .ref (adr G r j1))]) hX dX6_earn_9 rfl (Nat.le_of_ble_eq_true rfl) rfl (t := 10) rfl ?_
  refine J_aload_n hX dX6_earn_10 1 rfl (t := 11) rfl ?_
  refine JM_get hX cb4 (kMarket hr) 1 (by decide) q_373 rfl dX6_earn_11 (t := 14) rfl ?_
  refine J_aload_n hX dX6_earn_14 2 rfl (t := 15) rfl ?_
  refine JM_get hX cb6 (kShout hr hj1) 0 (by decide) q_321 rfl dX6_earn_15 (t := 18) rfl ?_
  obtain ⟨g2, hF⟩ := gd_e hF
  refine J_aald (k := 4) hX (kCustomers hr) rfl g2 dX6_earn_18 (t := 19) rfl ?_
  refine J_astore_n (lc2 := [(3, .ref (adr G r (12 + (M.1 j1 0).toNatClampNeg))), (2, .ref (adr G r (4 + (M.1 j1 1).toNatClampNeg))), (0, .ref (adr G r 0)), (1, .ref (adr G r j1))]) hX dX6_earn_19 rfl (Nat.le_of_ble_eq_true rfl) rfl (t := 20) rfl ?_
  refine J_aload_n hX dX6_earn_20 3 rfl (t := 21) rfl ?_
  refine J_dup hX dX6_earn_21 rfl (t := 22) rfl ?_
  refine JM_get hX cb6 (kShout hr hj1) 10 (by decide) q_347 rfl dX6_earn_22 (t := 25) rfl ?_
  refine J_iconst (v := 1) hX dX6_earn_25 (by decide) (t := 26) rfl ?_
  refine J_aload_n hX dX6_earn_26 3 rfl (t := 27) rfl ?_
  refine JM_get hX cb6 (kShout hr hj1) 9 (by decide) q_344 rfl dX6_earn_27 (t := 30) rfl ?_
  refine J_ishl hX dX6_earn_30 (t := 31) rfl ?_
  refine J_ior hX dX6_earn_31 (t := 32) rfl ?_
  obtain ⟨M3, e4, hF⟩ := bnd_e hF
  refine JM_puti hX cb6 (kShout hr hj1) 10 (by decide) q_347 rfl rfl e4 (fun _ _ => Nat.le_of_ble_eq_true rfl) (fun _ _ => rfl) dX6_earn_32 (t := 35) rfl ?_
  refine J_aload_n hX dX6_earn_35 1 rfl (t := 36) rfl ?_
  refine J_dup hX dX6_earn_36 rfl (t := 37) rfl ?_
  refine JM_get hX cb8 (kValley hr ⟨Nat.le_add_right 4 _, Nat.add_lt_add_left (inb_lt g1) 4⟩) 5 (by decide) q_250 rfl dX6_earn_37 (t := 40) rfl ?_
  refine J_iconst (v := 1) hX dX6_earn_40 (by decide) (t := 41) rfl ?_
  refine J_iadd hX dX6_earn_41 (t := 42) rfl ?_
  obtain ⟨M5, e6, hF⟩ := bnd_e hF
  refine JM_puti hX cb8 (kValley hr ⟨Nat.le_add_right 4 _, Nat.add_lt_add_left (inb_lt g1) 4⟩) 5 (by decide) q_250 rfl rfl e6 (fun _ _ => Nat.le_of_ble_eq_true rfl) (fun _ _ => rfl) dX6_earn_42 (t := 45) rfl ?_
  refine J_aload_n hX dX6_earn_45 1 rfl (t := 46) rfl ?_
  refine J_dup hX dX6_earn_46 rfl (t := 47) rfl ?_
  refine JM_get hX cb8 (kValley hr ⟨Nat.le_add_right 4 _, Nat.add_lt_add_left (inb_lt g1) 4⟩) 6 (by decide) q_254 rfl dX6_earn_47 (t := 50) rfl ?_
  refine J_aload_n hX dX6_earn_50 3 rfl (t := 51) rfl ?_
  refine JM_get hX cb6 (kShout hr hj1) 4 (by decide) q_332 rfl dX6_earn_51 (t := 54) rfl ?_
  refine J_iadd hX dX6_earn_54 (t := 55) rfl ?_
  obtain ⟨M7, e8, hF⟩ := bnd_e hF
  refine JM_puti hX cb8 (kValley hr ⟨Nat.le_add_right 4 _, Nat.add_lt_add_left (inb_lt g1) 4⟩) 6 (by decide) q_254 rfl rfl e8 (fun _ _ => Nat.le_of_ble_eq_true rfl) (fun _ _ => rfl) dX6_earn_55 (t := 58) rfl ?_
  refine J_aload_n hX dX6_earn_58 2 rfl (t := 59) rfl ?_
  refine J_dup hX dX6_earn_59 rfl (t := 60) rfl ?_
  refine JM_get hX cb4 (kMarket hr) 8 (by decide) q_390 rfl dX6_earn_60 (t := 63) rfl ?_
  refine J_aload_n hX dX6_earn_63 3 rfl (t := 64) rfl ?_
  refine JM_get hX cb6 (kShout hr hj1) 4 (by decide) q_332 rfl dX6_earn_64 (t := 67) rfl ?_
  refine J_iadd hX dX6_earn_67 (t := 68) rfl ?_
  obtain ⟨M9, e10, hF⟩ := bnd_e hF
  refine JM_puti hX cb4 (kMarket hr) 8 (by decide) q_390 rfl rfl e10 (fun _ _ => Nat.le_of_ble_eq_true rfl) (fun _ _ => rfl) dX6_earn_68 (t := 71) rfl ?_
  refine J_aload_n hX dX6_earn_71 0 rfl (t := 72) rfl ?_
  refine J_dup hX dX6_earn_72 rfl (t := 73) rfl ?_
  refine JM_get hX cb1 (kCustomer hr ⟨Nat.le_add_right 12 _, Nat.add_lt_add_left (inb_lt g2) 12⟩) 5 (by decide) q_295 rfl dX6_earn_73 (t := 76) rfl ?_
  refine J_aload_n hX dX6_earn_76 3 rfl (t := 77) rfl ?_
  refine JM_get hX cb6 (kShout hr hj1) 4 (by decide) q_332 rfl dX6_earn_77 (t := 80) rfl ?_
  refine J_isub hX dX6_earn_80 (t := 81) rfl ?_
  obtain ⟨M11, e12, hF⟩ := bnd_e hF
  refine JM_puti hX cb1 (kCustomer hr ⟨Nat.le_add_right 12 _, Nat.add_lt_add_left (inb_lt g2) 12⟩) 5 (by decide) q_295 rfl rfl e12 (fun _ _ => Nat.le_of_ble_eq_true rfl) (fun _ _ => rfl) dX6_earn_81 (t := 84) rfl ?_
  refine J_aload_n hX dX6_earn_84 2 rfl (t := 85) rfl ?_
  refine J_dup hX dX6_earn_85 rfl (t := 86) rfl ?_
  refine JM_get hX cb4 (kMarket hr) 10 (by decide) q_394 rfl dX6_earn_86 (t := 89) rfl ?_
  refine J_aload_n hX dX6_earn_89 3 rfl (t := 90) rfl ?_
  refine JM_get hX cb6 (kShout hr hj1) 4 (by decide) q_332 rfl dX6_earn_90 (t := 93) rfl ?_
  refine J_isub hX dX6_earn_93 (t := 94) rfl ?_
  obtain ⟨M13, e14, hF⟩ := bnd_e hF
  refine JM_puti hX cb4 (kMarket hr) 10 (by decide) q_394 rfl rfl e14 (fun _ _ => Nat.le_of_ble_eq_true rfl) (fun _ _ => rfl) dX6_earn_94 (t := 97) rfl ?_
  refine J_aload_n hX dX6_earn_97 0 rfl (t := 98) rfl ?_
  refine J_dup hX dX6_earn_98 rfl (t := 99) rfl ?_
  refine JM_get hX cb1 (kCustomer hr ⟨Nat.le_add_right 12 _, Nat.add_lt_add_left (inb_lt g2) 12⟩) 6 (by decide) q_298 rfl dX6_earn_99 (t := 102) rfl ?_
  refine J_iconst (v := 1) hX dX6_earn_102 (by decide) (t := 103) rfl ?_
  refine J_iadd hX dX6_earn_103 (t := 104) rfl ?_
  obtain ⟨M15, e16, hF⟩ := bnd_e hF
  refine JM_puti hX cb1 (kCustomer hr ⟨Nat.le_add_right 12 _, Nat.add_lt_add_left (inb_lt g2) 12⟩) 6 (by decide) q_298 rfl rfl e16 (fun _ _ => Nat.le_of_ble_eq_true rfl) (fun _ _ => rfl) dX6_earn_104 (t := 107) rfl ?_
  refine J_aload_n hX dX6_earn_107 2 rfl (t := 108) rfl ?_
  refine J_dup hX dX6_earn_108 rfl (t := 109) rfl ?_
  refine JM_get hX cb4 (kMarket hr) 11 (by decide) q_396 rfl dX6_earn_109 (t := 112) rfl ?_
  refine J_iconst (v := 1) hX dX6_earn_112 (by decide) (t := 113) rfl ?_
  refine J_iadd hX dX6_earn_113 (t := 114) rfl ?_
  obtain ⟨M17, e18, hF⟩ := bnd_e hF
  refine JM_puti hX cb4 (kMarket hr) 11 (by decide) q_396 rfl rfl e18 (fun _ _ => Nat.le_of_ble_eq_true rfl) (fun _ _ => rfl) dX6_earn_114 (t := 117) rfl ?_
  replace hF := Option.some.inj hF
  subst hF
  exact J_vret hX hR hlk dX6_earn_117
abbrev rmX6_refund : Room := { frames := 0, cells := 0, slots := 0, locals := 0 }
theorem miX6_refund : MI yX6_refund cX6_refund 4 none 2 := ⟨q_1190, q_138, by decide +kernel, by decide +kernel, by decide +kernel, by decide +kernel⟩
theorem mvX6_refund : MV yX6_refund := ⟨q_1189, q_19⟩
def FX6_refund (M : MM) (j1 : Nat) (p2 : Int32) : Option (MM) :=
  gd (inb (M.1 j1 0) 8) <|
  bnd (sI M (12 + (M.1 j1 0).toNatClampNeg) 5 ((M.1 (12 + (M.1 j1 0).toNatClampNeg) 5) - p2)) fun M2 =>
  bnd (sI M2 0 10 ((M2.1 0 10) - p2)) fun M4 =>
  bnd (sI M4 (12 + (M.1 j1 0).toNatClampNeg) 3 ((M4.1 (12 + (M.1 j1 0).toNatClampNeg) 3) + p2)) fun M6 =>
  bnd (sI M6 0 9 ((M6.1 0 9) + p2)) fun M8 =>
  some M8
set_option maxHeartbeats 4000000 in
set_option maxRecDepth 100000 in
theorem ctX6_refund {G : GG} {l : Launch} (w : Wd) (r : Nat) (hr : 1 ≤ r ∧ r ≤ 9) (M : MM) (j1 : Nat) (p2 : Int32) (hj1 : 20 ≤ j1 ∧ j1 < 50) {rw : MM} (hF : FX6_refund M j1 p2 = some rw) : CT G l yX6_refund cX6_refund 4 none rmX6_refund 0 0 [.ref (adr G r 0), .ref (adr G r j1), .int p2] (sW w r M) (none) (sW w r rw) := by
  refine CT.of miX6_refund [(0, .ref (adr G r 0)), (1, .ref (adr G r j1)), (2, .int p2)] rfl (Nat.le_of_ble_eq_true rfl) ?_
  intro p e s m args below meth c hX hR hlk
  have hX : FX G RX6 cX6_refund 4 p s m args c := hX
  unfold FX6_refund at hF
  refine J_aload_n hX dX6_refund_0 0 rfl (t := 1) rfl ?_
  refine JM_get hX cb4 (kMarket hr) 1 (by decide) q_373 rfl dX6_refund_1 (t := 4) rfl ?_
  refine J_aload_n hX dX6_refund_4 1 rfl (t := 5) rfl ?_
  refine JM_get hX cb6 (kShout hr hj1) 0 (by decide) q_321 rfl dX6_refund_5 (t := 8) rfl ?_
  obtain ⟨g1, hF⟩ := gd_e hF
  refine J_aald (k := 4) hX (kCustomers hr) rfl g1 dX6_refund_8 (t := 9) rfl ?_
  refine J_astore_n (lc2 := [(3, .ref (adr G r (12 + (M.1 j1 0).toNatClampNeg))), (0, .ref (adr G r 0)), (1, .ref (adr G r j1)), (2, .int p2)]) hX dX6_refund_9 rfl (Nat.le_of_ble_eq_true rfl) rfl (t := 10) rfl ?_
  refine J_aload_n hX dX6_refund_10 0 rfl (t := 11) rfl ?_
  refine J_dup hX dX6_refund_11 rfl (t := 12) rfl ?_
  refine JM_get hX cb1 (kCustomer hr ⟨Nat.le_add_right 12 _, Nat.add_lt_add_left (inb_lt g1) 12⟩) 5 (by decide) q_295 rfl dX6_refund_12 (t := 15) rfl ?_
  refine J_iload_n hX dX6_refund_15 3 rfl (t := 16) rfl ?_
  refine J_isub hX dX6_refund_16 (t := 17) rfl ?_
  obtain ⟨M2, e3, hF⟩ := bnd_e hF
  refine JM_puti hX cb1 (kCustomer hr ⟨Nat.le_add_right 12 _, Nat.add_lt_add_left (inb_lt g1) 12⟩) 5 (by decide) q_295 rfl rfl e3 (fun _ _ => Nat.le_of_ble_eq_true rfl) (fun _ _ => rfl) dX6_refund_17 (t := 20) rfl ?_
  refine J_aload_n hX dX6_refund_20 1 rfl (t := 21) rfl ?_
  refine J_dup hX dX6_refund_21 rfl (t := 22) rfl ?_
  refine JM_get hX cb4 (kMarket hr) 10 (by decide) q_394 rfl dX6_refund_22 (t := 25) rfl ?_
  refine J_iload_n hX dX6_refund_25 3 rfl (t := 26) rfl ?_
  refine J_isub hX dX6_refund_26 (t := 27) rfl ?_
  obtain ⟨M4, e5, hF⟩ := bnd_e hF
  refine JM_puti hX cb4 (kMarket hr) 10 (by decide) q_394 rfl rfl e5 (fun _ _ => Nat.le_of_ble_eq_true rfl) (fun _ _ => rfl) dX6_refund_27 (t := 30) rfl ?_
  refine J_aload_n hX dX6_refund_30 0 rfl (t := 31) rfl ?_
  refine J_dup hX dX6_refund_31 rfl (t := 32) rfl ?_
  refine JM_get hX cb1 (kCustomer hr ⟨Nat.le_add_right 12 _, Nat.add_lt_add_left (inb_lt g1) 12⟩) 3 (by decide) q_289 rfl dX6_refund_32 (t := 35) rfl ?_
  refine J_iload_n hX dX6_refund_35 3 rfl (t := 36) rfl ?_
  refine J_iadd hX dX6_refund_36 (t := 37) rfl ?_
  obtain ⟨M6, e7, hF⟩ := bnd_e hF
  refine JM_puti hX cb1 (kCustomer hr ⟨Nat.le_add_right 12 _, Nat.add_lt_add_left (inb_lt g1) 12⟩) 3 (by decide) q_289 rfl rfl e7 (fun _ _ => Nat.le_of_ble_eq_true rfl) (fun _ _ => rfl) dX6_refund_37 (t := 40) rfl ?_
  refine J_aload_n hX dX6_refund_40 1 rfl (t := 41) rfl ?_
  refine J_dup hX dX6_refund_41 rfl (t := 42) rfl ?_
  refine JM_get hX cb4 (kMarket hr) 9 (by decide) q_392 rfl dX6_refund_42 (t := 45) rfl ?_
  refine J_iload_n hX dX6_refund_45 3 rfl (t := 46) rfl ?_
  refine J_iadd hX dX6_refund_46 (t := 47) rfl ?_
  obtain ⟨M8, e9, hF⟩ := bnd_e hF
  refine JM_puti hX cb4 (kMarket hr) 9 (by decide) q_392 rfl rfl e9 (fun _ _ => Nat.le_of_ble_eq_true rfl) (fun _ _ => rfl) dX6_refund_47 (t := 50) rfl ?_
  replace hF := Option.some.inj hF
  subst hF
  exact J_vret hX hR hlk dX6_refund_50
abbrev rmX6_echo : Room := { frames := 1, cells := 0, slots := 0, locals := 23 }
theorem miX6_echo : MI yX6_echo cX6_echo 4 none 2 := ⟨q_1182, q_138, by decide +kernel, by decide +kernel, by decide +kernel, by decide +kernel⟩
theorem mvX6_echo : MV yX6_echo := ⟨q_1181, q_17⟩
def FX6_echo (M : MM) (j1 : Nat) (p2 : Bool) : Option (MM) :=
  if p2 = true then
    bo1 (FX6_earn M j1) fun M16 =>
    bnd (sI M16 j1 9 ((M16.1 j1 9) + 1)) fun M18 =>
    if M18.1 j1 9 = M18.1 j1 3 then
      bnd (sI M18 j1 8 1) fun M20 =>
      some M20
    else
      some M18
  else
    bo1 (FX6_refund M j1 (M.1 j1 4)) fun M2 =>
    gd (inb (M2.1 j1 1) 8) <|
    bnd (sI M2 (4 + (M2.1 j1 1).toNatClampNeg) 5 (if 0 < ((M2.1 (4 + (M2.1 j1 1).toNatClampNeg) 5) - 2) then ((M2.1 (4 + (M2.1 j1 1).toNatClampNeg) 5) - 2) else 0)) fun M5 =>
    bnd (sI M5 (4 + (M2.1 j1 1).toNatClampNeg) 7 ((M5.1 (4 + (M2.1 j1 1).toNatClampNeg) 7) + 1)) fun M7 =>
    bnd (sI M7 0 12 ((M7.1 0 12) + 1)) fun M9 =>
    bnd (sI M9 j1 9 ((M9.1 j1 9) + 1)) fun M11 =>
    if M11.1 j1 9 = M11.1 j1 3 then
      bnd (sI M11 j1 8 1) fun M13 =>
      some M13
    else
      some M11
set_option maxHeartbeats 4000000 in
set_option maxRecDepth 100000 in
theorem ctX6_echo {G : GG} {l : Launch} (w : Wd) (r : Nat) (hr : 1 ≤ r ∧ r ≤ 9) (M : MM) (j1 : Nat) (p2 : Bool) (hj1 : 20 ≤ j1 ∧ j1 < 50) {rw : MM} (hF : FX6_echo M j1 p2 = some rw) : CT G l yX6_echo cX6_echo 4 none rmX6_echo 0 0 [.ref (adr G r 0), .ref (adr G r j1), .int (bI p2)] (sW w r M) (none) (sW w r rw) := by
  refine CT.of miX6_echo [(0, .ref (adr G r 0)), (1, .ref (adr G r j1)), (2, .int (bI p2))] rfl (Nat.le_of_ble_eq_true rfl) ?_
  intro p e s m args below meth c hX hR hlk
  have hX : FX G RX6 cX6_echo 4 p s m args c := hX
  unfold FX6_echo at hF
  refine J_iload_n hX dX6_echo_0 2 rfl (t := 1) rfl ?_
  refine J_ifZ_eq (tgt := 12) hX dX6_echo_1 (by decide) (t := 4) rfl (fun z => ?_) (fun z => ?_)
  · replace hF := ib_f hF z
    refine J_aload_n hX dX6_echo_12 0 rfl (t := 13) rfl ?_
    refine J_aload_n hX dX6_echo_13 1 rfl (t := 14) rfl ?_
    refine J_aload_n hX dX6_echo_14 1 rfl (t := 15) rfl ?_
    refine JM_get hX cb6 (kShout hr hj1) 4 (by decide) q_332 rfl dX6_echo_15 (t := 18) rfl ?_
    obtain ⟨M2, h1, hF⟩ := bo1_e hF
    have k3 := (ctX6_refund (G := G) (l := l) w r hr M j1 (M.1 j1 4) hj1 h1)
    refine J_callV hX [.ref (adr G r j1), .int (M.1 j1 4)] [] [] k3 miX6_refund mvX6_refund cb4 (kMarket hr) q_1187 ⟨rfl, rfl, Nat.le_of_ble_eq_true rfl, Nat.le_of_ble_eq_true rfl⟩ rfl rfl (Nat.le_of_ble_eq_true rfl) ⟨Nat.le_of_ble_eq_true rfl, Nat.le_of_ble_eq_true rfl⟩ dX6_echo_18 (t := 21) rfl rfl ?_
    refine J_aload_n hX dX6_echo_21 0 rfl (t := 22) rfl ?_
    refine JM_get hX cb4 (kMarket hr) 0 (by decide) q_371 rfl dX6_echo_22 (t := 25) rfl ?_
    refine J_aload_n hX dX6_echo_25 1 rfl (t := 26) rfl ?_
    refine JM_get hX cb6 (kShout hr hj1) 1 (by decide) q_324 rfl dX6_echo_26 (t := 29) rfl ?_
    obtain ⟨g4, hF⟩ := gd_e hF
    refine J_aald (k := 3) hX (kValleys hr) rfl g4 dX6_echo_29 (t := 30) rfl ?_
    refine J_astore_n (lc2 := [(3, .ref (adr G r (4 + (M2.1 j1 1).toNatClampNeg))), (0, .ref (adr G r 0)), (1, .ref (adr G r j1)), (2, .int (bI p2))]) hX dX6_echo_30 rfl (Nat.le_of_ble_eq_true rfl) rfl (t := 31) rfl ?_
    refine J_aload_n hX dX6_echo_31 0 rfl (t := 32) rfl ?_
    refine J_iconst (v := 0) hX dX6_echo_32 (by decide) (t := 33) rfl ?_
    refine J_aload_n hX dX6_echo_33 0 rfl (t := 34) rfl ?_
    refine JM_get hX cb8 (kValley hr ⟨Nat.le_add_right 4 _, Nat.add_lt_add_left (inb_lt g4) 4⟩) 5 (by decide) q_250 rfl dX6_echo_34 (t := 37) rfl ?_
    refine J_iconst (v := 2) hX dX6_echo_37 (by decide) (t := 38) rfl ?_
    refine J_isub hX dX6_echo_38 (t := 39) rfl ?_
    refine J_max hX ⟨q_1191, q_1192, q_162, q_1193⟩ ⟨Nat.le_of_ble_eq_true rfl, Nat.le_of_ble_eq_true rfl, Nat.le_of_ble_eq_true rfl, Nat.le_of_ble_eq_true rfl⟩ dX6_echo_39 (t := 42) rfl ?_
    obtain ⟨M5, e6, hF⟩ := bnd_e hF
    refine JM_puti hX cb8 (kValley hr ⟨Nat.le_add_right 4 _, Nat.add_lt_add_left (inb_lt g4) 4⟩) 5 (by decide) q_250 rfl rfl e6 (fun _ _ => Nat.le_of_ble_eq_true rfl) (fun _ _ => rfl) dX6_echo_42 (t := 45) rfl ?_
    refine J_aload_n hX dX6_echo_45 0 rfl (t := 46) rfl ?_
    refine J_dup hX dX6_echo_46 rfl (t := 47) rfl ?_
    refine JM_get hX cb8 (kValley hr ⟨Nat.le_add_right 4 _, Nat.add_lt_add_left (inb_lt g4) 4⟩) 7 (by decide) q_257 rfl dX6_echo_47 (t := 50) rfl ?_
    refine J_iconst (v := 1) hX dX6_echo_50 (by decide) (t := 51) rfl ?_
    refine J_iadd hX dX6_echo_51 (t := 52) rfl ?_
    obtain ⟨M7, e8, hF⟩ := bnd_e hF
    refine JM_puti hX cb8 (kValley hr ⟨Nat.le_add_right 4 _, Nat.add_lt_add_left (inb_lt g4) 4⟩) 7 (by decide) q_257 rfl rfl e8 (fun _ _ => Nat.le_of_ble_eq_true rfl) (fun _ _ => rfl) dX6_echo_52 (t := 55) rfl ?_
    refine J_aload_n hX dX6_echo_55 1 rfl (t := 56) rfl ?_
    refine J_dup hX dX6_echo_56 rfl (t := 57) rfl ?_
    refine JM_get hX cb4 (kMarket hr) 12 (by decide) q_398 rfl dX6_echo_57 (t := 60) rfl ?_
    refine J_iconst (v := 1) hX dX6_echo_60 (by decide) (t := 61) rfl ?_
    refine J_iadd hX dX6_echo_61 (t := 62) rfl ?_
    obtain ⟨M9, e10, hF⟩ := bnd_e hF
    refine JM_puti hX cb4 (kMarket hr) 12 (by decide) q_398 rfl rfl e10 (fun _ _ => Nat.le_of_ble_eq_true rfl) (fun _ _ => rfl) dX6_echo_62 (t := 65) rfl ?_
    refine J_aload_n hX dX6_echo_65 2 rfl (t := 66) rfl ?_
    refine J_dup hX dX6_echo_66 rfl (t := 67) rfl ?_
    refine JM_get hX cb6 (kShout hr hj1) 9 (by decide) q_344 rfl dX6_echo_67 (t := 70) rfl ?_
    refine J_iconst (v := 1) hX dX6_echo_70 (by decide) (t := 71) rfl ?_
    refine J_iadd hX dX6_echo_71 (t := 72) rfl ?_
    obtain ⟨M11, e12, hF⟩ := bnd_e hF
    refine JM_puti hX cb6 (kShout hr hj1) 9 (by decide) q_344 rfl rfl e12 (fun _ _ => Nat.le_of_ble_eq_true rfl) (fun _ _ => rfl) dX6_echo_72 (t := 75) rfl ?_
    refine J_aload_n hX dX6_echo_75 2 rfl (t := 76) rfl ?_
    refine JM_get hX cb6 (kShout hr hj1) 9 (by decide) q_344 rfl dX6_echo_76 (t := 79) rfl ?_
    refine J_aload_n hX dX6_echo_79 2 rfl (t := 80) rfl ?_
    refine JM_get hX cb6 (kShout hr hj1) 3 (by decide) q_329 rfl dX6_echo_80 (t := 83) rfl ?_
    refine J_icmp_ne (tgt := 91) hX dX6_echo_83 (by decide) (t := 86) rfl (fun z => ?_) (fun z => ?_)
    · replace hF := it_f hF z
      replace hF := Option.some.inj hF
      subst hF
      exact J_vret hX hR hlk dX6_echo_91
    · replace hF := it_t hF z
      refine J_aload_n hX dX6_echo_86 2 rfl (t := 87) rfl ?_
      refine J_iconst (v := 1) hX dX6_echo_87 (by decide) (t := 88) rfl ?_
      obtain ⟨M13, e14, hF⟩ := bnd_e hF
      refine JM_puti hX cb6 (kShout hr hj1) 8 (by decide) q_341 rfl rfl e14 (fun _ _ => Nat.le_of_ble_eq_true rfl) (fun _ _ => rfl) dX6_echo_88 (t := 91) rfl ?_
      replace hF := Option.some.inj hF
      subst hF
      exact J_vret hX hR hlk dX6_echo_91
  · replace hF := it_t hF z
    refine J_aload_n hX dX6_echo_4 0 rfl (t := 5) rfl ?_
    refine J_aload_n hX dX6_echo_5 1 rfl (t := 6) rfl ?_
    obtain ⟨M16, h15, hF⟩ := bo1_e hF
    have k17 := (ctX6_earn (G := G) (l := l) w r hr M j1 hj1 h15)
    refine J_callV hX [.ref (adr G r j1)] [] [] k17 miX6_earn mvX6_earn cb4 (kMarket hr) q_1183 ⟨rfl, rfl, Nat.le_of_ble_eq_true rfl, Nat.le_of_ble_eq_true rfl⟩ rfl rfl (Nat.le_of_ble_eq_true rfl) ⟨Nat.le_of_ble_eq_true rfl, Nat.le_of_ble_eq_true rfl⟩ dX6_echo_6 (t := 9) rfl rfl ?_
    refine J_goto (tgt := 65) hX dX6_echo_9 (by decide) ?_
    refine J_aload_n hX dX6_echo_65 1 rfl (t := 66) rfl ?_
    refine J_dup hX dX6_echo_66 rfl (t := 67) rfl ?_
    refine JM_get hX cb6 (kShout hr hj1) 9 (by decide) q_344 rfl dX6_echo_67 (t := 70) rfl ?_
    refine J_iconst (v := 1) hX dX6_echo_70 (by decide) (t := 71) rfl ?_
    refine J_iadd hX dX6_echo_71 (t := 72) rfl ?_
    obtain ⟨M18, e19, hF⟩ := bnd_e hF
    refine JM_puti hX cb6 (kShout hr hj1) 9 (by decide) q_344 rfl rfl e19 (fun _ _ => Nat.le_of_ble_eq_true rfl) (fun _ _ => rfl) dX6_echo_72 (t := 75) rfl ?_
    refine J_aload_n hX dX6_echo_75 1 rfl (t := 76) rfl ?_
    refine JM_get hX cb6 (kShout hr hj1) 9 (by decide) q_344 rfl dX6_echo_76 (t := 79) rfl ?_
    refine J_aload_n hX dX6_echo_79 1 rfl (t := 80) rfl ?_
    refine JM_get hX cb6 (kShout hr hj1) 3 (by decide) q_329 rfl dX6_echo_80 (t := 83) rfl ?_
    refine J_icmp_ne (tgt := 91) hX dX6_echo_83 (by decide) (t := 86) rfl (fun z => ?_) (fun z => ?_)
    · replace hF := it_f hF z
      replace hF := Option.some.inj hF
      subst hF
      exact J_vret hX hR hlk dX6_echo_91
    · replace hF := it_t hF z
      refine J_aload_n hX dX6_echo_86 1 rfl (t := 87) rfl ?_
      refine J_iconst (v := 1) hX dX6_echo_87 (by decide) (t := 88) rfl ?_
      obtain ⟨M20, e21, hF⟩ := bnd_e hF
      refine JM_puti hX cb6 (kShout hr hj1) 8 (by decide) q_341 rfl rfl e21 (fun _ _ => Nat.le_of_ble_eq_true rfl) (fun _ _ => rfl) dX6_echo_88 (t := 91) rfl ?_
      replace hF := Option.some.inj hF
      subst hF
      exact J_vret hX hR hlk dX6_echo_91
abbrev rmX6_returnDueEchoes : Room := { frames := 2, cells := 0, slots := 0, locals := 46 }
theorem miX6_returnDueEchoes : MI yX6_returnDueEchoes cX6_returnDueEchoes 4 (some .int) 0 := ⟨q_1170, q_138, by decide +kernel, by decide +kernel, by decide +kernel, by decide +kernel⟩
theorem mvX6_returnDueEchoes : MV yX6_returnDueEchoes := ⟨q_1169, q_15⟩
def FX6_returnDueEchoes_L4 (n : Nat) : Nat → MM → Int32 → Int32 → Option (Int32 × MM)
  | 0 => fun _ _ _ => none
  | k + 1 => fun M l1 l2 =>
    if M.1 0 5 ≤ l2 then
      some (l1, M)
    else
      gd (inb l2 30) <|
      bnd (FX8_isOpen M (20 + l2.toNatClampNeg)) fun x3 =>
      if x3 = true then
        bnd (FX8_secondOfNext M (20 + l2.toNatClampNeg)) fun x6 =>
        if x6 = M.1 0 6 then
          bo1 (FX6_isHeardFrom M (20 + l2.toNatClampNeg) ((M.1 (20 + l2.toNatClampNeg) 9) + 1)) fun x9 =>
          bo1 (FX6_echo M (20 + l2.toNatClampNeg) x9) fun M12 =>
          FX6_returnDueEchoes_L4 n k M12 (l1 + 1) (l2 + 1)
        else
          FX6_returnDueEchoes_L4 n k M l1 (l2 + 1)
      else
        FX6_returnDueEchoes_L4 n k M l1 (l2 + 1)
set_option maxHeartbeats 4000000 in
set_option maxRecDepth 100000 in
theorem LX6_returnDueEchoes_4 {G : GG} {l : Launch} (w : Wd) (r : Nat) (hr : 1 ≤ r ∧ r ≤ 9) {p : Program} {e : Env} {s : State} {m : MethodId} {args : Array Value} {below : List Frame} {meth : Method} {c : Code} (hX : FX G RX6 cX6_returnDueEchoes 4 p s m args c) (hR : meth.sig.returnType = (some .int)) (hlk : meth.locks = false) {rx : Int32} {rw : MM} (n : Nat) : ∀ (k : Nat) (M : MM) (l1 : Int32) (l2 : Int32) , FX6_returnDueEchoes_L4 n k M l1 l2 = some (rx, rw) → J G p l e rmX6_returnDueEchoes s m args below meth c 4 0 0 (MQ below (QV G (some (.int rx)) (sW w r rw)) args s 0 0 (gA G)) (GH G (sW w r M)) 4 [(0, .ref (adr G r 0)), (1, .int l1), (2, .int l2)] [] := by
  intro k
  induction k with
  | zero => intro M l1 l2  hF; cases hF
  | succ k ih =>
    intro M l1 l2  hF
    simp only [FX6_returnDueEchoes_L4] at hF
    refine J_iload_n hX dX6_returnDueEchoes_4 2 rfl (t := 5) rfl ?_
    refine J_aload_n hX dX6_returnDueEchoes_5 0 rfl (t := 6) rfl ?_
    refine JM_get hX cb4 (kMarket hr) 5 (by decide) q_383 rfl dX6_returnDueEchoes_6 (t := 9) rfl ?_
    refine J_icmp_ge (tgt := 62) hX dX6_returnDueEchoes_9 (by decide) (t := 12) rfl (fun z => ?_) (fun z => ?_)
    · replace hF := it_t hF z
      refine J_iload_n hX dX6_returnDueEchoes_62 1 rfl (t := 63) rfl ?_
      replace hF := Option.some.inj hF
      obtain ⟨hF, hF2⟩ := Prod.mk.inj hF
      subst hF
      subst hF2
      exact J_iret hX hR hlk dX6_returnDueEchoes_63
    · replace hF := it_f hF z
      refine J_aload_n hX dX6_returnDueEchoes_12 0 rfl (t := 13) rfl ?_
      refine JM_get hX cb4 (kMarket hr) 2 (by decide) q_375 rfl dX6_returnDueEchoes_13 (t := 16) rfl ?_
      refine J_iload_n hX dX6_returnDueEchoes_16 2 rfl (t := 17) rfl ?_
      obtain ⟨g1, hF⟩ := gd_e hF
      refine J_aald (k := 5) hX (kShouts hr) rfl g1 dX6_returnDueEchoes_17 (t := 18) rfl ?_
      refine J_astore_n (lc2 := [(3, .ref (adr G r (20 + l2.toNatClampNeg))), (0, .ref (adr G r 0)), (1, .int l1), (2, .int l2)]) hX dX6_returnDueEchoes_18 rfl (Nat.le_of_ble_eq_true rfl) rfl (t := 19) rfl ?_
      refine J_aload_n hX dX6_returnDueEchoes_19 0 rfl (t := 20) rfl ?_
      obtain ⟨x3, h2, hF⟩ := bnd_e hF
      have k4 := (ctX8_isOpen (G := G) (l := l) w r hr M (20 + l2.toNatClampNeg) ⟨Nat.le_add_right 20 _, Nat.add_lt_add_left (inb_lt g1) 20⟩ h2)
      refine J_callV hX [] [] [.int (bI x3)] k4 miX8_isOpen mvX8_isOpen cb6 (kShout hr ⟨Nat.le_add_right 20 _, Nat.add_lt_add_left (inb_lt g1) 20⟩) q_638 ⟨rfl, rfl, Nat.le_of_ble_eq_true rfl, Nat.le_of_ble_eq_true rfl⟩ rfl rfl (Nat.le_of_ble_eq_true rfl) ⟨Nat.le_of_ble_eq_true rfl, Nat.le_of_ble_eq_true rfl⟩ dX6_returnDueEchoes_20 (t := 23) rfl rfl ?_
      refine J_ifZ_eq (tgt := 56) hX dX6_returnDueEchoes_23 (by decide) (t := 26) rfl (fun z => ?_) (fun z => ?_)
      · replace hF := ib_f hF z
        refine J_iinc (v := l2 + 1) (lc2 := [(2, .int (l2 + 1)), (3, .ref (adr G r (20 + l2.toNatClampNeg))), (0, .ref (adr G r 0)), (1, .int l1)]) hX dX6_returnDueEchoes_56 3 rfl rfl (Nat.le_of_ble_eq_true rfl) rfl (t := 59) rfl ?_
        refine J_goto (tgt := 4) hX dX6_returnDueEchoes_59 (by decide) ?_
        refine J_sub (lc2 := [(0, .ref (adr G r 0)), (1, .int l1), (2, .int (l2 + 1))]) [2, 3, 0] rfl ?_
        exact ih M l1 (l2 + 1) hF
      · replace hF := it_t hF z
        refine J_aload_n hX dX6_returnDueEchoes_26 0 rfl (t := 27) rfl ?_
        obtain ⟨x6, h5, hF⟩ := bnd_e hF
        have k7 := (ctX8_secondOfNext (G := G) (l := l) w r hr M (20 + l2.toNatClampNeg) ⟨Nat.le_add_right 20 _, Nat.add_lt_add_left (inb_lt g1) 20⟩ h5)
        refine J_callV hX [] [] [.int x6] k7 miX8_secondOfNext mvX8_secondOfNext cb6 (kShout hr ⟨Nat.le_add_right 20 _, Nat.add_lt_add_left (inb_lt g1) 20⟩) q_723 ⟨rfl, rfl, Nat.le_of_ble_eq_true rfl, Nat.le_of_ble_eq_true rfl⟩ rfl rfl (Nat.le_of_ble_eq_true rfl) ⟨Nat.le_of_ble_eq_true rfl, Nat.le_of_ble_eq_true rfl⟩ dX6_returnDueEchoes_27 (t := 30) rfl rfl ?_
        refine J_aload_n hX dX6_returnDueEchoes_30 1 rfl (t := 31) rfl ?_
        refine JM_get hX cb4 (kMarket hr) 6 (by decide) q_386 rfl dX6_returnDueEchoes_31 (t := 34) rfl ?_
        refine J_icmp_ne (tgt := 56) hX dX6_returnDueEchoes_34 (by decide) (t := 37) rfl (fun z => ?_) (fun z => ?_)
        · replace hF := it_f hF z
          refine J_iinc (v := l2 + 1) (lc2 := [(2, .int (l2 + 1)), (3, .ref (adr G r (20 + l2.toNatClampNeg))), (0, .ref (adr G r 0)), (1, .int l1)]) hX dX6_returnDueEchoes_56 3 rfl rfl (Nat.le_of_ble_eq_true rfl) rfl (t := 59) rfl ?_
          refine J_goto (tgt := 4) hX dX6_returnDueEchoes_59 (by decide) ?_
          refine J_sub (lc2 := [(0, .ref (adr G r 0)), (1, .int l1), (2, .int (l2 + 1))]) [2, 3, 0] rfl ?_
          exact ih M l1 (l2 + 1) hF
        · replace hF := it_t hF z
          refine J_aload_n hX dX6_returnDueEchoes_37 1 rfl (t := 38) rfl ?_
          refine J_aload_n hX dX6_returnDueEchoes_38 0 rfl (t := 39) rfl ?_
          refine J_aload_n hX dX6_returnDueEchoes_39 1 rfl (t := 40) rfl ?_
          refine J_aload_n hX dX6_returnDueEchoes_40 0 rfl (t := 41) rfl ?_
          refine J_aload_n hX dX6_returnDueEchoes_41 0 rfl (t := 42) rfl ?_
          refine JM_get hX cb6 (kShout hr ⟨Nat.le_add_right 20 _, Nat.add_lt_add_left (inb_lt g1) 20⟩) 9 (by decide) q_344 rfl dX6_returnDueEchoes_42 (t := 45) rfl ?_
          refine J_iconst (v := 1) hX dX6_returnDueEchoes_45 (by decide) (t := 46) rfl ?_
          refine J_iadd hX dX6_returnDueEchoes_46 (t := 47) rfl ?_
          obtain ⟨x9, h8, hF⟩ := bo1_e hF
          have k10 := (ctX6_isHeardFrom (G := G) (l := l) w r hr M (20 + l2.toNatClampNeg) ((M.1 (20 + l2.toNatClampNeg) 9) + 1) ⟨Nat.le_add_right 20 _, Nat.add_lt_add_left (inb_lt g1) 20⟩ h8)
          refine J_callV hX [.ref (adr G r (20 + l2.toNatClampNeg)), .int ((M.1 (20 + l2.toNatClampNeg) 9) + 1)] [.ref (adr G r (20 + l2.toNatClampNeg)), .ref (adr G r 0)] [.int (bI x9), .ref (adr G r (20 + l2.toNatClampNeg)), .ref (adr G r 0)] k10 miX6_isHeardFrom mvX6_isHeardFrom cb4 (kMarket hr) q_1171 ⟨rfl, rfl, Nat.le_of_ble_eq_true rfl, Nat.le_of_ble_eq_true rfl⟩ rfl rfl (Nat.le_of_ble_eq_true rfl) ⟨Nat.le_of_ble_eq_true rfl, Nat.le_of_ble_eq_true rfl⟩ dX6_returnDueEchoes_47 (t := 50) rfl rfl ?_
          obtain ⟨M12, h11, hF⟩ := bo1_e hF
          have k13 := (ctX6_echo (G := G) (l := l) w r hr M (20 + l2.toNatClampNeg) x9 ⟨Nat.le_add_right 20 _, Nat.add_lt_add_left (inb_lt g1) 20⟩ h11)
          refine J_callV hX [.ref (adr G r (20 + l2.toNatClampNeg)), .int (bI x9)] [] [] k13 miX6_echo mvX6_echo cb4 (kMarket hr) q_1179 ⟨rfl, rfl, Nat.le_of_ble_eq_true rfl, Nat.le_of_ble_eq_true rfl⟩ rfl rfl (Nat.le_of_ble_eq_true rfl) ⟨Nat.le_of_ble_eq_true rfl, Nat.le_of_ble_eq_true rfl⟩ dX6_returnDueEchoes_50 (t := 53) rfl rfl ?_
          refine J_iinc (v := l1 + 1) (lc2 := [(1, .int (l1 + 1)), (3, .ref (adr G r (20 + l2.toNatClampNeg))), (0, .ref (adr G r 0)), (2, .int l2)]) hX dX6_returnDueEchoes_53 2 rfl rfl (Nat.le_of_ble_eq_true rfl) rfl (t := 56) rfl ?_
          refine J_iinc (v := l2 + 1) (lc2 := [(2, .int (l2 + 1)), (1, .int (l1 + 1)), (3, .ref (adr G r (20 + l2.toNatClampNeg))), (0, .ref (adr G r 0))]) hX dX6_returnDueEchoes_56 3 rfl rfl (Nat.le_of_ble_eq_true rfl) rfl (t := 59) rfl ?_
          refine J_goto (tgt := 4) hX dX6_returnDueEchoes_59 (by decide) ?_
          refine J_sub (lc2 := [(0, .ref (adr G r 0)), (1, .int (l1 + 1)), (2, .int (l2 + 1))]) [3, 1, 0] rfl ?_
          exact ih M12 (l1 + 1) (l2 + 1) hF
def FX6_returnDueEchoes (n : Nat) (M : MM)  : Option (Int32 × MM) :=
  FX6_returnDueEchoes_L4 n n M 0 0
set_option maxHeartbeats 4000000 in
set_option maxRecDepth 100000 in
theorem ctX6_returnDueEchoes {G : GG} {l : Launch} (w : Wd) (r : Nat) (hr : 1 ≤ r ∧ r ≤ 9) (M : MM)   (n : Nat) {rx : Int32} {rw : MM} (hF : FX6_returnDueEchoes n M  = some (rx, rw)) : CT G l yX6_returnDueEchoes cX6_returnDueEchoes 4 (some .int) rmX6_returnDueEchoes 0 0 [.ref (adr G r 0)] (sW w r M) (some (.int rx)) (sW w r rw) := by
  refine CT.of miX6_returnDueEchoes [(0, .ref (adr G r 0))] rfl (Nat.le_of_ble_eq_true rfl) ?_
  intro p e s m args below meth c hX hR hlk
  have hX : FX G RX6 cX6_returnDueEchoes 4 p s m args c := hX
  unfold FX6_returnDueEchoes at hF
  refine J_iconst (v := 0) hX dX6_returnDueEchoes_0 (by decide) (t := 1) rfl ?_
  refine J_istore_n (lc2 := [(1, .int 0), (0, .ref (adr G r 0))]) hX dX6_returnDueEchoes_1 rfl (Nat.le_of_ble_eq_true rfl) rfl (t := 2) rfl ?_
  refine J_iconst (v := 0) hX dX6_returnDueEchoes_2 (by decide) (t := 3) rfl ?_
  refine J_istore_n (lc2 := [(2, .int 0), (1, .int 0), (0, .ref (adr G r 0))]) hX dX6_returnDueEchoes_3 rfl (Nat.le_of_ble_eq_true rfl) rfl (t := 4) rfl ?_
  refine J_sub (lc2 := [(0, .ref (adr G r 0)), (1, .int 0), (2, .int 0)]) [2, 1, 0] rfl ?_
  exact LX6_returnDueEchoes_4 w r hr hX hR hlk n n M 0 0 hF
abbrev rmX8_amountToCome : Room := { frames := 0, cells := 0, slots := 0, locals := 0 }
theorem miX8_amountToCome : MI yX8_amountToCome cX8_amountToCome 1 (some .int) 0 := ⟨q_1205, q_141, by decide +kernel, by decide +kernel, by decide +kernel, by decide +kernel⟩
theorem mvX8_amountToCome : MV yX8_amountToCome := ⟨q_1203, q_1204⟩
def FX8_amountToCome (M : MM) (j0 : Nat) : Int32 :=
  (M.1 j0 4) * ((M.1 j0 3) - (M.1 j0 9))
set_option maxHeartbeats 4000000 in
set_option maxRecDepth 100000 in
theorem ctX8_amountToCome {G : GG} {l : Launch} (w : Wd) (r : Nat) (hr : 1 ≤ r ∧ r ≤ 9) (M : MM) (j0 : Nat) (hj0 : 20 ≤ j0 ∧ j0 < 50) {rx : Int32} (hF : FX8_amountToCome M j0 = rx) : CT G l yX8_amountToCome cX8_amountToCome 1 (some .int) rmX8_amountToCome 0 0 [.ref (adr G r j0)] (sW w r M) (some (.int rx)) (sW w r M) := by
  refine CT.of miX8_amountToCome [(0, .ref (adr G r j0))] rfl (Nat.le_of_ble_eq_true rfl) ?_
  intro p e s m args below meth c hX hR hlk
  have hX : FX G RX8 cX8_amountToCome 1 p s m args c := hX
  unfold FX8_amountToCome at hF
  refine J_aload_n hX dX8_amountToCome_0 0 rfl (t := 1) rfl ?_
  refine JM_get hX cb6 (kShout hr hj0) 4 (by decide) q_331 rfl dX8_amountToCome_1 (t := 4) rfl ?_
  refine J_aload_n hX dX8_amountToCome_4 0 rfl (t := 5) rfl ?_
  refine JM_get hX cb6 (kShout hr hj0) 3 (by decide) q_328 rfl dX8_amountToCome_5 (t := 8) rfl ?_
  refine J_aload_n hX dX8_amountToCome_8 0 rfl (t := 9) rfl ?_
  refine JM_get hX cb6 (kShout hr hj0) 9 (by decide) q_343 rfl dX8_amountToCome_9 (t := 12) rfl ?_
  refine J_isub hX dX8_amountToCome_12 (t := 13) rfl ?_
  refine J_imul hX dX8_amountToCome_13 (t := 14) rfl ?_
  subst hF
  exact J_iret hX hR hlk dX8_amountToCome_14
abbrev rmX6_callOff : Room := { frames := 1, cells := 0, slots := 0, locals := 23 }
theorem miX6_callOff : MI yX6_callOff cX6_callOff 4 (some .int) 1 := ⟨q_1201, q_138, by decide +kernel, by decide +kernel, by decide +kernel, by decide +kernel⟩
theorem mvX6_callOff : MV yX6_callOff := ⟨q_1199, q_1200⟩
def FX6_callOff (M : MM) (p1 : Int32) : Option (Int32 × MM) :=
  gd (inb p1 30) <|
  bnd (FX8_amountToCome M (20 + p1.toNatClampNeg)) fun x3 =>
  bnd (sI M (20 + p1.toNatClampNeg) 8 2) fun M5 =>
  bo1 (FX6_refund M5 (20 + p1.toNatClampNeg) x3) fun M8 =>
  some (x3, M8)
set_option maxHeartbeats 4000000 in
set_option maxRecDepth 100000 in
theorem ctX6_callOff {G : GG} {l : Launch} (w : Wd) (r : Nat) (hr : 1 ≤ r ∧ r ≤ 9) (M : MM) (p1 : Int32)  {rx : Int32} {rw : MM} (hF : FX6_callOff M p1 = some (rx, rw)) : CT G l yX6_callOff cX6_callOff 4 (some .int) rmX6_callOff 0 0 [.ref (adr G r 0), .int p1] (sW w r M) (some (.int rx)) (sW w r rw) := by
  refine CT.of miX6_callOff [(0, .ref (adr G r 0)), (1, .int p1)] rfl (Nat.le_of_ble_eq_true rfl) ?_
  intro p e s m args below meth c hX hR hlk
  have hX : FX G RX6 cX6_callOff 4 p s m args c := hX
  unfold FX6_callOff at hF
  refine J_aload_n hX dX6_callOff_0 0 rfl (t := 1) rfl ?_
  refine JM_get hX cb4 (kMarket hr) 2 (by decide) q_375 rfl dX6_callOff_1 (t := 4) rfl ?_
  refine J_iload_n hX dX6_callOff_4 1 rfl (t := 5) rfl ?_
  obtain ⟨g1, hF⟩ := gd_e hF
  refine J_aald (k := 5) hX (kShouts hr) rfl g1 dX6_callOff_5 (t := 6) rfl ?_
  refine J_astore_n (lc2 := [(2, .ref (adr G r (20 + p1.toNatClampNeg))), (0, .ref (adr G r 0)), (1, .int p1)]) hX dX6_callOff_6 rfl (Nat.le_of_ble_eq_true rfl) rfl (t := 7) rfl ?_
  refine J_aload_n hX dX6_callOff_7 0 rfl (t := 8) rfl ?_
  obtain ⟨x3, h2, hF⟩ := bnd_e hF
  have k4 := (ctX8_amountToCome (G := G) (l := l) w r hr M (20 + p1.toNatClampNeg) ⟨Nat.le_add_right 20 _, Nat.add_lt_add_left (inb_lt g1) 20⟩ h2)
  refine J_callV hX [] [] [.int x3] k4 miX8_amountToCome mvX8_amountToCome cb6 (kShout hr ⟨Nat.le_add_right 20 _, Nat.add_lt_add_left (inb_lt g1) 20⟩) q_1202 ⟨rfl, rfl, Nat.le_of_ble_eq_true rfl, Nat.le_of_ble_eq_true rfl⟩ rfl rfl (Nat.le_of_ble_eq_true rfl) ⟨Nat.le_of_ble_eq_true rfl, Nat.le_of_ble_eq_true rfl⟩ dX6_callOff_8 (t := 11) rfl rfl ?_
  refine J_istore_n (lc2 := [(3, .int x3), (2, .ref (adr G r (20 + p1.toNatClampNeg))), (0, .ref (adr G r 0)), (1, .int p1)]) hX dX6_callOff_11 rfl (Nat.le_of_ble_eq_true rfl) rfl (t := 12) rfl ?_
  refine J_aload_n hX dX6_callOff_12 1 rfl (t := 13) rfl ?_
  refine J_iconst (v := 2) hX dX6_callOff_13 (by decide) (t := 14) rfl ?_
  obtain ⟨M5, e6, hF⟩ := bnd_e hF
  refine JM_puti hX cb6 (kShout hr ⟨Nat.le_add_right 20 _, Nat.add_lt_add_left (inb_lt g1) 20⟩) 8 (by decide) q_341 rfl rfl e6 (fun _ _ => Nat.le_of_ble_eq_true rfl) (fun _ _ => rfl) dX6_callOff_14 (t := 17) rfl ?_
  refine J_aload_n hX dX6_callOff_17 2 rfl (t := 18) rfl ?_
  refine J_aload_n hX dX6_callOff_18 1 rfl (t := 19) rfl ?_
  refine J_iload_n hX dX6_callOff_19 0 rfl (t := 20) rfl ?_
  obtain ⟨M8, h7, hF⟩ := bo1_e hF
  have k9 := (ctX6_refund (G := G) (l := l) w r hr M5 (20 + p1.toNatClampNeg) x3 ⟨Nat.le_add_right 20 _, Nat.add_lt_add_left (inb_lt g1) 20⟩ h7)
  refine J_callV hX [.ref (adr G r (20 + p1.toNatClampNeg)), .int x3] [] [] k9 miX6_refund mvX6_refund cb4 (kMarket hr) q_1187 ⟨rfl, rfl, Nat.le_of_ble_eq_true rfl, Nat.le_of_ble_eq_true rfl⟩ rfl rfl (Nat.le_of_ble_eq_true rfl) ⟨Nat.le_of_ble_eq_true rfl, Nat.le_of_ble_eq_true rfl⟩ dX6_callOff_20 (t := 23) rfl rfl ?_
  refine J_iload_n hX dX6_callOff_23 0 rfl (t := 24) rfl ?_
  replace hF := Option.some.inj hF
  obtain ⟨hF, hF2⟩ := Prod.mk.inj hF
  subst hF
  subst hF2
  exact J_iret hX hR hlk dX6_callOff_24
abbrev rmX6_losePatience : Room := { frames := 2, cells := 0, slots := 0, locals := 46 }
theorem miX6_losePatience : MI yX6_losePatience cX6_losePatience 2 none 0 := ⟨q_1197, q_138, by decide +kernel, by decide +kernel, by decide +kernel, by decide +kernel⟩
theorem mvX6_losePatience : MV yX6_losePatience := ⟨q_1196, q_20⟩
def FX6_losePatience_L2 (n : Nat) : Nat → MM → Int32 → Option (MM)
  | 0 => fun _ _ => none
  | k + 1 => fun M l1 =>
    if M.1 0 5 ≤ l1 then
      some M
    else
      gd (inb l1 30) <|
      bnd (FX8_isOpen M (20 + l1.toNatClampNeg)) fun x3 =>
      if x3 = true then
        gd (inb l1 30) <|
        if M.1 (20 + l1.toNatClampNeg) 7 = M.1 0 6 then
          bo2 (FX6_callOff M l1) fun x7 M8 =>
          FX6_losePatience_L2 n k M8 (l1 + 1)
        else
          FX6_losePatience_L2 n k M (l1 + 1)
      else
        FX6_losePatience_L2 n k M (l1 + 1)
set_option maxHeartbeats 4000000 in
set_option maxRecDepth 100000 in
theorem LX6_losePatience_2 {G : GG} {l : Launch} (w : Wd) (r : Nat) (hr : 1 ≤ r ∧ r ≤ 9) {p : Program} {e : Env} {s : State} {m : MethodId} {args : Array Value} {below : List Frame} {meth : Method} {c : Code} (hX : FX G RX6 cX6_losePatience 2 p s m args c) (hR : meth.sig.returnType = none) (hlk : meth.locks = false) {rw : MM} (n : Nat) : ∀ (k : Nat) (M : MM) (l1 : Int32) , FX6_losePatience_L2 n k M l1 = some rw → J G p l e rmX6_losePatience s m args below meth c 2 0 0 (MQ below (QV G (none) (sW w r rw)) args s 0 0 (gA G)) (GH G (sW w r M)) 2 [(0, .ref (adr G r 0)), (1, .int l1)] [] := by
  intro k
  induction k with
  | zero => intro M l1  hF; cases hF
  | succ k ih =>
    intro M l1  hF
    simp only [FX6_losePatience_L2] at hF
    refine J_iload_n hX dX6_losePatience_2 1 rfl (t := 3) rfl ?_
    refine J_aload_n hX dX6_losePatience_3 0 rfl (t := 4) rfl ?_
    refine JM_get hX cb4 (kMarket hr) 5 (by decide) q_383 rfl dX6_losePatience_4 (t := 7) rfl ?_
    refine J_icmp_ge (tgt := 50) hX dX6_losePatience_7 (by decide) (t := 10) rfl (fun z => ?_) (fun z => ?_)
    · replace hF := it_t hF z
      replace hF := Option.some.inj hF
      subst hF
      exact J_vret hX hR hlk dX6_losePatience_50
    · replace hF := it_f hF z
      refine J_aload_n hX dX6_losePatience_10 0 rfl (t := 11) rfl ?_
      refine JM_get hX cb4 (kMarket hr) 2 (by decide) q_375 rfl dX6_losePatience_11 (t := 14) rfl ?_
      refine J_iload_n hX dX6_losePatience_14 1 rfl (t := 15) rfl ?_
      obtain ⟨g1, hF⟩ := gd_e hF
      refine J_aald (k := 5) hX (kShouts hr) rfl g1 dX6_losePatience_15 (t := 16) rfl ?_
      obtain ⟨x3, h2, hF⟩ := bnd_e hF
      have k4 := (ctX8_isOpen (G := G) (l := l) w r hr M (20 + l1.toNatClampNeg) ⟨Nat.le_add_right 20 _, Nat.add_lt_add_left (inb_lt g1) 20⟩ h2)
      refine J_callV hX [] [] [.int (bI x3)] k4 miX8_isOpen mvX8_isOpen cb6 (kShout hr ⟨Nat.le_add_right 20 _, Nat.add_lt_add_left (inb_lt g1) 20⟩) q_638 ⟨rfl, rfl, Nat.le_of_ble_eq_true rfl, Nat.le_of_ble_eq_true rfl⟩ rfl rfl (Nat.le_of_ble_eq_true rfl) ⟨Nat.le_of_ble_eq_true rfl, Nat.le_of_ble_eq_true rfl⟩ dX6_losePatience_16 (t := 19) rfl rfl ?_
      refine J_ifZ_eq (tgt := 44) hX dX6_losePatience_19 (by decide) (t := 22) rfl (fun z => ?_) (fun z => ?_)
      · replace hF := ib_f hF z
        refine J_iinc (v := l1 + 1) (lc2 := [(1, .int (l1 + 1)), (0, .ref (adr G r 0))]) hX dX6_losePatience_44 1 rfl rfl (Nat.le_of_ble_eq_true rfl) rfl (t := 47) rfl ?_
        refine J_goto (tgt := 2) hX dX6_losePatience_47 (by decide) ?_
        refine J_sub (lc2 := [(0, .ref (adr G r 0)), (1, .int (l1 + 1))]) [1, 0] rfl ?_
        exact ih M (l1 + 1) hF
      · replace hF := it_t hF z
        refine J_aload_n hX dX6_losePatience_22 0 rfl (t := 23) rfl ?_
        refine JM_get hX cb4 (kMarket hr) 2 (by decide) q_375 rfl dX6_losePatience_23 (t := 26) rfl ?_
        refine J_iload_n hX dX6_losePatience_26 1 rfl (t := 27) rfl ?_
        obtain ⟨g5, hF⟩ := gd_e hF
        refine J_aald (k := 5) hX (kShouts hr) rfl g5 dX6_losePatience_27 (t := 28) rfl ?_
        refine JM_get hX cb6 (kShout hr ⟨Nat.le_add_right 20 _, Nat.add_lt_add_left (inb_lt g5) 20⟩) 7 (by decide) q_338 rfl dX6_losePatience_28 (t := 31) rfl ?_
        refine J_aload_n hX dX6_losePatience_31 0 rfl (t := 32) rfl ?_
        refine JM_get hX cb4 (kMarket hr) 6 (by decide) q_386 rfl dX6_losePatience_32 (t := 35) rfl ?_
        refine J_icmp_ne (tgt := 44) hX dX6_losePatience_35 (by decide) (t := 38) rfl (fun z => ?_) (fun z => ?_)
        · replace hF := it_f hF z
          refine J_iinc (v := l1 + 1) (lc2 := [(1, .int (l1 + 1)), (0, .ref (adr G r 0))]) hX dX6_losePatience_44 1 rfl rfl (Nat.le_of_ble_eq_true rfl) rfl (t := 47) rfl ?_
          refine J_goto (tgt := 2) hX dX6_losePatience_47 (by decide) ?_
          refine J_sub (lc2 := [(0, .ref (adr G r 0)), (1, .int (l1 + 1))]) [1, 0] rfl ?_
          exact ih M (l1 + 1) hF
        · replace hF := it_t hF z
          refine J_aload_n hX dX6_losePatience_38 0 rfl (t := 39) rfl ?_
          refine J_iload_n hX dX6_losePatience_39 1 rfl (t := 40) rfl ?_
          obtain ⟨x7, M8, h6, hF⟩ := bo2_e hF
          have k9 := (ctX6_callOff (G := G) (l := l) w r hr M l1 h6)
          refine J_callV hX [.int l1] [] [.int x7] k9 miX6_callOff mvX6_callOff cb4 (kMarket hr) q_1198 ⟨rfl, rfl, Nat.le_of_ble_eq_true rfl, Nat.le_of_ble_eq_true rfl⟩ rfl rfl (Nat.le_of_ble_eq_true rfl) ⟨Nat.le_of_ble_eq_true rfl, Nat.le_of_ble_eq_true rfl⟩ dX6_losePatience_40 (t := 43) rfl rfl ?_
          refine J_pop hX dX6_losePatience_43 rfl (t := 44) rfl ?_
          refine J_iinc (v := l1 + 1) (lc2 := [(1, .int (l1 + 1)), (0, .ref (adr G r 0))]) hX dX6_losePatience_44 1 rfl rfl (Nat.le_of_ble_eq_true rfl) rfl (t := 47) rfl ?_
          refine J_goto (tgt := 2) hX dX6_losePatience_47 (by decide) ?_
          refine J_sub (lc2 := [(0, .ref (adr G r 0)), (1, .int (l1 + 1))]) [1, 0] rfl ?_
          exact ih M8 (l1 + 1) hF
def FX6_losePatience (n : Nat) (M : MM)  : Option (MM) :=
  FX6_losePatience_L2 n n M 0
set_option maxHeartbeats 4000000 in
set_option maxRecDepth 100000 in
theorem ctX6_losePatience {G : GG} {l : Launch} (w : Wd) (r : Nat) (hr : 1 ≤ r ∧ r ≤ 9) (M : MM)   (n : Nat) {rw : MM} (hF : FX6_losePatience n M  = some rw) : CT G l yX6_losePatience cX6_losePatience 2 none rmX6_losePatience 0 0 [.ref (adr G r 0)] (sW w r M) (none) (sW w r rw) := by
  refine CT.of miX6_losePatience [(0, .ref (adr G r 0))] rfl (Nat.le_of_ble_eq_true rfl) ?_
  intro p e s m args below meth c hX hR hlk
  have hX : FX G RX6 cX6_losePatience 2 p s m args c := hX
  unfold FX6_losePatience at hF
  refine J_iconst (v := 0) hX dX6_losePatience_0 (by decide) (t := 1) rfl ?_
  refine J_istore_n (lc2 := [(1, .int 0), (0, .ref (adr G r 0))]) hX dX6_losePatience_1 rfl (Nat.le_of_ble_eq_true rfl) rfl (t := 2) rfl ?_
  refine J_sub (lc2 := [(0, .ref (adr G r 0)), (1, .int 0)]) [1, 0] rfl ?_
  exact LX6_losePatience_2 w r hr hX hR hlk n n M 0 hF
abbrev rmX6_letPass : Room := { frames := 3, cells := 0, slots := 0, locals := 69 }
theorem miX6_letPass : MI yX6_letPass cX6_letPass 6 (some .int) 1 := ⟨q_1165, q_138, by decide +kernel, by decide +kernel, by decide +kernel, by decide +kernel⟩
theorem mvX6_letPass : MV yX6_letPass := ⟨q_1163, q_1164⟩
def FX6_letPass_L12 (n : Nat) : Nat → MM → Int32 → Int32 → Int32 → Int32 → Option (Int32 × MM)
  | 0 => fun _ _ _ _ _ => none
  | k + 1 => fun M l1 l2 l3 l4 =>
    if l1 ≤ l4 then
      some (l3, M)
    else
      if l2 ≤ M.1 0 6 then
        some (l3, M)
      else
        bo1 (FX6_secondOfNextEvent n M) fun x2 =>
        if x2 = (-1) then
          bnd (sI M 0 6 l2) fun M4 =>
          FX6_letPass_L12 n k M4 l1 l2 l3 (l4 + 1)
        else
          if x2 ≤ l2 then
            bnd (sI M 0 6 x2) fun M6 =>
            bo2 (FX6_returnDueEchoes n M6) fun x9 M10 =>
            bo1 (FX6_losePatience n M10) fun M13 =>
            FX6_letPass_L12 n k M13 l1 l2 (l3 + x9) (l4 + 1)
          else
            bnd (sI M 0 6 l2) fun M15 =>
            FX6_letPass_L12 n k M15 l1 l2 l3 (l4 + 1)
set_option maxHeartbeats 4000000 in
set_option maxRecDepth 100000 in
theorem LX6_letPass_12 {G : GG} {l : Launch} (w : Wd) (r : Nat) (hr : 1 ≤ r ∧ r ≤ 9) {p : Program} {e : Env} {s : State} {m : MethodId} {args : Array Value} {below : List Frame} {meth : Method} {c : Code} (hX : FX G RX6 cX6_letPass 6 p s m args c) (hR : meth.sig.returnType = (some .int)) (hlk : meth.locks = false) {rx : Int32} {rw : MM} (n : Nat) : ∀ (k : Nat) (M : MM) (l1 : Int32) (l2 : Int32) (l3 : Int32) (l4 : Int32) , FX6_letPass_L12 n k M l1 l2 l3 l4 = some (rx, rw) → J G p l e rmX6_letPass s m args below meth c 6 0 0 (MQ below (QV G (some (.int rx)) (sW w r rw)) args s 0 0 (gA G)) (GH G (sW w r M)) 12 [(0, .ref (adr G r 0)), (1, .int l1), (2, .int l2), (3, .int l3), (4, .int l4)] [] := by
  intro k
  induction k with
  | zero => intro M l1 l2 l3 l4  hF; cases hF
  | succ k ih =>
    intro M l1 l2 l3 l4  hF
    simp only [FX6_letPass_L12] at hF
    refine J_iload hX dX6_letPass_12 4 rfl (t := 14) rfl ?_
    refine J_iload_n hX dX6_letPass_14 1 rfl (t := 15) rfl ?_
    refine J_icmp_ge (tgt := 75) hX dX6_letPass_15 (by decide) (t := 18) rfl (fun z => ?_) (fun z => ?_)
    · replace hF := it_t hF z
      refine J_iload_n hX dX6_letPass_75 3 rfl (t := 76) rfl ?_
      replace hF := Option.some.inj hF
      obtain ⟨hF, hF2⟩ := Prod.mk.inj hF
      subst hF
      subst hF2
      exact J_iret hX hR hlk dX6_letPass_76
    · replace hF := it_f hF z
      refine J_aload_n hX dX6_letPass_18 0 rfl (t := 19) rfl ?_
      refine JM_get hX cb4 (kMarket hr) 6 (by decide) q_386 rfl dX6_letPass_19 (t := 22) rfl ?_
      refine J_iload_n hX dX6_letPass_22 2 rfl (t := 23) rfl ?_
      refine J_icmp_ge (tgt := 75) hX dX6_letPass_23 (by decide) (t := 26) rfl (fun z => ?_) (fun z => ?_)
      · replace hF := it_t hF z
        refine J_iload_n hX dX6_letPass_75 3 rfl (t := 76) rfl ?_
        replace hF := Option.some.inj hF
        obtain ⟨hF, hF2⟩ := Prod.mk.inj hF
        subst hF
        subst hF2
        exact J_iret hX hR hlk dX6_letPass_76
      · replace hF := it_f hF z
        refine J_aload_n hX dX6_letPass_26 0 rfl (t := 27) rfl ?_
        obtain ⟨x2, h1, hF⟩ := bo1_e hF
        have k3 := (ctX6_secondOfNextEvent (G := G) (l := l) w r hr M  n h1)
        refine J_callV hX [] [] [.int x2] k3 miX6_secondOfNextEvent mvX6_secondOfNextEvent cb4 (kMarket hr) q_1166 ⟨rfl, rfl, Nat.le_of_ble_eq_true rfl, Nat.le_of_ble_eq_true rfl⟩ rfl rfl (Nat.le_of_ble_eq_true rfl) ⟨Nat.le_of_ble_eq_true rfl, Nat.le_of_ble_eq_true rfl⟩ dX6_letPass_27 (t := 30) rfl rfl ?_
        refine J_istore (lc2 := [(5, .int x2), (0, .ref (adr G r 0)), (1, .int l1), (2, .int l2), (3, .int l3), (4, .int l4)]) hX dX6_letPass_30 (Nat.le_of_ble_eq_true rfl) rfl (t := 32) rfl ?_
        refine J_iload hX dX6_letPass_32 0 rfl (t := 34) rfl ?_
        refine J_iconst (v := (-1)) hX dX6_letPass_34 (by decide) (t := 35) rfl ?_
        refine J_icmp_eq (tgt := 44) hX dX6_letPass_35 (by decide) (t := 38) rfl (fun z => ?_) (fun z => ?_)
        · replace hF := it_t hF z
          refine J_aload_n hX dX6_letPass_44 1 rfl (t := 45) rfl ?_
          refine J_iload_n hX dX6_letPass_45 3 rfl (t := 46) rfl ?_
          obtain ⟨M4, e5, hF⟩ := bnd_e hF
          refine JM_puti hX cb4 (kMarket hr) 6 (by decide) q_386 rfl rfl e5 (fun _ _ => Nat.le_of_ble_eq_true rfl) (fun _ _ => rfl) dX6_letPass_46 (t := 49) rfl ?_
          refine J_goto (tgt := 69) hX dX6_letPass_49 (by decide) ?_
          refine J_iinc (v := l4 + 1) (lc2 := [(4, .int (l4 + 1)), (5, .int x2), (0, .ref (adr G r 0)), (1, .int l1), (2, .int l2), (3, .int l3)]) hX dX6_letPass_69 5 rfl rfl (Nat.le_of_ble_eq_true rfl) rfl (t := 72) rfl ?_
          refine J_goto (tgt := 12) hX dX6_letPass_72 (by decide) ?_
          refine J_sub (lc2 := [(0, .ref (adr G r 0)), (1, .int l1), (2, .int l2), (3, .int l3), (4, .int (l4 + 1))]) [2, 3, 4, 5, 0] rfl ?_
          exact ih M4 l1 l2 l3 (l4 + 1) hF
        · replace hF := it_f hF z
          refine J_iload hX dX6_letPass_38 0 rfl (t := 40) rfl ?_
          refine J_iload_n hX dX6_letPass_40 3 rfl (t := 41) rfl ?_
          refine J_icmp_le (tgt := 52) hX dX6_letPass_41 (by decide) (t := 44) rfl (fun z => ?_) (fun z => ?_)
          · replace hF := it_t hF z
            refine J_aload_n hX dX6_letPass_52 1 rfl (t := 53) rfl ?_
            refine J_iload hX dX6_letPass_53 0 rfl (t := 55) rfl ?_
            obtain ⟨M6, e7, hF⟩ := bnd_e hF
            refine JM_puti hX cb4 (kMarket hr) 6 (by decide) q_386 rfl rfl e7 (fun _ _ => Nat.le_of_ble_eq_true rfl) (fun _ _ => rfl) dX6_letPass_55 (t := 58) rfl ?_
            refine J_iload_n hX dX6_letPass_58 4 rfl (t := 59) rfl ?_
            refine J_aload_n hX dX6_letPass_59 1 rfl (t := 60) rfl ?_
            obtain ⟨x9, M10, h8, hF⟩ := bo2_e hF
            have k11 := (ctX6_returnDueEchoes (G := G) (l := l) w r hr M6  n h8)
            refine J_callV hX [] [.int l3] [.int x9, .int l3] k11 miX6_returnDueEchoes mvX6_returnDueEchoes cb4 (kMarket hr) q_1167 ⟨rfl, rfl, Nat.le_of_ble_eq_true rfl, Nat.le_of_ble_eq_true rfl⟩ rfl rfl (Nat.le_of_ble_eq_true rfl) ⟨Nat.le_of_ble_eq_true rfl, Nat.le_of_ble_eq_true rfl⟩ dX6_letPass_60 (t := 63) rfl rfl ?_
            refine J_iadd hX dX6_letPass_63 (t := 64) rfl ?_
            refine J_istore_n (lc2 := [(3, .int (l3 + x9)), (5, .int x2), (0, .ref (adr G r 0)), (1, .int l1), (2, .int l2), (4, .int l4)]) hX dX6_letPass_64 rfl (Nat.le_of_ble_eq_true rfl) rfl (t := 65) rfl ?_
            refine J_aload_n hX dX6_letPass_65 2 rfl (t := 66) rfl ?_
            obtain ⟨M13, h12, hF⟩ := bo1_e hF
            have k14 := (ctX6_losePatience (G := G) (l := l) w r hr M10  n h12)
            refine J_callV hX [] [] [] k14 miX6_losePatience mvX6_losePatience cb4 (kMarket hr) q_1194 ⟨rfl, rfl, Nat.le_of_ble_eq_true rfl, Nat.le_of_ble_eq_true rfl⟩ rfl rfl (Nat.le_of_ble_eq_true rfl) ⟨Nat.le_of_ble_eq_true rfl, Nat.le_of_ble_eq_true rfl⟩ dX6_letPass_66 (t := 69) rfl rfl ?_
            refine J_iinc (v := l4 + 1) (lc2 := [(4, .int (l4 + 1)), (3, .int (l3 + x9)), (5, .int x2), (0, .ref (adr G r 0)), (1, .int l1), (2, .int l2)]) hX dX6_letPass_69 5 rfl rfl (Nat.le_of_ble_eq_true rfl) rfl (t := 72) rfl ?_
            refine J_goto (tgt := 12) hX dX6_letPass_72 (by decide) ?_
            refine J_sub (lc2 := [(0, .ref (adr G r 0)), (1, .int l1), (2, .int l2), (3, .int (l3 + x9)), (4, .int (l4 + 1))]) [3, 4, 5, 1, 0] rfl ?_
            exact ih M13 l1 l2 (l3 + x9) (l4 + 1) hF
          · replace hF := it_f hF z
            refine J_aload_n hX dX6_letPass_44 1 rfl (t := 45) rfl ?_
            refine J_iload_n hX dX6_letPass_45 3 rfl (t := 46) rfl ?_
            obtain ⟨M15, e16, hF⟩ := bnd_e hF
            refine JM_puti hX cb4 (kMarket hr) 6 (by decide) q_386 rfl rfl e16 (fun _ _ => Nat.le_of_ble_eq_true rfl) (fun _ _ => rfl) dX6_letPass_46 (t := 49) rfl ?_
            refine J_goto (tgt := 69) hX dX6_letPass_49 (by decide) ?_
            refine J_iinc (v := l4 + 1) (lc2 := [(4, .int (l4 + 1)), (5, .int x2), (0, .ref (adr G r 0)), (1, .int l1), (2, .int l2), (3, .int l3)]) hX dX6_letPass_69 5 rfl rfl (Nat.le_of_ble_eq_true rfl) rfl (t := 72) rfl ?_
            refine J_goto (tgt := 12) hX dX6_letPass_72 (by decide) ?_
            refine J_sub (lc2 := [(0, .ref (adr G r 0)), (1, .int l1), (2, .int l2), (3, .int l3), (4, .int (l4 + 1))]) [2, 3, 4, 5, 0] rfl ?_
            exact ih M15 l1 l2 l3 (l4 + 1) hF
def FX6_letPass (n : Nat) (M : MM) (p1 : Int32) : Option (Int32 × MM) :=
  FX6_letPass_L12 n n M p1 ((M.1 0 6) + p1) 0 0
set_option maxHeartbeats 4000000 in
set_option maxRecDepth 100000 in
theorem ctX6_letPass {G : GG} {l : Launch} (w : Wd) (r : Nat) (hr : 1 ≤ r ∧ r ≤ 9) (M : MM) (p1 : Int32)  (n : Nat) {rx : Int32} {rw : MM} (hF : FX6_letPass n M p1 = some (rx, rw)) : CT G l yX6_letPass cX6_letPass 6 (some .int) rmX6_letPass 0 0 [.ref (adr G r 0), .int p1] (sW w r M) (some (.int rx)) (sW w r rw) := by
  refine CT.of miX6_letPass [(0, .ref (adr G r 0)), (1, .int p1)] rfl (Nat.le_of_ble_eq_true rfl) ?_
  intro p e s m args below meth c hX hR hlk
  have hX : FX G RX6 cX6_letPass 6 p s m args c := hX
  unfold FX6_letPass at hF
  refine J_aload_n hX dX6_letPass_0 0 rfl (t := 1) rfl ?_
  refine JM_get hX cb4 (kMarket hr) 6 (by decide) q_386 rfl dX6_letPass_1 (t := 4) rfl ?_
  refine J_iload_n hX dX6_letPass_4 1 rfl (t := 5) rfl ?_
  refine J_iadd hX dX6_letPass_5 (t := 6) rfl ?_
  refine J_istore_n (lc2 := [(2, .int ((M.1 0 6) + p1)), (0, .ref (adr G r 0)), (1, .int p1)]) hX dX6_letPass_6 rfl (Nat.le_of_ble_eq_true rfl) rfl (t := 7) rfl ?_
  refine J_iconst (v := 0) hX dX6_letPass_7 (by decide) (t := 8) rfl ?_
  refine J_istore_n (lc2 := [(3, .int 0), (2, .int ((M.1 0 6) + p1)), (0, .ref (adr G r 0)), (1, .int p1)]) hX dX6_letPass_8 rfl (Nat.le_of_ble_eq_true rfl) rfl (t := 9) rfl ?_
  refine J_iconst (v := 0) hX dX6_letPass_9 (by decide) (t := 10) rfl ?_
  refine J_istore (lc2 := [(4, .int 0), (3, .int 0), (2, .int ((M.1 0 6) + p1)), (0, .ref (adr G r 0)), (1, .int p1)]) hX dX6_letPass_10 (Nat.le_of_ble_eq_true rfl) rfl (t := 12) rfl ?_
  refine J_sub (lc2 := [(0, .ref (adr G r 0)), (1, .int p1), (2, .int ((M.1 0 6) + p1)), (3, .int 0), (4, .int 0)]) [3, 4, 2, 1, 0] rfl ?_
  exact LX6_letPass_12 w r hr hX hR hlk n n M p1 ((M.1 0 6) + p1) 0 0 hF
abbrev rmX6_faultOfSale : Room := { frames := 3, cells := 0, slots := 0, locals := 68 }
theorem miX6_faultOfSale : MI yX6_faultOfSale cX6_faultOfSale 5 (some (.object RX4)) 4 := ⟨q_1286, q_138, by decide +kernel, by decide +kernel, by decide +kernel, by decide +kernel⟩
theorem mvX6_faultOfSale : MV yX6_faultOfSale := ⟨q_1284, q_1285⟩
def FX6_faultOfSale (n : Nat) (M : MM) (p1 : Int32) (p2 : Int32) (p3 : Int32) (p4 : Int32) : Option (Nat) :=
  bnd (FX6_hasCustomer M p1) fun x2 =>
  if x2 = true then
    bnd (FX6_hasValley M p2) fun x5 =>
    if x5 = true then
      bnd (FX12_isWithin p3 1 20) fun x8 =>
      if x8 = true then
        bnd (FX12_isWithin p4 1 4) fun x11 =>
        if x11 = true then
          bo1 (FX6_whyRefused n M p1 p2 p4) fun x14 =>
          if x14 = 0 then
            some 0
          else
            some 3
        else
          some 2
      else
        some 2
    else
      some 1
  else
    some 1
set_option maxHeartbeats 4000000 in
set_option maxRecDepth 100000 in
theorem ctX6_faultOfSale {G : GG} {l : Launch} (w : Wd) (r : Nat) (hr : 1 ≤ r ∧ r ≤ 9) (M : MM) (p1 : Int32) (p2 : Int32) (p3 : Int32) (p4 : Int32)  (n : Nat) {rx : Nat} (hF : FX6_faultOfSale n M p1 p2 p3 p4 = some rx) : CT G l yX6_faultOfSale cX6_faultOfSale 5 (some (.object RX4)) rmX6_faultOfSale 0 0 [.ref (adr G r 0), .int p1, .int p2, .int p3, .int p4] (sW w r M) (some (.ref (ga G (12 + rx)))) (sW w r M) := by
  refine CT.of miX6_faultOfSale [(0, .ref (adr G r 0)), (1, .int p1), (2, .int p2), (3, .int p3), (4, .int p4)] rfl (Nat.le_of_ble_eq_true rfl) ?_
  intro p e s m args below meth c hX hR hlk
  have hX : FX G RX6 cX6_faultOfSale 5 p s m args c := hX
  unfold FX6_faultOfSale at hF
  refine J_aload_n hX dX6_faultOfSale_0 0 rfl (t := 1) rfl ?_
  refine J_iload_n hX dX6_faultOfSale_1 1 rfl (t := 2) rfl ?_
  obtain ⟨x2, h1, hF⟩ := bnd_e hF
  have k3 := (ctX6_hasCustomer (G := G) (l := l) w r hr M p1 h1)
  refine J_callV hX [.int p1] [] [.int (bI x2)] k3 miX6_hasCustomer mvX6_hasCustomer cb4 (kMarket hr) q_1287 ⟨rfl, rfl, Nat.le_of_ble_eq_true rfl, Nat.le_of_ble_eq_true rfl⟩ rfl rfl (Nat.le_of_ble_eq_true rfl) ⟨Nat.le_of_ble_eq_true rfl, Nat.le_of_ble_eq_true rfl⟩ dX6_faultOfSale_2 (t := 5) rfl rfl ?_
  refine J_ifZ_eq (tgt := 16) hX dX6_faultOfSale_5 (by decide) (t := 8) rfl (fun z => ?_) (fun z => ?_)
  · replace hF := ib_f hF z
    refine J_gsX hX 1 (by decide) q_1130 dX6_faultOfSale_16 (t := 19) rfl ?_
    replace hF := Option.some.inj hF
    subst hF
    exact J_aret hX hR hlk dX6_faultOfSale_19
  · replace hF := it_t hF z
    refine J_aload_n hX dX6_faultOfSale_8 0 rfl (t := 9) rfl ?_
    refine J_iload_n hX dX6_faultOfSale_9 2 rfl (t := 10) rfl ?_
    obtain ⟨x5, h4, hF⟩ := bnd_e hF
    have k6 := (ctX6_hasValley (G := G) (l := l) w r hr M p2 h4)
    refine J_callV hX [.int p2] [] [.int (bI x5)] k6 miX6_hasValley mvX6_hasValley cb4 (kMarket hr) q_1291 ⟨rfl, rfl, Nat.le_of_ble_eq_true rfl, Nat.le_of_ble_eq_true rfl⟩ rfl rfl (Nat.le_of_ble_eq_true rfl) ⟨Nat.le_of_ble_eq_true rfl, Nat.le_of_ble_eq_true rfl⟩ dX6_faultOfSale_10 (t := 13) rfl rfl ?_
    refine J_ifZ_ne (tgt := 20) hX dX6_faultOfSale_13 (by decide) (t := 16) rfl (fun z => ?_) (fun z => ?_)
    · replace hF := it_t hF z
      refine J_iload_n hX dX6_faultOfSale_20 3 rfl (t := 21) rfl ?_
      refine J_iconst (v := 1) hX dX6_faultOfSale_21 (by decide) (t := 22) rfl ?_
      refine J_bipush (v := 20) hX dX6_faultOfSale_22 (by decide) (t := 24) rfl ?_
      obtain ⟨x8, h7, hF⟩ := bnd_e hF
      have k9 := (ctX12_isWithin (l := l) (G := G) (w := sW w r M) p3 1 20 h7)
      refine J_callSN hX [.int p3, .int 1, .int 20] [] [.int (bI x8)] k9 miX12_isWithin q_655 (by simp [nestL]) ⟨rfl, rfl, Nat.le_of_ble_eq_true rfl, Nat.le_of_ble_eq_true rfl⟩ rfl rfl (Nat.le_of_ble_eq_true rfl) ⟨Nat.le_of_ble_eq_true rfl, Nat.le_of_ble_eq_true rfl⟩ dX6_faultOfSale_24 (t := 27) rfl rfl ?_
      refine J_ifZ_eq (tgt := 40) hX dX6_faultOfSale_27 (by decide) (t := 30) rfl (fun z => ?_) (fun z => ?_)
      · replace hF := ib_f hF z
        refine J_gsX hX 2 (by decide) q_1111 dX6_faultOfSale_40 (t := 43) rfl ?_
        replace hF := Option.some.inj hF
        subst hF
        exact J_aret hX hR hlk dX6_faultOfSale_43
      · replace hF := it_t hF z
        refine J_iload hX dX6_faultOfSale_30 4 rfl (t := 32) rfl ?_
        refine J_iconst (v := 1) hX dX6_faultOfSale_32 (by decide) (t := 33) rfl ?_
        refine J_iconst (v := 4) hX dX6_faultOfSale_33 (by decide) (t := 34) rfl ?_
        obtain ⟨x11, h10, hF⟩ := bnd_e hF
        have k12 := (ctX12_isWithin (l := l) (G := G) (w := sW w r M) p4 1 4 h10)
        refine J_callSN hX [.int p4, .int 1, .int 4] [] [.int (bI x11)] k12 miX12_isWithin q_655 (by simp [nestL]) ⟨rfl, rfl, Nat.le_of_ble_eq_true rfl, Nat.le_of_ble_eq_true rfl⟩ rfl rfl (Nat.le_of_ble_eq_true rfl) ⟨Nat.le_of_ble_eq_true rfl, Nat.le_of_ble_eq_true rfl⟩ dX6_faultOfSale_34 (t := 37) rfl rfl ?_
        refine J_ifZ_ne (tgt := 44) hX dX6_faultOfSale_37 (by decide) (t := 40) rfl (fun z => ?_) (fun z => ?_)
        · replace hF := it_t hF z
          refine J_aload_n hX dX6_faultOfSale_44 0 rfl (t := 45) rfl ?_
          refine J_iload_n hX dX6_faultOfSale_45 1 rfl (t := 46) rfl ?_
          refine J_iload_n hX dX6_faultOfSale_46 2 rfl (t := 47) rfl ?_
          refine J_iload hX dX6_faultOfSale_47 4 rfl (t := 49) rfl ?_
          obtain ⟨x14, h13, hF⟩ := bo1_e hF
          have k15 := (ctX6_whyRefused (G := G) (l := l) w r hr M p1 p2 p4 n h13)
          refine J_callV hX [.int p1, .int p2, .int p4] [] [.int x14] k15 miX6_whyRefused mvX6_whyRefused cb4 (kMarket hr) q_1295 ⟨rfl, rfl, Nat.le_of_ble_eq_true rfl, Nat.le_of_ble_eq_true rfl⟩ rfl rfl (Nat.le_of_ble_eq_true rfl) ⟨Nat.le_of_ble_eq_true rfl, Nat.le_of_ble_eq_true rfl⟩ dX6_faultOfSale_49 (t := 52) rfl rfl ?_
          refine J_if_ne (tgt := 61) hX dX6_faultOfSale_52 (by decide) (t := 55) rfl (fun z => ?_) (fun z => ?_)
          · replace hF := it_f hF z
            refine J_gsX hX 3 (by decide) q_1115 dX6_faultOfSale_61 (t := 64) rfl ?_
            replace hF := Option.some.inj hF
            subst hF
            exact J_aret hX hR hlk dX6_faultOfSale_64
          · replace hF := it_t hF z
            refine J_gsX hX 0 (by decide) q_1113 dX6_faultOfSale_55 (t := 58) rfl ?_
            refine J_goto (tgt := 64) hX dX6_faultOfSale_58 (by decide) ?_
            replace hF := Option.some.inj hF
            subst hF
            exact J_aret hX hR hlk dX6_faultOfSale_64
        · replace hF := ib_f hF z
          refine J_gsX hX 2 (by decide) q_1111 dX6_faultOfSale_40 (t := 43) rfl ?_
          replace hF := Option.some.inj hF
          subst hF
          exact J_aret hX hR hlk dX6_faultOfSale_43
    · replace hF := ib_f hF z
      refine J_gsX hX 1 (by decide) q_1130 dX6_faultOfSale_16 (t := 19) rfl ?_
      replace hF := Option.some.inj hF
      subst hF
      exact J_aret hX hR hlk dX6_faultOfSale_19
theorem ltX6_faultOfSale {n : Nat} {M : MM} {p1 : Int32} {p2 : Int32} {p3 : Int32} {p4 : Int32} {rx : Nat} (hF : FX6_faultOfSale n M p1 p2 p3 p4 = some rx) : rx < 4 := by
  unfold FX6_faultOfSale at hF
  simp only [bnd, bo1, gd] at hF
  repeat' (split at hF)
  all_goals first | (cases hF; done) | (subst hF; decide) | (cases hF; decide)
abbrev rmX6_faultOfOpen : Room := { frames := 2, cells := 0, slots := 0, locals := 43 }
theorem miX6_faultOfOpen : MI yX6_faultOfOpen cX6_faultOfOpen 2 (some (.object RX4)) 1 := ⟨q_1125, q_138, by decide +kernel, by decide +kernel, by decide +kernel, by decide +kernel⟩
theorem mvX6_faultOfOpen : MV yX6_faultOfOpen := ⟨q_1123, q_1124⟩
def FX6_faultOfOpen (M : MM) (p1 : Int32) : Option (Nat) :=
  bnd (FX6_hasShout M p1) fun x2 =>
  if x2 = true then
    gd (inb p1 30) <|
    bnd (FX8_isOpen M (20 + p1.toNatClampNeg)) fun x6 =>
    if x6 = true then
      some 0
    else
      some 3
  else
    some 1
set_option maxHeartbeats 4000000 in
set_option maxRecDepth 100000 in
theorem ctX6_faultOfOpen {G : GG} {l : Launch} (w : Wd) (r : Nat) (hr : 1 ≤ r ∧ r ≤ 9) (M : MM) (p1 : Int32)  {rx : Nat} (hF : FX6_faultOfOpen M p1 = some rx) : CT G l yX6_faultOfOpen cX6_faultOfOpen 2 (some (.object RX4)) rmX6_faultOfOpen 0 0 [.ref (adr G r 0), .int p1] (sW w r M) (some (.ref (ga G (12 + rx)))) (sW w r M) := by
  refine CT.of miX6_faultOfOpen [(0, .ref (adr G r 0)), (1, .int p1)] rfl (Nat.le_of_ble_eq_true rfl) ?_
  intro p e s m args below meth c hX hR hlk
  have hX : FX G RX6 cX6_faultOfOpen 2 p s m args c := hX
  unfold FX6_faultOfOpen at hF
  refine J_aload_n hX dX6_faultOfOpen_0 0 rfl (t := 1) rfl ?_
  refine J_iload_n hX dX6_faultOfOpen_1 1 rfl (t := 2) rfl ?_
  obtain ⟨x2, h1, hF⟩ := bnd_e hF
  have k3 := (ctX6_hasShout (G := G) (l := l) w r hr M p1 h1)
  refine J_callV hX [.int p1] [] [.int (bI x2)] k3 miX6_hasShout mvX6_hasShout cb4 (kMarket hr) q_1126 ⟨rfl, rfl, Nat.le_of_ble_eq_true rfl, Nat.le_of_ble_eq_true rfl⟩ rfl rfl (Nat.le_of_ble_eq_true rfl) ⟨Nat.le_of_ble_eq_true rfl, Nat.le_of_ble_eq_true rfl⟩ dX6_faultOfOpen_2 (t := 5) rfl rfl ?_
  refine J_ifZ_ne (tgt := 12) hX dX6_faultOfOpen_5 (by decide) (t := 8) rfl (fun z => ?_) (fun z => ?_)
  · replace hF := it_t hF z
    refine J_aload_n hX dX6_faultOfOpen_12 0 rfl (t := 13) rfl ?_
    refine JM_get hX cb4 (kMarket hr) 2 (by decide) q_375 rfl dX6_faultOfOpen_13 (t := 16) rfl ?_
    refine J_iload_n hX dX6_faultOfOpen_16 1 rfl (t := 17) rfl ?_
    obtain ⟨g4, hF⟩ := gd_e hF
    refine J_aald (k := 5) hX (kShouts hr) rfl g4 dX6_faultOfOpen_17 (t := 18) rfl ?_
    obtain ⟨x6, h5, hF⟩ := bnd_e hF
    have k7 := (ctX8_isOpen (G := G) (l := l) w r hr M (20 + p1.toNatClampNeg) ⟨Nat.le_add_right 20 _, Nat.add_lt_add_left (inb_lt g4) 20⟩ h5)
    refine J_callV hX [] [] [.int (bI x6)] k7 miX8_isOpen mvX8_isOpen cb6 (kShout hr ⟨Nat.le_add_right 20 _, Nat.add_lt_add_left (inb_lt g4) 20⟩) q_638 ⟨rfl, rfl, Nat.le_of_ble_eq_true rfl, Nat.le_of_ble_eq_true rfl⟩ rfl rfl (Nat.le_of_ble_eq_true rfl) ⟨Nat.le_of_ble_eq_true rfl, Nat.le_of_ble_eq_true rfl⟩ dX6_faultOfOpen_18 (t := 21) rfl rfl ?_
    refine J_ifZ_eq (tgt := 30) hX dX6_faultOfOpen_21 (by decide) (t := 24) rfl (fun z => ?_) (fun z => ?_)
    · replace hF := ib_f hF z
      refine J_gsX hX 3 (by decide) q_1115 dX6_faultOfOpen_30 (t := 33) rfl ?_
      replace hF := Option.some.inj hF
      subst hF
      exact J_aret hX hR hlk dX6_faultOfOpen_33
    · replace hF := it_t hF z
      refine J_gsX hX 0 (by decide) q_1113 dX6_faultOfOpen_24 (t := 27) rfl ?_
      refine J_goto (tgt := 33) hX dX6_faultOfOpen_27 (by decide) ?_
      replace hF := Option.some.inj hF
      subst hF
      exact J_aret hX hR hlk dX6_faultOfOpen_33
  · replace hF := ib_f hF z
    refine J_gsX hX 1 (by decide) q_1130 dX6_faultOfOpen_8 (t := 11) rfl ?_
    replace hF := Option.some.inj hF
    subst hF
    exact J_aret hX hR hlk dX6_faultOfOpen_11
theorem ltX6_faultOfOpen {M : MM} {p1 : Int32} {rx : Nat} (hF : FX6_faultOfOpen M p1 = some rx) : rx < 4 := by
  unfold FX6_faultOfOpen at hF
  simp only [bnd, bo1, gd] at hF
  repeat' (split at hF)
  all_goals first | (cases hF; done) | (subst hF; decide) | (cases hF; decide)
abbrev rmX6_faultOfFog : Room := { frames := 2, cells := 0, slots := 0, locals := 43 }
theorem miX6_faultOfFog : MI yX6_faultOfFog cX6_faultOfFog 3 (some (.object RX4)) 2 := ⟨q_1299, q_138, by decide +kernel, by decide +kernel, by decide +kernel, by decide +kernel⟩
theorem mvX6_faultOfFog : MV yX6_faultOfFog := ⟨q_1297, q_1298⟩
def FX6_faultOfFog (M : MM) (p1 : Int32) (p2 : Int32) : Nat :=
  bnd (FX6_hasValley M p1) fun x2 =>
  if x2 = true then
    bnd (FX12_isWithin p2 0 9) fun x5 =>
    if x5 = true then
      0
    else
      2
  else
    1
set_option maxHeartbeats 4000000 in
set_option maxRecDepth 100000 in
theorem ctX6_faultOfFog {G : GG} {l : Launch} (w : Wd) (r : Nat) (hr : 1 ≤ r ∧ r ≤ 9) (M : MM) (p1 : Int32) (p2 : Int32)  {rx : Nat} (hF : FX6_faultOfFog M p1 p2 = rx) : CT G l yX6_faultOfFog cX6_faultOfFog 3 (some (.object RX4)) rmX6_faultOfFog 0 0 [.ref (adr G r 0), .int p1, .int p2] (sW w r M) (some (.ref (ga G (12 + rx)))) (sW w r M) := by
  refine CT.of miX6_faultOfFog [(0, .ref (adr G r 0)), (1, .int p1), (2, .int p2)] rfl (Nat.le_of_ble_eq_true rfl) ?_
  intro p e s m args below meth c hX hR hlk
  have hX : FX G RX6 cX6_faultOfFog 3 p s m args c := hX
  unfold FX6_faultOfFog at hF
  refine J_aload_n hX dX6_faultOfFog_0 0 rfl (t := 1) rfl ?_
  refine J_iload_n hX dX6_faultOfFog_1 1 rfl (t := 2) rfl ?_
  obtain ⟨x2, h1, hF⟩ := bnd_e hF
  have k3 := (ctX6_hasValley (G := G) (l := l) w r hr M p1 h1)
  refine J_callV hX [.int p1] [] [.int (bI x2)] k3 miX6_hasValley mvX6_hasValley cb4 (kMarket hr) q_1291 ⟨rfl, rfl, Nat.le_of_ble_eq_true rfl, Nat.le_of_ble_eq_true rfl⟩ rfl rfl (Nat.le_of_ble_eq_true rfl) ⟨Nat.le_of_ble_eq_true rfl, Nat.le_of_ble_eq_true rfl⟩ dX6_faultOfFog_2 (t := 5) rfl rfl ?_
  refine J_ifZ_ne (tgt := 12) hX dX6_faultOfFog_5 (by decide) (t := 8) rfl (fun z => ?_) (fun z => ?_)
  · replace hF := it_t hF z
    refine J_iload_n hX dX6_faultOfFog_12 2 rfl (t := 13) rfl ?_
    refine J_iconst (v := 0) hX dX6_faultOfFog_13 (by decide) (t := 14) rfl ?_
    refine J_bipush (v := 9) hX dX6_faultOfFog_14 (by decide) (t := 16) rfl ?_
    obtain ⟨x5, h4, hF⟩ := bnd_e hF
    have k6 := (ctX12_isWithin (l := l) (G := G) (w := sW w r M) p2 0 9 h4)
    refine J_callSN hX [.int p2, .int 0, .int 9] [] [.int (bI x5)] k6 miX12_isWithin q_655 (by simp [nestL]) ⟨rfl, rfl, Nat.le_of_ble_eq_true rfl, Nat.le_of_ble_eq_true rfl⟩ rfl rfl (Nat.le_of_ble_eq_true rfl) ⟨Nat.le_of_ble_eq_true rfl, Nat.le_of_ble_eq_true rfl⟩ dX6_faultOfFog_16 (t := 19) rfl rfl ?_
    refine J_ifZ_eq (tgt := 28) hX dX6_faultOfFog_19 (by decide) (t := 22) rfl (fun z => ?_) (fun z => ?_)
    · replace hF := ib_f hF z
      refine J_gsX hX 2 (by decide) q_1111 dX6_faultOfFog_28 (t := 31) rfl ?_
      subst hF
      exact J_aret hX hR hlk dX6_faultOfFog_31
    · replace hF := it_t hF z
      refine J_gsX hX 0 (by decide) q_1113 dX6_faultOfFog_22 (t := 25) rfl ?_
      refine J_goto (tgt := 31) hX dX6_faultOfFog_25 (by decide) ?_
      subst hF
      exact J_aret hX hR hlk dX6_faultOfFog_31
  · replace hF := ib_f hF z
    refine J_gsX hX 1 (by decide) q_1130 dX6_faultOfFog_8 (t := 11) rfl ?_
    subst hF
    exact J_aret hX hR hlk dX6_faultOfFog_11
theorem ltX6_faultOfFog {M : MM} {p1 : Int32} {p2 : Int32} {rx : Nat} (hF : FX6_faultOfFog M p1 p2 = rx) : rx < 4 := by
  unfold FX6_faultOfFog at hF
  simp only [bnd, bo1, gd] at hF
  repeat' (split at hF)
  all_goals first | (cases hF; done) | (subst hF; decide) | (cases hF; decide)
abbrev rmX6_faultOfPrice : Room := { frames := 2, cells := 0, slots := 0, locals := 43 }
theorem miX6_faultOfPrice : MI yX6_faultOfPrice cX6_faultOfPrice 3 (some (.object RX4)) 2 := ⟨q_1303, q_138, by decide +kernel, by decide +kernel, by decide +kernel, by decide +kernel⟩
theorem mvX6_faultOfPrice : MV yX6_faultOfPrice := ⟨q_1301, q_1302⟩
def FX6_faultOfPrice (M : MM) (p1 : Int32) (p2 : Int32) : Nat :=
  bnd (FX6_hasValley M p1) fun x2 =>
  if x2 = true then
    bnd (FX12_isWithin p2 1 99) fun x5 =>
    if x5 = true then
      0
    else
      2
  else
    1
set_option maxHeartbeats 4000000 in
set_option maxRecDepth 100000 in
theorem ctX6_faultOfPrice {G : GG} {l : Launch} (w : Wd) (r : Nat) (hr : 1 ≤ r ∧ r ≤ 9) (M : MM) (p1 : Int32) (p2 : Int32)  {rx : Nat} (hF : FX6_faultOfPrice M p1 p2 = rx) : CT G l yX6_faultOfPrice cX6_faultOfPrice 3 (some (.object RX4)) rmX6_faultOfPrice 0 0 [.ref (adr G r 0), .int p1, .int p2] (sW w r M) (some (.ref (ga G (12 + rx)))) (sW w r M) := by
  refine CT.of miX6_faultOfPrice [(0, .ref (adr G r 0)), (1, .int p1), (2, .int p2)] rfl (Nat.le_of_ble_eq_true rfl) ?_
  intro p e s m args below meth c hX hR hlk
  have hX : FX G RX6 cX6_faultOfPrice 3 p s m args c := hX
  unfold FX6_faultOfPrice at hF
  refine J_aload_n hX dX6_faultOfPrice_0 0 rfl (t := 1) rfl ?_
  refine J_iload_n hX dX6_faultOfPrice_1 1 rfl (t := 2) rfl ?_
  obtain ⟨x2, h1, hF⟩ := bnd_e hF
  have k3 := (ctX6_hasValley (G := G) (l := l) w r hr M p1 h1)
  refine J_callV hX [.int p1] [] [.int (bI x2)] k3 miX6_hasValley mvX6_hasValley cb4 (kMarket hr) q_1291 ⟨rfl, rfl, Nat.le_of_ble_eq_true rfl, Nat.le_of_ble_eq_true rfl⟩ rfl rfl (Nat.le_of_ble_eq_true rfl) ⟨Nat.le_of_ble_eq_true rfl, Nat.le_of_ble_eq_true rfl⟩ dX6_faultOfPrice_2 (t := 5) rfl rfl ?_
  refine J_ifZ_ne (tgt := 12) hX dX6_faultOfPrice_5 (by decide) (t := 8) rfl (fun z => ?_) (fun z => ?_)
  · replace hF := it_t hF z
    refine J_iload_n hX dX6_faultOfPrice_12 2 rfl (t := 13) rfl ?_
    refine J_iconst (v := 1) hX dX6_faultOfPrice_13 (by decide) (t := 14) rfl ?_
    refine J_bipush (v := 99) hX dX6_faultOfPrice_14 (by decide) (t := 16) rfl ?_
    obtain ⟨x5, h4, hF⟩ := bnd_e hF
    have k6 := (ctX12_isWithin (l := l) (G := G) (w := sW w r M) p2 1 99 h4)
    refine J_callSN hX [.int p2, .int 1, .int 99] [] [.int (bI x5)] k6 miX12_isWithin q_655 (by simp [nestL]) ⟨rfl, rfl, Nat.le_of_ble_eq_true rfl, Nat.le_of_ble_eq_true rfl⟩ rfl rfl (Nat.le_of_ble_eq_true rfl) ⟨Nat.le_of_ble_eq_true rfl, Nat.le_of_ble_eq_true rfl⟩ dX6_faultOfPrice_16 (t := 19) rfl rfl ?_
    refine J_ifZ_eq (tgt := 28) hX dX6_faultOfPrice_19 (by decide) (t := 22) rfl (fun z => ?_) (fun z => ?_)
    · replace hF := ib_f hF z
      refine J_gsX hX 2 (by decide) q_1111 dX6_faultOfPrice_28 (t := 31) rfl ?_
      subst hF
      exact J_aret hX hR hlk dX6_faultOfPrice_31
    · replace hF := it_t hF z
      refine J_gsX hX 0 (by decide) q_1113 dX6_faultOfPrice_22 (t := 25) rfl ?_
      refine J_goto (tgt := 31) hX dX6_faultOfPrice_25 (by decide) ?_
      subst hF
      exact J_aret hX hR hlk dX6_faultOfPrice_31
  · replace hF := ib_f hF z
    refine J_gsX hX 1 (by decide) q_1130 dX6_faultOfPrice_8 (t := 11) rfl ?_
    subst hF
    exact J_aret hX hR hlk dX6_faultOfPrice_11
theorem ltX6_faultOfPrice {M : MM} {p1 : Int32} {p2 : Int32} {rx : Nat} (hF : FX6_faultOfPrice M p1 p2 = rx) : rx < 4 := by
  unfold FX6_faultOfPrice at hF
  simp only [bnd, bo1, gd] at hF
  repeat' (split at hF)
  all_goals first | (cases hF; done) | (subst hF; decide) | (cases hF; decide)
abbrev rmX6_faultOfDepth : Room := { frames := 1, cells := 0, slots := 0, locals := 22 }
theorem miX6_faultOfDepth : MI yX6_faultOfDepth cX6_faultOfDepth 2 (some (.object RX4)) 1 := ⟨q_1307, q_138, by decide +kernel, by decide +kernel, by decide +kernel, by decide +kernel⟩
theorem mvX6_faultOfDepth : MV yX6_faultOfDepth := ⟨q_1305, q_1306⟩
def FX6_faultOfDepth (M : MM) (p1 : Int32) : Nat :=
  bnd (FX12_isWithin p1 0 20) fun x2 =>
  if x2 = true then
    0
  else
    2
set_option maxHeartbeats 4000000 in
set_option maxRecDepth 100000 in
theorem ctX6_faultOfDepth {G : GG} {l : Launch} (w : Wd) (r : Nat) (hr : 1 ≤ r ∧ r ≤ 9) (M : MM) (p1 : Int32)  {rx : Nat} (hF : FX6_faultOfDepth M p1 = rx) : CT G l yX6_faultOfDepth cX6_faultOfDepth 2 (some (.object RX4)) rmX6_faultOfDepth 0 0 [.ref (adr G r 0), .int p1] (sW w r M) (some (.ref (ga G (12 + rx)))) (sW w r M) := by
  refine CT.of miX6_faultOfDepth [(0, .ref (adr G r 0)), (1, .int p1)] rfl (Nat.le_of_ble_eq_true rfl) ?_
  intro p e s m args below meth c hX hR hlk
  have hX : FX G RX6 cX6_faultOfDepth 2 p s m args c := hX
  unfold FX6_faultOfDepth at hF
  refine J_iload_n hX dX6_faultOfDepth_0 1 rfl (t := 1) rfl ?_
  refine J_iconst (v := 0) hX dX6_faultOfDepth_1 (by decide) (t := 2) rfl ?_
  refine J_bipush (v := 20) hX dX6_faultOfDepth_2 (by decide) (t := 4) rfl ?_
  obtain ⟨x2, h1, hF⟩ := bnd_e hF
  have k3 := (ctX12_isWithin (l := l) (G := G) (w := sW w r M) p1 0 20 h1)
  refine J_callSN hX [.int p1, .int 0, .int 20] [] [.int (bI x2)] k3 miX12_isWithin q_655 (by simp [nestL]) ⟨rfl, rfl, Nat.le_of_ble_eq_true rfl, Nat.le_of_ble_eq_true rfl⟩ rfl rfl (Nat.le_of_ble_eq_true rfl) ⟨Nat.le_of_ble_eq_true rfl, Nat.le_of_ble_eq_true rfl⟩ dX6_faultOfDepth_4 (t := 7) rfl rfl ?_
  refine J_ifZ_eq (tgt := 16) hX dX6_faultOfDepth_7 (by decide) (t := 10) rfl (fun z => ?_) (fun z => ?_)
  · replace hF := ib_f hF z
    refine J_gsX hX 2 (by decide) q_1111 dX6_faultOfDepth_16 (t := 19) rfl ?_
    subst hF
    exact J_aret hX hR hlk dX6_faultOfDepth_19
  · replace hF := it_t hF z
    refine J_gsX hX 0 (by decide) q_1113 dX6_faultOfDepth_10 (t := 13) rfl ?_
    refine J_goto (tgt := 19) hX dX6_faultOfDepth_13 (by decide) ?_
    subst hF
    exact J_aret hX hR hlk dX6_faultOfDepth_19
theorem ltX6_faultOfDepth {M : MM} {p1 : Int32} {rx : Nat} (hF : FX6_faultOfDepth M p1 = rx) : rx < 4 := by
  unfold FX6_faultOfDepth at hF
  simp only [bnd, bo1, gd] at hF
  repeat' (split at hF)
  all_goals first | (cases hF; done) | (subst hF; decide) | (cases hF; decide)
abbrev rmX6_faultOfPassing : Room := { frames := 1, cells := 0, slots := 0, locals := 22 }
theorem miX6_faultOfPassing : MI yX6_faultOfPassing cX6_faultOfPassing 2 (some (.object RX4)) 1 := ⟨q_1109, q_138, by decide +kernel, by decide +kernel, by decide +kernel, by decide +kernel⟩
theorem mvX6_faultOfPassing : MV yX6_faultOfPassing := ⟨q_1107, q_1108⟩
def FX6_faultOfPassing (M : MM) (p1 : Int32) : Nat :=
  bnd (FX12_isWithin p1 1 240) fun x2 =>
  if x2 = true then
    if 9999 < (M.1 0 6) + p1 then
      3
    else
      0
  else
    2
set_option maxHeartbeats 4000000 in
set_option maxRecDepth 100000 in
theorem ctX6_faultOfPassing {G : GG} {l : Launch} (w : Wd) (r : Nat) (hr : 1 ≤ r ∧ r ≤ 9) (M : MM) (p1 : Int32)  {rx : Nat} (hF : FX6_faultOfPassing M p1 = rx) : CT G l yX6_faultOfPassing cX6_faultOfPassing 2 (some (.object RX4)) rmX6_faultOfPassing 0 0 [.ref (adr G r 0), .int p1] (sW w r M) (some (.ref (ga G (12 + rx)))) (sW w r M) := by
  refine CT.of miX6_faultOfPassing [(0, .ref (adr G r 0)), (1, .int p1)] rfl (Nat.le_of_ble_eq_true rfl) ?_
  intro p e s m args below meth c hX hR hlk
  have hX : FX G RX6 cX6_faultOfPassing 2 p s m args c := hX
  unfold FX6_faultOfPassing at hF
  refine J_iload_n hX dX6_faultOfPassing_0 1 rfl (t := 1) rfl ?_
  refine J_iconst (v := 1) hX dX6_faultOfPassing_1 (by decide) (t := 2) rfl ?_
  refine J_sipush (v := 240) hX dX6_faultOfPassing_2 (by decide) (t := 5) rfl ?_
  obtain ⟨x2, h1, hF⟩ := bnd_e hF
  have k3 := (ctX12_isWithin (l := l) (G := G) (w := sW w r M) p1 1 240 h1)
  refine J_callSN hX [.int p1, .int 1, .int 240] [] [.int (bI x2)] k3 miX12_isWithin q_655 (by simp [nestL]) ⟨rfl, rfl, Nat.le_of_ble_eq_true rfl, Nat.le_of_ble_eq_true rfl⟩ rfl rfl (Nat.le_of_ble_eq_true rfl) ⟨Nat.le_of_ble_eq_true rfl, Nat.le_of_ble_eq_true rfl⟩ dX6_faultOfPassing_5 (t := 8) rfl rfl ?_
  refine J_ifZ_ne (tgt := 15) hX dX6_faultOfPassing_8 (by decide) (t := 11) rfl (fun z => ?_) (fun z => ?_)
  · replace hF := it_t hF z
    refine J_aload_n hX dX6_faultOfPassing_15 0 rfl (t := 16) rfl ?_
    refine JM_get hX cb4 (kMarket hr) 6 (by decide) q_386 rfl dX6_faultOfPassing_16 (t := 19) rfl ?_
    refine J_iload_n hX dX6_faultOfPassing_19 1 rfl (t := 20) rfl ?_
    refine J_iadd hX dX6_faultOfPassing_20 (t := 21) rfl ?_
    refine J_sipush (v := 9999) hX dX6_faultOfPassing_21 (by decide) (t := 24) rfl ?_
    refine J_icmp_gt (tgt := 33) hX dX6_faultOfPassing_24 (by decide) (t := 27) rfl (fun z => ?_) (fun z => ?_)
    · replace hF := it_t hF z
      refine J_gsX hX 3 (by decide) q_1115 dX6_faultOfPassing_33 (t := 36) rfl ?_
      subst hF
      exact J_aret hX hR hlk dX6_faultOfPassing_36
    · replace hF := it_f hF z
      refine J_gsX hX 0 (by decide) q_1113 dX6_faultOfPassing_27 (t := 30) rfl ?_
      refine J_goto (tgt := 36) hX dX6_faultOfPassing_30 (by decide) ?_
      subst hF
      exact J_aret hX hR hlk dX6_faultOfPassing_36
  · replace hF := ib_f hF z
    refine J_gsX hX 2 (by decide) q_1111 dX6_faultOfPassing_11 (t := 14) rfl ?_
    subst hF
    exact J_aret hX hR hlk dX6_faultOfPassing_14
theorem ltX6_faultOfPassing {M : MM} {p1 : Int32} {rx : Nat} (hF : FX6_faultOfPassing M p1 = rx) : rx < 4 := by
  unfold FX6_faultOfPassing at hF
  simp only [bnd, bo1, gd] at hF
  repeat' (split at hF)
  all_goals first | (cases hF; done) | (subst hF; decide) | (cases hF; decide)
abbrev rmX6_openValley : Room := { frames := 0, cells := 0, slots := 0, locals := 0 }
theorem miX6_openValley : MI yX6_openValley cX6_openValley 7 (some .int) 4 := ⟨q_1141, q_138, by decide +kernel, by decide +kernel, by decide +kernel, by decide +kernel⟩
theorem mvX6_openValley : MV yX6_openValley := ⟨q_1139, q_1140⟩
def FX6_openValley (M : MM) (p1 : Int64) (p3 : Int32) (p4 : Int32) (p5 : Int32) : Option (Int32 × MM) :=
  gd (inb (M.1 0 3) 8) <|
  bnd (sL M (4 + (M.1 0 3).toNatClampNeg) 0 p1) fun M2 =>
  bnd (sI M2 (4 + (M.1 0 3).toNatClampNeg) 1 p3) fun M4 =>
  bnd (sI M4 (4 + (M.1 0 3).toNatClampNeg) 2 p4) fun M6 =>
  bnd (sI M6 (4 + (M.1 0 3).toNatClampNeg) 3 p5) fun M8 =>
  bnd (sI M8 (4 + (M.1 0 3).toNatClampNeg) 4 0) fun M10 =>
  bnd (sI M10 (4 + (M.1 0 3).toNatClampNeg) 5 10) fun M12 =>
  bnd (sI M12 (4 + (M.1 0 3).toNatClampNeg) 6 0) fun M14 =>
  bnd (sI M14 (4 + (M.1 0 3).toNatClampNeg) 7 0) fun M16 =>
  bnd (sI M16 0 3 ((M16.1 0 3) + 1)) fun M18 =>
  some ((M18.1 0 3) - 1, M18)
set_option maxHeartbeats 4000000 in
set_option maxRecDepth 100000 in
theorem ctX6_openValley {G : GG} {l : Launch} (w : Wd) (r : Nat) (hr : 1 ≤ r ∧ r ≤ 9) (M : MM) (p1 : Int64) (p3 : Int32) (p4 : Int32) (p5 : Int32)  {rx : Int32} {rw : MM} (hF : FX6_openValley M p1 p3 p4 p5 = some (rx, rw)) : CT G l yX6_openValley cX6_openValley 7 (some .int) rmX6_openValley 0 0 [.ref (adr G r 0), .long p1, .int p3, .int p4, .int p5] (sW w r M) (some (.int rx)) (sW w r rw) := by
  refine CT.of miX6_openValley [(0, .ref (adr G r 0)), (1, .long p1), (3, .int p3), (4, .int p4), (5, .int p5)] rfl (Nat.le_of_ble_eq_true rfl) ?_
  intro p e s m args below meth c hX hR hlk
  have hX : FX G RX6 cX6_openValley 7 p s m args c := hX
  unfold FX6_openValley at hF
  refine J_aload_n hX dX6_openValley_0 0 rfl (t := 1) rfl ?_
  refine JM_get hX cb4 (kMarket hr) 0 (by decide) q_371 rfl dX6_openValley_1 (t := 4) rfl ?_
  refine J_aload_n hX dX6_openValley_4 0 rfl (t := 5) rfl ?_
  refine JM_get hX cb4 (kMarket hr) 3 (by decide) q_377 rfl dX6_openValley_5 (t := 8) rfl ?_
  obtain ⟨g1, hF⟩ := gd_e hF
  refine J_aald (k := 3) hX (kValleys hr) rfl g1 dX6_openValley_8 (t := 9) rfl ?_
  refine J_astore (lc2 := [(6, .ref (adr G r (4 + (M.1 0 3).toNatClampNeg))), (0, .ref (adr G r 0)), (1, .long p1), (3, .int p3), (4, .int p4), (5, .int p5)]) hX dX6_openValley_9 (Nat.le_of_ble_eq_true rfl) rfl (t := 11) rfl ?_
  refine J_aload hX dX6_openValley_11 0 rfl (t := 13) rfl ?_
  refine J_lload_n hX dX6_openValley_13 2 rfl (t := 14) rfl ?_
  obtain ⟨M2, e3, hF⟩ := bnd_e hF
  refine JM_putl hX cb8 (kValley hr ⟨Nat.le_add_right 4 _, Nat.add_lt_add_left (inb_lt g1) 4⟩) 0 (by decide) q_236 rfl rfl e3 (fun _ _ => Nat.le_of_ble_eq_true rfl) (fun _ _ => rfl) dX6_openValley_14 (t := 17) rfl ?_
  refine J_aload hX dX6_openValley_17 0 rfl (t := 19) rfl ?_
  refine J_iload_n hX dX6_openValley_19 3 rfl (t := 20) rfl ?_
  obtain ⟨M4, e5, hF⟩ := bnd_e hF
  refine JM_puti hX cb8 (kValley hr ⟨Nat.le_add_right 4 _, Nat.add_lt_add_left (inb_lt g1) 4⟩) 1 (by decide) q_239 rfl rfl e5 (fun _ _ => Nat.le_of_ble_eq_true rfl) (fun _ _ => rfl) dX6_openValley_20 (t := 23) rfl ?_
  refine J_aload hX dX6_openValley_23 0 rfl (t := 25) rfl ?_
  refine J_iload hX dX6_openValley_25 4 rfl (t := 27) rfl ?_
  obtain ⟨M6, e7, hF⟩ := bnd_e hF
  refine JM_puti hX cb8 (kValley hr ⟨Nat.le_add_right 4 _, Nat.add_lt_add_left (inb_lt g1) 4⟩) 2 (by decide) q_243 rfl rfl e7 (fun _ _ => Nat.le_of_ble_eq_true rfl) (fun _ _ => rfl) dX6_openValley_27 (t := 30) rfl ?_
  refine J_aload hX dX6_openValley_30 0 rfl (t := 32) rfl ?_
  refine J_iload hX dX6_openValley_32 5 rfl (t := 34) rfl ?_
  obtain ⟨M8, e9, hF⟩ := bnd_e hF
  refine JM_puti hX cb8 (kValley hr ⟨Nat.le_add_right 4 _, Nat.add_lt_add_left (inb_lt g1) 4⟩) 3 (by decide) q_245 rfl rfl e9 (fun _ _ => Nat.le_of_ble_eq_true rfl) (fun _ _ => rfl) dX6_openValley_34 (t := 37) rfl ?_
  refine J_aload hX dX6_openValley_37 0 rfl (t := 39) rfl ?_
  refine J_iconst (v := 0) hX dX6_openValley_39 (by decide) (t := 40) rfl ?_
  obtain ⟨M10, e11, hF⟩ := bnd_e hF
  refine JM_puti hX cb8 (kValley hr ⟨Nat.le_add_right 4 _, Nat.add_lt_add_left (inb_lt g1) 4⟩) 4 (by decide) q_248 rfl rfl e11 (fun _ _ => Nat.le_of_ble_eq_true rfl) (fun _ _ => rfl) dX6_openValley_40 (t := 43) rfl ?_
  refine J_aload hX dX6_openValley_43 0 rfl (t := 45) rfl ?_
  refine J_bipush (v := 10) hX dX6_openValley_45 (by decide) (t := 47) rfl ?_
  obtain ⟨M12, e13, hF⟩ := bnd_e hF
  refine JM_puti hX cb8 (kValley hr ⟨Nat.le_add_right 4 _, Nat.add_lt_add_left (inb_lt g1) 4⟩) 5 (by decide) q_250 rfl rfl e13 (fun _ _ => Nat.le_of_ble_eq_true rfl) (fun _ _ => rfl) dX6_openValley_47 (t := 50) rfl ?_
  refine J_aload hX dX6_openValley_50 0 rfl (t := 52) rfl ?_
  refine J_iconst (v := 0) hX dX6_openValley_52 (by decide) (t := 53) rfl ?_
  obtain ⟨M14, e15, hF⟩ := bnd_e hF
  refine JM_puti hX cb8 (kValley hr ⟨Nat.le_add_right 4 _, Nat.add_lt_add_left (inb_lt g1) 4⟩) 6 (by decide) q_254 rfl rfl e15 (fun _ _ => Nat.le_of_ble_eq_true rfl) (fun _ _ => rfl) dX6_openValley_53 (t := 56) rfl ?_
  refine J_aload hX dX6_openValley_56 0 rfl (t := 58) rfl ?_
  refine J_iconst (v := 0) hX dX6_openValley_58 (by decide) (t := 59) rfl ?_
  obtain ⟨M16, e17, hF⟩ := bnd_e hF
  refine JM_puti hX cb8 (kValley hr ⟨Nat.le_add_right 4 _, Nat.add_lt_add_left (inb_lt g1) 4⟩) 7 (by decide) q_257 rfl rfl e17 (fun _ _ => Nat.le_of_ble_eq_true rfl) (fun _ _ => rfl) dX6_openValley_59 (t := 62) rfl ?_
  refine J_aload_n hX dX6_openValley_62 1 rfl (t := 63) rfl ?_
  refine J_dup hX dX6_openValley_63 rfl (t := 64) rfl ?_
  refine JM_get hX cb4 (kMarket hr) 3 (by decide) q_377 rfl dX6_openValley_64 (t := 67) rfl ?_
  refine J_iconst (v := 1) hX dX6_openValley_67 (by decide) (t := 68) rfl ?_
  refine J_iadd hX dX6_openValley_68 (t := 69) rfl ?_
  obtain ⟨M18, e19, hF⟩ := bnd_e hF
  refine JM_puti hX cb4 (kMarket hr) 3 (by decide) q_377 rfl rfl e19 (fun _ _ => Nat.le_of_ble_eq_true rfl) (fun _ _ => rfl) dX6_openValley_69 (t := 72) rfl ?_
  refine J_aload_n hX dX6_openValley_72 1 rfl (t := 73) rfl ?_
  refine JM_get hX cb4 (kMarket hr) 3 (by decide) q_377 rfl dX6_openValley_73 (t := 76) rfl ?_
  refine J_iconst (v := 1) hX dX6_openValley_76 (by decide) (t := 77) rfl ?_
  refine J_isub hX dX6_openValley_77 (t := 78) rfl ?_
  replace hF := Option.some.inj hF
  obtain ⟨hF, hF2⟩ := Prod.mk.inj hF
  subst hF
  subst hF2
  exact J_iret hX hR hlk dX6_openValley_78
abbrev rmX6_welcome : Room := { frames := 0, cells := 0, slots := 0, locals := 0 }
theorem miX6_welcome : MI yX6_welcome cX6_welcome 6 (some .int) 3 := ⟨q_1145, q_138, by decide +kernel, by decide +kernel, by decide +kernel, by decide +kernel⟩
theorem mvX6_welcome : MV yX6_welcome := ⟨q_1143, q_1144⟩
def FX6_welcome (M : MM) (p1 : Int64) (p3 : Int32) (p4 : Int32) : Option (Int32 × MM) :=
  gd (inb (M.1 0 4) 8) <|
  bnd (sL M (12 + (M.1 0 4).toNatClampNeg) 0 p1) fun M2 =>
  bnd (sI M2 (12 + (M.1 0 4).toNatClampNeg) 1 p3) fun M4 =>
  bnd (sI M4 (12 + (M.1 0 4).toNatClampNeg) 2 p4) fun M6 =>
  bnd (sI M6 (12 + (M.1 0 4).toNatClampNeg) 3 p4) fun M8 =>
  bnd (sI M8 (12 + (M.1 0 4).toNatClampNeg) 4 0) fun M10 =>
  bnd (sI M10 (12 + (M.1 0 4).toNatClampNeg) 5 0) fun M12 =>
  bnd (sI M12 (12 + (M.1 0 4).toNatClampNeg) 6 0) fun M14 =>
  bnd (sI M14 0 4 ((M14.1 0 4) + 1)) fun M16 =>
  some ((M16.1 0 4) - 1, M16)
set_option maxHeartbeats 4000000 in
set_option maxRecDepth 100000 in
theorem ctX6_welcome {G : GG} {l : Launch} (w : Wd) (r : Nat) (hr : 1 ≤ r ∧ r ≤ 9) (M : MM) (p1 : Int64) (p3 : Int32) (p4 : Int32)  {rx : Int32} {rw : MM} (hF : FX6_welcome M p1 p3 p4 = some (rx, rw)) : CT G l yX6_welcome cX6_welcome 6 (some .int) rmX6_welcome 0 0 [.ref (adr G r 0), .long p1, .int p3, .int p4] (sW w r M) (some (.int rx)) (sW w r rw) := by
  refine CT.of miX6_welcome [(0, .ref (adr G r 0)), (1, .long p1), (3, .int p3), (4, .int p4)] rfl (Nat.le_of_ble_eq_true rfl) ?_
  intro p e s m args below meth c hX hR hlk
  have hX : FX G RX6 cX6_welcome 6 p s m args c := hX
  unfold FX6_welcome at hF
  refine J_aload_n hX dX6_welcome_0 0 rfl (t := 1) rfl ?_
  refine JM_get hX cb4 (kMarket hr) 1 (by decide) q_373 rfl dX6_welcome_1 (t := 4) rfl ?_
  refine J_aload_n hX dX6_welcome_4 0 rfl (t := 5) rfl ?_
  refine JM_get hX cb4 (kMarket hr) 4 (by decide) q_380 rfl dX6_welcome_5 (t := 8) rfl ?_
  obtain ⟨g1, hF⟩ := gd_e hF
  refine J_aald (k := 4) hX (kCustomers hr) rfl g1 dX6_welcome_8 (t := 9) rfl ?_
  refine J_astore (lc2 := [(5, .ref (adr G r (12 + (M.1 0 4).toNatClampNeg))), (0, .ref (adr G r 0)), (1, .long p1), (3, .int p3), (4, .int p4)]) hX dX6_welcome_9 (Nat.le_of_ble_eq_true rfl) rfl (t := 11) rfl ?_
  refine J_aload hX dX6_welcome_11 0 rfl (t := 13) rfl ?_
  refine J_lload_n hX dX6_welcome_13 2 rfl (t := 14) rfl ?_
  obtain ⟨M2, e3, hF⟩ := bnd_e hF
  refine JM_putl hX cb1 (kCustomer hr ⟨Nat.le_add_right 12 _, Nat.add_lt_add_left (inb_lt g1) 12⟩) 0 (by decide) q_281 rfl rfl e3 (fun _ _ => Nat.le_of_ble_eq_true rfl) (fun _ _ => rfl) dX6_welcome_14 (t := 17) rfl ?_
  refine J_aload hX dX6_welcome_17 0 rfl (t := 19) rfl ?_
  refine J_iload_n hX dX6_welcome_19 3 rfl (t := 20) rfl ?_
  obtain ⟨M4, e5, hF⟩ := bnd_e hF
  refine JM_puti hX cb1 (kCustomer hr ⟨Nat.le_add_right 12 _, Nat.add_lt_add_left (inb_lt g1) 12⟩) 1 (by decide) q_284 rfl rfl e5 (fun _ _ => Nat.le_of_ble_eq_true rfl) (fun _ _ => rfl) dX6_welcome_20 (t := 23) rfl ?_
  refine J_aload hX dX6_welcome_23 0 rfl (t := 25) rfl ?_
  refine J_iload hX dX6_welcome_25 4 rfl (t := 27) rfl ?_
  obtain ⟨M6, e7, hF⟩ := bnd_e hF
  refine JM_puti hX cb1 (kCustomer hr ⟨Nat.le_add_right 12 _, Nat.add_lt_add_left (inb_lt g1) 12⟩) 2 (by decide) q_287 rfl rfl e7 (fun _ _ => Nat.le_of_ble_eq_true rfl) (fun _ _ => rfl) dX6_welcome_27 (t := 30) rfl ?_
  refine J_aload hX dX6_welcome_30 0 rfl (t := 32) rfl ?_
  refine J_iload hX dX6_welcome_32 4 rfl (t := 34) rfl ?_
  obtain ⟨M8, e9, hF⟩ := bnd_e hF
  refine JM_puti hX cb1 (kCustomer hr ⟨Nat.le_add_right 12 _, Nat.add_lt_add_left (inb_lt g1) 12⟩) 3 (by decide) q_289 rfl rfl e9 (fun _ _ => Nat.le_of_ble_eq_true rfl) (fun _ _ => rfl) dX6_welcome_34 (t := 37) rfl ?_
  refine J_aload hX dX6_welcome_37 0 rfl (t := 39) rfl ?_
  refine J_iconst (v := 0) hX dX6_welcome_39 (by decide) (t := 40) rfl ?_
  obtain ⟨M10, e11, hF⟩ := bnd_e hF
  refine JM_puti hX cb1 (kCustomer hr ⟨Nat.le_add_right 12 _, Nat.add_lt_add_left (inb_lt g1) 12⟩) 4 (by decide) q_293 rfl rfl e11 (fun _ _ => Nat.le_of_ble_eq_true rfl) (fun _ _ => rfl) dX6_welcome_40 (t := 43) rfl ?_
  refine J_aload hX dX6_welcome_43 0 rfl (t := 45) rfl ?_
  refine J_iconst (v := 0) hX dX6_welcome_45 (by decide) (t := 46) rfl ?_
  obtain ⟨M12, e13, hF⟩ := bnd_e hF
  refine JM_puti hX cb1 (kCustomer hr ⟨Nat.le_add_right 12 _, Nat.add_lt_add_left (inb_lt g1) 12⟩) 5 (by decide) q_295 rfl rfl e13 (fun _ _ => Nat.le_of_ble_eq_true rfl) (fun _ _ => rfl) dX6_welcome_46 (t := 49) rfl ?_
  refine J_aload hX dX6_welcome_49 0 rfl (t := 51) rfl ?_
  refine J_iconst (v := 0) hX dX6_welcome_51 (by decide) (t := 52) rfl ?_
  obtain ⟨M14, e15, hF⟩ := bnd_e hF
  refine JM_puti hX cb1 (kCustomer hr ⟨Nat.le_add_right 12 _, Nat.add_lt_add_left (inb_lt g1) 12⟩) 6 (by decide) q_298 rfl rfl e15 (fun _ _ => Nat.le_of_ble_eq_true rfl) (fun _ _ => rfl) dX6_welcome_52 (t := 55) rfl ?_
  refine J_aload_n hX dX6_welcome_55 1 rfl (t := 56) rfl ?_
  refine J_dup hX dX6_welcome_56 rfl (t := 57) rfl ?_
  refine JM_get hX cb4 (kMarket hr) 4 (by decide) q_380 rfl dX6_welcome_57 (t := 60) rfl ?_
  refine J_iconst (v := 1) hX dX6_welcome_60 (by decide) (t := 61) rfl ?_
  refine J_iadd hX dX6_welcome_61 (t := 62) rfl ?_
  obtain ⟨M16, e17, hF⟩ := bnd_e hF
  refine JM_puti hX cb4 (kMarket hr) 4 (by decide) q_380 rfl rfl e17 (fun _ _ => Nat.le_of_ble_eq_true rfl) (fun _ _ => rfl) dX6_welcome_62 (t := 65) rfl ?_
  refine J_aload_n hX dX6_welcome_65 1 rfl (t := 66) rfl ?_
  refine JM_get hX cb4 (kMarket hr) 4 (by decide) q_380 rfl dX6_welcome_66 (t := 69) rfl ?_
  refine J_iconst (v := 1) hX dX6_welcome_69 (by decide) (t := 70) rfl ?_
  refine J_isub hX dX6_welcome_70 (t := 71) rfl ?_
  replace hF := Option.some.inj hF
  obtain ⟨hF, hF2⟩ := Prod.mk.inj hF
  subst hF
  subst hF2
  exact J_iret hX hR hlk dX6_welcome_71
abbrev rmX6_sell : Room := { frames := 1, cells := 0, slots := 0, locals := 20 }
theorem miX6_sell : MI yX6_sell cX6_sell 7 (some .int) 4 := ⟨q_1149, q_138, by decide +kernel, by decide +kernel, by decide +kernel, by decide +kernel⟩
theorem mvX6_sell : MV yX6_sell := ⟨q_1147, q_1148⟩
def FX6_sell (M : MM) (p1 : Int32) (p2 : Int32) (p3 : Int32) (p4 : Int32) : Option (Int32 × MM) :=
  gd (inb p1 8) <|
  gd (inb (M.1 0 5) 30) <|
  bnd (sI M (20 + (M.1 0 5).toNatClampNeg) 0 p1) fun M3 =>
  bnd (sI M3 (20 + (M.1 0 5).toNatClampNeg) 1 p2) fun M5 =>
  bnd (sI M5 (20 + (M.1 0 5).toNatClampNeg) 2 p3) fun M7 =>
  bnd (sI M7 (20 + (M.1 0 5).toNatClampNeg) 3 p4) fun M9 =>
  gd (inb p2 8) <|
  bnd (sI M9 (20 + (M.1 0 5).toNatClampNeg) 4 (M9.1 (4 + p2.toNatClampNeg) 3)) fun M12 =>
  gd (inb p2 8) <|
  bnd (sI M12 (20 + (M.1 0 5).toNatClampNeg) 5 (M12.1 (4 + p2.toNatClampNeg) 1)) fun M15 =>
  bnd (sI M15 (20 + (M.1 0 5).toNatClampNeg) 6 (M15.1 0 6)) fun M17 =>
  bnd (sI M17 (20 + (M.1 0 5).toNatClampNeg) 7 ((M17.1 0 6) + (M17.1 (12 + p1.toNatClampNeg) 1))) fun M19 =>
  bnd (sI M19 (20 + (M.1 0 5).toNatClampNeg) 8 0) fun M21 =>
  bnd (sI M21 (20 + (M.1 0 5).toNatClampNeg) 9 0) fun M23 =>
  bnd (sI M23 (20 + (M.1 0 5).toNatClampNeg) 10 0) fun M25 =>
  bnd (FX8_cost M25 (20 + (M.1 0 5).toNatClampNeg)) fun x28 =>
  bnd (sI M25 (12 + p1.toNatClampNeg) 3 ((M25.1 (12 + p1.toNatClampNeg) 3) - x28)) fun M30 =>
  bnd (FX8_cost M30 (20 + (M.1 0 5).toNatClampNeg)) fun x33 =>
  bnd (sI M30 (12 + p1.toNatClampNeg) 5 ((M30.1 (12 + p1.toNatClampNeg) 5) + x33)) fun M35 =>
  bnd (FX8_cost M35 (20 + (M.1 0 5).toNatClampNeg)) fun x38 =>
  bnd (sI M35 0 10 ((M35.1 0 10) + x38)) fun M40 =>
  bnd (sI M40 0 5 ((M40.1 0 5) + 1)) fun M42 =>
  some ((M42.1 0 5) - 1, M42)
set_option maxHeartbeats 4000000 in
set_option maxRecDepth 100000 in
theorem ctX6_sell {G : GG} {l : Launch} (w : Wd) (r : Nat) (hr : 1 ≤ r ∧ r ≤ 9) (M : MM) (p1 : Int32) (p2 : Int32) (p3 : Int32) (p4 : Int32)  {rx : Int32} {rw : MM} (hF : FX6_sell M p1 p2 p3 p4 = some (rx, rw)) : CT G l yX6_sell cX6_sell 7 (some .int) rmX6_sell 0 0 [.ref (adr G r 0), .int p1, .int p2, .int p3, .int p4] (sW w r M) (some (.int rx)) (sW w r rw) := by
  refine CT.of miX6_sell [(0, .ref (adr G r 0)), (1, .int p1), (2, .int p2), (3, .int p3), (4, .int p4)] rfl (Nat.le_of_ble_eq_true rfl) ?_
  intro p e s m args below meth c hX hR hlk
  have hX : FX G RX6 cX6_sell 7 p s m args c := hX
  unfold FX6_sell at hF
  refine J_aload_n hX dX6_sell_0 0 rfl (t := 1) rfl ?_
  refine JM_get hX cb4 (kMarket hr) 1 (by decide) q_373 rfl dX6_sell_1 (t := 4) rfl ?_
  refine J_iload_n hX dX6_sell_4 1 rfl (t := 5) rfl ?_
  obtain ⟨g1, hF⟩ := gd_e hF
  refine J_aald (k := 4) hX (kCustomers hr) rfl g1 dX6_sell_5 (t := 6) rfl ?_
  refine J_astore (lc2 := [(5, .ref (adr G r (12 + p1.toNatClampNeg))), (0, .ref (adr G r 0)), (1, .int p1), (2, .int p2), (3, .int p3), (4, .int p4)]) hX dX6_sell_6 (Nat.le_of_ble_eq_true rfl) rfl (t := 8) rfl ?_
  refine J_aload_n hX dX6_sell_8 1 rfl (t := 9) rfl ?_
  refine JM_get hX cb4 (kMarket hr) 2 (by decide) q_375 rfl dX6_sell_9 (t := 12) rfl ?_
  refine J_aload_n hX dX6_sell_12 1 rfl (t := 13) rfl ?_
  refine JM_get hX cb4 (kMarket hr) 5 (by decide) q_383 rfl dX6_sell_13 (t := 16) rfl ?_
  obtain ⟨g2, hF⟩ := gd_e hF
  refine J_aald (k := 5) hX (kShouts hr) rfl g2 dX6_sell_16 (t := 17) rfl ?_
  refine J_astore (lc2 := [(6, .ref (adr G r (20 + (M.1 0 5).toNatClampNeg))), (5, .ref (adr G r (12 + p1.toNatClampNeg))), (0, .ref (adr G r 0)), (1, .int p1), (2, .int p2), (3, .int p3), (4, .int p4)]) hX dX6_sell_17 (Nat.le_of_ble_eq_true rfl) rfl (t := 19) rfl ?_
  refine J_aload hX dX6_sell_19 0 rfl (t := 21) rfl ?_
  refine J_iload_n hX dX6_sell_21 3 rfl (t := 22) rfl ?_
  obtain ⟨M3, e4, hF⟩ := bnd_e hF
  refine JM_puti hX cb6 (kShout hr ⟨Nat.le_add_right 20 _, Nat.add_lt_add_left (inb_lt g2) 20⟩) 0 (by decide) q_321 rfl rfl e4 (fun _ _ => Nat.le_of_ble_eq_true rfl) (fun _ _ => rfl) dX6_sell_22 (t := 25) rfl ?_
  refine J_aload hX dX6_sell_25 0 rfl (t := 27) rfl ?_
  refine J_iload_n hX dX6_sell_27 4 rfl (t := 28) rfl ?_
  obtain ⟨M5, e6, hF⟩ := bnd_e hF
  refine JM_puti hX cb6 (kShout hr ⟨Nat.le_add_right 20 _, Nat.add_lt_add_left (inb_lt g2) 20⟩) 1 (by decide) q_324 rfl rfl e6 (fun _ _ => Nat.le_of_ble_eq_true rfl) (fun _ _ => rfl) dX6_sell_28 (t := 31) rfl ?_
  refine J_aload hX dX6_sell_31 0 rfl (t := 33) rfl ?_
  refine J_iload_n hX dX6_sell_33 5 rfl (t := 34) rfl ?_
  obtain ⟨M7, e8, hF⟩ := bnd_e hF
  refine JM_puti hX cb6 (kShout hr ⟨Nat.le_add_right 20 _, Nat.add_lt_add_left (inb_lt g2) 20⟩) 2 (by decide) q_327 rfl rfl e8 (fun _ _ => Nat.le_of_ble_eq_true rfl) (fun _ _ => rfl) dX6_sell_34 (t := 37) rfl ?_
  refine J_aload hX dX6_sell_37 0 rfl (t := 39) rfl ?_
  refine J_iload hX dX6_sell_39 6 rfl (t := 41) rfl ?_
  obtain ⟨M9, e10, hF⟩ := bnd_e hF
  refine JM_puti hX cb6 (kShout hr ⟨Nat.le_add_right 20 _, Nat.add_lt_add_left (inb_lt g2) 20⟩) 3 (by decide) q_329 rfl rfl e10 (fun _ _ => Nat.le_of_ble_eq_true rfl) (fun _ _ => rfl) dX6_sell_41 (t := 44) rfl ?_
  refine J_aload hX dX6_sell_44 0 rfl (t := 46) rfl ?_
  refine J_aload_n hX dX6_sell_46 2 rfl (t := 47) rfl ?_
  refine JM_get hX cb4 (kMarket hr) 0 (by decide) q_371 rfl dX6_sell_47 (t := 50) rfl ?_
  refine J_iload_n hX dX6_sell_50 4 rfl (t := 51) rfl ?_
  obtain ⟨g11, hF⟩ := gd_e hF
  refine J_aald (k := 3) hX (kValleys hr) rfl g11 dX6_sell_51 (t := 52) rfl ?_
  refine JM_get hX cb8 (kValley hr ⟨Nat.le_add_right 4 _, Nat.add_lt_add_left (inb_lt g11) 4⟩) 3 (by decide) q_245 rfl dX6_sell_52 (t := 55) rfl ?_
  obtain ⟨M12, e13, hF⟩ := bnd_e hF
  refine JM_puti hX cb6 (kShout hr ⟨Nat.le_add_right 20 _, Nat.add_lt_add_left (inb_lt g2) 20⟩) 4 (by decide) q_332 rfl rfl e13 (fun _ _ => Nat.le_of_ble_eq_true rfl) (fun _ _ => rfl) dX6_sell_55 (t := 58) rfl ?_
  refine J_aload hX dX6_sell_58 0 rfl (t := 60) rfl ?_
  refine J_aload_n hX dX6_sell_60 2 rfl (t := 61) rfl ?_
  refine JM_get hX cb4 (kMarket hr) 0 (by decide) q_371 rfl dX6_sell_61 (t := 64) rfl ?_
  refine J_iload_n hX dX6_sell_64 4 rfl (t := 65) rfl ?_
  obtain ⟨g14, hF⟩ := gd_e hF
  refine J_aald (k := 3) hX (kValleys hr) rfl g14 dX6_sell_65 (t := 66) rfl ?_
  refine JM_get hX cb8 (kValley hr ⟨Nat.le_add_right 4 _, Nat.add_lt_add_left (inb_lt g14) 4⟩) 1 (by decide) q_239 rfl dX6_sell_66 (t := 69) rfl ?_
  obtain ⟨M15, e16, hF⟩ := bnd_e hF
  refine JM_puti hX cb6 (kShout hr ⟨Nat.le_add_right 20 _, Nat.add_lt_add_left (inb_lt g2) 20⟩) 5 (by decide) q_334 rfl rfl e16 (fun _ _ => Nat.le_of_ble_eq_true rfl) (fun _ _ => rfl) dX6_sell_69 (t := 72) rfl ?_
  refine J_aload hX dX6_sell_72 0 rfl (t := 74) rfl ?_
  refine J_aload_n hX dX6_sell_74 2 rfl (t := 75) rfl ?_
  refine JM_get hX cb4 (kMarket hr) 6 (by decide) q_386 rfl dX6_sell_75 (t := 78) rfl ?_
  obtain ⟨M17, e18, hF⟩ := bnd_e hF
  refine JM_puti hX cb6 (kShout hr ⟨Nat.le_add_right 20 _, Nat.add_lt_add_left (inb_lt g2) 20⟩) 6 (by decide) q_336 rfl rfl e18 (fun _ _ => Nat.le_of_ble_eq_true rfl) (fun _ _ => rfl) dX6_sell_78 (t := 81) rfl ?_
  refine J_aload hX dX6_sell_81 0 rfl (t := 83) rfl ?_
  refine J_aload_n hX dX6_sell_83 2 rfl (t := 84) rfl ?_
  refine JM_get hX cb4 (kMarket hr) 6 (by decide) q_386 rfl dX6_sell_84 (t := 87) rfl ?_
  refine J_aload hX dX6_sell_87 1 rfl (t := 89) rfl ?_
  refine JM_get hX cb1 (kCustomer hr ⟨Nat.le_add_right 12 _, Nat.add_lt_add_left (inb_lt g1) 12⟩) 1 (by decide) q_284 rfl dX6_sell_89 (t := 92) rfl ?_
  refine J_iadd hX dX6_sell_92 (t := 93) rfl ?_
  obtain ⟨M19, e20, hF⟩ := bnd_e hF
  refine JM_puti hX cb6 (kShout hr ⟨Nat.le_add_right 20 _, Nat.add_lt_add_left (inb_lt g2) 20⟩) 7 (by decide) q_338 rfl rfl e20 (fun _ _ => Nat.le_of_ble_eq_true rfl) (fun _ _ => rfl) dX6_sell_93 (t := 96) rfl ?_
  refine J_aload hX dX6_sell_96 0 rfl (t := 98) rfl ?_
  refine J_iconst (v := 0) hX dX6_sell_98 (by decide) (t := 99) rfl ?_
  obtain ⟨M21, e22, hF⟩ := bnd_e hF
  refine JM_puti hX cb6 (kShout hr ⟨Nat.le_add_right 20 _, Nat.add_lt_add_left (inb_lt g2) 20⟩) 8 (by decide) q_341 rfl rfl e22 (fun _ _ => Nat.le_of_ble_eq_true rfl) (fun _ _ => rfl) dX6_sell_99 (t := 102) rfl ?_
  refine J_aload hX dX6_sell_102 0 rfl (t := 104) rfl ?_
  refine J_iconst (v := 0) hX dX6_sell_104 (by decide) (t := 105) rfl ?_
  obtain ⟨M23, e24, hF⟩ := bnd_e hF
  refine JM_puti hX cb6 (kShout hr ⟨Nat.le_add_right 20 _, Nat.add_lt_add_left (inb_lt g2) 20⟩) 9 (by decide) q_344 rfl rfl e24 (fun _ _ => Nat.le_of_ble_eq_true rfl) (fun _ _ => rfl) dX6_sell_105 (t := 108) rfl ?_
  refine J_aload hX dX6_sell_108 0 rfl (t := 110) rfl ?_
  refine J_iconst (v := 0) hX dX6_sell_110 (by decide) (t := 111) rfl ?_
  obtain ⟨M25, e26, hF⟩ := bnd_e hF
  refine JM_puti hX cb6 (kShout hr ⟨Nat.le_add_right 20 _, Nat.add_lt_add_left (inb_lt g2) 20⟩) 10 (by decide) q_347 rfl rfl e26 (fun _ _ => Nat.le_of_ble_eq_true rfl) (fun _ _ => rfl) dX6_sell_111 (t := 114) rfl ?_
  refine J_aload hX dX6_sell_114 1 rfl (t := 116) rfl ?_
  refine J_dup hX dX6_sell_116 rfl (t := 117) rfl ?_
  refine JM_get hX cb1 (kCustomer hr ⟨Nat.le_add_right 12 _, Nat.add_lt_add_left (inb_lt g1) 12⟩) 3 (by decide) q_289 rfl dX6_sell_117 (t := 120) rfl ?_
  refine J_aload hX dX6_sell_120 0 rfl (t := 122) rfl ?_
  obtain ⟨x28, h27, hF⟩ := bnd_e hF
  have k29 := (ctX8_cost (G := G) (l := l) w r hr M25 (20 + (M.1 0 5).toNatClampNeg) ⟨Nat.le_add_right 20 _, Nat.add_lt_add_left (inb_lt g2) 20⟩ h27)
  refine J_callV hX [] [.int (M25.1 (12 + p1.toNatClampNeg) 3), .ref (adr G r (12 + p1.toNatClampNeg))] [.int x28, .int (M25.1 (12 + p1.toNatClampNeg) 3), .ref (adr G r (12 + p1.toNatClampNeg))] k29 miX8_cost mvX8_cost cb6 (kShout hr ⟨Nat.le_add_right 20 _, Nat.add_lt_add_left (inb_lt g2) 20⟩) q_742 ⟨rfl, rfl, Nat.le_of_ble_eq_true rfl, Nat.le_of_ble_eq_true rfl⟩ rfl rfl (Nat.le_of_ble_eq_true rfl) ⟨Nat.le_of_ble_eq_true rfl, Nat.le_of_ble_eq_true rfl⟩ dX6_sell_122 (t := 125) rfl rfl ?_
  refine J_isub hX dX6_sell_125 (t := 126) rfl ?_
  obtain ⟨M30, e31, hF⟩ := bnd_e hF
  refine JM_puti hX cb1 (kCustomer hr ⟨Nat.le_add_right 12 _, Nat.add_lt_add_left (inb_lt g1) 12⟩) 3 (by decide) q_289 rfl rfl e31 (fun _ _ => Nat.le_of_ble_eq_true rfl) (fun _ _ => rfl) dX6_sell_126 (t := 129) rfl ?_
  refine J_aload hX dX6_sell_129 1 rfl (t := 131) rfl ?_
  refine J_dup hX dX6_sell_131 rfl (t := 132) rfl ?_
  refine JM_get hX cb1 (kCustomer hr ⟨Nat.le_add_right 12 _, Nat.add_lt_add_left (inb_lt g1) 12⟩) 5 (by decide) q_295 rfl dX6_sell_132 (t := 135) rfl ?_
  refine J_aload hX dX6_sell_135 0 rfl (t := 137) rfl ?_
  obtain ⟨x33, h32, hF⟩ := bnd_e hF
  have k34 := (ctX8_cost (G := G) (l := l) w r hr M30 (20 + (M.1 0 5).toNatClampNeg) ⟨Nat.le_add_right 20 _, Nat.add_lt_add_left (inb_lt g2) 20⟩ h32)
  refine J_callV hX [] [.int (M30.1 (12 + p1.toNatClampNeg) 5), .ref (adr G r (12 + p1.toNatClampNeg))] [.int x33, .int (M30.1 (12 + p1.toNatClampNeg) 5), .ref (adr G r (12 + p1.toNatClampNeg))] k34 miX8_cost mvX8_cost cb6 (kShout hr ⟨Nat.le_add_right 20 _, Nat.add_lt_add_left (inb_lt g2) 20⟩) q_742 ⟨rfl, rfl, Nat.le_of_ble_eq_true rfl, Nat.le_of_ble_eq_true rfl⟩ rfl rfl (Nat.le_of_ble_eq_true rfl) ⟨Nat.le_of_ble_eq_true rfl, Nat.le_of_ble_eq_true rfl⟩ dX6_sell_137 (t := 140) rfl rfl ?_
  refine J_iadd hX dX6_sell_140 (t := 141) rfl ?_
  obtain ⟨M35, e36, hF⟩ := bnd_e hF
  refine JM_puti hX cb1 (kCustomer hr ⟨Nat.le_add_right 12 _, Nat.add_lt_add_left (inb_lt g1) 12⟩) 5 (by decide) q_295 rfl rfl e36 (fun _ _ => Nat.le_of_ble_eq_true rfl) (fun _ _ => rfl) dX6_sell_141 (t := 144) rfl ?_
  refine J_aload_n hX dX6_sell_144 2 rfl (t := 145) rfl ?_
  refine J_dup hX dX6_sell_145 rfl (t := 146) rfl ?_
  refine JM_get hX cb4 (kMarket hr) 10 (by decide) q_394 rfl dX6_sell_146 (t := 149) rfl ?_
  refine J_aload hX dX6_sell_149 0 rfl (t := 151) rfl ?_
  obtain ⟨x38, h37, hF⟩ := bnd_e hF
  have k39 := (ctX8_cost (G := G) (l := l) w r hr M35 (20 + (M.1 0 5).toNatClampNeg) ⟨Nat.le_add_right 20 _, Nat.add_lt_add_left (inb_lt g2) 20⟩ h37)
  refine J_callV hX [] [.int (M35.1 0 10), .ref (adr G r 0)] [.int x38, .int (M35.1 0 10), .ref (adr G r 0)] k39 miX8_cost mvX8_cost cb6 (kShout hr ⟨Nat.le_add_right 20 _, Nat.add_lt_add_left (inb_lt g2) 20⟩) q_742 ⟨rfl, rfl, Nat.le_of_ble_eq_true rfl, Nat.le_of_ble_eq_true rfl⟩ rfl rfl (Nat.le_of_ble_eq_true rfl) ⟨Nat.le_of_ble_eq_true rfl, Nat.le_of_ble_eq_true rfl⟩ dX6_sell_151 (t := 154) rfl rfl ?_
  refine J_iadd hX dX6_sell_154 (t := 155) rfl ?_
  obtain ⟨M40, e41, hF⟩ := bnd_e hF
  refine JM_puti hX cb4 (kMarket hr) 10 (by decide) q_394 rfl rfl e41 (fun _ _ => Nat.le_of_ble_eq_true rfl) (fun _ _ => rfl) dX6_sell_155 (t := 158) rfl ?_
  refine J_aload_n hX dX6_sell_158 2 rfl (t := 159) rfl ?_
  refine J_dup hX dX6_sell_159 rfl (t := 160) rfl ?_
  refine JM_get hX cb4 (kMarket hr) 5 (by decide) q_383 rfl dX6_sell_160 (t := 163) rfl ?_
  refine J_iconst (v := 1) hX dX6_sell_163 (by decide) (t := 164) rfl ?_
  refine J_iadd hX dX6_sell_164 (t := 165) rfl ?_
  obtain ⟨M42, e43, hF⟩ := bnd_e hF
  refine JM_puti hX cb4 (kMarket hr) 5 (by decide) q_383 rfl rfl e43 (fun _ _ => Nat.le_of_ble_eq_true rfl) (fun _ _ => rfl) dX6_sell_165 (t := 168) rfl ?_
  refine J_aload_n hX dX6_sell_168 2 rfl (t := 169) rfl ?_
  refine JM_get hX cb4 (kMarket hr) 5 (by decide) q_383 rfl dX6_sell_169 (t := 172) rfl ?_
  refine J_iconst (v := 1) hX dX6_sell_172 (by decide) (t := 173) rfl ?_
  refine J_isub hX dX6_sell_173 (t := 174) rfl ?_
  replace hF := Option.some.inj hF
  obtain ⟨hF, hF2⟩ := Prod.mk.inj hF
  subst hF
  subst hF2
  exact J_iret hX hR hlk dX6_sell_174
abbrev rmX6_callOffAll : Room := { frames := 2, cells := 0, slots := 0, locals := 46 }
theorem miX6_callOffAll : MI yX6_callOffAll cX6_callOffAll 3 none 1 := ⟨q_1213, q_138, by decide +kernel, by decide +kernel, by decide +kernel, by decide +kernel⟩
theorem mvX6_callOffAll : MV yX6_callOffAll := ⟨q_1212, q_21⟩
def FX6_callOffAll_L2 (n : Nat) : Nat → MM → Int32 → Int32 → Option (MM)
  | 0 => fun _ _ _ => none
  | k + 1 => fun M l1 l2 =>
    if M.1 0 5 ≤ l2 then
      some M
    else
      gd (inb l2 30) <|
      bnd (FX8_isOpen M (20 + l2.toNatClampNeg)) fun x3 =>
      if x3 = true then
        gd (inb l2 30) <|
        if M.1 (20 + l2.toNatClampNeg) 0 = l1 then
          bo2 (FX6_callOff M l2) fun x7 M8 =>
          FX6_callOffAll_L2 n k M8 l1 (l2 + 1)
        else
          FX6_callOffAll_L2 n k M l1 (l2 + 1)
      else
        FX6_callOffAll_L2 n k M l1 (l2 + 1)
set_option maxHeartbeats 4000000 in
set_option maxRecDepth 100000 in
theorem LX6_callOffAll_2 {G : GG} {l : Launch} (w : Wd) (r : Nat) (hr : 1 ≤ r ∧ r ≤ 9) {p : Program} {e : Env} {s : State} {m : MethodId} {args : Array Value} {below : List Frame} {meth : Method} {c : Code} (hX : FX G RX6 cX6_callOffAll 3 p s m args c) (hR : meth.sig.returnType = none) (hlk : meth.locks = false) {rw : MM} (n : Nat) : ∀ (k : Nat) (M : MM) (l1 : Int32) (l2 : Int32) , FX6_callOffAll_L2 n k M l1 l2 = some rw → J G p l e rmX6_callOffAll s m args below meth c 3 0 0 (MQ below (QV G (none) (sW w r rw)) args s 0 0 (gA G)) (GH G (sW w r M)) 2 [(0, .ref (adr G r 0)), (1, .int l1), (2, .int l2)] [] := by
  intro k
  induction k with
  | zero => intro M l1 l2  hF; cases hF
  | succ k ih =>
    intro M l1 l2  hF
    simp only [FX6_callOffAll_L2] at hF
    refine J_iload_n hX dX6_callOffAll_2 2 rfl (t := 3) rfl ?_
    refine J_aload_n hX dX6_callOffAll_3 0 rfl (t := 4) rfl ?_
    refine JM_get hX cb4 (kMarket hr) 5 (by decide) q_383 rfl dX6_callOffAll_4 (t := 7) rfl ?_
    refine J_icmp_ge (tgt := 47) hX dX6_callOffAll_7 (by decide) (t := 10) rfl (fun z => ?_) (fun z => ?_)
    · replace hF := it_t hF z
      replace hF := Option.some.inj hF
      subst hF
      exact J_vret hX hR hlk dX6_callOffAll_47
    · replace hF := it_f hF z
      refine J_aload_n hX dX6_callOffAll_10 0 rfl (t := 11) rfl ?_
      refine JM_get hX cb4 (kMarket hr) 2 (by decide) q_375 rfl dX6_callOffAll_11 (t := 14) rfl ?_
      refine J_iload_n hX dX6_callOffAll_14 2 rfl (t := 15) rfl ?_
      obtain ⟨g1, hF⟩ := gd_e hF
      refine J_aald (k := 5) hX (kShouts hr) rfl g1 dX6_callOffAll_15 (t := 16) rfl ?_
      obtain ⟨x3, h2, hF⟩ := bnd_e hF
      have k4 := (ctX8_isOpen (G := G) (l := l) w r hr M (20 + l2.toNatClampNeg) ⟨Nat.le_add_right 20 _, Nat.add_lt_add_left (inb_lt g1) 20⟩ h2)
      refine J_callV hX [] [] [.int (bI x3)] k4 miX8_isOpen mvX8_isOpen cb6 (kShout hr ⟨Nat.le_add_right 20 _, Nat.add_lt_add_left (inb_lt g1) 20⟩) q_638 ⟨rfl, rfl, Nat.le_of_ble_eq_true rfl, Nat.le_of_ble_eq_true rfl⟩ rfl rfl (Nat.le_of_ble_eq_true rfl) ⟨Nat.le_of_ble_eq_true rfl, Nat.le_of_ble_eq_true rfl⟩ dX6_callOffAll_16 (t := 19) rfl rfl ?_
      refine J_ifZ_eq (tgt := 41) hX dX6_callOffAll_19 (by decide) (t := 22) rfl (fun z => ?_) (fun z => ?_)
      · replace hF := ib_f hF z
        refine J_iinc (v := l2 + 1) (lc2 := [(2, .int (l2 + 1)), (0, .ref (adr G r 0)), (1, .int l1)]) hX dX6_callOffAll_41 2 rfl rfl (Nat.le_of_ble_eq_true rfl) rfl (t := 44) rfl ?_
        refine J_goto (tgt := 2) hX dX6_callOffAll_44 (by decide) ?_
        refine J_sub (lc2 := [(0, .ref (adr G r 0)), (1, .int l1), (2, .int (l2 + 1))]) [1, 2, 0] rfl ?_
        exact ih M l1 (l2 + 1) hF
      · replace hF := it_t hF z
        refine J_aload_n hX dX6_callOffAll_22 0 rfl (t := 23) rfl ?_
        refine JM_get hX cb4 (kMarket hr) 2 (by decide) q_375 rfl dX6_callOffAll_23 (t := 26) rfl ?_
        refine J_iload_n hX dX6_callOffAll_26 2 rfl (t := 27) rfl ?_
        obtain ⟨g5, hF⟩ := gd_e hF
        refine J_aald (k := 5) hX (kShouts hr) rfl g5 dX6_callOffAll_27 (t := 28) rfl ?_
        refine JM_get hX cb6 (kShout hr ⟨Nat.le_add_right 20 _, Nat.add_lt_add_left (inb_lt g5) 20⟩) 0 (by decide) q_321 rfl dX6_callOffAll_28 (t := 31) rfl ?_
        refine J_iload_n hX dX6_callOffAll_31 1 rfl (t := 32) rfl ?_
        refine J_icmp_ne (tgt := 41) hX dX6_callOffAll_32 (by decide) (t := 35) rfl (fun z => ?_) (fun z => ?_)
        · replace hF := it_f hF z
          refine J_iinc (v := l2 + 1) (lc2 := [(2, .int (l2 + 1)), (0, .ref (adr G r 0)), (1, .int l1)]) hX dX6_callOffAll_41 2 rfl rfl (Nat.le_of_ble_eq_true rfl) rfl (t := 44) rfl ?_
          refine J_goto (tgt := 2) hX dX6_callOffAll_44 (by decide) ?_
          refine J_sub (lc2 := [(0, .ref (adr G r 0)), (1, .int l1), (2, .int (l2 + 1))]) [1, 2, 0] rfl ?_
          exact ih M l1 (l2 + 1) hF
        · replace hF := it_t hF z
          refine J_aload_n hX dX6_callOffAll_35 0 rfl (t := 36) rfl ?_
          refine J_iload_n hX dX6_callOffAll_36 2 rfl (t := 37) rfl ?_
          obtain ⟨x7, M8, h6, hF⟩ := bo2_e hF
          have k9 := (ctX6_callOff (G := G) (l := l) w r hr M l2 h6)
          refine J_callV hX [.int l2] [] [.int x7] k9 miX6_callOff mvX6_callOff cb4 (kMarket hr) q_1198 ⟨rfl, rfl, Nat.le_of_ble_eq_true rfl, Nat.le_of_ble_eq_true rfl⟩ rfl rfl (Nat.le_of_ble_eq_true rfl) ⟨Nat.le_of_ble_eq_true rfl, Nat.le_of_ble_eq_true rfl⟩ dX6_callOffAll_37 (t := 40) rfl rfl ?_
          refine J_pop hX dX6_callOffAll_40 rfl (t := 41) rfl ?_
          refine J_iinc (v := l2 + 1) (lc2 := [(2, .int (l2 + 1)), (0, .ref (adr G r 0)), (1, .int l1)]) hX dX6_callOffAll_41 2 rfl rfl (Nat.le_of_ble_eq_true rfl) rfl (t := 44) rfl ?_
          refine J_goto (tgt := 2) hX dX6_callOffAll_44 (by decide) ?_
          refine J_sub (lc2 := [(0, .ref (adr G r 0)), (1, .int l1), (2, .int (l2 + 1))]) [1, 2, 0] rfl ?_
          exact ih M8 l1 (l2 + 1) hF
def FX6_callOffAll (n : Nat) (M : MM) (p1 : Int32) : Option (MM) :=
  FX6_callOffAll_L2 n n M p1 0
set_option maxHeartbeats 4000000 in
set_option maxRecDepth 100000 in
theorem ctX6_callOffAll {G : GG} {l : Launch} (w : Wd) (r : Nat) (hr : 1 ≤ r ∧ r ≤ 9) (M : MM) (p1 : Int32)  (n : Nat) {rw : MM} (hF : FX6_callOffAll n M p1 = some rw) : CT G l yX6_callOffAll cX6_callOffAll 3 none rmX6_callOffAll 0 0 [.ref (adr G r 0), .int p1] (sW w r M) (none) (sW w r rw) := by
  refine CT.of miX6_callOffAll [(0, .ref (adr G r 0)), (1, .int p1)] rfl (Nat.le_of_ble_eq_true rfl) ?_
  intro p e s m args below meth c hX hR hlk
  have hX : FX G RX6 cX6_callOffAll 3 p s m args c := hX
  unfold FX6_callOffAll at hF
  refine J_iconst (v := 0) hX dX6_callOffAll_0 (by decide) (t := 1) rfl ?_
  refine J_istore_n (lc2 := [(2, .int 0), (0, .ref (adr G r 0)), (1, .int p1)]) hX dX6_callOffAll_1 rfl (Nat.le_of_ble_eq_true rfl) rfl (t := 2) rfl ?_
  refine J_sub (lc2 := [(0, .ref (adr G r 0)), (1, .int p1), (2, .int 0)]) [1, 2, 0] rfl ?_
  exact LX6_callOffAll_2 w r hr hX hR hlk n n M p1 0 hF
abbrev rmX6_fakeNext : Room := { frames := 3, cells := 0, slots := 0, locals := 68 }
theorem miX6_fakeNext : MI yX6_fakeNext cX6_fakeNext 5 (some .int) 1 := ⟨q_1209, q_138, by decide +kernel, by decide +kernel, by decide +kernel, by decide +kernel⟩
theorem mvX6_fakeNext : MV yX6_fakeNext := ⟨q_1207, q_1208⟩
def FX6_fakeNext (n : Nat) (M : MM) (p1 : Int32) : Option (Int32 × MM) :=
  gd (inb p1 30) <|
  gd (inb (M.1 (20 + p1.toNatClampNeg) 0) 8) <|
  if M.1 0 7 < 1 then
    bo1 (FX6_echo M (20 + p1.toNatClampNeg) false) fun M4 =>
    bnd (FX2_hasAnger M4 (12 + (M.1 (20 + p1.toNatClampNeg) 0).toNatClampNeg)) fun x7 =>
    if x7 = true then
      bo1 (FX6_callOffAll n M4 (M4.1 (20 + p1.toNatClampNeg) 0)) fun M10 =>
      some (M10.1 (12 + (M.1 (20 + p1.toNatClampNeg) 0).toNatClampNeg) 4, M10)
    else
      some (M4.1 (12 + (M.1 (20 + p1.toNatClampNeg) 0).toNatClampNeg) 4, M4)
  else
    bo1 (FX6_echo M (20 + p1.toNatClampNeg) true) fun M13 =>
    bnd (sI M13 (12 + (M.1 (20 + p1.toNatClampNeg) 0).toNatClampNeg) 4 ((M13.1 (12 + (M.1 (20 + p1.toNatClampNeg) 0).toNatClampNeg) 4) + 1)) fun M15 =>
    bnd (FX2_hasAnger M15 (12 + (M.1 (20 + p1.toNatClampNeg) 0).toNatClampNeg)) fun x18 =>
    if x18 = true then
      bo1 (FX6_callOffAll n M15 (M15.1 (20 + p1.toNatClampNeg) 0)) fun M21 =>
      some (M21.1 (12 + (M.1 (20 + p1.toNatClampNeg) 0).toNatClampNeg) 4, M21)
    else
      some (M15.1 (12 + (M.1 (20 + p1.toNatClampNeg) 0).toNatClampNeg) 4, M15)
set_option maxHeartbeats 4000000 in
set_option maxRecDepth 100000 in
theorem ctX6_fakeNext {G : GG} {l : Launch} (w : Wd) (r : Nat) (hr : 1 ≤ r ∧ r ≤ 9) (M : MM) (p1 : Int32)  (n : Nat) {rx : Int32} {rw : MM} (hF : FX6_fakeNext n M p1 = some (rx, rw)) : CT G l yX6_fakeNext cX6_fakeNext 5 (some .int) rmX6_fakeNext 0 0 [.ref (adr G r 0), .int p1] (sW w r M) (some (.int rx)) (sW w r rw) := by
  refine CT.of miX6_fakeNext [(0, .ref (adr G r 0)), (1, .int p1)] rfl (Nat.le_of_ble_eq_true rfl) ?_
  intro p e s m args below meth c hX hR hlk
  have hX : FX G RX6 cX6_fakeNext 5 p s m args c := hX
  unfold FX6_fakeNext at hF
  refine J_aload_n hX dX6_fakeNext_0 0 rfl (t := 1) rfl ?_
  refine JM_get hX cb4 (kMarket hr) 2 (by decide) q_375 rfl dX6_fakeNext_1 (t := 4) rfl ?_
  refine J_iload_n hX dX6_fakeNext_4 1 rfl (t := 5) rfl ?_
  obtain ⟨g1, hF⟩ := gd_e hF
  refine J_aald (k := 5) hX (kShouts hr) rfl g1 dX6_fakeNext_5 (t := 6) rfl ?_
  refine J_astore_n (lc2 := [(2, .ref (adr G r (20 + p1.toNatClampNeg))), (0, .ref (adr G r 0)), (1, .int p1)]) hX dX6_fakeNext_6 rfl (Nat.le_of_ble_eq_true rfl) rfl (t := 7) rfl ?_
  refine J_aload_n hX dX6_fakeNext_7 1 rfl (t := 8) rfl ?_
  refine JM_get hX cb4 (kMarket hr) 1 (by decide) q_373 rfl dX6_fakeNext_8 (t := 11) rfl ?_
  refine J_aload_n hX dX6_fakeNext_11 0 rfl (t := 12) rfl ?_
  refine JM_get hX cb6 (kShout hr ⟨Nat.le_add_right 20 _, Nat.add_lt_add_left (inb_lt g1) 20⟩) 0 (by decide) q_321 rfl dX6_fakeNext_12 (t := 15) rfl ?_
  obtain ⟨g2, hF⟩ := gd_e hF
  refine J_aald (k := 4) hX (kCustomers hr) rfl g2 dX6_fakeNext_15 (t := 16) rfl ?_
  refine J_astore_n (lc2 := [(3, .ref (adr G r (12 + (M.1 (20 + p1.toNatClampNeg) 0).toNatClampNeg))), (2, .ref (adr G r (20 + p1.toNatClampNeg))), (0, .ref (adr G r 0)), (1, .int p1)]) hX dX6_fakeNext_16 rfl (Nat.le_of_ble_eq_true rfl) rfl (t := 17) rfl ?_
  refine J_aload_n hX dX6_fakeNext_17 2 rfl (t := 18) rfl ?_
  refine JM_get hX cb4 (kMarket hr) 7 (by decide) q_388 rfl dX6_fakeNext_18 (t := 21) rfl ?_
  refine J_iconst (v := 1) hX dX6_fakeNext_21 (by decide) (t := 22) rfl ?_
  refine J_icmp_lt (tgt := 29) hX dX6_fakeNext_22 (by decide) (t := 25) rfl (fun z => ?_) (fun z => ?_)
  · replace hF := it_t hF z
    refine J_iconst (v := 0) hX dX6_fakeNext_29 (by decide) (t := 30) rfl ?_
    refine J_istore (lc2 := [(4, .int 0), (3, .ref (adr G r (12 + (M.1 (20 + p1.toNatClampNeg) 0).toNatClampNeg))), (2, .ref (adr G r (20 + p1.toNatClampNeg))), (0, .ref (adr G r 0)), (1, .int p1)]) hX dX6_fakeNext_30 (Nat.le_of_ble_eq_true rfl) rfl (t := 32) rfl ?_
    refine J_aload_n hX dX6_fakeNext_32 3 rfl (t := 33) rfl ?_
    refine J_aload_n hX dX6_fakeNext_33 2 rfl (t := 34) rfl ?_
    refine J_iload hX dX6_fakeNext_34 0 rfl (t := 36) rfl ?_
    obtain ⟨M4, h3, hF⟩ := bo1_e hF
    have k5 := (ctX6_echo (G := G) (l := l) w r hr M (20 + p1.toNatClampNeg) false ⟨Nat.le_add_right 20 _, Nat.add_lt_add_left (inb_lt g1) 20⟩ h3)
    refine J_callV hX [.ref (adr G r (20 + p1.toNatClampNeg)), .int (bI false)] [] [] k5 miX6_echo mvX6_echo cb4 (kMarket hr) q_1179 ⟨rfl, rfl, Nat.le_of_ble_eq_true rfl, Nat.le_of_ble_eq_true rfl⟩ rfl rfl (Nat.le_of_ble_eq_true rfl) ⟨Nat.le_of_ble_eq_true rfl, Nat.le_of_ble_eq_true rfl⟩ dX6_fakeNext_36 (t := 39) rfl rfl ?_
    refine J_iload hX dX6_fakeNext_39 0 rfl (t := 41) rfl ?_
    refine J_if_eq (tgt := 54) hX dX6_fakeNext_41 (by decide) (t := 44) rfl (fun z => ?_) (fun z => ?_)
    · refine J_aload_n hX dX6_fakeNext_54 1 rfl (t := 55) rfl ?_
      obtain ⟨x7, h6, hF⟩ := bnd_e hF
      have k8 := (ctX2_hasAnger (G := G) (l := l) w r hr M4 (12 + (M.1 (20 + p1.toNatClampNeg) 0).toNatClampNeg) ⟨Nat.le_add_right 12 _, Nat.add_lt_add_left (inb_lt g2) 12⟩ h6)
      refine J_callV hX [] [] [.int (bI x7)] k8 miX2_hasAnger mvX2_hasAnger cb1 (kCustomer hr ⟨Nat.le_add_right 12 _, Nat.add_lt_add_left (inb_lt g2) 12⟩) q_703 ⟨rfl, rfl, Nat.le_of_ble_eq_true rfl, Nat.le_of_ble_eq_true rfl⟩ rfl rfl (Nat.le_of_ble_eq_true rfl) ⟨Nat.le_of_ble_eq_true rfl, Nat.le_of_ble_eq_true rfl⟩ dX6_fakeNext_55 (t := 58) rfl rfl ?_
      refine J_ifZ_eq (tgt := 69) hX dX6_fakeNext_58 (by decide) (t := 61) rfl (fun z => ?_) (fun z => ?_)
      · replace hF := ib_f hF z
        refine J_aload_n hX dX6_fakeNext_69 1 rfl (t := 70) rfl ?_
        refine JM_get hX cb1 (kCustomer hr ⟨Nat.le_add_right 12 _, Nat.add_lt_add_left (inb_lt g2) 12⟩) 4 (by decide) q_293 rfl dX6_fakeNext_70 (t := 73) rfl ?_
        replace hF := Option.some.inj hF
        obtain ⟨hF, hF2⟩ := Prod.mk.inj hF
        subst hF
        subst hF2
        exact J_iret hX hR hlk dX6_fakeNext_73
      · replace hF := it_t hF z
        refine J_aload_n hX dX6_fakeNext_61 3 rfl (t := 62) rfl ?_
        refine J_aload_n hX dX6_fakeNext_62 2 rfl (t := 63) rfl ?_
        refine JM_get hX cb6 (kShout hr ⟨Nat.le_add_right 20 _, Nat.add_lt_add_left (inb_lt g1) 20⟩) 0 (by decide) q_321 rfl dX6_fakeNext_63 (t := 66) rfl ?_
        obtain ⟨M10, h9, hF⟩ := bo1_e hF
        have k11 := (ctX6_callOffAll (G := G) (l := l) w r hr M4 (M4.1 (20 + p1.toNatClampNeg) 0) n h9)
        refine J_callV hX [.int (M4.1 (20 + p1.toNatClampNeg) 0)] [] [] k11 miX6_callOffAll mvX6_callOffAll cb4 (kMarket hr) q_1210 ⟨rfl, rfl, Nat.le_of_ble_eq_true rfl, Nat.le_of_ble_eq_true rfl⟩ rfl rfl (Nat.le_of_ble_eq_true rfl) ⟨Nat.le_of_ble_eq_true rfl, Nat.le_of_ble_eq_true rfl⟩ dX6_fakeNext_66 (t := 69) rfl rfl ?_
        refine J_aload_n hX dX6_fakeNext_69 1 rfl (t := 70) rfl ?_
        refine JM_get hX cb1 (kCustomer hr ⟨Nat.le_add_right 12 _, Nat.add_lt_add_left (inb_lt g2) 12⟩) 4 (by decide) q_293 rfl dX6_fakeNext_70 (t := 73) rfl ?_
        replace hF := Option.some.inj hF
        obtain ⟨hF, hF2⟩ := Prod.mk.inj hF
        subst hF
        subst hF2
        exact J_iret hX hR hlk dX6_fakeNext_73
    · exact absurd z (by decide)
  · replace hF := it_f hF z
    refine J_iconst (v := 1) hX dX6_fakeNext_25 (by decide) (t := 26) rfl ?_
    refine J_goto (tgt := 30) hX dX6_fakeNext_26 (by decide) ?_
    refine J_istore (lc2 := [(4, .int 1), (3, .ref (adr G r (12 + (M.1 (20 + p1.toNatClampNeg) 0).toNatClampNeg))), (2, .ref (adr G r (20 + p1.toNatClampNeg))), (0, .ref (adr G r 0)), (1, .int p1)]) hX dX6_fakeNext_30 (Nat.le_of_ble_eq_true rfl) rfl (t := 32) rfl ?_
    refine J_aload_n hX dX6_fakeNext_32 3 rfl (t := 33) rfl ?_
    refine J_aload_n hX dX6_fakeNext_33 2 rfl (t := 34) rfl ?_
    refine J_iload hX dX6_fakeNext_34 0 rfl (t := 36) rfl ?_
    obtain ⟨M13, h12, hF⟩ := bo1_e hF
    have k14 := (ctX6_echo (G := G) (l := l) w r hr M (20 + p1.toNatClampNeg) true ⟨Nat.le_add_right 20 _, Nat.add_lt_add_left (inb_lt g1) 20⟩ h12)
    refine J_callV hX [.ref (adr G r (20 + p1.toNatClampNeg)), .int (bI true)] [] [] k14 miX6_echo mvX6_echo cb4 (kMarket hr) q_1179 ⟨rfl, rfl, Nat.le_of_ble_eq_true rfl, Nat.le_of_ble_eq_true rfl⟩ rfl rfl (Nat.le_of_ble_eq_true rfl) ⟨Nat.le_of_ble_eq_true rfl, Nat.le_of_ble_eq_true rfl⟩ dX6_fakeNext_36 (t := 39) rfl rfl ?_
    refine J_iload hX dX6_fakeNext_39 0 rfl (t := 41) rfl ?_
    refine J_if_eq (tgt := 54) hX dX6_fakeNext_41 (by decide) (t := 44) rfl (fun z => ?_) (fun z => ?_)
    · exact absurd z (by decide)
    · refine J_aload_n hX dX6_fakeNext_44 1 rfl (t := 45) rfl ?_
      refine J_dup hX dX6_fakeNext_45 rfl (t := 46) rfl ?_
      refine JM_get hX cb1 (kCustomer hr ⟨Nat.le_add_right 12 _, Nat.add_lt_add_left (inb_lt g2) 12⟩) 4 (by decide) q_293 rfl dX6_fakeNext_46 (t := 49) rfl ?_
      refine J_iconst (v := 1) hX dX6_fakeNext_49 (by decide) (t := 50) rfl ?_
      refine J_iadd hX dX6_fakeNext_50 (t := 51) rfl ?_
      obtain ⟨M15, e16, hF⟩ := bnd_e hF
      refine JM_puti hX cb1 (kCustomer hr ⟨Nat.le_add_right 12 _, Nat.add_lt_add_left (inb_lt g2) 12⟩) 4 (by decide) q_293 rfl rfl e16 (fun _ _ => Nat.le_of_ble_eq_true rfl) (fun _ _ => rfl) dX6_fakeNext_51 (t := 54) rfl ?_
      refine J_aload_n hX dX6_fakeNext_54 1 rfl (t := 55) rfl ?_
      obtain ⟨x18, h17, hF⟩ := bnd_e hF
      have k19 := (ctX2_hasAnger (G := G) (l := l) w r hr M15 (12 + (M.1 (20 + p1.toNatClampNeg) 0).toNatClampNeg) ⟨Nat.le_add_right 12 _, Nat.add_lt_add_left (inb_lt g2) 12⟩ h17)
      refine J_callV hX [] [] [.int (bI x18)] k19 miX2_hasAnger mvX2_hasAnger cb1 (kCustomer hr ⟨Nat.le_add_right 12 _, Nat.add_lt_add_left (inb_lt g2) 12⟩) q_703 ⟨rfl, rfl, Nat.le_of_ble_eq_true rfl, Nat.le_of_ble_eq_true rfl⟩ rfl rfl (Nat.le_of_ble_eq_true rfl) ⟨Nat.le_of_ble_eq_true rfl, Nat.le_of_ble_eq_true rfl⟩ dX6_fakeNext_55 (t := 58) rfl rfl ?_
      refine J_ifZ_eq (tgt := 69) hX dX6_fakeNext_58 (by decide) (t := 61) rfl (fun z => ?_) (fun z => ?_)
      · replace hF := ib_f hF z
        refine J_aload_n hX dX6_fakeNext_69 1 rfl (t := 70) rfl ?_
        refine JM_get hX cb1 (kCustomer hr ⟨Nat.le_add_right 12 _, Nat.add_lt_add_left (inb_lt g2) 12⟩) 4 (by decide) q_293 rfl dX6_fakeNext_70 (t := 73) rfl ?_
        replace hF := Option.some.inj hF
        obtain ⟨hF, hF2⟩ := Prod.mk.inj hF
        subst hF
        subst hF2
        exact J_iret hX hR hlk dX6_fakeNext_73
      · replace hF := it_t hF z
        refine J_aload_n hX dX6_fakeNext_61 3 rfl (t := 62) rfl ?_
        refine J_aload_n hX dX6_fakeNext_62 2 rfl (t := 63) rfl ?_
        refine JM_get hX cb6 (kShout hr ⟨Nat.le_add_right 20 _, Nat.add_lt_add_left (inb_lt g1) 20⟩) 0 (by decide) q_321 rfl dX6_fakeNext_63 (t := 66) rfl ?_
        obtain ⟨M21, h20, hF⟩ := bo1_e hF
        have k22 := (ctX6_callOffAll (G := G) (l := l) w r hr M15 (M15.1 (20 + p1.toNatClampNeg) 0) n h20)
        refine J_callV hX [.int (M15.1 (20 + p1.toNatClampNeg) 0)] [] [] k22 miX6_callOffAll mvX6_callOffAll cb4 (kMarket hr) q_1210 ⟨rfl, rfl, Nat.le_of_ble_eq_true rfl, Nat.le_of_ble_eq_true rfl⟩ rfl rfl (Nat.le_of_ble_eq_true rfl) ⟨Nat.le_of_ble_eq_true rfl, Nat.le_of_ble_eq_true rfl⟩ dX6_fakeNext_66 (t := 69) rfl rfl ?_
        refine J_aload_n hX dX6_fakeNext_69 1 rfl (t := 70) rfl ?_
        refine JM_get hX cb1 (kCustomer hr ⟨Nat.le_add_right 12 _, Nat.add_lt_add_left (inb_lt g2) 12⟩) 4 (by decide) q_293 rfl dX6_fakeNext_70 (t := 73) rfl ?_
        replace hF := Option.some.inj hF
        obtain ⟨hF, hF2⟩ := Prod.mk.inj hF
        subst hF
        subst hF2
        exact J_iret hX hR hlk dX6_fakeNext_73
abbrev rmX6_changeFog : Room := { frames := 0, cells := 0, slots := 0, locals := 0 }
theorem miX6_changeFog : MI yX6_changeFog cX6_changeFog 4 (some .int) 2 := ⟨q_1153, q_138, by decide +kernel, by decide +kernel, by decide +kernel, by decide +kernel⟩
theorem mvX6_changeFog : MV yX6_changeFog := ⟨q_1151, q_1152⟩
def FX6_changeFog (M : MM) (p1 : Int32) (p2 : Int32) : Option (Int32 × MM) :=
  gd (inb p1 8) <|
  gd (inb p1 8) <|
  bnd (sI M (4 + p1.toNatClampNeg) 4 p2) fun M3 =>
  some (M.1 (4 + p1.toNatClampNeg) 4, M3)
set_option maxHeartbeats 4000000 in
set_option maxRecDepth 100000 in
theorem ctX6_changeFog {G : GG} {l : Launch} (w : Wd) (r : Nat) (hr : 1 ≤ r ∧ r ≤ 9) (M : MM) (p1 : Int32) (p2 : Int32)  {rx : Int32} {rw : MM} (hF : FX6_changeFog M p1 p2 = some (rx, rw)) : CT G l yX6_changeFog cX6_changeFog 4 (some .int) rmX6_changeFog 0 0 [.ref (adr G r 0), .int p1, .int p2] (sW w r M) (some (.int rx)) (sW w r rw) := by
  refine CT.of miX6_changeFog [(0, .ref (adr G r 0)), (1, .int p1), (2, .int p2)] rfl (Nat.le_of_ble_eq_true rfl) ?_
  intro p e s m args below meth c hX hR hlk
  have hX : FX G RX6 cX6_changeFog 4 p s m args c := hX
  unfold FX6_changeFog at hF
  refine J_aload_n hX dX6_changeFog_0 0 rfl (t := 1) rfl ?_
  refine JM_get hX cb4 (kMarket hr) 0 (by decide) q_371 rfl dX6_changeFog_1 (t := 4) rfl ?_
  refine J_iload_n hX dX6_changeFog_4 1 rfl (t := 5) rfl ?_
  obtain ⟨g1, hF⟩ := gd_e hF
  refine J_aald (k := 3) hX (kValleys hr) rfl g1 dX6_changeFog_5 (t := 6) rfl ?_
  refine JM_get hX cb8 (kValley hr ⟨Nat.le_add_right 4 _, Nat.add_lt_add_left (inb_lt g1) 4⟩) 4 (by decide) q_248 rfl dX6_changeFog_6 (t := 9) rfl ?_
  refine J_istore_n (lc2 := [(3, .int (M.1 (4 + p1.toNatClampNeg) 4)), (0, .ref (adr G r 0)), (1, .int p1), (2, .int p2)]) hX dX6_changeFog_9 rfl (Nat.le_of_ble_eq_true rfl) rfl (t := 10) rfl ?_
  refine J_aload_n hX dX6_changeFog_10 1 rfl (t := 11) rfl ?_
  refine JM_get hX cb4 (kMarket hr) 0 (by decide) q_371 rfl dX6_changeFog_11 (t := 14) rfl ?_
  refine J_iload_n hX dX6_changeFog_14 2 rfl (t := 15) rfl ?_
  obtain ⟨g2, hF⟩ := gd_e hF
  refine J_aald (k := 3) hX (kValleys hr) rfl g2 dX6_changeFog_15 (t := 16) rfl ?_
  refine J_iload_n hX dX6_changeFog_16 3 rfl (t := 17) rfl ?_
  obtain ⟨M3, e4, hF⟩ := bnd_e hF
  refine JM_puti hX cb8 (kValley hr ⟨Nat.le_add_right 4 _, Nat.add_lt_add_left (inb_lt g2) 4⟩) 4 (by decide) q_248 rfl rfl e4 (fun _ _ => Nat.le_of_ble_eq_true rfl) (fun _ _ => rfl) dX6_changeFog_17 (t := 20) rfl ?_
  refine J_iload_n hX dX6_changeFog_20 0 rfl (t := 21) rfl ?_
  replace hF := Option.some.inj hF
  obtain ⟨hF, hF2⟩ := Prod.mk.inj hF
  subst hF
  subst hF2
  exact J_iret hX hR hlk dX6_changeFog_21
abbrev rmX6_changePrice : Room := { frames := 0, cells := 0, slots := 0, locals := 0 }
theorem miX6_changePrice : MI yX6_changePrice cX6_changePrice 4 (some .int) 2 := ⟨q_1157, q_138, by decide +kernel, by decide +kernel, by decide +kernel, by decide +kernel⟩
theorem mvX6_changePrice : MV yX6_changePrice := ⟨q_1155, q_1156⟩
def FX6_changePrice (M : MM) (p1 : Int32) (p2 : Int32) : Option (Int32 × MM) :=
  gd (inb p1 8) <|
  gd (inb p1 8) <|
  bnd (sI M (4 + p1.toNatClampNeg) 3 p2) fun M3 =>
  some (M.1 (4 + p1.toNatClampNeg) 3, M3)
set_option maxHeartbeats 4000000 in
set_option maxRecDepth 100000 in
theorem ctX6_changePrice {G : GG} {l : Launch} (w : Wd) (r : Nat) (hr : 1 ≤ r ∧ r ≤ 9) (M : MM) (p1 : Int32) (p2 : Int32)  {rx : Int32} {rw : MM} (hF : FX6_changePrice M p1 p2 = some (rx, rw)) : CT G l yX6_changePrice cX6_changePrice 4 (some .int) rmX6_changePrice 0 0 [.ref (adr G r 0), .int p1, .int p2] (sW w r M) (some (.int rx)) (sW w r rw) := by
  refine CT.of miX6_changePrice [(0, .ref (adr G r 0)), (1, .int p1), (2, .int p2)] rfl (Nat.le_of_ble_eq_true rfl) ?_
  intro p e s m args below meth c hX hR hlk
  have hX : FX G RX6 cX6_changePrice 4 p s m args c := hX
  unfold FX6_changePrice at hF
  refine J_aload_n hX dX6_changePrice_0 0 rfl (t := 1) rfl ?_
  refine JM_get hX cb4 (kMarket hr) 0 (by decide) q_371 rfl dX6_changePrice_1 (t := 4) rfl ?_
  refine J_iload_n hX dX6_changePrice_4 1 rfl (t := 5) rfl ?_
  obtain ⟨g1, hF⟩ := gd_e hF
  refine J_aald (k := 3) hX (kValleys hr) rfl g1 dX6_changePrice_5 (t := 6) rfl ?_
  refine JM_get hX cb8 (kValley hr ⟨Nat.le_add_right 4 _, Nat.add_lt_add_left (inb_lt g1) 4⟩) 3 (by decide) q_245 rfl dX6_changePrice_6 (t := 9) rfl ?_
  refine J_istore_n (lc2 := [(3, .int (M.1 (4 + p1.toNatClampNeg) 3)), (0, .ref (adr G r 0)), (1, .int p1), (2, .int p2)]) hX dX6_changePrice_9 rfl (Nat.le_of_ble_eq_true rfl) rfl (t := 10) rfl ?_
  refine J_aload_n hX dX6_changePrice_10 1 rfl (t := 11) rfl ?_
  refine JM_get hX cb4 (kMarket hr) 0 (by decide) q_371 rfl dX6_changePrice_11 (t := 14) rfl ?_
  refine J_iload_n hX dX6_changePrice_14 2 rfl (t := 15) rfl ?_
  obtain ⟨g2, hF⟩ := gd_e hF
  refine J_aald (k := 3) hX (kValleys hr) rfl g2 dX6_changePrice_15 (t := 16) rfl ?_
  refine J_iload_n hX dX6_changePrice_16 3 rfl (t := 17) rfl ?_
  obtain ⟨M3, e4, hF⟩ := bnd_e hF
  refine JM_puti hX cb8 (kValley hr ⟨Nat.le_add_right 4 _, Nat.add_lt_add_left (inb_lt g2) 4⟩) 3 (by decide) q_245 rfl rfl e4 (fun _ _ => Nat.le_of_ble_eq_true rfl) (fun _ _ => rfl) dX6_changePrice_17 (t := 20) rfl ?_
  refine J_iload_n hX dX6_changePrice_20 0 rfl (t := 21) rfl ?_
  replace hF := Option.some.inj hF
  obtain ⟨hF, hF2⟩ := Prod.mk.inj hF
  subst hF
  subst hF2
  exact J_iret hX hR hlk dX6_changePrice_21
abbrev rmX6_changeDepth : Room := { frames := 0, cells := 0, slots := 0, locals := 0 }
theorem miX6_changeDepth : MI yX6_changeDepth cX6_changeDepth 3 (some .int) 1 := ⟨q_1161, q_138, by decide +kernel, by decide +kernel, by decide +kernel, by decide +kernel⟩
theorem mvX6_changeDepth : MV yX6_changeDepth := ⟨q_1159, q_1160⟩
def FX6_changeDepth (M : MM) (p1 : Int32) : Int32 × MM :=
  bnd (sI M 0 7 p1) fun M1 =>
  (M.1 0 7, M1)
set_option maxHeartbeats 4000000 in
set_option maxRecDepth 100000 in
theorem ctX6_changeDepth {G : GG} {l : Launch} (w : Wd) (r : Nat) (hr : 1 ≤ r ∧ r ≤ 9) (M : MM) (p1 : Int32)  {rx : Int32} {rw : MM} (hF : FX6_changeDepth M p1 = (rx, rw)) : CT G l yX6_changeDepth cX6_changeDepth 3 (some .int) rmX6_changeDepth 0 0 [.ref (adr G r 0), .int p1] (sW w r M) (some (.int rx)) (sW w r rw) := by
  refine CT.of miX6_changeDepth [(0, .ref (adr G r 0)), (1, .int p1)] rfl (Nat.le_of_ble_eq_true rfl) ?_
  intro p e s m args below meth c hX hR hlk
  have hX : FX G RX6 cX6_changeDepth 3 p s m args c := hX
  unfold FX6_changeDepth at hF
  refine J_aload_n hX dX6_changeDepth_0 0 rfl (t := 1) rfl ?_
  refine JM_get hX cb4 (kMarket hr) 7 (by decide) q_388 rfl dX6_changeDepth_1 (t := 4) rfl ?_
  refine J_istore_n (lc2 := [(2, .int (M.1 0 7)), (0, .ref (adr G r 0)), (1, .int p1)]) hX dX6_changeDepth_4 rfl (Nat.le_of_ble_eq_true rfl) rfl (t := 5) rfl ?_
  refine J_aload_n hX dX6_changeDepth_5 1 rfl (t := 6) rfl ?_
  refine J_iload_n hX dX6_changeDepth_6 2 rfl (t := 7) rfl ?_
  obtain ⟨M1, e2, hF⟩ := bnd_e hF
  refine JM_puti hX cb4 (kMarket hr) 7 (by decide) q_388 rfl rfl e2 (fun _ _ => Nat.le_of_ble_eq_true rfl) (fun _ _ => rfl) dX6_changeDepth_7 (t := 10) rfl ?_
  refine J_iload_n hX dX6_changeDepth_10 0 rfl (t := 11) rfl ?_
  obtain ⟨hF, hF2⟩ := Prod.mk.inj hF
  subst hF
  subst hF2
  exact J_iret hX hR hlk dX6_changeDepth_11
abbrev rmJ6_bitCount_0f7a4 : Room := { frames := 0, cells := 0, slots := 0, locals := 0 }
theorem miJ6_bitCount_0f7a4 : MI yJ6_bitCount_0f7a4 cJ6_bitCount_0f7a4 1 (some .int) 1 := ⟨q_1481, q_164, by decide +kernel, by decide +kernel, by decide +kernel, by decide +kernel⟩
def FJ6_bitCount_0f7a4 (p0 : Int32) : Int32 :=
  (((((((p0 - (((p0.toUInt32 >>> ((1 : Int32).toUInt32 &&& Int32.toUInt32 31)).toInt32) &&& 1431655765)) &&& 858993459) + ((((p0 - (((p0.toUInt32 >>> ((1 : Int32).toUInt32 &&& Int32.toUInt32 31)).toInt32) &&& 1431655765)).toUInt32 >>> ((2 : Int32).toUInt32 &&& Int32.toUInt32 31)).toInt32) &&& 858993459)) + (((((p0 - (((p0.toUInt32 >>> ((1 : Int32).toUInt32 &&& Int32.toUInt32 31)).toInt32) &&& 1431655765)) &&& 858993459) + ((((p0 - (((p0.toUInt32 >>> ((1 : Int32).toUInt32 &&& Int32.toUInt32 31)).toInt32) &&& 1431655765)).toUInt32 >>> ((2 : Int32).toUInt32 &&& Int32.toUInt32 31)).toInt32) &&& 858993459)).toUInt32 >>> ((4 : Int32).toUInt32 &&& Int32.toUInt32 31)).toInt32)) &&& 252645135) + (((((((p0 - (((p0.toUInt32 >>> ((1 : Int32).toUInt32 &&& Int32.toUInt32 31)).toInt32) &&& 1431655765)) &&& 858993459) + ((((p0 - (((p0.toUInt32 >>> ((1 : Int32).toUInt32 &&& Int32.toUInt32 31)).toInt32) &&& 1431655765)).toUInt32 >>> ((2 : Int32).toUInt32 &&& Int32.toUInt32 31)).toInt32) &&& 858993459)) + (((((p0 - (((p0.toUInt32 >>> ((1 : Int32).toUInt32 &&& Int32.toUInt32 31)).toInt32) &&& 1431655765)) &&& 858993459) + ((((p0 - (((p0.toUInt32 >>> ((1 : Int32).toUInt32 &&& Int32.toUInt32 31)).toInt32) &&& 1431655765)).toUInt32 >>> ((2 : Int32).toUInt32 &&& Int32.toUInt32 31)).toInt32) &&& 858993459)).toUInt32 >>> ((4 : Int32).toUInt32 &&& Int32.toUInt32 31)).toInt32)) &&& 252645135).toUInt32 >>> ((8 : Int32).toUInt32 &&& Int32.toUInt32 31)).toInt32)) + ((((((((p0 - (((p0.toUInt32 >>> ((1 : Int32).toUInt32 &&& Int32.toUInt32 31)).toInt32) &&& 1431655765)) &&& 858993459) + ((((p0 - (((p0.toUInt32 >>> ((1 : Int32).toUInt32 &&& Int32.toUInt32 31)).toInt32) &&& 1431655765)).toUInt32 >>> ((2 : Int32).toUInt32 &&& Int32.toUInt32 31)).toInt32) &&& 858993459)) + (((((p0 - (((p0.toUInt32 >>> ((1 : Int32).toUInt32 &&& Int32.toUInt32 31)).toInt32) &&& 1431655765)) &&& 858993459) + ((((p0 - (((p0.toUInt32 >>> ((1 : Int32).toUInt32 &&& Int32.toUInt32 31)).toInt32) &&& 1431655765)).toUInt32 >>> ((2 : Int32).toUInt32 &&& Int32.toUInt32 31)).toInt32) &&& 858993459)).toUInt32 >>> ((4 : Int32).toUInt32 &&& Int32.toUInt32 31)).toInt32)) &&& 252645135) + (((((((p0 - (((p0.toUInt32 >>> ((1 : Int32).toUInt32 &&& Int32.toUInt32 31)).toInt32) &&& 1431655765)) &&& 858993459) + ((((p0 - (((p0.toUInt32 >>> ((1 : Int32).toUInt32 &&& Int32.toUInt32 31)).toInt32) &&& 1431655765)).toUInt32 >>> ((2 : Int32).toUInt32 &&& Int32.toUInt32 31)).toInt32) &&& 858993459)) + (((((p0 - (((p0.toUInt32 >>> ((1 : Int32).toUInt32 &&& Int32.toUInt32 31)).toInt32) &&& 1431655765)) &&& 858993459) + ((((p0 - (((p0.toUInt32 >>> ((1 : Int32).toUInt32 &&& Int32.toUInt32 31)).toInt32) &&& 1431655765)).toUInt32 >>> ((2 : Int32).toUInt32 &&& Int32.toUInt32 31)).toInt32) &&& 858993459)).toUInt32 >>> ((4 : Int32).toUInt32 &&& Int32.toUInt32 31)).toInt32)) &&& 252645135).toUInt32 >>> ((8 : Int32).toUInt32 &&& Int32.toUInt32 31)).toInt32)).toUInt32 >>> ((16 : Int32).toUInt32 &&& Int32.toUInt32 31)).toInt32)) &&& 63
set_option maxHeartbeats 4000000 in
set_option maxRecDepth 100000 in
theorem ctJ6_bitCount_0f7a4 {G : GG} {l : Launch} {w : Wd} (p0 : Int32)  {rx : Int32} (hF : FJ6_bitCount_0f7a4 p0 = rx) : CT G l yJ6_bitCount_0f7a4 cJ6_bitCount_0f7a4 1 (some .int) rmJ6_bitCount_0f7a4 0 0 [.int p0] w (some (.int rx)) w := by
  refine CT.of miJ6_bitCount_0f7a4 [(0, .int p0)] rfl (Nat.le_of_ble_eq_true rfl) ?_
  intro p e s m args below meth c hX hR hlk
  have hX : FX G RJ6 cJ6_bitCount_0f7a4 1 p s m args c := hX
  unfold FJ6_bitCount_0f7a4 at hF
  refine J_iload_n hX dJ6_bitCount_0f7a4_0 0 rfl (t := 1) rfl ?_
  refine J_iload_n hX dJ6_bitCount_0f7a4_1 0 rfl (t := 2) rfl ?_
  refine J_iconst (v := 1) hX dJ6_bitCount_0f7a4_2 (by decide) (t := 3) rfl ?_
  refine J_iushr hX dJ6_bitCount_0f7a4_3 (t := 4) rfl ?_
  refine J_ldc_w hX dJ6_bitCount_0f7a4_4 q_1482 (t := 7) rfl ?_
  refine J_iand hX dJ6_bitCount_0f7a4_7 (t := 8) rfl ?_
  refine J_isub hX dJ6_bitCount_0f7a4_8 (t := 9) rfl ?_
  refine J_istore_n (lc2 := [(0, .int (p0 - (((p0.toUInt32 >>> ((1 : Int32).toUInt32 &&& Int32.toUInt32 31)).toInt32) &&& 1431655765)))]) hX dJ6_bitCount_0f7a4_9 rfl (Nat.le_of_ble_eq_true rfl) rfl (t := 10) rfl ?_
  refine J_iload_n hX dJ6_bitCount_0f7a4_10 0 rfl (t := 11) rfl ?_
  refine J_ldc_w hX dJ6_bitCount_0f7a4_11 q_1483 (t := 14) rfl ?_
  refine J_iand hX dJ6_bitCount_0f7a4_14 (t := 15) rfl ?_
  refine J_iload_n hX dJ6_bitCount_0f7a4_15 0 rfl (t := 16) rfl ?_
  refine J_iconst (v := 2) hX dJ6_bitCount_0f7a4_16 (by decide) (t := 17) rfl ?_
  refine J_iushr hX dJ6_bitCount_0f7a4_17 (t := 18) rfl ?_
  refine J_ldc_w hX dJ6_bitCount_0f7a4_18 q_1483 (t := 21) rfl ?_
  refine J_iand hX dJ6_bitCount_0f7a4_21 (t := 22) rfl ?_
  refine J_iadd hX dJ6_bitCount_0f7a4_22 (t := 23) rfl ?_
  refine J_istore_n (lc2 := [(0, .int (((p0 - (((p0.toUInt32 >>> ((1 : Int32).toUInt32 &&& Int32.toUInt32 31)).toInt32) &&& 1431655765)) &&& 858993459) + ((((p0 - (((p0.toUInt32 >>> ((1 : Int32).toUInt32 &&& Int32.toUInt32 31)).toInt32) &&& 1431655765)).toUInt32 >>> ((2 : Int32).toUInt32 &&& Int32.toUInt32 31)).toInt32) &&& 858993459)))]) hX dJ6_bitCount_0f7a4_23 rfl (Nat.le_of_ble_eq_true rfl) rfl (t := 24) rfl ?_
  refine J_iload_n hX dJ6_bitCount_0f7a4_24 0 rfl (t := 25) rfl ?_
  refine J_iload_n hX dJ6_bitCount_0f7a4_25 0 rfl (t := 26) rfl ?_
  refine J_iconst (v := 4) hX dJ6_bitCount_0f7a4_26 (by decide) (t := 27) rfl ?_
  refine J_iushr hX dJ6_bitCount_0f7a4_27 (t := 28) rfl ?_
  refine J_iadd hX dJ6_bitCount_0f7a4_28 (t := 29) rfl ?_
  refine J_ldc_w hX dJ6_bitCount_0f7a4_29 q_1484 (t := 32) rfl ?_
  refine J_iand hX dJ6_bitCount_0f7a4_32 (t := 33) rfl ?_
  refine J_istore_n (lc2 := [(0, .int (((((p0 - (((p0.toUInt32 >>> ((1 : Int32).toUInt32 &&& Int32.toUInt32 31)).toInt32) &&& 1431655765)) &&& 858993459) + ((((p0 - (((p0.toUInt32 >>> ((1 : Int32).toUInt32 &&& Int32.toUInt32 31)).toInt32) &&& 1431655765)).toUInt32 >>> ((2 : Int32).toUInt32 &&& Int32.toUInt32 31)).toInt32) &&& 858993459)) + (((((p0 - (((p0.toUInt32 >>> ((1 : Int32).toUInt32 &&& Int32.toUInt32 31)).toInt32) &&& 1431655765)) &&& 858993459) + ((((p0 - (((p0.toUInt32 >>> ((1 : Int32).toUInt32 &&& Int32.toUInt32 31)).toInt32) &&& 1431655765)).toUInt32 >>> ((2 : Int32).toUInt32 &&& Int32.toUInt32 31)).toInt32) &&& 858993459)).toUInt32 >>> ((4 : Int32).toUInt32 &&& Int32.toUInt32 31)).toInt32)) &&& 252645135))]) hX dJ6_bitCount_0f7a4_33 rfl (Nat.le_of_ble_eq_true rfl) rfl (t := 34) rfl ?_
  refine J_iload_n hX dJ6_bitCount_0f7a4_34 0 rfl (t := 35) rfl ?_
  refine J_iload_n hX dJ6_bitCount_0f7a4_35 0 rfl (t := 36) rfl ?_
  refine J_bipush (v := 8) hX dJ6_bitCount_0f7a4_36 (by decide) (t := 38) rfl ?_
  refine J_iushr hX dJ6_bitCount_0f7a4_38 (t := 39) rfl ?_
  refine J_iadd hX dJ6_bitCount_0f7a4_39 (t := 40) rfl ?_
  refine J_istore_n (lc2 := [(0, .int ((((((p0 - (((p0.toUInt32 >>> ((1 : Int32).toUInt32 &&& Int32.toUInt32 31)).toInt32) &&& 1431655765)) &&& 858993459) + ((((p0 - (((p0.toUInt32 >>> ((1 : Int32).toUInt32 &&& Int32.toUInt32 31)).toInt32) &&& 1431655765)).toUInt32 >>> ((2 : Int32).toUInt32 &&& Int32.toUInt32 31)).toInt32) &&& 858993459)) + (((((p0 - (((p0.toUInt32 >>> ((1 : Int32).toUInt32 &&& Int32.toUInt32 31)).toInt32) &&& 1431655765)) &&& 858993459) + ((((p0 - (((p0.toUInt32 >>> ((1 : Int32).toUInt32 &&& Int32.toUInt32 31)).toInt32) &&& 1431655765)).toUInt32 >>> ((2 : Int32).toUInt32 &&& Int32.toUInt32 31)).toInt32) &&& 858993459)).toUInt32 >>> ((4 : Int32).toUInt32 &&& Int32.toUInt32 31)).toInt32)) &&& 252645135) + (((((((p0 - (((p0.toUInt32 >>> ((1 : Int32).toUInt32 &&& Int32.toUInt32 31)).toInt32) &&& 1431655765)) &&& 858993459) + ((((p0 - (((p0.toUInt32 >>> ((1 : Int32).toUInt32 &&& Int32.toUInt32 31)).toInt32) &&& 1431655765)).toUInt32 >>> ((2 : Int32).toUInt32 &&& Int32.toUInt32 31)).toInt32) &&& 858993459)) + (((((p0 - (((p0.toUInt32 >>> ((1 : Int32).toUInt32 &&& Int32.toUInt32 31)).toInt32) &&& 1431655765)) &&& 858993459) + ((((p0 - (((p0.toUInt32 >>> ((1 : Int32).toUInt32 &&& Int32.toUInt32 31)).toInt32) &&& 1431655765)).toUInt32 >>> ((2 : Int32).toUInt32 &&& Int32.toUInt32 31)).toInt32) &&& 858993459)).toUInt32 >>> ((4 : Int32).toUInt32 &&& Int32.toUInt32 31)).toInt32)) &&& 252645135).toUInt32 >>> ((8 : Int32).toUInt32 &&& Int32.toUInt32 31)).toInt32)))]) hX dJ6_bitCount_0f7a4_40 rfl (Nat.le_of_ble_eq_true rfl) rfl (t := 41) rfl ?_
  refine J_iload_n hX dJ6_bitCount_0f7a4_41 0 rfl (t := 42) rfl ?_
  refine J_iload_n hX dJ6_bitCount_0f7a4_42 0 rfl (t := 43) rfl ?_
  refine J_bipush (v := 16) hX dJ6_bitCount_0f7a4_43 (by decide) (t := 45) rfl ?_
  refine J_iushr hX dJ6_bitCount_0f7a4_45 (t := 46) rfl ?_
  refine J_iadd hX dJ6_bitCount_0f7a4_46 (t := 47) rfl ?_
  refine J_istore_n (lc2 := [(0, .int (((((((p0 - (((p0.toUInt32 >>> ((1 : Int32).toUInt32 &&& Int32.toUInt32 31)).toInt32) &&& 1431655765)) &&& 858993459) + ((((p0 - (((p0.toUInt32 >>> ((1 : Int32).toUInt32 &&& Int32.toUInt32 31)).toInt32) &&& 1431655765)).toUInt32 >>> ((2 : Int32).toUInt32 &&& Int32.toUInt32 31)).toInt32) &&& 858993459)) + (((((p0 - (((p0.toUInt32 >>> ((1 : Int32).toUInt32 &&& Int32.toUInt32 31)).toInt32) &&& 1431655765)) &&& 858993459) + ((((p0 - (((p0.toUInt32 >>> ((1 : Int32).toUInt32 &&& Int32.toUInt32 31)).toInt32) &&& 1431655765)).toUInt32 >>> ((2 : Int32).toUInt32 &&& Int32.toUInt32 31)).toInt32) &&& 858993459)).toUInt32 >>> ((4 : Int32).toUInt32 &&& Int32.toUInt32 31)).toInt32)) &&& 252645135) + (((((((p0 - (((p0.toUInt32 >>> ((1 : Int32).toUInt32 &&& Int32.toUInt32 31)).toInt32) &&& 1431655765)) &&& 858993459) + ((((p0 - (((p0.toUInt32 >>> ((1 : Int32).toUInt32 &&& Int32.toUInt32 31)).toInt32) &&& 1431655765)).toUInt32 >>> ((2 : Int32).toUInt32 &&& Int32.toUInt32 31)).toInt32) &&& 858993459)) + (((((p0 - (((p0.toUInt32 >>> ((1 : Int32).toUInt32 &&& Int32.toUInt32 31)).toInt32) &&& 1431655765)) &&& 858993459) + ((((p0 - (((p0.toUInt32 >>> ((1 : Int32).toUInt32 &&& Int32.toUInt32 31)).toInt32) &&& 1431655765)).toUInt32 >>> ((2 : Int32).toUInt32 &&& Int32.toUInt32 31)).toInt32) &&& 858993459)).toUInt32 >>> ((4 : Int32).toUInt32 &&& Int32.toUInt32 31)).toInt32)) &&& 252645135).toUInt32 >>> ((8 : Int32).toUInt32 &&& Int32.toUInt32 31)).toInt32)) + ((((((((p0 - (((p0.toUInt32 >>> ((1 : Int32).toUInt32 &&& Int32.toUInt32 31)).toInt32) &&& 1431655765)) &&& 858993459) + ((((p0 - (((p0.toUInt32 >>> ((1 : Int32).toUInt32 &&& Int32.toUInt32 31)).toInt32) &&& 1431655765)).toUInt32 >>> ((2 : Int32).toUInt32 &&& Int32.toUInt32 31)).toInt32) &&& 858993459)) + (((((p0 - (((p0.toUInt32 >>> ((1 : Int32).toUInt32 &&& Int32.toUInt32 31)).toInt32) &&& 1431655765)) &&& 858993459) + ((((p0 - (((p0.toUInt32 >>> ((1 : Int32).toUInt32 &&& Int32.toUInt32 31)).toInt32) &&& 1431655765)).toUInt32 >>> ((2 : Int32).toUInt32 &&& Int32.toUInt32 31)).toInt32) &&& 858993459)).toUInt32 >>> ((4 : Int32).toUInt32 &&& Int32.toUInt32 31)).toInt32)) &&& 252645135) + (((((((p0 - (((p0.toUInt32 >>> ((1 : Int32).toUInt32 &&& Int32.toUInt32 31)).toInt32) &&& 1431655765)) &&& 858993459) + ((((p0 - (((p0.toUInt32 >>> ((1 : Int32).toUInt32 &&& Int32.toUInt32 31)).toInt32) &&& 1431655765)).toUInt32 >>> ((2 : Int32).toUInt32 &&& Int32.toUInt32 31)).toInt32) &&& 858993459)) + (((((p0 - (((p0.toUInt32 >>> ((1 : Int32).toUInt32 &&& Int32.toUInt32 31)).toInt32) &&& 1431655765)) &&& 858993459) + ((((p0 - (((p0.toUInt32 >>> ((1 : Int32).toUInt32 &&& Int32.toUInt32 31)).toInt32) &&& 1431655765)).toUInt32 >>> ((2 : Int32).toUInt32 &&& Int32.toUInt32 31)).toInt32) &&& 858993459)).toUInt32 >>> ((4 : Int32).toUInt32 &&& Int32.toUInt32 31)).toInt32)) &&& 252645135).toUInt32 >>> ((8 : Int32).toUInt32 &&& Int32.toUInt32 31)).toInt32)).toUInt32 >>> ((16 : Int32).toUInt32 &&& Int32.toUInt32 31)).toInt32)))]) hX dJ6_bitCount_0f7a4_47 rfl (Nat.le_of_ble_eq_true rfl) rfl (t := 48) rfl ?_
  refine J_iload_n hX dJ6_bitCount_0f7a4_48 0 rfl (t := 49) rfl ?_
  refine J_bipush (v := 63) hX dJ6_bitCount_0f7a4_49 (by decide) (t := 51) rfl ?_
  refine J_iand hX dJ6_bitCount_0f7a4_51 (t := 52) rfl ?_
  subst hF
  exact J_iret hX hR hlk dJ6_bitCount_0f7a4_52
abbrev rmX8_earnings : Room := { frames := 1, cells := 0, slots := 0, locals := 20 }
theorem miX8_earnings : MI yX8_earnings cX8_earnings 1 (some .int) 0 := ⟨q_1478, q_141, by decide +kernel, by decide +kernel, by decide +kernel, by decide +kernel⟩
theorem mvX8_earnings : MV yX8_earnings := ⟨q_1476, q_1477⟩
def FX8_earnings (M : MM) (j0 : Nat) : Int32 :=
  bnd (FJ6_bitCount_0f7a4 (M.1 j0 10)) fun x2 =>
  (M.1 j0 4) * x2
set_option maxHeartbeats 4000000 in
set_option maxRecDepth 100000 in
theorem ctX8_earnings {G : GG} {l : Launch} (w : Wd) (r : Nat) (hr : 1 ≤ r ∧ r ≤ 9) (M : MM) (j0 : Nat) (hj0 : 20 ≤ j0 ∧ j0 < 50) {rx : Int32} (hF : FX8_earnings M j0 = rx) : CT G l yX8_earnings cX8_earnings 1 (some .int) rmX8_earnings 0 0 [.ref (adr G r j0)] (sW w r M) (some (.int rx)) (sW w r M) := by
  refine CT.of miX8_earnings [(0, .ref (adr G r j0))] rfl (Nat.le_of_ble_eq_true rfl) ?_
  intro p e s m args below meth c hX hR hlk
  have hX : FX G RX8 cX8_earnings 1 p s m args c := hX
  unfold FX8_earnings at hF
  refine J_aload_n hX dX8_earnings_0 0 rfl (t := 1) rfl ?_
  refine JM_get hX cb6 (kShout hr hj0) 4 (by decide) q_331 rfl dX8_earnings_1 (t := 4) rfl ?_
  refine J_aload_n hX dX8_earnings_4 0 rfl (t := 5) rfl ?_
  refine JM_get hX cb6 (kShout hr hj0) 10 (by decide) q_346 rfl dX8_earnings_5 (t := 8) rfl ?_
  obtain ⟨x2, h1, hF⟩ := bnd_e hF
  have k3 := (ctJ6_bitCount_0f7a4 (l := l) (G := G) (w := sW w r M) (M.1 j0 10) h1)
  refine J_callS hX [.int (M.1 j0 10)] [.int (M.1 j0 4)] [.int x2, .int (M.1 j0 4)] k3 miJ6_bitCount_0f7a4 q_1480 q_1479 ⟨rfl, rfl, Nat.le_of_ble_eq_true rfl, Nat.le_of_ble_eq_true rfl⟩ rfl rfl (Nat.le_of_ble_eq_true rfl) ⟨Nat.le_of_ble_eq_true rfl, Nat.le_of_ble_eq_true rfl⟩ dX8_earnings_8 (t := 11) rfl rfl ?_
  refine J_imul hX dX8_earnings_11 (t := 12) rfl ?_
  subst hF
  exact J_iret hX hR hlk dX8_earnings_12
abbrev rmX8_stateInTheEnd : Room := { frames := 1, cells := 0, slots := 0, locals := 21 }
theorem miX8_stateInTheEnd : MI yX8_stateInTheEnd cX8_stateInTheEnd 1 (some .int) 0 := ⟨q_1557, q_141, by decide +kernel, by decide +kernel, by decide +kernel, by decide +kernel⟩
theorem mvX8_stateInTheEnd : MV yX8_stateInTheEnd := ⟨q_1555, q_1556⟩
def FX8_stateInTheEnd (M : MM) (j0 : Nat) : Int32 :=
  bnd (FX8_isOpen M j0) fun x2 =>
  if x2 = true then
    bnd (FX8_secondOf M j0 (M.1 j0 3)) fun x5 =>
    if M.1 j0 7 < x5 then
      2
    else
      1
  else
    M.1 j0 8
set_option maxHeartbeats 4000000 in
set_option maxRecDepth 100000 in
theorem ctX8_stateInTheEnd {G : GG} {l : Launch} (w : Wd) (r : Nat) (hr : 1 ≤ r ∧ r ≤ 9) (M : MM) (j0 : Nat) (hj0 : 20 ≤ j0 ∧ j0 < 50) {rx : Int32} (hF : FX8_stateInTheEnd M j0 = rx) : CT G l yX8_stateInTheEnd cX8_stateInTheEnd 1 (some .int) rmX8_stateInTheEnd 0 0 [.ref (adr G r j0)] (sW w r M) (some (.int rx)) (sW w r M) := by
  refine CT.of miX8_stateInTheEnd [(0, .ref (adr G r j0))] rfl (Nat.le_of_ble_eq_true rfl) ?_
  intro p e s m args below meth c hX hR hlk
  have hX : FX G RX8 cX8_stateInTheEnd 1 p s m args c := hX
  unfold FX8_stateInTheEnd at hF
  refine J_aload_n hX dX8_stateInTheEnd_0 0 rfl (t := 1) rfl ?_
  obtain ⟨x2, h1, hF⟩ := bnd_e hF
  have k3 := (ctX8_isOpen (G := G) (l := l) w r hr M j0 hj0 h1)
  refine J_callV hX [] [] [.int (bI x2)] k3 miX8_isOpen mvX8_isOpen cb6 (kShout hr hj0) q_1558 ⟨rfl, rfl, Nat.le_of_ble_eq_true rfl, Nat.le_of_ble_eq_true rfl⟩ rfl rfl (Nat.le_of_ble_eq_true rfl) ⟨Nat.le_of_ble_eq_true rfl, Nat.le_of_ble_eq_true rfl⟩ dX8_stateInTheEnd_1 (t := 4) rfl rfl ?_
  refine J_ifZ_ne (tgt := 12) hX dX8_stateInTheEnd_4 (by decide) (t := 7) rfl (fun z => ?_) (fun z => ?_)
  · replace hF := it_t hF z
    refine J_aload_n hX dX8_stateInTheEnd_12 0 rfl (t := 13) rfl ?_
    refine J_aload_n hX dX8_stateInTheEnd_13 0 rfl (t := 14) rfl ?_
    refine JM_get hX cb6 (kShout hr hj0) 3 (by decide) q_328 rfl dX8_stateInTheEnd_14 (t := 17) rfl ?_
    obtain ⟨x5, h4, hF⟩ := bnd_e hF
    have k6 := (ctX8_secondOf (G := G) (l := l) w r hr M j0 (M.1 j0 3) hj0 h4)
    refine J_callV hX [.int (M.1 j0 3)] [] [.int x5] k6 miX8_secondOf mvX8_secondOf cb6 (kShout hr hj0) q_727 ⟨rfl, rfl, Nat.le_of_ble_eq_true rfl, Nat.le_of_ble_eq_true rfl⟩ rfl rfl (Nat.le_of_ble_eq_true rfl) ⟨Nat.le_of_ble_eq_true rfl, Nat.le_of_ble_eq_true rfl⟩ dX8_stateInTheEnd_17 (t := 20) rfl rfl ?_
    refine J_aload_n hX dX8_stateInTheEnd_20 0 rfl (t := 21) rfl ?_
    refine JM_get hX cb6 (kShout hr hj0) 7 (by decide) q_337 rfl dX8_stateInTheEnd_21 (t := 24) rfl ?_
    refine J_icmp_gt (tgt := 31) hX dX8_stateInTheEnd_24 (by decide) (t := 27) rfl (fun z => ?_) (fun z => ?_)
    · replace hF := it_t hF z
      refine J_iconst (v := 2) hX dX8_stateInTheEnd_31 (by decide) (t := 32) rfl ?_
      subst hF
      exact J_iret hX hR hlk dX8_stateInTheEnd_32
    · replace hF := it_f hF z
      refine J_iconst (v := 1) hX dX8_stateInTheEnd_27 (by decide) (t := 28) rfl ?_
      refine J_goto (tgt := 32) hX dX8_stateInTheEnd_28 (by decide) ?_
      subst hF
      exact J_iret hX hR hlk dX8_stateInTheEnd_32
  · replace hF := ib_f hF z
    refine J_aload_n hX dX8_stateInTheEnd_7 0 rfl (t := 8) rfl ?_
    refine JM_get hX cb6 (kShout hr hj0) 8 (by decide) q_340 rfl dX8_stateInTheEnd_8 (t := 11) rfl ?_
    subst hF
    exact J_iret hX hR hlk dX8_stateInTheEnd_11
def FX8_signOfEcho (M : MM) (j0 : Nat) (p1 : Int32) : Int32 :=
  if p1 ≤ M.1 j0 9 then
    if ((M.1 j0 10) >>> ((p1 - 1) &&& 31)) &&& 1 = 1 then
      104
    else
      108
  else
    46
abbrev rmX12_isLetter : Room := { frames := 0, cells := 0, slots := 0, locals := 0 }
theorem miX12_isLetter : MI yX12_isLetter cX12_isLetter 1 (some .boolean) 1 := ⟨q_659, q_136, by decide +kernel, by decide +kernel, by decide +kernel, by decide +kernel⟩
def FX12_isLetter (p0 : Int32) : Bool :=
  if p0 < 97 then
    false
  else
    if 122 < p0 then
      false
    else
      true
set_option maxHeartbeats 4000000 in
set_option maxRecDepth 100000 in
theorem ctX12_isLetter {G : GG} {l : Launch} {w : Wd} (p0 : Int32)  {rx : Bool} (hF : FX12_isLetter p0 = rx) : CT G l yX12_isLetter cX12_isLetter 1 (some .boolean) rmX12_isLetter 0 0 [.int p0] w (some (.int (bI rx))) w := by
  refine CT.of miX12_isLetter [(0, .int p0)] rfl (Nat.le_of_ble_eq_true rfl) ?_
  intro p e s m args below meth c hX hR hlk
  have hX : FX G RX12 cX12_isLetter 1 p s m args c := hX
  unfold FX12_isLetter at hF
  refine J_iload_n hX dX12_isLetter_0 0 rfl (t := 1) rfl ?_
  refine J_bipush (v := 97) hX dX12_isLetter_1 (by decide) (t := 3) rfl ?_
  refine J_icmp_lt (tgt := 16) hX dX12_isLetter_3 (by decide) (t := 6) rfl (fun z => ?_) (fun z => ?_)
  · replace hF := it_t hF z
    refine J_iconst (v := 0) hX dX12_isLetter_16 (by decide) (t := 17) rfl ?_
    subst hF
    exact J_zret (b := false) hX hR hlk dX12_isLetter_17
  · replace hF := it_f hF z
    refine J_iload_n hX dX12_isLetter_6 0 rfl (t := 7) rfl ?_
    refine J_bipush (v := 122) hX dX12_isLetter_7 (by decide) (t := 9) rfl ?_
    refine J_icmp_gt (tgt := 16) hX dX12_isLetter_9 (by decide) (t := 12) rfl (fun z => ?_) (fun z => ?_)
    · replace hF := it_t hF z
      refine J_iconst (v := 0) hX dX12_isLetter_16 (by decide) (t := 17) rfl ?_
      subst hF
      exact J_zret (b := false) hX hR hlk dX12_isLetter_17
    · replace hF := it_f hF z
      refine J_iconst (v := 1) hX dX12_isLetter_12 (by decide) (t := 13) rfl ?_
      refine J_goto (tgt := 17) hX dX12_isLetter_13 (by decide) ?_
      subst hF
      exact J_zret (b := true) hX hR hlk dX12_isLetter_17
abbrev rmX12_isDigit : Room := { frames := 0, cells := 0, slots := 0, locals := 0 }
theorem miX12_isDigit : MI yX12_isDigit cX12_isDigit 1 (some .boolean) 1 := ⟨q_926, q_136, by decide +kernel, by decide +kernel, by decide +kernel, by decide +kernel⟩
def FX12_isDigit (p0 : Int32) : Bool :=
  if p0 < 48 then
    false
  else
    if 57 < p0 then
      false
    else
      true
set_option maxHeartbeats 4000000 in
set_option maxRecDepth 100000 in
theorem ctX12_isDigit {G : GG} {l : Launch} {w : Wd} (p0 : Int32)  {rx : Bool} (hF : FX12_isDigit p0 = rx) : CT G l yX12_isDigit cX12_isDigit 1 (some .boolean) rmX12_isDigit 0 0 [.int p0] w (some (.int (bI rx))) w := by
  refine CT.of miX12_isDigit [(0, .int p0)] rfl (Nat.le_of_ble_eq_true rfl) ?_
  intro p e s m args below meth c hX hR hlk
  have hX : FX G RX12 cX12_isDigit 1 p s m args c := hX
  unfold FX12_isDigit at hF
  refine J_iload_n hX dX12_isDigit_0 0 rfl (t := 1) rfl ?_
  refine J_bipush (v := 48) hX dX12_isDigit_1 (by decide) (t := 3) rfl ?_
  refine J_icmp_lt (tgt := 16) hX dX12_isDigit_3 (by decide) (t := 6) rfl (fun z => ?_) (fun z => ?_)
  · replace hF := it_t hF z
    refine J_iconst (v := 0) hX dX12_isDigit_16 (by decide) (t := 17) rfl ?_
    subst hF
    exact J_zret (b := false) hX hR hlk dX12_isDigit_17
  · replace hF := it_f hF z
    refine J_iload_n hX dX12_isDigit_6 0 rfl (t := 7) rfl ?_
    refine J_bipush (v := 57) hX dX12_isDigit_7 (by decide) (t := 9) rfl ?_
    refine J_icmp_gt (tgt := 16) hX dX12_isDigit_9 (by decide) (t := 12) rfl (fun z => ?_) (fun z => ?_)
    · replace hF := it_t hF z
      refine J_iconst (v := 0) hX dX12_isDigit_16 (by decide) (t := 17) rfl ?_
      subst hF
      exact J_zret (b := false) hX hR hlk dX12_isDigit_17
    · replace hF := it_f hF z
      refine J_iconst (v := 1) hX dX12_isDigit_12 (by decide) (t := 13) rfl ?_
      refine J_goto (tgt := 17) hX dX12_isDigit_13 (by decide) ?_
      subst hF
      exact J_zret (b := true) hX hR hlk dX12_isDigit_17
abbrev rmX12_letterOf : Room := { frames := 1, cells := 0, slots := 0, locals := 22 }
theorem miX12_letterOf : MI yX12_letterOf cX12_letterOf 4 (some .int) 2 := ⟨q_954, q_136, by decide +kernel, by decide +kernel, by decide +kernel, by decide +kernel⟩
def FX12_letterOf (p0 : Int64) (p2 : Int32) : Int32 :=
  bnd (FX12_isWithin p2 0 7) fun x2 =>
  if x2 = true then
    if (((p0.toUInt64 >>> ((8 * (7 - p2)).toInt64.toUInt64 &&& Int64.toUInt64 63)).toInt64).toInt32) &&& 255 = 0 then
      (-1)
    else
      (((p0.toUInt64 >>> ((8 * (7 - p2)).toInt64.toUInt64 &&& Int64.toUInt64 63)).toInt64).toInt32) &&& 255
  else
    (-1)
set_option maxHeartbeats 4000000 in
set_option maxRecDepth 100000 in
theorem ctX12_letterOf {G : GG} {l : Launch} {w : Wd} (p0 : Int64) (p2 : Int32)  {rx : Int32} (hF : FX12_letterOf p0 p2 = rx) : CT G l yX12_letterOf cX12_letterOf 4 (some .int) rmX12_letterOf 0 0 [.long p0, .int p2] w (some (.int rx)) w := by
  refine CT.of miX12_letterOf [(0, .long p0), (2, .int p2)] rfl (Nat.le_of_ble_eq_true rfl) ?_
  intro p e s m args below meth c hX hR hlk
  have hX : FX G RX12 cX12_letterOf 4 p s m args c := hX
  unfold FX12_letterOf at hF
  refine J_iload_n hX dX12_letterOf_0 1 rfl (t := 1) rfl ?_
  refine J_iconst (v := 0) hX dX12_letterOf_1 (by decide) (t := 2) rfl ?_
  refine J_bipush (v := 7) hX dX12_letterOf_2 (by decide) (t := 4) rfl ?_
  obtain ⟨x2, h1, hF⟩ := bnd_e hF
  have k3 := (ctX12_isWithin (l := l) (G := G) (w := w) p2 0 7 h1)
  refine J_callS hX [.int p2, .int 0, .int 7] [] [.int (bI x2)] k3 miX12_isWithin q_655 q_873 ⟨rfl, rfl, Nat.le_of_ble_eq_true rfl, Nat.le_of_ble_eq_true rfl⟩ rfl rfl (Nat.le_of_ble_eq_true rfl) ⟨Nat.le_of_ble_eq_true rfl, Nat.le_of_ble_eq_true rfl⟩ dX12_letterOf_4 (t := 7) rfl rfl ?_
  refine J_ifZ_ne (tgt := 12) hX dX12_letterOf_7 (by decide) (t := 10) rfl (fun z => ?_) (fun z => ?_)
  · replace hF := it_t hF z
    refine J_lload_n hX dX12_letterOf_12 0 rfl (t := 13) rfl ?_
    refine J_bipush (v := 8) hX dX12_letterOf_13 (by decide) (t := 15) rfl ?_
    refine J_bipush (v := 7) hX dX12_letterOf_15 (by decide) (t := 17) rfl ?_
    refine J_iload_n hX dX12_letterOf_17 1 rfl (t := 18) rfl ?_
    refine J_isub hX dX12_letterOf_18 (t := 19) rfl ?_
    refine J_imul hX dX12_letterOf_19 (t := 20) rfl ?_
    refine J_lushr hX dX12_letterOf_20 (t := 21) rfl ?_
    refine J_l2i hX dX12_letterOf_21 (t := 22) rfl ?_
    refine J_sipush (v := 255) hX dX12_letterOf_22 (by decide) (t := 25) rfl ?_
    refine J_iand hX dX12_letterOf_25 (t := 26) rfl ?_
    refine J_istore_n (lc2 := [(3, .int ((((p0.toUInt64 >>> ((8 * (7 - p2)).toInt64.toUInt64 &&& Int64.toUInt64 63)).toInt64).toInt32) &&& 255)), (0, .long p0), (2, .int p2)]) hX dX12_letterOf_26 rfl (Nat.le_of_ble_eq_true rfl) rfl (t := 27) rfl ?_
    refine J_iload_n hX dX12_letterOf_27 0 rfl (t := 28) rfl ?_
    refine J_if_ne (tgt := 35) hX dX12_letterOf_28 (by decide) (t := 31) rfl (fun z => ?_) (fun z => ?_)
    · replace hF := it_f hF z
      refine J_iload_n hX dX12_letterOf_35 0 rfl (t := 36) rfl ?_
      subst hF
      exact J_iret hX hR hlk dX12_letterOf_36
    · replace hF := it_t hF z
      refine J_iconst (v := (-1)) hX dX12_letterOf_31 (by decide) (t := 32) rfl ?_
      refine J_goto (tgt := 36) hX dX12_letterOf_32 (by decide) ?_
      subst hF
      exact J_iret hX hR hlk dX12_letterOf_36
  · replace hF := ib_f hF z
    refine J_iconst (v := (-1)) hX dX12_letterOf_10 (by decide) (t := 11) rfl ?_
    subst hF
    exact J_iret hX hR hlk dX12_letterOf_11

