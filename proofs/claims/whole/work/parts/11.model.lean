abbrev rmX13_thrown : Room := { frames := 0, cells := 0, slots := 0, locals := 0 }
theorem miX13_thrown : MI yX13_thrown cX13_thrown 1 (some .int) 0 := ⟨q_2073, q_152, by decide +kernel, by decide +kernel, by decide +kernel, by decide +kernel⟩
theorem mvX13_thrown : MV yX13_thrown := ⟨q_2071, q_2072⟩
def FX13_thrown (w : Wd)  : Int32 :=
  (w 15).1 0 0
set_option maxHeartbeats 4000000 in
set_option maxRecDepth 100000 in
theorem ctX13_thrown {G : GG} {l : Launch} (w : Wd)   {rx : Int32} (hF : FX13_thrown w  = rx) : CT G l yX13_thrown cX13_thrown 1 (some .int) rmX13_thrown 0 0 [.ref (adr G 15 0)] w (some (.int rx)) w := by
  refine CT.of miX13_thrown [(0, .ref (adr G 15 0))] rfl (Nat.le_of_ble_eq_true rfl) ?_
  intro p e s m args below meth c hX hR hlk
  have hX : FX G RX13 cX13_thrown 1 p s m args c := hX
  unfold FX13_thrown at hF
  refine J_aload_n hX dX13_thrown_0 0 rfl (t := 1) rfl ?_
  refine J_get hX cb10 kModel 0 (by decide) q_1967 rfl dX13_thrown_1 (t := 4) rfl ?_
  subst hF
  exact J_iret hX hR hlk dX13_thrown_4
abbrev rmX13_isIn : Room := { frames := 0, cells := 0, slots := 0, locals := 0 }
theorem miX13_isIn : MI yX13_isIn cX13_isIn 6 (some .boolean) 3 := ⟨q_2095, q_152, by decide +kernel, by decide +kernel, by decide +kernel, by decide +kernel⟩
def FX13_isIn (p0 : Int64) (p2 : Int64) (p4 : Int64) : Bool :=
  if lg_cmp p0 p2 < 0 then
    false
  else
    if 0 < lg_cmp p0 p4 then
      false
    else
      true
set_option maxHeartbeats 4000000 in
set_option maxRecDepth 100000 in
theorem ctX13_isIn {G : GG} {l : Launch} {w : Wd} (p0 : Int64) (p2 : Int64) (p4 : Int64)  {rx : Bool} (hF : FX13_isIn p0 p2 p4 = rx) : CT G l yX13_isIn cX13_isIn 6 (some .boolean) rmX13_isIn 0 0 [.long p0, .long p2, .long p4] w (some (.int (bI rx))) w := by
  refine CT.of miX13_isIn [(0, .long p0), (2, .long p2), (4, .long p4)] rfl (Nat.le_of_ble_eq_true rfl) ?_
  intro p e s m args below meth c hX hR hlk
  have hX : FX G RX13 cX13_isIn 6 p s m args c := hX
  unfold FX13_isIn at hF
  refine J_lload_n hX dX13_isIn_0 0 rfl (t := 1) rfl ?_
  refine J_lload_n hX dX13_isIn_1 1 rfl (t := 2) rfl ?_
  refine J_lcmp hX dX13_isIn_2 (t := 3) rfl ?_
  refine J_if_lt (tgt := 17) hX dX13_isIn_3 (by decide) (t := 6) rfl (fun z => ?_) (fun z => ?_)
  · replace hF := it_t hF z
    refine J_iconst (v := 0) hX dX13_isIn_17 (by decide) (t := 18) rfl ?_
    subst hF
    exact J_zret (b := false) hX hR hlk dX13_isIn_18
  · replace hF := it_f hF z
    refine J_lload_n hX dX13_isIn_6 0 rfl (t := 7) rfl ?_
    refine J_lload hX dX13_isIn_7 2 rfl (t := 9) rfl ?_
    refine J_lcmp hX dX13_isIn_9 (t := 10) rfl ?_
    refine J_if_gt (tgt := 17) hX dX13_isIn_10 (by decide) (t := 13) rfl (fun z => ?_) (fun z => ?_)
    · replace hF := it_t hF z
      refine J_iconst (v := 0) hX dX13_isIn_17 (by decide) (t := 18) rfl ?_
      subst hF
      exact J_zret (b := false) hX hR hlk dX13_isIn_18
    · replace hF := it_f hF z
      refine J_iconst (v := 1) hX dX13_isIn_13 (by decide) (t := 14) rfl ?_
      refine J_goto (tgt := 18) hX dX13_isIn_14 (by decide) ?_
      subst hF
      exact J_zret (b := true) hX hR hlk dX13_isIn_18
abbrev rmX13_truth : Room := { frames := 0, cells := 0, slots := 0, locals := 0 }
theorem miX13_truth : MI yX13_truth cX13_truth 1 (some .int) 1 := ⟨q_2084, q_152, by decide +kernel, by decide +kernel, by decide +kernel, by decide +kernel⟩
def FX13_truth (p0 : Bool) : Int32 :=
  if p0 = true then
    1
  else
    0
set_option maxHeartbeats 4000000 in
set_option maxRecDepth 100000 in
theorem ctX13_truth {G : GG} {l : Launch} {w : Wd} (p0 : Bool)  {rx : Int32} (hF : FX13_truth p0 = rx) : CT G l yX13_truth cX13_truth 1 (some .int) rmX13_truth 0 0 [.int (bI p0)] w (some (.int rx)) w := by
  refine CT.of miX13_truth [(0, .int (bI p0))] rfl (Nat.le_of_ble_eq_true rfl) ?_
  intro p e s m args below meth c hX hR hlk
  have hX : FX G RX13 cX13_truth 1 p s m args c := hX
  unfold FX13_truth at hF
  refine J_iload_n hX dX13_truth_0 0 rfl (t := 1) rfl ?_
  refine J_ifZ_eq (tgt := 8) hX dX13_truth_1 (by decide) (t := 4) rfl (fun z => ?_) (fun z => ?_)
  · replace hF := ib_f hF z
    refine J_iconst (v := 0) hX dX13_truth_8 (by decide) (t := 9) rfl ?_
    subst hF
    exact J_iret hX hR hlk dX13_truth_9
  · replace hF := it_t hF z
    refine J_iconst (v := 1) hX dX13_truth_4 (by decide) (t := 5) rfl ?_
    refine J_goto (tgt := 9) hX dX13_truth_5 (by decide) ?_
    subst hF
    exact J_iret hX hR hlk dX13_truth_9
abbrev rmX13_has : Room := { frames := 0, cells := 0, slots := 0, locals := 0 }
theorem miX13_has : MI yX13_has cX13_has 2 (some .boolean) 2 := ⟨q_2819, q_152, by decide +kernel, by decide +kernel, by decide +kernel, by decide +kernel⟩
def FX13_has (p0 : Int32) (p1 : Int32) : Bool :=
  if (p0 >>> (p1 &&& 31)) &&& 1 = 1 then
    true
  else
    false
set_option maxHeartbeats 4000000 in
set_option maxRecDepth 100000 in
theorem ctX13_has {G : GG} {l : Launch} {w : Wd} (p0 : Int32) (p1 : Int32)  {rx : Bool} (hF : FX13_has p0 p1 = rx) : CT G l yX13_has cX13_has 2 (some .boolean) rmX13_has 0 0 [.int p0, .int p1] w (some (.int (bI rx))) w := by
  refine CT.of miX13_has [(0, .int p0), (1, .int p1)] rfl (Nat.le_of_ble_eq_true rfl) ?_
  intro p e s m args below meth c hX hR hlk
  have hX : FX G RX13 cX13_has 2 p s m args c := hX
  unfold FX13_has at hF
  refine J_iload_n hX dX13_has_0 0 rfl (t := 1) rfl ?_
  refine J_iload_n hX dX13_has_1 1 rfl (t := 2) rfl ?_
  refine J_ishr hX dX13_has_2 (t := 3) rfl ?_
  refine J_iconst (v := 1) hX dX13_has_3 (by decide) (t := 4) rfl ?_
  refine J_iand hX dX13_has_4 (t := 5) rfl ?_
  refine J_iconst (v := 1) hX dX13_has_5 (by decide) (t := 6) rfl ?_
  refine J_icmp_ne (tgt := 13) hX dX13_has_6 (by decide) (t := 9) rfl (fun z => ?_) (fun z => ?_)
  · replace hF := it_f hF z
    refine J_iconst (v := 0) hX dX13_has_13 (by decide) (t := 14) rfl ?_
    subst hF
    exact J_zret (b := false) hX hR hlk dX13_has_14
  · replace hF := it_t hF z
    refine J_iconst (v := 1) hX dX13_has_9 (by decide) (t := 10) rfl ?_
    refine J_goto (tgt := 14) hX dX13_has_10 (by decide) ?_
    subst hF
    exact J_zret (b := true) hX hR hlk dX13_has_14
abbrev rmX13_goes : Room := { frames := 1, cells := 0, slots := 0, locals := 20 }
theorem miX13_goes : MI yX13_goes cX13_goes 2 (some .boolean) 1 := ⟨q_2081, q_152, by decide +kernel, by decide +kernel, by decide +kernel, by decide +kernel⟩
theorem mvX13_goes : MV yX13_goes := ⟨q_2080, q_33⟩
def FX13_goes (w : Wd) (p1 : Bool) : Bool × Wd :=
  if p1 = true then
    bnd (FX13_truth false) fun x2 =>
    bnd (sW w 15 (sI (w 15) 0 0 x2)) fun w4 =>
    (p1, w4)
  else
    bnd (FX13_truth true) fun x7 =>
    bnd (sW w 15 (sI (w 15) 0 0 x7)) fun w9 =>
    (p1, w9)
set_option maxHeartbeats 4000000 in
set_option maxRecDepth 100000 in
theorem ctX13_goes {G : GG} {l : Launch} (w : Wd) (p1 : Bool)  {rx : Bool} {rw : Wd} (hF : FX13_goes w p1 = (rx, rw)) : CT G l yX13_goes cX13_goes 2 (some .boolean) rmX13_goes 0 0 [.ref (adr G 15 0), .int (bI p1)] w (some (.int (bI rx))) rw := by
  refine CT.of miX13_goes [(0, .ref (adr G 15 0)), (1, .int (bI p1))] rfl (Nat.le_of_ble_eq_true rfl) ?_
  intro p e s m args below meth c hX hR hlk
  have hX : FX G RX13 cX13_goes 2 p s m args c := hX
  unfold FX13_goes at hF
  refine J_aload_n hX dX13_goes_0 0 rfl (t := 1) rfl ?_
  refine J_iload_n hX dX13_goes_1 1 rfl (t := 2) rfl ?_
  refine J_ifZ_ne (tgt := 9) hX dX13_goes_2 (by decide) (t := 5) rfl (fun z => ?_) (fun z => ?_)
  · replace hF := it_t hF z
    refine J_iconst (v := 0) hX dX13_goes_9 (by decide) (t := 10) rfl ?_
    obtain ⟨x2, h1, hF⟩ := bnd_e hF
    have k3 := (ctX13_truth (l := l) (G := G) (w := w) false h1)
    refine J_callS hX [.int (bI false)] [.ref (adr G 15 0)] [.int x2, .ref (adr G 15 0)] k3 miX13_truth q_2083 q_2082 ⟨rfl, rfl, Nat.le_of_ble_eq_true rfl, Nat.le_of_ble_eq_true rfl⟩ rfl rfl (Nat.le_of_ble_eq_true rfl) ⟨Nat.le_of_ble_eq_true rfl, Nat.le_of_ble_eq_true rfl⟩ dX13_goes_10 (t := 13) rfl rfl ?_
    obtain ⟨w4, e5, hF⟩ := bnd_e hF
    refine J_puti hX cb10 kModel 0 (by decide) q_1967 rfl rfl e5 (fun _ _ => Nat.le_of_ble_eq_true rfl) (fun _ _ => rfl) dX13_goes_13 (t := 16) rfl ?_
    refine J_iload_n hX dX13_goes_16 1 rfl (t := 17) rfl ?_
    obtain ⟨hF, hF2⟩ := Prod.mk.inj hF
    subst hF
    subst hF2
    exact J_zret (b := p1) hX hR hlk dX13_goes_17
  · replace hF := ib_f hF z
    refine J_iconst (v := 1) hX dX13_goes_5 (by decide) (t := 6) rfl ?_
    refine J_goto (tgt := 10) hX dX13_goes_6 (by decide) ?_
    obtain ⟨x7, h6, hF⟩ := bnd_e hF
    have k8 := (ctX13_truth (l := l) (G := G) (w := w) true h6)
    refine J_callS hX [.int (bI true)] [.ref (adr G 15 0)] [.int x7, .ref (adr G 15 0)] k8 miX13_truth q_2083 q_2082 ⟨rfl, rfl, Nat.le_of_ble_eq_true rfl, Nat.le_of_ble_eq_true rfl⟩ rfl rfl (Nat.le_of_ble_eq_true rfl) ⟨Nat.le_of_ble_eq_true rfl, Nat.le_of_ble_eq_true rfl⟩ dX13_goes_10 (t := 13) rfl rfl ?_
    obtain ⟨w9, e10, hF⟩ := bnd_e hF
    refine J_puti hX cb10 kModel 0 (by decide) q_1967 rfl rfl e10 (fun _ _ => Nat.le_of_ble_eq_true rfl) (fun _ _ => rfl) dX13_goes_13 (t := 16) rfl ?_
    refine J_iload_n hX dX13_goes_16 1 rfl (t := 17) rfl ?_
    obtain ⟨hF, hF2⟩ := Prod.mk.inj hF
    subst hF
    subst hF2
    exact J_zret (b := p1) hX hR hlk dX13_goes_17
abbrev rmX13_goesBoth : Room := { frames := 0, cells := 0, slots := 0, locals := 0 }
theorem miX13_goesBoth : MI yX13_goesBoth cX13_goesBoth 3 (some .boolean) 2 := ⟨q_2167, q_152, by decide +kernel, by decide +kernel, by decide +kernel, by decide +kernel⟩
theorem mvX13_goesBoth : MV yX13_goesBoth := ⟨q_2166, q_39⟩
def FX13_goesBoth (w : Wd) (p1 : Bool) (p2 : Bool) : Bool × Wd :=
  if p1 = true then
    if p2 = true then
      bnd (sW w 15 (sI (w 15) 0 0 0)) fun w1 =>
      if (w1 15).1 0 0 = 0 then
        (true, w1)
      else
        (false, w1)
    else
      bnd (sW w 15 (sI (w 15) 0 0 2)) fun w3 =>
      if (w3 15).1 0 0 = 0 then
        (true, w3)
      else
        (false, w3)
  else
    bnd (sW w 15 (sI (w 15) 0 0 1)) fun w5 =>
    if (w5 15).1 0 0 = 0 then
      (true, w5)
    else
      (false, w5)
set_option maxHeartbeats 4000000 in
set_option maxRecDepth 100000 in
theorem ctX13_goesBoth {G : GG} {l : Launch} (w : Wd) (p1 : Bool) (p2 : Bool)  {rx : Bool} {rw : Wd} (hF : FX13_goesBoth w p1 p2 = (rx, rw)) : CT G l yX13_goesBoth cX13_goesBoth 3 (some .boolean) rmX13_goesBoth 0 0 [.ref (adr G 15 0), .int (bI p1), .int (bI p2)] w (some (.int (bI rx))) rw := by
  refine CT.of miX13_goesBoth [(0, .ref (adr G 15 0)), (1, .int (bI p1)), (2, .int (bI p2))] rfl (Nat.le_of_ble_eq_true rfl) ?_
  intro p e s m args below meth c hX hR hlk
  have hX : FX G RX13 cX13_goesBoth 3 p s m args c := hX
  unfold FX13_goesBoth at hF
  refine J_aload_n hX dX13_goesBoth_0 0 rfl (t := 1) rfl ?_
  refine J_iload_n hX dX13_goesBoth_1 1 rfl (t := 2) rfl ?_
  refine J_ifZ_ne (tgt := 9) hX dX13_goesBoth_2 (by decide) (t := 5) rfl (fun z => ?_) (fun z => ?_)
  · replace hF := it_t hF z
    refine J_iload_n hX dX13_goesBoth_9 2 rfl (t := 10) rfl ?_
    refine J_ifZ_ne (tgt := 17) hX dX13_goesBoth_10 (by decide) (t := 13) rfl (fun z => ?_) (fun z => ?_)
    · replace hF := it_t hF z
      refine J_iconst (v := 0) hX dX13_goesBoth_17 (by decide) (t := 18) rfl ?_
      obtain ⟨w1, e2, hF⟩ := bnd_e hF
      refine J_puti hX cb10 kModel 0 (by decide) q_1967 rfl rfl e2 (fun _ _ => Nat.le_of_ble_eq_true rfl) (fun _ _ => rfl) dX13_goesBoth_18 (t := 21) rfl ?_
      refine J_aload_n hX dX13_goesBoth_21 0 rfl (t := 22) rfl ?_
      refine J_get hX cb10 kModel 0 (by decide) q_1967 rfl dX13_goesBoth_22 (t := 25) rfl ?_
      refine J_if_ne (tgt := 32) hX dX13_goesBoth_25 (by decide) (t := 28) rfl (fun z => ?_) (fun z => ?_)
      · replace hF := it_f hF z
        refine J_iconst (v := 0) hX dX13_goesBoth_32 (by decide) (t := 33) rfl ?_
        obtain ⟨hF, hF2⟩ := Prod.mk.inj hF
        subst hF
        subst hF2
        exact J_zret (b := false) hX hR hlk dX13_goesBoth_33
      · replace hF := it_t hF z
        refine J_iconst (v := 1) hX dX13_goesBoth_28 (by decide) (t := 29) rfl ?_
        refine J_goto (tgt := 33) hX dX13_goesBoth_29 (by decide) ?_
        obtain ⟨hF, hF2⟩ := Prod.mk.inj hF
        subst hF
        subst hF2
        exact J_zret (b := true) hX hR hlk dX13_goesBoth_33
    · replace hF := ib_f hF z
      refine J_iconst (v := 2) hX dX13_goesBoth_13 (by decide) (t := 14) rfl ?_
      refine J_goto (tgt := 18) hX dX13_goesBoth_14 (by decide) ?_
      obtain ⟨w3, e4, hF⟩ := bnd_e hF
      refine J_puti hX cb10 kModel 0 (by decide) q_1967 rfl rfl e4 (fun _ _ => Nat.le_of_ble_eq_true rfl) (fun _ _ => rfl) dX13_goesBoth_18 (t := 21) rfl ?_
      refine J_aload_n hX dX13_goesBoth_21 0 rfl (t := 22) rfl ?_
      refine J_get hX cb10 kModel 0 (by decide) q_1967 rfl dX13_goesBoth_22 (t := 25) rfl ?_
      refine J_if_ne (tgt := 32) hX dX13_goesBoth_25 (by decide) (t := 28) rfl (fun z => ?_) (fun z => ?_)
      · replace hF := it_f hF z
        refine J_iconst (v := 0) hX dX13_goesBoth_32 (by decide) (t := 33) rfl ?_
        obtain ⟨hF, hF2⟩ := Prod.mk.inj hF
        subst hF
        subst hF2
        exact J_zret (b := false) hX hR hlk dX13_goesBoth_33
      · replace hF := it_t hF z
        refine J_iconst (v := 1) hX dX13_goesBoth_28 (by decide) (t := 29) rfl ?_
        refine J_goto (tgt := 33) hX dX13_goesBoth_29 (by decide) ?_
        obtain ⟨hF, hF2⟩ := Prod.mk.inj hF
        subst hF
        subst hF2
        exact J_zret (b := true) hX hR hlk dX13_goesBoth_33
  · replace hF := ib_f hF z
    refine J_iconst (v := 1) hX dX13_goesBoth_5 (by decide) (t := 6) rfl ?_
    refine J_goto (tgt := 18) hX dX13_goesBoth_6 (by decide) ?_
    obtain ⟨w5, e6, hF⟩ := bnd_e hF
    refine J_puti hX cb10 kModel 0 (by decide) q_1967 rfl rfl e6 (fun _ _ => Nat.le_of_ble_eq_true rfl) (fun _ _ => rfl) dX13_goesBoth_18 (t := 21) rfl ?_
    refine J_aload_n hX dX13_goesBoth_21 0 rfl (t := 22) rfl ?_
    refine J_get hX cb10 kModel 0 (by decide) q_1967 rfl dX13_goesBoth_22 (t := 25) rfl ?_
    refine J_if_ne (tgt := 32) hX dX13_goesBoth_25 (by decide) (t := 28) rfl (fun z => ?_) (fun z => ?_)
    · replace hF := it_f hF z
      refine J_iconst (v := 0) hX dX13_goesBoth_32 (by decide) (t := 33) rfl ?_
      obtain ⟨hF, hF2⟩ := Prod.mk.inj hF
      subst hF
      subst hF2
      exact J_zret (b := false) hX hR hlk dX13_goesBoth_33
    · replace hF := it_t hF z
      refine J_iconst (v := 1) hX dX13_goesBoth_28 (by decide) (t := 29) rfl ?_
      refine J_goto (tgt := 33) hX dX13_goesBoth_29 (by decide) ?_
      obtain ⟨hF, hF2⟩ := Prod.mk.inj hF
      subst hF
      subst hF2
      exact J_zret (b := true) hX hR hlk dX13_goesBoth_33
abbrev rmX13_goesThree : Room := { frames := 0, cells := 0, slots := 0, locals := 0 }
theorem miX13_goesThree : MI yX13_goesThree cX13_goesThree 4 (some .boolean) 3 := ⟨q_2251, q_152, by decide +kernel, by decide +kernel, by decide +kernel, by decide +kernel⟩
theorem mvX13_goesThree : MV yX13_goesThree := ⟨q_2250, q_54⟩
def FX13_goesThree (w : Wd) (p1 : Bool) (p2 : Bool) (p3 : Bool) : Bool × Wd :=
  if p1 = true then
    if p2 = true then
      if p3 = true then
        bnd (sW w 15 (sI (w 15) 0 0 0)) fun w1 =>
        if (w1 15).1 0 0 = 0 then
          (true, w1)
        else
          (false, w1)
      else
        bnd (sW w 15 (sI (w 15) 0 0 3)) fun w3 =>
        if (w3 15).1 0 0 = 0 then
          (true, w3)
        else
          (false, w3)
    else
      bnd (sW w 15 (sI (w 15) 0 0 2)) fun w5 =>
      if (w5 15).1 0 0 = 0 then
        (true, w5)
      else
        (false, w5)
  else
    bnd (sW w 15 (sI (w 15) 0 0 1)) fun w7 =>
    if (w7 15).1 0 0 = 0 then
      (true, w7)
    else
      (false, w7)
set_option maxHeartbeats 4000000 in
set_option maxRecDepth 100000 in
theorem ctX13_goesThree {G : GG} {l : Launch} (w : Wd) (p1 : Bool) (p2 : Bool) (p3 : Bool)  {rx : Bool} {rw : Wd} (hF : FX13_goesThree w p1 p2 p3 = (rx, rw)) : CT G l yX13_goesThree cX13_goesThree 4 (some .boolean) rmX13_goesThree 0 0 [.ref (adr G 15 0), .int (bI p1), .int (bI p2), .int (bI p3)] w (some (.int (bI rx))) rw := by
  refine CT.of miX13_goesThree [(0, .ref (adr G 15 0)), (1, .int (bI p1)), (2, .int (bI p2)), (3, .int (bI p3))] rfl (Nat.le_of_ble_eq_true rfl) ?_
  intro p e s m args below meth c hX hR hlk
  have hX : FX G RX13 cX13_goesThree 4 p s m args c := hX
  unfold FX13_goesThree at hF
  refine J_aload_n hX dX13_goesThree_0 0 rfl (t := 1) rfl ?_
  refine J_iload_n hX dX13_goesThree_1 1 rfl (t := 2) rfl ?_
  refine J_ifZ_ne (tgt := 9) hX dX13_goesThree_2 (by decide) (t := 5) rfl (fun z => ?_) (fun z => ?_)
  · replace hF := it_t hF z
    refine J_iload_n hX dX13_goesThree_9 2 rfl (t := 10) rfl ?_
    refine J_ifZ_ne (tgt := 17) hX dX13_goesThree_10 (by decide) (t := 13) rfl (fun z => ?_) (fun z => ?_)
    · replace hF := it_t hF z
      refine J_iload_n hX dX13_goesThree_17 3 rfl (t := 18) rfl ?_
      refine J_ifZ_ne (tgt := 25) hX dX13_goesThree_18 (by decide) (t := 21) rfl (fun z => ?_) (fun z => ?_)
      · replace hF := it_t hF z
        refine J_iconst (v := 0) hX dX13_goesThree_25 (by decide) (t := 26) rfl ?_
        obtain ⟨w1, e2, hF⟩ := bnd_e hF
        refine J_puti hX cb10 kModel 0 (by decide) q_1967 rfl rfl e2 (fun _ _ => Nat.le_of_ble_eq_true rfl) (fun _ _ => rfl) dX13_goesThree_26 (t := 29) rfl ?_
        refine J_aload_n hX dX13_goesThree_29 0 rfl (t := 30) rfl ?_
        refine J_get hX cb10 kModel 0 (by decide) q_1967 rfl dX13_goesThree_30 (t := 33) rfl ?_
        refine J_if_ne (tgt := 40) hX dX13_goesThree_33 (by decide) (t := 36) rfl (fun z => ?_) (fun z => ?_)
        · replace hF := it_f hF z
          refine J_iconst (v := 0) hX dX13_goesThree_40 (by decide) (t := 41) rfl ?_
          obtain ⟨hF, hF2⟩ := Prod.mk.inj hF
          subst hF
          subst hF2
          exact J_zret (b := false) hX hR hlk dX13_goesThree_41
        · replace hF := it_t hF z
          refine J_iconst (v := 1) hX dX13_goesThree_36 (by decide) (t := 37) rfl ?_
          refine J_goto (tgt := 41) hX dX13_goesThree_37 (by decide) ?_
          obtain ⟨hF, hF2⟩ := Prod.mk.inj hF
          subst hF
          subst hF2
          exact J_zret (b := true) hX hR hlk dX13_goesThree_41
      · replace hF := ib_f hF z
        refine J_iconst (v := 3) hX dX13_goesThree_21 (by decide) (t := 22) rfl ?_
        refine J_goto (tgt := 26) hX dX13_goesThree_22 (by decide) ?_
        obtain ⟨w3, e4, hF⟩ := bnd_e hF
        refine J_puti hX cb10 kModel 0 (by decide) q_1967 rfl rfl e4 (fun _ _ => Nat.le_of_ble_eq_true rfl) (fun _ _ => rfl) dX13_goesThree_26 (t := 29) rfl ?_
        refine J_aload_n hX dX13_goesThree_29 0 rfl (t := 30) rfl ?_
        refine J_get hX cb10 kModel 0 (by decide) q_1967 rfl dX13_goesThree_30 (t := 33) rfl ?_
        refine J_if_ne (tgt := 40) hX dX13_goesThree_33 (by decide) (t := 36) rfl (fun z => ?_) (fun z => ?_)
        · replace hF := it_f hF z
          refine J_iconst (v := 0) hX dX13_goesThree_40 (by decide) (t := 41) rfl ?_
          obtain ⟨hF, hF2⟩ := Prod.mk.inj hF
          subst hF
          subst hF2
          exact J_zret (b := false) hX hR hlk dX13_goesThree_41
        · replace hF := it_t hF z
          refine J_iconst (v := 1) hX dX13_goesThree_36 (by decide) (t := 37) rfl ?_
          refine J_goto (tgt := 41) hX dX13_goesThree_37 (by decide) ?_
          obtain ⟨hF, hF2⟩ := Prod.mk.inj hF
          subst hF
          subst hF2
          exact J_zret (b := true) hX hR hlk dX13_goesThree_41
    · replace hF := ib_f hF z
      refine J_iconst (v := 2) hX dX13_goesThree_13 (by decide) (t := 14) rfl ?_
      refine J_goto (tgt := 26) hX dX13_goesThree_14 (by decide) ?_
      obtain ⟨w5, e6, hF⟩ := bnd_e hF
      refine J_puti hX cb10 kModel 0 (by decide) q_1967 rfl rfl e6 (fun _ _ => Nat.le_of_ble_eq_true rfl) (fun _ _ => rfl) dX13_goesThree_26 (t := 29) rfl ?_
      refine J_aload_n hX dX13_goesThree_29 0 rfl (t := 30) rfl ?_
      refine J_get hX cb10 kModel 0 (by decide) q_1967 rfl dX13_goesThree_30 (t := 33) rfl ?_
      refine J_if_ne (tgt := 40) hX dX13_goesThree_33 (by decide) (t := 36) rfl (fun z => ?_) (fun z => ?_)
      · replace hF := it_f hF z
        refine J_iconst (v := 0) hX dX13_goesThree_40 (by decide) (t := 41) rfl ?_
        obtain ⟨hF, hF2⟩ := Prod.mk.inj hF
        subst hF
        subst hF2
        exact J_zret (b := false) hX hR hlk dX13_goesThree_41
      · replace hF := it_t hF z
        refine J_iconst (v := 1) hX dX13_goesThree_36 (by decide) (t := 37) rfl ?_
        refine J_goto (tgt := 41) hX dX13_goesThree_37 (by decide) ?_
        obtain ⟨hF, hF2⟩ := Prod.mk.inj hF
        subst hF
        subst hF2
        exact J_zret (b := true) hX hR hlk dX13_goesThree_41
  · replace hF := ib_f hF z
    refine J_iconst (v := 1) hX dX13_goesThree_5 (by decide) (t := 6) rfl ?_
    refine J_goto (tgt := 26) hX dX13_goesThree_6 (by decide) ?_
    obtain ⟨w7, e8, hF⟩ := bnd_e hF
    refine J_puti hX cb10 kModel 0 (by decide) q_1967 rfl rfl e8 (fun _ _ => Nat.le_of_ble_eq_true rfl) (fun _ _ => rfl) dX13_goesThree_26 (t := 29) rfl ?_
    refine J_aload_n hX dX13_goesThree_29 0 rfl (t := 30) rfl ?_
    refine J_get hX cb10 kModel 0 (by decide) q_1967 rfl dX13_goesThree_30 (t := 33) rfl ?_
    refine J_if_ne (tgt := 40) hX dX13_goesThree_33 (by decide) (t := 36) rfl (fun z => ?_) (fun z => ?_)
    · replace hF := it_f hF z
      refine J_iconst (v := 0) hX dX13_goesThree_40 (by decide) (t := 41) rfl ?_
      obtain ⟨hF, hF2⟩ := Prod.mk.inj hF
      subst hF
      subst hF2
      exact J_zret (b := false) hX hR hlk dX13_goesThree_41
    · replace hF := it_t hF z
      refine J_iconst (v := 1) hX dX13_goesThree_36 (by decide) (t := 37) rfl ?_
      refine J_goto (tgt := 41) hX dX13_goesThree_37 (by decide) ?_
      obtain ⟨hF, hF2⟩ := Prod.mk.inj hF
      subst hF
      subst hF2
      exact J_zret (b := true) hX hR hlk dX13_goesThree_41
abbrev rmX13_four : Room := { frames := 0, cells := 0, slots := 0, locals := 0 }
theorem miX13_four : MI yX13_four cX13_four 3 none 1 := ⟨q_2088, q_152, by decide +kernel, by decide +kernel, by decide +kernel, by decide +kernel⟩
theorem mvX13_four : MV yX13_four := ⟨q_2087, q_34⟩
def FX13_four_L3 (n : Nat) : Nat → Wd → Int32 → Int32 → Option (Wd)
  | 0 => fun _ _ _ => none
  | k + 1 => fun w l1 l2 =>
    if l2 < 0 then
      some w
    else
      gd (inb ((w 15).1 0 2) 600) <| bnd (sW w 15 (sI (w 15) 1 (((w 15).1 0 2).toNatClampNeg) ((l1 >>> (l2 &&& 31)) &&& 255))) fun w2 =>
      bnd (sW w2 15 (sI (w2 15) 0 2 (((w2 15).1 0 2) + 1))) fun w4 =>
      FX13_four_L3 n k w4 l1 (l2 + (-8))
set_option maxHeartbeats 4000000 in
set_option maxRecDepth 100000 in
theorem LX13_four_3 {G : GG} {l : Launch} {p : Program} {e : Env} {s : State} {m : MethodId} {args : Array Value} {below : List Frame} {meth : Method} {c : Code} (hX : FX G RX13 cX13_four 3 p s m args c) (hR : meth.sig.returnType = none) (hlk : meth.locks = false) {rw : Wd} (n : Nat) : ∀ (k : Nat) (w : Wd) (l1 : Int32) (l2 : Int32) , FX13_four_L3 n k w l1 l2 = some rw → J G p l e rmX13_four s m args below meth c 3 0 0 (MQ below (QV G (none) rw) args s 0 0 (gA G)) (GH G w) 3 [(0, .ref (adr G 15 0)), (1, .int l1), (2, .int l2)] [] := by
  intro k
  induction k with
  | zero => intro w l1 l2  hF; cases hF
  | succ k ih =>
    intro w l1 l2  hF
    simp only [FX13_four_L3] at hF
    refine J_iload_n hX dX13_four_3 2 rfl (t := 4) rfl ?_
    refine J_if_lt (tgt := 39) hX dX13_four_4 (by decide) (t := 7) rfl (fun z => ?_) (fun z => ?_)
    · replace hF := it_t hF z
      replace hF := Option.some.inj hF
      subst hF
      exact J_vret hX hR hlk dX13_four_39
    · replace hF := it_f hF z
      refine J_aload_n hX dX13_four_7 0 rfl (t := 8) rfl ?_
      refine J_get hX cb10 kModel 1 (by decide) q_1968 rfl dX13_four_8 (t := 11) rfl ?_
      refine J_aload_n hX dX13_four_11 0 rfl (t := 12) rfl ?_
      refine J_get hX cb10 kModel 2 (by decide) q_1969 rfl dX13_four_12 (t := 15) rfl ?_
      refine J_iload_n hX dX13_four_15 1 rfl (t := 16) rfl ?_
      refine J_iload_n hX dX13_four_16 2 rfl (t := 17) rfl ?_
      refine J_ishr hX dX13_four_17 (t := 18) rfl ?_
      refine J_sipush (v := 255) hX dX13_four_18 (by decide) (t := 21) rfl ?_
      refine J_iand hX dX13_four_21 (t := 22) rfl ?_
      obtain ⟨g1, hF⟩ := gd_e hF
      obtain ⟨w2, e3, hF⟩ := bnd_e hF
      refine J_iast hX (kInts (j := 1) (n := 600) (by decide) (by decide) rfl) g1 rfl e3 dX13_four_22 (t := 23) rfl ?_
      refine J_aload_n hX dX13_four_23 0 rfl (t := 24) rfl ?_
      refine J_dup hX dX13_four_24 rfl (t := 25) rfl ?_
      refine J_get hX cb10 kModel 2 (by decide) q_1969 rfl dX13_four_25 (t := 28) rfl ?_
      refine J_iconst (v := 1) hX dX13_four_28 (by decide) (t := 29) rfl ?_
      refine J_iadd hX dX13_four_29 (t := 30) rfl ?_
      obtain ⟨w4, e5, hF⟩ := bnd_e hF
      refine J_puti hX cb10 kModel 2 (by decide) q_1969 rfl rfl e5 (fun _ _ => Nat.le_of_ble_eq_true rfl) (fun _ _ => rfl) dX13_four_30 (t := 33) rfl ?_
      refine J_iinc (v := l2 + (-8)) (lc2 := [(2, .int (l2 + (-8))), (0, .ref (adr G 15 0)), (1, .int l1)]) hX dX13_four_33 2 rfl rfl (Nat.le_of_ble_eq_true rfl) rfl (t := 36) rfl ?_
      refine J_goto (tgt := 3) hX dX13_four_36 (by decide) ?_
      refine J_sub (lc2 := [(0, .ref (adr G 15 0)), (1, .int l1), (2, .int (l2 + (-8)))]) [1, 2, 0] rfl ?_
      exact ih w4 l1 (l2 + (-8)) hF
def FX13_four (n : Nat) (w : Wd) (p1 : Int32) : Option (Wd) :=
  FX13_four_L3 n n w p1 24
set_option maxHeartbeats 4000000 in
set_option maxRecDepth 100000 in
theorem ctX13_four {G : GG} {l : Launch} (w : Wd) (p1 : Int32)  (n : Nat) {rw : Wd} (hF : FX13_four n w p1 = some rw) : CT G l yX13_four cX13_four 3 none rmX13_four 0 0 [.ref (adr G 15 0), .int p1] w (none) rw := by
  refine CT.of miX13_four [(0, .ref (adr G 15 0)), (1, .int p1)] rfl (Nat.le_of_ble_eq_true rfl) ?_
  intro p e s m args below meth c hX hR hlk
  have hX : FX G RX13 cX13_four 3 p s m args c := hX
  unfold FX13_four at hF
  refine J_bipush (v := 24) hX dX13_four_0 (by decide) (t := 2) rfl ?_
  refine J_istore_n (lc2 := [(2, .int 24), (0, .ref (adr G 15 0)), (1, .int p1)]) hX dX13_four_2 rfl (Nat.le_of_ble_eq_true rfl) rfl (t := 3) rfl ?_
  refine J_sub (lc2 := [(0, .ref (adr G 15 0)), (1, .int p1), (2, .int 24)]) [1, 2, 0] rfl ?_
  exact LX13_four_3 hX hR hlk n n w p1 24 hF
abbrev rmX13_feed : Room := { frames := 2, cells := 0, slots := 0, locals := 41 }
theorem miX13_feed : MI yX13_feed cX13_feed 6 (some .int) 5 := ⟨q_2077, q_152, by decide +kernel, by decide +kernel, by decide +kernel, by decide +kernel⟩
theorem mvX13_feed : MV yX13_feed := ⟨q_2075, q_2076⟩
def FX13_feed (n : Nat) (w : Wd) (p1 : Int32) (p2 : Int32) (p3 : Int32) (p4 : Int32) (p5 : Int32) : Option (Int32 × Wd) :=
  if 600 < ((w 15).1 0 2) + 20 then
    bnd2 (FX13_goes w false) fun x2 w3 =>
    if x2 = true then
      bo1 (FX13_four n w3 p1) fun w6 =>
      bo1 (FX13_four n w6 p2) fun w9 =>
      bo1 (FX13_four n w9 p3) fun w12 =>
      bo1 (FX13_four n w12 p4) fun w15 =>
      bo1 (FX13_four n w15 p5) fun w18 =>
      some ((w18 15).1 0 2, w18)
    else
      some (0, w3)
  else
    bnd2 (FX13_goes w true) fun x21 w22 =>
    if x21 = true then
      bo1 (FX13_four n w22 p1) fun w25 =>
      bo1 (FX13_four n w25 p2) fun w28 =>
      bo1 (FX13_four n w28 p3) fun w31 =>
      bo1 (FX13_four n w31 p4) fun w34 =>
      bo1 (FX13_four n w34 p5) fun w37 =>
      some ((w37 15).1 0 2, w37)
    else
      some (0, w22)
set_option maxHeartbeats 4000000 in
set_option maxRecDepth 100000 in
theorem ctX13_feed {G : GG} {l : Launch} (w : Wd) (p1 : Int32) (p2 : Int32) (p3 : Int32) (p4 : Int32) (p5 : Int32)  (n : Nat) {rx : Int32} {rw : Wd} (hF : FX13_feed n w p1 p2 p3 p4 p5 = some (rx, rw)) : CT G l yX13_feed cX13_feed 6 (some .int) rmX13_feed 0 0 [.ref (adr G 15 0), .int p1, .int p2, .int p3, .int p4, .int p5] w (some (.int rx)) rw := by
  refine CT.of miX13_feed [(0, .ref (adr G 15 0)), (1, .int p1), (2, .int p2), (3, .int p3), (4, .int p4), (5, .int p5)] rfl (Nat.le_of_ble_eq_true rfl) ?_
  intro p e s m args below meth c hX hR hlk
  have hX : FX G RX13 cX13_feed 6 p s m args c := hX
  unfold FX13_feed at hF
  refine J_aload_n hX dX13_feed_0 0 rfl (t := 1) rfl ?_
  refine J_aload_n hX dX13_feed_1 0 rfl (t := 2) rfl ?_
  refine J_get hX cb10 kModel 2 (by decide) q_1969 rfl dX13_feed_2 (t := 5) rfl ?_
  refine J_bipush (v := 20) hX dX13_feed_5 (by decide) (t := 7) rfl ?_
  refine J_iadd hX dX13_feed_7 (t := 8) rfl ?_
  refine J_sipush (v := 600) hX dX13_feed_8 (by decide) (t := 11) rfl ?_
  refine J_icmp_gt (tgt := 18) hX dX13_feed_11 (by decide) (t := 14) rfl (fun z => ?_) (fun z => ?_)
  · replace hF := it_t hF z
    refine J_iconst (v := 0) hX dX13_feed_18 (by decide) (t := 19) rfl ?_
    obtain ⟨x2, w3, h1, hF⟩ := bnd2_e hF
    have k4 := (ctX13_goes (G := G) (l := l) w false h1)
    refine J_callV hX [.int (bI false)] [] [.int (bI x2)] k4 miX13_goes mvX13_goes cb10 kModel q_2078 ⟨rfl, rfl, Nat.le_of_ble_eq_true rfl, Nat.le_of_ble_eq_true rfl⟩ rfl rfl (Nat.le_of_ble_eq_true rfl) ⟨Nat.le_of_ble_eq_true rfl, Nat.le_of_ble_eq_true rfl⟩ dX13_feed_19 (t := 22) rfl rfl ?_
    refine J_ifZ_ne (tgt := 27) hX dX13_feed_22 (by decide) (t := 25) rfl (fun z => ?_) (fun z => ?_)
    · replace hF := it_t hF z
      refine J_aload_n hX dX13_feed_27 0 rfl (t := 28) rfl ?_
      refine J_iload_n hX dX13_feed_28 1 rfl (t := 29) rfl ?_
      obtain ⟨w6, h5, hF⟩ := bo1_e hF
      have k7 := (ctX13_four (G := G) (l := l) w3 p1 n h5)
      refine J_callV hX [.int p1] [] [] k7 miX13_four mvX13_four cb10 kModel q_2085 ⟨rfl, rfl, Nat.le_of_ble_eq_true rfl, Nat.le_of_ble_eq_true rfl⟩ rfl rfl (Nat.le_of_ble_eq_true rfl) ⟨Nat.le_of_ble_eq_true rfl, Nat.le_of_ble_eq_true rfl⟩ dX13_feed_29 (t := 32) rfl rfl ?_
      refine J_aload_n hX dX13_feed_32 0 rfl (t := 33) rfl ?_
      refine J_iload_n hX dX13_feed_33 2 rfl (t := 34) rfl ?_
      obtain ⟨w9, h8, hF⟩ := bo1_e hF
      have k10 := (ctX13_four (G := G) (l := l) w6 p2 n h8)
      refine J_callV hX [.int p2] [] [] k10 miX13_four mvX13_four cb10 kModel q_2085 ⟨rfl, rfl, Nat.le_of_ble_eq_true rfl, Nat.le_of_ble_eq_true rfl⟩ rfl rfl (Nat.le_of_ble_eq_true rfl) ⟨Nat.le_of_ble_eq_true rfl, Nat.le_of_ble_eq_true rfl⟩ dX13_feed_34 (t := 37) rfl rfl ?_
      refine J_aload_n hX dX13_feed_37 0 rfl (t := 38) rfl ?_
      refine J_iload_n hX dX13_feed_38 3 rfl (t := 39) rfl ?_
      obtain ⟨w12, h11, hF⟩ := bo1_e hF
      have k13 := (ctX13_four (G := G) (l := l) w9 p3 n h11)
      refine J_callV hX [.int p3] [] [] k13 miX13_four mvX13_four cb10 kModel q_2085 ⟨rfl, rfl, Nat.le_of_ble_eq_true rfl, Nat.le_of_ble_eq_true rfl⟩ rfl rfl (Nat.le_of_ble_eq_true rfl) ⟨Nat.le_of_ble_eq_true rfl, Nat.le_of_ble_eq_true rfl⟩ dX13_feed_39 (t := 42) rfl rfl ?_
      refine J_aload_n hX dX13_feed_42 0 rfl (t := 43) rfl ?_
      refine J_iload hX dX13_feed_43 4 rfl (t := 45) rfl ?_
      obtain ⟨w15, h14, hF⟩ := bo1_e hF
      have k16 := (ctX13_four (G := G) (l := l) w12 p4 n h14)
      refine J_callV hX [.int p4] [] [] k16 miX13_four mvX13_four cb10 kModel q_2085 ⟨rfl, rfl, Nat.le_of_ble_eq_true rfl, Nat.le_of_ble_eq_true rfl⟩ rfl rfl (Nat.le_of_ble_eq_true rfl) ⟨Nat.le_of_ble_eq_true rfl, Nat.le_of_ble_eq_true rfl⟩ dX13_feed_45 (t := 48) rfl rfl ?_
      refine J_aload_n hX dX13_feed_48 0 rfl (t := 49) rfl ?_
      refine J_iload hX dX13_feed_49 5 rfl (t := 51) rfl ?_
      obtain ⟨w18, h17, hF⟩ := bo1_e hF
      have k19 := (ctX13_four (G := G) (l := l) w15 p5 n h17)
      refine J_callV hX [.int p5] [] [] k19 miX13_four mvX13_four cb10 kModel q_2085 ⟨rfl, rfl, Nat.le_of_ble_eq_true rfl, Nat.le_of_ble_eq_true rfl⟩ rfl rfl (Nat.le_of_ble_eq_true rfl) ⟨Nat.le_of_ble_eq_true rfl, Nat.le_of_ble_eq_true rfl⟩ dX13_feed_51 (t := 54) rfl rfl ?_
      refine J_aload_n hX dX13_feed_54 0 rfl (t := 55) rfl ?_
      refine J_get hX cb10 kModel 2 (by decide) q_1969 rfl dX13_feed_55 (t := 58) rfl ?_
      replace hF := Option.some.inj hF
      obtain ⟨hF, hF2⟩ := Prod.mk.inj hF
      subst hF
      subst hF2
      exact J_iret hX hR hlk dX13_feed_58
    · replace hF := ib_f hF z
      refine J_iconst (v := 0) hX dX13_feed_25 (by decide) (t := 26) rfl ?_
      replace hF := Option.some.inj hF
      obtain ⟨hF, hF2⟩ := Prod.mk.inj hF
      subst hF
      subst hF2
      exact J_iret hX hR hlk dX13_feed_26
  · replace hF := it_f hF z
    refine J_iconst (v := 1) hX dX13_feed_14 (by decide) (t := 15) rfl ?_
    refine J_goto (tgt := 19) hX dX13_feed_15 (by decide) ?_
    obtain ⟨x21, w22, h20, hF⟩ := bnd2_e hF
    have k23 := (ctX13_goes (G := G) (l := l) w true h20)
    refine J_callV hX [.int (bI true)] [] [.int (bI x21)] k23 miX13_goes mvX13_goes cb10 kModel q_2078 ⟨rfl, rfl, Nat.le_of_ble_eq_true rfl, Nat.le_of_ble_eq_true rfl⟩ rfl rfl (Nat.le_of_ble_eq_true rfl) ⟨Nat.le_of_ble_eq_true rfl, Nat.le_of_ble_eq_true rfl⟩ dX13_feed_19 (t := 22) rfl rfl ?_
    refine J_ifZ_ne (tgt := 27) hX dX13_feed_22 (by decide) (t := 25) rfl (fun z => ?_) (fun z => ?_)
    · replace hF := it_t hF z
      refine J_aload_n hX dX13_feed_27 0 rfl (t := 28) rfl ?_
      refine J_iload_n hX dX13_feed_28 1 rfl (t := 29) rfl ?_
      obtain ⟨w25, h24, hF⟩ := bo1_e hF
      have k26 := (ctX13_four (G := G) (l := l) w22 p1 n h24)
      refine J_callV hX [.int p1] [] [] k26 miX13_four mvX13_four cb10 kModel q_2085 ⟨rfl, rfl, Nat.le_of_ble_eq_true rfl, Nat.le_of_ble_eq_true rfl⟩ rfl rfl (Nat.le_of_ble_eq_true rfl) ⟨Nat.le_of_ble_eq_true rfl, Nat.le_of_ble_eq_true rfl⟩ dX13_feed_29 (t := 32) rfl rfl ?_
      refine J_aload_n hX dX13_feed_32 0 rfl (t := 33) rfl ?_
      refine J_iload_n hX dX13_feed_33 2 rfl (t := 34) rfl ?_
      obtain ⟨w28, h27, hF⟩ := bo1_e hF
      have k29 := (ctX13_four (G := G) (l := l) w25 p2 n h27)
      refine J_callV hX [.int p2] [] [] k29 miX13_four mvX13_four cb10 kModel q_2085 ⟨rfl, rfl, Nat.le_of_ble_eq_true rfl, Nat.le_of_ble_eq_true rfl⟩ rfl rfl (Nat.le_of_ble_eq_true rfl) ⟨Nat.le_of_ble_eq_true rfl, Nat.le_of_ble_eq_true rfl⟩ dX13_feed_34 (t := 37) rfl rfl ?_
      refine J_aload_n hX dX13_feed_37 0 rfl (t := 38) rfl ?_
      refine J_iload_n hX dX13_feed_38 3 rfl (t := 39) rfl ?_
      obtain ⟨w31, h30, hF⟩ := bo1_e hF
      have k32 := (ctX13_four (G := G) (l := l) w28 p3 n h30)
      refine J_callV hX [.int p3] [] [] k32 miX13_four mvX13_four cb10 kModel q_2085 ⟨rfl, rfl, Nat.le_of_ble_eq_true rfl, Nat.le_of_ble_eq_true rfl⟩ rfl rfl (Nat.le_of_ble_eq_true rfl) ⟨Nat.le_of_ble_eq_true rfl, Nat.le_of_ble_eq_true rfl⟩ dX13_feed_39 (t := 42) rfl rfl ?_
      refine J_aload_n hX dX13_feed_42 0 rfl (t := 43) rfl ?_
      refine J_iload hX dX13_feed_43 4 rfl (t := 45) rfl ?_
      obtain ⟨w34, h33, hF⟩ := bo1_e hF
      have k35 := (ctX13_four (G := G) (l := l) w31 p4 n h33)
      refine J_callV hX [.int p4] [] [] k35 miX13_four mvX13_four cb10 kModel q_2085 ⟨rfl, rfl, Nat.le_of_ble_eq_true rfl, Nat.le_of_ble_eq_true rfl⟩ rfl rfl (Nat.le_of_ble_eq_true rfl) ⟨Nat.le_of_ble_eq_true rfl, Nat.le_of_ble_eq_true rfl⟩ dX13_feed_45 (t := 48) rfl rfl ?_
      refine J_aload_n hX dX13_feed_48 0 rfl (t := 49) rfl ?_
      refine J_iload hX dX13_feed_49 5 rfl (t := 51) rfl ?_
      obtain ⟨w37, h36, hF⟩ := bo1_e hF
      have k38 := (ctX13_four (G := G) (l := l) w34 p5 n h36)
      refine J_callV hX [.int p5] [] [] k38 miX13_four mvX13_four cb10 kModel q_2085 ⟨rfl, rfl, Nat.le_of_ble_eq_true rfl, Nat.le_of_ble_eq_true rfl⟩ rfl rfl (Nat.le_of_ble_eq_true rfl) ⟨Nat.le_of_ble_eq_true rfl, Nat.le_of_ble_eq_true rfl⟩ dX13_feed_51 (t := 54) rfl rfl ?_
      refine J_aload_n hX dX13_feed_54 0 rfl (t := 55) rfl ?_
      refine J_get hX cb10 kModel 2 (by decide) q_1969 rfl dX13_feed_55 (t := 58) rfl ?_
      replace hF := Option.some.inj hF
      obtain ⟨hF, hF2⟩ := Prod.mk.inj hF
      subst hF
      subst hF2
      exact J_iret hX hR hlk dX13_feed_58
    · replace hF := ib_f hF z
      refine J_iconst (v := 0) hX dX13_feed_25 (by decide) (t := 26) rfl ?_
      replace hF := Option.some.inj hF
      obtain ⟨hF, hF2⟩ := Prod.mk.inj hF
      subst hF
      subst hF2
      exact J_iret hX hR hlk dX13_feed_26
abbrev rmX13_truncate : Room := { frames := 2, cells := 0, slots := 0, locals := 41 }
theorem miX13_truncate : MI yX13_truncate cX13_truncate 2 (some .int) 1 := ⟨q_2092, q_152, by decide +kernel, by decide +kernel, by decide +kernel, by decide +kernel⟩
theorem mvX13_truncate : MV yX13_truncate := ⟨q_2090, q_2091⟩
def FX13_truncate (w : Wd) (p1 : Int32) : Int32 × Wd :=
  bnd (FX13_isIn p1.toInt64 0 (((w 15).1 0 2).toInt64)) fun x2 =>
  bnd2 (FX13_goes w x2) fun x5 w6 =>
  if x5 = true then
    bnd (sW w6 15 (sI (w6 15) 0 2 p1)) fun w8 =>
    (p1, w8)
  else
    (0, w6)
set_option maxHeartbeats 4000000 in
set_option maxRecDepth 100000 in
theorem ctX13_truncate {G : GG} {l : Launch} (w : Wd) (p1 : Int32)  {rx : Int32} {rw : Wd} (hF : FX13_truncate w p1 = (rx, rw)) : CT G l yX13_truncate cX13_truncate 2 (some .int) rmX13_truncate 0 0 [.ref (adr G 15 0), .int p1] w (some (.int rx)) rw := by
  refine CT.of miX13_truncate [(0, .ref (adr G 15 0)), (1, .int p1)] rfl (Nat.le_of_ble_eq_true rfl) ?_
  intro p e s m args below meth c hX hR hlk
  have hX : FX G RX13 cX13_truncate 2 p s m args c := hX
  unfold FX13_truncate at hF
  refine J_aload_n hX dX13_truncate_0 0 rfl (t := 1) rfl ?_
  refine J_iload_n hX dX13_truncate_1 1 rfl (t := 2) rfl ?_
  refine J_i2l hX dX13_truncate_2 (t := 3) rfl ?_
  refine J_lconst (v := 0) hX dX13_truncate_3 (by decide) (t := 4) rfl ?_
  refine J_aload_n hX dX13_truncate_4 0 rfl (t := 5) rfl ?_
  refine J_get hX cb10 kModel 2 (by decide) q_1969 rfl dX13_truncate_5 (t := 8) rfl ?_
  refine J_i2l hX dX13_truncate_8 (t := 9) rfl ?_
  obtain ⟨x2, h1, hF⟩ := bnd_e hF
  have k3 := (ctX13_isIn (l := l) (G := G) (w := w) p1.toInt64 0 (((w 15).1 0 2).toInt64) h1)
  refine J_callS hX [.long p1.toInt64, .long 0, .long (((w 15).1 0 2).toInt64)] [.ref (adr G 15 0)] [.int (bI x2), .ref (adr G 15 0)] k3 miX13_isIn q_2094 q_2093 ⟨rfl, rfl, Nat.le_of_ble_eq_true rfl, Nat.le_of_ble_eq_true rfl⟩ rfl rfl (Nat.le_of_ble_eq_true rfl) ⟨Nat.le_of_ble_eq_true rfl, Nat.le_of_ble_eq_true rfl⟩ dX13_truncate_9 (t := 12) rfl rfl ?_
  obtain ⟨x5, w6, h4, hF⟩ := bnd2_e hF
  have k7 := (ctX13_goes (G := G) (l := l) w x2 h4)
  refine J_callV hX [.int (bI x2)] [] [.int (bI x5)] k7 miX13_goes mvX13_goes cb10 kModel q_2078 ⟨rfl, rfl, Nat.le_of_ble_eq_true rfl, Nat.le_of_ble_eq_true rfl⟩ rfl rfl (Nat.le_of_ble_eq_true rfl) ⟨Nat.le_of_ble_eq_true rfl, Nat.le_of_ble_eq_true rfl⟩ dX13_truncate_12 (t := 15) rfl rfl ?_
  refine J_ifZ_ne (tgt := 20) hX dX13_truncate_15 (by decide) (t := 18) rfl (fun z => ?_) (fun z => ?_)
  · replace hF := it_t hF z
    refine J_aload_n hX dX13_truncate_20 0 rfl (t := 21) rfl ?_
    refine J_iload_n hX dX13_truncate_21 1 rfl (t := 22) rfl ?_
    obtain ⟨w8, e9, hF⟩ := bnd_e hF
    refine J_puti hX cb10 kModel 2 (by decide) q_1969 rfl rfl e9 (fun _ _ => Nat.le_of_ble_eq_true rfl) (fun _ _ => rfl) dX13_truncate_22 (t := 25) rfl ?_
    refine J_iload_n hX dX13_truncate_25 1 rfl (t := 26) rfl ?_
    obtain ⟨hF, hF2⟩ := Prod.mk.inj hF
    subst hF
    subst hF2
    exact J_iret hX hR hlk dX13_truncate_26
  · replace hF := ib_f hF z
    refine J_iconst (v := 0) hX dX13_truncate_18 (by decide) (t := 19) rfl ?_
    obtain ⟨hF, hF2⟩ := Prod.mk.inj hF
    subst hF
    subst hF2
    exact J_iret hX hR hlk dX13_truncate_19
abbrev rmX13_here : Room := { frames := 0, cells := 0, slots := 0, locals := 0 }
theorem miX13_here : MI yX13_here cX13_here 2 (some .int) 1 := ⟨q_2378, q_152, by decide +kernel, by decide +kernel, by decide +kernel, by decide +kernel⟩
theorem mvX13_here : MV yX13_here := ⟨q_2377, q_77⟩
def FX13_here (w : Wd) (p1 : Int32) : Option (Int32) :=
  if (w 15).1 0 3 ≤ ((w 15).1 0 4) + p1 then
    some (-1)
  else
    gd (inb (((w 15).1 0 4) + p1) 600) <|
    some ((w 15).1 1 ((((w 15).1 0 4) + p1).toNatClampNeg))
set_option maxHeartbeats 4000000 in
set_option maxRecDepth 100000 in
theorem ctX13_here {G : GG} {l : Launch} (w : Wd) (p1 : Int32)  {rx : Int32} (hF : FX13_here w p1 = some rx) : CT G l yX13_here cX13_here 2 (some .int) rmX13_here 0 0 [.ref (adr G 15 0), .int p1] w (some (.int rx)) w := by
  refine CT.of miX13_here [(0, .ref (adr G 15 0)), (1, .int p1)] rfl (Nat.le_of_ble_eq_true rfl) ?_
  intro p e s m args below meth c hX hR hlk
  have hX : FX G RX13 cX13_here 2 p s m args c := hX
  unfold FX13_here at hF
  refine J_aload_n hX dX13_here_0 0 rfl (t := 1) rfl ?_
  refine J_get hX cb10 kModel 4 (by decide) q_1971 rfl dX13_here_1 (t := 4) rfl ?_
  refine J_iload_n hX dX13_here_4 1 rfl (t := 5) rfl ?_
  refine J_iadd hX dX13_here_5 (t := 6) rfl ?_
  refine J_aload_n hX dX13_here_6 0 rfl (t := 7) rfl ?_
  refine J_get hX cb10 kModel 3 (by decide) q_1970 rfl dX13_here_7 (t := 10) rfl ?_
  refine J_icmp_ge (tgt := 27) hX dX13_here_10 (by decide) (t := 13) rfl (fun z => ?_) (fun z => ?_)
  · replace hF := it_t hF z
    refine J_iconst (v := (-1)) hX dX13_here_27 (by decide) (t := 28) rfl ?_
    replace hF := Option.some.inj hF
    subst hF
    exact J_iret hX hR hlk dX13_here_28
  · replace hF := it_f hF z
    refine J_aload_n hX dX13_here_13 0 rfl (t := 14) rfl ?_
    refine J_get hX cb10 kModel 1 (by decide) q_1968 rfl dX13_here_14 (t := 17) rfl ?_
    refine J_aload_n hX dX13_here_17 0 rfl (t := 18) rfl ?_
    refine J_get hX cb10 kModel 4 (by decide) q_1971 rfl dX13_here_18 (t := 21) rfl ?_
    refine J_iload_n hX dX13_here_21 1 rfl (t := 22) rfl ?_
    refine J_iadd hX dX13_here_22 (t := 23) rfl ?_
    obtain ⟨g1, hF⟩ := gd_e hF
    refine J_iald hX (kInts (j := 1) (n := 600) (by decide) (by decide) rfl) g1 rfl dX13_here_23 (t := 24) rfl ?_
    refine J_goto (tgt := 28) hX dX13_here_24 (by decide) ?_
    replace hF := Option.some.inj hF
    subst hF
    exact J_iret hX hR hlk dX13_here_28
abbrev rmX13_isLetter : Room := { frames := 0, cells := 0, slots := 0, locals := 0 }
theorem miX13_isLetter : MI yX13_isLetter cX13_isLetter 1 (some .boolean) 1 := ⟨q_2130, q_152, by decide +kernel, by decide +kernel, by decide +kernel, by decide +kernel⟩
def FX13_isLetter (p0 : Int32) : Bool :=
  if p0 < 97 then
    false
  else
    if 122 < p0 then
      false
    else
      true
set_option maxHeartbeats 4000000 in
set_option maxRecDepth 100000 in
theorem ctX13_isLetter {G : GG} {l : Launch} {w : Wd} (p0 : Int32)  {rx : Bool} (hF : FX13_isLetter p0 = rx) : CT G l yX13_isLetter cX13_isLetter 1 (some .boolean) rmX13_isLetter 0 0 [.int p0] w (some (.int (bI rx))) w := by
  refine CT.of miX13_isLetter [(0, .int p0)] rfl (Nat.le_of_ble_eq_true rfl) ?_
  intro p e s m args below meth c hX hR hlk
  have hX : FX G RX13 cX13_isLetter 1 p s m args c := hX
  unfold FX13_isLetter at hF
  refine J_iload_n hX dX13_isLetter_0 0 rfl (t := 1) rfl ?_
  refine J_bipush (v := 97) hX dX13_isLetter_1 (by decide) (t := 3) rfl ?_
  refine J_icmp_lt (tgt := 16) hX dX13_isLetter_3 (by decide) (t := 6) rfl (fun z => ?_) (fun z => ?_)
  · replace hF := it_t hF z
    refine J_iconst (v := 0) hX dX13_isLetter_16 (by decide) (t := 17) rfl ?_
    subst hF
    exact J_zret (b := false) hX hR hlk dX13_isLetter_17
  · replace hF := it_f hF z
    refine J_iload_n hX dX13_isLetter_6 0 rfl (t := 7) rfl ?_
    refine J_bipush (v := 122) hX dX13_isLetter_7 (by decide) (t := 9) rfl ?_
    refine J_icmp_gt (tgt := 16) hX dX13_isLetter_9 (by decide) (t := 12) rfl (fun z => ?_) (fun z => ?_)
    · replace hF := it_t hF z
      refine J_iconst (v := 0) hX dX13_isLetter_16 (by decide) (t := 17) rfl ?_
      subst hF
      exact J_zret (b := false) hX hR hlk dX13_isLetter_17
    · replace hF := it_f hF z
      refine J_iconst (v := 1) hX dX13_isLetter_12 (by decide) (t := 13) rfl ?_
      refine J_goto (tgt := 17) hX dX13_isLetter_13 (by decide) ?_
      subst hF
      exact J_zret (b := true) hX hR hlk dX13_isLetter_17
abbrev rmX13_isDigit : Room := { frames := 0, cells := 0, slots := 0, locals := 0 }
theorem miX13_isDigit : MI yX13_isDigit cX13_isDigit 1 (some .boolean) 1 := ⟨q_2381, q_152, by decide +kernel, by decide +kernel, by decide +kernel, by decide +kernel⟩
def FX13_isDigit (p0 : Int32) : Bool :=
  if p0 < 48 then
    false
  else
    if 57 < p0 then
      false
    else
      true
set_option maxHeartbeats 4000000 in
set_option maxRecDepth 100000 in
theorem ctX13_isDigit {G : GG} {l : Launch} {w : Wd} (p0 : Int32)  {rx : Bool} (hF : FX13_isDigit p0 = rx) : CT G l yX13_isDigit cX13_isDigit 1 (some .boolean) rmX13_isDigit 0 0 [.int p0] w (some (.int (bI rx))) w := by
  refine CT.of miX13_isDigit [(0, .int p0)] rfl (Nat.le_of_ble_eq_true rfl) ?_
  intro p e s m args below meth c hX hR hlk
  have hX : FX G RX13 cX13_isDigit 1 p s m args c := hX
  unfold FX13_isDigit at hF
  refine J_iload_n hX dX13_isDigit_0 0 rfl (t := 1) rfl ?_
  refine J_bipush (v := 48) hX dX13_isDigit_1 (by decide) (t := 3) rfl ?_
  refine J_icmp_lt (tgt := 16) hX dX13_isDigit_3 (by decide) (t := 6) rfl (fun z => ?_) (fun z => ?_)
  · replace hF := it_t hF z
    refine J_iconst (v := 0) hX dX13_isDigit_16 (by decide) (t := 17) rfl ?_
    subst hF
    exact J_zret (b := false) hX hR hlk dX13_isDigit_17
  · replace hF := it_f hF z
    refine J_iload_n hX dX13_isDigit_6 0 rfl (t := 7) rfl ?_
    refine J_bipush (v := 57) hX dX13_isDigit_7 (by decide) (t := 9) rfl ?_
    refine J_icmp_gt (tgt := 16) hX dX13_isDigit_9 (by decide) (t := 12) rfl (fun z => ?_) (fun z => ?_)
    · replace hF := it_t hF z
      refine J_iconst (v := 0) hX dX13_isDigit_16 (by decide) (t := 17) rfl ?_
      subst hF
      exact J_zret (b := false) hX hR hlk dX13_isDigit_17
    · replace hF := it_f hF z
      refine J_iconst (v := 1) hX dX13_isDigit_12 (by decide) (t := 13) rfl ?_
      refine J_goto (tgt := 17) hX dX13_isDigit_13 (by decide) ?_
      subst hF
      exact J_zret (b := true) hX hR hlk dX13_isDigit_17
abbrev rmX13_goOnRead : Room := { frames := 1, cells := 0, slots := 0, locals := 21 }
theorem miX13_goOnRead : MI yX13_goOnRead cX13_goOnRead 3 none 0 := ⟨q_2374, q_152, by decide +kernel, by decide +kernel, by decide +kernel, by decide +kernel⟩
theorem mvX13_goOnRead : MV yX13_goOnRead := ⟨q_2373, q_76⟩
def FX13_goOnRead_B239 (n : Nat) (w : Wd) (l2 : Int32) : Option (Wd) :=
  bnd (sW w 15 (sI (w 15) 0 4 (((w 15).1 0 4) + l2))) fun w28 =>
  some w28
set_option maxHeartbeats 4000000 in
set_option maxRecDepth 100000 in
theorem BX13_goOnRead_239 {G : GG} {l : Launch} {p : Program} {e : Env} {s : State} {m : MethodId} {args : Array Value} {below : List Frame} {meth : Method} {c : Code} (hX : FX G RX13 cX13_goOnRead 3 p s m args c) (hR : meth.sig.returnType = none) (hlk : meth.locks = false) {rw : Wd} (n : Nat) (w : Wd) (l2 : Int32)  (hF : FX13_goOnRead_B239 n w l2 = some rw) : J G p l e rmX13_goOnRead s m args below meth c 3 0 0 (MQ below (QV G (none) rw) args s 0 0 (gA G)) (GH G w) 239 [(0, .ref (adr G 15 0)), (2, .int l2)] [] := by
  unfold FX13_goOnRead_B239 at hF
  refine J_aload_n hX dX13_goOnRead_239 0 rfl (t := 240) rfl ?_
  refine J_dup hX dX13_goOnRead_240 rfl (t := 241) rfl ?_
  refine J_get hX cb10 kModel 4 (by decide) q_1971 rfl dX13_goOnRead_241 (t := 244) rfl ?_
  refine J_iload_n hX dX13_goOnRead_244 1 rfl (t := 245) rfl ?_
  refine J_iadd hX dX13_goOnRead_245 (t := 246) rfl ?_
  obtain ⟨w28, e29, hF⟩ := bnd_e hF
  refine J_puti hX cb10 kModel 4 (by decide) q_1971 rfl rfl e29 (fun _ _ => Nat.le_of_ble_eq_true rfl) (fun _ _ => rfl) dX13_goOnRead_246 (t := 249) rfl ?_
  replace hF := Option.some.inj hF
  subst hF
  exact J_vret hX hR hlk dX13_goOnRead_249
def FX13_goOnRead_B229 (n : Nat) (w : Wd) (l1 : Int32) (y0 : Int32) : Option (Wd) :=
  bnd (sW w 15 (sI (w 15) 0 6 y0)) fun w24 =>
  bnd (sW w24 15 (sI (w24 15) 0 7 l1)) fun w26 =>
  FX13_goOnRead_B239 n w26 1
set_option maxHeartbeats 4000000 in
set_option maxRecDepth 100000 in
theorem BX13_goOnRead_229 {G : GG} {l : Launch} {p : Program} {e : Env} {s : State} {m : MethodId} {args : Array Value} {below : List Frame} {meth : Method} {c : Code} (hX : FX G RX13 cX13_goOnRead 3 p s m args c) (hR : meth.sig.returnType = none) (hlk : meth.locks = false) {rw : Wd} (n : Nat) (w : Wd) (l1 : Int32) (y0 : Int32)  (hF : FX13_goOnRead_B229 n w l1 y0 = some rw) : J G p l e rmX13_goOnRead s m args below meth c 3 0 0 (MQ below (QV G (none) rw) args s 0 0 (gA G)) (GH G w) 229 [(0, .ref (adr G 15 0)), (1, .int l1)] [.int y0, .ref (adr G 15 0)] := by
  unfold FX13_goOnRead_B229 at hF
  obtain ⟨w24, e25, hF⟩ := bnd_e hF
  refine J_puti hX cb10 kModel 6 (by decide) q_1973 rfl rfl e25 (fun _ _ => Nat.le_of_ble_eq_true rfl) (fun _ _ => rfl) dX13_goOnRead_229 (t := 232) rfl ?_
  refine J_aload_n hX dX13_goOnRead_232 0 rfl (t := 233) rfl ?_
  refine J_iload_n hX dX13_goOnRead_233 1 rfl (t := 234) rfl ?_
  obtain ⟨w26, e27, hF⟩ := bnd_e hF
  refine J_puti hX cb10 kModel 7 (by decide) q_1974 rfl rfl e27 (fun _ _ => Nat.le_of_ble_eq_true rfl) (fun _ _ => rfl) dX13_goOnRead_234 (t := 237) rfl ?_
  refine J_iconst (v := 1) hX dX13_goOnRead_237 (by decide) (t := 238) rfl ?_
  refine J_istore_n (lc2 := [(2, .int 1), (0, .ref (adr G 15 0)), (1, .int l1)]) hX dX13_goOnRead_238 rfl (Nat.le_of_ble_eq_true rfl) rfl (t := 239) rfl ?_
  refine J_sub (lc2 := [(0, .ref (adr G 15 0)), (2, .int 1)]) [1, 0] rfl ?_
  exact BX13_goOnRead_239 hX hR hlk n w26 1 hF
def FX13_goOnRead_B224 (n : Nat) (w : Wd) (l1 : Int32) : Option (Wd) :=
  FX13_goOnRead_B229 n w l1 3
set_option maxHeartbeats 4000000 in
set_option maxRecDepth 100000 in
theorem BX13_goOnRead_224 {G : GG} {l : Launch} {p : Program} {e : Env} {s : State} {m : MethodId} {args : Array Value} {below : List Frame} {meth : Method} {c : Code} (hX : FX G RX13 cX13_goOnRead 3 p s m args c) (hR : meth.sig.returnType = none) (hlk : meth.locks = false) {rw : Wd} (n : Nat) (w : Wd) (l1 : Int32)  (hF : FX13_goOnRead_B224 n w l1 = some rw) : J G p l e rmX13_goOnRead s m args below meth c 3 0 0 (MQ below (QV G (none) rw) args s 0 0 (gA G)) (GH G w) 224 [(0, .ref (adr G 15 0)), (1, .int l1)] [.ref (adr G 15 0)] := by
  unfold FX13_goOnRead_B224 at hF
  refine J_iconst (v := 3) hX dX13_goOnRead_224 (by decide) (t := 225) rfl ?_
  refine J_goto (tgt := 229) hX dX13_goOnRead_225 (by decide) ?_
  refine J_sub (lc2 := [(0, .ref (adr G 15 0)), (1, .int l1)]) [0, 1] rfl ?_
  exact BX13_goOnRead_229 hX hR hlk n w l1 3 hF
def FX13_goOnRead_B199 (n : Nat) (w : Wd) (l2 : Int32) (y0 : Int32) : Option (Wd) :=
  bnd (sW w 15 (sI (w 15) 0 6 y0)) fun w36 =>
  FX13_goOnRead_B239 n w36 l2
set_option maxHeartbeats 4000000 in
set_option maxRecDepth 100000 in
theorem BX13_goOnRead_199 {G : GG} {l : Launch} {p : Program} {e : Env} {s : State} {m : MethodId} {args : Array Value} {below : List Frame} {meth : Method} {c : Code} (hX : FX G RX13 cX13_goOnRead 3 p s m args c) (hR : meth.sig.returnType = none) (hlk : meth.locks = false) {rw : Wd} (n : Nat) (w : Wd) (l2 : Int32) (y0 : Int32)  (hF : FX13_goOnRead_B199 n w l2 y0 = some rw) : J G p l e rmX13_goOnRead s m args below meth c 3 0 0 (MQ below (QV G (none) rw) args s 0 0 (gA G)) (GH G w) 199 [(0, .ref (adr G 15 0)), (2, .int l2)] [.int y0, .ref (adr G 15 0)] := by
  unfold FX13_goOnRead_B199 at hF
  obtain ⟨w36, e37, hF⟩ := bnd_e hF
  refine J_puti hX cb10 kModel 6 (by decide) q_1973 rfl rfl e37 (fun _ _ => Nat.le_of_ble_eq_true rfl) (fun _ _ => rfl) dX13_goOnRead_199 (t := 202) rfl ?_
  refine J_goto (tgt := 239) hX dX13_goOnRead_202 (by decide) ?_
  refine J_sub (lc2 := [(0, .ref (adr G 15 0)), (2, .int l2)]) [0, 1] rfl ?_
  exact BX13_goOnRead_239 hX hR hlk n w36 l2 hF
def FX13_goOnRead_L146 (n : Nat) : Nat → Wd → Int32 → Int32 → Option (Wd)
  | 0 => fun _ _ _ => none
  | k + 1 => fun w l1 l2 =>
    bo1 (FX13_here w l2) fun x31 =>
    bnd (FX13_isDigit x31) fun x34 =>
    if x34 = true then
      if 4 ≤ l2 then
        FX13_goOnRead_L146 n k w l1 (l2 + 1)
      else
        bo1 (FX13_here w l2) fun x39 =>
        bnd (sW w 15 (sI (w 15) 0 7 (((10 * ((w 15).1 0 7)) + x39) - 48))) fun w41 =>
        FX13_goOnRead_L146 n k w41 l1 (l2 + 1)
    else
      if l2 ≤ 4 then
        FX13_goOnRead_B199 n w l2 2
      else
        FX13_goOnRead_B199 n w l2 4
set_option maxHeartbeats 4000000 in
set_option maxRecDepth 100000 in
theorem LX13_goOnRead_146 {G : GG} {l : Launch} {p : Program} {e : Env} {s : State} {m : MethodId} {args : Array Value} {below : List Frame} {meth : Method} {c : Code} (hX : FX G RX13 cX13_goOnRead 3 p s m args c) (hR : meth.sig.returnType = none) (hlk : meth.locks = false) {rw : Wd} (n : Nat) : ∀ (k : Nat) (w : Wd) (l1 : Int32) (l2 : Int32) , FX13_goOnRead_L146 n k w l1 l2 = some rw → J G p l e rmX13_goOnRead s m args below meth c 3 0 0 (MQ below (QV G (none) rw) args s 0 0 (gA G)) (GH G w) 146 [(0, .ref (adr G 15 0)), (1, .int l1), (2, .int l2)] [] := by
  intro k
  induction k with
  | zero => intro w l1 l2  hF; cases hF
  | succ k ih =>
    intro w l1 l2  hF
    simp only [FX13_goOnRead_L146] at hF
    refine J_aload_n hX dX13_goOnRead_146 0 rfl (t := 147) rfl ?_
    refine J_iload_n hX dX13_goOnRead_147 2 rfl (t := 148) rfl ?_
    obtain ⟨x31, h30, hF⟩ := bo1_e hF
    have k32 := (ctX13_here (G := G) (l := l) w l2 h30)
    refine J_callV hX [.int l2] [] [.int x31] k32 miX13_here mvX13_here cb10 kModel q_2375 ⟨rfl, rfl, Nat.le_of_ble_eq_true rfl, Nat.le_of_ble_eq_true rfl⟩ rfl rfl (Nat.le_of_ble_eq_true rfl) ⟨Nat.le_of_ble_eq_true rfl, Nat.le_of_ble_eq_true rfl⟩ dX13_goOnRead_148 (t := 151) rfl rfl ?_
    obtain ⟨x34, h33, hF⟩ := bnd_e hF
    have k35 := (ctX13_isDigit (l := l) (G := G) (w := w) x31 h33)
    refine J_callS hX [.int x31] [] [.int (bI x34)] k35 miX13_isDigit q_2380 q_2379 ⟨rfl, rfl, Nat.le_of_ble_eq_true rfl, Nat.le_of_ble_eq_true rfl⟩ rfl rfl (Nat.le_of_ble_eq_true rfl) ⟨Nat.le_of_ble_eq_true rfl, Nat.le_of_ble_eq_true rfl⟩ dX13_goOnRead_151 (t := 154) rfl rfl ?_
    refine J_ifZ_eq (tgt := 188) hX dX13_goOnRead_154 (by decide) (t := 157) rfl (fun z => ?_) (fun z => ?_)
    · replace hF := ib_f hF z
      refine J_aload_n hX dX13_goOnRead_188 0 rfl (t := 189) rfl ?_
      refine J_iload_n hX dX13_goOnRead_189 2 rfl (t := 190) rfl ?_
      refine J_iconst (v := 4) hX dX13_goOnRead_190 (by decide) (t := 191) rfl ?_
      refine J_icmp_le (tgt := 198) hX dX13_goOnRead_191 (by decide) (t := 194) rfl (fun z => ?_) (fun z => ?_)
      · replace hF := it_t hF z
        refine J_iconst (v := 2) hX dX13_goOnRead_198 (by decide) (t := 199) rfl ?_
        refine J_sub (lc2 := [(0, .ref (adr G 15 0)), (2, .int l2)]) [0, 2] rfl ?_
        exact BX13_goOnRead_199 hX hR hlk n w l2 2 hF
      · replace hF := it_f hF z
        refine J_iconst (v := 4) hX dX13_goOnRead_194 (by decide) (t := 195) rfl ?_
        refine J_goto (tgt := 199) hX dX13_goOnRead_195 (by decide) ?_
        refine J_sub (lc2 := [(0, .ref (adr G 15 0)), (2, .int l2)]) [0, 2] rfl ?_
        exact BX13_goOnRead_199 hX hR hlk n w l2 4 hF
    · replace hF := it_t hF z
      refine J_iload_n hX dX13_goOnRead_157 2 rfl (t := 158) rfl ?_
      refine J_iconst (v := 4) hX dX13_goOnRead_158 (by decide) (t := 159) rfl ?_
      refine J_icmp_ge (tgt := 182) hX dX13_goOnRead_159 (by decide) (t := 162) rfl (fun z => ?_) (fun z => ?_)
      · replace hF := it_t hF z
        refine J_iinc (v := l2 + 1) (lc2 := [(2, .int (l2 + 1)), (0, .ref (adr G 15 0)), (1, .int l1)]) hX dX13_goOnRead_182 2 rfl rfl (Nat.le_of_ble_eq_true rfl) rfl (t := 185) rfl ?_
        refine J_goto (tgt := 146) hX dX13_goOnRead_185 (by decide) ?_
        refine J_sub (lc2 := [(0, .ref (adr G 15 0)), (1, .int l1), (2, .int (l2 + 1))]) [1, 2, 0] rfl ?_
        exact ih w l1 (l2 + 1) hF
      · replace hF := it_f hF z
        refine J_aload_n hX dX13_goOnRead_162 0 rfl (t := 163) rfl ?_
        refine J_bipush (v := 10) hX dX13_goOnRead_163 (by decide) (t := 165) rfl ?_
        refine J_aload_n hX dX13_goOnRead_165 0 rfl (t := 166) rfl ?_
        refine J_get hX cb10 kModel 7 (by decide) q_1974 rfl dX13_goOnRead_166 (t := 169) rfl ?_
        refine J_imul hX dX13_goOnRead_169 (t := 170) rfl ?_
        refine J_aload_n hX dX13_goOnRead_170 0 rfl (t := 171) rfl ?_
        refine J_iload_n hX dX13_goOnRead_171 2 rfl (t := 172) rfl ?_
        obtain ⟨x39, h38, hF⟩ := bo1_e hF
        have k40 := (ctX13_here (G := G) (l := l) w l2 h38)
        refine J_callV hX [.int l2] [.int (10 * ((w 15).1 0 7)), .ref (adr G 15 0)] [.int x39, .int (10 * ((w 15).1 0 7)), .ref (adr G 15 0)] k40 miX13_here mvX13_here cb10 kModel q_2375 ⟨rfl, rfl, Nat.le_of_ble_eq_true rfl, Nat.le_of_ble_eq_true rfl⟩ rfl rfl (Nat.le_of_ble_eq_true rfl) ⟨Nat.le_of_ble_eq_true rfl, Nat.le_of_ble_eq_true rfl⟩ dX13_goOnRead_172 (t := 175) rfl rfl ?_
        refine J_iadd hX dX13_goOnRead_175 (t := 176) rfl ?_
        refine J_bipush (v := 48) hX dX13_goOnRead_176 (by decide) (t := 178) rfl ?_
        refine J_isub hX dX13_goOnRead_178 (t := 179) rfl ?_
        obtain ⟨w41, e42, hF⟩ := bnd_e hF
        refine J_puti hX cb10 kModel 7 (by decide) q_1974 rfl rfl e42 (fun _ _ => Nat.le_of_ble_eq_true rfl) (fun _ _ => rfl) dX13_goOnRead_179 (t := 182) rfl ?_
        refine J_iinc (v := l2 + 1) (lc2 := [(2, .int (l2 + 1)), (0, .ref (adr G 15 0)), (1, .int l1)]) hX dX13_goOnRead_182 2 rfl rfl (Nat.le_of_ble_eq_true rfl) rfl (t := 185) rfl ?_
        refine J_goto (tgt := 146) hX dX13_goOnRead_185 (by decide) ?_
        refine J_sub (lc2 := [(0, .ref (adr G 15 0)), (1, .int l1), (2, .int (l2 + 1))]) [1, 2, 0] rfl ?_
        exact ih w41 l1 (l2 + 1) hF
def FX13_goOnRead_B133 (n : Nat) (w : Wd) (l2 : Int32) (y0 : Int32) : Option (Wd) :=
  bnd (sW w 15 (sI (w 15) 0 6 y0)) fun w49 =>
  FX13_goOnRead_B239 n w49 l2
set_option maxHeartbeats 4000000 in
set_option maxRecDepth 100000 in
theorem BX13_goOnRead_133 {G : GG} {l : Launch} {p : Program} {e : Env} {s : State} {m : MethodId} {args : Array Value} {below : List Frame} {meth : Method} {c : Code} (hX : FX G RX13 cX13_goOnRead 3 p s m args c) (hR : meth.sig.returnType = none) (hlk : meth.locks = false) {rw : Wd} (n : Nat) (w : Wd) (l2 : Int32) (y0 : Int32)  (hF : FX13_goOnRead_B133 n w l2 y0 = some rw) : J G p l e rmX13_goOnRead s m args below meth c 3 0 0 (MQ below (QV G (none) rw) args s 0 0 (gA G)) (GH G w) 133 [(0, .ref (adr G 15 0)), (2, .int l2)] [.int y0, .ref (adr G 15 0)] := by
  unfold FX13_goOnRead_B133 at hF
  obtain ⟨w49, e50, hF⟩ := bnd_e hF
  refine J_puti hX cb10 kModel 6 (by decide) q_1973 rfl rfl e50 (fun _ _ => Nat.le_of_ble_eq_true rfl) (fun _ _ => rfl) dX13_goOnRead_133 (t := 136) rfl ?_
  refine J_goto (tgt := 239) hX dX13_goOnRead_136 (by decide) ?_
  refine J_sub (lc2 := [(0, .ref (adr G 15 0)), (2, .int l2)]) [0, 1] rfl ?_
  exact BX13_goOnRead_239 hX hR hlk n w49 l2 hF
def FX13_goOnRead_L76 (n : Nat) : Nat → Wd → Int32 → Int32 → Option (Wd)
  | 0 => fun _ _ _ => none
  | k + 1 => fun w l1 l2 =>
    bo1 (FX13_here w l2) fun x44 =>
    bnd (FX13_isLetter x44) fun x47 =>
    if x47 = true then
      if 8 ≤ l2 then
        FX13_goOnRead_L76 n k w l1 (l2 + 1)
      else
        bo1 (FX13_here w l2) fun x52 =>
        bnd (sW w 15 (sL (w 15) 0 12 ((((w 15).2 0 12) <<< ((5 : Int32).toInt64 &&& 63)) ||| (((x52 - 97) + 1).toInt64)))) fun w54 =>
        FX13_goOnRead_L76 n k w54 l1 (l2 + 1)
    else
      if l2 ≤ 8 then
        FX13_goOnRead_B133 n w l2 1
      else
        FX13_goOnRead_B133 n w l2 4
set_option maxHeartbeats 4000000 in
set_option maxRecDepth 100000 in
theorem LX13_goOnRead_76 {G : GG} {l : Launch} {p : Program} {e : Env} {s : State} {m : MethodId} {args : Array Value} {below : List Frame} {meth : Method} {c : Code} (hX : FX G RX13 cX13_goOnRead 3 p s m args c) (hR : meth.sig.returnType = none) (hlk : meth.locks = false) {rw : Wd} (n : Nat) : ∀ (k : Nat) (w : Wd) (l1 : Int32) (l2 : Int32) , FX13_goOnRead_L76 n k w l1 l2 = some rw → J G p l e rmX13_goOnRead s m args below meth c 3 0 0 (MQ below (QV G (none) rw) args s 0 0 (gA G)) (GH G w) 76 [(0, .ref (adr G 15 0)), (1, .int l1), (2, .int l2)] [] := by
  intro k
  induction k with
  | zero => intro w l1 l2  hF; cases hF
  | succ k ih =>
    intro w l1 l2  hF
    simp only [FX13_goOnRead_L76] at hF
    refine J_aload_n hX dX13_goOnRead_76 0 rfl (t := 77) rfl ?_
    refine J_iload_n hX dX13_goOnRead_77 2 rfl (t := 78) rfl ?_
    obtain ⟨x44, h43, hF⟩ := bo1_e hF
    have k45 := (ctX13_here (G := G) (l := l) w l2 h43)
    refine J_callV hX [.int l2] [] [.int x44] k45 miX13_here mvX13_here cb10 kModel q_2375 ⟨rfl, rfl, Nat.le_of_ble_eq_true rfl, Nat.le_of_ble_eq_true rfl⟩ rfl rfl (Nat.le_of_ble_eq_true rfl) ⟨Nat.le_of_ble_eq_true rfl, Nat.le_of_ble_eq_true rfl⟩ dX13_goOnRead_78 (t := 81) rfl rfl ?_
    obtain ⟨x47, h46, hF⟩ := bnd_e hF
    have k48 := (ctX13_isLetter (l := l) (G := G) (w := w) x44 h46)
    refine J_callS hX [.int x44] [] [.int (bI x47)] k48 miX13_isLetter q_2129 q_2128 ⟨rfl, rfl, Nat.le_of_ble_eq_true rfl, Nat.le_of_ble_eq_true rfl⟩ rfl rfl (Nat.le_of_ble_eq_true rfl) ⟨Nat.le_of_ble_eq_true rfl, Nat.le_of_ble_eq_true rfl⟩ dX13_goOnRead_81 (t := 84) rfl rfl ?_
    refine J_ifZ_eq (tgt := 121) hX dX13_goOnRead_84 (by decide) (t := 87) rfl (fun z => ?_) (fun z => ?_)
    · replace hF := ib_f hF z
      refine J_aload_n hX dX13_goOnRead_121 0 rfl (t := 122) rfl ?_
      refine J_iload_n hX dX13_goOnRead_122 2 rfl (t := 123) rfl ?_
      refine J_bipush (v := 8) hX dX13_goOnRead_123 (by decide) (t := 125) rfl ?_
      refine J_icmp_le (tgt := 132) hX dX13_goOnRead_125 (by decide) (t := 128) rfl (fun z => ?_) (fun z => ?_)
      · replace hF := it_t hF z
        refine J_iconst (v := 1) hX dX13_goOnRead_132 (by decide) (t := 133) rfl ?_
        refine J_sub (lc2 := [(0, .ref (adr G 15 0)), (2, .int l2)]) [0, 2] rfl ?_
        exact BX13_goOnRead_133 hX hR hlk n w l2 1 hF
      · replace hF := it_f hF z
        refine J_iconst (v := 4) hX dX13_goOnRead_128 (by decide) (t := 129) rfl ?_
        refine J_goto (tgt := 133) hX dX13_goOnRead_129 (by decide) ?_
        refine J_sub (lc2 := [(0, .ref (adr G 15 0)), (2, .int l2)]) [0, 2] rfl ?_
        exact BX13_goOnRead_133 hX hR hlk n w l2 4 hF
    · replace hF := it_t hF z
      refine J_iload_n hX dX13_goOnRead_87 2 rfl (t := 88) rfl ?_
      refine J_bipush (v := 8) hX dX13_goOnRead_88 (by decide) (t := 90) rfl ?_
      refine J_icmp_ge (tgt := 115) hX dX13_goOnRead_90 (by decide) (t := 93) rfl (fun z => ?_) (fun z => ?_)
      · replace hF := it_t hF z
        refine J_iinc (v := l2 + 1) (lc2 := [(2, .int (l2 + 1)), (0, .ref (adr G 15 0)), (1, .int l1)]) hX dX13_goOnRead_115 2 rfl rfl (Nat.le_of_ble_eq_true rfl) rfl (t := 118) rfl ?_
        refine J_goto (tgt := 76) hX dX13_goOnRead_118 (by decide) ?_
        refine J_sub (lc2 := [(0, .ref (adr G 15 0)), (1, .int l1), (2, .int (l2 + 1))]) [1, 2, 0] rfl ?_
        exact ih w l1 (l2 + 1) hF
      · replace hF := it_f hF z
        refine J_aload_n hX dX13_goOnRead_93 0 rfl (t := 94) rfl ?_
        refine J_aload_n hX dX13_goOnRead_94 0 rfl (t := 95) rfl ?_
        refine J_get hX cb10 kModel 12 (by decide) q_1979 rfl dX13_goOnRead_95 (t := 98) rfl ?_
        refine J_iconst (v := 5) hX dX13_goOnRead_98 (by decide) (t := 99) rfl ?_
        refine J_lshl hX dX13_goOnRead_99 (t := 100) rfl ?_
        refine J_aload_n hX dX13_goOnRead_100 0 rfl (t := 101) rfl ?_
        refine J_iload_n hX dX13_goOnRead_101 2 rfl (t := 102) rfl ?_
        obtain ⟨x52, h51, hF⟩ := bo1_e hF
        have k53 := (ctX13_here (G := G) (l := l) w l2 h51)
        refine J_callV hX [.int l2] [.long (((w 15).2 0 12) <<< ((5 : Int32).toInt64 &&& 63)), .ref (adr G 15 0)] [.int x52, .long (((w 15).2 0 12) <<< ((5 : Int32).toInt64 &&& 63)), .ref (adr G 15 0)] k53 miX13_here mvX13_here cb10 kModel q_2375 ⟨rfl, rfl, Nat.le_of_ble_eq_true rfl, Nat.le_of_ble_eq_true rfl⟩ rfl rfl (Nat.le_of_ble_eq_true rfl) ⟨Nat.le_of_ble_eq_true rfl, Nat.le_of_ble_eq_true rfl⟩ dX13_goOnRead_102 (t := 105) rfl rfl ?_
        refine J_bipush (v := 97) hX dX13_goOnRead_105 (by decide) (t := 107) rfl ?_
        refine J_isub hX dX13_goOnRead_107 (t := 108) rfl ?_
        refine J_iconst (v := 1) hX dX13_goOnRead_108 (by decide) (t := 109) rfl ?_
        refine J_iadd hX dX13_goOnRead_109 (t := 110) rfl ?_
        refine J_i2l hX dX13_goOnRead_110 (t := 111) rfl ?_
        refine J_lor hX dX13_goOnRead_111 (t := 112) rfl ?_
        obtain ⟨w54, e55, hF⟩ := bnd_e hF
        refine J_putl hX cb10 kModel 12 (by decide) q_1979 rfl rfl e55 (fun _ _ => Nat.le_of_ble_eq_true rfl) (fun _ _ => rfl) dX13_goOnRead_112 (t := 115) rfl ?_
        refine J_iinc (v := l2 + 1) (lc2 := [(2, .int (l2 + 1)), (0, .ref (adr G 15 0)), (1, .int l1)]) hX dX13_goOnRead_115 2 rfl rfl (Nat.le_of_ble_eq_true rfl) rfl (t := 118) rfl ?_
        refine J_goto (tgt := 76) hX dX13_goOnRead_118 (by decide) ?_
        refine J_sub (lc2 := [(0, .ref (adr G 15 0)), (1, .int l1), (2, .int (l2 + 1))]) [1, 2, 0] rfl ?_
        exact ih w54 l1 (l2 + 1) hF
def FX13_goOnRead_L0 (n : Nat) : Nat → Wd → Option (Wd)
  | 0 => fun _ => none
  | k + 1 => fun w  =>
    bo1 (FX13_here w 0) fun x2 =>
    if x2 = 32 then
      bnd (sW w 15 (sI (w 15) 0 4 (((w 15).1 0 4) + 1))) fun w4 =>
      FX13_goOnRead_L0 n k w4 
    else
      bo1 (FX13_here w 0) fun x7 =>
      if x7 = 10 then
        bnd (sW w 15 (sI (w 15) 0 4 (((w 15).1 0 4) + 1))) fun w58 =>
        FX13_goOnRead_L0 n k w58 
      else
        bnd (sW w 15 (sI (w 15) 0 5 ((w 15).1 0 4))) fun w9 =>
        bnd (sW w9 15 (sL (w9 15) 0 12 0)) fun w11 =>
        bnd (sW w11 15 (sI (w11 15) 0 7 0)) fun w13 =>
        bo1 (FX13_here w13 0) fun x16 =>
        if 0 ≤ x16 then
          bnd (FX13_isLetter x16) fun x19 =>
          if x19 = true then
            FX13_goOnRead_L76 n n w13 x16 0
          else
            bnd (FX13_isDigit x16) fun x22 =>
            if x22 = true then
              FX13_goOnRead_L146 n n w13 x16 0
            else
              if x16 = 59 then
                FX13_goOnRead_B224 n w13 x16
              else
                if x16 = 40 then
                  FX13_goOnRead_B224 n w13 x16
                else
                  if x16 = 41 then
                    FX13_goOnRead_B224 n w13 x16
                  else
                    FX13_goOnRead_B229 n w13 x16 4
        else
          bnd (sW w13 15 (sI (w13 15) 0 6 0)) fun w56 =>
          some w56
set_option maxHeartbeats 4000000 in
set_option maxRecDepth 100000 in
theorem LX13_goOnRead_0 {G : GG} {l : Launch} {p : Program} {e : Env} {s : State} {m : MethodId} {args : Array Value} {below : List Frame} {meth : Method} {c : Code} (hX : FX G RX13 cX13_goOnRead 3 p s m args c) (hR : meth.sig.returnType = none) (hlk : meth.locks = false) {rw : Wd} (n : Nat) : ∀ (k : Nat) (w : Wd)  , FX13_goOnRead_L0 n k w  = some rw → J G p l e rmX13_goOnRead s m args below meth c 3 0 0 (MQ below (QV G (none) rw) args s 0 0 (gA G)) (GH G w) 0 [(0, .ref (adr G 15 0))] [] := by
  intro k
  induction k with
  | zero => intro w   hF; cases hF
  | succ k ih =>
    intro w   hF
    simp only [FX13_goOnRead_L0] at hF
    refine J_aload_n hX dX13_goOnRead_0 0 rfl (t := 1) rfl ?_
    refine J_iconst (v := 0) hX dX13_goOnRead_1 (by decide) (t := 2) rfl ?_
    obtain ⟨x2, h1, hF⟩ := bo1_e hF
    have k3 := (ctX13_here (G := G) (l := l) w 0 h1)
    refine J_callV hX [.int 0] [] [.int x2] k3 miX13_here mvX13_here cb10 kModel q_2375 ⟨rfl, rfl, Nat.le_of_ble_eq_true rfl, Nat.le_of_ble_eq_true rfl⟩ rfl rfl (Nat.le_of_ble_eq_true rfl) ⟨Nat.le_of_ble_eq_true rfl, Nat.le_of_ble_eq_true rfl⟩ dX13_goOnRead_2 (t := 5) rfl rfl ?_
    refine J_bipush (v := 32) hX dX13_goOnRead_5 (by decide) (t := 7) rfl ?_
    refine J_icmp_eq (tgt := 20) hX dX13_goOnRead_7 (by decide) (t := 10) rfl (fun z => ?_) (fun z => ?_)
    · replace hF := it_t hF z
      refine J_aload_n hX dX13_goOnRead_20 0 rfl (t := 21) rfl ?_
      refine J_dup hX dX13_goOnRead_21 rfl (t := 22) rfl ?_
      refine J_get hX cb10 kModel 4 (by decide) q_1971 rfl dX13_goOnRead_22 (t := 25) rfl ?_
      refine J_iconst (v := 1) hX dX13_goOnRead_25 (by decide) (t := 26) rfl ?_
      refine J_iadd hX dX13_goOnRead_26 (t := 27) rfl ?_
      obtain ⟨w4, e5, hF⟩ := bnd_e hF
      refine J_puti hX cb10 kModel 4 (by decide) q_1971 rfl rfl e5 (fun _ _ => Nat.le_of_ble_eq_true rfl) (fun _ _ => rfl) dX13_goOnRead_27 (t := 30) rfl ?_
      refine J_goto (tgt := 0) hX dX13_goOnRead_30 (by decide) ?_
      refine J_sub (lc2 := [(0, .ref (adr G 15 0))]) [0] rfl ?_
      exact ih w4  hF
    · replace hF := it_f hF z
      refine J_aload_n hX dX13_goOnRead_10 0 rfl (t := 11) rfl ?_
      refine J_iconst (v := 0) hX dX13_goOnRead_11 (by decide) (t := 12) rfl ?_
      obtain ⟨x7, h6, hF⟩ := bo1_e hF
      have k8 := (ctX13_here (G := G) (l := l) w 0 h6)
      refine J_callV hX [.int 0] [] [.int x7] k8 miX13_here mvX13_here cb10 kModel q_2375 ⟨rfl, rfl, Nat.le_of_ble_eq_true rfl, Nat.le_of_ble_eq_true rfl⟩ rfl rfl (Nat.le_of_ble_eq_true rfl) ⟨Nat.le_of_ble_eq_true rfl, Nat.le_of_ble_eq_true rfl⟩ dX13_goOnRead_12 (t := 15) rfl rfl ?_
      refine J_bipush (v := 10) hX dX13_goOnRead_15 (by decide) (t := 17) rfl ?_
      refine J_icmp_ne (tgt := 33) hX dX13_goOnRead_17 (by decide) (t := 20) rfl (fun z => ?_) (fun z => ?_)
      · replace hF := it_f hF z
        refine J_aload_n hX dX13_goOnRead_33 0 rfl (t := 34) rfl ?_
        refine J_aload_n hX dX13_goOnRead_34 0 rfl (t := 35) rfl ?_
        refine J_get hX cb10 kModel 4 (by decide) q_1971 rfl dX13_goOnRead_35 (t := 38) rfl ?_
        obtain ⟨w9, e10, hF⟩ := bnd_e hF
        refine J_puti hX cb10 kModel 5 (by decide) q_1972 rfl rfl e10 (fun _ _ => Nat.le_of_ble_eq_true rfl) (fun _ _ => rfl) dX13_goOnRead_38 (t := 41) rfl ?_
        refine J_aload_n hX dX13_goOnRead_41 0 rfl (t := 42) rfl ?_
        refine J_lconst (v := 0) hX dX13_goOnRead_42 (by decide) (t := 43) rfl ?_
        obtain ⟨w11, e12, hF⟩ := bnd_e hF
        refine J_putl hX cb10 kModel 12 (by decide) q_1979 rfl rfl e12 (fun _ _ => Nat.le_of_ble_eq_true rfl) (fun _ _ => rfl) dX13_goOnRead_43 (t := 46) rfl ?_
        refine J_aload_n hX dX13_goOnRead_46 0 rfl (t := 47) rfl ?_
        refine J_iconst (v := 0) hX dX13_goOnRead_47 (by decide) (t := 48) rfl ?_
        obtain ⟨w13, e14, hF⟩ := bnd_e hF
        refine J_puti hX cb10 kModel 7 (by decide) q_1974 rfl rfl e14 (fun _ _ => Nat.le_of_ble_eq_true rfl) (fun _ _ => rfl) dX13_goOnRead_48 (t := 51) rfl ?_
        refine J_aload_n hX dX13_goOnRead_51 0 rfl (t := 52) rfl ?_
        refine J_iconst (v := 0) hX dX13_goOnRead_52 (by decide) (t := 53) rfl ?_
        obtain ⟨x16, h15, hF⟩ := bo1_e hF
        have k17 := (ctX13_here (G := G) (l := l) w13 0 h15)
        refine J_callV hX [.int 0] [] [.int x16] k17 miX13_here mvX13_here cb10 kModel q_2375 ⟨rfl, rfl, Nat.le_of_ble_eq_true rfl, Nat.le_of_ble_eq_true rfl⟩ rfl rfl (Nat.le_of_ble_eq_true rfl) ⟨Nat.le_of_ble_eq_true rfl, Nat.le_of_ble_eq_true rfl⟩ dX13_goOnRead_53 (t := 56) rfl rfl ?_
        refine J_istore_n (lc2 := [(1, .int x16), (0, .ref (adr G 15 0))]) hX dX13_goOnRead_56 rfl (Nat.le_of_ble_eq_true rfl) rfl (t := 57) rfl ?_
        refine J_iconst (v := 0) hX dX13_goOnRead_57 (by decide) (t := 58) rfl ?_
        refine J_istore_n (lc2 := [(2, .int 0), (1, .int x16), (0, .ref (adr G 15 0))]) hX dX13_goOnRead_58 rfl (Nat.le_of_ble_eq_true rfl) rfl (t := 59) rfl ?_
        refine J_iload_n hX dX13_goOnRead_59 1 rfl (t := 60) rfl ?_
        refine J_if_ge (tgt := 69) hX dX13_goOnRead_60 (by decide) (t := 63) rfl (fun z => ?_) (fun z => ?_)
        · replace hF := it_t hF z
          refine J_iload_n hX dX13_goOnRead_69 1 rfl (t := 70) rfl ?_
          obtain ⟨x19, h18, hF⟩ := bnd_e hF
          have k20 := (ctX13_isLetter (l := l) (G := G) (w := w13) x16 h18)
          refine J_callS hX [.int x16] [] [.int (bI x19)] k20 miX13_isLetter q_2129 q_2128 ⟨rfl, rfl, Nat.le_of_ble_eq_true rfl, Nat.le_of_ble_eq_true rfl⟩ rfl rfl (Nat.le_of_ble_eq_true rfl) ⟨Nat.le_of_ble_eq_true rfl, Nat.le_of_ble_eq_true rfl⟩ dX13_goOnRead_70 (t := 73) rfl rfl ?_
          refine J_ifZ_eq (tgt := 139) hX dX13_goOnRead_73 (by decide) (t := 76) rfl (fun z => ?_) (fun z => ?_)
          · replace hF := ib_f hF z
            refine J_iload_n hX dX13_goOnRead_139 1 rfl (t := 140) rfl ?_
            obtain ⟨x22, h21, hF⟩ := bnd_e hF
            have k23 := (ctX13_isDigit (l := l) (G := G) (w := w13) x16 h21)
            refine J_callS hX [.int x16] [] [.int (bI x22)] k23 miX13_isDigit q_2380 q_2379 ⟨rfl, rfl, Nat.le_of_ble_eq_true rfl, Nat.le_of_ble_eq_true rfl⟩ rfl rfl (Nat.le_of_ble_eq_true rfl) ⟨Nat.le_of_ble_eq_true rfl, Nat.le_of_ble_eq_true rfl⟩ dX13_goOnRead_140 (t := 143) rfl rfl ?_
            refine J_ifZ_eq (tgt := 205) hX dX13_goOnRead_143 (by decide) (t := 146) rfl (fun z => ?_) (fun z => ?_)
            · replace hF := ib_f hF z
              refine J_aload_n hX dX13_goOnRead_205 2 rfl (t := 206) rfl ?_
              refine J_iload_n hX dX13_goOnRead_206 1 rfl (t := 207) rfl ?_
              refine J_bipush (v := 59) hX dX13_goOnRead_207 (by decide) (t := 209) rfl ?_
              refine J_icmp_eq (tgt := 224) hX dX13_goOnRead_209 (by decide) (t := 212) rfl (fun z => ?_) (fun z => ?_)
              · replace hF := it_t hF z
                refine J_sub (lc2 := [(0, .ref (adr G 15 0)), (1, .int x16)]) [2, 1] rfl ?_
                exact BX13_goOnRead_224 hX hR hlk n w13 x16 hF
              · replace hF := it_f hF z
                refine J_iload_n hX dX13_goOnRead_212 1 rfl (t := 213) rfl ?_
                refine J_bipush (v := 40) hX dX13_goOnRead_213 (by decide) (t := 215) rfl ?_
                refine J_icmp_eq (tgt := 224) hX dX13_goOnRead_215 (by decide) (t := 218) rfl (fun z => ?_) (fun z => ?_)
                · replace hF := it_t hF z
                  refine J_sub (lc2 := [(0, .ref (adr G 15 0)), (1, .int x16)]) [2, 1] rfl ?_
                  exact BX13_goOnRead_224 hX hR hlk n w13 x16 hF
                · replace hF := it_f hF z
                  refine J_iload_n hX dX13_goOnRead_218 1 rfl (t := 219) rfl ?_
                  refine J_bipush (v := 41) hX dX13_goOnRead_219 (by decide) (t := 221) rfl ?_
                  refine J_icmp_ne (tgt := 228) hX dX13_goOnRead_221 (by decide) (t := 224) rfl (fun z => ?_) (fun z => ?_)
                  · replace hF := it_f hF z
                    refine J_iconst (v := 4) hX dX13_goOnRead_228 (by decide) (t := 229) rfl ?_
                    refine J_sub (lc2 := [(0, .ref (adr G 15 0)), (1, .int x16)]) [2, 1] rfl ?_
                    exact BX13_goOnRead_229 hX hR hlk n w13 x16 4 hF
                  · replace hF := it_t hF z
                    refine J_sub (lc2 := [(0, .ref (adr G 15 0)), (1, .int x16)]) [2, 1] rfl ?_
                    exact BX13_goOnRead_224 hX hR hlk n w13 x16 hF
            · replace hF := it_t hF z
              refine J_sub (lc2 := [(0, .ref (adr G 15 0)), (1, .int x16), (2, .int 0)]) [2, 1, 0] rfl ?_
              exact LX13_goOnRead_146 hX hR hlk n n w13 x16 0 hF
          · replace hF := it_t hF z
            refine J_sub (lc2 := [(0, .ref (adr G 15 0)), (1, .int x16), (2, .int 0)]) [2, 1, 0] rfl ?_
            exact LX13_goOnRead_76 hX hR hlk n n w13 x16 0 hF
        · replace hF := it_f hF z
          refine J_aload_n hX dX13_goOnRead_63 2 rfl (t := 64) rfl ?_
          refine J_iconst (v := 0) hX dX13_goOnRead_64 (by decide) (t := 65) rfl ?_
          obtain ⟨w56, e57, hF⟩ := bnd_e hF
          refine J_puti hX cb10 kModel 6 (by decide) q_1973 rfl rfl e57 (fun _ _ => Nat.le_of_ble_eq_true rfl) (fun _ _ => rfl) dX13_goOnRead_65 (t := 68) rfl ?_
          replace hF := Option.some.inj hF
          subst hF
          exact J_vret hX hR hlk dX13_goOnRead_68
      · replace hF := it_t hF z
        refine J_aload_n hX dX13_goOnRead_20 0 rfl (t := 21) rfl ?_
        refine J_dup hX dX13_goOnRead_21 rfl (t := 22) rfl ?_
        refine J_get hX cb10 kModel 4 (by decide) q_1971 rfl dX13_goOnRead_22 (t := 25) rfl ?_
        refine J_iconst (v := 1) hX dX13_goOnRead_25 (by decide) (t := 26) rfl ?_
        refine J_iadd hX dX13_goOnRead_26 (t := 27) rfl ?_
        obtain ⟨w58, e59, hF⟩ := bnd_e hF
        refine J_puti hX cb10 kModel 4 (by decide) q_1971 rfl rfl e59 (fun _ _ => Nat.le_of_ble_eq_true rfl) (fun _ _ => rfl) dX13_goOnRead_27 (t := 30) rfl ?_
        refine J_goto (tgt := 0) hX dX13_goOnRead_30 (by decide) ?_
        refine J_sub (lc2 := [(0, .ref (adr G 15 0))]) [0] rfl ?_
        exact ih w58  hF
def FX13_goOnRead (n : Nat) (w : Wd)  : Option (Wd) :=
  FX13_goOnRead_L0 n n w 
set_option maxHeartbeats 4000000 in
set_option maxRecDepth 100000 in
theorem ctX13_goOnRead {G : GG} {l : Launch} (w : Wd)   (n : Nat) {rw : Wd} (hF : FX13_goOnRead n w  = some rw) : CT G l yX13_goOnRead cX13_goOnRead 3 none rmX13_goOnRead 0 0 [.ref (adr G 15 0)] w (none) rw := by
  refine CT.of miX13_goOnRead [(0, .ref (adr G 15 0))] rfl (Nat.le_of_ble_eq_true rfl) ?_
  intro p e s m args below meth c hX hR hlk
  have hX : FX G RX13 cX13_goOnRead 3 p s m args c := hX
  unfold FX13_goOnRead at hF
  refine J_sub (lc2 := [(0, .ref (adr G 15 0))]) [0] rfl ?_
  exact LX13_goOnRead_0 hX hR hlk n n w  hF
abbrev rmX13_wrong : Room := { frames := 0, cells := 0, slots := 0, locals := 0 }
theorem miX13_wrong : MI yX13_wrong cX13_wrong 2 none 1 := ⟨q_2398, q_152, by decide +kernel, by decide +kernel, by decide +kernel, by decide +kernel⟩
theorem mvX13_wrong : MV yX13_wrong := ⟨q_2397, q_81⟩
def FX13_wrong (w : Wd) (p1 : Int32) : Wd :=
  if (w 15).1 0 8 ≤ 0 then
    if (w 15).1 0 6 = 4 then
      bnd (sW w 15 (sI (w 15) 0 8 1)) fun w5 =>
      bnd (sW w5 15 (sI (w5 15) 0 9 ((w5 15).1 0 5))) fun w7 =>
      w7
    else
      bnd (sW w 15 (sI (w 15) 0 8 p1)) fun w1 =>
      bnd (sW w1 15 (sI (w1 15) 0 9 ((w1 15).1 0 5))) fun w3 =>
      w3
  else
    w
set_option maxHeartbeats 4000000 in
set_option maxRecDepth 100000 in
theorem ctX13_wrong {G : GG} {l : Launch} (w : Wd) (p1 : Int32)  {rw : Wd} (hF : FX13_wrong w p1 = rw) : CT G l yX13_wrong cX13_wrong 2 none rmX13_wrong 0 0 [.ref (adr G 15 0), .int p1] w (none) rw := by
  refine CT.of miX13_wrong [(0, .ref (adr G 15 0)), (1, .int p1)] rfl (Nat.le_of_ble_eq_true rfl) ?_
  intro p e s m args below meth c hX hR hlk
  have hX : FX G RX13 cX13_wrong 2 p s m args c := hX
  unfold FX13_wrong at hF
  refine J_aload_n hX dX13_wrong_0 0 rfl (t := 1) rfl ?_
  refine J_get hX cb10 kModel 8 (by decide) q_1975 rfl dX13_wrong_1 (t := 4) rfl ?_
  refine J_if_le (tgt := 8) hX dX13_wrong_4 (by decide) (t := 7) rfl (fun z => ?_) (fun z => ?_)
  · replace hF := it_t hF z
    refine J_aload_n hX dX13_wrong_8 0 rfl (t := 9) rfl ?_
    refine J_aload_n hX dX13_wrong_9 0 rfl (t := 10) rfl ?_
    refine J_get hX cb10 kModel 6 (by decide) q_1973 rfl dX13_wrong_10 (t := 13) rfl ?_
    refine J_iconst (v := 4) hX dX13_wrong_13 (by decide) (t := 14) rfl ?_
    refine J_icmp_ne (tgt := 21) hX dX13_wrong_14 (by decide) (t := 17) rfl (fun z => ?_) (fun z => ?_)
    · replace hF := it_f hF z
      refine J_iload_n hX dX13_wrong_21 1 rfl (t := 22) rfl ?_
      obtain ⟨w1, e2, hF⟩ := bnd_e hF
      refine J_puti hX cb10 kModel 8 (by decide) q_1975 rfl rfl e2 (fun _ _ => Nat.le_of_ble_eq_true rfl) (fun _ _ => rfl) dX13_wrong_22 (t := 25) rfl ?_
      refine J_aload_n hX dX13_wrong_25 0 rfl (t := 26) rfl ?_
      refine J_aload_n hX dX13_wrong_26 0 rfl (t := 27) rfl ?_
      refine J_get hX cb10 kModel 5 (by decide) q_1972 rfl dX13_wrong_27 (t := 30) rfl ?_
      obtain ⟨w3, e4, hF⟩ := bnd_e hF
      refine J_puti hX cb10 kModel 9 (by decide) q_1976 rfl rfl e4 (fun _ _ => Nat.le_of_ble_eq_true rfl) (fun _ _ => rfl) dX13_wrong_30 (t := 33) rfl ?_
      subst hF
      exact J_vret hX hR hlk dX13_wrong_33
    · replace hF := it_t hF z
      refine J_iconst (v := 1) hX dX13_wrong_17 (by decide) (t := 18) rfl ?_
      refine J_goto (tgt := 22) hX dX13_wrong_18 (by decide) ?_
      obtain ⟨w5, e6, hF⟩ := bnd_e hF
      refine J_puti hX cb10 kModel 8 (by decide) q_1975 rfl rfl e6 (fun _ _ => Nat.le_of_ble_eq_true rfl) (fun _ _ => rfl) dX13_wrong_22 (t := 25) rfl ?_
      refine J_aload_n hX dX13_wrong_25 0 rfl (t := 26) rfl ?_
      refine J_aload_n hX dX13_wrong_26 0 rfl (t := 27) rfl ?_
      refine J_get hX cb10 kModel 5 (by decide) q_1972 rfl dX13_wrong_27 (t := 30) rfl ?_
      obtain ⟨w7, e8, hF⟩ := bnd_e hF
      refine J_puti hX cb10 kModel 9 (by decide) q_1976 rfl rfl e8 (fun _ _ => Nat.le_of_ble_eq_true rfl) (fun _ _ => rfl) dX13_wrong_30 (t := 33) rfl ?_
      subst hF
      exact J_vret hX hR hlk dX13_wrong_33
  · replace hF := it_f hF z
    subst hF
    exact J_vret hX hR hlk dX13_wrong_7
abbrev rmX13_isGood : Room := { frames := 0, cells := 0, slots := 0, locals := 0 }
theorem miX13_isGood : MI yX13_isGood cX13_isGood 1 (some .boolean) 0 := ⟨q_2390, q_152, by decide +kernel, by decide +kernel, by decide +kernel, by decide +kernel⟩
theorem mvX13_isGood : MV yX13_isGood := ⟨q_2389, q_79⟩
def FX13_isGood (w : Wd)  : Bool :=
  if (w 15).1 0 8 = 0 then
    true
  else
    false
set_option maxHeartbeats 4000000 in
set_option maxRecDepth 100000 in
theorem ctX13_isGood {G : GG} {l : Launch} (w : Wd)   {rx : Bool} (hF : FX13_isGood w  = rx) : CT G l yX13_isGood cX13_isGood 1 (some .boolean) rmX13_isGood 0 0 [.ref (adr G 15 0)] w (some (.int (bI rx))) w := by
  refine CT.of miX13_isGood [(0, .ref (adr G 15 0))] rfl (Nat.le_of_ble_eq_true rfl) ?_
  intro p e s m args below meth c hX hR hlk
  have hX : FX G RX13 cX13_isGood 1 p s m args c := hX
  unfold FX13_isGood at hF
  refine J_aload_n hX dX13_isGood_0 0 rfl (t := 1) rfl ?_
  refine J_get hX cb10 kModel 8 (by decide) q_1975 rfl dX13_isGood_1 (t := 4) rfl ?_
  refine J_if_ne (tgt := 11) hX dX13_isGood_4 (by decide) (t := 7) rfl (fun z => ?_) (fun z => ?_)
  · replace hF := it_f hF z
    refine J_iconst (v := 0) hX dX13_isGood_11 (by decide) (t := 12) rfl ?_
    subst hF
    exact J_zret (b := false) hX hR hlk dX13_isGood_12
  · replace hF := it_t hF z
    refine J_iconst (v := 1) hX dX13_isGood_7 (by decide) (t := 8) rfl ?_
    refine J_goto (tgt := 12) hX dX13_isGood_8 (by decide) ?_
    subst hF
    exact J_zret (b := true) hX hR hlk dX13_isGood_12
abbrev rmX13_isWord : Room := { frames := 0, cells := 0, slots := 0, locals := 0 }
theorem miX13_isWord : MI yX13_isWord cX13_isWord 3 (some .boolean) 1 := ⟨q_2394, q_152, by decide +kernel, by decide +kernel, by decide +kernel, by decide +kernel⟩
theorem mvX13_isWord : MV yX13_isWord := ⟨q_2393, q_80⟩
def FX13_isWord (w : Wd) (p1 : Int64) : Bool :=
  if (w 15).1 0 8 = 0 then
    if (w 15).1 0 6 = 1 then
      if lg_cmp ((w 15).2 0 12) p1 = 0 then
        true
      else
        false
    else
      false
  else
    false
set_option maxHeartbeats 4000000 in
set_option maxRecDepth 100000 in
theorem ctX13_isWord {G : GG} {l : Launch} (w : Wd) (p1 : Int64)  {rx : Bool} (hF : FX13_isWord w p1 = rx) : CT G l yX13_isWord cX13_isWord 3 (some .boolean) rmX13_isWord 0 0 [.ref (adr G 15 0), .long p1] w (some (.int (bI rx))) w := by
  refine CT.of miX13_isWord [(0, .ref (adr G 15 0)), (1, .long p1)] rfl (Nat.le_of_ble_eq_true rfl) ?_
  intro p e s m args below meth c hX hR hlk
  have hX : FX G RX13 cX13_isWord 3 p s m args c := hX
  unfold FX13_isWord at hF
  refine J_aload_n hX dX13_isWord_0 0 rfl (t := 1) rfl ?_
  refine J_get hX cb10 kModel 8 (by decide) q_1975 rfl dX13_isWord_1 (t := 4) rfl ?_
  refine J_if_ne (tgt := 28) hX dX13_isWord_4 (by decide) (t := 7) rfl (fun z => ?_) (fun z => ?_)
  · replace hF := it_f hF z
    refine J_iconst (v := 0) hX dX13_isWord_28 (by decide) (t := 29) rfl ?_
    subst hF
    exact J_zret (b := false) hX hR hlk dX13_isWord_29
  · replace hF := it_t hF z
    refine J_aload_n hX dX13_isWord_7 0 rfl (t := 8) rfl ?_
    refine J_get hX cb10 kModel 6 (by decide) q_1973 rfl dX13_isWord_8 (t := 11) rfl ?_
    refine J_iconst (v := 1) hX dX13_isWord_11 (by decide) (t := 12) rfl ?_
    refine J_icmp_ne (tgt := 28) hX dX13_isWord_12 (by decide) (t := 15) rfl (fun z => ?_) (fun z => ?_)
    · replace hF := it_f hF z
      refine J_iconst (v := 0) hX dX13_isWord_28 (by decide) (t := 29) rfl ?_
      subst hF
      exact J_zret (b := false) hX hR hlk dX13_isWord_29
    · replace hF := it_t hF z
      refine J_aload_n hX dX13_isWord_15 0 rfl (t := 16) rfl ?_
      refine J_get hX cb10 kModel 12 (by decide) q_1979 rfl dX13_isWord_16 (t := 19) rfl ?_
      refine J_lload_n hX dX13_isWord_19 1 rfl (t := 20) rfl ?_
      refine J_lcmp hX dX13_isWord_20 (t := 21) rfl ?_
      refine J_if_ne (tgt := 28) hX dX13_isWord_21 (by decide) (t := 24) rfl (fun z => ?_) (fun z => ?_)
      · replace hF := it_f hF z
        refine J_iconst (v := 0) hX dX13_isWord_28 (by decide) (t := 29) rfl ?_
        subst hF
        exact J_zret (b := false) hX hR hlk dX13_isWord_29
      · replace hF := it_t hF z
        refine J_iconst (v := 1) hX dX13_isWord_24 (by decide) (t := 25) rfl ?_
        refine J_goto (tgt := 29) hX dX13_isWord_25 (by decide) ?_
        subst hF
        exact J_zret (b := true) hX hR hlk dX13_isWord_29
abbrev rmX13_isSign : Room := { frames := 0, cells := 0, slots := 0, locals := 0 }
theorem miX13_isSign : MI yX13_isSign cX13_isSign 2 (some .boolean) 1 := ⟨q_2406, q_152, by decide +kernel, by decide +kernel, by decide +kernel, by decide +kernel⟩
theorem mvX13_isSign : MV yX13_isSign := ⟨q_2405, q_83⟩
def FX13_isSign (w : Wd) (p1 : Int32) : Bool :=
  if (w 15).1 0 8 = 0 then
    if (w 15).1 0 6 = 3 then
      if (w 15).1 0 7 = p1 then
        true
      else
        false
    else
      false
  else
    false
set_option maxHeartbeats 4000000 in
set_option maxRecDepth 100000 in
theorem ctX13_isSign {G : GG} {l : Launch} (w : Wd) (p1 : Int32)  {rx : Bool} (hF : FX13_isSign w p1 = rx) : CT G l yX13_isSign cX13_isSign 2 (some .boolean) rmX13_isSign 0 0 [.ref (adr G 15 0), .int p1] w (some (.int (bI rx))) w := by
  refine CT.of miX13_isSign [(0, .ref (adr G 15 0)), (1, .int p1)] rfl (Nat.le_of_ble_eq_true rfl) ?_
  intro p e s m args below meth c hX hR hlk
  have hX : FX G RX13 cX13_isSign 2 p s m args c := hX
  unfold FX13_isSign at hF
  refine J_aload_n hX dX13_isSign_0 0 rfl (t := 1) rfl ?_
  refine J_get hX cb10 kModel 8 (by decide) q_1975 rfl dX13_isSign_1 (t := 4) rfl ?_
  refine J_if_ne (tgt := 27) hX dX13_isSign_4 (by decide) (t := 7) rfl (fun z => ?_) (fun z => ?_)
  · replace hF := it_f hF z
    refine J_iconst (v := 0) hX dX13_isSign_27 (by decide) (t := 28) rfl ?_
    subst hF
    exact J_zret (b := false) hX hR hlk dX13_isSign_28
  · replace hF := it_t hF z
    refine J_aload_n hX dX13_isSign_7 0 rfl (t := 8) rfl ?_
    refine J_get hX cb10 kModel 6 (by decide) q_1973 rfl dX13_isSign_8 (t := 11) rfl ?_
    refine J_iconst (v := 3) hX dX13_isSign_11 (by decide) (t := 12) rfl ?_
    refine J_icmp_ne (tgt := 27) hX dX13_isSign_12 (by decide) (t := 15) rfl (fun z => ?_) (fun z => ?_)
    · replace hF := it_f hF z
      refine J_iconst (v := 0) hX dX13_isSign_27 (by decide) (t := 28) rfl ?_
      subst hF
      exact J_zret (b := false) hX hR hlk dX13_isSign_28
    · replace hF := it_t hF z
      refine J_aload_n hX dX13_isSign_15 0 rfl (t := 16) rfl ?_
      refine J_get hX cb10 kModel 7 (by decide) q_1974 rfl dX13_isSign_16 (t := 19) rfl ?_
      refine J_iload_n hX dX13_isSign_19 1 rfl (t := 20) rfl ?_
      refine J_icmp_ne (tgt := 27) hX dX13_isSign_20 (by decide) (t := 23) rfl (fun z => ?_) (fun z => ?_)
      · replace hF := it_f hF z
        refine J_iconst (v := 0) hX dX13_isSign_27 (by decide) (t := 28) rfl ?_
        subst hF
        exact J_zret (b := false) hX hR hlk dX13_isSign_28
      · replace hF := it_t hF z
        refine J_iconst (v := 1) hX dX13_isSign_23 (by decide) (t := 24) rfl ?_
        refine J_goto (tgt := 28) hX dX13_isSign_24 (by decide) ?_
        subst hF
        exact J_zret (b := true) hX hR hlk dX13_isSign_28
abbrev rmX13_mustSign : Room := { frames := 2, cells := 0, slots := 0, locals := 43 }
theorem miX13_mustSign : MI yX13_mustSign cX13_mustSign 2 none 1 := ⟨q_2402, q_152, by decide +kernel, by decide +kernel, by decide +kernel, by decide +kernel⟩
theorem mvX13_mustSign : MV yX13_mustSign := ⟨q_2401, q_82⟩
def FX13_mustSign (n : Nat) (w : Wd) (p1 : Int32) : Option (Wd) :=
  bnd (FX13_isGood w) fun x2 =>
  if x2 = true then
    bnd (FX13_isSign w p1) fun x11 =>
    if x11 = true then
      bnd (FX13_isGood w) fun x14 =>
      if x14 = true then
        bo1 (FX13_goOnRead n w) fun w17 =>
        some w17
      else
        some w
    else
      bnd (FX13_wrong w 1) fun w20 =>
      bnd (FX13_isGood w20) fun x23 =>
      if x23 = true then
        bo1 (FX13_goOnRead n w20) fun w26 =>
        some w26
      else
        some w20
  else
    bnd (FX13_isGood w) fun x5 =>
    if x5 = true then
      bo1 (FX13_goOnRead n w) fun w8 =>
      some w8
    else
      some w
set_option maxHeartbeats 4000000 in
set_option maxRecDepth 100000 in
theorem ctX13_mustSign {G : GG} {l : Launch} (w : Wd) (p1 : Int32)  (n : Nat) {rw : Wd} (hF : FX13_mustSign n w p1 = some rw) : CT G l yX13_mustSign cX13_mustSign 2 none rmX13_mustSign 0 0 [.ref (adr G 15 0), .int p1] w (none) rw := by
  refine CT.of miX13_mustSign [(0, .ref (adr G 15 0)), (1, .int p1)] rfl (Nat.le_of_ble_eq_true rfl) ?_
  intro p e s m args below meth c hX hR hlk
  have hX : FX G RX13 cX13_mustSign 2 p s m args c := hX
  unfold FX13_mustSign at hF
  refine J_aload_n hX dX13_mustSign_0 0 rfl (t := 1) rfl ?_
  obtain ⟨x2, h1, hF⟩ := bnd_e hF
  have k3 := (ctX13_isGood (G := G) (l := l) w  h1)
  refine J_callV hX [] [] [.int (bI x2)] k3 miX13_isGood mvX13_isGood cb10 kModel q_2387 ⟨rfl, rfl, Nat.le_of_ble_eq_true rfl, Nat.le_of_ble_eq_true rfl⟩ rfl rfl (Nat.le_of_ble_eq_true rfl) ⟨Nat.le_of_ble_eq_true rfl, Nat.le_of_ble_eq_true rfl⟩ dX13_mustSign_1 (t := 4) rfl rfl ?_
  refine J_ifZ_eq (tgt := 20) hX dX13_mustSign_4 (by decide) (t := 7) rfl (fun z => ?_) (fun z => ?_)
  · replace hF := ib_f hF z
    refine J_aload_n hX dX13_mustSign_20 0 rfl (t := 21) rfl ?_
    obtain ⟨x5, h4, hF⟩ := bnd_e hF
    have k6 := (ctX13_isGood (G := G) (l := l) w  h4)
    refine J_callV hX [] [] [.int (bI x5)] k6 miX13_isGood mvX13_isGood cb10 kModel q_2387 ⟨rfl, rfl, Nat.le_of_ble_eq_true rfl, Nat.le_of_ble_eq_true rfl⟩ rfl rfl (Nat.le_of_ble_eq_true rfl) ⟨Nat.le_of_ble_eq_true rfl, Nat.le_of_ble_eq_true rfl⟩ dX13_mustSign_21 (t := 24) rfl rfl ?_
    refine J_ifZ_eq (tgt := 31) hX dX13_mustSign_24 (by decide) (t := 27) rfl (fun z => ?_) (fun z => ?_)
    · replace hF := ib_f hF z
      replace hF := Option.some.inj hF
      subst hF
      exact J_vret hX hR hlk dX13_mustSign_31
    · replace hF := it_t hF z
      refine J_aload_n hX dX13_mustSign_27 0 rfl (t := 28) rfl ?_
      obtain ⟨w8, h7, hF⟩ := bo1_e hF
      have k9 := (ctX13_goOnRead (G := G) (l := l) w  n h7)
      refine J_callV hX [] [] [] k9 miX13_goOnRead mvX13_goOnRead cb10 kModel q_2371 ⟨rfl, rfl, Nat.le_of_ble_eq_true rfl, Nat.le_of_ble_eq_true rfl⟩ rfl rfl (Nat.le_of_ble_eq_true rfl) ⟨Nat.le_of_ble_eq_true rfl, Nat.le_of_ble_eq_true rfl⟩ dX13_mustSign_28 (t := 31) rfl rfl ?_
      replace hF := Option.some.inj hF
      subst hF
      exact J_vret hX hR hlk dX13_mustSign_31
  · replace hF := it_t hF z
    refine J_aload_n hX dX13_mustSign_7 0 rfl (t := 8) rfl ?_
    refine J_iload_n hX dX13_mustSign_8 1 rfl (t := 9) rfl ?_
    obtain ⟨x11, h10, hF⟩ := bnd_e hF
    have k12 := (ctX13_isSign (G := G) (l := l) w p1 h10)
    refine J_callV hX [.int p1] [] [.int (bI x11)] k12 miX13_isSign mvX13_isSign cb10 kModel q_2403 ⟨rfl, rfl, Nat.le_of_ble_eq_true rfl, Nat.le_of_ble_eq_true rfl⟩ rfl rfl (Nat.le_of_ble_eq_true rfl) ⟨Nat.le_of_ble_eq_true rfl, Nat.le_of_ble_eq_true rfl⟩ dX13_mustSign_9 (t := 12) rfl rfl ?_
    refine J_ifZ_ne (tgt := 20) hX dX13_mustSign_12 (by decide) (t := 15) rfl (fun z => ?_) (fun z => ?_)
    · replace hF := it_t hF z
      refine J_aload_n hX dX13_mustSign_20 0 rfl (t := 21) rfl ?_
      obtain ⟨x14, h13, hF⟩ := bnd_e hF
      have k15 := (ctX13_isGood (G := G) (l := l) w  h13)
      refine J_callV hX [] [] [.int (bI x14)] k15 miX13_isGood mvX13_isGood cb10 kModel q_2387 ⟨rfl, rfl, Nat.le_of_ble_eq_true rfl, Nat.le_of_ble_eq_true rfl⟩ rfl rfl (Nat.le_of_ble_eq_true rfl) ⟨Nat.le_of_ble_eq_true rfl, Nat.le_of_ble_eq_true rfl⟩ dX13_mustSign_21 (t := 24) rfl rfl ?_
      refine J_ifZ_eq (tgt := 31) hX dX13_mustSign_24 (by decide) (t := 27) rfl (fun z => ?_) (fun z => ?_)
      · replace hF := ib_f hF z
        replace hF := Option.some.inj hF
        subst hF
        exact J_vret hX hR hlk dX13_mustSign_31
      · replace hF := it_t hF z
        refine J_aload_n hX dX13_mustSign_27 0 rfl (t := 28) rfl ?_
        obtain ⟨w17, h16, hF⟩ := bo1_e hF
        have k18 := (ctX13_goOnRead (G := G) (l := l) w  n h16)
        refine J_callV hX [] [] [] k18 miX13_goOnRead mvX13_goOnRead cb10 kModel q_2371 ⟨rfl, rfl, Nat.le_of_ble_eq_true rfl, Nat.le_of_ble_eq_true rfl⟩ rfl rfl (Nat.le_of_ble_eq_true rfl) ⟨Nat.le_of_ble_eq_true rfl, Nat.le_of_ble_eq_true rfl⟩ dX13_mustSign_28 (t := 31) rfl rfl ?_
        replace hF := Option.some.inj hF
        subst hF
        exact J_vret hX hR hlk dX13_mustSign_31
    · replace hF := ib_f hF z
      refine J_aload_n hX dX13_mustSign_15 0 rfl (t := 16) rfl ?_
      refine J_iconst (v := 1) hX dX13_mustSign_16 (by decide) (t := 17) rfl ?_
      obtain ⟨w20, h19, hF⟩ := bnd_e hF
      have k21 := (ctX13_wrong (G := G) (l := l) w 1 h19)
      refine J_callV hX [.int 1] [] [] k21 miX13_wrong mvX13_wrong cb10 kModel q_2395 ⟨rfl, rfl, Nat.le_of_ble_eq_true rfl, Nat.le_of_ble_eq_true rfl⟩ rfl rfl (Nat.le_of_ble_eq_true rfl) ⟨Nat.le_of_ble_eq_true rfl, Nat.le_of_ble_eq_true rfl⟩ dX13_mustSign_17 (t := 20) rfl rfl ?_
      refine J_aload_n hX dX13_mustSign_20 0 rfl (t := 21) rfl ?_
      obtain ⟨x23, h22, hF⟩ := bnd_e hF
      have k24 := (ctX13_isGood (G := G) (l := l) w20  h22)
      refine J_callV hX [] [] [.int (bI x23)] k24 miX13_isGood mvX13_isGood cb10 kModel q_2387 ⟨rfl, rfl, Nat.le_of_ble_eq_true rfl, Nat.le_of_ble_eq_true rfl⟩ rfl rfl (Nat.le_of_ble_eq_true rfl) ⟨Nat.le_of_ble_eq_true rfl, Nat.le_of_ble_eq_true rfl⟩ dX13_mustSign_21 (t := 24) rfl rfl ?_
      refine J_ifZ_eq (tgt := 31) hX dX13_mustSign_24 (by decide) (t := 27) rfl (fun z => ?_) (fun z => ?_)
      · replace hF := ib_f hF z
        replace hF := Option.some.inj hF
        subst hF
        exact J_vret hX hR hlk dX13_mustSign_31
      · replace hF := it_t hF z
        refine J_aload_n hX dX13_mustSign_27 0 rfl (t := 28) rfl ?_
        obtain ⟨w26, h25, hF⟩ := bo1_e hF
        have k27 := (ctX13_goOnRead (G := G) (l := l) w20  n h25)
        refine J_callV hX [] [] [] k27 miX13_goOnRead mvX13_goOnRead cb10 kModel q_2371 ⟨rfl, rfl, Nat.le_of_ble_eq_true rfl, Nat.le_of_ble_eq_true rfl⟩ rfl rfl (Nat.le_of_ble_eq_true rfl) ⟨Nat.le_of_ble_eq_true rfl, Nat.le_of_ble_eq_true rfl⟩ dX13_mustSign_28 (t := 31) rfl rfl ?_
        replace hF := Option.some.inj hF
        subst hF
        exact J_vret hX hR hlk dX13_mustSign_31
abbrev rmX13_mustWord : Room := { frames := 2, cells := 0, slots := 0, locals := 43 }
theorem miX13_mustWord : MI yX13_mustWord cX13_mustWord 3 none 1 := ⟨q_2386, q_152, by decide +kernel, by decide +kernel, by decide +kernel, by decide +kernel⟩
theorem mvX13_mustWord : MV yX13_mustWord := ⟨q_2385, q_78⟩
def FX13_mustWord (n : Nat) (w : Wd) (p1 : Int64) : Option (Wd) :=
  bnd (FX13_isGood w) fun x2 =>
  if x2 = true then
    bnd (FX13_isWord w p1) fun x11 =>
    if x11 = true then
      bnd (FX13_isGood w) fun x14 =>
      if x14 = true then
        bo1 (FX13_goOnRead n w) fun w17 =>
        some w17
      else
        some w
    else
      bnd (FX13_wrong w 1) fun w20 =>
      bnd (FX13_isGood w20) fun x23 =>
      if x23 = true then
        bo1 (FX13_goOnRead n w20) fun w26 =>
        some w26
      else
        some w20
  else
    bnd (FX13_isGood w) fun x5 =>
    if x5 = true then
      bo1 (FX13_goOnRead n w) fun w8 =>
      some w8
    else
      some w
set_option maxHeartbeats 4000000 in
set_option maxRecDepth 100000 in
theorem ctX13_mustWord {G : GG} {l : Launch} (w : Wd) (p1 : Int64)  (n : Nat) {rw : Wd} (hF : FX13_mustWord n w p1 = some rw) : CT G l yX13_mustWord cX13_mustWord 3 none rmX13_mustWord 0 0 [.ref (adr G 15 0), .long p1] w (none) rw := by
  refine CT.of miX13_mustWord [(0, .ref (adr G 15 0)), (1, .long p1)] rfl (Nat.le_of_ble_eq_true rfl) ?_
  intro p e s m args below meth c hX hR hlk
  have hX : FX G RX13 cX13_mustWord 3 p s m args c := hX
  unfold FX13_mustWord at hF
  refine J_aload_n hX dX13_mustWord_0 0 rfl (t := 1) rfl ?_
  obtain ⟨x2, h1, hF⟩ := bnd_e hF
  have k3 := (ctX13_isGood (G := G) (l := l) w  h1)
  refine J_callV hX [] [] [.int (bI x2)] k3 miX13_isGood mvX13_isGood cb10 kModel q_2387 ⟨rfl, rfl, Nat.le_of_ble_eq_true rfl, Nat.le_of_ble_eq_true rfl⟩ rfl rfl (Nat.le_of_ble_eq_true rfl) ⟨Nat.le_of_ble_eq_true rfl, Nat.le_of_ble_eq_true rfl⟩ dX13_mustWord_1 (t := 4) rfl rfl ?_
  refine J_ifZ_eq (tgt := 20) hX dX13_mustWord_4 (by decide) (t := 7) rfl (fun z => ?_) (fun z => ?_)
  · replace hF := ib_f hF z
    refine J_aload_n hX dX13_mustWord_20 0 rfl (t := 21) rfl ?_
    obtain ⟨x5, h4, hF⟩ := bnd_e hF
    have k6 := (ctX13_isGood (G := G) (l := l) w  h4)
    refine J_callV hX [] [] [.int (bI x5)] k6 miX13_isGood mvX13_isGood cb10 kModel q_2387 ⟨rfl, rfl, Nat.le_of_ble_eq_true rfl, Nat.le_of_ble_eq_true rfl⟩ rfl rfl (Nat.le_of_ble_eq_true rfl) ⟨Nat.le_of_ble_eq_true rfl, Nat.le_of_ble_eq_true rfl⟩ dX13_mustWord_21 (t := 24) rfl rfl ?_
    refine J_ifZ_eq (tgt := 31) hX dX13_mustWord_24 (by decide) (t := 27) rfl (fun z => ?_) (fun z => ?_)
    · replace hF := ib_f hF z
      replace hF := Option.some.inj hF
      subst hF
      exact J_vret hX hR hlk dX13_mustWord_31
    · replace hF := it_t hF z
      refine J_aload_n hX dX13_mustWord_27 0 rfl (t := 28) rfl ?_
      obtain ⟨w8, h7, hF⟩ := bo1_e hF
      have k9 := (ctX13_goOnRead (G := G) (l := l) w  n h7)
      refine J_callV hX [] [] [] k9 miX13_goOnRead mvX13_goOnRead cb10 kModel q_2371 ⟨rfl, rfl, Nat.le_of_ble_eq_true rfl, Nat.le_of_ble_eq_true rfl⟩ rfl rfl (Nat.le_of_ble_eq_true rfl) ⟨Nat.le_of_ble_eq_true rfl, Nat.le_of_ble_eq_true rfl⟩ dX13_mustWord_28 (t := 31) rfl rfl ?_
      replace hF := Option.some.inj hF
      subst hF
      exact J_vret hX hR hlk dX13_mustWord_31
  · replace hF := it_t hF z
    refine J_aload_n hX dX13_mustWord_7 0 rfl (t := 8) rfl ?_
    refine J_lload_n hX dX13_mustWord_8 1 rfl (t := 9) rfl ?_
    obtain ⟨x11, h10, hF⟩ := bnd_e hF
    have k12 := (ctX13_isWord (G := G) (l := l) w p1 h10)
    refine J_callV hX [.long p1] [] [.int (bI x11)] k12 miX13_isWord mvX13_isWord cb10 kModel q_2391 ⟨rfl, rfl, Nat.le_of_ble_eq_true rfl, Nat.le_of_ble_eq_true rfl⟩ rfl rfl (Nat.le_of_ble_eq_true rfl) ⟨Nat.le_of_ble_eq_true rfl, Nat.le_of_ble_eq_true rfl⟩ dX13_mustWord_9 (t := 12) rfl rfl ?_
    refine J_ifZ_ne (tgt := 20) hX dX13_mustWord_12 (by decide) (t := 15) rfl (fun z => ?_) (fun z => ?_)
    · replace hF := it_t hF z
      refine J_aload_n hX dX13_mustWord_20 0 rfl (t := 21) rfl ?_
      obtain ⟨x14, h13, hF⟩ := bnd_e hF
      have k15 := (ctX13_isGood (G := G) (l := l) w  h13)
      refine J_callV hX [] [] [.int (bI x14)] k15 miX13_isGood mvX13_isGood cb10 kModel q_2387 ⟨rfl, rfl, Nat.le_of_ble_eq_true rfl, Nat.le_of_ble_eq_true rfl⟩ rfl rfl (Nat.le_of_ble_eq_true rfl) ⟨Nat.le_of_ble_eq_true rfl, Nat.le_of_ble_eq_true rfl⟩ dX13_mustWord_21 (t := 24) rfl rfl ?_
      refine J_ifZ_eq (tgt := 31) hX dX13_mustWord_24 (by decide) (t := 27) rfl (fun z => ?_) (fun z => ?_)
      · replace hF := ib_f hF z
        replace hF := Option.some.inj hF
        subst hF
        exact J_vret hX hR hlk dX13_mustWord_31
      · replace hF := it_t hF z
        refine J_aload_n hX dX13_mustWord_27 0 rfl (t := 28) rfl ?_
        obtain ⟨w17, h16, hF⟩ := bo1_e hF
        have k18 := (ctX13_goOnRead (G := G) (l := l) w  n h16)
        refine J_callV hX [] [] [] k18 miX13_goOnRead mvX13_goOnRead cb10 kModel q_2371 ⟨rfl, rfl, Nat.le_of_ble_eq_true rfl, Nat.le_of_ble_eq_true rfl⟩ rfl rfl (Nat.le_of_ble_eq_true rfl) ⟨Nat.le_of_ble_eq_true rfl, Nat.le_of_ble_eq_true rfl⟩ dX13_mustWord_28 (t := 31) rfl rfl ?_
        replace hF := Option.some.inj hF
        subst hF
        exact J_vret hX hR hlk dX13_mustWord_31
    · replace hF := ib_f hF z
      refine J_aload_n hX dX13_mustWord_15 0 rfl (t := 16) rfl ?_
      refine J_iconst (v := 1) hX dX13_mustWord_16 (by decide) (t := 17) rfl ?_
      obtain ⟨w20, h19, hF⟩ := bnd_e hF
      have k21 := (ctX13_wrong (G := G) (l := l) w 1 h19)
      refine J_callV hX [.int 1] [] [] k21 miX13_wrong mvX13_wrong cb10 kModel q_2395 ⟨rfl, rfl, Nat.le_of_ble_eq_true rfl, Nat.le_of_ble_eq_true rfl⟩ rfl rfl (Nat.le_of_ble_eq_true rfl) ⟨Nat.le_of_ble_eq_true rfl, Nat.le_of_ble_eq_true rfl⟩ dX13_mustWord_17 (t := 20) rfl rfl ?_
      refine J_aload_n hX dX13_mustWord_20 0 rfl (t := 21) rfl ?_
      obtain ⟨x23, h22, hF⟩ := bnd_e hF
      have k24 := (ctX13_isGood (G := G) (l := l) w20  h22)
      refine J_callV hX [] [] [.int (bI x23)] k24 miX13_isGood mvX13_isGood cb10 kModel q_2387 ⟨rfl, rfl, Nat.le_of_ble_eq_true rfl, Nat.le_of_ble_eq_true rfl⟩ rfl rfl (Nat.le_of_ble_eq_true rfl) ⟨Nat.le_of_ble_eq_true rfl, Nat.le_of_ble_eq_true rfl⟩ dX13_mustWord_21 (t := 24) rfl rfl ?_
      refine J_ifZ_eq (tgt := 31) hX dX13_mustWord_24 (by decide) (t := 27) rfl (fun z => ?_) (fun z => ?_)
      · replace hF := ib_f hF z
        replace hF := Option.some.inj hF
        subst hF
        exact J_vret hX hR hlk dX13_mustWord_31
      · replace hF := it_t hF z
        refine J_aload_n hX dX13_mustWord_27 0 rfl (t := 28) rfl ?_
        obtain ⟨w26, h25, hF⟩ := bo1_e hF
        have k27 := (ctX13_goOnRead (G := G) (l := l) w20  n h25)
        refine J_callV hX [] [] [] k27 miX13_goOnRead mvX13_goOnRead cb10 kModel q_2371 ⟨rfl, rfl, Nat.le_of_ble_eq_true rfl, Nat.le_of_ble_eq_true rfl⟩ rfl rfl (Nat.le_of_ble_eq_true rfl) ⟨Nat.le_of_ble_eq_true rfl, Nat.le_of_ble_eq_true rfl⟩ dX13_mustWord_28 (t := 31) rfl rfl ?_
        replace hF := Option.some.inj hF
        subst hF
        exact J_vret hX hR hlk dX13_mustWord_31
abbrev rmX13_looks : Room := { frames := 1, cells := 0, slots := 0, locals := 25 }
theorem miX13_looks : MI yX13_looks cX13_looks 3 (some .int) 2 := ⟨q_2431, q_152, by decide +kernel, by decide +kernel, by decide +kernel, by decide +kernel⟩
theorem mvX13_looks : MV yX13_looks := ⟨q_2430, q_89⟩
def FX13_looks (w : Wd) (p1 : Int32) (p2 : Int32) : Int32 × Wd :=
  bnd (FX13_isGood w) fun x2 =>
  if x2 = true then
    if (w 15).1 0 6 = 2 then
      bnd (FX13_isGood w) fun x14 =>
      if x14 = true then
        bnd (FX13_isIn (((w 15).1 0 7).toInt64) p1.toInt64 p2.toInt64) fun x17 =>
        if x17 = true then
          ((w 15).1 0 7, w)
        else
          bnd (FX13_wrong w 2) fun w20 =>
          ((w20 15).1 0 7, w20)
      else
        ((w 15).1 0 7, w)
    else
      bnd (FX13_wrong w 1) fun w23 =>
      bnd (FX13_isGood w23) fun x26 =>
      if x26 = true then
        bnd (FX13_isIn (((w23 15).1 0 7).toInt64) p1.toInt64 p2.toInt64) fun x29 =>
        if x29 = true then
          ((w23 15).1 0 7, w23)
        else
          bnd (FX13_wrong w23 2) fun w32 =>
          ((w32 15).1 0 7, w32)
      else
        ((w23 15).1 0 7, w23)
  else
    bnd (FX13_isGood w) fun x5 =>
    if x5 = true then
      bnd (FX13_isIn (((w 15).1 0 7).toInt64) p1.toInt64 p2.toInt64) fun x8 =>
      if x8 = true then
        ((w 15).1 0 7, w)
      else
        bnd (FX13_wrong w 2) fun w11 =>
        ((w11 15).1 0 7, w11)
    else
      ((w 15).1 0 7, w)
set_option maxHeartbeats 4000000 in
set_option maxRecDepth 100000 in
theorem ctX13_looks {G : GG} {l : Launch} (w : Wd) (p1 : Int32) (p2 : Int32)  {rx : Int32} {rw : Wd} (hF : FX13_looks w p1 p2 = (rx, rw)) : CT G l yX13_looks cX13_looks 3 (some .int) rmX13_looks 0 0 [.ref (adr G 15 0), .int p1, .int p2] w (some (.int rx)) rw := by
  refine CT.of miX13_looks [(0, .ref (adr G 15 0)), (1, .int p1), (2, .int p2)] rfl (Nat.le_of_ble_eq_true rfl) ?_
  intro p e s m args below meth c hX hR hlk
  have hX : FX G RX13 cX13_looks 3 p s m args c := hX
  unfold FX13_looks at hF
  refine J_aload_n hX dX13_looks_0 0 rfl (t := 1) rfl ?_
  obtain ⟨x2, h1, hF⟩ := bnd_e hF
  have k3 := (ctX13_isGood (G := G) (l := l) w  h1)
  refine J_callV hX [] [] [.int (bI x2)] k3 miX13_isGood mvX13_isGood cb10 kModel q_2387 ⟨rfl, rfl, Nat.le_of_ble_eq_true rfl, Nat.le_of_ble_eq_true rfl⟩ rfl rfl (Nat.le_of_ble_eq_true rfl) ⟨Nat.le_of_ble_eq_true rfl, Nat.le_of_ble_eq_true rfl⟩ dX13_looks_1 (t := 4) rfl rfl ?_
  refine J_ifZ_eq (tgt := 20) hX dX13_looks_4 (by decide) (t := 7) rfl (fun z => ?_) (fun z => ?_)
  · replace hF := ib_f hF z
    refine J_aload_n hX dX13_looks_20 0 rfl (t := 21) rfl ?_
    obtain ⟨x5, h4, hF⟩ := bnd_e hF
    have k6 := (ctX13_isGood (G := G) (l := l) w  h4)
    refine J_callV hX [] [] [.int (bI x5)] k6 miX13_isGood mvX13_isGood cb10 kModel q_2387 ⟨rfl, rfl, Nat.le_of_ble_eq_true rfl, Nat.le_of_ble_eq_true rfl⟩ rfl rfl (Nat.le_of_ble_eq_true rfl) ⟨Nat.le_of_ble_eq_true rfl, Nat.le_of_ble_eq_true rfl⟩ dX13_looks_21 (t := 24) rfl rfl ?_
    refine J_ifZ_eq (tgt := 47) hX dX13_looks_24 (by decide) (t := 27) rfl (fun z => ?_) (fun z => ?_)
    · replace hF := ib_f hF z
      refine J_aload_n hX dX13_looks_47 0 rfl (t := 48) rfl ?_
      refine J_get hX cb10 kModel 7 (by decide) q_1974 rfl dX13_looks_48 (t := 51) rfl ?_
      obtain ⟨hF, hF2⟩ := Prod.mk.inj hF
      subst hF
      subst hF2
      exact J_iret hX hR hlk dX13_looks_51
    · replace hF := it_t hF z
      refine J_aload_n hX dX13_looks_27 0 rfl (t := 28) rfl ?_
      refine J_get hX cb10 kModel 7 (by decide) q_1974 rfl dX13_looks_28 (t := 31) rfl ?_
      refine J_i2l hX dX13_looks_31 (t := 32) rfl ?_
      refine J_iload_n hX dX13_looks_32 1 rfl (t := 33) rfl ?_
      refine J_i2l hX dX13_looks_33 (t := 34) rfl ?_
      refine J_iload_n hX dX13_looks_34 2 rfl (t := 35) rfl ?_
      refine J_i2l hX dX13_looks_35 (t := 36) rfl ?_
      obtain ⟨x8, h7, hF⟩ := bnd_e hF
      have k9 := (ctX13_isIn (l := l) (G := G) (w := w) (((w 15).1 0 7).toInt64) p1.toInt64 p2.toInt64 h7)
      refine J_callS hX [.long (((w 15).1 0 7).toInt64), .long p1.toInt64, .long p2.toInt64] [] [.int (bI x8)] k9 miX13_isIn q_2094 q_2093 ⟨rfl, rfl, Nat.le_of_ble_eq_true rfl, Nat.le_of_ble_eq_true rfl⟩ rfl rfl (Nat.le_of_ble_eq_true rfl) ⟨Nat.le_of_ble_eq_true rfl, Nat.le_of_ble_eq_true rfl⟩ dX13_looks_36 (t := 39) rfl rfl ?_
      refine J_ifZ_ne (tgt := 47) hX dX13_looks_39 (by decide) (t := 42) rfl (fun z => ?_) (fun z => ?_)
      · replace hF := it_t hF z
        refine J_aload_n hX dX13_looks_47 0 rfl (t := 48) rfl ?_
        refine J_get hX cb10 kModel 7 (by decide) q_1974 rfl dX13_looks_48 (t := 51) rfl ?_
        obtain ⟨hF, hF2⟩ := Prod.mk.inj hF
        subst hF
        subst hF2
        exact J_iret hX hR hlk dX13_looks_51
      · replace hF := ib_f hF z
        refine J_aload_n hX dX13_looks_42 0 rfl (t := 43) rfl ?_
        refine J_iconst (v := 2) hX dX13_looks_43 (by decide) (t := 44) rfl ?_
        obtain ⟨w11, h10, hF⟩ := bnd_e hF
        have k12 := (ctX13_wrong (G := G) (l := l) w 2 h10)
        refine J_callV hX [.int 2] [] [] k12 miX13_wrong mvX13_wrong cb10 kModel q_2395 ⟨rfl, rfl, Nat.le_of_ble_eq_true rfl, Nat.le_of_ble_eq_true rfl⟩ rfl rfl (Nat.le_of_ble_eq_true rfl) ⟨Nat.le_of_ble_eq_true rfl, Nat.le_of_ble_eq_true rfl⟩ dX13_looks_44 (t := 47) rfl rfl ?_
        refine J_aload_n hX dX13_looks_47 0 rfl (t := 48) rfl ?_
        refine J_get hX cb10 kModel 7 (by decide) q_1974 rfl dX13_looks_48 (t := 51) rfl ?_
        obtain ⟨hF, hF2⟩ := Prod.mk.inj hF
        subst hF
        subst hF2
        exact J_iret hX hR hlk dX13_looks_51
  · replace hF := it_t hF z
    refine J_aload_n hX dX13_looks_7 0 rfl (t := 8) rfl ?_
    refine J_get hX cb10 kModel 6 (by decide) q_1973 rfl dX13_looks_8 (t := 11) rfl ?_
    refine J_iconst (v := 2) hX dX13_looks_11 (by decide) (t := 12) rfl ?_
    refine J_icmp_eq (tgt := 20) hX dX13_looks_12 (by decide) (t := 15) rfl (fun z => ?_) (fun z => ?_)
    · replace hF := it_t hF z
      refine J_aload_n hX dX13_looks_20 0 rfl (t := 21) rfl ?_
      obtain ⟨x14, h13, hF⟩ := bnd_e hF
      have k15 := (ctX13_isGood (G := G) (l := l) w  h13)
      refine J_callV hX [] [] [.int (bI x14)] k15 miX13_isGood mvX13_isGood cb10 kModel q_2387 ⟨rfl, rfl, Nat.le_of_ble_eq_true rfl, Nat.le_of_ble_eq_true rfl⟩ rfl rfl (Nat.le_of_ble_eq_true rfl) ⟨Nat.le_of_ble_eq_true rfl, Nat.le_of_ble_eq_true rfl⟩ dX13_looks_21 (t := 24) rfl rfl ?_
      refine J_ifZ_eq (tgt := 47) hX dX13_looks_24 (by decide) (t := 27) rfl (fun z => ?_) (fun z => ?_)
      · replace hF := ib_f hF z
        refine J_aload_n hX dX13_looks_47 0 rfl (t := 48) rfl ?_
        refine J_get hX cb10 kModel 7 (by decide) q_1974 rfl dX13_looks_48 (t := 51) rfl ?_
        obtain ⟨hF, hF2⟩ := Prod.mk.inj hF
        subst hF
        subst hF2
        exact J_iret hX hR hlk dX13_looks_51
      · replace hF := it_t hF z
        refine J_aload_n hX dX13_looks_27 0 rfl (t := 28) rfl ?_
        refine J_get hX cb10 kModel 7 (by decide) q_1974 rfl dX13_looks_28 (t := 31) rfl ?_
        refine J_i2l hX dX13_looks_31 (t := 32) rfl ?_
        refine J_iload_n hX dX13_looks_32 1 rfl (t := 33) rfl ?_
        refine J_i2l hX dX13_looks_33 (t := 34) rfl ?_
        refine J_iload_n hX dX13_looks_34 2 rfl (t := 35) rfl ?_
        refine J_i2l hX dX13_looks_35 (t := 36) rfl ?_
        obtain ⟨x17, h16, hF⟩ := bnd_e hF
        have k18 := (ctX13_isIn (l := l) (G := G) (w := w) (((w 15).1 0 7).toInt64) p1.toInt64 p2.toInt64 h16)
        refine J_callS hX [.long (((w 15).1 0 7).toInt64), .long p1.toInt64, .long p2.toInt64] [] [.int (bI x17)] k18 miX13_isIn q_2094 q_2093 ⟨rfl, rfl, Nat.le_of_ble_eq_true rfl, Nat.le_of_ble_eq_true rfl⟩ rfl rfl (Nat.le_of_ble_eq_true rfl) ⟨Nat.le_of_ble_eq_true rfl, Nat.le_of_ble_eq_true rfl⟩ dX13_looks_36 (t := 39) rfl rfl ?_
        refine J_ifZ_ne (tgt := 47) hX dX13_looks_39 (by decide) (t := 42) rfl (fun z => ?_) (fun z => ?_)
        · replace hF := it_t hF z
          refine J_aload_n hX dX13_looks_47 0 rfl (t := 48) rfl ?_
          refine J_get hX cb10 kModel 7 (by decide) q_1974 rfl dX13_looks_48 (t := 51) rfl ?_
          obtain ⟨hF, hF2⟩ := Prod.mk.inj hF
          subst hF
          subst hF2
          exact J_iret hX hR hlk dX13_looks_51
        · replace hF := ib_f hF z
          refine J_aload_n hX dX13_looks_42 0 rfl (t := 43) rfl ?_
          refine J_iconst (v := 2) hX dX13_looks_43 (by decide) (t := 44) rfl ?_
          obtain ⟨w20, h19, hF⟩ := bnd_e hF
          have k21 := (ctX13_wrong (G := G) (l := l) w 2 h19)
          refine J_callV hX [.int 2] [] [] k21 miX13_wrong mvX13_wrong cb10 kModel q_2395 ⟨rfl, rfl, Nat.le_of_ble_eq_true rfl, Nat.le_of_ble_eq_true rfl⟩ rfl rfl (Nat.le_of_ble_eq_true rfl) ⟨Nat.le_of_ble_eq_true rfl, Nat.le_of_ble_eq_true rfl⟩ dX13_looks_44 (t := 47) rfl rfl ?_
          refine J_aload_n hX dX13_looks_47 0 rfl (t := 48) rfl ?_
          refine J_get hX cb10 kModel 7 (by decide) q_1974 rfl dX13_looks_48 (t := 51) rfl ?_
          obtain ⟨hF, hF2⟩ := Prod.mk.inj hF
          subst hF
          subst hF2
          exact J_iret hX hR hlk dX13_looks_51
    · replace hF := it_f hF z
      refine J_aload_n hX dX13_looks_15 0 rfl (t := 16) rfl ?_
      refine J_iconst (v := 1) hX dX13_looks_16 (by decide) (t := 17) rfl ?_
      obtain ⟨w23, h22, hF⟩ := bnd_e hF
      have k24 := (ctX13_wrong (G := G) (l := l) w 1 h22)
      refine J_callV hX [.int 1] [] [] k24 miX13_wrong mvX13_wrong cb10 kModel q_2395 ⟨rfl, rfl, Nat.le_of_ble_eq_true rfl, Nat.le_of_ble_eq_true rfl⟩ rfl rfl (Nat.le_of_ble_eq_true rfl) ⟨Nat.le_of_ble_eq_true rfl, Nat.le_of_ble_eq_true rfl⟩ dX13_looks_17 (t := 20) rfl rfl ?_
      refine J_aload_n hX dX13_looks_20 0 rfl (t := 21) rfl ?_
      obtain ⟨x26, h25, hF⟩ := bnd_e hF
      have k27 := (ctX13_isGood (G := G) (l := l) w23  h25)
      refine J_callV hX [] [] [.int (bI x26)] k27 miX13_isGood mvX13_isGood cb10 kModel q_2387 ⟨rfl, rfl, Nat.le_of_ble_eq_true rfl, Nat.le_of_ble_eq_true rfl⟩ rfl rfl (Nat.le_of_ble_eq_true rfl) ⟨Nat.le_of_ble_eq_true rfl, Nat.le_of_ble_eq_true rfl⟩ dX13_looks_21 (t := 24) rfl rfl ?_
      refine J_ifZ_eq (tgt := 47) hX dX13_looks_24 (by decide) (t := 27) rfl (fun z => ?_) (fun z => ?_)
      · replace hF := ib_f hF z
        refine J_aload_n hX dX13_looks_47 0 rfl (t := 48) rfl ?_
        refine J_get hX cb10 kModel 7 (by decide) q_1974 rfl dX13_looks_48 (t := 51) rfl ?_
        obtain ⟨hF, hF2⟩ := Prod.mk.inj hF
        subst hF
        subst hF2
        exact J_iret hX hR hlk dX13_looks_51
      · replace hF := it_t hF z
        refine J_aload_n hX dX13_looks_27 0 rfl (t := 28) rfl ?_
        refine J_get hX cb10 kModel 7 (by decide) q_1974 rfl dX13_looks_28 (t := 31) rfl ?_
        refine J_i2l hX dX13_looks_31 (t := 32) rfl ?_
        refine J_iload_n hX dX13_looks_32 1 rfl (t := 33) rfl ?_
        refine J_i2l hX dX13_looks_33 (t := 34) rfl ?_
        refine J_iload_n hX dX13_looks_34 2 rfl (t := 35) rfl ?_
        refine J_i2l hX dX13_looks_35 (t := 36) rfl ?_
        obtain ⟨x29, h28, hF⟩ := bnd_e hF
        have k30 := (ctX13_isIn (l := l) (G := G) (w := w23) (((w23 15).1 0 7).toInt64) p1.toInt64 p2.toInt64 h28)
        refine J_callS hX [.long (((w23 15).1 0 7).toInt64), .long p1.toInt64, .long p2.toInt64] [] [.int (bI x29)] k30 miX13_isIn q_2094 q_2093 ⟨rfl, rfl, Nat.le_of_ble_eq_true rfl, Nat.le_of_ble_eq_true rfl⟩ rfl rfl (Nat.le_of_ble_eq_true rfl) ⟨Nat.le_of_ble_eq_true rfl, Nat.le_of_ble_eq_true rfl⟩ dX13_looks_36 (t := 39) rfl rfl ?_
        refine J_ifZ_ne (tgt := 47) hX dX13_looks_39 (by decide) (t := 42) rfl (fun z => ?_) (fun z => ?_)
        · replace hF := it_t hF z
          refine J_aload_n hX dX13_looks_47 0 rfl (t := 48) rfl ?_
          refine J_get hX cb10 kModel 7 (by decide) q_1974 rfl dX13_looks_48 (t := 51) rfl ?_
          obtain ⟨hF, hF2⟩ := Prod.mk.inj hF
          subst hF
          subst hF2
          exact J_iret hX hR hlk dX13_looks_51
        · replace hF := ib_f hF z
          refine J_aload_n hX dX13_looks_42 0 rfl (t := 43) rfl ?_
          refine J_iconst (v := 2) hX dX13_looks_43 (by decide) (t := 44) rfl ?_
          obtain ⟨w32, h31, hF⟩ := bnd_e hF
          have k33 := (ctX13_wrong (G := G) (l := l) w23 2 h31)
          refine J_callV hX [.int 2] [] [] k33 miX13_wrong mvX13_wrong cb10 kModel q_2395 ⟨rfl, rfl, Nat.le_of_ble_eq_true rfl, Nat.le_of_ble_eq_true rfl⟩ rfl rfl (Nat.le_of_ble_eq_true rfl) ⟨Nat.le_of_ble_eq_true rfl, Nat.le_of_ble_eq_true rfl⟩ dX13_looks_44 (t := 47) rfl rfl ?_
          refine J_aload_n hX dX13_looks_47 0 rfl (t := 48) rfl ?_
          refine J_get hX cb10 kModel 7 (by decide) q_1974 rfl dX13_looks_48 (t := 51) rfl ?_
          obtain ⟨hF, hF2⟩ := Prod.mk.inj hF
          subst hF
          subst hF2
          exact J_iret hX hR hlk dX13_looks_51
abbrev rmX13_number : Room := { frames := 2, cells := 0, slots := 0, locals := 47 }
theorem miX13_number : MI yX13_number cX13_number 4 (some .int) 2 := ⟨q_2427, q_152, by decide +kernel, by decide +kernel, by decide +kernel, by decide +kernel⟩
theorem mvX13_number : MV yX13_number := ⟨q_2426, q_88⟩
def FX13_number (n : Nat) (w : Wd) (p1 : Int32) (p2 : Int32) : Option (Int32 × Wd) :=
  bnd2 (FX13_looks w p1 p2) fun x2 w3 =>
  bnd (FX13_isGood w3) fun x6 =>
  if x6 = true then
    bo1 (FX13_goOnRead n w3) fun w9 =>
    some (x2, w9)
  else
    some (x2, w3)
set_option maxHeartbeats 4000000 in
set_option maxRecDepth 100000 in
theorem ctX13_number {G : GG} {l : Launch} (w : Wd) (p1 : Int32) (p2 : Int32)  (n : Nat) {rx : Int32} {rw : Wd} (hF : FX13_number n w p1 p2 = some (rx, rw)) : CT G l yX13_number cX13_number 4 (some .int) rmX13_number 0 0 [.ref (adr G 15 0), .int p1, .int p2] w (some (.int rx)) rw := by
  refine CT.of miX13_number [(0, .ref (adr G 15 0)), (1, .int p1), (2, .int p2)] rfl (Nat.le_of_ble_eq_true rfl) ?_
  intro p e s m args below meth c hX hR hlk
  have hX : FX G RX13 cX13_number 4 p s m args c := hX
  unfold FX13_number at hF
  refine J_aload_n hX dX13_number_0 0 rfl (t := 1) rfl ?_
  refine J_iload_n hX dX13_number_1 1 rfl (t := 2) rfl ?_
  refine J_iload_n hX dX13_number_2 2 rfl (t := 3) rfl ?_
  obtain ⟨x2, w3, h1, hF⟩ := bnd2_e hF
  have k4 := (ctX13_looks (G := G) (l := l) w p1 p2 h1)
  refine J_callV hX [.int p1, .int p2] [] [.int x2] k4 miX13_looks mvX13_looks cb10 kModel q_2428 ⟨rfl, rfl, Nat.le_of_ble_eq_true rfl, Nat.le_of_ble_eq_true rfl⟩ rfl rfl (Nat.le_of_ble_eq_true rfl) ⟨Nat.le_of_ble_eq_true rfl, Nat.le_of_ble_eq_true rfl⟩ dX13_number_3 (t := 6) rfl rfl ?_
  refine J_istore_n (lc2 := [(3, .int x2), (0, .ref (adr G 15 0)), (1, .int p1), (2, .int p2)]) hX dX13_number_6 rfl (Nat.le_of_ble_eq_true rfl) rfl (t := 7) rfl ?_
  refine J_aload_n hX dX13_number_7 1 rfl (t := 8) rfl ?_
  obtain ⟨x6, h5, hF⟩ := bnd_e hF
  have k7 := (ctX13_isGood (G := G) (l := l) w3  h5)
  refine J_callV hX [] [] [.int (bI x6)] k7 miX13_isGood mvX13_isGood cb10 kModel q_2387 ⟨rfl, rfl, Nat.le_of_ble_eq_true rfl, Nat.le_of_ble_eq_true rfl⟩ rfl rfl (Nat.le_of_ble_eq_true rfl) ⟨Nat.le_of_ble_eq_true rfl, Nat.le_of_ble_eq_true rfl⟩ dX13_number_8 (t := 11) rfl rfl ?_
  refine J_ifZ_eq (tgt := 18) hX dX13_number_11 (by decide) (t := 14) rfl (fun z => ?_) (fun z => ?_)
  · replace hF := ib_f hF z
    refine J_iload_n hX dX13_number_18 0 rfl (t := 19) rfl ?_
    replace hF := Option.some.inj hF
    obtain ⟨hF, hF2⟩ := Prod.mk.inj hF
    subst hF
    subst hF2
    exact J_iret hX hR hlk dX13_number_19
  · replace hF := it_t hF z
    refine J_aload_n hX dX13_number_14 1 rfl (t := 15) rfl ?_
    obtain ⟨w9, h8, hF⟩ := bo1_e hF
    have k10 := (ctX13_goOnRead (G := G) (l := l) w3  n h8)
    refine J_callV hX [] [] [] k10 miX13_goOnRead mvX13_goOnRead cb10 kModel q_2371 ⟨rfl, rfl, Nat.le_of_ble_eq_true rfl, Nat.le_of_ble_eq_true rfl⟩ rfl rfl (Nat.le_of_ble_eq_true rfl) ⟨Nat.le_of_ble_eq_true rfl, Nat.le_of_ble_eq_true rfl⟩ dX13_number_15 (t := 18) rfl rfl ?_
    refine J_iload_n hX dX13_number_18 0 rfl (t := 19) rfl ?_
    replace hF := Option.some.inj hF
    obtain ⟨hF, hF2⟩ := Prod.mk.inj hF
    subst hF
    subst hF2
    exact J_iret hX hR hlk dX13_number_19
abbrev rmX13_beginsText : Room := { frames := 2, cells := 0, slots := 0, locals := 43 }
theorem miX13_beginsText : MI yX13_beginsText cX13_beginsText 1 none 0 := ⟨q_2370, q_152, by decide +kernel, by decide +kernel, by decide +kernel, by decide +kernel⟩
theorem mvX13_beginsText : MV yX13_beginsText := ⟨q_2369, q_75⟩
def FX13_beginsText (n : Nat) (w : Wd)  : Option (Wd) :=
  bnd (sW w 15 (sI (w 15) 0 3 ((w 15).1 0 2))) fun w1 =>
  bnd (sW w1 15 (sI (w1 15) 0 2 0)) fun w3 =>
  bnd (sW w3 15 (sI (w3 15) 0 4 0)) fun w5 =>
  bnd (sW w5 15 (sI (w5 15) 0 8 0)) fun w7 =>
  bnd (sW w7 15 (sI (w7 15) 0 9 (-1))) fun w9 =>
  bo1 (FX13_goOnRead n w9) fun w12 =>
  some w12
set_option maxHeartbeats 4000000 in
set_option maxRecDepth 100000 in
theorem ctX13_beginsText {G : GG} {l : Launch} (w : Wd)   (n : Nat) {rw : Wd} (hF : FX13_beginsText n w  = some rw) : CT G l yX13_beginsText cX13_beginsText 1 none rmX13_beginsText 0 0 [.ref (adr G 15 0)] w (none) rw := by
  refine CT.of miX13_beginsText [(0, .ref (adr G 15 0))] rfl (Nat.le_of_ble_eq_true rfl) ?_
  intro p e s m args below meth c hX hR hlk
  have hX : FX G RX13 cX13_beginsText 1 p s m args c := hX
  unfold FX13_beginsText at hF
  refine J_aload_n hX dX13_beginsText_0 0 rfl (t := 1) rfl ?_
  refine J_aload_n hX dX13_beginsText_1 0 rfl (t := 2) rfl ?_
  refine J_get hX cb10 kModel 2 (by decide) q_1969 rfl dX13_beginsText_2 (t := 5) rfl ?_
  obtain ⟨w1, e2, hF⟩ := bnd_e hF
  refine J_puti hX cb10 kModel 3 (by decide) q_1970 rfl rfl e2 (fun _ _ => Nat.le_of_ble_eq_true rfl) (fun _ _ => rfl) dX13_beginsText_5 (t := 8) rfl ?_
  refine J_aload_n hX dX13_beginsText_8 0 rfl (t := 9) rfl ?_
  refine J_iconst (v := 0) hX dX13_beginsText_9 (by decide) (t := 10) rfl ?_
  obtain ⟨w3, e4, hF⟩ := bnd_e hF
  refine J_puti hX cb10 kModel 2 (by decide) q_1969 rfl rfl e4 (fun _ _ => Nat.le_of_ble_eq_true rfl) (fun _ _ => rfl) dX13_beginsText_10 (t := 13) rfl ?_
  refine J_aload_n hX dX13_beginsText_13 0 rfl (t := 14) rfl ?_
  refine J_iconst (v := 0) hX dX13_beginsText_14 (by decide) (t := 15) rfl ?_
  obtain ⟨w5, e6, hF⟩ := bnd_e hF
  refine J_puti hX cb10 kModel 4 (by decide) q_1971 rfl rfl e6 (fun _ _ => Nat.le_of_ble_eq_true rfl) (fun _ _ => rfl) dX13_beginsText_15 (t := 18) rfl ?_
  refine J_aload_n hX dX13_beginsText_18 0 rfl (t := 19) rfl ?_
  refine J_iconst (v := 0) hX dX13_beginsText_19 (by decide) (t := 20) rfl ?_
  obtain ⟨w7, e8, hF⟩ := bnd_e hF
  refine J_puti hX cb10 kModel 8 (by decide) q_1975 rfl rfl e8 (fun _ _ => Nat.le_of_ble_eq_true rfl) (fun _ _ => rfl) dX13_beginsText_20 (t := 23) rfl ?_
  refine J_aload_n hX dX13_beginsText_23 0 rfl (t := 24) rfl ?_
  refine J_iconst (v := (-1)) hX dX13_beginsText_24 (by decide) (t := 25) rfl ?_
  obtain ⟨w9, e10, hF⟩ := bnd_e hF
  refine J_puti hX cb10 kModel 9 (by decide) q_1976 rfl rfl e10 (fun _ _ => Nat.le_of_ble_eq_true rfl) (fun _ _ => rfl) dX13_beginsText_25 (t := 28) rfl ?_
  refine J_aload_n hX dX13_beginsText_28 0 rfl (t := 29) rfl ?_
  obtain ⟨w12, h11, hF⟩ := bo1_e hF
  have k13 := (ctX13_goOnRead (G := G) (l := l) w9  n h11)
  refine J_callV hX [] [] [] k13 miX13_goOnRead mvX13_goOnRead cb10 kModel q_2371 ⟨rfl, rfl, Nat.le_of_ble_eq_true rfl, Nat.le_of_ble_eq_true rfl⟩ rfl rfl (Nat.le_of_ble_eq_true rfl) ⟨Nat.le_of_ble_eq_true rfl, Nat.le_of_ble_eq_true rfl⟩ dX13_beginsText_29 (t := 32) rfl rfl ?_
  replace hF := Option.some.inj hF
  subst hF
  exact J_vret hX hR hlk dX13_beginsText_32
abbrev rmX13_endsText : Room := { frames := 2, cells := 0, slots := 0, locals := 41 }
theorem miX13_endsText : MI yX13_endsText cX13_endsText 1 (some .boolean) 0 := ⟨q_2470, q_152, by decide +kernel, by decide +kernel, by decide +kernel, by decide +kernel⟩
theorem mvX13_endsText : MV yX13_endsText := ⟨q_2469, q_97⟩
def FX13_endsText (w : Wd)  : Bool × Wd :=
  bnd (sW w 15 (sI (w 15) 0 10 ((w 15).1 0 8))) fun w1 =>
  bnd (sW w1 15 (sI (w1 15) 0 11 ((w1 15).1 0 9))) fun w3 =>
  if (w3 15).1 0 8 = 0 then
    bnd2 (FX13_goes w3 true) fun x10 w11 =>
    (x10, w11)
  else
    bnd2 (FX13_goes w3 false) fun x6 w7 =>
    (x6, w7)
set_option maxHeartbeats 4000000 in
set_option maxRecDepth 100000 in
theorem ctX13_endsText {G : GG} {l : Launch} (w : Wd)   {rx : Bool} {rw : Wd} (hF : FX13_endsText w  = (rx, rw)) : CT G l yX13_endsText cX13_endsText 1 (some .boolean) rmX13_endsText 0 0 [.ref (adr G 15 0)] w (some (.int (bI rx))) rw := by
  refine CT.of miX13_endsText [(0, .ref (adr G 15 0))] rfl (Nat.le_of_ble_eq_true rfl) ?_
  intro p e s m args below meth c hX hR hlk
  have hX : FX G RX13 cX13_endsText 1 p s m args c := hX
  unfold FX13_endsText at hF
  refine J_aload_n hX dX13_endsText_0 0 rfl (t := 1) rfl ?_
  refine J_aload_n hX dX13_endsText_1 0 rfl (t := 2) rfl ?_
  refine J_get hX cb10 kModel 8 (by decide) q_1975 rfl dX13_endsText_2 (t := 5) rfl ?_
  obtain ⟨w1, e2, hF⟩ := bnd_e hF
  refine J_puti hX cb10 kModel 10 (by decide) q_1977 rfl rfl e2 (fun _ _ => Nat.le_of_ble_eq_true rfl) (fun _ _ => rfl) dX13_endsText_5 (t := 8) rfl ?_
  refine J_aload_n hX dX13_endsText_8 0 rfl (t := 9) rfl ?_
  refine J_aload_n hX dX13_endsText_9 0 rfl (t := 10) rfl ?_
  refine J_get hX cb10 kModel 9 (by decide) q_1976 rfl dX13_endsText_10 (t := 13) rfl ?_
  obtain ⟨w3, e4, hF⟩ := bnd_e hF
  refine J_puti hX cb10 kModel 11 (by decide) q_1978 rfl rfl e4 (fun _ _ => Nat.le_of_ble_eq_true rfl) (fun _ _ => rfl) dX13_endsText_13 (t := 16) rfl ?_
  refine J_aload_n hX dX13_endsText_16 0 rfl (t := 17) rfl ?_
  refine J_aload_n hX dX13_endsText_17 0 rfl (t := 18) rfl ?_
  refine J_get hX cb10 kModel 8 (by decide) q_1975 rfl dX13_endsText_18 (t := 21) rfl ?_
  refine J_if_ne (tgt := 28) hX dX13_endsText_21 (by decide) (t := 24) rfl (fun z => ?_) (fun z => ?_)
  · replace hF := it_f hF z
    refine J_iconst (v := 0) hX dX13_endsText_28 (by decide) (t := 29) rfl ?_
    obtain ⟨x6, w7, h5, hF⟩ := bnd2_e hF
    have k8 := (ctX13_goes (G := G) (l := l) w3 false h5)
    refine J_callV hX [.int (bI false)] [] [.int (bI x6)] k8 miX13_goes mvX13_goes cb10 kModel q_2078 ⟨rfl, rfl, Nat.le_of_ble_eq_true rfl, Nat.le_of_ble_eq_true rfl⟩ rfl rfl (Nat.le_of_ble_eq_true rfl) ⟨Nat.le_of_ble_eq_true rfl, Nat.le_of_ble_eq_true rfl⟩ dX13_endsText_29 (t := 32) rfl rfl ?_
    obtain ⟨hF, hF2⟩ := Prod.mk.inj hF
    subst hF
    subst hF2
    exact J_zret (b := x6) hX hR hlk dX13_endsText_32
  · replace hF := it_t hF z
    refine J_iconst (v := 1) hX dX13_endsText_24 (by decide) (t := 25) rfl ?_
    refine J_goto (tgt := 29) hX dX13_endsText_25 (by decide) ?_
    obtain ⟨x10, w11, h9, hF⟩ := bnd2_e hF
    have k12 := (ctX13_goes (G := G) (l := l) w3 true h9)
    refine J_callV hX [.int (bI true)] [] [.int (bI x10)] k12 miX13_goes mvX13_goes cb10 kModel q_2078 ⟨rfl, rfl, Nat.le_of_ble_eq_true rfl, Nat.le_of_ble_eq_true rfl⟩ rfl rfl (Nat.le_of_ble_eq_true rfl) ⟨Nat.le_of_ble_eq_true rfl, Nat.le_of_ble_eq_true rfl⟩ dX13_endsText_29 (t := 32) rfl rfl ?_
    obtain ⟨hF, hF2⟩ := Prod.mk.inj hF
    subst hF
    subst hF2
    exact J_zret (b := x10) hX hR hlk dX13_endsText_32
abbrev rmX13_errorCode : Room := { frames := 0, cells := 0, slots := 0, locals := 0 }
theorem miX13_errorCode : MI yX13_errorCode cX13_errorCode 1 (some .int) 0 := ⟨q_2099, q_152, by decide +kernel, by decide +kernel, by decide +kernel, by decide +kernel⟩
theorem mvX13_errorCode : MV yX13_errorCode := ⟨q_2097, q_2098⟩
def FX13_errorCode (w : Wd)  : Int32 × Wd :=
  bnd (sW w 15 (sI (w 15) 0 0 0)) fun w1 =>
  ((w1 15).1 0 10, w1)
set_option maxHeartbeats 4000000 in
set_option maxRecDepth 100000 in
theorem ctX13_errorCode {G : GG} {l : Launch} (w : Wd)   {rx : Int32} {rw : Wd} (hF : FX13_errorCode w  = (rx, rw)) : CT G l yX13_errorCode cX13_errorCode 1 (some .int) rmX13_errorCode 0 0 [.ref (adr G 15 0)] w (some (.int rx)) rw := by
  refine CT.of miX13_errorCode [(0, .ref (adr G 15 0))] rfl (Nat.le_of_ble_eq_true rfl) ?_
  intro p e s m args below meth c hX hR hlk
  have hX : FX G RX13 cX13_errorCode 1 p s m args c := hX
  unfold FX13_errorCode at hF
  refine J_aload_n hX dX13_errorCode_0 0 rfl (t := 1) rfl ?_
  refine J_iconst (v := 0) hX dX13_errorCode_1 (by decide) (t := 2) rfl ?_
  obtain ⟨w1, e2, hF⟩ := bnd_e hF
  refine J_puti hX cb10 kModel 0 (by decide) q_1967 rfl rfl e2 (fun _ _ => Nat.le_of_ble_eq_true rfl) (fun _ _ => rfl) dX13_errorCode_2 (t := 5) rfl ?_
  refine J_aload_n hX dX13_errorCode_5 0 rfl (t := 6) rfl ?_
  refine J_get hX cb10 kModel 10 (by decide) q_1977 rfl dX13_errorCode_6 (t := 9) rfl ?_
  obtain ⟨hF, hF2⟩ := Prod.mk.inj hF
  subst hF
  subst hF2
  exact J_iret hX hR hlk dX13_errorCode_9
abbrev rmX13_errorOffset : Room := { frames := 0, cells := 0, slots := 0, locals := 0 }
theorem miX13_errorOffset : MI yX13_errorOffset cX13_errorOffset 1 (some .int) 0 := ⟨q_2103, q_152, by decide +kernel, by decide +kernel, by decide +kernel, by decide +kernel⟩
theorem mvX13_errorOffset : MV yX13_errorOffset := ⟨q_2101, q_2102⟩
def FX13_errorOffset (w : Wd)  : Int32 × Wd :=
  bnd (sW w 15 (sI (w 15) 0 0 0)) fun w1 =>
  ((w1 15).1 0 11, w1)
set_option maxHeartbeats 4000000 in
set_option maxRecDepth 100000 in
theorem ctX13_errorOffset {G : GG} {l : Launch} (w : Wd)   {rx : Int32} {rw : Wd} (hF : FX13_errorOffset w  = (rx, rw)) : CT G l yX13_errorOffset cX13_errorOffset 1 (some .int) rmX13_errorOffset 0 0 [.ref (adr G 15 0)] w (some (.int rx)) rw := by
  refine CT.of miX13_errorOffset [(0, .ref (adr G 15 0))] rfl (Nat.le_of_ble_eq_true rfl) ?_
  intro p e s m args below meth c hX hR hlk
  have hX : FX G RX13 cX13_errorOffset 1 p s m args c := hX
  unfold FX13_errorOffset at hF
  refine J_aload_n hX dX13_errorOffset_0 0 rfl (t := 1) rfl ?_
  refine J_iconst (v := 0) hX dX13_errorOffset_1 (by decide) (t := 2) rfl ?_
  obtain ⟨w1, e2, hF⟩ := bnd_e hF
  refine J_puti hX cb10 kModel 0 (by decide) q_1967 rfl rfl e2 (fun _ _ => Nat.le_of_ble_eq_true rfl) (fun _ _ => rfl) dX13_errorOffset_2 (t := 5) rfl ?_
  refine J_aload_n hX dX13_errorOffset_5 0 rfl (t := 6) rfl ?_
  refine J_get hX cb10 kModel 11 (by decide) q_1978 rfl dX13_errorOffset_6 (t := 9) rfl ?_
  obtain ⟨hF, hF2⟩ := Prod.mk.inj hF
  subst hF
  subst hF2
  exact J_iret hX hR hlk dX13_errorOffset_9
abbrev rmX13_bufferName : Room := { frames := 1, cells := 0, slots := 0, locals := 25 }
theorem miX13_bufferName : MI yX13_bufferName cX13_bufferName 4 (some .long) 0 := ⟨q_2126, q_152, by decide +kernel, by decide +kernel, by decide +kernel, by decide +kernel⟩
theorem mvX13_bufferName : MV yX13_bufferName := ⟨q_2125, q_35⟩
def FX13_bufferName_L21 (n : Nat) : Nat → Wd → Int64 → Int32 → Option (Int64)
  | 0 => fun _ _ _ => none
  | k + 1 => fun w l1 l3 =>
    if (w 15).1 0 2 ≤ l3 then
      some l1
    else
      gd (inb l3 600) <|
      bnd (FX13_isLetter ((w 15).1 1 l3.toNatClampNeg)) fun x6 =>
      if x6 = true then
        gd (inb l3 600) <|
        FX13_bufferName_L21 n k w ((l1 <<< ((5 : Int32).toInt64 &&& 63)) ||| (((((w 15).1 1 l3.toNatClampNeg) - 97) + 1).toInt64)) (l3 + 1)
      else
        some 0
set_option maxHeartbeats 4000000 in
set_option maxRecDepth 100000 in
theorem LX13_bufferName_21 {G : GG} {l : Launch} {p : Program} {e : Env} {s : State} {m : MethodId} {args : Array Value} {below : List Frame} {meth : Method} {c : Code} (hX : FX G RX13 cX13_bufferName 4 p s m args c) (hR : meth.sig.returnType = (some .long)) (hlk : meth.locks = false) {rx : Int64} (n : Nat) : ∀ (k : Nat) (w : Wd) (l1 : Int64) (l3 : Int32) , FX13_bufferName_L21 n k w l1 l3 = some rx → J G p l e rmX13_bufferName s m args below meth c 4 0 0 (MQ below (QV G (some (.long rx)) w) args s 0 0 (gA G)) (GH G w) 21 [(0, .ref (adr G 15 0)), (1, .long l1), (3, .int l3)] [] := by
  intro k
  induction k with
  | zero => intro w l1 l3  hF; cases hF
  | succ k ih =>
    intro w l1 l3  hF
    simp only [FX13_bufferName_L21] at hF
    refine J_iload_n hX dX13_bufferName_21 2 rfl (t := 22) rfl ?_
    refine J_aload_n hX dX13_bufferName_22 0 rfl (t := 23) rfl ?_
    refine J_get hX cb10 kModel 2 (by decide) q_1969 rfl dX13_bufferName_23 (t := 26) rfl ?_
    refine J_icmp_ge (tgt := 66) hX dX13_bufferName_26 (by decide) (t := 29) rfl (fun z => ?_) (fun z => ?_)
    · replace hF := it_t hF z
      refine J_lload_n hX dX13_bufferName_66 1 rfl (t := 67) rfl ?_
      replace hF := Option.some.inj hF
      subst hF
      exact J_lret hX hR hlk dX13_bufferName_67
    · replace hF := it_f hF z
      refine J_aload_n hX dX13_bufferName_29 0 rfl (t := 30) rfl ?_
      refine J_get hX cb10 kModel 1 (by decide) q_1968 rfl dX13_bufferName_30 (t := 33) rfl ?_
      refine J_iload_n hX dX13_bufferName_33 2 rfl (t := 34) rfl ?_
      obtain ⟨g4, hF⟩ := gd_e hF
      refine J_iald hX (kInts (j := 1) (n := 600) (by decide) (by decide) rfl) g4 rfl dX13_bufferName_34 (t := 35) rfl ?_
      obtain ⟨x6, h5, hF⟩ := bnd_e hF
      have k7 := (ctX13_isLetter (l := l) (G := G) (w := w) ((w 15).1 1 l3.toNatClampNeg) h5)
      refine J_callS hX [.int ((w 15).1 1 l3.toNatClampNeg)] [] [.int (bI x6)] k7 miX13_isLetter q_2129 q_2128 ⟨rfl, rfl, Nat.le_of_ble_eq_true rfl, Nat.le_of_ble_eq_true rfl⟩ rfl rfl (Nat.le_of_ble_eq_true rfl) ⟨Nat.le_of_ble_eq_true rfl, Nat.le_of_ble_eq_true rfl⟩ dX13_bufferName_35 (t := 38) rfl rfl ?_
      refine J_ifZ_ne (tgt := 43) hX dX13_bufferName_38 (by decide) (t := 41) rfl (fun z => ?_) (fun z => ?_)
      · replace hF := it_t hF z
        refine J_lload_n hX dX13_bufferName_43 1 rfl (t := 44) rfl ?_
        refine J_iconst (v := 5) hX dX13_bufferName_44 (by decide) (t := 45) rfl ?_
        refine J_lshl hX dX13_bufferName_45 (t := 46) rfl ?_
        refine J_aload_n hX dX13_bufferName_46 0 rfl (t := 47) rfl ?_
        refine J_get hX cb10 kModel 1 (by decide) q_1968 rfl dX13_bufferName_47 (t := 50) rfl ?_
        refine J_iload_n hX dX13_bufferName_50 2 rfl (t := 51) rfl ?_
        obtain ⟨g8, hF⟩ := gd_e hF
        refine J_iald hX (kInts (j := 1) (n := 600) (by decide) (by decide) rfl) g8 rfl dX13_bufferName_51 (t := 52) rfl ?_
        refine J_bipush (v := 97) hX dX13_bufferName_52 (by decide) (t := 54) rfl ?_
        refine J_isub hX dX13_bufferName_54 (t := 55) rfl ?_
        refine J_iconst (v := 1) hX dX13_bufferName_55 (by decide) (t := 56) rfl ?_
        refine J_iadd hX dX13_bufferName_56 (t := 57) rfl ?_
        refine J_i2l hX dX13_bufferName_57 (t := 58) rfl ?_
        refine J_lor hX dX13_bufferName_58 (t := 59) rfl ?_
        refine J_lstore_n (lc2 := [(1, .long ((l1 <<< ((5 : Int32).toInt64 &&& 63)) ||| (((((w 15).1 1 l3.toNatClampNeg) - 97) + 1).toInt64))), (0, .ref (adr G 15 0)), (3, .int l3)]) hX dX13_bufferName_59 rfl (Nat.le_of_ble_eq_true rfl) rfl (t := 60) rfl ?_
        refine J_iinc (v := l3 + 1) (lc2 := [(3, .int (l3 + 1)), (1, .long ((l1 <<< ((5 : Int32).toInt64 &&& 63)) ||| (((((w 15).1 1 l3.toNatClampNeg) - 97) + 1).toInt64))), (0, .ref (adr G 15 0))]) hX dX13_bufferName_60 2 rfl rfl (Nat.le_of_ble_eq_true rfl) rfl (t := 63) rfl ?_
        refine J_goto (tgt := 21) hX dX13_bufferName_63 (by decide) ?_
        refine J_sub (lc2 := [(0, .ref (adr G 15 0)), (1, .long ((l1 <<< ((5 : Int32).toInt64 &&& 63)) ||| (((((w 15).1 1 l3.toNatClampNeg) - 97) + 1).toInt64))), (3, .int (l3 + 1))]) [2, 1, 0] rfl ?_
        exact ih w ((l1 <<< ((5 : Int32).toInt64 &&& 63)) ||| (((((w 15).1 1 l3.toNatClampNeg) - 97) + 1).toInt64)) (l3 + 1) hF
      · replace hF := ib_f hF z
        refine J_lconst (v := 0) hX dX13_bufferName_41 (by decide) (t := 42) rfl ?_
        replace hF := Option.some.inj hF
        subst hF
        exact J_lret hX hR hlk dX13_bufferName_42
def FX13_bufferName (n : Nat) (w : Wd)  : Option (Int64) :=
  bnd (FX13_isIn (((w 15).1 0 2).toInt64) 1 8) fun x2 =>
  if x2 = true then
    FX13_bufferName_L21 n n w 0 0
  else
    some 0
set_option maxHeartbeats 4000000 in
set_option maxRecDepth 100000 in
theorem ctX13_bufferName {G : GG} {l : Launch} (w : Wd)   (n : Nat) {rx : Int64} (hF : FX13_bufferName n w  = some rx) : CT G l yX13_bufferName cX13_bufferName 4 (some .long) rmX13_bufferName 0 0 [.ref (adr G 15 0)] w (some (.long rx)) w := by
  refine CT.of miX13_bufferName [(0, .ref (adr G 15 0))] rfl (Nat.le_of_ble_eq_true rfl) ?_
  intro p e s m args below meth c hX hR hlk
  have hX : FX G RX13 cX13_bufferName 4 p s m args c := hX
  unfold FX13_bufferName at hF
  refine J_aload_n hX dX13_bufferName_0 0 rfl (t := 1) rfl ?_
  refine J_get hX cb10 kModel 2 (by decide) q_1969 rfl dX13_bufferName_1 (t := 4) rfl ?_
  refine J_i2l hX dX13_bufferName_4 (t := 5) rfl ?_
  refine J_lconst (v := 1) hX dX13_bufferName_5 (by decide) (t := 6) rfl ?_
  refine J_ldc2 hX dX13_bufferName_6 q_2127 (t := 9) rfl ?_
  obtain ⟨x2, h1, hF⟩ := bnd_e hF
  have k3 := (ctX13_isIn (l := l) (G := G) (w := w) (((w 15).1 0 2).toInt64) 1 8 h1)
  refine J_callS hX [.long (((w 15).1 0 2).toInt64), .long 1, .long 8] [] [.int (bI x2)] k3 miX13_isIn q_2094 q_2093 ⟨rfl, rfl, Nat.le_of_ble_eq_true rfl, Nat.le_of_ble_eq_true rfl⟩ rfl rfl (Nat.le_of_ble_eq_true rfl) ⟨Nat.le_of_ble_eq_true rfl, Nat.le_of_ble_eq_true rfl⟩ dX13_bufferName_9 (t := 12) rfl rfl ?_
  refine J_ifZ_ne (tgt := 17) hX dX13_bufferName_12 (by decide) (t := 15) rfl (fun z => ?_) (fun z => ?_)
  · replace hF := it_t hF z
    refine J_lconst (v := 0) hX dX13_bufferName_17 (by decide) (t := 18) rfl ?_
    refine J_lstore_n (lc2 := [(1, .long 0), (0, .ref (adr G 15 0))]) hX dX13_bufferName_18 rfl (Nat.le_of_ble_eq_true rfl) rfl (t := 19) rfl ?_
    refine J_iconst (v := 0) hX dX13_bufferName_19 (by decide) (t := 20) rfl ?_
    refine J_istore_n (lc2 := [(3, .int 0), (1, .long 0), (0, .ref (adr G 15 0))]) hX dX13_bufferName_20 rfl (Nat.le_of_ble_eq_true rfl) rfl (t := 21) rfl ?_
    refine J_sub (lc2 := [(0, .ref (adr G 15 0)), (1, .long 0), (3, .int 0)]) [2, 1, 0] rfl ?_
    exact LX13_bufferName_21 hX hR hlk n n w 0 0 hF
  · replace hF := ib_f hF z
    refine J_lconst (v := 0) hX dX13_bufferName_15 (by decide) (t := 16) rfl ?_
    replace hF := Option.some.inj hF
    subst hF
    exact J_lret hX hR hlk dX13_bufferName_16
abbrev rmX13_copiesRow : Room := { frames := 0, cells := 0, slots := 0, locals := 0 }
theorem miX13_copiesRow : MI yX13_copiesRow cX13_copiesRow 5 none 4 := ⟨q_2110, q_152, by decide +kernel, by decide +kernel, by decide +kernel, by decide +kernel⟩
def FX13_copiesRow_L3 (n : Nat) : Nat → Wd → Nat → Int32 → Nat → Int32 → Int32 → Option (Wd)
  | 0 => fun _ _ _ _ _ _ => none
  | k + 1 => fun w l0 l1 l2 l3 l4 =>
    if 390 ≤ l4 then
      some w
    else
      gd (inb (l1 + l4) (modLen l0)) <|
      gd (inb (l3 + l4) (modLen l2)) <| bnd (sW w 15 (sI (w 15) l2 ((l3 + l4).toNatClampNeg) ((w 15).1 l0 ((l1 + l4).toNatClampNeg)))) fun w3 =>
      FX13_copiesRow_L3 n k w3 l0 l1 l2 l3 (l4 + 1)
set_option maxHeartbeats 4000000 in
set_option maxRecDepth 100000 in
theorem LX13_copiesRow_3 {G : GG} {l : Launch} {p : Program} {e : Env} {s : State} {m : MethodId} {args : Array Value} {below : List Frame} {meth : Method} {c : Code} (hX : FX G RX13 cX13_copiesRow 5 p s m args c) (hR : meth.sig.returnType = none) (hlk : meth.locks = false) {rw : Wd} (n : Nat) : ∀ (k : Nat) (w : Wd) (l0 : Nat) (l1 : Int32) (l2 : Nat) (l3 : Int32) (l4 : Int32) (hl0 : 1 ≤ l0 ∧ l0 < 15) (hl2 : 1 ≤ l2 ∧ l2 < 15), FX13_copiesRow_L3 n k w l0 l1 l2 l3 l4 = some rw → J G p l e rmX13_copiesRow s m args below meth c 5 0 0 (MQ below (QV G (none) rw) args s 0 0 (gA G)) (GH G w) 3 [(0, .ref (adr G 15 l0)), (1, .int l1), (2, .ref (adr G 15 l2)), (3, .int l3), (4, .int l4)] [] := by
  intro k
  induction k with
  | zero => intro w l0 l1 l2 l3 l4 hl0 hl2 hF; cases hF
  | succ k ih =>
    intro w l0 l1 l2 l3 l4 hl0 hl2 hF
    simp only [FX13_copiesRow_L3] at hF
    refine J_iload hX dX13_copiesRow_3 4 rfl (t := 5) rfl ?_
    refine J_sipush (v := 390) hX dX13_copiesRow_5 (by decide) (t := 8) rfl ?_
    refine J_icmp_ge (tgt := 29) hX dX13_copiesRow_8 (by decide) (t := 11) rfl (fun z => ?_) (fun z => ?_)
    · replace hF := it_t hF z
      replace hF := Option.some.inj hF
      subst hF
      exact J_vret hX hR hlk dX13_copiesRow_29
    · replace hF := it_f hF z
      refine J_aload_n hX dX13_copiesRow_11 2 rfl (t := 12) rfl ?_
      refine J_iload_n hX dX13_copiesRow_12 3 rfl (t := 13) rfl ?_
      refine J_iload hX dX13_copiesRow_13 4 rfl (t := 15) rfl ?_
      refine J_iadd hX dX13_copiesRow_15 (t := 16) rfl ?_
      refine J_aload_n hX dX13_copiesRow_16 0 rfl (t := 17) rfl ?_
      refine J_iload_n hX dX13_copiesRow_17 1 rfl (t := 18) rfl ?_
      refine J_iload hX dX13_copiesRow_18 4 rfl (t := 20) rfl ?_
      refine J_iadd hX dX13_copiesRow_20 (t := 21) rfl ?_
      obtain ⟨g1, hF⟩ := gd_e hF
      refine J_iald hX (kInts hl0.1 hl0.2 rfl) g1 rfl dX13_copiesRow_21 (t := 22) rfl ?_
      obtain ⟨g2, hF⟩ := gd_e hF
      obtain ⟨w3, e4, hF⟩ := bnd_e hF
      refine J_iast hX (kInts hl2.1 hl2.2 rfl) g2 rfl e4 dX13_copiesRow_22 (t := 23) rfl ?_
      refine J_iinc (v := l4 + 1) (lc2 := [(4, .int (l4 + 1)), (0, .ref (adr G 15 l0)), (1, .int l1), (2, .ref (adr G 15 l2)), (3, .int l3)]) hX dX13_copiesRow_23 4 rfl rfl (Nat.le_of_ble_eq_true rfl) rfl (t := 26) rfl ?_
      refine J_goto (tgt := 3) hX dX13_copiesRow_26 (by decide) ?_
      refine J_sub (lc2 := [(0, .ref (adr G 15 l0)), (1, .int l1), (2, .ref (adr G 15 l2)), (3, .int l3), (4, .int (l4 + 1))]) [1, 2, 3, 4, 0] rfl ?_
      exact ih w3 l0 l1 l2 l3 (l4 + 1) hl0 hl2 hF
def FX13_copiesRow (n : Nat) (w : Wd) (j0 : Nat) (p1 : Int32) (j2 : Nat) (p3 : Int32) : Option (Wd) :=
  FX13_copiesRow_L3 n n w j0 p1 j2 p3 0
set_option maxHeartbeats 4000000 in
set_option maxRecDepth 100000 in
theorem ctX13_copiesRow {G : GG} {l : Launch} (w : Wd) (j0 : Nat) (p1 : Int32) (j2 : Nat) (p3 : Int32) (hj0 : 1 ≤ j0 ∧ j0 < 15) (hj2 : 1 ≤ j2 ∧ j2 < 15) (n : Nat) {rw : Wd} (hF : FX13_copiesRow n w j0 p1 j2 p3 = some rw) : CT G l yX13_copiesRow cX13_copiesRow 5 none rmX13_copiesRow 0 0 [.ref (adr G 15 j0), .int p1, .ref (adr G 15 j2), .int p3] w (none) rw := by
  refine CT.of miX13_copiesRow [(0, .ref (adr G 15 j0)), (1, .int p1), (2, .ref (adr G 15 j2)), (3, .int p3)] rfl (Nat.le_of_ble_eq_true rfl) ?_
  intro p e s m args below meth c hX hR hlk
  have hX : FX G RX13 cX13_copiesRow 5 p s m args c := hX
  unfold FX13_copiesRow at hF
  refine J_iconst (v := 0) hX dX13_copiesRow_0 (by decide) (t := 1) rfl ?_
  refine J_istore (lc2 := [(4, .int 0), (0, .ref (adr G 15 j0)), (1, .int p1), (2, .ref (adr G 15 j2)), (3, .int p3)]) hX dX13_copiesRow_1 (Nat.le_of_ble_eq_true rfl) rfl (t := 3) rfl ?_
  refine J_sub (lc2 := [(0, .ref (adr G 15 j0)), (1, .int p1), (2, .ref (adr G 15 j2)), (3, .int p3), (4, .int 0)]) [1, 2, 3, 4, 0] rfl ?_
  exact LX13_copiesRow_3 hX hR hlk n n w j0 p1 j2 p3 0 hj0 hj2 hF
abbrev rmX13_begins : Room := { frames := 0, cells := 0, slots := 0, locals := 0 }
theorem miX13_begins : MI yX13_begins cX13_begins 2 none 0 := ⟨q_1966, q_152, by decide +kernel, by decide +kernel, by decide +kernel, by decide +kernel⟩
theorem mvX13_begins : MV yX13_begins := ⟨q_1965, q_32⟩
def FX13_begins_L2 (n : Nat) : Nat → Wd → Int32 → Option (Wd)
  | 0 => fun _ _ => none
  | k + 1 => fun w l1 =>
    if 390 ≤ l1 then
      some w
    else
      gd (inb l1 390) <| bnd (sW w 15 (sI (w 15) 2 l1.toNatClampNeg 0)) fun w2 =>
      FX13_begins_L2 n k w2 (l1 + 1)
set_option maxHeartbeats 4000000 in
set_option maxRecDepth 100000 in
theorem LX13_begins_2 {G : GG} {l : Launch} {p : Program} {e : Env} {s : State} {m : MethodId} {args : Array Value} {below : List Frame} {meth : Method} {c : Code} (hX : FX G RX13 cX13_begins 2 p s m args c) (hR : meth.sig.returnType = none) (hlk : meth.locks = false) {rw : Wd} (n : Nat) : ∀ (k : Nat) (w : Wd) (l1 : Int32) , FX13_begins_L2 n k w l1 = some rw → J G p l e rmX13_begins s m args below meth c 2 0 0 (MQ below (QV G (none) rw) args s 0 0 (gA G)) (GH G w) 2 [(0, .ref (adr G 15 0)), (1, .int l1)] [] := by
  intro k
  induction k with
  | zero => intro w l1  hF; cases hF
  | succ k ih =>
    intro w l1  hF
    simp only [FX13_begins_L2] at hF
    refine J_iload_n hX dX13_begins_2 1 rfl (t := 3) rfl ?_
    refine J_sipush (v := 390) hX dX13_begins_3 (by decide) (t := 6) rfl ?_
    refine J_icmp_ge (tgt := 22) hX dX13_begins_6 (by decide) (t := 9) rfl (fun z => ?_) (fun z => ?_)
    · replace hF := it_t hF z
      replace hF := Option.some.inj hF
      subst hF
      exact J_vret hX hR hlk dX13_begins_22
    · replace hF := it_f hF z
      refine J_aload_n hX dX13_begins_9 0 rfl (t := 10) rfl ?_
      refine J_get hX cb10 kModel 13 (by decide) q_1980 rfl dX13_begins_10 (t := 13) rfl ?_
      refine J_iload_n hX dX13_begins_13 1 rfl (t := 14) rfl ?_
      refine J_iconst (v := 0) hX dX13_begins_14 (by decide) (t := 15) rfl ?_
      obtain ⟨g1, hF⟩ := gd_e hF
      obtain ⟨w2, e3, hF⟩ := bnd_e hF
      refine J_iast hX (kInts (j := 2) (n := 390) (by decide) (by decide) rfl) g1 rfl e3 dX13_begins_15 (t := 16) rfl ?_
      refine J_iinc (v := l1 + 1) (lc2 := [(1, .int (l1 + 1)), (0, .ref (adr G 15 0))]) hX dX13_begins_16 1 rfl rfl (Nat.le_of_ble_eq_true rfl) rfl (t := 19) rfl ?_
      refine J_goto (tgt := 2) hX dX13_begins_19 (by decide) ?_
      refine J_sub (lc2 := [(0, .ref (adr G 15 0)), (1, .int (l1 + 1))]) [1, 0] rfl ?_
      exact ih w2 (l1 + 1) hF
def FX13_begins (n : Nat) (w : Wd)  : Option (Wd) :=
  FX13_begins_L2 n n w 0
set_option maxHeartbeats 4000000 in
set_option maxRecDepth 100000 in
theorem ctX13_begins {G : GG} {l : Launch} (w : Wd)   (n : Nat) {rw : Wd} (hF : FX13_begins n w  = some rw) : CT G l yX13_begins cX13_begins 2 none rmX13_begins 0 0 [.ref (adr G 15 0)] w (none) rw := by
  refine CT.of miX13_begins [(0, .ref (adr G 15 0))] rfl (Nat.le_of_ble_eq_true rfl) ?_
  intro p e s m args below meth c hX hR hlk
  have hX : FX G RX13 cX13_begins 2 p s m args c := hX
  unfold FX13_begins at hF
  refine J_iconst (v := 0) hX dX13_begins_0 (by decide) (t := 1) rfl ?_
  refine J_istore_n (lc2 := [(1, .int 0), (0, .ref (adr G 15 0))]) hX dX13_begins_1 rfl (Nat.le_of_ble_eq_true rfl) rfl (t := 2) rfl ?_
  refine J_sub (lc2 := [(0, .ref (adr G 15 0)), (1, .int 0)]) [1, 0] rfl ?_
  exact LX13_begins_2 hX hR hlk n n w 0 hF
abbrev rmX13_laysAside : Room := { frames := 1, cells := 0, slots := 0, locals := 24 }
theorem miX13_laysAside : MI yX13_laysAside cX13_laysAside 1 none 0 := ⟨q_2171, q_152, by decide +kernel, by decide +kernel, by decide +kernel, by decide +kernel⟩
theorem mvX13_laysAside : MV yX13_laysAside := ⟨q_2170, q_40⟩
def FX13_laysAside (n : Nat) (w : Wd)  : Option (Wd) :=
  bo1 (FX13_copiesRow n w 2 0 4 0) fun w2 =>
  some w2
set_option maxHeartbeats 4000000 in
set_option maxRecDepth 100000 in
theorem ctX13_laysAside {G : GG} {l : Launch} (w : Wd)   (n : Nat) {rw : Wd} (hF : FX13_laysAside n w  = some rw) : CT G l yX13_laysAside cX13_laysAside 1 none rmX13_laysAside 0 0 [.ref (adr G 15 0)] w (none) rw := by
  refine CT.of miX13_laysAside [(0, .ref (adr G 15 0))] rfl (Nat.le_of_ble_eq_true rfl) ?_
  intro p e s m args below meth c hX hR hlk
  have hX : FX G RX13 cX13_laysAside 1 p s m args c := hX
  unfold FX13_laysAside at hF
  refine J_aload_n hX dX13_laysAside_0 0 rfl (t := 1) rfl ?_
  refine J_get hX cb10 kModel 13 (by decide) q_1980 rfl dX13_laysAside_1 (t := 4) rfl ?_
  refine J_iconst (v := 0) hX dX13_laysAside_4 (by decide) (t := 5) rfl ?_
  refine J_aload_n hX dX13_laysAside_5 0 rfl (t := 6) rfl ?_
  refine J_get hX cb10 kModel 15 (by decide) q_1982 rfl dX13_laysAside_6 (t := 9) rfl ?_
  refine J_iconst (v := 0) hX dX13_laysAside_9 (by decide) (t := 10) rfl ?_
  obtain ⟨w2, h1, hF⟩ := bo1_e hF
  have k3 := (ctX13_copiesRow (G := G) (l := l) w 2 0 4 0 ⟨by decide, by decide⟩ ⟨by decide, by decide⟩ n h1)
  refine J_callS hX [.ref (adr G 15 2), .int 0, .ref (adr G 15 4), .int 0] [] [] k3 miX13_copiesRow q_2109 q_2108 ⟨rfl, rfl, Nat.le_of_ble_eq_true rfl, Nat.le_of_ble_eq_true rfl⟩ rfl rfl (Nat.le_of_ble_eq_true rfl) ⟨Nat.le_of_ble_eq_true rfl, Nat.le_of_ble_eq_true rfl⟩ dX13_laysAside_10 (t := 13) rfl rfl ?_
  replace hF := Option.some.inj hF
  subst hF
  exact J_vret hX hR hlk dX13_laysAside_13
abbrev rmX13_goesBack : Room := { frames := 1, cells := 0, slots := 0, locals := 24 }
theorem miX13_goesBack : MI yX13_goesBack cX13_goesBack 1 none 0 := ⟨q_2474, q_152, by decide +kernel, by decide +kernel, by decide +kernel, by decide +kernel⟩
theorem mvX13_goesBack : MV yX13_goesBack := ⟨q_2473, q_98⟩
def FX13_goesBack (n : Nat) (w : Wd)  : Option (Wd) :=
  bo1 (FX13_copiesRow n w 4 0 2 0) fun w2 =>
  some w2
set_option maxHeartbeats 4000000 in
set_option maxRecDepth 100000 in
theorem ctX13_goesBack {G : GG} {l : Launch} (w : Wd)   (n : Nat) {rw : Wd} (hF : FX13_goesBack n w  = some rw) : CT G l yX13_goesBack cX13_goesBack 1 none rmX13_goesBack 0 0 [.ref (adr G 15 0)] w (none) rw := by
  refine CT.of miX13_goesBack [(0, .ref (adr G 15 0))] rfl (Nat.le_of_ble_eq_true rfl) ?_
  intro p e s m args below meth c hX hR hlk
  have hX : FX G RX13 cX13_goesBack 1 p s m args c := hX
  unfold FX13_goesBack at hF
  refine J_aload_n hX dX13_goesBack_0 0 rfl (t := 1) rfl ?_
  refine J_get hX cb10 kModel 15 (by decide) q_1982 rfl dX13_goesBack_1 (t := 4) rfl ?_
  refine J_iconst (v := 0) hX dX13_goesBack_4 (by decide) (t := 5) rfl ?_
  refine J_aload_n hX dX13_goesBack_5 0 rfl (t := 6) rfl ?_
  refine J_get hX cb10 kModel 13 (by decide) q_1980 rfl dX13_goesBack_6 (t := 9) rfl ?_
  refine J_iconst (v := 0) hX dX13_goesBack_9 (by decide) (t := 10) rfl ?_
  obtain ⟨w2, h1, hF⟩ := bo1_e hF
  have k3 := (ctX13_copiesRow (G := G) (l := l) w 4 0 2 0 ⟨by decide, by decide⟩ ⟨by decide, by decide⟩ n h1)
  refine J_callS hX [.ref (adr G 15 4), .int 0, .ref (adr G 15 2), .int 0] [] [] k3 miX13_copiesRow q_2109 q_2108 ⟨rfl, rfl, Nat.le_of_ble_eq_true rfl, Nat.le_of_ble_eq_true rfl⟩ rfl rfl (Nat.le_of_ble_eq_true rfl) ⟨Nat.le_of_ble_eq_true rfl, Nat.le_of_ble_eq_true rfl⟩ dX13_goesBack_10 (t := 13) rfl rfl ?_
  replace hF := Option.some.inj hF
  subst hF
  exact J_vret hX hR hlk dX13_goesBack_13
abbrev rmX13_holds : Room := { frames := 1, cells := 0, slots := 0, locals := 24 }
theorem miX13_holds : MI yX13_holds cX13_holds 1 none 0 := ⟨q_2711, q_152, by decide +kernel, by decide +kernel, by decide +kernel, by decide +kernel⟩
theorem mvX13_holds : MV yX13_holds := ⟨q_2710, q_114⟩
def FX13_holds (n : Nat) (w : Wd)  : Option (Wd) :=
  bo1 (FX13_copiesRow n w 2 0 5 0) fun w2 =>
  some w2
set_option maxHeartbeats 4000000 in
set_option maxRecDepth 100000 in
theorem ctX13_holds {G : GG} {l : Launch} (w : Wd)   (n : Nat) {rw : Wd} (hF : FX13_holds n w  = some rw) : CT G l yX13_holds cX13_holds 1 none rmX13_holds 0 0 [.ref (adr G 15 0)] w (none) rw := by
  refine CT.of miX13_holds [(0, .ref (adr G 15 0))] rfl (Nat.le_of_ble_eq_true rfl) ?_
  intro p e s m args below meth c hX hR hlk
  have hX : FX G RX13 cX13_holds 1 p s m args c := hX
  unfold FX13_holds at hF
  refine J_aload_n hX dX13_holds_0 0 rfl (t := 1) rfl ?_
  refine J_get hX cb10 kModel 13 (by decide) q_1980 rfl dX13_holds_1 (t := 4) rfl ?_
  refine J_iconst (v := 0) hX dX13_holds_4 (by decide) (t := 5) rfl ?_
  refine J_aload_n hX dX13_holds_5 0 rfl (t := 6) rfl ?_
  refine J_get hX cb10 kModel 16 (by decide) q_1983 rfl dX13_holds_6 (t := 9) rfl ?_
  refine J_iconst (v := 0) hX dX13_holds_9 (by decide) (t := 10) rfl ?_
  obtain ⟨w2, h1, hF⟩ := bo1_e hF
  have k3 := (ctX13_copiesRow (G := G) (l := l) w 2 0 5 0 ⟨by decide, by decide⟩ ⟨by decide, by decide⟩ n h1)
  refine J_callS hX [.ref (adr G 15 2), .int 0, .ref (adr G 15 5), .int 0] [] [] k3 miX13_copiesRow q_2109 q_2108 ⟨rfl, rfl, Nat.le_of_ble_eq_true rfl, Nat.le_of_ble_eq_true rfl⟩ rfl rfl (Nat.le_of_ble_eq_true rfl) ⟨Nat.le_of_ble_eq_true rfl, Nat.le_of_ble_eq_true rfl⟩ dX13_holds_10 (t := 13) rfl rfl ?_
  replace hF := Option.some.inj hF
  subst hF
  exact J_vret hX hR hlk dX13_holds_13
abbrev rmX13_putBack : Room := { frames := 1, cells := 0, slots := 0, locals := 24 }
theorem miX13_putBack : MI yX13_putBack cX13_putBack 2 (some .int) 1 := ⟨q_2715, q_152, by decide +kernel, by decide +kernel, by decide +kernel, by decide +kernel⟩
theorem mvX13_putBack : MV yX13_putBack := ⟨q_2714, q_115⟩
def FX13_putBack (n : Nat) (w : Wd) (p1 : Int32) : Option (Int32 × Wd) :=
  bo1 (FX13_copiesRow n w 5 0 2 0) fun w2 =>
  some (p1, w2)
set_option maxHeartbeats 4000000 in
set_option maxRecDepth 100000 in
theorem ctX13_putBack {G : GG} {l : Launch} (w : Wd) (p1 : Int32)  (n : Nat) {rx : Int32} {rw : Wd} (hF : FX13_putBack n w p1 = some (rx, rw)) : CT G l yX13_putBack cX13_putBack 2 (some .int) rmX13_putBack 0 0 [.ref (adr G 15 0), .int p1] w (some (.int rx)) rw := by
  refine CT.of miX13_putBack [(0, .ref (adr G 15 0)), (1, .int p1)] rfl (Nat.le_of_ble_eq_true rfl) ?_
  intro p e s m args below meth c hX hR hlk
  have hX : FX G RX13 cX13_putBack 2 p s m args c := hX
  unfold FX13_putBack at hF
  refine J_aload_n hX dX13_putBack_0 0 rfl (t := 1) rfl ?_
  refine J_get hX cb10 kModel 16 (by decide) q_1983 rfl dX13_putBack_1 (t := 4) rfl ?_
  refine J_iconst (v := 0) hX dX13_putBack_4 (by decide) (t := 5) rfl ?_
  refine J_aload_n hX dX13_putBack_5 0 rfl (t := 6) rfl ?_
  refine J_get hX cb10 kModel 13 (by decide) q_1980 rfl dX13_putBack_6 (t := 9) rfl ?_
  refine J_iconst (v := 0) hX dX13_putBack_9 (by decide) (t := 10) rfl ?_
  obtain ⟨w2, h1, hF⟩ := bo1_e hF
  have k3 := (ctX13_copiesRow (G := G) (l := l) w 5 0 2 0 ⟨by decide, by decide⟩ ⟨by decide, by decide⟩ n h1)
  refine J_callS hX [.ref (adr G 15 5), .int 0, .ref (adr G 15 2), .int 0] [] [] k3 miX13_copiesRow q_2109 q_2108 ⟨rfl, rfl, Nat.le_of_ble_eq_true rfl, Nat.le_of_ble_eq_true rfl⟩ rfl rfl (Nat.le_of_ble_eq_true rfl) ⟨Nat.le_of_ble_eq_true rfl, Nat.le_of_ble_eq_true rfl⟩ dX13_putBack_10 (t := 13) rfl rfl ?_
  refine J_iload_n hX dX13_putBack_13 1 rfl (t := 14) rfl ?_
  replace hF := Option.some.inj hF
  obtain ⟨hF, hF2⟩ := Prod.mk.inj hF
  subst hF
  subst hF2
  exact J_iret hX hR hlk dX13_putBack_14
abbrev rmX13_keeps : Room := { frames := 1, cells := 0, slots := 0, locals := 24 }
theorem miX13_keeps : MI yX13_keeps cX13_keeps 2 none 0 := ⟨q_2188, q_152, by decide +kernel, by decide +kernel, by decide +kernel, by decide +kernel⟩
theorem mvX13_keeps : MV yX13_keeps := ⟨q_2187, q_44⟩
def FX13_keeps_L21 (n : Nat) : Nat → Wd → Int32 → Option (Wd)
  | 0 => fun _ _ => none
  | k + 1 => fun w l1 =>
    if 390 * ((w 15).1 0 18) ≤ l1 then
      bo1 (FX13_copiesRow n w 4 0 6 (390 * ((w 15).1 0 18))) fun w9 =>
      bnd (sW w9 15 (sI (w9 15) 0 18 (((w9 15).1 0 18) + 1))) fun w11 =>
      some w11
    else
      gd (inb (l1 + 390) 2340) <|
      gd (inb l1 2340) <| bnd (sW w 15 (sI (w 15) 6 l1.toNatClampNeg ((w 15).1 6 ((l1 + 390).toNatClampNeg)))) fun w15 =>
      FX13_keeps_L21 n k w15 (l1 + 1)
set_option maxHeartbeats 4000000 in
set_option maxRecDepth 100000 in
theorem LX13_keeps_21 {G : GG} {l : Launch} {p : Program} {e : Env} {s : State} {m : MethodId} {args : Array Value} {below : List Frame} {meth : Method} {c : Code} (hX : FX G RX13 cX13_keeps 2 p s m args c) (hR : meth.sig.returnType = none) (hlk : meth.locks = false) {rw : Wd} (n : Nat) : ∀ (k : Nat) (w : Wd) (l1 : Int32) , FX13_keeps_L21 n k w l1 = some rw → J G p l e rmX13_keeps s m args below meth c 2 0 0 (MQ below (QV G (none) rw) args s 0 0 (gA G)) (GH G w) 21 [(0, .ref (adr G 15 0)), (1, .int l1)] [] := by
  intro k
  induction k with
  | zero => intro w l1  hF; cases hF
  | succ k ih =>
    intro w l1  hF
    simp only [FX13_keeps_L21] at hF
    refine J_iload_n hX dX13_keeps_21 1 rfl (t := 22) rfl ?_
    refine J_sipush (v := 390) hX dX13_keeps_22 (by decide) (t := 25) rfl ?_
    refine J_aload_n hX dX13_keeps_25 0 rfl (t := 26) rfl ?_
    refine J_get hX cb10 kModel 18 (by decide) q_1985 rfl dX13_keeps_26 (t := 29) rfl ?_
    refine J_imul hX dX13_keeps_29 (t := 30) rfl ?_
    refine J_icmp_ge (tgt := 55) hX dX13_keeps_30 (by decide) (t := 33) rfl (fun z => ?_) (fun z => ?_)
    · replace hF := it_t hF z
      refine J_aload_n hX dX13_keeps_55 0 rfl (t := 56) rfl ?_
      refine J_get hX cb10 kModel 15 (by decide) q_1982 rfl dX13_keeps_56 (t := 59) rfl ?_
      refine J_iconst (v := 0) hX dX13_keeps_59 (by decide) (t := 60) rfl ?_
      refine J_aload_n hX dX13_keeps_60 0 rfl (t := 61) rfl ?_
      refine J_get hX cb10 kModel 17 (by decide) q_1984 rfl dX13_keeps_61 (t := 64) rfl ?_
      refine J_sipush (v := 390) hX dX13_keeps_64 (by decide) (t := 67) rfl ?_
      refine J_aload_n hX dX13_keeps_67 0 rfl (t := 68) rfl ?_
      refine J_get hX cb10 kModel 18 (by decide) q_1985 rfl dX13_keeps_68 (t := 71) rfl ?_
      refine J_imul hX dX13_keeps_71 (t := 72) rfl ?_
      obtain ⟨w9, h8, hF⟩ := bo1_e hF
      have k10 := (ctX13_copiesRow (G := G) (l := l) w 4 0 6 (390 * ((w 15).1 0 18)) ⟨by decide, by decide⟩ ⟨by decide, by decide⟩ n h8)
      refine J_callS hX [.ref (adr G 15 4), .int 0, .ref (adr G 15 6), .int (390 * ((w 15).1 0 18))] [] [] k10 miX13_copiesRow q_2109 q_2108 ⟨rfl, rfl, Nat.le_of_ble_eq_true rfl, Nat.le_of_ble_eq_true rfl⟩ rfl rfl (Nat.le_of_ble_eq_true rfl) ⟨Nat.le_of_ble_eq_true rfl, Nat.le_of_ble_eq_true rfl⟩ dX13_keeps_72 (t := 75) rfl rfl ?_
      refine J_aload_n hX dX13_keeps_75 0 rfl (t := 76) rfl ?_
      refine J_dup hX dX13_keeps_76 rfl (t := 77) rfl ?_
      refine J_get hX cb10 kModel 18 (by decide) q_1985 rfl dX13_keeps_77 (t := 80) rfl ?_
      refine J_iconst (v := 1) hX dX13_keeps_80 (by decide) (t := 81) rfl ?_
      refine J_iadd hX dX13_keeps_81 (t := 82) rfl ?_
      obtain ⟨w11, e12, hF⟩ := bnd_e hF
      refine J_puti hX cb10 kModel 18 (by decide) q_1985 rfl rfl e12 (fun _ _ => Nat.le_of_ble_eq_true rfl) (fun _ _ => rfl) dX13_keeps_82 (t := 85) rfl ?_
      replace hF := Option.some.inj hF
      subst hF
      exact J_vret hX hR hlk dX13_keeps_85
    · replace hF := it_f hF z
      refine J_aload_n hX dX13_keeps_33 0 rfl (t := 34) rfl ?_
      refine J_get hX cb10 kModel 17 (by decide) q_1984 rfl dX13_keeps_34 (t := 37) rfl ?_
      refine J_iload_n hX dX13_keeps_37 1 rfl (t := 38) rfl ?_
      refine J_aload_n hX dX13_keeps_38 0 rfl (t := 39) rfl ?_
      refine J_get hX cb10 kModel 17 (by decide) q_1984 rfl dX13_keeps_39 (t := 42) rfl ?_
      refine J_iload_n hX dX13_keeps_42 1 rfl (t := 43) rfl ?_
      refine J_sipush (v := 390) hX dX13_keeps_43 (by decide) (t := 46) rfl ?_
      refine J_iadd hX dX13_keeps_46 (t := 47) rfl ?_
      obtain ⟨g13, hF⟩ := gd_e hF
      refine J_iald hX (kInts (j := 6) (n := 2340) (by decide) (by decide) rfl) g13 rfl dX13_keeps_47 (t := 48) rfl ?_
      obtain ⟨g14, hF⟩ := gd_e hF
      obtain ⟨w15, e16, hF⟩ := bnd_e hF
      refine J_iast hX (kInts (j := 6) (n := 2340) (by decide) (by decide) rfl) g14 rfl e16 dX13_keeps_48 (t := 49) rfl ?_
      refine J_iinc (v := l1 + 1) (lc2 := [(1, .int (l1 + 1)), (0, .ref (adr G 15 0))]) hX dX13_keeps_49 1 rfl rfl (Nat.le_of_ble_eq_true rfl) rfl (t := 52) rfl ?_
      refine J_goto (tgt := 21) hX dX13_keeps_52 (by decide) ?_
      refine J_sub (lc2 := [(0, .ref (adr G 15 0)), (1, .int (l1 + 1))]) [1, 0] rfl ?_
      exact ih w15 (l1 + 1) hF
def FX13_keeps (n : Nat) (w : Wd)  : Option (Wd) :=
  if (w 15).1 0 18 = 6 then
    bnd (sW w 15 (sI (w 15) 0 18 (((w 15).1 0 18) - 1))) fun w6 =>
    FX13_keeps_L21 n n w6 0
  else
    bo1 (FX13_copiesRow n w 4 0 6 (390 * ((w 15).1 0 18))) fun w2 =>
    bnd (sW w2 15 (sI (w2 15) 0 18 (((w2 15).1 0 18) + 1))) fun w4 =>
    some w4
set_option maxHeartbeats 4000000 in
set_option maxRecDepth 100000 in
theorem ctX13_keeps {G : GG} {l : Launch} (w : Wd)   (n : Nat) {rw : Wd} (hF : FX13_keeps n w  = some rw) : CT G l yX13_keeps cX13_keeps 2 none rmX13_keeps 0 0 [.ref (adr G 15 0)] w (none) rw := by
  refine CT.of miX13_keeps [(0, .ref (adr G 15 0))] rfl (Nat.le_of_ble_eq_true rfl) ?_
  intro p e s m args below meth c hX hR hlk
  have hX : FX G RX13 cX13_keeps 2 p s m args c := hX
  unfold FX13_keeps at hF
  refine J_aload_n hX dX13_keeps_0 0 rfl (t := 1) rfl ?_
  refine J_get hX cb10 kModel 18 (by decide) q_1985 rfl dX13_keeps_1 (t := 4) rfl ?_
  refine J_bipush (v := 6) hX dX13_keeps_4 (by decide) (t := 6) rfl ?_
  refine J_icmp_ne (tgt := 55) hX dX13_keeps_6 (by decide) (t := 9) rfl (fun z => ?_) (fun z => ?_)
  · replace hF := it_f hF z
    refine J_aload_n hX dX13_keeps_55 0 rfl (t := 56) rfl ?_
    refine J_get hX cb10 kModel 15 (by decide) q_1982 rfl dX13_keeps_56 (t := 59) rfl ?_
    refine J_iconst (v := 0) hX dX13_keeps_59 (by decide) (t := 60) rfl ?_
    refine J_aload_n hX dX13_keeps_60 0 rfl (t := 61) rfl ?_
    refine J_get hX cb10 kModel 17 (by decide) q_1984 rfl dX13_keeps_61 (t := 64) rfl ?_
    refine J_sipush (v := 390) hX dX13_keeps_64 (by decide) (t := 67) rfl ?_
    refine J_aload_n hX dX13_keeps_67 0 rfl (t := 68) rfl ?_
    refine J_get hX cb10 kModel 18 (by decide) q_1985 rfl dX13_keeps_68 (t := 71) rfl ?_
    refine J_imul hX dX13_keeps_71 (t := 72) rfl ?_
    obtain ⟨w2, h1, hF⟩ := bo1_e hF
    have k3 := (ctX13_copiesRow (G := G) (l := l) w 4 0 6 (390 * ((w 15).1 0 18)) ⟨by decide, by decide⟩ ⟨by decide, by decide⟩ n h1)
    refine J_callS hX [.ref (adr G 15 4), .int 0, .ref (adr G 15 6), .int (390 * ((w 15).1 0 18))] [] [] k3 miX13_copiesRow q_2109 q_2108 ⟨rfl, rfl, Nat.le_of_ble_eq_true rfl, Nat.le_of_ble_eq_true rfl⟩ rfl rfl (Nat.le_of_ble_eq_true rfl) ⟨Nat.le_of_ble_eq_true rfl, Nat.le_of_ble_eq_true rfl⟩ dX13_keeps_72 (t := 75) rfl rfl ?_
    refine J_aload_n hX dX13_keeps_75 0 rfl (t := 76) rfl ?_
    refine J_dup hX dX13_keeps_76 rfl (t := 77) rfl ?_
    refine J_get hX cb10 kModel 18 (by decide) q_1985 rfl dX13_keeps_77 (t := 80) rfl ?_
    refine J_iconst (v := 1) hX dX13_keeps_80 (by decide) (t := 81) rfl ?_
    refine J_iadd hX dX13_keeps_81 (t := 82) rfl ?_
    obtain ⟨w4, e5, hF⟩ := bnd_e hF
    refine J_puti hX cb10 kModel 18 (by decide) q_1985 rfl rfl e5 (fun _ _ => Nat.le_of_ble_eq_true rfl) (fun _ _ => rfl) dX13_keeps_82 (t := 85) rfl ?_
    replace hF := Option.some.inj hF
    subst hF
    exact J_vret hX hR hlk dX13_keeps_85
  · replace hF := it_t hF z
    refine J_aload_n hX dX13_keeps_9 0 rfl (t := 10) rfl ?_
    refine J_dup hX dX13_keeps_10 rfl (t := 11) rfl ?_
    refine J_get hX cb10 kModel 18 (by decide) q_1985 rfl dX13_keeps_11 (t := 14) rfl ?_
    refine J_iconst (v := 1) hX dX13_keeps_14 (by decide) (t := 15) rfl ?_
    refine J_isub hX dX13_keeps_15 (t := 16) rfl ?_
    obtain ⟨w6, e7, hF⟩ := bnd_e hF
    refine J_puti hX cb10 kModel 18 (by decide) q_1985 rfl rfl e7 (fun _ _ => Nat.le_of_ble_eq_true rfl) (fun _ _ => rfl) dX13_keeps_16 (t := 19) rfl ?_
    refine J_iconst (v := 0) hX dX13_keeps_19 (by decide) (t := 20) rfl ?_
    refine J_istore_n (lc2 := [(1, .int 0), (0, .ref (adr G 15 0))]) hX dX13_keeps_20 rfl (Nat.le_of_ble_eq_true rfl) rfl (t := 21) rfl ?_
    refine J_sub (lc2 := [(0, .ref (adr G 15 0)), (1, .int 0)]) [1, 0] rfl ?_
    exact LX13_keeps_21 hX hR hlk n n w6 0 hF
abbrev rmX13_kept : Room := { frames := 2, cells := 0, slots := 0, locals := 45 }
theorem miX13_kept : MI yX13_kept cX13_kept 2 (some .int) 1 := ⟨q_2184, q_152, by decide +kernel, by decide +kernel, by decide +kernel, by decide +kernel⟩
theorem mvX13_kept : MV yX13_kept := ⟨q_2183, q_43⟩
def FX13_kept (n : Nat) (w : Wd) (p1 : Int32) : Option (Int32 × Wd) :=
  bo1 (FX13_keeps n w) fun w2 =>
  some (p1, w2)
set_option maxHeartbeats 4000000 in
set_option maxRecDepth 100000 in
theorem ctX13_kept {G : GG} {l : Launch} (w : Wd) (p1 : Int32)  (n : Nat) {rx : Int32} {rw : Wd} (hF : FX13_kept n w p1 = some (rx, rw)) : CT G l yX13_kept cX13_kept 2 (some .int) rmX13_kept 0 0 [.ref (adr G 15 0), .int p1] w (some (.int rx)) rw := by
  refine CT.of miX13_kept [(0, .ref (adr G 15 0)), (1, .int p1)] rfl (Nat.le_of_ble_eq_true rfl) ?_
  intro p e s m args below meth c hX hR hlk
  have hX : FX G RX13 cX13_kept 2 p s m args c := hX
  unfold FX13_kept at hF
  refine J_aload_n hX dX13_kept_0 0 rfl (t := 1) rfl ?_
  obtain ⟨w2, h1, hF⟩ := bo1_e hF
  have k3 := (ctX13_keeps (G := G) (l := l) w  n h1)
  refine J_callV hX [] [] [] k3 miX13_keeps mvX13_keeps cb10 kModel q_2185 ⟨rfl, rfl, Nat.le_of_ble_eq_true rfl, Nat.le_of_ble_eq_true rfl⟩ rfl rfl (Nat.le_of_ble_eq_true rfl) ⟨Nat.le_of_ble_eq_true rfl, Nat.le_of_ble_eq_true rfl⟩ dX13_kept_1 (t := 4) rfl rfl ?_
  refine J_iload_n hX dX13_kept_4 1 rfl (t := 5) rfl ?_
  replace hF := Option.some.inj hF
  obtain ⟨hF, hF2⟩ := Prod.mk.inj hF
  subst hF
  subst hF2
  exact J_iret hX hR hlk dX13_kept_5
abbrev rmX13_undo : Room := { frames := 2, cells := 0, slots := 0, locals := 41 }
theorem miX13_undo : MI yX13_undo cX13_undo 1 (some .int) 0 := ⟨q_2107, q_152, by decide +kernel, by decide +kernel, by decide +kernel, by decide +kernel⟩
theorem mvX13_undo : MV yX13_undo := ⟨q_2105, q_2106⟩
def FX13_undo (n : Nat) (w : Wd)  : Option (Int32 × Wd) :=
  if (w 15).1 0 18 ≤ 0 then
    bnd2 (FX13_goes w false) fun x2 w3 =>
    if x2 = true then
      bnd (sW w3 15 (sI (w3 15) 0 18 (((w3 15).1 0 18) - 1))) fun w5 =>
      bo1 (FX13_copiesRow n w5 6 (390 * ((w5 15).1 0 18)) 2 0) fun w8 =>
      some ((w8 15).1 0 18, w8)
    else
      some (0, w3)
  else
    bnd2 (FX13_goes w true) fun x11 w12 =>
    if x11 = true then
      bnd (sW w12 15 (sI (w12 15) 0 18 (((w12 15).1 0 18) - 1))) fun w14 =>
      bo1 (FX13_copiesRow n w14 6 (390 * ((w14 15).1 0 18)) 2 0) fun w17 =>
      some ((w17 15).1 0 18, w17)
    else
      some (0, w12)
set_option maxHeartbeats 4000000 in
set_option maxRecDepth 100000 in
theorem ctX13_undo {G : GG} {l : Launch} (w : Wd)   (n : Nat) {rx : Int32} {rw : Wd} (hF : FX13_undo n w  = some (rx, rw)) : CT G l yX13_undo cX13_undo 1 (some .int) rmX13_undo 0 0 [.ref (adr G 15 0)] w (some (.int rx)) rw := by
  refine CT.of miX13_undo [(0, .ref (adr G 15 0))] rfl (Nat.le_of_ble_eq_true rfl) ?_
  intro p e s m args below meth c hX hR hlk
  have hX : FX G RX13 cX13_undo 1 p s m args c := hX
  unfold FX13_undo at hF
  refine J_aload_n hX dX13_undo_0 0 rfl (t := 1) rfl ?_
  refine J_aload_n hX dX13_undo_1 0 rfl (t := 2) rfl ?_
  refine J_get hX cb10 kModel 18 (by decide) q_1985 rfl dX13_undo_2 (t := 5) rfl ?_
  refine J_if_le (tgt := 12) hX dX13_undo_5 (by decide) (t := 8) rfl (fun z => ?_) (fun z => ?_)
  · replace hF := it_t hF z
    refine J_iconst (v := 0) hX dX13_undo_12 (by decide) (t := 13) rfl ?_
    obtain ⟨x2, w3, h1, hF⟩ := bnd2_e hF
    have k4 := (ctX13_goes (G := G) (l := l) w false h1)
    refine J_callV hX [.int (bI false)] [] [.int (bI x2)] k4 miX13_goes mvX13_goes cb10 kModel q_2078 ⟨rfl, rfl, Nat.le_of_ble_eq_true rfl, Nat.le_of_ble_eq_true rfl⟩ rfl rfl (Nat.le_of_ble_eq_true rfl) ⟨Nat.le_of_ble_eq_true rfl, Nat.le_of_ble_eq_true rfl⟩ dX13_undo_13 (t := 16) rfl rfl ?_
    refine J_ifZ_ne (tgt := 21) hX dX13_undo_16 (by decide) (t := 19) rfl (fun z => ?_) (fun z => ?_)
    · replace hF := it_t hF z
      refine J_aload_n hX dX13_undo_21 0 rfl (t := 22) rfl ?_
      refine J_dup hX dX13_undo_22 rfl (t := 23) rfl ?_
      refine J_get hX cb10 kModel 18 (by decide) q_1985 rfl dX13_undo_23 (t := 26) rfl ?_
      refine J_iconst (v := 1) hX dX13_undo_26 (by decide) (t := 27) rfl ?_
      refine J_isub hX dX13_undo_27 (t := 28) rfl ?_
      obtain ⟨w5, e6, hF⟩ := bnd_e hF
      refine J_puti hX cb10 kModel 18 (by decide) q_1985 rfl rfl e6 (fun _ _ => Nat.le_of_ble_eq_true rfl) (fun _ _ => rfl) dX13_undo_28 (t := 31) rfl ?_
      refine J_aload_n hX dX13_undo_31 0 rfl (t := 32) rfl ?_
      refine J_get hX cb10 kModel 17 (by decide) q_1984 rfl dX13_undo_32 (t := 35) rfl ?_
      refine J_sipush (v := 390) hX dX13_undo_35 (by decide) (t := 38) rfl ?_
      refine J_aload_n hX dX13_undo_38 0 rfl (t := 39) rfl ?_
      refine J_get hX cb10 kModel 18 (by decide) q_1985 rfl dX13_undo_39 (t := 42) rfl ?_
      refine J_imul hX dX13_undo_42 (t := 43) rfl ?_
      refine J_aload_n hX dX13_undo_43 0 rfl (t := 44) rfl ?_
      refine J_get hX cb10 kModel 13 (by decide) q_1980 rfl dX13_undo_44 (t := 47) rfl ?_
      refine J_iconst (v := 0) hX dX13_undo_47 (by decide) (t := 48) rfl ?_
      obtain ⟨w8, h7, hF⟩ := bo1_e hF
      have k9 := (ctX13_copiesRow (G := G) (l := l) w5 6 (390 * ((w5 15).1 0 18)) 2 0 ⟨by decide, by decide⟩ ⟨by decide, by decide⟩ n h7)
      refine J_callS hX [.ref (adr G 15 6), .int (390 * ((w5 15).1 0 18)), .ref (adr G 15 2), .int 0] [] [] k9 miX13_copiesRow q_2109 q_2108 ⟨rfl, rfl, Nat.le_of_ble_eq_true rfl, Nat.le_of_ble_eq_true rfl⟩ rfl rfl (Nat.le_of_ble_eq_true rfl) ⟨Nat.le_of_ble_eq_true rfl, Nat.le_of_ble_eq_true rfl⟩ dX13_undo_48 (t := 51) rfl rfl ?_
      refine J_aload_n hX dX13_undo_51 0 rfl (t := 52) rfl ?_
      refine J_get hX cb10 kModel 18 (by decide) q_1985 rfl dX13_undo_52 (t := 55) rfl ?_
      replace hF := Option.some.inj hF
      obtain ⟨hF, hF2⟩ := Prod.mk.inj hF
      subst hF
      subst hF2
      exact J_iret hX hR hlk dX13_undo_55
    · replace hF := ib_f hF z
      refine J_iconst (v := 0) hX dX13_undo_19 (by decide) (t := 20) rfl ?_
      replace hF := Option.some.inj hF
      obtain ⟨hF, hF2⟩ := Prod.mk.inj hF
      subst hF
      subst hF2
      exact J_iret hX hR hlk dX13_undo_20
  · replace hF := it_f hF z
    refine J_iconst (v := 1) hX dX13_undo_8 (by decide) (t := 9) rfl ?_
    refine J_goto (tgt := 13) hX dX13_undo_9 (by decide) ?_
    obtain ⟨x11, w12, h10, hF⟩ := bnd2_e hF
    have k13 := (ctX13_goes (G := G) (l := l) w true h10)
    refine J_callV hX [.int (bI true)] [] [.int (bI x11)] k13 miX13_goes mvX13_goes cb10 kModel q_2078 ⟨rfl, rfl, Nat.le_of_ble_eq_true rfl, Nat.le_of_ble_eq_true rfl⟩ rfl rfl (Nat.le_of_ble_eq_true rfl) ⟨Nat.le_of_ble_eq_true rfl, Nat.le_of_ble_eq_true rfl⟩ dX13_undo_13 (t := 16) rfl rfl ?_
    refine J_ifZ_ne (tgt := 21) hX dX13_undo_16 (by decide) (t := 19) rfl (fun z => ?_) (fun z => ?_)
    · replace hF := it_t hF z
      refine J_aload_n hX dX13_undo_21 0 rfl (t := 22) rfl ?_
      refine J_dup hX dX13_undo_22 rfl (t := 23) rfl ?_
      refine J_get hX cb10 kModel 18 (by decide) q_1985 rfl dX13_undo_23 (t := 26) rfl ?_
      refine J_iconst (v := 1) hX dX13_undo_26 (by decide) (t := 27) rfl ?_
      refine J_isub hX dX13_undo_27 (t := 28) rfl ?_
      obtain ⟨w14, e15, hF⟩ := bnd_e hF
      refine J_puti hX cb10 kModel 18 (by decide) q_1985 rfl rfl e15 (fun _ _ => Nat.le_of_ble_eq_true rfl) (fun _ _ => rfl) dX13_undo_28 (t := 31) rfl ?_
      refine J_aload_n hX dX13_undo_31 0 rfl (t := 32) rfl ?_
      refine J_get hX cb10 kModel 17 (by decide) q_1984 rfl dX13_undo_32 (t := 35) rfl ?_
      refine J_sipush (v := 390) hX dX13_undo_35 (by decide) (t := 38) rfl ?_
      refine J_aload_n hX dX13_undo_38 0 rfl (t := 39) rfl ?_
      refine J_get hX cb10 kModel 18 (by decide) q_1985 rfl dX13_undo_39 (t := 42) rfl ?_
      refine J_imul hX dX13_undo_42 (t := 43) rfl ?_
      refine J_aload_n hX dX13_undo_43 0 rfl (t := 44) rfl ?_
      refine J_get hX cb10 kModel 13 (by decide) q_1980 rfl dX13_undo_44 (t := 47) rfl ?_
      refine J_iconst (v := 0) hX dX13_undo_47 (by decide) (t := 48) rfl ?_
      obtain ⟨w17, h16, hF⟩ := bo1_e hF
      have k18 := (ctX13_copiesRow (G := G) (l := l) w14 6 (390 * ((w14 15).1 0 18)) 2 0 ⟨by decide, by decide⟩ ⟨by decide, by decide⟩ n h16)
      refine J_callS hX [.ref (adr G 15 6), .int (390 * ((w14 15).1 0 18)), .ref (adr G 15 2), .int 0] [] [] k18 miX13_copiesRow q_2109 q_2108 ⟨rfl, rfl, Nat.le_of_ble_eq_true rfl, Nat.le_of_ble_eq_true rfl⟩ rfl rfl (Nat.le_of_ble_eq_true rfl) ⟨Nat.le_of_ble_eq_true rfl, Nat.le_of_ble_eq_true rfl⟩ dX13_undo_48 (t := 51) rfl rfl ?_
      refine J_aload_n hX dX13_undo_51 0 rfl (t := 52) rfl ?_
      refine J_get hX cb10 kModel 18 (by decide) q_1985 rfl dX13_undo_52 (t := 55) rfl ?_
      replace hF := Option.some.inj hF
      obtain ⟨hF, hF2⟩ := Prod.mk.inj hF
      subst hF
      subst hF2
      exact J_iret hX hR hlk dX13_undo_55
    · replace hF := ib_f hF z
      refine J_iconst (v := 0) hX dX13_undo_19 (by decide) (t := 20) rfl ?_
      replace hF := Option.some.inj hF
      obtain ⟨hF, hF2⟩ := Prod.mk.inj hF
      subst hF
      subst hF2
      exact J_iret hX hR hlk dX13_undo_20
abbrev rmX13_saveState : Room := { frames := 1, cells := 0, slots := 0, locals := 24 }
theorem miX13_saveState : MI yX13_saveState cX13_saveState 1 (some .int) 0 := ⟨q_2114, q_152, by decide +kernel, by decide +kernel, by decide +kernel, by decide +kernel⟩
theorem mvX13_saveState : MV yX13_saveState := ⟨q_2112, q_2113⟩
def FX13_saveState (n : Nat) (w : Wd)  : Option (Int32 × Wd) :=
  bnd (sW w 15 (sI (w 15) 0 0 0)) fun w1 =>
  bo1 (FX13_copiesRow n w1 2 0 3 0) fun w4 =>
  bnd (sW w4 15 (sI (w4 15) 0 19 (bI true))) fun w6 =>
  gd (inb 3 390) <|
  some ((w6 15).1 2 3, w6)
set_option maxHeartbeats 4000000 in
set_option maxRecDepth 100000 in
theorem ctX13_saveState {G : GG} {l : Launch} (w : Wd)   (n : Nat) {rx : Int32} {rw : Wd} (hF : FX13_saveState n w  = some (rx, rw)) : CT G l yX13_saveState cX13_saveState 1 (some .int) rmX13_saveState 0 0 [.ref (adr G 15 0)] w (some (.int rx)) rw := by
  refine CT.of miX13_saveState [(0, .ref (adr G 15 0))] rfl (Nat.le_of_ble_eq_true rfl) ?_
  intro p e s m args below meth c hX hR hlk
  have hX : FX G RX13 cX13_saveState 1 p s m args c := hX
  unfold FX13_saveState at hF
  refine J_aload_n hX dX13_saveState_0 0 rfl (t := 1) rfl ?_
  refine J_iconst (v := 0) hX dX13_saveState_1 (by decide) (t := 2) rfl ?_
  obtain ⟨w1, e2, hF⟩ := bnd_e hF
  refine J_puti hX cb10 kModel 0 (by decide) q_1967 rfl rfl e2 (fun _ _ => Nat.le_of_ble_eq_true rfl) (fun _ _ => rfl) dX13_saveState_2 (t := 5) rfl ?_
  refine J_aload_n hX dX13_saveState_5 0 rfl (t := 6) rfl ?_
  refine J_get hX cb10 kModel 13 (by decide) q_1980 rfl dX13_saveState_6 (t := 9) rfl ?_
  refine J_iconst (v := 0) hX dX13_saveState_9 (by decide) (t := 10) rfl ?_
  refine J_aload_n hX dX13_saveState_10 0 rfl (t := 11) rfl ?_
  refine J_get hX cb10 kModel 14 (by decide) q_1981 rfl dX13_saveState_11 (t := 14) rfl ?_
  refine J_iconst (v := 0) hX dX13_saveState_14 (by decide) (t := 15) rfl ?_
  obtain ⟨w4, h3, hF⟩ := bo1_e hF
  have k5 := (ctX13_copiesRow (G := G) (l := l) w1 2 0 3 0 ⟨by decide, by decide⟩ ⟨by decide, by decide⟩ n h3)
  refine J_callS hX [.ref (adr G 15 2), .int 0, .ref (adr G 15 3), .int 0] [] [] k5 miX13_copiesRow q_2109 q_2108 ⟨rfl, rfl, Nat.le_of_ble_eq_true rfl, Nat.le_of_ble_eq_true rfl⟩ rfl rfl (Nat.le_of_ble_eq_true rfl) ⟨Nat.le_of_ble_eq_true rfl, Nat.le_of_ble_eq_true rfl⟩ dX13_saveState_15 (t := 18) rfl rfl ?_
  refine J_aload_n hX dX13_saveState_18 0 rfl (t := 19) rfl ?_
  refine J_iconst (v := 1) hX dX13_saveState_19 (by decide) (t := 20) rfl ?_
  obtain ⟨w6, e7, hF⟩ := bnd_e hF
  refine J_putz (b := true) hX cb10 kModel 19 (by decide) q_1986 rfl rfl e7 (fun _ _ => Nat.le_of_ble_eq_true rfl) (fun _ _ => rfl) dX13_saveState_20 (t := 23) rfl ?_
  refine J_aload_n hX dX13_saveState_23 0 rfl (t := 24) rfl ?_
  refine J_get hX cb10 kModel 13 (by decide) q_1980 rfl dX13_saveState_24 (t := 27) rfl ?_
  refine J_iconst (v := 3) hX dX13_saveState_27 (by decide) (t := 28) rfl ?_
  obtain ⟨g8, hF⟩ := gd_e hF
  refine J_iald hX (kInts (j := 2) (n := 390) (by decide) (by decide) rfl) g8 rfl dX13_saveState_28 (t := 29) rfl ?_
  replace hF := Option.some.inj hF
  obtain ⟨hF, hF2⟩ := Prod.mk.inj hF
  subst hF
  subst hF2
  exact J_iret hX hR hlk dX13_saveState_29
abbrev rmX13_restoreState : Room := { frames := 2, cells := 0, slots := 0, locals := 41 }
theorem miX13_restoreState : MI yX13_restoreState cX13_restoreState 1 (some .int) 0 := ⟨q_2118, q_152, by decide +kernel, by decide +kernel, by decide +kernel, by decide +kernel⟩
theorem mvX13_restoreState : MV yX13_restoreState := ⟨q_2116, q_2117⟩
def FX13_restoreState (n : Nat) (w : Wd)  : Option (Int32 × Wd) :=
  gd (isB ((w 15).1 0 19)) <|
  bnd2 (FX13_goes w (decide ((w 15).1 0 19 = 1))) fun x3 w4 =>
  if x3 = true then
    bo1 (FX13_copiesRow n w4 3 0 2 0) fun w7 =>
    bnd (sW w7 15 (sI (w7 15) 0 18 0)) fun w9 =>
    gd (inb 3 390) <|
    some ((w9 15).1 2 3, w9)
  else
    some (0, w4)
set_option maxHeartbeats 4000000 in
set_option maxRecDepth 100000 in
theorem ctX13_restoreState {G : GG} {l : Launch} (w : Wd)   (n : Nat) {rx : Int32} {rw : Wd} (hF : FX13_restoreState n w  = some (rx, rw)) : CT G l yX13_restoreState cX13_restoreState 1 (some .int) rmX13_restoreState 0 0 [.ref (adr G 15 0)] w (some (.int rx)) rw := by
  refine CT.of miX13_restoreState [(0, .ref (adr G 15 0))] rfl (Nat.le_of_ble_eq_true rfl) ?_
  intro p e s m args below meth c hX hR hlk
  have hX : FX G RX13 cX13_restoreState 1 p s m args c := hX
  unfold FX13_restoreState at hF
  refine J_aload_n hX dX13_restoreState_0 0 rfl (t := 1) rfl ?_
  refine J_aload_n hX dX13_restoreState_1 0 rfl (t := 2) rfl ?_
  obtain ⟨g1, hF⟩ := gd_e hF
  refine J_get hX cb10 kModel 19 (by decide) q_1986 rfl dX13_restoreState_2 (t := 5) rfl ?_
  refine J_val (isB_e g1) ?_
  obtain ⟨x3, w4, h2, hF⟩ := bnd2_e hF
  have k5 := (ctX13_goes (G := G) (l := l) w (decide ((w 15).1 0 19 = 1)) h2)
  refine J_callV hX [.int (bI (decide ((w 15).1 0 19 = 1)))] [] [.int (bI x3)] k5 miX13_goes mvX13_goes cb10 kModel q_2078 ⟨rfl, rfl, Nat.le_of_ble_eq_true rfl, Nat.le_of_ble_eq_true rfl⟩ rfl rfl (Nat.le_of_ble_eq_true rfl) ⟨Nat.le_of_ble_eq_true rfl, Nat.le_of_ble_eq_true rfl⟩ dX13_restoreState_5 (t := 8) rfl rfl ?_
  refine J_ifZ_ne (tgt := 13) hX dX13_restoreState_8 (by decide) (t := 11) rfl (fun z => ?_) (fun z => ?_)
  · replace hF := it_t hF z
    refine J_aload_n hX dX13_restoreState_13 0 rfl (t := 14) rfl ?_
    refine J_get hX cb10 kModel 14 (by decide) q_1981 rfl dX13_restoreState_14 (t := 17) rfl ?_
    refine J_iconst (v := 0) hX dX13_restoreState_17 (by decide) (t := 18) rfl ?_
    refine J_aload_n hX dX13_restoreState_18 0 rfl (t := 19) rfl ?_
    refine J_get hX cb10 kModel 13 (by decide) q_1980 rfl dX13_restoreState_19 (t := 22) rfl ?_
    refine J_iconst (v := 0) hX dX13_restoreState_22 (by decide) (t := 23) rfl ?_
    obtain ⟨w7, h6, hF⟩ := bo1_e hF
    have k8 := (ctX13_copiesRow (G := G) (l := l) w4 3 0 2 0 ⟨by decide, by decide⟩ ⟨by decide, by decide⟩ n h6)
    refine J_callS hX [.ref (adr G 15 3), .int 0, .ref (adr G 15 2), .int 0] [] [] k8 miX13_copiesRow q_2109 q_2108 ⟨rfl, rfl, Nat.le_of_ble_eq_true rfl, Nat.le_of_ble_eq_true rfl⟩ rfl rfl (Nat.le_of_ble_eq_true rfl) ⟨Nat.le_of_ble_eq_true rfl, Nat.le_of_ble_eq_true rfl⟩ dX13_restoreState_23 (t := 26) rfl rfl ?_
    refine J_aload_n hX dX13_restoreState_26 0 rfl (t := 27) rfl ?_
    refine J_iconst (v := 0) hX dX13_restoreState_27 (by decide) (t := 28) rfl ?_
    obtain ⟨w9, e10, hF⟩ := bnd_e hF
    refine J_puti hX cb10 kModel 18 (by decide) q_1985 rfl rfl e10 (fun _ _ => Nat.le_of_ble_eq_true rfl) (fun _ _ => rfl) dX13_restoreState_28 (t := 31) rfl ?_
    refine J_aload_n hX dX13_restoreState_31 0 rfl (t := 32) rfl ?_
    refine J_get hX cb10 kModel 13 (by decide) q_1980 rfl dX13_restoreState_32 (t := 35) rfl ?_
    refine J_iconst (v := 3) hX dX13_restoreState_35 (by decide) (t := 36) rfl ?_
    obtain ⟨g11, hF⟩ := gd_e hF
    refine J_iald hX (kInts (j := 2) (n := 390) (by decide) (by decide) rfl) g11 rfl dX13_restoreState_36 (t := 37) rfl ?_
    replace hF := Option.some.inj hF
    obtain ⟨hF, hF2⟩ := Prod.mk.inj hF
    subst hF
    subst hF2
    exact J_iret hX hR hlk dX13_restoreState_37
  · replace hF := ib_f hF z
    refine J_iconst (v := 0) hX dX13_restoreState_11 (by decide) (t := 12) rfl ?_
    replace hF := Option.some.inj hF
    obtain ⟨hF, hF2⟩ := Prod.mk.inj hF
    subst hF
    subst hF2
    exact J_iret hX hR hlk dX13_restoreState_12
abbrev rmX13_vly : Room := { frames := 0, cells := 0, slots := 0, locals := 0 }
theorem miX13_vly : MI yX13_vly cX13_vly 1 (some .int) 1 := ⟨q_2156, q_152, by decide +kernel, by decide +kernel, by decide +kernel, by decide +kernel⟩
def FX13_vly (p0 : Int32) : Int32 :=
  8 + (8 * p0)
set_option maxHeartbeats 4000000 in
set_option maxRecDepth 100000 in
theorem ctX13_vly {G : GG} {l : Launch} {w : Wd} (p0 : Int32)  {rx : Int32} (hF : FX13_vly p0 = rx) : CT G l yX13_vly cX13_vly 1 (some .int) rmX13_vly 0 0 [.int p0] w (some (.int rx)) w := by
  refine CT.of miX13_vly [(0, .int p0)] rfl (Nat.le_of_ble_eq_true rfl) ?_
  intro p e s m args below meth c hX hR hlk
  have hX : FX G RX13 cX13_vly 1 p s m args c := hX
  unfold FX13_vly at hF
  refine J_bipush (v := 8) hX dX13_vly_0 (by decide) (t := 2) rfl ?_
  refine J_bipush (v := 8) hX dX13_vly_2 (by decide) (t := 4) rfl ?_
  refine J_iload_n hX dX13_vly_4 0 rfl (t := 5) rfl ?_
  refine J_imul hX dX13_vly_5 (t := 6) rfl ?_
  refine J_iadd hX dX13_vly_6 (t := 7) rfl ?_
  subst hF
  exact J_iret hX hR hlk dX13_vly_7
abbrev rmX13_cst : Room := { frames := 0, cells := 0, slots := 0, locals := 0 }
theorem miX13_cst : MI yX13_cst cX13_cst 1 (some .int) 1 := ⟨q_2159, q_152, by decide +kernel, by decide +kernel, by decide +kernel, by decide +kernel⟩
def FX13_cst (p0 : Int32) : Int32 :=
  72 + (6 * p0)
set_option maxHeartbeats 4000000 in
set_option maxRecDepth 100000 in
theorem ctX13_cst {G : GG} {l : Launch} {w : Wd} (p0 : Int32)  {rx : Int32} (hF : FX13_cst p0 = rx) : CT G l yX13_cst cX13_cst 1 (some .int) rmX13_cst 0 0 [.int p0] w (some (.int rx)) w := by
  refine CT.of miX13_cst [(0, .int p0)] rfl (Nat.le_of_ble_eq_true rfl) ?_
  intro p e s m args below meth c hX hR hlk
  have hX : FX G RX13 cX13_cst 1 p s m args c := hX
  unfold FX13_cst at hF
  refine J_bipush (v := 72) hX dX13_cst_0 (by decide) (t := 2) rfl ?_
  refine J_bipush (v := 6) hX dX13_cst_2 (by decide) (t := 4) rfl ?_
  refine J_iload_n hX dX13_cst_4 0 rfl (t := 5) rfl ?_
  refine J_imul hX dX13_cst_5 (t := 6) rfl ?_
  refine J_iadd hX dX13_cst_6 (t := 7) rfl ?_
  subst hF
  exact J_iret hX hR hlk dX13_cst_7
abbrev rmX13_sht : Room := { frames := 0, cells := 0, slots := 0, locals := 0 }
theorem miX13_sht : MI yX13_sht cX13_sht 1 (some .int) 1 := ⟨q_2243, q_152, by decide +kernel, by decide +kernel, by decide +kernel, by decide +kernel⟩
def FX13_sht (p0 : Int32) : Int32 :=
  120 + (9 * p0)
set_option maxHeartbeats 4000000 in
set_option maxRecDepth 100000 in
theorem ctX13_sht {G : GG} {l : Launch} {w : Wd} (p0 : Int32)  {rx : Int32} (hF : FX13_sht p0 = rx) : CT G l yX13_sht cX13_sht 1 (some .int) rmX13_sht 0 0 [.int p0] w (some (.int rx)) w := by
  refine CT.of miX13_sht [(0, .int p0)] rfl (Nat.le_of_ble_eq_true rfl) ?_
  intro p e s m args below meth c hX hR hlk
  have hX : FX G RX13 cX13_sht 1 p s m args c := hX
  unfold FX13_sht at hF
  refine J_bipush (v := 120) hX dX13_sht_0 (by decide) (t := 2) rfl ?_
  refine J_bipush (v := 9) hX dX13_sht_2 (by decide) (t := 4) rfl ?_
  refine J_iload_n hX dX13_sht_4 0 rfl (t := 5) rfl ?_
  refine J_imul hX dX13_sht_5 (t := 6) rfl ?_
  refine J_iadd hX dX13_sht_6 (t := 7) rfl ?_
  subst hF
  exact J_iret hX hR hlk dX13_sht_7
abbrev rmX13_ofValley : Room := { frames := 1, cells := 0, slots := 0, locals := 20 }
theorem miX13_ofValley : MI yX13_ofValley cX13_ofValley 3 (some .int) 2 := ⟨q_2228, q_152, by decide +kernel, by decide +kernel, by decide +kernel, by decide +kernel⟩
theorem mvX13_ofValley : MV yX13_ofValley := ⟨q_2227, q_49⟩
def FX13_ofValley (w : Wd) (p1 : Int32) (p2 : Int32) : Option (Int32) :=
  bnd (FX13_vly p1) fun x2 =>
  gd (inb (x2 + p2) 390) <|
  some ((w 15).1 2 ((x2 + p2).toNatClampNeg))
set_option maxHeartbeats 4000000 in
set_option maxRecDepth 100000 in
theorem ctX13_ofValley {G : GG} {l : Launch} (w : Wd) (p1 : Int32) (p2 : Int32)  {rx : Int32} (hF : FX13_ofValley w p1 p2 = some rx) : CT G l yX13_ofValley cX13_ofValley 3 (some .int) rmX13_ofValley 0 0 [.ref (adr G 15 0), .int p1, .int p2] w (some (.int rx)) w := by
  refine CT.of miX13_ofValley [(0, .ref (adr G 15 0)), (1, .int p1), (2, .int p2)] rfl (Nat.le_of_ble_eq_true rfl) ?_
  intro p e s m args below meth c hX hR hlk
  have hX : FX G RX13 cX13_ofValley 3 p s m args c := hX
  unfold FX13_ofValley at hF
  refine J_aload_n hX dX13_ofValley_0 0 rfl (t := 1) rfl ?_
  refine J_get hX cb10 kModel 13 (by decide) q_1980 rfl dX13_ofValley_1 (t := 4) rfl ?_
  refine J_iload_n hX dX13_ofValley_4 1 rfl (t := 5) rfl ?_
  obtain ⟨x2, h1, hF⟩ := bnd_e hF
  have k3 := (ctX13_vly (l := l) (G := G) (w := w) p1 h1)
  refine J_callS hX [.int p1] [.ref (adr G 15 2)] [.int x2, .ref (adr G 15 2)] k3 miX13_vly q_2155 q_2154 ⟨rfl, rfl, Nat.le_of_ble_eq_true rfl, Nat.le_of_ble_eq_true rfl⟩ rfl rfl (Nat.le_of_ble_eq_true rfl) ⟨Nat.le_of_ble_eq_true rfl, Nat.le_of_ble_eq_true rfl⟩ dX13_ofValley_5 (t := 8) rfl rfl ?_
  refine J_iload_n hX dX13_ofValley_8 2 rfl (t := 9) rfl ?_
  refine J_iadd hX dX13_ofValley_9 (t := 10) rfl ?_
  obtain ⟨g4, hF⟩ := gd_e hF
  refine J_iald hX (kInts (j := 2) (n := 390) (by decide) (by decide) rfl) g4 rfl dX13_ofValley_10 (t := 11) rfl ?_
  replace hF := Option.some.inj hF
  subst hF
  exact J_iret hX hR hlk dX13_ofValley_11
abbrev rmX13_ofCustomer : Room := { frames := 1, cells := 0, slots := 0, locals := 20 }
theorem miX13_ofCustomer : MI yX13_ofCustomer cX13_ofCustomer 3 (some .int) 2 := ⟨q_2232, q_152, by decide +kernel, by decide +kernel, by decide +kernel, by decide +kernel⟩
theorem mvX13_ofCustomer : MV yX13_ofCustomer := ⟨q_2231, q_50⟩
def FX13_ofCustomer (w : Wd) (p1 : Int32) (p2 : Int32) : Option (Int32) :=
  bnd (FX13_cst p1) fun x2 =>
  gd (inb (x2 + p2) 390) <|
  some ((w 15).1 2 ((x2 + p2).toNatClampNeg))
set_option maxHeartbeats 4000000 in
set_option maxRecDepth 100000 in
theorem ctX13_ofCustomer {G : GG} {l : Launch} (w : Wd) (p1 : Int32) (p2 : Int32)  {rx : Int32} (hF : FX13_ofCustomer w p1 p2 = some rx) : CT G l yX13_ofCustomer cX13_ofCustomer 3 (some .int) rmX13_ofCustomer 0 0 [.ref (adr G 15 0), .int p1, .int p2] w (some (.int rx)) w := by
  refine CT.of miX13_ofCustomer [(0, .ref (adr G 15 0)), (1, .int p1), (2, .int p2)] rfl (Nat.le_of_ble_eq_true rfl) ?_
  intro p e s m args below meth c hX hR hlk
  have hX : FX G RX13 cX13_ofCustomer 3 p s m args c := hX
  unfold FX13_ofCustomer at hF
  refine J_aload_n hX dX13_ofCustomer_0 0 rfl (t := 1) rfl ?_
  refine J_get hX cb10 kModel 13 (by decide) q_1980 rfl dX13_ofCustomer_1 (t := 4) rfl ?_
  refine J_iload_n hX dX13_ofCustomer_4 1 rfl (t := 5) rfl ?_
  obtain ⟨x2, h1, hF⟩ := bnd_e hF
  have k3 := (ctX13_cst (l := l) (G := G) (w := w) p1 h1)
  refine J_callS hX [.int p1] [.ref (adr G 15 2)] [.int x2, .ref (adr G 15 2)] k3 miX13_cst q_2158 q_2157 ⟨rfl, rfl, Nat.le_of_ble_eq_true rfl, Nat.le_of_ble_eq_true rfl⟩ rfl rfl (Nat.le_of_ble_eq_true rfl) ⟨Nat.le_of_ble_eq_true rfl, Nat.le_of_ble_eq_true rfl⟩ dX13_ofCustomer_5 (t := 8) rfl rfl ?_
  refine J_iload_n hX dX13_ofCustomer_8 2 rfl (t := 9) rfl ?_
  refine J_iadd hX dX13_ofCustomer_9 (t := 10) rfl ?_
  obtain ⟨g4, hF⟩ := gd_e hF
  refine J_iald hX (kInts (j := 2) (n := 390) (by decide) (by decide) rfl) g4 rfl dX13_ofCustomer_10 (t := 11) rfl ?_
  replace hF := Option.some.inj hF
  subst hF
  exact J_iret hX hR hlk dX13_ofCustomer_11
abbrev rmX13_of : Room := { frames := 1, cells := 0, slots := 0, locals := 20 }
theorem miX13_of : MI yX13_of cX13_of 3 (some .int) 2 := ⟨q_2240, q_152, by decide +kernel, by decide +kernel, by decide +kernel, by decide +kernel⟩
theorem mvX13_of : MV yX13_of := ⟨q_2239, q_52⟩
def FX13_of (w : Wd) (p1 : Int32) (p2 : Int32) : Option (Int32) :=
  bnd (FX13_sht p1) fun x2 =>
  gd (inb (x2 + p2) 390) <|
  some ((w 15).1 2 ((x2 + p2).toNatClampNeg))
set_option maxHeartbeats 4000000 in
set_option maxRecDepth 100000 in
theorem ctX13_of {G : GG} {l : Launch} (w : Wd) (p1 : Int32) (p2 : Int32)  {rx : Int32} (hF : FX13_of w p1 p2 = some rx) : CT G l yX13_of cX13_of 3 (some .int) rmX13_of 0 0 [.ref (adr G 15 0), .int p1, .int p2] w (some (.int rx)) w := by
  refine CT.of miX13_of [(0, .ref (adr G 15 0)), (1, .int p1), (2, .int p2)] rfl (Nat.le_of_ble_eq_true rfl) ?_
  intro p e s m args below meth c hX hR hlk
  have hX : FX G RX13 cX13_of 3 p s m args c := hX
  unfold FX13_of at hF
  refine J_aload_n hX dX13_of_0 0 rfl (t := 1) rfl ?_
  refine J_get hX cb10 kModel 13 (by decide) q_1980 rfl dX13_of_1 (t := 4) rfl ?_
  refine J_iload_n hX dX13_of_4 1 rfl (t := 5) rfl ?_
  obtain ⟨x2, h1, hF⟩ := bnd_e hF
  have k3 := (ctX13_sht (l := l) (G := G) (w := w) p1 h1)
  refine J_callS hX [.int p1] [.ref (adr G 15 2)] [.int x2, .ref (adr G 15 2)] k3 miX13_sht q_2242 q_2241 ⟨rfl, rfl, Nat.le_of_ble_eq_true rfl, Nat.le_of_ble_eq_true rfl⟩ rfl rfl (Nat.le_of_ble_eq_true rfl) ⟨Nat.le_of_ble_eq_true rfl, Nat.le_of_ble_eq_true rfl⟩ dX13_of_5 (t := 8) rfl rfl ?_
  refine J_iload_n hX dX13_of_8 2 rfl (t := 9) rfl ?_
  refine J_iadd hX dX13_of_9 (t := 10) rfl ?_
  obtain ⟨g4, hF⟩ := gd_e hF
  refine J_iald hX (kInts (j := 2) (n := 390) (by decide) (by decide) rfl) g4 rfl dX13_of_10 (t := 11) rfl ?_
  replace hF := Option.some.inj hF
  subst hF
  exact J_iret hX hR hlk dX13_of_11
abbrev rmX13_isValley : Room := { frames := 1, cells := 0, slots := 0, locals := 25 }
theorem miX13_isValley : MI yX13_isValley cX13_isValley 2 (some .boolean) 1 := ⟨q_2216, q_152, by decide +kernel, by decide +kernel, by decide +kernel, by decide +kernel⟩
theorem mvX13_isValley : MV yX13_isValley := ⟨q_2215, q_47⟩
def FX13_isValley (w : Wd) (p1 : Int32) : Option (Bool) :=
  gd (inb 0 390) <|
  bnd (FX13_isIn p1.toInt64 0 ((((w 15).1 2 0) - 1).toInt64)) fun x3 =>
  some x3
set_option maxHeartbeats 4000000 in
set_option maxRecDepth 100000 in
theorem ctX13_isValley {G : GG} {l : Launch} (w : Wd) (p1 : Int32)  {rx : Bool} (hF : FX13_isValley w p1 = some rx) : CT G l yX13_isValley cX13_isValley 2 (some .boolean) rmX13_isValley 0 0 [.ref (adr G 15 0), .int p1] w (some (.int (bI rx))) w := by
  refine CT.of miX13_isValley [(0, .ref (adr G 15 0)), (1, .int p1)] rfl (Nat.le_of_ble_eq_true rfl) ?_
  intro p e s m args below meth c hX hR hlk
  have hX : FX G RX13 cX13_isValley 2 p s m args c := hX
  unfold FX13_isValley at hF
  refine J_iload_n hX dX13_isValley_0 1 rfl (t := 1) rfl ?_
  refine J_i2l hX dX13_isValley_1 (t := 2) rfl ?_
  refine J_lconst (v := 0) hX dX13_isValley_2 (by decide) (t := 3) rfl ?_
  refine J_aload_n hX dX13_isValley_3 0 rfl (t := 4) rfl ?_
  refine J_get hX cb10 kModel 13 (by decide) q_1980 rfl dX13_isValley_4 (t := 7) rfl ?_
  refine J_iconst (v := 0) hX dX13_isValley_7 (by decide) (t := 8) rfl ?_
  obtain ⟨g1, hF⟩ := gd_e hF
  refine J_iald hX (kInts (j := 2) (n := 390) (by decide) (by decide) rfl) g1 rfl dX13_isValley_8 (t := 9) rfl ?_
  refine J_iconst (v := 1) hX dX13_isValley_9 (by decide) (t := 10) rfl ?_
  refine J_isub hX dX13_isValley_10 (t := 11) rfl ?_
  refine J_i2l hX dX13_isValley_11 (t := 12) rfl ?_
  obtain ⟨x3, h2, hF⟩ := bnd_e hF
  have k4 := (ctX13_isIn (l := l) (G := G) (w := w) p1.toInt64 0 ((((w 15).1 2 0) - 1).toInt64) h2)
  refine J_callS hX [.long p1.toInt64, .long 0, .long ((((w 15).1 2 0) - 1).toInt64)] [] [.int (bI x3)] k4 miX13_isIn q_2094 q_2093 ⟨rfl, rfl, Nat.le_of_ble_eq_true rfl, Nat.le_of_ble_eq_true rfl⟩ rfl rfl (Nat.le_of_ble_eq_true rfl) ⟨Nat.le_of_ble_eq_true rfl, Nat.le_of_ble_eq_true rfl⟩ dX13_isValley_12 (t := 15) rfl rfl ?_
  replace hF := Option.some.inj hF
  subst hF
  exact J_zret (b := x3) hX hR hlk dX13_isValley_15
abbrev rmX13_isCustomer : Room := { frames := 1, cells := 0, slots := 0, locals := 25 }
theorem miX13_isCustomer : MI yX13_isCustomer cX13_isCustomer 2 (some .boolean) 1 := ⟨q_2212, q_152, by decide +kernel, by decide +kernel, by decide +kernel, by decide +kernel⟩
theorem mvX13_isCustomer : MV yX13_isCustomer := ⟨q_2211, q_46⟩
def FX13_isCustomer (w : Wd) (p1 : Int32) : Option (Bool) :=
  gd (inb 1 390) <|
  bnd (FX13_isIn p1.toInt64 0 ((((w 15).1 2 1) - 1).toInt64)) fun x3 =>
  some x3
set_option maxHeartbeats 4000000 in
set_option maxRecDepth 100000 in
theorem ctX13_isCustomer {G : GG} {l : Launch} (w : Wd) (p1 : Int32)  {rx : Bool} (hF : FX13_isCustomer w p1 = some rx) : CT G l yX13_isCustomer cX13_isCustomer 2 (some .boolean) rmX13_isCustomer 0 0 [.ref (adr G 15 0), .int p1] w (some (.int (bI rx))) w := by
  refine CT.of miX13_isCustomer [(0, .ref (adr G 15 0)), (1, .int p1)] rfl (Nat.le_of_ble_eq_true rfl) ?_
  intro p e s m args below meth c hX hR hlk
  have hX : FX G RX13 cX13_isCustomer 2 p s m args c := hX
  unfold FX13_isCustomer at hF
  refine J_iload_n hX dX13_isCustomer_0 1 rfl (t := 1) rfl ?_
  refine J_i2l hX dX13_isCustomer_1 (t := 2) rfl ?_
  refine J_lconst (v := 0) hX dX13_isCustomer_2 (by decide) (t := 3) rfl ?_
  refine J_aload_n hX dX13_isCustomer_3 0 rfl (t := 4) rfl ?_
  refine J_get hX cb10 kModel 13 (by decide) q_1980 rfl dX13_isCustomer_4 (t := 7) rfl ?_
  refine J_iconst (v := 1) hX dX13_isCustomer_7 (by decide) (t := 8) rfl ?_
  obtain ⟨g1, hF⟩ := gd_e hF
  refine J_iald hX (kInts (j := 2) (n := 390) (by decide) (by decide) rfl) g1 rfl dX13_isCustomer_8 (t := 9) rfl ?_
  refine J_iconst (v := 1) hX dX13_isCustomer_9 (by decide) (t := 10) rfl ?_
  refine J_isub hX dX13_isCustomer_10 (t := 11) rfl ?_
  refine J_i2l hX dX13_isCustomer_11 (t := 12) rfl ?_
  obtain ⟨x3, h2, hF⟩ := bnd_e hF
  have k4 := (ctX13_isIn (l := l) (G := G) (w := w) p1.toInt64 0 ((((w 15).1 2 1) - 1).toInt64) h2)
  refine J_callS hX [.long p1.toInt64, .long 0, .long ((((w 15).1 2 1) - 1).toInt64)] [] [.int (bI x3)] k4 miX13_isIn q_2094 q_2093 ⟨rfl, rfl, Nat.le_of_ble_eq_true rfl, Nat.le_of_ble_eq_true rfl⟩ rfl rfl (Nat.le_of_ble_eq_true rfl) ⟨Nat.le_of_ble_eq_true rfl, Nat.le_of_ble_eq_true rfl⟩ dX13_isCustomer_12 (t := 15) rfl rfl ?_
  replace hF := Option.some.inj hF
  subst hF
  exact J_zret (b := x3) hX hR hlk dX13_isCustomer_15
abbrev rmX13_isShout0 : Room := { frames := 1, cells := 0, slots := 0, locals := 25 }
theorem miX13_isShout0 : MI yX13_isShout0 cX13_isShout0 2 (some .boolean) 1 := ⟨q_2263, q_152, by decide +kernel, by decide +kernel, by decide +kernel, by decide +kernel⟩
theorem mvX13_isShout0 : MV yX13_isShout0 := ⟨q_2262, q_56⟩
def FX13_isShout0 (w : Wd) (p1 : Int32) : Option (Bool) :=
  gd (inb 2 390) <|
  bnd (FX13_isIn p1.toInt64 0 ((((w 15).1 2 2) - 1).toInt64)) fun x3 =>
  some x3
set_option maxHeartbeats 4000000 in
set_option maxRecDepth 100000 in
theorem ctX13_isShout0 {G : GG} {l : Launch} (w : Wd) (p1 : Int32)  {rx : Bool} (hF : FX13_isShout0 w p1 = some rx) : CT G l yX13_isShout0 cX13_isShout0 2 (some .boolean) rmX13_isShout0 0 0 [.ref (adr G 15 0), .int p1] w (some (.int (bI rx))) w := by
  refine CT.of miX13_isShout0 [(0, .ref (adr G 15 0)), (1, .int p1)] rfl (Nat.le_of_ble_eq_true rfl) ?_
  intro p e s m args below meth c hX hR hlk
  have hX : FX G RX13 cX13_isShout0 2 p s m args c := hX
  unfold FX13_isShout0 at hF
  refine J_iload_n hX dX13_isShout0_0 1 rfl (t := 1) rfl ?_
  refine J_i2l hX dX13_isShout0_1 (t := 2) rfl ?_
  refine J_lconst (v := 0) hX dX13_isShout0_2 (by decide) (t := 3) rfl ?_
  refine J_aload_n hX dX13_isShout0_3 0 rfl (t := 4) rfl ?_
  refine J_get hX cb10 kModel 13 (by decide) q_1980 rfl dX13_isShout0_4 (t := 7) rfl ?_
  refine J_iconst (v := 2) hX dX13_isShout0_7 (by decide) (t := 8) rfl ?_
  obtain ⟨g1, hF⟩ := gd_e hF
  refine J_iald hX (kInts (j := 2) (n := 390) (by decide) (by decide) rfl) g1 rfl dX13_isShout0_8 (t := 9) rfl ?_
  refine J_iconst (v := 1) hX dX13_isShout0_9 (by decide) (t := 10) rfl ?_
  refine J_isub hX dX13_isShout0_10 (t := 11) rfl ?_
  refine J_i2l hX dX13_isShout0_11 (t := 12) rfl ?_
  obtain ⟨x3, h2, hF⟩ := bnd_e hF
  have k4 := (ctX13_isIn (l := l) (G := G) (w := w) p1.toInt64 0 ((((w 15).1 2 2) - 1).toInt64) h2)
  refine J_callS hX [.long p1.toInt64, .long 0, .long ((((w 15).1 2 2) - 1).toInt64)] [] [.int (bI x3)] k4 miX13_isIn q_2094 q_2093 ⟨rfl, rfl, Nat.le_of_ble_eq_true rfl, Nat.le_of_ble_eq_true rfl⟩ rfl rfl (Nat.le_of_ble_eq_true rfl) ⟨Nat.le_of_ble_eq_true rfl, Nat.le_of_ble_eq_true rfl⟩ dX13_isShout0_12 (t := 15) rfl rfl ?_
  replace hF := Option.some.inj hF
  subst hF
  exact J_zret (b := x3) hX hR hlk dX13_isShout0_15
abbrev rmX13_isOpen : Room := { frames := 2, cells := 0, slots := 0, locals := 46 }
theorem miX13_isOpen : MI yX13_isOpen cX13_isOpen 2 (some .boolean) 1 := ⟨q_2267, q_152, by decide +kernel, by decide +kernel, by decide +kernel, by decide +kernel⟩
theorem mvX13_isOpen : MV yX13_isOpen := ⟨q_2266, q_57⟩
def FX13_isOpen (w : Wd) (p1 : Int32) : Option (Bool) :=
  bo1 (FX13_isShout0 w p1) fun x2 =>
  if x2 = true then
    bo1 (FX13_of w p1 6) fun x5 =>
    if x5 = 0 then
      some true
    else
      some false
  else
    some false
set_option maxHeartbeats 4000000 in
set_option maxRecDepth 100000 in
theorem ctX13_isOpen {G : GG} {l : Launch} (w : Wd) (p1 : Int32)  {rx : Bool} (hF : FX13_isOpen w p1 = some rx) : CT G l yX13_isOpen cX13_isOpen 2 (some .boolean) rmX13_isOpen 0 0 [.ref (adr G 15 0), .int p1] w (some (.int (bI rx))) w := by
  refine CT.of miX13_isOpen [(0, .ref (adr G 15 0)), (1, .int p1)] rfl (Nat.le_of_ble_eq_true rfl) ?_
  intro p e s m args below meth c hX hR hlk
  have hX : FX G RX13 cX13_isOpen 2 p s m args c := hX
  unfold FX13_isOpen at hF
  refine J_aload_n hX dX13_isOpen_0 0 rfl (t := 1) rfl ?_
  refine J_iload_n hX dX13_isOpen_1 1 rfl (t := 2) rfl ?_
  obtain ⟨x2, h1, hF⟩ := bo1_e hF
  have k3 := (ctX13_isShout0 (G := G) (l := l) w p1 h1)
  refine J_callV hX [.int p1] [] [.int (bI x2)] k3 miX13_isShout0 mvX13_isShout0 cb10 kModel q_2260 ⟨rfl, rfl, Nat.le_of_ble_eq_true rfl, Nat.le_of_ble_eq_true rfl⟩ rfl rfl (Nat.le_of_ble_eq_true rfl) ⟨Nat.le_of_ble_eq_true rfl, Nat.le_of_ble_eq_true rfl⟩ dX13_isOpen_2 (t := 5) rfl rfl ?_
  refine J_ifZ_eq (tgt := 22) hX dX13_isOpen_5 (by decide) (t := 8) rfl (fun z => ?_) (fun z => ?_)
  · replace hF := ib_f hF z
    refine J_iconst (v := 0) hX dX13_isOpen_22 (by decide) (t := 23) rfl ?_
    replace hF := Option.some.inj hF
    subst hF
    exact J_zret (b := false) hX hR hlk dX13_isOpen_23
  · replace hF := it_t hF z
    refine J_aload_n hX dX13_isOpen_8 0 rfl (t := 9) rfl ?_
    refine J_iload_n hX dX13_isOpen_9 1 rfl (t := 10) rfl ?_
    refine J_bipush (v := 6) hX dX13_isOpen_10 (by decide) (t := 12) rfl ?_
    obtain ⟨x5, h4, hF⟩ := bo1_e hF
    have k6 := (ctX13_of (G := G) (l := l) w p1 6 h4)
    refine J_callV hX [.int p1, .int 6] [] [.int x5] k6 miX13_of mvX13_of cb10 kModel q_2237 ⟨rfl, rfl, Nat.le_of_ble_eq_true rfl, Nat.le_of_ble_eq_true rfl⟩ rfl rfl (Nat.le_of_ble_eq_true rfl) ⟨Nat.le_of_ble_eq_true rfl, Nat.le_of_ble_eq_true rfl⟩ dX13_isOpen_12 (t := 15) rfl rfl ?_
    refine J_if_ne (tgt := 22) hX dX13_isOpen_15 (by decide) (t := 18) rfl (fun z => ?_) (fun z => ?_)
    · replace hF := it_f hF z
      refine J_iconst (v := 0) hX dX13_isOpen_22 (by decide) (t := 23) rfl ?_
      replace hF := Option.some.inj hF
      subst hF
      exact J_zret (b := false) hX hR hlk dX13_isOpen_23
    · replace hF := it_t hF z
      refine J_iconst (v := 1) hX dX13_isOpen_18 (by decide) (t := 19) rfl ?_
      refine J_goto (tgt := 23) hX dX13_isOpen_19 (by decide) ?_
      replace hF := Option.some.inj hF
      subst hF
      exact J_zret (b := true) hX hR hlk dX13_isOpen_23
abbrev rmX13_laysName : Room := { frames := 0, cells := 0, slots := 0, locals := 0 }
theorem miX13_laysName : MI yX13_laysName cX13_laysName 4 none 2 := ⟨q_2179, q_152, by decide +kernel, by decide +kernel, by decide +kernel, by decide +kernel⟩
theorem mvX13_laysName : MV yX13_laysName := ⟨q_2178, q_42⟩
def FX13_laysName (w : Wd) (p1 : Int32) (p2 : Int64) : Option (Wd) :=
  gd (inb p1 390) <| bnd (sW w 15 (sI (w 15) 2 p1.toNatClampNeg ((p2 >>> ((20 : Int32).toInt64 &&& 63)).toInt32))) fun w2 =>
  gd (inb (p1 + 1) 390) <| bnd (sW w2 15 (sI (w2 15) 2 ((p1 + 1).toNatClampNeg) ((p2 &&& 1048575).toInt32))) fun w5 =>
  some w5
set_option maxHeartbeats 4000000 in
set_option maxRecDepth 100000 in
theorem ctX13_laysName {G : GG} {l : Launch} (w : Wd) (p1 : Int32) (p2 : Int64)  {rw : Wd} (hF : FX13_laysName w p1 p2 = some rw) : CT G l yX13_laysName cX13_laysName 4 none rmX13_laysName 0 0 [.ref (adr G 15 0), .int p1, .long p2] w (none) rw := by
  refine CT.of miX13_laysName [(0, .ref (adr G 15 0)), (1, .int p1), (2, .long p2)] rfl (Nat.le_of_ble_eq_true rfl) ?_
  intro p e s m args below meth c hX hR hlk
  have hX : FX G RX13 cX13_laysName 4 p s m args c := hX
  unfold FX13_laysName at hF
  refine J_aload_n hX dX13_laysName_0 0 rfl (t := 1) rfl ?_
  refine J_get hX cb10 kModel 13 (by decide) q_1980 rfl dX13_laysName_1 (t := 4) rfl ?_
  refine J_iload_n hX dX13_laysName_4 1 rfl (t := 5) rfl ?_
  refine J_lload_n hX dX13_laysName_5 2 rfl (t := 6) rfl ?_
  refine J_bipush (v := 20) hX dX13_laysName_6 (by decide) (t := 8) rfl ?_
  refine J_lshr hX dX13_laysName_8 (t := 9) rfl ?_
  refine J_l2i hX dX13_laysName_9 (t := 10) rfl ?_
  obtain ⟨g1, hF⟩ := gd_e hF
  obtain ⟨w2, e3, hF⟩ := bnd_e hF
  refine J_iast hX (kInts (j := 2) (n := 390) (by decide) (by decide) rfl) g1 rfl e3 dX13_laysName_10 (t := 11) rfl ?_
  refine J_aload_n hX dX13_laysName_11 0 rfl (t := 12) rfl ?_
  refine J_get hX cb10 kModel 13 (by decide) q_1980 rfl dX13_laysName_12 (t := 15) rfl ?_
  refine J_iload_n hX dX13_laysName_15 1 rfl (t := 16) rfl ?_
  refine J_iconst (v := 1) hX dX13_laysName_16 (by decide) (t := 17) rfl ?_
  refine J_iadd hX dX13_laysName_17 (t := 18) rfl ?_
  refine J_lload_n hX dX13_laysName_18 2 rfl (t := 19) rfl ?_
  refine J_ldc2 hX dX13_laysName_19 q_2180 (t := 22) rfl ?_
  refine J_land hX dX13_laysName_22 (t := 23) rfl ?_
  refine J_l2i hX dX13_laysName_23 (t := 24) rfl ?_
  obtain ⟨g4, hF⟩ := gd_e hF
  obtain ⟨w5, e6, hF⟩ := bnd_e hF
  refine J_iast hX (kInts (j := 2) (n := 390) (by decide) (by decide) rfl) g4 rfl e6 dX13_laysName_24 (t := 25) rfl ?_
  replace hF := Option.some.inj hF
  subst hF
  exact J_vret hX hR hlk dX13_laysName_25
abbrev rmX13_nameAt : Room := { frames := 0, cells := 0, slots := 0, locals := 0 }
theorem miX13_nameAt : MI yX13_nameAt cX13_nameAt 2 (some .long) 1 := ⟨q_2163, q_152, by decide +kernel, by decide +kernel, by decide +kernel, by decide +kernel⟩
theorem mvX13_nameAt : MV yX13_nameAt := ⟨q_2162, q_38⟩
def FX13_nameAt (w : Wd) (p1 : Int32) : Option (Int64) :=
  gd (inb p1 390) <|
  gd (inb (p1 + 1) 390) <|
  some (((((w 15).1 2 p1.toNatClampNeg).toInt64) <<< ((20 : Int32).toInt64 &&& 63)) ||| (((w 15).1 2 ((p1 + 1).toNatClampNeg)).toInt64))
set_option maxHeartbeats 4000000 in
set_option maxRecDepth 100000 in
theorem ctX13_nameAt {G : GG} {l : Launch} (w : Wd) (p1 : Int32)  {rx : Int64} (hF : FX13_nameAt w p1 = some rx) : CT G l yX13_nameAt cX13_nameAt 2 (some .long) rmX13_nameAt 0 0 [.ref (adr G 15 0), .int p1] w (some (.long rx)) w := by
  refine CT.of miX13_nameAt [(0, .ref (adr G 15 0)), (1, .int p1)] rfl (Nat.le_of_ble_eq_true rfl) ?_
  intro p e s m args below meth c hX hR hlk
  have hX : FX G RX13 cX13_nameAt 2 p s m args c := hX
  unfold FX13_nameAt at hF
  refine J_aload_n hX dX13_nameAt_0 0 rfl (t := 1) rfl ?_
  refine J_get hX cb10 kModel 13 (by decide) q_1980 rfl dX13_nameAt_1 (t := 4) rfl ?_
  refine J_iload_n hX dX13_nameAt_4 1 rfl (t := 5) rfl ?_
  obtain ⟨g1, hF⟩ := gd_e hF
  refine J_iald hX (kInts (j := 2) (n := 390) (by decide) (by decide) rfl) g1 rfl dX13_nameAt_5 (t := 6) rfl ?_
  refine J_i2l hX dX13_nameAt_6 (t := 7) rfl ?_
  refine J_bipush (v := 20) hX dX13_nameAt_7 (by decide) (t := 9) rfl ?_
  refine J_lshl hX dX13_nameAt_9 (t := 10) rfl ?_
  refine J_aload_n hX dX13_nameAt_10 0 rfl (t := 11) rfl ?_
  refine J_get hX cb10 kModel 13 (by decide) q_1980 rfl dX13_nameAt_11 (t := 14) rfl ?_
  refine J_iload_n hX dX13_nameAt_14 1 rfl (t := 15) rfl ?_
  refine J_iconst (v := 1) hX dX13_nameAt_15 (by decide) (t := 16) rfl ?_
  refine J_iadd hX dX13_nameAt_16 (t := 17) rfl ?_
  obtain ⟨g2, hF⟩ := gd_e hF
  refine J_iald hX (kInts (j := 2) (n := 390) (by decide) (by decide) rfl) g2 rfl dX13_nameAt_17 (t := 18) rfl ?_
  refine J_i2l hX dX13_nameAt_18 (t := 19) rfl ?_
  refine J_lor hX dX13_nameAt_19 (t := 20) rfl ?_
  replace hF := Option.some.inj hF
  subst hF
  exact J_lret hX hR hlk dX13_nameAt_20
abbrev rmX13_nme : Room := { frames := 1, cells := 0, slots := 0, locals := 20 }
theorem miX13_nme : MI yX13_nme cX13_nme 2 (some .int) 2 := ⟨q_2153, q_152, by decide +kernel, by decide +kernel, by decide +kernel, by decide +kernel⟩
def FX13_nme (p0 : Int32) (p1 : Int32) : Int32 :=
  if p0 = 0 then
    bnd (FX13_vly p1) fun x5 =>
    x5 + 6
  else
    bnd (FX13_cst p1) fun x2 =>
    x2 + 4
set_option maxHeartbeats 4000000 in
set_option maxRecDepth 100000 in
theorem ctX13_nme {G : GG} {l : Launch} {w : Wd} (p0 : Int32) (p1 : Int32)  {rx : Int32} (hF : FX13_nme p0 p1 = rx) : CT G l yX13_nme cX13_nme 2 (some .int) rmX13_nme 0 0 [.int p0, .int p1] w (some (.int rx)) w := by
  refine CT.of miX13_nme [(0, .int p0), (1, .int p1)] rfl (Nat.le_of_ble_eq_true rfl) ?_
  intro p e s m args below meth c hX hR hlk
  have hX : FX G RX13 cX13_nme 2 p s m args c := hX
  unfold FX13_nme at hF
  refine J_iload_n hX dX13_nme_0 0 rfl (t := 1) rfl ?_
  refine J_if_ne (tgt := 14) hX dX13_nme_1 (by decide) (t := 4) rfl (fun z => ?_) (fun z => ?_)
  · replace hF := it_f hF z
    refine J_iload_n hX dX13_nme_14 1 rfl (t := 15) rfl ?_
    obtain ⟨x2, h1, hF⟩ := bnd_e hF
    have k3 := (ctX13_cst (l := l) (G := G) (w := w) p1 h1)
    refine J_callS hX [.int p1] [] [.int x2] k3 miX13_cst q_2158 q_2157 ⟨rfl, rfl, Nat.le_of_ble_eq_true rfl, Nat.le_of_ble_eq_true rfl⟩ rfl rfl (Nat.le_of_ble_eq_true rfl) ⟨Nat.le_of_ble_eq_true rfl, Nat.le_of_ble_eq_true rfl⟩ dX13_nme_15 (t := 18) rfl rfl ?_
    refine J_iconst (v := 4) hX dX13_nme_18 (by decide) (t := 19) rfl ?_
    refine J_iadd hX dX13_nme_19 (t := 20) rfl ?_
    subst hF
    exact J_iret hX hR hlk dX13_nme_20
  · replace hF := it_t hF z
    refine J_iload_n hX dX13_nme_4 1 rfl (t := 5) rfl ?_
    obtain ⟨x5, h4, hF⟩ := bnd_e hF
    have k6 := (ctX13_vly (l := l) (G := G) (w := w) p1 h4)
    refine J_callS hX [.int p1] [] [.int x5] k6 miX13_vly q_2155 q_2154 ⟨rfl, rfl, Nat.le_of_ble_eq_true rfl, Nat.le_of_ble_eq_true rfl⟩ rfl rfl (Nat.le_of_ble_eq_true rfl) ⟨Nat.le_of_ble_eq_true rfl, Nat.le_of_ble_eq_true rfl⟩ dX13_nme_5 (t := 8) rfl rfl ?_
    refine J_bipush (v := 6) hX dX13_nme_8 (by decide) (t := 10) rfl ?_
    refine J_iadd hX dX13_nme_10 (t := 11) rfl ?_
    refine J_goto (tgt := 20) hX dX13_nme_11 (by decide) ?_
    subst hF
    exact J_iret hX hR hlk dX13_nme_20
abbrev rmX13_found : Room := { frames := 2, cells := 0, slots := 0, locals := 41 }
theorem miX13_found : MI yX13_found cX13_found 5 (some .int) 2 := ⟨q_2150, q_152, by decide +kernel, by decide +kernel, by decide +kernel, by decide +kernel⟩
theorem mvX13_found : MV yX13_found := ⟨q_2149, q_37⟩
def FX13_found_L3 (n : Nat) : Nat → Wd → Int32 → Int64 → Int32 → Option (Int32)
  | 0 => fun _ _ _ _ => none
  | k + 1 => fun w l1 l2 l4 =>
    gd (inb l1 390) <|
    if (w 15).1 2 l1.toNatClampNeg ≤ l4 then
      some (-1)
    else
      if lg_cmp l2 0 = 0 then
        FX13_found_L3 n k w l1 l2 (l4 + 1)
      else
        bnd (FX13_nme l1 l4) fun x3 =>
        bo1 (FX13_nameAt w x3) fun x6 =>
        if lg_cmp x6 l2 = 0 then
          some l4
        else
          FX13_found_L3 n k w l1 l2 (l4 + 1)
set_option maxHeartbeats 4000000 in
set_option maxRecDepth 100000 in
theorem LX13_found_3 {G : GG} {l : Launch} {p : Program} {e : Env} {s : State} {m : MethodId} {args : Array Value} {below : List Frame} {meth : Method} {c : Code} (hX : FX G RX13 cX13_found 5 p s m args c) (hR : meth.sig.returnType = (some .int)) (hlk : meth.locks = false) {rx : Int32} (n : Nat) : ∀ (k : Nat) (w : Wd) (l1 : Int32) (l2 : Int64) (l4 : Int32) , FX13_found_L3 n k w l1 l2 l4 = some rx → J G p l e rmX13_found s m args below meth c 5 0 0 (MQ below (QV G (some (.int rx)) w) args s 0 0 (gA G)) (GH G w) 3 [(0, .ref (adr G 15 0)), (1, .int l1), (2, .long l2), (4, .int l4)] [] := by
  intro k
  induction k with
  | zero => intro w l1 l2 l4  hF; cases hF
  | succ k ih =>
    intro w l1 l2 l4  hF
    simp only [FX13_found_L3] at hF
    refine J_iload hX dX13_found_3 3 rfl (t := 5) rfl ?_
    refine J_aload_n hX dX13_found_5 0 rfl (t := 6) rfl ?_
    refine J_get hX cb10 kModel 13 (by decide) q_1980 rfl dX13_found_6 (t := 9) rfl ?_
    refine J_iload_n hX dX13_found_9 1 rfl (t := 10) rfl ?_
    obtain ⟨g1, hF⟩ := gd_e hF
    refine J_iald hX (kInts (j := 2) (n := 390) (by decide) (by decide) rfl) g1 rfl dX13_found_10 (t := 11) rfl ?_
    refine J_icmp_ge (tgt := 44) hX dX13_found_11 (by decide) (t := 14) rfl (fun z => ?_) (fun z => ?_)
    · replace hF := it_t hF z
      refine J_iconst (v := (-1)) hX dX13_found_44 (by decide) (t := 45) rfl ?_
      replace hF := Option.some.inj hF
      subst hF
      exact J_iret hX hR hlk dX13_found_45
    · replace hF := it_f hF z
      refine J_lload_n hX dX13_found_14 2 rfl (t := 15) rfl ?_
      refine J_lconst (v := 0) hX dX13_found_15 (by decide) (t := 16) rfl ?_
      refine J_lcmp hX dX13_found_16 (t := 17) rfl ?_
      refine J_if_eq (tgt := 38) hX dX13_found_17 (by decide) (t := 20) rfl (fun z => ?_) (fun z => ?_)
      · replace hF := it_t hF z
        refine J_iinc (v := l4 + 1) (lc2 := [(4, .int (l4 + 1)), (0, .ref (adr G 15 0)), (1, .int l1), (2, .long l2)]) hX dX13_found_38 3 rfl rfl (Nat.le_of_ble_eq_true rfl) rfl (t := 41) rfl ?_
        refine J_goto (tgt := 3) hX dX13_found_41 (by decide) ?_
        refine J_sub (lc2 := [(0, .ref (adr G 15 0)), (1, .int l1), (2, .long l2), (4, .int (l4 + 1))]) [1, 2, 3, 0] rfl ?_
        exact ih w l1 l2 (l4 + 1) hF
      · replace hF := it_f hF z
        refine J_aload_n hX dX13_found_20 0 rfl (t := 21) rfl ?_
        refine J_iload_n hX dX13_found_21 1 rfl (t := 22) rfl ?_
        refine J_iload hX dX13_found_22 3 rfl (t := 24) rfl ?_
        obtain ⟨x3, h2, hF⟩ := bnd_e hF
        have k4 := (ctX13_nme (l := l) (G := G) (w := w) l1 l4 h2)
        refine J_callS hX [.int l1, .int l4] [.ref (adr G 15 0)] [.int x3, .ref (adr G 15 0)] k4 miX13_nme q_2152 q_2151 ⟨rfl, rfl, Nat.le_of_ble_eq_true rfl, Nat.le_of_ble_eq_true rfl⟩ rfl rfl (Nat.le_of_ble_eq_true rfl) ⟨Nat.le_of_ble_eq_true rfl, Nat.le_of_ble_eq_true rfl⟩ dX13_found_24 (t := 27) rfl rfl ?_
        obtain ⟨x6, h5, hF⟩ := bo1_e hF
        have k7 := (ctX13_nameAt (G := G) (l := l) w x3 h5)
        refine J_callV hX [.int x3] [] [.long x6] k7 miX13_nameAt mvX13_nameAt cb10 kModel q_2160 ⟨rfl, rfl, Nat.le_of_ble_eq_true rfl, Nat.le_of_ble_eq_true rfl⟩ rfl rfl (Nat.le_of_ble_eq_true rfl) ⟨Nat.le_of_ble_eq_true rfl, Nat.le_of_ble_eq_true rfl⟩ dX13_found_27 (t := 30) rfl rfl ?_
        refine J_lload_n hX dX13_found_30 2 rfl (t := 31) rfl ?_
        refine J_lcmp hX dX13_found_31 (t := 32) rfl ?_
        refine J_if_ne (tgt := 38) hX dX13_found_32 (by decide) (t := 35) rfl (fun z => ?_) (fun z => ?_)
        · replace hF := it_f hF z
          refine J_iinc (v := l4 + 1) (lc2 := [(4, .int (l4 + 1)), (0, .ref (adr G 15 0)), (1, .int l1), (2, .long l2)]) hX dX13_found_38 3 rfl rfl (Nat.le_of_ble_eq_true rfl) rfl (t := 41) rfl ?_
          refine J_goto (tgt := 3) hX dX13_found_41 (by decide) ?_
          refine J_sub (lc2 := [(0, .ref (adr G 15 0)), (1, .int l1), (2, .long l2), (4, .int (l4 + 1))]) [1, 2, 3, 0] rfl ?_
          exact ih w l1 l2 (l4 + 1) hF
        · replace hF := it_t hF z
          refine J_iload hX dX13_found_35 3 rfl (t := 37) rfl ?_
          replace hF := Option.some.inj hF
          subst hF
          exact J_iret hX hR hlk dX13_found_37
def FX13_found (n : Nat) (w : Wd) (p1 : Int32) (p2 : Int64) : Option (Int32) :=
  FX13_found_L3 n n w p1 p2 0
set_option maxHeartbeats 4000000 in
set_option maxRecDepth 100000 in
theorem ctX13_found {G : GG} {l : Launch} (w : Wd) (p1 : Int32) (p2 : Int64)  (n : Nat) {rx : Int32} (hF : FX13_found n w p1 p2 = some rx) : CT G l yX13_found cX13_found 5 (some .int) rmX13_found 0 0 [.ref (adr G 15 0), .int p1, .long p2] w (some (.int rx)) w := by
  refine CT.of miX13_found [(0, .ref (adr G 15 0)), (1, .int p1), (2, .long p2)] rfl (Nat.le_of_ble_eq_true rfl) ?_
  intro p e s m args below meth c hX hR hlk
  have hX : FX G RX13 cX13_found 5 p s m args c := hX
  unfold FX13_found at hF
  refine J_iconst (v := 0) hX dX13_found_0 (by decide) (t := 1) rfl ?_
  refine J_istore (lc2 := [(4, .int 0), (0, .ref (adr G 15 0)), (1, .int p1), (2, .long p2)]) hX dX13_found_1 (Nat.le_of_ble_eq_true rfl) rfl (t := 3) rfl ?_
  refine J_sub (lc2 := [(0, .ref (adr G 15 0)), (1, .int p1), (2, .long p2), (4, .int 0)]) [1, 2, 3, 0] rfl ?_
  exact LX13_found_3 hX hR hlk n n w p1 p2 0 hF
abbrev rmX13_left : Room := { frames := 2, cells := 0, slots := 0, locals := 42 }
theorem miX13_left : MI yX13_left cX13_left 2 (some .int) 1 := ⟨q_2275, q_152, by decide +kernel, by decide +kernel, by decide +kernel, by decide +kernel⟩
theorem mvX13_left : MV yX13_left := ⟨q_2274, q_59⟩
def FX13_left (w : Wd) (p1 : Int32) : Option (Int32) :=
  bo1 (FX13_of w p1 6) fun x2 =>
  if x2 = 0 then
    bo1 (FX13_of w p1 4) fun x5 =>
    bo1 (FX13_of w p1 3) fun x8 =>
    bo1 (FX13_of w p1 7) fun x11 =>
    some (x5 * (x8 - x11))
  else
    some 0
set_option maxHeartbeats 4000000 in
set_option maxRecDepth 100000 in
theorem ctX13_left {G : GG} {l : Launch} (w : Wd) (p1 : Int32)  {rx : Int32} (hF : FX13_left w p1 = some rx) : CT G l yX13_left cX13_left 2 (some .int) rmX13_left 0 0 [.ref (adr G 15 0), .int p1] w (some (.int rx)) w := by
  refine CT.of miX13_left [(0, .ref (adr G 15 0)), (1, .int p1)] rfl (Nat.le_of_ble_eq_true rfl) ?_
  intro p e s m args below meth c hX hR hlk
  have hX : FX G RX13 cX13_left 2 p s m args c := hX
  unfold FX13_left at hF
  refine J_aload_n hX dX13_left_0 0 rfl (t := 1) rfl ?_
  refine J_iload_n hX dX13_left_1 1 rfl (t := 2) rfl ?_
  refine J_bipush (v := 6) hX dX13_left_2 (by decide) (t := 4) rfl ?_
  obtain ⟨x2, h1, hF⟩ := bo1_e hF
  have k3 := (ctX13_of (G := G) (l := l) w p1 6 h1)
  refine J_callV hX [.int p1, .int 6] [] [.int x2] k3 miX13_of mvX13_of cb10 kModel q_2237 ⟨rfl, rfl, Nat.le_of_ble_eq_true rfl, Nat.le_of_ble_eq_true rfl⟩ rfl rfl (Nat.le_of_ble_eq_true rfl) ⟨Nat.le_of_ble_eq_true rfl, Nat.le_of_ble_eq_true rfl⟩ dX13_left_4 (t := 7) rfl rfl ?_
  refine J_if_ne (tgt := 34) hX dX13_left_7 (by decide) (t := 10) rfl (fun z => ?_) (fun z => ?_)
  · replace hF := it_f hF z
    refine J_iconst (v := 0) hX dX13_left_34 (by decide) (t := 35) rfl ?_
    replace hF := Option.some.inj hF
    subst hF
    exact J_iret hX hR hlk dX13_left_35
  · replace hF := it_t hF z
    refine J_aload_n hX dX13_left_10 0 rfl (t := 11) rfl ?_
    refine J_iload_n hX dX13_left_11 1 rfl (t := 12) rfl ?_
    refine J_iconst (v := 4) hX dX13_left_12 (by decide) (t := 13) rfl ?_
    obtain ⟨x5, h4, hF⟩ := bo1_e hF
    have k6 := (ctX13_of (G := G) (l := l) w p1 4 h4)
    refine J_callV hX [.int p1, .int 4] [] [.int x5] k6 miX13_of mvX13_of cb10 kModel q_2237 ⟨rfl, rfl, Nat.le_of_ble_eq_true rfl, Nat.le_of_ble_eq_true rfl⟩ rfl rfl (Nat.le_of_ble_eq_true rfl) ⟨Nat.le_of_ble_eq_true rfl, Nat.le_of_ble_eq_true rfl⟩ dX13_left_13 (t := 16) rfl rfl ?_
    refine J_aload_n hX dX13_left_16 0 rfl (t := 17) rfl ?_
    refine J_iload_n hX dX13_left_17 1 rfl (t := 18) rfl ?_
    refine J_iconst (v := 3) hX dX13_left_18 (by decide) (t := 19) rfl ?_
    obtain ⟨x8, h7, hF⟩ := bo1_e hF
    have k9 := (ctX13_of (G := G) (l := l) w p1 3 h7)
    refine J_callV hX [.int p1, .int 3] [.int x5] [.int x8, .int x5] k9 miX13_of mvX13_of cb10 kModel q_2237 ⟨rfl, rfl, Nat.le_of_ble_eq_true rfl, Nat.le_of_ble_eq_true rfl⟩ rfl rfl (Nat.le_of_ble_eq_true rfl) ⟨Nat.le_of_ble_eq_true rfl, Nat.le_of_ble_eq_true rfl⟩ dX13_left_19 (t := 22) rfl rfl ?_
    refine J_aload_n hX dX13_left_22 0 rfl (t := 23) rfl ?_
    refine J_iload_n hX dX13_left_23 1 rfl (t := 24) rfl ?_
    refine J_bipush (v := 7) hX dX13_left_24 (by decide) (t := 26) rfl ?_
    obtain ⟨x11, h10, hF⟩ := bo1_e hF
    have k12 := (ctX13_of (G := G) (l := l) w p1 7 h10)
    refine J_callV hX [.int p1, .int 7] [.int x8, .int x5] [.int x11, .int x8, .int x5] k12 miX13_of mvX13_of cb10 kModel q_2237 ⟨rfl, rfl, Nat.le_of_ble_eq_true rfl, Nat.le_of_ble_eq_true rfl⟩ rfl rfl (Nat.le_of_ble_eq_true rfl) ⟨Nat.le_of_ble_eq_true rfl, Nat.le_of_ble_eq_true rfl⟩ dX13_left_26 (t := 29) rfl rfl ?_
    refine J_isub hX dX13_left_29 (t := 30) rfl ?_
    refine J_imul hX dX13_left_30 (t := 31) rfl ?_
    refine J_goto (tgt := 35) hX dX13_left_31 (by decide) ?_
    replace hF := Option.some.inj hF
    subst hF
    exact J_iret hX hR hlk dX13_left_35
abbrev rmX13_heldAll : Room := { frames := 3, cells := 0, slots := 0, locals := 63 }
theorem miX13_heldAll : MI yX13_heldAll cX13_heldAll 3 (some .int) 0 := ⟨q_2510, q_152, by decide +kernel, by decide +kernel, by decide +kernel, by decide +kernel⟩
theorem mvX13_heldAll : MV yX13_heldAll := ⟨q_2509, q_100⟩
def FX13_heldAll_L4 (n : Nat) : Nat → Wd → Int32 → Int32 → Option (Int32)
  | 0 => fun _ _ _ => none
  | k + 1 => fun w l1 l2 =>
    gd (inb 2 390) <|
    if (w 15).1 2 2 ≤ l2 then
      some l1
    else
      bo1 (FX13_left w l2) fun x3 =>
      FX13_heldAll_L4 n k w (l1 + x3) (l2 + 1)
set_option maxHeartbeats 4000000 in
set_option maxRecDepth 100000 in
theorem LX13_heldAll_4 {G : GG} {l : Launch} {p : Program} {e : Env} {s : State} {m : MethodId} {args : Array Value} {below : List Frame} {meth : Method} {c : Code} (hX : FX G RX13 cX13_heldAll 3 p s m args c) (hR : meth.sig.returnType = (some .int)) (hlk : meth.locks = false) {rx : Int32} (n : Nat) : ∀ (k : Nat) (w : Wd) (l1 : Int32) (l2 : Int32) , FX13_heldAll_L4 n k w l1 l2 = some rx → J G p l e rmX13_heldAll s m args below meth c 3 0 0 (MQ below (QV G (some (.int rx)) w) args s 0 0 (gA G)) (GH G w) 4 [(0, .ref (adr G 15 0)), (1, .int l1), (2, .int l2)] [] := by
  intro k
  induction k with
  | zero => intro w l1 l2  hF; cases hF
  | succ k ih =>
    intro w l1 l2  hF
    simp only [FX13_heldAll_L4] at hF
    refine J_iload_n hX dX13_heldAll_4 2 rfl (t := 5) rfl ?_
    refine J_aload_n hX dX13_heldAll_5 0 rfl (t := 6) rfl ?_
    refine J_get hX cb10 kModel 13 (by decide) q_1980 rfl dX13_heldAll_6 (t := 9) rfl ?_
    refine J_iconst (v := 2) hX dX13_heldAll_9 (by decide) (t := 10) rfl ?_
    obtain ⟨g1, hF⟩ := gd_e hF
    refine J_iald hX (kInts (j := 2) (n := 390) (by decide) (by decide) rfl) g1 rfl dX13_heldAll_10 (t := 11) rfl ?_
    refine J_icmp_ge (tgt := 28) hX dX13_heldAll_11 (by decide) (t := 14) rfl (fun z => ?_) (fun z => ?_)
    · replace hF := it_t hF z
      refine J_iload_n hX dX13_heldAll_28 1 rfl (t := 29) rfl ?_
      replace hF := Option.some.inj hF
      subst hF
      exact J_iret hX hR hlk dX13_heldAll_29
    · replace hF := it_f hF z
      refine J_iload_n hX dX13_heldAll_14 1 rfl (t := 15) rfl ?_
      refine J_aload_n hX dX13_heldAll_15 0 rfl (t := 16) rfl ?_
      refine J_iload_n hX dX13_heldAll_16 2 rfl (t := 17) rfl ?_
      obtain ⟨x3, h2, hF⟩ := bo1_e hF
      have k4 := (ctX13_left (G := G) (l := l) w l2 h2)
      refine J_callV hX [.int l2] [.int l1] [.int x3, .int l1] k4 miX13_left mvX13_left cb10 kModel q_2272 ⟨rfl, rfl, Nat.le_of_ble_eq_true rfl, Nat.le_of_ble_eq_true rfl⟩ rfl rfl (Nat.le_of_ble_eq_true rfl) ⟨Nat.le_of_ble_eq_true rfl, Nat.le_of_ble_eq_true rfl⟩ dX13_heldAll_17 (t := 20) rfl rfl ?_
      refine J_iadd hX dX13_heldAll_20 (t := 21) rfl ?_
      refine J_istore_n (lc2 := [(1, .int (l1 + x3)), (0, .ref (adr G 15 0)), (2, .int l2)]) hX dX13_heldAll_21 rfl (Nat.le_of_ble_eq_true rfl) rfl (t := 22) rfl ?_
      refine J_iinc (v := l2 + 1) (lc2 := [(2, .int (l2 + 1)), (1, .int (l1 + x3)), (0, .ref (adr G 15 0))]) hX dX13_heldAll_22 2 rfl rfl (Nat.le_of_ble_eq_true rfl) rfl (t := 25) rfl ?_
      refine J_goto (tgt := 4) hX dX13_heldAll_25 (by decide) ?_
      refine J_sub (lc2 := [(0, .ref (adr G 15 0)), (1, .int (l1 + x3)), (2, .int (l2 + 1))]) [2, 1, 0] rfl ?_
      exact ih w (l1 + x3) (l2 + 1) hF
def FX13_heldAll (n : Nat) (w : Wd)  : Option (Int32) :=
  FX13_heldAll_L4 n n w 0 0
set_option maxHeartbeats 4000000 in
set_option maxRecDepth 100000 in
theorem ctX13_heldAll {G : GG} {l : Launch} (w : Wd)   (n : Nat) {rx : Int32} (hF : FX13_heldAll n w  = some rx) : CT G l yX13_heldAll cX13_heldAll 3 (some .int) rmX13_heldAll 0 0 [.ref (adr G 15 0)] w (some (.int rx)) w := by
  refine CT.of miX13_heldAll [(0, .ref (adr G 15 0))] rfl (Nat.le_of_ble_eq_true rfl) ?_
  intro p e s m args below meth c hX hR hlk
  have hX : FX G RX13 cX13_heldAll 3 p s m args c := hX
  unfold FX13_heldAll at hF
  refine J_iconst (v := 0) hX dX13_heldAll_0 (by decide) (t := 1) rfl ?_
  refine J_istore_n (lc2 := [(1, .int 0), (0, .ref (adr G 15 0))]) hX dX13_heldAll_1 rfl (Nat.le_of_ble_eq_true rfl) rfl (t := 2) rfl ?_
  refine J_iconst (v := 0) hX dX13_heldAll_2 (by decide) (t := 3) rfl ?_
  refine J_istore_n (lc2 := [(2, .int 0), (1, .int 0), (0, .ref (adr G 15 0))]) hX dX13_heldAll_3 rfl (Nat.le_of_ble_eq_true rfl) rfl (t := 4) rfl ?_
  refine J_sub (lc2 := [(0, .ref (adr G 15 0)), (1, .int 0), (2, .int 0)]) [2, 1, 0] rfl ?_
  exact LX13_heldAll_4 hX hR hlk n n w 0 0 hF
abbrev rmX13_heldOf : Room := { frames := 3, cells := 0, slots := 0, locals := 63 }
theorem miX13_heldOf : MI yX13_heldOf cX13_heldOf 4 (some .int) 1 := ⟨q_2636, q_152, by decide +kernel, by decide +kernel, by decide +kernel, by decide +kernel⟩
theorem mvX13_heldOf : MV yX13_heldOf := ⟨q_2635, q_108⟩
def FX13_heldOf_L4 (n : Nat) : Nat → Wd → Int32 → Int32 → Int32 → Option (Int32)
  | 0 => fun _ _ _ _ => none
  | k + 1 => fun w l1 l2 l3 =>
    gd (inb 2 390) <|
    if (w 15).1 2 2 ≤ l3 then
      some l2
    else
      bo1 (FX13_of w l3 0) fun x3 =>
      if x3 = l1 then
        bo1 (FX13_left w l3) fun x6 =>
        FX13_heldOf_L4 n k w l1 (l2 + x6) (l3 + 1)
      else
        FX13_heldOf_L4 n k w l1 (l2 + 0) (l3 + 1)
set_option maxHeartbeats 4000000 in
set_option maxRecDepth 100000 in
theorem LX13_heldOf_4 {G : GG} {l : Launch} {p : Program} {e : Env} {s : State} {m : MethodId} {args : Array Value} {below : List Frame} {meth : Method} {c : Code} (hX : FX G RX13 cX13_heldOf 4 p s m args c) (hR : meth.sig.returnType = (some .int)) (hlk : meth.locks = false) {rx : Int32} (n : Nat) : ∀ (k : Nat) (w : Wd) (l1 : Int32) (l2 : Int32) (l3 : Int32) , FX13_heldOf_L4 n k w l1 l2 l3 = some rx → J G p l e rmX13_heldOf s m args below meth c 4 0 0 (MQ below (QV G (some (.int rx)) w) args s 0 0 (gA G)) (GH G w) 4 [(0, .ref (adr G 15 0)), (1, .int l1), (2, .int l2), (3, .int l3)] [] := by
  intro k
  induction k with
  | zero => intro w l1 l2 l3  hF; cases hF
  | succ k ih =>
    intro w l1 l2 l3  hF
    simp only [FX13_heldOf_L4] at hF
    refine J_iload_n hX dX13_heldOf_4 3 rfl (t := 5) rfl ?_
    refine J_aload_n hX dX13_heldOf_5 0 rfl (t := 6) rfl ?_
    refine J_get hX cb10 kModel 13 (by decide) q_1980 rfl dX13_heldOf_6 (t := 9) rfl ?_
    refine J_iconst (v := 2) hX dX13_heldOf_9 (by decide) (t := 10) rfl ?_
    obtain ⟨g1, hF⟩ := gd_e hF
    refine J_iald hX (kInts (j := 2) (n := 390) (by decide) (by decide) rfl) g1 rfl dX13_heldOf_10 (t := 11) rfl ?_
    refine J_icmp_ge (tgt := 42) hX dX13_heldOf_11 (by decide) (t := 14) rfl (fun z => ?_) (fun z => ?_)
    · replace hF := it_t hF z
      refine J_iload_n hX dX13_heldOf_42 2 rfl (t := 43) rfl ?_
      replace hF := Option.some.inj hF
      subst hF
      exact J_iret hX hR hlk dX13_heldOf_43
    · replace hF := it_f hF z
      refine J_iload_n hX dX13_heldOf_14 2 rfl (t := 15) rfl ?_
      refine J_aload_n hX dX13_heldOf_15 0 rfl (t := 16) rfl ?_
      refine J_iload_n hX dX13_heldOf_16 3 rfl (t := 17) rfl ?_
      refine J_iconst (v := 0) hX dX13_heldOf_17 (by decide) (t := 18) rfl ?_
      obtain ⟨x3, h2, hF⟩ := bo1_e hF
      have k4 := (ctX13_of (G := G) (l := l) w l3 0 h2)
      refine J_callV hX [.int l3, .int 0] [.int l2] [.int x3, .int l2] k4 miX13_of mvX13_of cb10 kModel q_2237 ⟨rfl, rfl, Nat.le_of_ble_eq_true rfl, Nat.le_of_ble_eq_true rfl⟩ rfl rfl (Nat.le_of_ble_eq_true rfl) ⟨Nat.le_of_ble_eq_true rfl, Nat.le_of_ble_eq_true rfl⟩ dX13_heldOf_18 (t := 21) rfl rfl ?_
      refine J_iload_n hX dX13_heldOf_21 1 rfl (t := 22) rfl ?_
      refine J_icmp_ne (tgt := 33) hX dX13_heldOf_22 (by decide) (t := 25) rfl (fun z => ?_) (fun z => ?_)
      · replace hF := it_f hF z
        refine J_iconst (v := 0) hX dX13_heldOf_33 (by decide) (t := 34) rfl ?_
        refine J_iadd hX dX13_heldOf_34 (t := 35) rfl ?_
        refine J_istore_n (lc2 := [(2, .int (l2 + 0)), (0, .ref (adr G 15 0)), (1, .int l1), (3, .int l3)]) hX dX13_heldOf_35 rfl (Nat.le_of_ble_eq_true rfl) rfl (t := 36) rfl ?_
        refine J_iinc (v := l3 + 1) (lc2 := [(3, .int (l3 + 1)), (2, .int (l2 + 0)), (0, .ref (adr G 15 0)), (1, .int l1)]) hX dX13_heldOf_36 3 rfl rfl (Nat.le_of_ble_eq_true rfl) rfl (t := 39) rfl ?_
        refine J_goto (tgt := 4) hX dX13_heldOf_39 (by decide) ?_
        refine J_sub (lc2 := [(0, .ref (adr G 15 0)), (1, .int l1), (2, .int (l2 + 0)), (3, .int (l3 + 1))]) [2, 3, 1, 0] rfl ?_
        exact ih w l1 (l2 + 0) (l3 + 1) hF
      · replace hF := it_t hF z
        refine J_aload_n hX dX13_heldOf_25 0 rfl (t := 26) rfl ?_
        refine J_iload_n hX dX13_heldOf_26 3 rfl (t := 27) rfl ?_
        obtain ⟨x6, h5, hF⟩ := bo1_e hF
        have k7 := (ctX13_left (G := G) (l := l) w l3 h5)
        refine J_callV hX [.int l3] [.int l2] [.int x6, .int l2] k7 miX13_left mvX13_left cb10 kModel q_2272 ⟨rfl, rfl, Nat.le_of_ble_eq_true rfl, Nat.le_of_ble_eq_true rfl⟩ rfl rfl (Nat.le_of_ble_eq_true rfl) ⟨Nat.le_of_ble_eq_true rfl, Nat.le_of_ble_eq_true rfl⟩ dX13_heldOf_27 (t := 30) rfl rfl ?_
        refine J_goto (tgt := 34) hX dX13_heldOf_30 (by decide) ?_
        refine J_iadd hX dX13_heldOf_34 (t := 35) rfl ?_
        refine J_istore_n (lc2 := [(2, .int (l2 + x6)), (0, .ref (adr G 15 0)), (1, .int l1), (3, .int l3)]) hX dX13_heldOf_35 rfl (Nat.le_of_ble_eq_true rfl) rfl (t := 36) rfl ?_
        refine J_iinc (v := l3 + 1) (lc2 := [(3, .int (l3 + 1)), (2, .int (l2 + x6)), (0, .ref (adr G 15 0)), (1, .int l1)]) hX dX13_heldOf_36 3 rfl rfl (Nat.le_of_ble_eq_true rfl) rfl (t := 39) rfl ?_
        refine J_goto (tgt := 4) hX dX13_heldOf_39 (by decide) ?_
        refine J_sub (lc2 := [(0, .ref (adr G 15 0)), (1, .int l1), (2, .int (l2 + x6)), (3, .int (l3 + 1))]) [2, 3, 1, 0] rfl ?_
        exact ih w l1 (l2 + x6) (l3 + 1) hF
def FX13_heldOf (n : Nat) (w : Wd) (p1 : Int32) : Option (Int32) :=
  FX13_heldOf_L4 n n w p1 0 0
set_option maxHeartbeats 4000000 in
set_option maxRecDepth 100000 in
theorem ctX13_heldOf {G : GG} {l : Launch} (w : Wd) (p1 : Int32)  (n : Nat) {rx : Int32} (hF : FX13_heldOf n w p1 = some rx) : CT G l yX13_heldOf cX13_heldOf 4 (some .int) rmX13_heldOf 0 0 [.ref (adr G 15 0), .int p1] w (some (.int rx)) w := by
  refine CT.of miX13_heldOf [(0, .ref (adr G 15 0)), (1, .int p1)] rfl (Nat.le_of_ble_eq_true rfl) ?_
  intro p e s m args below meth c hX hR hlk
  have hX : FX G RX13 cX13_heldOf 4 p s m args c := hX
  unfold FX13_heldOf at hF
  refine J_iconst (v := 0) hX dX13_heldOf_0 (by decide) (t := 1) rfl ?_
  refine J_istore_n (lc2 := [(2, .int 0), (0, .ref (adr G 15 0)), (1, .int p1)]) hX dX13_heldOf_1 rfl (Nat.le_of_ble_eq_true rfl) rfl (t := 2) rfl ?_
  refine J_iconst (v := 0) hX dX13_heldOf_2 (by decide) (t := 3) rfl ?_
  refine J_istore_n (lc2 := [(3, .int 0), (2, .int 0), (0, .ref (adr G 15 0)), (1, .int p1)]) hX dX13_heldOf_3 rfl (Nat.le_of_ble_eq_true rfl) rfl (t := 4) rfl ?_
  refine J_sub (lc2 := [(0, .ref (adr G 15 0)), (1, .int p1), (2, .int 0), (3, .int 0)]) [2, 3, 1, 0] rfl ?_
  exact LX13_heldOf_4 hX hR hlk n n w p1 0 0 hF
abbrev rmX13_bits : Room := { frames := 0, cells := 0, slots := 0, locals := 0 }
theorem miX13_bits : MI yX13_bits cX13_bits 3 (some .int) 1 := ⟨q_2572, q_152, by decide +kernel, by decide +kernel, by decide +kernel, by decide +kernel⟩
def FX13_bits_L4 (n : Nat) : Nat → Int32 → Int32 → Int32 → Option (Int32)
  | 0 => fun _ _ _ => none
  | k + 1 => fun l0 l1 l2 =>
    if l2 = 0 then
      some l1
    else
      FX13_bits_L4 n k l0 (l1 + 1) (l2 &&& (l2 - 1))
set_option maxHeartbeats 4000000 in
set_option maxRecDepth 100000 in
theorem LX13_bits_4 {G : GG} {l : Launch} {w : Wd} {p : Program} {e : Env} {s : State} {m : MethodId} {args : Array Value} {below : List Frame} {meth : Method} {c : Code} (hX : FX G RX13 cX13_bits 3 p s m args c) (hR : meth.sig.returnType = (some .int)) (hlk : meth.locks = false) {rx : Int32} (n : Nat) : ∀ (k : Nat) (l0 : Int32) (l1 : Int32) (l2 : Int32) , FX13_bits_L4 n k l0 l1 l2 = some rx → J G p l e rmX13_bits s m args below meth c 3 0 0 (MQ below (QV G (some (.int rx)) w) args s 0 0 (gA G)) (GH G w) 4 [(0, .int l0), (1, .int l1), (2, .int l2)] [] := by
  intro k
  induction k with
  | zero => intro l0 l1 l2  hF; cases hF
  | succ k ih =>
    intro l0 l1 l2  hF
    simp only [FX13_bits_L4] at hF
    refine J_iload_n hX dX13_bits_4 2 rfl (t := 5) rfl ?_
    refine J_if_eq (tgt := 20) hX dX13_bits_5 (by decide) (t := 8) rfl (fun z => ?_) (fun z => ?_)
    · replace hF := it_t hF z
      refine J_iload_n hX dX13_bits_20 1 rfl (t := 21) rfl ?_
      replace hF := Option.some.inj hF
      subst hF
      exact J_iret hX hR hlk dX13_bits_21
    · replace hF := it_f hF z
      refine J_iinc (v := l1 + 1) (lc2 := [(1, .int (l1 + 1)), (0, .int l0), (2, .int l2)]) hX dX13_bits_8 1 rfl rfl (Nat.le_of_ble_eq_true rfl) rfl (t := 11) rfl ?_
      refine J_iload_n hX dX13_bits_11 2 rfl (t := 12) rfl ?_
      refine J_iload_n hX dX13_bits_12 2 rfl (t := 13) rfl ?_
      refine J_iconst (v := 1) hX dX13_bits_13 (by decide) (t := 14) rfl ?_
      refine J_isub hX dX13_bits_14 (t := 15) rfl ?_
      refine J_iand hX dX13_bits_15 (t := 16) rfl ?_
      refine J_istore_n (lc2 := [(2, .int (l2 &&& (l2 - 1))), (1, .int (l1 + 1)), (0, .int l0)]) hX dX13_bits_16 rfl (Nat.le_of_ble_eq_true rfl) rfl (t := 17) rfl ?_
      refine J_goto (tgt := 4) hX dX13_bits_17 (by decide) ?_
      refine J_sub (lc2 := [(0, .int l0), (1, .int (l1 + 1)), (2, .int (l2 &&& (l2 - 1)))]) [2, 1, 0] rfl ?_
      exact ih l0 (l1 + 1) (l2 &&& (l2 - 1)) hF
def FX13_bits (n : Nat) (p0 : Int32) : Option (Int32) :=
  FX13_bits_L4 n n p0 0 p0
set_option maxHeartbeats 4000000 in
set_option maxRecDepth 100000 in
theorem ctX13_bits {G : GG} {l : Launch} {w : Wd} (p0 : Int32)  (n : Nat) {rx : Int32} (hF : FX13_bits n p0 = some rx) : CT G l yX13_bits cX13_bits 3 (some .int) rmX13_bits 0 0 [.int p0] w (some (.int rx)) w := by
  refine CT.of miX13_bits [(0, .int p0)] rfl (Nat.le_of_ble_eq_true rfl) ?_
  intro p e s m args below meth c hX hR hlk
  have hX : FX G RX13 cX13_bits 3 p s m args c := hX
  unfold FX13_bits at hF
  refine J_iconst (v := 0) hX dX13_bits_0 (by decide) (t := 1) rfl ?_
  refine J_istore_n (lc2 := [(1, .int 0), (0, .int p0)]) hX dX13_bits_1 rfl (Nat.le_of_ble_eq_true rfl) rfl (t := 2) rfl ?_
  refine J_iload_n hX dX13_bits_2 1 rfl (t := 3) rfl ?_
  refine J_istore_n (lc2 := [(2, .int p0), (1, .int 0), (0, .int p0)]) hX dX13_bits_3 rfl (Nat.le_of_ble_eq_true rfl) rfl (t := 4) rfl ?_
  refine J_sub (lc2 := [(0, .int p0), (1, .int 0), (2, .int p0)]) [2, 1, 0] rfl ?_
  exact LX13_bits_4 hX hR hlk n n p0 0 p0 hF
abbrev rmX13_receiptOf : Room := { frames := 2, cells := 0, slots := 0, locals := 42 }
theorem miX13_receiptOf : MI yX13_receiptOf cX13_receiptOf 2 (some .int) 1 := ⟨q_2569, q_152, by decide +kernel, by decide +kernel, by decide +kernel, by decide +kernel⟩
theorem mvX13_receiptOf : MV yX13_receiptOf := ⟨q_2568, q_103⟩
def FX13_receiptOf (n : Nat) (w : Wd) (p1 : Int32) : Option (Int32) :=
  bo1 (FX13_of w p1 4) fun x2 =>
  bo1 (FX13_of w p1 8) fun x5 =>
  bo1 (FX13_bits n x5) fun x8 =>
  some (x2 * x8)
set_option maxHeartbeats 4000000 in
set_option maxRecDepth 100000 in
theorem ctX13_receiptOf {G : GG} {l : Launch} (w : Wd) (p1 : Int32)  (n : Nat) {rx : Int32} (hF : FX13_receiptOf n w p1 = some rx) : CT G l yX13_receiptOf cX13_receiptOf 2 (some .int) rmX13_receiptOf 0 0 [.ref (adr G 15 0), .int p1] w (some (.int rx)) w := by
  refine CT.of miX13_receiptOf [(0, .ref (adr G 15 0)), (1, .int p1)] rfl (Nat.le_of_ble_eq_true rfl) ?_
  intro p e s m args below meth c hX hR hlk
  have hX : FX G RX13 cX13_receiptOf 2 p s m args c := hX
  unfold FX13_receiptOf at hF
  refine J_aload_n hX dX13_receiptOf_0 0 rfl (t := 1) rfl ?_
  refine J_iload_n hX dX13_receiptOf_1 1 rfl (t := 2) rfl ?_
  refine J_iconst (v := 4) hX dX13_receiptOf_2 (by decide) (t := 3) rfl ?_
  obtain ⟨x2, h1, hF⟩ := bo1_e hF
  have k3 := (ctX13_of (G := G) (l := l) w p1 4 h1)
  refine J_callV hX [.int p1, .int 4] [] [.int x2] k3 miX13_of mvX13_of cb10 kModel q_2237 ⟨rfl, rfl, Nat.le_of_ble_eq_true rfl, Nat.le_of_ble_eq_true rfl⟩ rfl rfl (Nat.le_of_ble_eq_true rfl) ⟨Nat.le_of_ble_eq_true rfl, Nat.le_of_ble_eq_true rfl⟩ dX13_receiptOf_3 (t := 6) rfl rfl ?_
  refine J_aload_n hX dX13_receiptOf_6 0 rfl (t := 7) rfl ?_
  refine J_iload_n hX dX13_receiptOf_7 1 rfl (t := 8) rfl ?_
  refine J_bipush (v := 8) hX dX13_receiptOf_8 (by decide) (t := 10) rfl ?_
  obtain ⟨x5, h4, hF⟩ := bo1_e hF
  have k6 := (ctX13_of (G := G) (l := l) w p1 8 h4)
  refine J_callV hX [.int p1, .int 8] [.int x2] [.int x5, .int x2] k6 miX13_of mvX13_of cb10 kModel q_2237 ⟨rfl, rfl, Nat.le_of_ble_eq_true rfl, Nat.le_of_ble_eq_true rfl⟩ rfl rfl (Nat.le_of_ble_eq_true rfl) ⟨Nat.le_of_ble_eq_true rfl, Nat.le_of_ble_eq_true rfl⟩ dX13_receiptOf_10 (t := 13) rfl rfl ?_
  obtain ⟨x8, h7, hF⟩ := bo1_e hF
  have k9 := (ctX13_bits (l := l) (G := G) (w := w) x5 n h7)
  refine J_callS hX [.int x5] [.int x2] [.int x8, .int x2] k9 miX13_bits q_2571 q_2570 ⟨rfl, rfl, Nat.le_of_ble_eq_true rfl, Nat.le_of_ble_eq_true rfl⟩ rfl rfl (Nat.le_of_ble_eq_true rfl) ⟨Nat.le_of_ble_eq_true rfl, Nat.le_of_ble_eq_true rfl⟩ dX13_receiptOf_13 (t := 16) rfl rfl ?_
  refine J_imul hX dX13_receiptOf_16 (t := 17) rfl ?_
  replace hF := Option.some.inj hF
  subst hF
  exact J_iret hX hR hlk dX13_receiptOf_17
abbrev rmX13_hasOpen : Room := { frames := 2, cells := 0, slots := 0, locals := 42 }
theorem miX13_hasOpen : MI yX13_hasOpen cX13_hasOpen 4 (some .boolean) 2 := ⟨q_2236, q_152, by decide +kernel, by decide +kernel, by decide +kernel, by decide +kernel⟩
theorem mvX13_hasOpen : MV yX13_hasOpen := ⟨q_2235, q_51⟩
def FX13_hasOpen_L2 (n : Nat) : Nat → Wd → Int32 → Int32 → Int32 → Option (Bool)
  | 0 => fun _ _ _ _ => none
  | k + 1 => fun w l1 l2 l3 =>
    gd (inb 2 390) <|
    if (w 15).1 2 2 ≤ l3 then
      some false
    else
      bo1 (FX13_of w l3 0) fun x3 =>
      if x3 = l1 then
        bo1 (FX13_of w l3 1) fun x6 =>
        if x6 = l2 then
          bo1 (FX13_of w l3 6) fun x9 =>
          if x9 = 0 then
            some true
          else
            FX13_hasOpen_L2 n k w l1 l2 (l3 + 1)
        else
          FX13_hasOpen_L2 n k w l1 l2 (l3 + 1)
      else
        FX13_hasOpen_L2 n k w l1 l2 (l3 + 1)
set_option maxHeartbeats 4000000 in
set_option maxRecDepth 100000 in
theorem LX13_hasOpen_2 {G : GG} {l : Launch} {p : Program} {e : Env} {s : State} {m : MethodId} {args : Array Value} {below : List Frame} {meth : Method} {c : Code} (hX : FX G RX13 cX13_hasOpen 4 p s m args c) (hR : meth.sig.returnType = (some .boolean)) (hlk : meth.locks = false) {rx : Bool} (n : Nat) : ∀ (k : Nat) (w : Wd) (l1 : Int32) (l2 : Int32) (l3 : Int32) , FX13_hasOpen_L2 n k w l1 l2 l3 = some rx → J G p l e rmX13_hasOpen s m args below meth c 4 0 0 (MQ below (QV G (some (.int (bI rx))) w) args s 0 0 (gA G)) (GH G w) 2 [(0, .ref (adr G 15 0)), (1, .int l1), (2, .int l2), (3, .int l3)] [] := by
  intro k
  induction k with
  | zero => intro w l1 l2 l3  hF; cases hF
  | succ k ih =>
    intro w l1 l2 l3  hF
    simp only [FX13_hasOpen_L2] at hF
    refine J_iload_n hX dX13_hasOpen_2 3 rfl (t := 3) rfl ?_
    refine J_aload_n hX dX13_hasOpen_3 0 rfl (t := 4) rfl ?_
    refine J_get hX cb10 kModel 13 (by decide) q_1980 rfl dX13_hasOpen_4 (t := 7) rfl ?_
    refine J_iconst (v := 2) hX dX13_hasOpen_7 (by decide) (t := 8) rfl ?_
    obtain ⟨g1, hF⟩ := gd_e hF
    refine J_iald hX (kInts (j := 2) (n := 390) (by decide) (by decide) rfl) g1 rfl dX13_hasOpen_8 (t := 9) rfl ?_
    refine J_icmp_ge (tgt := 50) hX dX13_hasOpen_9 (by decide) (t := 12) rfl (fun z => ?_) (fun z => ?_)
    · replace hF := it_t hF z
      refine J_iconst (v := 0) hX dX13_hasOpen_50 (by decide) (t := 51) rfl ?_
      replace hF := Option.some.inj hF
      subst hF
      exact J_zret (b := false) hX hR hlk dX13_hasOpen_51
    · replace hF := it_f hF z
      refine J_aload_n hX dX13_hasOpen_12 0 rfl (t := 13) rfl ?_
      refine J_iload_n hX dX13_hasOpen_13 3 rfl (t := 14) rfl ?_
      refine J_iconst (v := 0) hX dX13_hasOpen_14 (by decide) (t := 15) rfl ?_
      obtain ⟨x3, h2, hF⟩ := bo1_e hF
      have k4 := (ctX13_of (G := G) (l := l) w l3 0 h2)
      refine J_callV hX [.int l3, .int 0] [] [.int x3] k4 miX13_of mvX13_of cb10 kModel q_2237 ⟨rfl, rfl, Nat.le_of_ble_eq_true rfl, Nat.le_of_ble_eq_true rfl⟩ rfl rfl (Nat.le_of_ble_eq_true rfl) ⟨Nat.le_of_ble_eq_true rfl, Nat.le_of_ble_eq_true rfl⟩ dX13_hasOpen_15 (t := 18) rfl rfl ?_
      refine J_iload_n hX dX13_hasOpen_18 1 rfl (t := 19) rfl ?_
      refine J_icmp_ne (tgt := 44) hX dX13_hasOpen_19 (by decide) (t := 22) rfl (fun z => ?_) (fun z => ?_)
      · replace hF := it_f hF z
        refine J_iinc (v := l3 + 1) (lc2 := [(3, .int (l3 + 1)), (0, .ref (adr G 15 0)), (1, .int l1), (2, .int l2)]) hX dX13_hasOpen_44 3 rfl rfl (Nat.le_of_ble_eq_true rfl) rfl (t := 47) rfl ?_
        refine J_goto (tgt := 2) hX dX13_hasOpen_47 (by decide) ?_
        refine J_sub (lc2 := [(0, .ref (adr G 15 0)), (1, .int l1), (2, .int l2), (3, .int (l3 + 1))]) [1, 2, 3, 0] rfl ?_
        exact ih w l1 l2 (l3 + 1) hF
      · replace hF := it_t hF z
        refine J_aload_n hX dX13_hasOpen_22 0 rfl (t := 23) rfl ?_
        refine J_iload_n hX dX13_hasOpen_23 3 rfl (t := 24) rfl ?_
        refine J_iconst (v := 1) hX dX13_hasOpen_24 (by decide) (t := 25) rfl ?_
        obtain ⟨x6, h5, hF⟩ := bo1_e hF
        have k7 := (ctX13_of (G := G) (l := l) w l3 1 h5)
        refine J_callV hX [.int l3, .int 1] [] [.int x6] k7 miX13_of mvX13_of cb10 kModel q_2237 ⟨rfl, rfl, Nat.le_of_ble_eq_true rfl, Nat.le_of_ble_eq_true rfl⟩ rfl rfl (Nat.le_of_ble_eq_true rfl) ⟨Nat.le_of_ble_eq_true rfl, Nat.le_of_ble_eq_true rfl⟩ dX13_hasOpen_25 (t := 28) rfl rfl ?_
        refine J_iload_n hX dX13_hasOpen_28 2 rfl (t := 29) rfl ?_
        refine J_icmp_ne (tgt := 44) hX dX13_hasOpen_29 (by decide) (t := 32) rfl (fun z => ?_) (fun z => ?_)
        · replace hF := it_f hF z
          refine J_iinc (v := l3 + 1) (lc2 := [(3, .int (l3 + 1)), (0, .ref (adr G 15 0)), (1, .int l1), (2, .int l2)]) hX dX13_hasOpen_44 3 rfl rfl (Nat.le_of_ble_eq_true rfl) rfl (t := 47) rfl ?_
          refine J_goto (tgt := 2) hX dX13_hasOpen_47 (by decide) ?_
          refine J_sub (lc2 := [(0, .ref (adr G 15 0)), (1, .int l1), (2, .int l2), (3, .int (l3 + 1))]) [1, 2, 3, 0] rfl ?_
          exact ih w l1 l2 (l3 + 1) hF
        · replace hF := it_t hF z
          refine J_aload_n hX dX13_hasOpen_32 0 rfl (t := 33) rfl ?_
          refine J_iload_n hX dX13_hasOpen_33 3 rfl (t := 34) rfl ?_
          refine J_bipush (v := 6) hX dX13_hasOpen_34 (by decide) (t := 36) rfl ?_
          obtain ⟨x9, h8, hF⟩ := bo1_e hF
          have k10 := (ctX13_of (G := G) (l := l) w l3 6 h8)
          refine J_callV hX [.int l3, .int 6] [] [.int x9] k10 miX13_of mvX13_of cb10 kModel q_2237 ⟨rfl, rfl, Nat.le_of_ble_eq_true rfl, Nat.le_of_ble_eq_true rfl⟩ rfl rfl (Nat.le_of_ble_eq_true rfl) ⟨Nat.le_of_ble_eq_true rfl, Nat.le_of_ble_eq_true rfl⟩ dX13_hasOpen_36 (t := 39) rfl rfl ?_
          refine J_if_ne (tgt := 44) hX dX13_hasOpen_39 (by decide) (t := 42) rfl (fun z => ?_) (fun z => ?_)
          · replace hF := it_f hF z
            refine J_iinc (v := l3 + 1) (lc2 := [(3, .int (l3 + 1)), (0, .ref (adr G 15 0)), (1, .int l1), (2, .int l2)]) hX dX13_hasOpen_44 3 rfl rfl (Nat.le_of_ble_eq_true rfl) rfl (t := 47) rfl ?_
            refine J_goto (tgt := 2) hX dX13_hasOpen_47 (by decide) ?_
            refine J_sub (lc2 := [(0, .ref (adr G 15 0)), (1, .int l1), (2, .int l2), (3, .int (l3 + 1))]) [1, 2, 3, 0] rfl ?_
            exact ih w l1 l2 (l3 + 1) hF
          · replace hF := it_t hF z
            refine J_iconst (v := 1) hX dX13_hasOpen_42 (by decide) (t := 43) rfl ?_
            replace hF := Option.some.inj hF
            subst hF
            exact J_zret (b := true) hX hR hlk dX13_hasOpen_43
def FX13_hasOpen (n : Nat) (w : Wd) (p1 : Int32) (p2 : Int32) : Option (Bool) :=
  FX13_hasOpen_L2 n n w p1 p2 0
set_option maxHeartbeats 4000000 in
set_option maxRecDepth 100000 in
theorem ctX13_hasOpen {G : GG} {l : Launch} (w : Wd) (p1 : Int32) (p2 : Int32)  (n : Nat) {rx : Bool} (hF : FX13_hasOpen n w p1 p2 = some rx) : CT G l yX13_hasOpen cX13_hasOpen 4 (some .boolean) rmX13_hasOpen 0 0 [.ref (adr G 15 0), .int p1, .int p2] w (some (.int (bI rx))) w := by
  refine CT.of miX13_hasOpen [(0, .ref (adr G 15 0)), (1, .int p1), (2, .int p2)] rfl (Nat.le_of_ble_eq_true rfl) ?_
  intro p e s m args below meth c hX hR hlk
  have hX : FX G RX13 cX13_hasOpen 4 p s m args c := hX
  unfold FX13_hasOpen at hF
  refine J_iconst (v := 0) hX dX13_hasOpen_0 (by decide) (t := 1) rfl ?_
  refine J_istore_n (lc2 := [(3, .int 0), (0, .ref (adr G 15 0)), (1, .int p1), (2, .int p2)]) hX dX13_hasOpen_1 rfl (Nat.le_of_ble_eq_true rfl) rfl (t := 2) rfl ?_
  refine J_sub (lc2 := [(0, .ref (adr G 15 0)), (1, .int p1), (2, .int p2), (3, .int 0)]) [1, 2, 3, 0] rfl ?_
  exact LX13_hasOpen_2 hX hR hlk n n w p1 p2 0 hF
abbrev rmX13_isAngryNow : Room := { frames := 2, cells := 0, slots := 0, locals := 42 }
theorem miX13_isAngryNow : MI yX13_isAngryNow cX13_isAngryNow 2 (some .boolean) 1 := ⟨q_2247, q_152, by decide +kernel, by decide +kernel, by decide +kernel, by decide +kernel⟩
theorem mvX13_isAngryNow : MV yX13_isAngryNow := ⟨q_2246, q_53⟩
def FX13_isAngryNow (w : Wd) (p1 : Int32) : Option (Bool) :=
  bo1 (FX13_ofCustomer w p1 2) fun x2 =>
  if x2 < 3 then
    some false
  else
    some true
set_option maxHeartbeats 4000000 in
set_option maxRecDepth 100000 in
theorem ctX13_isAngryNow {G : GG} {l : Launch} (w : Wd) (p1 : Int32)  {rx : Bool} (hF : FX13_isAngryNow w p1 = some rx) : CT G l yX13_isAngryNow cX13_isAngryNow 2 (some .boolean) rmX13_isAngryNow 0 0 [.ref (adr G 15 0), .int p1] w (some (.int (bI rx))) w := by
  refine CT.of miX13_isAngryNow [(0, .ref (adr G 15 0)), (1, .int p1)] rfl (Nat.le_of_ble_eq_true rfl) ?_
  intro p e s m args below meth c hX hR hlk
  have hX : FX G RX13 cX13_isAngryNow 2 p s m args c := hX
  unfold FX13_isAngryNow at hF
  refine J_aload_n hX dX13_isAngryNow_0 0 rfl (t := 1) rfl ?_
  refine J_iload_n hX dX13_isAngryNow_1 1 rfl (t := 2) rfl ?_
  refine J_iconst (v := 2) hX dX13_isAngryNow_2 (by decide) (t := 3) rfl ?_
  obtain ⟨x2, h1, hF⟩ := bo1_e hF
  have k3 := (ctX13_ofCustomer (G := G) (l := l) w p1 2 h1)
  refine J_callV hX [.int p1, .int 2] [] [.int x2] k3 miX13_ofCustomer mvX13_ofCustomer cb10 kModel q_2229 ⟨rfl, rfl, Nat.le_of_ble_eq_true rfl, Nat.le_of_ble_eq_true rfl⟩ rfl rfl (Nat.le_of_ble_eq_true rfl) ⟨Nat.le_of_ble_eq_true rfl, Nat.le_of_ble_eq_true rfl⟩ dX13_isAngryNow_3 (t := 6) rfl rfl ?_
  refine J_iconst (v := 3) hX dX13_isAngryNow_6 (by decide) (t := 7) rfl ?_
  refine J_icmp_lt (tgt := 14) hX dX13_isAngryNow_7 (by decide) (t := 10) rfl (fun z => ?_) (fun z => ?_)
  · replace hF := it_t hF z
    refine J_iconst (v := 0) hX dX13_isAngryNow_14 (by decide) (t := 15) rfl ?_
    replace hF := Option.some.inj hF
    subst hF
    exact J_zret (b := false) hX hR hlk dX13_isAngryNow_15
  · replace hF := it_f hF z
    refine J_iconst (v := 1) hX dX13_isAngryNow_10 (by decide) (t := 11) rfl ?_
    refine J_goto (tgt := 15) hX dX13_isAngryNow_11 (by decide) ?_
    replace hF := Option.some.inj hF
    subst hF
    exact J_zret (b := true) hX hR hlk dX13_isAngryNow_15
abbrev rmX13_refuses : Room := { frames := 3, cells := 0, slots := 0, locals := 65 }
theorem miX13_refuses : MI yX13_refuses cX13_refuses 4 (some .int) 3 := ⟨q_2224, q_152, by decide +kernel, by decide +kernel, by decide +kernel, by decide +kernel⟩
theorem mvX13_refuses : MV yX13_refuses := ⟨q_2223, q_48⟩
def FX13_refuses (n : Nat) (w : Wd) (p1 : Int32) (p2 : Int32) (p3 : Int32) : Option (Int32) :=
  gd (inb 2 390) <|
  if (w 15).1 2 2 = 30 then
    some 1
  else
    bo1 (FX13_ofValley w p2 1) fun x3 =>
    if p3 ≤ x3 then
      bo1 (FX13_ofCustomer w p1 1) fun x6 =>
      bo1 (FX13_ofValley w p2 2) fun x9 =>
      if x9 * p3 ≤ x6 then
        bo1 (FX13_hasOpen n w p1 p2) fun x12 =>
        if x12 = true then
          some 4
        else
          bo1 (FX13_isAngryNow w p1) fun x15 =>
          if x15 = true then
            some 5
          else
            some 0
      else
        some 3
    else
      some 2
set_option maxHeartbeats 4000000 in
set_option maxRecDepth 100000 in
theorem ctX13_refuses {G : GG} {l : Launch} (w : Wd) (p1 : Int32) (p2 : Int32) (p3 : Int32)  (n : Nat) {rx : Int32} (hF : FX13_refuses n w p1 p2 p3 = some rx) : CT G l yX13_refuses cX13_refuses 4 (some .int) rmX13_refuses 0 0 [.ref (adr G 15 0), .int p1, .int p2, .int p3] w (some (.int rx)) w := by
  refine CT.of miX13_refuses [(0, .ref (adr G 15 0)), (1, .int p1), (2, .int p2), (3, .int p3)] rfl (Nat.le_of_ble_eq_true rfl) ?_
  intro p e s m args below meth c hX hR hlk
  have hX : FX G RX13 cX13_refuses 4 p s m args c := hX
  unfold FX13_refuses at hF
  refine J_aload_n hX dX13_refuses_0 0 rfl (t := 1) rfl ?_
  refine J_get hX cb10 kModel 13 (by decide) q_1980 rfl dX13_refuses_1 (t := 4) rfl ?_
  refine J_iconst (v := 2) hX dX13_refuses_4 (by decide) (t := 5) rfl ?_
  obtain ⟨g1, hF⟩ := gd_e hF
  refine J_iald hX (kInts (j := 2) (n := 390) (by decide) (by decide) rfl) g1 rfl dX13_refuses_5 (t := 6) rfl ?_
  refine J_bipush (v := 30) hX dX13_refuses_6 (by decide) (t := 8) rfl ?_
  refine J_icmp_ne (tgt := 13) hX dX13_refuses_8 (by decide) (t := 11) rfl (fun z => ?_) (fun z => ?_)
  · replace hF := it_f hF z
    refine J_iload_n hX dX13_refuses_13 3 rfl (t := 14) rfl ?_
    refine J_aload_n hX dX13_refuses_14 0 rfl (t := 15) rfl ?_
    refine J_iload_n hX dX13_refuses_15 2 rfl (t := 16) rfl ?_
    refine J_iconst (v := 1) hX dX13_refuses_16 (by decide) (t := 17) rfl ?_
    obtain ⟨x3, h2, hF⟩ := bo1_e hF
    have k4 := (ctX13_ofValley (G := G) (l := l) w p2 1 h2)
    refine J_callV hX [.int p2, .int 1] [.int p3] [.int x3, .int p3] k4 miX13_ofValley mvX13_ofValley cb10 kModel q_2225 ⟨rfl, rfl, Nat.le_of_ble_eq_true rfl, Nat.le_of_ble_eq_true rfl⟩ rfl rfl (Nat.le_of_ble_eq_true rfl) ⟨Nat.le_of_ble_eq_true rfl, Nat.le_of_ble_eq_true rfl⟩ dX13_refuses_17 (t := 20) rfl rfl ?_
    refine J_icmp_le (tgt := 25) hX dX13_refuses_20 (by decide) (t := 23) rfl (fun z => ?_) (fun z => ?_)
    · replace hF := it_t hF z
      refine J_aload_n hX dX13_refuses_25 0 rfl (t := 26) rfl ?_
      refine J_iload_n hX dX13_refuses_26 1 rfl (t := 27) rfl ?_
      refine J_iconst (v := 1) hX dX13_refuses_27 (by decide) (t := 28) rfl ?_
      obtain ⟨x6, h5, hF⟩ := bo1_e hF
      have k7 := (ctX13_ofCustomer (G := G) (l := l) w p1 1 h5)
      refine J_callV hX [.int p1, .int 1] [] [.int x6] k7 miX13_ofCustomer mvX13_ofCustomer cb10 kModel q_2229 ⟨rfl, rfl, Nat.le_of_ble_eq_true rfl, Nat.le_of_ble_eq_true rfl⟩ rfl rfl (Nat.le_of_ble_eq_true rfl) ⟨Nat.le_of_ble_eq_true rfl, Nat.le_of_ble_eq_true rfl⟩ dX13_refuses_28 (t := 31) rfl rfl ?_
      refine J_aload_n hX dX13_refuses_31 0 rfl (t := 32) rfl ?_
      refine J_iload_n hX dX13_refuses_32 2 rfl (t := 33) rfl ?_
      refine J_iconst (v := 2) hX dX13_refuses_33 (by decide) (t := 34) rfl ?_
      obtain ⟨x9, h8, hF⟩ := bo1_e hF
      have k10 := (ctX13_ofValley (G := G) (l := l) w p2 2 h8)
      refine J_callV hX [.int p2, .int 2] [.int x6] [.int x9, .int x6] k10 miX13_ofValley mvX13_ofValley cb10 kModel q_2225 ⟨rfl, rfl, Nat.le_of_ble_eq_true rfl, Nat.le_of_ble_eq_true rfl⟩ rfl rfl (Nat.le_of_ble_eq_true rfl) ⟨Nat.le_of_ble_eq_true rfl, Nat.le_of_ble_eq_true rfl⟩ dX13_refuses_34 (t := 37) rfl rfl ?_
      refine J_iload_n hX dX13_refuses_37 3 rfl (t := 38) rfl ?_
      refine J_imul hX dX13_refuses_38 (t := 39) rfl ?_
      refine J_icmp_ge (tgt := 44) hX dX13_refuses_39 (by decide) (t := 42) rfl (fun z => ?_) (fun z => ?_)
      · replace hF := it_t hF z
        refine J_aload_n hX dX13_refuses_44 0 rfl (t := 45) rfl ?_
        refine J_iload_n hX dX13_refuses_45 1 rfl (t := 46) rfl ?_
        refine J_iload_n hX dX13_refuses_46 2 rfl (t := 47) rfl ?_
        obtain ⟨x12, h11, hF⟩ := bo1_e hF
        have k13 := (ctX13_hasOpen (G := G) (l := l) w p1 p2 n h11)
        refine J_callV hX [.int p1, .int p2] [] [.int (bI x12)] k13 miX13_hasOpen mvX13_hasOpen cb10 kModel q_2233 ⟨rfl, rfl, Nat.le_of_ble_eq_true rfl, Nat.le_of_ble_eq_true rfl⟩ rfl rfl (Nat.le_of_ble_eq_true rfl) ⟨Nat.le_of_ble_eq_true rfl, Nat.le_of_ble_eq_true rfl⟩ dX13_refuses_47 (t := 50) rfl rfl ?_
        refine J_ifZ_eq (tgt := 55) hX dX13_refuses_50 (by decide) (t := 53) rfl (fun z => ?_) (fun z => ?_)
        · replace hF := ib_f hF z
          refine J_aload_n hX dX13_refuses_55 0 rfl (t := 56) rfl ?_
          refine J_iload_n hX dX13_refuses_56 1 rfl (t := 57) rfl ?_
          obtain ⟨x15, h14, hF⟩ := bo1_e hF
          have k16 := (ctX13_isAngryNow (G := G) (l := l) w p1 h14)
          refine J_callV hX [.int p1] [] [.int (bI x15)] k16 miX13_isAngryNow mvX13_isAngryNow cb10 kModel q_2244 ⟨rfl, rfl, Nat.le_of_ble_eq_true rfl, Nat.le_of_ble_eq_true rfl⟩ rfl rfl (Nat.le_of_ble_eq_true rfl) ⟨Nat.le_of_ble_eq_true rfl, Nat.le_of_ble_eq_true rfl⟩ dX13_refuses_57 (t := 60) rfl rfl ?_
          refine J_ifZ_eq (tgt := 67) hX dX13_refuses_60 (by decide) (t := 63) rfl (fun z => ?_) (fun z => ?_)
          · replace hF := ib_f hF z
            refine J_iconst (v := 0) hX dX13_refuses_67 (by decide) (t := 68) rfl ?_
            replace hF := Option.some.inj hF
            subst hF
            exact J_iret hX hR hlk dX13_refuses_68
          · replace hF := it_t hF z
            refine J_iconst (v := 5) hX dX13_refuses_63 (by decide) (t := 64) rfl ?_
            refine J_goto (tgt := 68) hX dX13_refuses_64 (by decide) ?_
            replace hF := Option.some.inj hF
            subst hF
            exact J_iret hX hR hlk dX13_refuses_68
        · replace hF := it_t hF z
          refine J_iconst (v := 4) hX dX13_refuses_53 (by decide) (t := 54) rfl ?_
          replace hF := Option.some.inj hF
          subst hF
          exact J_iret hX hR hlk dX13_refuses_54
      · replace hF := it_f hF z
        refine J_iconst (v := 3) hX dX13_refuses_42 (by decide) (t := 43) rfl ?_
        replace hF := Option.some.inj hF
        subst hF
        exact J_iret hX hR hlk dX13_refuses_43
    · replace hF := it_f hF z
      refine J_iconst (v := 2) hX dX13_refuses_23 (by decide) (t := 24) rfl ?_
      replace hF := Option.some.inj hF
      subst hF
      exact J_iret hX hR hlk dX13_refuses_24
  · replace hF := it_t hF z
    refine J_iconst (v := 1) hX dX13_refuses_11 (by decide) (t := 12) rfl ?_
    replace hF := Option.some.inj hF
    subst hF
    exact J_iret hX hR hlk dX13_refuses_12
abbrev rmX13_sells : Room := { frames := 2, cells := 0, slots := 0, locals := 42 }
theorem miX13_sells : MI yX13_sells cX13_sells 6 (some .int) 4 := ⟨q_2255, q_152, by decide +kernel, by decide +kernel, by decide +kernel, by decide +kernel⟩
theorem mvX13_sells : MV yX13_sells := ⟨q_2254, q_55⟩
def FX13_sells (w : Wd) (p1 : Int32) (p2 : Int32) (p3 : Int32) (p4 : Int32) : Option (Int32 × Wd) :=
  gd (inb 2 390) <|
  bnd (FX13_sht ((w 15).1 2 2)) fun x3 =>
  gd (inb (x3 + 0) 390) <| bnd (sW w 15 (sI (w 15) 2 ((x3 + 0).toNatClampNeg) p1)) fun w6 =>
  gd (inb (x3 + 1) 390) <| bnd (sW w6 15 (sI (w6 15) 2 ((x3 + 1).toNatClampNeg) p2)) fun w9 =>
  gd (inb (x3 + 2) 390) <| bnd (sW w9 15 (sI (w9 15) 2 ((x3 + 2).toNatClampNeg) p3)) fun w12 =>
  gd (inb (x3 + 3) 390) <| bnd (sW w12 15 (sI (w12 15) 2 ((x3 + 3).toNatClampNeg) p4)) fun w15 =>
  bo1 (FX13_ofValley w15 p2 2) fun x18 =>
  gd (inb (x3 + 4) 390) <| bnd (sW w15 15 (sI (w15 15) 2 ((x3 + 4).toNatClampNeg) x18)) fun w21 =>
  gd (inb 3 390) <|
  gd (inb (x3 + 5) 390) <| bnd (sW w21 15 (sI (w21 15) 2 ((x3 + 5).toNatClampNeg) ((w21 15).1 2 3))) fun w25 =>
  gd (inb (x3 + 6) 390) <| bnd (sW w25 15 (sI (w25 15) 2 ((x3 + 6).toNatClampNeg) 0)) fun w28 =>
  gd (inb (x3 + 7) 390) <| bnd (sW w28 15 (sI (w28 15) 2 ((x3 + 7).toNatClampNeg) 0)) fun w31 =>
  gd (inb (x3 + 8) 390) <| bnd (sW w31 15 (sI (w31 15) 2 ((x3 + 8).toNatClampNeg) 0)) fun w34 =>
  bnd (FX13_cst p1) fun x37 =>
  gd (inb (x37 + 1) 390) <|
  bo1 (FX13_ofValley w34 p2 2) fun x41 =>
  gd (inb (x37 + 1) 390) <| bnd (sW w34 15 (sI (w34 15) 2 ((x37 + 1).toNatClampNeg) (((w34 15).1 2 ((x37 + 1).toNatClampNeg)) - (x41 * p4)))) fun w44 =>
  gd (inb 2 390) <|
  gd (inb 2 390) <| bnd (sW w44 15 (sI (w44 15) 2 2 (((w44 15).1 2 2) + 1))) fun w48 =>
  gd (inb 2 390) <|
  some (((w48 15).1 2 2) - 1, w48)
set_option maxHeartbeats 4000000 in
set_option maxRecDepth 100000 in
theorem ctX13_sells {G : GG} {l : Launch} (w : Wd) (p1 : Int32) (p2 : Int32) (p3 : Int32) (p4 : Int32)  {rx : Int32} {rw : Wd} (hF : FX13_sells w p1 p2 p3 p4 = some (rx, rw)) : CT G l yX13_sells cX13_sells 6 (some .int) rmX13_sells 0 0 [.ref (adr G 15 0), .int p1, .int p2, .int p3, .int p4] w (some (.int rx)) rw := by
  refine CT.of miX13_sells [(0, .ref (adr G 15 0)), (1, .int p1), (2, .int p2), (3, .int p3), (4, .int p4)] rfl (Nat.le_of_ble_eq_true rfl) ?_
  intro p e s m args below meth c hX hR hlk
  have hX : FX G RX13 cX13_sells 6 p s m args c := hX
  unfold FX13_sells at hF
  refine J_aload_n hX dX13_sells_0 0 rfl (t := 1) rfl ?_
  refine J_get hX cb10 kModel 13 (by decide) q_1980 rfl dX13_sells_1 (t := 4) rfl ?_
  refine J_iconst (v := 2) hX dX13_sells_4 (by decide) (t := 5) rfl ?_
  obtain ⟨g1, hF⟩ := gd_e hF
  refine J_iald hX (kInts (j := 2) (n := 390) (by decide) (by decide) rfl) g1 rfl dX13_sells_5 (t := 6) rfl ?_
  obtain ⟨x3, h2, hF⟩ := bnd_e hF
  have k4 := (ctX13_sht (l := l) (G := G) (w := w) ((w 15).1 2 2) h2)
  refine J_callS hX [.int ((w 15).1 2 2)] [] [.int x3] k4 miX13_sht q_2242 q_2241 ⟨rfl, rfl, Nat.le_of_ble_eq_true rfl, Nat.le_of_ble_eq_true rfl⟩ rfl rfl (Nat.le_of_ble_eq_true rfl) ⟨Nat.le_of_ble_eq_true rfl, Nat.le_of_ble_eq_true rfl⟩ dX13_sells_6 (t := 9) rfl rfl ?_
  refine J_istore (lc2 := [(5, .int x3), (0, .ref (adr G 15 0)), (1, .int p1), (2, .int p2), (3, .int p3), (4, .int p4)]) hX dX13_sells_9 (Nat.le_of_ble_eq_true rfl) rfl (t := 11) rfl ?_
  refine J_aload_n hX dX13_sells_11 1 rfl (t := 12) rfl ?_
  refine J_get hX cb10 kModel 13 (by decide) q_1980 rfl dX13_sells_12 (t := 15) rfl ?_
  refine J_iload hX dX13_sells_15 0 rfl (t := 17) rfl ?_
  refine J_iconst (v := 0) hX dX13_sells_17 (by decide) (t := 18) rfl ?_
  refine J_iadd hX dX13_sells_18 (t := 19) rfl ?_
  refine J_iload_n hX dX13_sells_19 2 rfl (t := 20) rfl ?_
  obtain ⟨g5, hF⟩ := gd_e hF
  obtain ⟨w6, e7, hF⟩ := bnd_e hF
  refine J_iast hX (kInts (j := 2) (n := 390) (by decide) (by decide) rfl) g5 rfl e7 dX13_sells_20 (t := 21) rfl ?_
  refine J_aload_n hX dX13_sells_21 1 rfl (t := 22) rfl ?_
  refine J_get hX cb10 kModel 13 (by decide) q_1980 rfl dX13_sells_22 (t := 25) rfl ?_
  refine J_iload hX dX13_sells_25 0 rfl (t := 27) rfl ?_
  refine J_iconst (v := 1) hX dX13_sells_27 (by decide) (t := 28) rfl ?_
  refine J_iadd hX dX13_sells_28 (t := 29) rfl ?_
  refine J_iload_n hX dX13_sells_29 3 rfl (t := 30) rfl ?_
  obtain ⟨g8, hF⟩ := gd_e hF
  obtain ⟨w9, e10, hF⟩ := bnd_e hF
  refine J_iast hX (kInts (j := 2) (n := 390) (by decide) (by decide) rfl) g8 rfl e10 dX13_sells_30 (t := 31) rfl ?_
  refine J_aload_n hX dX13_sells_31 1 rfl (t := 32) rfl ?_
  refine J_get hX cb10 kModel 13 (by decide) q_1980 rfl dX13_sells_32 (t := 35) rfl ?_
  refine J_iload hX dX13_sells_35 0 rfl (t := 37) rfl ?_
  refine J_iconst (v := 2) hX dX13_sells_37 (by decide) (t := 38) rfl ?_
  refine J_iadd hX dX13_sells_38 (t := 39) rfl ?_
  refine J_iload_n hX dX13_sells_39 4 rfl (t := 40) rfl ?_
  obtain ⟨g11, hF⟩ := gd_e hF
  obtain ⟨w12, e13, hF⟩ := bnd_e hF
  refine J_iast hX (kInts (j := 2) (n := 390) (by decide) (by decide) rfl) g11 rfl e13 dX13_sells_40 (t := 41) rfl ?_
  refine J_aload_n hX dX13_sells_41 1 rfl (t := 42) rfl ?_
  refine J_get hX cb10 kModel 13 (by decide) q_1980 rfl dX13_sells_42 (t := 45) rfl ?_
  refine J_iload hX dX13_sells_45 0 rfl (t := 47) rfl ?_
  refine J_iconst (v := 3) hX dX13_sells_47 (by decide) (t := 48) rfl ?_
  refine J_iadd hX dX13_sells_48 (t := 49) rfl ?_
  refine J_iload hX dX13_sells_49 5 rfl (t := 51) rfl ?_
  obtain ⟨g14, hF⟩ := gd_e hF
  obtain ⟨w15, e16, hF⟩ := bnd_e hF
  refine J_iast hX (kInts (j := 2) (n := 390) (by decide) (by decide) rfl) g14 rfl e16 dX13_sells_51 (t := 52) rfl ?_
  refine J_aload_n hX dX13_sells_52 1 rfl (t := 53) rfl ?_
  refine J_get hX cb10 kModel 13 (by decide) q_1980 rfl dX13_sells_53 (t := 56) rfl ?_
  refine J_iload hX dX13_sells_56 0 rfl (t := 58) rfl ?_
  refine J_iconst (v := 4) hX dX13_sells_58 (by decide) (t := 59) rfl ?_
  refine J_iadd hX dX13_sells_59 (t := 60) rfl ?_
  refine J_aload_n hX dX13_sells_60 1 rfl (t := 61) rfl ?_
  refine J_iload_n hX dX13_sells_61 3 rfl (t := 62) rfl ?_
  refine J_iconst (v := 2) hX dX13_sells_62 (by decide) (t := 63) rfl ?_
  obtain ⟨x18, h17, hF⟩ := bo1_e hF
  have k19 := (ctX13_ofValley (G := G) (l := l) w15 p2 2 h17)
  refine J_callV hX [.int p2, .int 2] [.int (x3 + 4), .ref (adr G 15 2)] [.int x18, .int (x3 + 4), .ref (adr G 15 2)] k19 miX13_ofValley mvX13_ofValley cb10 kModel q_2225 ⟨rfl, rfl, Nat.le_of_ble_eq_true rfl, Nat.le_of_ble_eq_true rfl⟩ rfl rfl (Nat.le_of_ble_eq_true rfl) ⟨Nat.le_of_ble_eq_true rfl, Nat.le_of_ble_eq_true rfl⟩ dX13_sells_63 (t := 66) rfl rfl ?_
  obtain ⟨g20, hF⟩ := gd_e hF
  obtain ⟨w21, e22, hF⟩ := bnd_e hF
  refine J_iast hX (kInts (j := 2) (n := 390) (by decide) (by decide) rfl) g20 rfl e22 dX13_sells_66 (t := 67) rfl ?_
  refine J_aload_n hX dX13_sells_67 1 rfl (t := 68) rfl ?_
  refine J_get hX cb10 kModel 13 (by decide) q_1980 rfl dX13_sells_68 (t := 71) rfl ?_
  refine J_iload hX dX13_sells_71 0 rfl (t := 73) rfl ?_
  refine J_iconst (v := 5) hX dX13_sells_73 (by decide) (t := 74) rfl ?_
  refine J_iadd hX dX13_sells_74 (t := 75) rfl ?_
  refine J_aload_n hX dX13_sells_75 1 rfl (t := 76) rfl ?_
  refine J_get hX cb10 kModel 13 (by decide) q_1980 rfl dX13_sells_76 (t := 79) rfl ?_
  refine J_iconst (v := 3) hX dX13_sells_79 (by decide) (t := 80) rfl ?_
  obtain ⟨g23, hF⟩ := gd_e hF
  refine J_iald hX (kInts (j := 2) (n := 390) (by decide) (by decide) rfl) g23 rfl dX13_sells_80 (t := 81) rfl ?_
  obtain ⟨g24, hF⟩ := gd_e hF
  obtain ⟨w25, e26, hF⟩ := bnd_e hF
  refine J_iast hX (kInts (j := 2) (n := 390) (by decide) (by decide) rfl) g24 rfl e26 dX13_sells_81 (t := 82) rfl ?_
  refine J_aload_n hX dX13_sells_82 1 rfl (t := 83) rfl ?_
  refine J_get hX cb10 kModel 13 (by decide) q_1980 rfl dX13_sells_83 (t := 86) rfl ?_
  refine J_iload hX dX13_sells_86 0 rfl (t := 88) rfl ?_
  refine J_bipush (v := 6) hX dX13_sells_88 (by decide) (t := 90) rfl ?_
  refine J_iadd hX dX13_sells_90 (t := 91) rfl ?_
  refine J_iconst (v := 0) hX dX13_sells_91 (by decide) (t := 92) rfl ?_
  obtain ⟨g27, hF⟩ := gd_e hF
  obtain ⟨w28, e29, hF⟩ := bnd_e hF
  refine J_iast hX (kInts (j := 2) (n := 390) (by decide) (by decide) rfl) g27 rfl e29 dX13_sells_92 (t := 93) rfl ?_
  refine J_aload_n hX dX13_sells_93 1 rfl (t := 94) rfl ?_
  refine J_get hX cb10 kModel 13 (by decide) q_1980 rfl dX13_sells_94 (t := 97) rfl ?_
  refine J_iload hX dX13_sells_97 0 rfl (t := 99) rfl ?_
  refine J_bipush (v := 7) hX dX13_sells_99 (by decide) (t := 101) rfl ?_
  refine J_iadd hX dX13_sells_101 (t := 102) rfl ?_
  refine J_iconst (v := 0) hX dX13_sells_102 (by decide) (t := 103) rfl ?_
  obtain ⟨g30, hF⟩ := gd_e hF
  obtain ⟨w31, e32, hF⟩ := bnd_e hF
  refine J_iast hX (kInts (j := 2) (n := 390) (by decide) (by decide) rfl) g30 rfl e32 dX13_sells_103 (t := 104) rfl ?_
  refine J_aload_n hX dX13_sells_104 1 rfl (t := 105) rfl ?_
  refine J_get hX cb10 kModel 13 (by decide) q_1980 rfl dX13_sells_105 (t := 108) rfl ?_
  refine J_iload hX dX13_sells_108 0 rfl (t := 110) rfl ?_
  refine J_bipush (v := 8) hX dX13_sells_110 (by decide) (t := 112) rfl ?_
  refine J_iadd hX dX13_sells_112 (t := 113) rfl ?_
  refine J_iconst (v := 0) hX dX13_sells_113 (by decide) (t := 114) rfl ?_
  obtain ⟨g33, hF⟩ := gd_e hF
  obtain ⟨w34, e35, hF⟩ := bnd_e hF
  refine J_iast hX (kInts (j := 2) (n := 390) (by decide) (by decide) rfl) g33 rfl e35 dX13_sells_114 (t := 115) rfl ?_
  refine J_aload_n hX dX13_sells_115 1 rfl (t := 116) rfl ?_
  refine J_get hX cb10 kModel 13 (by decide) q_1980 rfl dX13_sells_116 (t := 119) rfl ?_
  refine J_iload_n hX dX13_sells_119 2 rfl (t := 120) rfl ?_
  obtain ⟨x37, h36, hF⟩ := bnd_e hF
  have k38 := (ctX13_cst (l := l) (G := G) (w := w34) p1 h36)
  refine J_callS hX [.int p1] [.ref (adr G 15 2)] [.int x37, .ref (adr G 15 2)] k38 miX13_cst q_2158 q_2157 ⟨rfl, rfl, Nat.le_of_ble_eq_true rfl, Nat.le_of_ble_eq_true rfl⟩ rfl rfl (Nat.le_of_ble_eq_true rfl) ⟨Nat.le_of_ble_eq_true rfl, Nat.le_of_ble_eq_true rfl⟩ dX13_sells_120 (t := 123) rfl rfl ?_
  refine J_iconst (v := 1) hX dX13_sells_123 (by decide) (t := 124) rfl ?_
  refine J_iadd hX dX13_sells_124 (t := 125) rfl ?_
  refine J_dup2 hX dX13_sells_125 rfl rfl (t := 126) rfl ?_
  obtain ⟨g39, hF⟩ := gd_e hF
  refine J_iald hX (kInts (j := 2) (n := 390) (by decide) (by decide) rfl) g39 rfl dX13_sells_126 (t := 127) rfl ?_
  refine J_aload_n hX dX13_sells_127 1 rfl (t := 128) rfl ?_
  refine J_iload_n hX dX13_sells_128 3 rfl (t := 129) rfl ?_
  refine J_iconst (v := 2) hX dX13_sells_129 (by decide) (t := 130) rfl ?_
  obtain ⟨x41, h40, hF⟩ := bo1_e hF
  have k42 := (ctX13_ofValley (G := G) (l := l) w34 p2 2 h40)
  refine J_callV hX [.int p2, .int 2] [.int ((w34 15).1 2 ((x37 + 1).toNatClampNeg)), .int (x37 + 1), .ref (adr G 15 2)] [.int x41, .int ((w34 15).1 2 ((x37 + 1).toNatClampNeg)), .int (x37 + 1), .ref (adr G 15 2)] k42 miX13_ofValley mvX13_ofValley cb10 kModel q_2225 ⟨rfl, rfl, Nat.le_of_ble_eq_true rfl, Nat.le_of_ble_eq_true rfl⟩ rfl rfl (Nat.le_of_ble_eq_true rfl) ⟨Nat.le_of_ble_eq_true rfl, Nat.le_of_ble_eq_true rfl⟩ dX13_sells_130 (t := 133) rfl rfl ?_
  refine J_iload hX dX13_sells_133 5 rfl (t := 135) rfl ?_
  refine J_imul hX dX13_sells_135 (t := 136) rfl ?_
  refine J_isub hX dX13_sells_136 (t := 137) rfl ?_
  obtain ⟨g43, hF⟩ := gd_e hF
  obtain ⟨w44, e45, hF⟩ := bnd_e hF
  refine J_iast hX (kInts (j := 2) (n := 390) (by decide) (by decide) rfl) g43 rfl e45 dX13_sells_137 (t := 138) rfl ?_
  refine J_aload_n hX dX13_sells_138 1 rfl (t := 139) rfl ?_
  refine J_get hX cb10 kModel 13 (by decide) q_1980 rfl dX13_sells_139 (t := 142) rfl ?_
  refine J_iconst (v := 2) hX dX13_sells_142 (by decide) (t := 143) rfl ?_
  refine J_dup2 hX dX13_sells_143 rfl rfl (t := 144) rfl ?_
  obtain ⟨g46, hF⟩ := gd_e hF
  refine J_iald hX (kInts (j := 2) (n := 390) (by decide) (by decide) rfl) g46 rfl dX13_sells_144 (t := 145) rfl ?_
  refine J_iconst (v := 1) hX dX13_sells_145 (by decide) (t := 146) rfl ?_
  refine J_iadd hX dX13_sells_146 (t := 147) rfl ?_
  obtain ⟨g47, hF⟩ := gd_e hF
  obtain ⟨w48, e49, hF⟩ := bnd_e hF
  refine J_iast hX (kInts (j := 2) (n := 390) (by decide) (by decide) rfl) g47 rfl e49 dX13_sells_147 (t := 148) rfl ?_
  refine J_aload_n hX dX13_sells_148 1 rfl (t := 149) rfl ?_
  refine J_get hX cb10 kModel 13 (by decide) q_1980 rfl dX13_sells_149 (t := 152) rfl ?_
  refine J_iconst (v := 2) hX dX13_sells_152 (by decide) (t := 153) rfl ?_
  obtain ⟨g50, hF⟩ := gd_e hF
  refine J_iald hX (kInts (j := 2) (n := 390) (by decide) (by decide) rfl) g50 rfl dX13_sells_153 (t := 154) rfl ?_
  refine J_iconst (v := 1) hX dX13_sells_154 (by decide) (t := 155) rfl ?_
  refine J_isub hX dX13_sells_155 (t := 156) rfl ?_
  replace hF := Option.some.inj hF
  obtain ⟨hF, hF2⟩ := Prod.mk.inj hF
  subst hF
  subst hF2
  exact J_iret hX hR hlk dX13_sells_156
abbrev rmX13_refunds : Room := { frames := 2, cells := 0, slots := 0, locals := 42 }
theorem miX13_refunds : MI yX13_refunds cX13_refunds 3 none 2 := ⟨q_2279, q_152, by decide +kernel, by decide +kernel, by decide +kernel, by decide +kernel⟩
theorem mvX13_refunds : MV yX13_refunds := ⟨q_2278, q_60⟩
def FX13_refunds (w : Wd) (p1 : Int32) (p2 : Int32) : Option (Wd) :=
  gd (inb 5 390) <|
  gd (inb 5 390) <| bnd (sW w 15 (sI (w 15) 2 5 (((w 15).1 2 5) + p2))) fun w3 =>
  bo1 (FX13_of w3 p1 0) fun x6 =>
  bnd (FX13_cst x6) fun x9 =>
  gd (inb (x9 + 1) 390) <|
  gd (inb (x9 + 1) 390) <| bnd (sW w3 15 (sI (w3 15) 2 ((x9 + 1).toNatClampNeg) (((w3 15).1 2 ((x9 + 1).toNatClampNeg)) + p2))) fun w13 =>
  some w13
set_option maxHeartbeats 4000000 in
set_option maxRecDepth 100000 in
theorem ctX13_refunds {G : GG} {l : Launch} (w : Wd) (p1 : Int32) (p2 : Int32)  {rw : Wd} (hF : FX13_refunds w p1 p2 = some rw) : CT G l yX13_refunds cX13_refunds 3 none rmX13_refunds 0 0 [.ref (adr G 15 0), .int p1, .int p2] w (none) rw := by
  refine CT.of miX13_refunds [(0, .ref (adr G 15 0)), (1, .int p1), (2, .int p2)] rfl (Nat.le_of_ble_eq_true rfl) ?_
  intro p e s m args below meth c hX hR hlk
  have hX : FX G RX13 cX13_refunds 3 p s m args c := hX
  unfold FX13_refunds at hF
  refine J_aload_n hX dX13_refunds_0 0 rfl (t := 1) rfl ?_
  refine J_get hX cb10 kModel 13 (by decide) q_1980 rfl dX13_refunds_1 (t := 4) rfl ?_
  refine J_iconst (v := 5) hX dX13_refunds_4 (by decide) (t := 5) rfl ?_
  refine J_dup2 hX dX13_refunds_5 rfl rfl (t := 6) rfl ?_
  obtain ⟨g1, hF⟩ := gd_e hF
  refine J_iald hX (kInts (j := 2) (n := 390) (by decide) (by decide) rfl) g1 rfl dX13_refunds_6 (t := 7) rfl ?_
  refine J_iload_n hX dX13_refunds_7 2 rfl (t := 8) rfl ?_
  refine J_iadd hX dX13_refunds_8 (t := 9) rfl ?_
  obtain ⟨g2, hF⟩ := gd_e hF
  obtain ⟨w3, e4, hF⟩ := bnd_e hF
  refine J_iast hX (kInts (j := 2) (n := 390) (by decide) (by decide) rfl) g2 rfl e4 dX13_refunds_9 (t := 10) rfl ?_
  refine J_aload_n hX dX13_refunds_10 0 rfl (t := 11) rfl ?_
  refine J_get hX cb10 kModel 13 (by decide) q_1980 rfl dX13_refunds_11 (t := 14) rfl ?_
  refine J_aload_n hX dX13_refunds_14 0 rfl (t := 15) rfl ?_
  refine J_iload_n hX dX13_refunds_15 1 rfl (t := 16) rfl ?_
  refine J_iconst (v := 0) hX dX13_refunds_16 (by decide) (t := 17) rfl ?_
  obtain ⟨x6, h5, hF⟩ := bo1_e hF
  have k7 := (ctX13_of (G := G) (l := l) w3 p1 0 h5)
  refine J_callV hX [.int p1, .int 0] [.ref (adr G 15 2)] [.int x6, .ref (adr G 15 2)] k7 miX13_of mvX13_of cb10 kModel q_2237 ⟨rfl, rfl, Nat.le_of_ble_eq_true rfl, Nat.le_of_ble_eq_true rfl⟩ rfl rfl (Nat.le_of_ble_eq_true rfl) ⟨Nat.le_of_ble_eq_true rfl, Nat.le_of_ble_eq_true rfl⟩ dX13_refunds_17 (t := 20) rfl rfl ?_
  obtain ⟨x9, h8, hF⟩ := bnd_e hF
  have k10 := (ctX13_cst (l := l) (G := G) (w := w3) x6 h8)
  refine J_callS hX [.int x6] [.ref (adr G 15 2)] [.int x9, .ref (adr G 15 2)] k10 miX13_cst q_2158 q_2157 ⟨rfl, rfl, Nat.le_of_ble_eq_true rfl, Nat.le_of_ble_eq_true rfl⟩ rfl rfl (Nat.le_of_ble_eq_true rfl) ⟨Nat.le_of_ble_eq_true rfl, Nat.le_of_ble_eq_true rfl⟩ dX13_refunds_20 (t := 23) rfl rfl ?_
  refine J_iconst (v := 1) hX dX13_refunds_23 (by decide) (t := 24) rfl ?_
  refine J_iadd hX dX13_refunds_24 (t := 25) rfl ?_
  refine J_dup2 hX dX13_refunds_25 rfl rfl (t := 26) rfl ?_
  obtain ⟨g11, hF⟩ := gd_e hF
  refine J_iald hX (kInts (j := 2) (n := 390) (by decide) (by decide) rfl) g11 rfl dX13_refunds_26 (t := 27) rfl ?_
  refine J_iload_n hX dX13_refunds_27 2 rfl (t := 28) rfl ?_
  refine J_iadd hX dX13_refunds_28 (t := 29) rfl ?_
  obtain ⟨g12, hF⟩ := gd_e hF
  obtain ⟨w13, e14, hF⟩ := bnd_e hF
  refine J_iast hX (kInts (j := 2) (n := 390) (by decide) (by decide) rfl) g12 rfl e14 dX13_refunds_29 (t := 30) rfl ?_
  replace hF := Option.some.inj hF
  subst hF
  exact J_vret hX hR hlk dX13_refunds_30
abbrev rmX13_hears : Room := { frames := 2, cells := 0, slots := 0, locals := 42 }
theorem miX13_hears : MI yX13_hears cX13_hears 3 none 1 := ⟨q_2295, q_152, by decide +kernel, by decide +kernel, by decide +kernel, by decide +kernel⟩
theorem mvX13_hears : MV yX13_hears := ⟨q_2294, q_63⟩
def FX13_hears (w : Wd) (p1 : Int32) : Option (Wd) :=
  bo1 (FX13_of w p1 1) fun x2 =>
  bnd (FX13_vly x2) fun x5 =>
  gd (inb 4 390) <|
  bo1 (FX13_of w p1 4) fun x9 =>
  gd (inb 4 390) <| bnd (sW w 15 (sI (w 15) 2 4 (((w 15).1 2 4) + x9))) fun w12 =>
  gd (inb (x5 + 4) 390) <|
  gd (inb (x5 + 4) 390) <| bnd (sW w12 15 (sI (w12 15) 2 ((x5 + 4).toNatClampNeg) (((w12 15).1 2 ((x5 + 4).toNatClampNeg)) + 1))) fun w16 =>
  bo1 (FX13_of w16 p1 0) fun x19 =>
  bnd (FX13_cst x19) fun x22 =>
  gd (inb (x22 + 3) 390) <|
  gd (inb (x22 + 3) 390) <| bnd (sW w16 15 (sI (w16 15) 2 ((x22 + 3).toNatClampNeg) (((w16 15).1 2 ((x22 + 3).toNatClampNeg)) + 1))) fun w26 =>
  bnd (FX13_sht p1) fun x29 =>
  gd (inb (x29 + 8) 390) <|
  bo1 (FX13_of w26 p1 7) fun x33 =>
  gd (inb (x29 + 8) 390) <| bnd (sW w26 15 (sI (w26 15) 2 ((x29 + 8).toNatClampNeg) (((w26 15).1 2 ((x29 + 8).toNatClampNeg)) ||| (1 <<< (x33 &&& 31))))) fun w36 =>
  some w36
set_option maxHeartbeats 4000000 in
set_option maxRecDepth 100000 in
theorem ctX13_hears {G : GG} {l : Launch} (w : Wd) (p1 : Int32)  {rw : Wd} (hF : FX13_hears w p1 = some rw) : CT G l yX13_hears cX13_hears 3 none rmX13_hears 0 0 [.ref (adr G 15 0), .int p1] w (none) rw := by
  refine CT.of miX13_hears [(0, .ref (adr G 15 0)), (1, .int p1)] rfl (Nat.le_of_ble_eq_true rfl) ?_
  intro p e s m args below meth c hX hR hlk
  have hX : FX G RX13 cX13_hears 3 p s m args c := hX
  unfold FX13_hears at hF
  refine J_aload_n hX dX13_hears_0 0 rfl (t := 1) rfl ?_
  refine J_iload_n hX dX13_hears_1 1 rfl (t := 2) rfl ?_
  refine J_iconst (v := 1) hX dX13_hears_2 (by decide) (t := 3) rfl ?_
  obtain ⟨x2, h1, hF⟩ := bo1_e hF
  have k3 := (ctX13_of (G := G) (l := l) w p1 1 h1)
  refine J_callV hX [.int p1, .int 1] [] [.int x2] k3 miX13_of mvX13_of cb10 kModel q_2237 ⟨rfl, rfl, Nat.le_of_ble_eq_true rfl, Nat.le_of_ble_eq_true rfl⟩ rfl rfl (Nat.le_of_ble_eq_true rfl) ⟨Nat.le_of_ble_eq_true rfl, Nat.le_of_ble_eq_true rfl⟩ dX13_hears_3 (t := 6) rfl rfl ?_
  obtain ⟨x5, h4, hF⟩ := bnd_e hF
  have k6 := (ctX13_vly (l := l) (G := G) (w := w) x2 h4)
  refine J_callS hX [.int x2] [] [.int x5] k6 miX13_vly q_2155 q_2154 ⟨rfl, rfl, Nat.le_of_ble_eq_true rfl, Nat.le_of_ble_eq_true rfl⟩ rfl rfl (Nat.le_of_ble_eq_true rfl) ⟨Nat.le_of_ble_eq_true rfl, Nat.le_of_ble_eq_true rfl⟩ dX13_hears_6 (t := 9) rfl rfl ?_
  refine J_istore_n (lc2 := [(2, .int x5), (0, .ref (adr G 15 0)), (1, .int p1)]) hX dX13_hears_9 rfl (Nat.le_of_ble_eq_true rfl) rfl (t := 10) rfl ?_
  refine J_aload_n hX dX13_hears_10 1 rfl (t := 11) rfl ?_
  refine J_get hX cb10 kModel 13 (by decide) q_1980 rfl dX13_hears_11 (t := 14) rfl ?_
  refine J_iconst (v := 4) hX dX13_hears_14 (by decide) (t := 15) rfl ?_
  refine J_dup2 hX dX13_hears_15 rfl rfl (t := 16) rfl ?_
  obtain ⟨g7, hF⟩ := gd_e hF
  refine J_iald hX (kInts (j := 2) (n := 390) (by decide) (by decide) rfl) g7 rfl dX13_hears_16 (t := 17) rfl ?_
  refine J_aload_n hX dX13_hears_17 1 rfl (t := 18) rfl ?_
  refine J_iload_n hX dX13_hears_18 2 rfl (t := 19) rfl ?_
  refine J_iconst (v := 4) hX dX13_hears_19 (by decide) (t := 20) rfl ?_
  obtain ⟨x9, h8, hF⟩ := bo1_e hF
  have k10 := (ctX13_of (G := G) (l := l) w p1 4 h8)
  refine J_callV hX [.int p1, .int 4] [.int ((w 15).1 2 4), .int 4, .ref (adr G 15 2)] [.int x9, .int ((w 15).1 2 4), .int 4, .ref (adr G 15 2)] k10 miX13_of mvX13_of cb10 kModel q_2237 ⟨rfl, rfl, Nat.le_of_ble_eq_true rfl, Nat.le_of_ble_eq_true rfl⟩ rfl rfl (Nat.le_of_ble_eq_true rfl) ⟨Nat.le_of_ble_eq_true rfl, Nat.le_of_ble_eq_true rfl⟩ dX13_hears_20 (t := 23) rfl rfl ?_
  refine J_iadd hX dX13_hears_23 (t := 24) rfl ?_
  obtain ⟨g11, hF⟩ := gd_e hF
  obtain ⟨w12, e13, hF⟩ := bnd_e hF
  refine J_iast hX (kInts (j := 2) (n := 390) (by decide) (by decide) rfl) g11 rfl e13 dX13_hears_24 (t := 25) rfl ?_
  refine J_aload_n hX dX13_hears_25 1 rfl (t := 26) rfl ?_
  refine J_get hX cb10 kModel 13 (by decide) q_1980 rfl dX13_hears_26 (t := 29) rfl ?_
  refine J_iload_n hX dX13_hears_29 0 rfl (t := 30) rfl ?_
  refine J_iconst (v := 4) hX dX13_hears_30 (by decide) (t := 31) rfl ?_
  refine J_iadd hX dX13_hears_31 (t := 32) rfl ?_
  refine J_dup2 hX dX13_hears_32 rfl rfl (t := 33) rfl ?_
  obtain ⟨g14, hF⟩ := gd_e hF
  refine J_iald hX (kInts (j := 2) (n := 390) (by decide) (by decide) rfl) g14 rfl dX13_hears_33 (t := 34) rfl ?_
  refine J_iconst (v := 1) hX dX13_hears_34 (by decide) (t := 35) rfl ?_
  refine J_iadd hX dX13_hears_35 (t := 36) rfl ?_
  obtain ⟨g15, hF⟩ := gd_e hF
  obtain ⟨w16, e17, hF⟩ := bnd_e hF
  refine J_iast hX (kInts (j := 2) (n := 390) (by decide) (by decide) rfl) g15 rfl e17 dX13_hears_36 (t := 37) rfl ?_
  refine J_aload_n hX dX13_hears_37 1 rfl (t := 38) rfl ?_
  refine J_get hX cb10 kModel 13 (by decide) q_1980 rfl dX13_hears_38 (t := 41) rfl ?_
  refine J_aload_n hX dX13_hears_41 1 rfl (t := 42) rfl ?_
  refine J_iload_n hX dX13_hears_42 2 rfl (t := 43) rfl ?_
  refine J_iconst (v := 0) hX dX13_hears_43 (by decide) (t := 44) rfl ?_
  obtain ⟨x19, h18, hF⟩ := bo1_e hF
  have k20 := (ctX13_of (G := G) (l := l) w16 p1 0 h18)
  refine J_callV hX [.int p1, .int 0] [.ref (adr G 15 2)] [.int x19, .ref (adr G 15 2)] k20 miX13_of mvX13_of cb10 kModel q_2237 ⟨rfl, rfl, Nat.le_of_ble_eq_true rfl, Nat.le_of_ble_eq_true rfl⟩ rfl rfl (Nat.le_of_ble_eq_true rfl) ⟨Nat.le_of_ble_eq_true rfl, Nat.le_of_ble_eq_true rfl⟩ dX13_hears_44 (t := 47) rfl rfl ?_
  obtain ⟨x22, h21, hF⟩ := bnd_e hF
  have k23 := (ctX13_cst (l := l) (G := G) (w := w16) x19 h21)
  refine J_callS hX [.int x19] [.ref (adr G 15 2)] [.int x22, .ref (adr G 15 2)] k23 miX13_cst q_2158 q_2157 ⟨rfl, rfl, Nat.le_of_ble_eq_true rfl, Nat.le_of_ble_eq_true rfl⟩ rfl rfl (Nat.le_of_ble_eq_true rfl) ⟨Nat.le_of_ble_eq_true rfl, Nat.le_of_ble_eq_true rfl⟩ dX13_hears_47 (t := 50) rfl rfl ?_
  refine J_iconst (v := 3) hX dX13_hears_50 (by decide) (t := 51) rfl ?_
  refine J_iadd hX dX13_hears_51 (t := 52) rfl ?_
  refine J_dup2 hX dX13_hears_52 rfl rfl (t := 53) rfl ?_
  obtain ⟨g24, hF⟩ := gd_e hF
  refine J_iald hX (kInts (j := 2) (n := 390) (by decide) (by decide) rfl) g24 rfl dX13_hears_53 (t := 54) rfl ?_
  refine J_iconst (v := 1) hX dX13_hears_54 (by decide) (t := 55) rfl ?_
  refine J_iadd hX dX13_hears_55 (t := 56) rfl ?_
  obtain ⟨g25, hF⟩ := gd_e hF
  obtain ⟨w26, e27, hF⟩ := bnd_e hF
  refine J_iast hX (kInts (j := 2) (n := 390) (by decide) (by decide) rfl) g25 rfl e27 dX13_hears_56 (t := 57) rfl ?_
  refine J_aload_n hX dX13_hears_57 1 rfl (t := 58) rfl ?_
  refine J_get hX cb10 kModel 13 (by decide) q_1980 rfl dX13_hears_58 (t := 61) rfl ?_
  refine J_iload_n hX dX13_hears_61 2 rfl (t := 62) rfl ?_
  obtain ⟨x29, h28, hF⟩ := bnd_e hF
  have k30 := (ctX13_sht (l := l) (G := G) (w := w26) p1 h28)
  refine J_callS hX [.int p1] [.ref (adr G 15 2)] [.int x29, .ref (adr G 15 2)] k30 miX13_sht q_2242 q_2241 ⟨rfl, rfl, Nat.le_of_ble_eq_true rfl, Nat.le_of_ble_eq_true rfl⟩ rfl rfl (Nat.le_of_ble_eq_true rfl) ⟨Nat.le_of_ble_eq_true rfl, Nat.le_of_ble_eq_true rfl⟩ dX13_hears_62 (t := 65) rfl rfl ?_
  refine J_bipush (v := 8) hX dX13_hears_65 (by decide) (t := 67) rfl ?_
  refine J_iadd hX dX13_hears_67 (t := 68) rfl ?_
  refine J_dup2 hX dX13_hears_68 rfl rfl (t := 69) rfl ?_
  obtain ⟨g31, hF⟩ := gd_e hF
  refine J_iald hX (kInts (j := 2) (n := 390) (by decide) (by decide) rfl) g31 rfl dX13_hears_69 (t := 70) rfl ?_
  refine J_iconst (v := 1) hX dX13_hears_70 (by decide) (t := 71) rfl ?_
  refine J_aload_n hX dX13_hears_71 1 rfl (t := 72) rfl ?_
  refine J_iload_n hX dX13_hears_72 2 rfl (t := 73) rfl ?_
  refine J_bipush (v := 7) hX dX13_hears_73 (by decide) (t := 75) rfl ?_
  obtain ⟨x33, h32, hF⟩ := bo1_e hF
  have k34 := (ctX13_of (G := G) (l := l) w26 p1 7 h32)
  refine J_callV hX [.int p1, .int 7] [.int 1, .int ((w26 15).1 2 ((x29 + 8).toNatClampNeg)), .int (x29 + 8), .ref (adr G 15 2)] [.int x33, .int 1, .int ((w26 15).1 2 ((x29 + 8).toNatClampNeg)), .int (x29 + 8), .ref (adr G 15 2)] k34 miX13_of mvX13_of cb10 kModel q_2237 ⟨rfl, rfl, Nat.le_of_ble_eq_true rfl, Nat.le_of_ble_eq_true rfl⟩ rfl rfl (Nat.le_of_ble_eq_true rfl) ⟨Nat.le_of_ble_eq_true rfl, Nat.le_of_ble_eq_true rfl⟩ dX13_hears_75 (t := 78) rfl rfl ?_
  refine J_ishl hX dX13_hears_78 (t := 79) rfl ?_
  refine J_ior hX dX13_hears_79 (t := 80) rfl ?_
  obtain ⟨g35, hF⟩ := gd_e hF
  obtain ⟨w36, e37, hF⟩ := bnd_e hF
  refine J_iast hX (kInts (j := 2) (n := 390) (by decide) (by decide) rfl) g35 rfl e37 dX13_hears_80 (t := 81) rfl ?_
  replace hF := Option.some.inj hF
  subst hF
  exact J_vret hX hR hlk dX13_hears_81
abbrev rmX13_loses : Room := { frames := 3, cells := 0, slots := 0, locals := 64 }
theorem miX13_loses : MI yX13_loses cX13_loses 3 none 1 := ⟨q_2299, q_152, by decide +kernel, by decide +kernel, by decide +kernel, by decide +kernel⟩
theorem mvX13_loses : MV yX13_loses := ⟨q_2298, q_64⟩
def FX13_loses (w : Wd) (p1 : Int32) : Option (Wd) :=
  bo1 (FX13_of w p1 1) fun x2 =>
  bnd (FX13_vly x2) fun x5 =>
  bo1 (FX13_of w p1 4) fun x8 =>
  bo1 (FX13_refunds w p1 x8) fun w11 =>
  gd (inb (x5 + 5) 390) <|
  gd (inb (x5 + 5) 390) <| bnd (sW w11 15 (sI (w11 15) 2 ((x5 + 5).toNatClampNeg) (((w11 15).1 2 ((x5 + 5).toNatClampNeg)) + 1))) fun w15 =>
  gd (inb (x5 + 4) 390) <|
  if 2 ≤ (w15 15).1 2 ((x5 + 4).toNatClampNeg) then
    gd (inb (x5 + 4) 390) <|
    gd (inb (x5 + 4) 390) <| bnd (sW w15 15 (sI (w15 15) 2 ((x5 + 4).toNatClampNeg) (((w15 15).1 2 ((x5 + 4).toNatClampNeg)) - 2))) fun w20 =>
    some w20
  else
    gd (inb (x5 + 4) 390) <| bnd (sW w15 15 (sI (w15 15) 2 ((x5 + 4).toNatClampNeg) 0)) fun w23 =>
    some w23
set_option maxHeartbeats 4000000 in
set_option maxRecDepth 100000 in
theorem ctX13_loses {G : GG} {l : Launch} (w : Wd) (p1 : Int32)  {rw : Wd} (hF : FX13_loses w p1 = some rw) : CT G l yX13_loses cX13_loses 3 none rmX13_loses 0 0 [.ref (adr G 15 0), .int p1] w (none) rw := by
  refine CT.of miX13_loses [(0, .ref (adr G 15 0)), (1, .int p1)] rfl (Nat.le_of_ble_eq_true rfl) ?_
  intro p e s m args below meth c hX hR hlk
  have hX : FX G RX13 cX13_loses 3 p s m args c := hX
  unfold FX13_loses at hF
  refine J_aload_n hX dX13_loses_0 0 rfl (t := 1) rfl ?_
  refine J_iload_n hX dX13_loses_1 1 rfl (t := 2) rfl ?_
  refine J_iconst (v := 1) hX dX13_loses_2 (by decide) (t := 3) rfl ?_
  obtain ⟨x2, h1, hF⟩ := bo1_e hF
  have k3 := (ctX13_of (G := G) (l := l) w p1 1 h1)
  refine J_callV hX [.int p1, .int 1] [] [.int x2] k3 miX13_of mvX13_of cb10 kModel q_2237 ⟨rfl, rfl, Nat.le_of_ble_eq_true rfl, Nat.le_of_ble_eq_true rfl⟩ rfl rfl (Nat.le_of_ble_eq_true rfl) ⟨Nat.le_of_ble_eq_true rfl, Nat.le_of_ble_eq_true rfl⟩ dX13_loses_3 (t := 6) rfl rfl ?_
  obtain ⟨x5, h4, hF⟩ := bnd_e hF
  have k6 := (ctX13_vly (l := l) (G := G) (w := w) x2 h4)
  refine J_callS hX [.int x2] [] [.int x5] k6 miX13_vly q_2155 q_2154 ⟨rfl, rfl, Nat.le_of_ble_eq_true rfl, Nat.le_of_ble_eq_true rfl⟩ rfl rfl (Nat.le_of_ble_eq_true rfl) ⟨Nat.le_of_ble_eq_true rfl, Nat.le_of_ble_eq_true rfl⟩ dX13_loses_6 (t := 9) rfl rfl ?_
  refine J_istore_n (lc2 := [(2, .int x5), (0, .ref (adr G 15 0)), (1, .int p1)]) hX dX13_loses_9 rfl (Nat.le_of_ble_eq_true rfl) rfl (t := 10) rfl ?_
  refine J_aload_n hX dX13_loses_10 1 rfl (t := 11) rfl ?_
  refine J_iload_n hX dX13_loses_11 2 rfl (t := 12) rfl ?_
  refine J_aload_n hX dX13_loses_12 1 rfl (t := 13) rfl ?_
  refine J_iload_n hX dX13_loses_13 2 rfl (t := 14) rfl ?_
  refine J_iconst (v := 4) hX dX13_loses_14 (by decide) (t := 15) rfl ?_
  obtain ⟨x8, h7, hF⟩ := bo1_e hF
  have k9 := (ctX13_of (G := G) (l := l) w p1 4 h7)
  refine J_callV hX [.int p1, .int 4] [.int p1, .ref (adr G 15 0)] [.int x8, .int p1, .ref (adr G 15 0)] k9 miX13_of mvX13_of cb10 kModel q_2237 ⟨rfl, rfl, Nat.le_of_ble_eq_true rfl, Nat.le_of_ble_eq_true rfl⟩ rfl rfl (Nat.le_of_ble_eq_true rfl) ⟨Nat.le_of_ble_eq_true rfl, Nat.le_of_ble_eq_true rfl⟩ dX13_loses_15 (t := 18) rfl rfl ?_
  obtain ⟨w11, h10, hF⟩ := bo1_e hF
  have k12 := (ctX13_refunds (G := G) (l := l) w p1 x8 h10)
  refine J_callV hX [.int p1, .int x8] [] [] k12 miX13_refunds mvX13_refunds cb10 kModel q_2276 ⟨rfl, rfl, Nat.le_of_ble_eq_true rfl, Nat.le_of_ble_eq_true rfl⟩ rfl rfl (Nat.le_of_ble_eq_true rfl) ⟨Nat.le_of_ble_eq_true rfl, Nat.le_of_ble_eq_true rfl⟩ dX13_loses_18 (t := 21) rfl rfl ?_
  refine J_aload_n hX dX13_loses_21 1 rfl (t := 22) rfl ?_
  refine J_get hX cb10 kModel 13 (by decide) q_1980 rfl dX13_loses_22 (t := 25) rfl ?_
  refine J_iload_n hX dX13_loses_25 0 rfl (t := 26) rfl ?_
  refine J_iconst (v := 5) hX dX13_loses_26 (by decide) (t := 27) rfl ?_
  refine J_iadd hX dX13_loses_27 (t := 28) rfl ?_
  refine J_dup2 hX dX13_loses_28 rfl rfl (t := 29) rfl ?_
  obtain ⟨g13, hF⟩ := gd_e hF
  refine J_iald hX (kInts (j := 2) (n := 390) (by decide) (by decide) rfl) g13 rfl dX13_loses_29 (t := 30) rfl ?_
  refine J_iconst (v := 1) hX dX13_loses_30 (by decide) (t := 31) rfl ?_
  refine J_iadd hX dX13_loses_31 (t := 32) rfl ?_
  obtain ⟨g14, hF⟩ := gd_e hF
  obtain ⟨w15, e16, hF⟩ := bnd_e hF
  refine J_iast hX (kInts (j := 2) (n := 390) (by decide) (by decide) rfl) g14 rfl e16 dX13_loses_32 (t := 33) rfl ?_
  refine J_aload_n hX dX13_loses_33 1 rfl (t := 34) rfl ?_
  refine J_get hX cb10 kModel 13 (by decide) q_1980 rfl dX13_loses_34 (t := 37) rfl ?_
  refine J_iload_n hX dX13_loses_37 0 rfl (t := 38) rfl ?_
  refine J_iconst (v := 4) hX dX13_loses_38 (by decide) (t := 39) rfl ?_
  refine J_iadd hX dX13_loses_39 (t := 40) rfl ?_
  refine J_aload_n hX dX13_loses_40 1 rfl (t := 41) rfl ?_
  refine J_get hX cb10 kModel 13 (by decide) q_1980 rfl dX13_loses_41 (t := 44) rfl ?_
  refine J_iload_n hX dX13_loses_44 0 rfl (t := 45) rfl ?_
  refine J_iconst (v := 4) hX dX13_loses_45 (by decide) (t := 46) rfl ?_
  refine J_iadd hX dX13_loses_46 (t := 47) rfl ?_
  obtain ⟨g17, hF⟩ := gd_e hF
  refine J_iald hX (kInts (j := 2) (n := 390) (by decide) (by decide) rfl) g17 rfl dX13_loses_47 (t := 48) rfl ?_
  refine J_iconst (v := 2) hX dX13_loses_48 (by decide) (t := 49) rfl ?_
  refine J_icmp_ge (tgt := 56) hX dX13_loses_49 (by decide) (t := 52) rfl (fun z => ?_) (fun z => ?_)
  · replace hF := it_t hF z
    refine J_aload_n hX dX13_loses_56 1 rfl (t := 57) rfl ?_
    refine J_get hX cb10 kModel 13 (by decide) q_1980 rfl dX13_loses_57 (t := 60) rfl ?_
    refine J_iload_n hX dX13_loses_60 0 rfl (t := 61) rfl ?_
    refine J_iconst (v := 4) hX dX13_loses_61 (by decide) (t := 62) rfl ?_
    refine J_iadd hX dX13_loses_62 (t := 63) rfl ?_
    obtain ⟨g18, hF⟩ := gd_e hF
    refine J_iald hX (kInts (j := 2) (n := 390) (by decide) (by decide) rfl) g18 rfl dX13_loses_63 (t := 64) rfl ?_
    refine J_iconst (v := 2) hX dX13_loses_64 (by decide) (t := 65) rfl ?_
    refine J_isub hX dX13_loses_65 (t := 66) rfl ?_
    obtain ⟨g19, hF⟩ := gd_e hF
    obtain ⟨w20, e21, hF⟩ := bnd_e hF
    refine J_iast hX (kInts (j := 2) (n := 390) (by decide) (by decide) rfl) g19 rfl e21 dX13_loses_66 (t := 67) rfl ?_
    replace hF := Option.some.inj hF
    subst hF
    exact J_vret hX hR hlk dX13_loses_67
  · replace hF := it_f hF z
    refine J_iconst (v := 0) hX dX13_loses_52 (by decide) (t := 53) rfl ?_
    refine J_goto (tgt := 66) hX dX13_loses_53 (by decide) ?_
    obtain ⟨g22, hF⟩ := gd_e hF
    obtain ⟨w23, e24, hF⟩ := bnd_e hF
    refine J_iast hX (kInts (j := 2) (n := 390) (by decide) (by decide) rfl) g22 rfl e24 dX13_loses_66 (t := 67) rfl ?_
    replace hF := Option.some.inj hF
    subst hF
    exact J_vret hX hR hlk dX13_loses_67
abbrev rmX13_comesBack : Room := { frames := 4, cells := 0, slots := 0, locals := 86 }
theorem miX13_comesBack : MI yX13_comesBack cX13_comesBack 4 (some .boolean) 2 := ⟨q_2291, q_152, by decide +kernel, by decide +kernel, by decide +kernel, by decide +kernel⟩
theorem mvX13_comesBack : MV yX13_comesBack := ⟨q_2290, q_62⟩
def FX13_comesBack (w : Wd) (p1 : Int32) (p2 : Int32) : Option (Bool × Wd) :=
  if p2 < 1 then
    bo1 (FX13_loses w p1) fun w2 =>
    bnd (FX13_sht p1) fun x5 =>
    gd (inb (x5 + 7) 390) <|
    gd (inb (x5 + 7) 390) <| bnd (sW w2 15 (sI (w2 15) 2 ((x5 + 7).toNatClampNeg) (((w2 15).1 2 ((x5 + 7).toNatClampNeg)) + 1))) fun w9 =>
    bo1 (FX13_of w9 p1 7) fun x12 =>
    bo1 (FX13_of w9 p1 3) fun x15 =>
    if x12 = x15 then
      bnd (FX13_sht p1) fun x18 =>
      gd (inb (x18 + 6) 390) <| bnd (sW w9 15 (sI (w9 15) 2 ((x18 + 6).toNatClampNeg) 1)) fun w21 =>
      some (false, w21)
    else
      some (false, w9)
  else
    bo1 (FX13_hears w p1) fun w24 =>
    bnd (FX13_sht p1) fun x27 =>
    gd (inb (x27 + 7) 390) <|
    gd (inb (x27 + 7) 390) <| bnd (sW w24 15 (sI (w24 15) 2 ((x27 + 7).toNatClampNeg) (((w24 15).1 2 ((x27 + 7).toNatClampNeg)) + 1))) fun w31 =>
    bo1 (FX13_of w31 p1 7) fun x34 =>
    bo1 (FX13_of w31 p1 3) fun x37 =>
    if x34 = x37 then
      bnd (FX13_sht p1) fun x40 =>
      gd (inb (x40 + 6) 390) <| bnd (sW w31 15 (sI (w31 15) 2 ((x40 + 6).toNatClampNeg) 1)) fun w43 =>
      some (true, w43)
    else
      some (true, w31)
set_option maxHeartbeats 4000000 in
set_option maxRecDepth 100000 in
theorem ctX13_comesBack {G : GG} {l : Launch} (w : Wd) (p1 : Int32) (p2 : Int32)  {rx : Bool} {rw : Wd} (hF : FX13_comesBack w p1 p2 = some (rx, rw)) : CT G l yX13_comesBack cX13_comesBack 4 (some .boolean) rmX13_comesBack 0 0 [.ref (adr G 15 0), .int p1, .int p2] w (some (.int (bI rx))) rw := by
  refine CT.of miX13_comesBack [(0, .ref (adr G 15 0)), (1, .int p1), (2, .int p2)] rfl (Nat.le_of_ble_eq_true rfl) ?_
  intro p e s m args below meth c hX hR hlk
  have hX : FX G RX13 cX13_comesBack 4 p s m args c := hX
  unfold FX13_comesBack at hF
  refine J_iload_n hX dX13_comesBack_0 2 rfl (t := 1) rfl ?_
  refine J_iconst (v := 1) hX dX13_comesBack_1 (by decide) (t := 2) rfl ?_
  refine J_icmp_lt (tgt := 9) hX dX13_comesBack_2 (by decide) (t := 5) rfl (fun z => ?_) (fun z => ?_)
  · replace hF := it_t hF z
    refine J_iconst (v := 0) hX dX13_comesBack_9 (by decide) (t := 10) rfl ?_
    refine J_istore_n (lc2 := [(3, .int 0), (0, .ref (adr G 15 0)), (1, .int p1), (2, .int p2)]) hX dX13_comesBack_10 rfl (Nat.le_of_ble_eq_true rfl) rfl (t := 11) rfl ?_
    refine J_iload_n hX dX13_comesBack_11 0 rfl (t := 12) rfl ?_
    refine J_if_eq (tgt := 23) hX dX13_comesBack_12 (by decide) (t := 15) rfl (fun z => ?_) (fun z => ?_)
    · refine J_aload_n hX dX13_comesBack_23 1 rfl (t := 24) rfl ?_
      refine J_iload_n hX dX13_comesBack_24 2 rfl (t := 25) rfl ?_
      obtain ⟨w2, h1, hF⟩ := bo1_e hF
      have k3 := (ctX13_loses (G := G) (l := l) w p1 h1)
      refine J_callV hX [.int p1] [] [] k3 miX13_loses mvX13_loses cb10 kModel q_2296 ⟨rfl, rfl, Nat.le_of_ble_eq_true rfl, Nat.le_of_ble_eq_true rfl⟩ rfl rfl (Nat.le_of_ble_eq_true rfl) ⟨Nat.le_of_ble_eq_true rfl, Nat.le_of_ble_eq_true rfl⟩ dX13_comesBack_25 (t := 28) rfl rfl ?_
      refine J_aload_n hX dX13_comesBack_28 1 rfl (t := 29) rfl ?_
      refine J_get hX cb10 kModel 13 (by decide) q_1980 rfl dX13_comesBack_29 (t := 32) rfl ?_
      refine J_iload_n hX dX13_comesBack_32 2 rfl (t := 33) rfl ?_
      obtain ⟨x5, h4, hF⟩ := bnd_e hF
      have k6 := (ctX13_sht (l := l) (G := G) (w := w2) p1 h4)
      refine J_callS hX [.int p1] [.ref (adr G 15 2)] [.int x5, .ref (adr G 15 2)] k6 miX13_sht q_2242 q_2241 ⟨rfl, rfl, Nat.le_of_ble_eq_true rfl, Nat.le_of_ble_eq_true rfl⟩ rfl rfl (Nat.le_of_ble_eq_true rfl) ⟨Nat.le_of_ble_eq_true rfl, Nat.le_of_ble_eq_true rfl⟩ dX13_comesBack_33 (t := 36) rfl rfl ?_
      refine J_bipush (v := 7) hX dX13_comesBack_36 (by decide) (t := 38) rfl ?_
      refine J_iadd hX dX13_comesBack_38 (t := 39) rfl ?_
      refine J_dup2 hX dX13_comesBack_39 rfl rfl (t := 40) rfl ?_
      obtain ⟨g7, hF⟩ := gd_e hF
      refine J_iald hX (kInts (j := 2) (n := 390) (by decide) (by decide) rfl) g7 rfl dX13_comesBack_40 (t := 41) rfl ?_
      refine J_iconst (v := 1) hX dX13_comesBack_41 (by decide) (t := 42) rfl ?_
      refine J_iadd hX dX13_comesBack_42 (t := 43) rfl ?_
      obtain ⟨g8, hF⟩ := gd_e hF
      obtain ⟨w9, e10, hF⟩ := bnd_e hF
      refine J_iast hX (kInts (j := 2) (n := 390) (by decide) (by decide) rfl) g8 rfl e10 dX13_comesBack_43 (t := 44) rfl ?_
      refine J_aload_n hX dX13_comesBack_44 1 rfl (t := 45) rfl ?_
      refine J_iload_n hX dX13_comesBack_45 2 rfl (t := 46) rfl ?_
      refine J_bipush (v := 7) hX dX13_comesBack_46 (by decide) (t := 48) rfl ?_
      obtain ⟨x12, h11, hF⟩ := bo1_e hF
      have k13 := (ctX13_of (G := G) (l := l) w9 p1 7 h11)
      refine J_callV hX [.int p1, .int 7] [] [.int x12] k13 miX13_of mvX13_of cb10 kModel q_2237 ⟨rfl, rfl, Nat.le_of_ble_eq_true rfl, Nat.le_of_ble_eq_true rfl⟩ rfl rfl (Nat.le_of_ble_eq_true rfl) ⟨Nat.le_of_ble_eq_true rfl, Nat.le_of_ble_eq_true rfl⟩ dX13_comesBack_48 (t := 51) rfl rfl ?_
      refine J_aload_n hX dX13_comesBack_51 1 rfl (t := 52) rfl ?_
      refine J_iload_n hX dX13_comesBack_52 2 rfl (t := 53) rfl ?_
      refine J_iconst (v := 3) hX dX13_comesBack_53 (by decide) (t := 54) rfl ?_
      obtain ⟨x15, h14, hF⟩ := bo1_e hF
      have k16 := (ctX13_of (G := G) (l := l) w9 p1 3 h14)
      refine J_callV hX [.int p1, .int 3] [.int x12] [.int x15, .int x12] k16 miX13_of mvX13_of cb10 kModel q_2237 ⟨rfl, rfl, Nat.le_of_ble_eq_true rfl, Nat.le_of_ble_eq_true rfl⟩ rfl rfl (Nat.le_of_ble_eq_true rfl) ⟨Nat.le_of_ble_eq_true rfl, Nat.le_of_ble_eq_true rfl⟩ dX13_comesBack_54 (t := 57) rfl rfl ?_
      refine J_icmp_ne (tgt := 73) hX dX13_comesBack_57 (by decide) (t := 60) rfl (fun z => ?_) (fun z => ?_)
      · replace hF := it_f hF z
        refine J_iload_n hX dX13_comesBack_73 0 rfl (t := 74) rfl ?_
        replace hF := Option.some.inj hF
        obtain ⟨hF, hF2⟩ := Prod.mk.inj hF
        subst hF
        subst hF2
        exact J_zret (b := false) hX hR hlk dX13_comesBack_74
      · replace hF := it_t hF z
        refine J_aload_n hX dX13_comesBack_60 1 rfl (t := 61) rfl ?_
        refine J_get hX cb10 kModel 13 (by decide) q_1980 rfl dX13_comesBack_61 (t := 64) rfl ?_
        refine J_iload_n hX dX13_comesBack_64 2 rfl (t := 65) rfl ?_
        obtain ⟨x18, h17, hF⟩ := bnd_e hF
        have k19 := (ctX13_sht (l := l) (G := G) (w := w9) p1 h17)
        refine J_callS hX [.int p1] [.ref (adr G 15 2)] [.int x18, .ref (adr G 15 2)] k19 miX13_sht q_2242 q_2241 ⟨rfl, rfl, Nat.le_of_ble_eq_true rfl, Nat.le_of_ble_eq_true rfl⟩ rfl rfl (Nat.le_of_ble_eq_true rfl) ⟨Nat.le_of_ble_eq_true rfl, Nat.le_of_ble_eq_true rfl⟩ dX13_comesBack_65 (t := 68) rfl rfl ?_
        refine J_bipush (v := 6) hX dX13_comesBack_68 (by decide) (t := 70) rfl ?_
        refine J_iadd hX dX13_comesBack_70 (t := 71) rfl ?_
        refine J_iconst (v := 1) hX dX13_comesBack_71 (by decide) (t := 72) rfl ?_
        obtain ⟨g20, hF⟩ := gd_e hF
        obtain ⟨w21, e22, hF⟩ := bnd_e hF
        refine J_iast hX (kInts (j := 2) (n := 390) (by decide) (by decide) rfl) g20 rfl e22 dX13_comesBack_72 (t := 73) rfl ?_
        refine J_iload_n hX dX13_comesBack_73 0 rfl (t := 74) rfl ?_
        replace hF := Option.some.inj hF
        obtain ⟨hF, hF2⟩ := Prod.mk.inj hF
        subst hF
        subst hF2
        exact J_zret (b := false) hX hR hlk dX13_comesBack_74
    · exact absurd z (by decide)
  · replace hF := it_f hF z
    refine J_iconst (v := 1) hX dX13_comesBack_5 (by decide) (t := 6) rfl ?_
    refine J_goto (tgt := 10) hX dX13_comesBack_6 (by decide) ?_
    refine J_istore_n (lc2 := [(3, .int 1), (0, .ref (adr G 15 0)), (1, .int p1), (2, .int p2)]) hX dX13_comesBack_10 rfl (Nat.le_of_ble_eq_true rfl) rfl (t := 11) rfl ?_
    refine J_iload_n hX dX13_comesBack_11 0 rfl (t := 12) rfl ?_
    refine J_if_eq (tgt := 23) hX dX13_comesBack_12 (by decide) (t := 15) rfl (fun z => ?_) (fun z => ?_)
    · exact absurd z (by decide)
    · refine J_aload_n hX dX13_comesBack_15 1 rfl (t := 16) rfl ?_
      refine J_iload_n hX dX13_comesBack_16 2 rfl (t := 17) rfl ?_
      obtain ⟨w24, h23, hF⟩ := bo1_e hF
      have k25 := (ctX13_hears (G := G) (l := l) w p1 h23)
      refine J_callV hX [.int p1] [] [] k25 miX13_hears mvX13_hears cb10 kModel q_2292 ⟨rfl, rfl, Nat.le_of_ble_eq_true rfl, Nat.le_of_ble_eq_true rfl⟩ rfl rfl (Nat.le_of_ble_eq_true rfl) ⟨Nat.le_of_ble_eq_true rfl, Nat.le_of_ble_eq_true rfl⟩ dX13_comesBack_17 (t := 20) rfl rfl ?_
      refine J_goto (tgt := 28) hX dX13_comesBack_20 (by decide) ?_
      refine J_aload_n hX dX13_comesBack_28 1 rfl (t := 29) rfl ?_
      refine J_get hX cb10 kModel 13 (by decide) q_1980 rfl dX13_comesBack_29 (t := 32) rfl ?_
      refine J_iload_n hX dX13_comesBack_32 2 rfl (t := 33) rfl ?_
      obtain ⟨x27, h26, hF⟩ := bnd_e hF
      have k28 := (ctX13_sht (l := l) (G := G) (w := w24) p1 h26)
      refine J_callS hX [.int p1] [.ref (adr G 15 2)] [.int x27, .ref (adr G 15 2)] k28 miX13_sht q_2242 q_2241 ⟨rfl, rfl, Nat.le_of_ble_eq_true rfl, Nat.le_of_ble_eq_true rfl⟩ rfl rfl (Nat.le_of_ble_eq_true rfl) ⟨Nat.le_of_ble_eq_true rfl, Nat.le_of_ble_eq_true rfl⟩ dX13_comesBack_33 (t := 36) rfl rfl ?_
      refine J_bipush (v := 7) hX dX13_comesBack_36 (by decide) (t := 38) rfl ?_
      refine J_iadd hX dX13_comesBack_38 (t := 39) rfl ?_
      refine J_dup2 hX dX13_comesBack_39 rfl rfl (t := 40) rfl ?_
      obtain ⟨g29, hF⟩ := gd_e hF
      refine J_iald hX (kInts (j := 2) (n := 390) (by decide) (by decide) rfl) g29 rfl dX13_comesBack_40 (t := 41) rfl ?_
      refine J_iconst (v := 1) hX dX13_comesBack_41 (by decide) (t := 42) rfl ?_
      refine J_iadd hX dX13_comesBack_42 (t := 43) rfl ?_
      obtain ⟨g30, hF⟩ := gd_e hF
      obtain ⟨w31, e32, hF⟩ := bnd_e hF
      refine J_iast hX (kInts (j := 2) (n := 390) (by decide) (by decide) rfl) g30 rfl e32 dX13_comesBack_43 (t := 44) rfl ?_
      refine J_aload_n hX dX13_comesBack_44 1 rfl (t := 45) rfl ?_
      refine J_iload_n hX dX13_comesBack_45 2 rfl (t := 46) rfl ?_
      refine J_bipush (v := 7) hX dX13_comesBack_46 (by decide) (t := 48) rfl ?_
      obtain ⟨x34, h33, hF⟩ := bo1_e hF
      have k35 := (ctX13_of (G := G) (l := l) w31 p1 7 h33)
      refine J_callV hX [.int p1, .int 7] [] [.int x34] k35 miX13_of mvX13_of cb10 kModel q_2237 ⟨rfl, rfl, Nat.le_of_ble_eq_true rfl, Nat.le_of_ble_eq_true rfl⟩ rfl rfl (Nat.le_of_ble_eq_true rfl) ⟨Nat.le_of_ble_eq_true rfl, Nat.le_of_ble_eq_true rfl⟩ dX13_comesBack_48 (t := 51) rfl rfl ?_
      refine J_aload_n hX dX13_comesBack_51 1 rfl (t := 52) rfl ?_
      refine J_iload_n hX dX13_comesBack_52 2 rfl (t := 53) rfl ?_
      refine J_iconst (v := 3) hX dX13_comesBack_53 (by decide) (t := 54) rfl ?_
      obtain ⟨x37, h36, hF⟩ := bo1_e hF
      have k38 := (ctX13_of (G := G) (l := l) w31 p1 3 h36)
      refine J_callV hX [.int p1, .int 3] [.int x34] [.int x37, .int x34] k38 miX13_of mvX13_of cb10 kModel q_2237 ⟨rfl, rfl, Nat.le_of_ble_eq_true rfl, Nat.le_of_ble_eq_true rfl⟩ rfl rfl (Nat.le_of_ble_eq_true rfl) ⟨Nat.le_of_ble_eq_true rfl, Nat.le_of_ble_eq_true rfl⟩ dX13_comesBack_54 (t := 57) rfl rfl ?_
      refine J_icmp_ne (tgt := 73) hX dX13_comesBack_57 (by decide) (t := 60) rfl (fun z => ?_) (fun z => ?_)
      · replace hF := it_f hF z
        refine J_iload_n hX dX13_comesBack_73 0 rfl (t := 74) rfl ?_
        replace hF := Option.some.inj hF
        obtain ⟨hF, hF2⟩ := Prod.mk.inj hF
        subst hF
        subst hF2
        exact J_zret (b := true) hX hR hlk dX13_comesBack_74
      · replace hF := it_t hF z
        refine J_aload_n hX dX13_comesBack_60 1 rfl (t := 61) rfl ?_
        refine J_get hX cb10 kModel 13 (by decide) q_1980 rfl dX13_comesBack_61 (t := 64) rfl ?_
        refine J_iload_n hX dX13_comesBack_64 2 rfl (t := 65) rfl ?_
        obtain ⟨x40, h39, hF⟩ := bnd_e hF
        have k41 := (ctX13_sht (l := l) (G := G) (w := w31) p1 h39)
        refine J_callS hX [.int p1] [.ref (adr G 15 2)] [.int x40, .ref (adr G 15 2)] k41 miX13_sht q_2242 q_2241 ⟨rfl, rfl, Nat.le_of_ble_eq_true rfl, Nat.le_of_ble_eq_true rfl⟩ rfl rfl (Nat.le_of_ble_eq_true rfl) ⟨Nat.le_of_ble_eq_true rfl, Nat.le_of_ble_eq_true rfl⟩ dX13_comesBack_65 (t := 68) rfl rfl ?_
        refine J_bipush (v := 6) hX dX13_comesBack_68 (by decide) (t := 70) rfl ?_
        refine J_iadd hX dX13_comesBack_70 (t := 71) rfl ?_
        refine J_iconst (v := 1) hX dX13_comesBack_71 (by decide) (t := 72) rfl ?_
        obtain ⟨g42, hF⟩ := gd_e hF
        obtain ⟨w43, e44, hF⟩ := bnd_e hF
        refine J_iast hX (kInts (j := 2) (n := 390) (by decide) (by decide) rfl) g42 rfl e44 dX13_comesBack_72 (t := 73) rfl ?_
        refine J_iload_n hX dX13_comesBack_73 0 rfl (t := 74) rfl ?_
        replace hF := Option.some.inj hF
        obtain ⟨hF, hF2⟩ := Prod.mk.inj hF
        subst hF
        subst hF2
        exact J_zret (b := true) hX hR hlk dX13_comesBack_74
abbrev rmX13_cancels : Room := { frames := 3, cells := 0, slots := 0, locals := 64 }
theorem miX13_cancels : MI yX13_cancels cX13_cancels 3 (some .int) 1 := ⟨q_2271, q_152, by decide +kernel, by decide +kernel, by decide +kernel, by decide +kernel⟩
theorem mvX13_cancels : MV yX13_cancels := ⟨q_2270, q_58⟩
def FX13_cancels (w : Wd) (p1 : Int32) : Option (Int32 × Wd) :=
  bo1 (FX13_left w p1) fun x2 =>
  bnd (FX13_sht p1) fun x5 =>
  gd (inb (x5 + 6) 390) <| bnd (sW w 15 (sI (w 15) 2 ((x5 + 6).toNatClampNeg) 2)) fun w8 =>
  bo1 (FX13_refunds w8 p1 x2) fun w11 =>
  some (x2, w11)
set_option maxHeartbeats 4000000 in
set_option maxRecDepth 100000 in
theorem ctX13_cancels {G : GG} {l : Launch} (w : Wd) (p1 : Int32)  {rx : Int32} {rw : Wd} (hF : FX13_cancels w p1 = some (rx, rw)) : CT G l yX13_cancels cX13_cancels 3 (some .int) rmX13_cancels 0 0 [.ref (adr G 15 0), .int p1] w (some (.int rx)) rw := by
  refine CT.of miX13_cancels [(0, .ref (adr G 15 0)), (1, .int p1)] rfl (Nat.le_of_ble_eq_true rfl) ?_
  intro p e s m args below meth c hX hR hlk
  have hX : FX G RX13 cX13_cancels 3 p s m args c := hX
  unfold FX13_cancels at hF
  refine J_aload_n hX dX13_cancels_0 0 rfl (t := 1) rfl ?_
  refine J_iload_n hX dX13_cancels_1 1 rfl (t := 2) rfl ?_
  obtain ⟨x2, h1, hF⟩ := bo1_e hF
  have k3 := (ctX13_left (G := G) (l := l) w p1 h1)
  refine J_callV hX [.int p1] [] [.int x2] k3 miX13_left mvX13_left cb10 kModel q_2272 ⟨rfl, rfl, Nat.le_of_ble_eq_true rfl, Nat.le_of_ble_eq_true rfl⟩ rfl rfl (Nat.le_of_ble_eq_true rfl) ⟨Nat.le_of_ble_eq_true rfl, Nat.le_of_ble_eq_true rfl⟩ dX13_cancels_2 (t := 5) rfl rfl ?_
  refine J_istore_n (lc2 := [(2, .int x2), (0, .ref (adr G 15 0)), (1, .int p1)]) hX dX13_cancels_5 rfl (Nat.le_of_ble_eq_true rfl) rfl (t := 6) rfl ?_
  refine J_aload_n hX dX13_cancels_6 1 rfl (t := 7) rfl ?_
  refine J_get hX cb10 kModel 13 (by decide) q_1980 rfl dX13_cancels_7 (t := 10) rfl ?_
  refine J_iload_n hX dX13_cancels_10 2 rfl (t := 11) rfl ?_
  obtain ⟨x5, h4, hF⟩ := bnd_e hF
  have k6 := (ctX13_sht (l := l) (G := G) (w := w) p1 h4)
  refine J_callS hX [.int p1] [.ref (adr G 15 2)] [.int x5, .ref (adr G 15 2)] k6 miX13_sht q_2242 q_2241 ⟨rfl, rfl, Nat.le_of_ble_eq_true rfl, Nat.le_of_ble_eq_true rfl⟩ rfl rfl (Nat.le_of_ble_eq_true rfl) ⟨Nat.le_of_ble_eq_true rfl, Nat.le_of_ble_eq_true rfl⟩ dX13_cancels_11 (t := 14) rfl rfl ?_
  refine J_bipush (v := 6) hX dX13_cancels_14 (by decide) (t := 16) rfl ?_
  refine J_iadd hX dX13_cancels_16 (t := 17) rfl ?_
  refine J_iconst (v := 2) hX dX13_cancels_17 (by decide) (t := 18) rfl ?_
  obtain ⟨g7, hF⟩ := gd_e hF
  obtain ⟨w8, e9, hF⟩ := bnd_e hF
  refine J_iast hX (kInts (j := 2) (n := 390) (by decide) (by decide) rfl) g7 rfl e9 dX13_cancels_18 (t := 19) rfl ?_
  refine J_aload_n hX dX13_cancels_19 1 rfl (t := 20) rfl ?_
  refine J_iload_n hX dX13_cancels_20 2 rfl (t := 21) rfl ?_
  refine J_iload_n hX dX13_cancels_21 0 rfl (t := 22) rfl ?_
  obtain ⟨w11, h10, hF⟩ := bo1_e hF
  have k12 := (ctX13_refunds (G := G) (l := l) w8 p1 x2 h10)
  refine J_callV hX [.int p1, .int x2] [] [] k12 miX13_refunds mvX13_refunds cb10 kModel q_2276 ⟨rfl, rfl, Nat.le_of_ble_eq_true rfl, Nat.le_of_ble_eq_true rfl⟩ rfl rfl (Nat.le_of_ble_eq_true rfl) ⟨Nat.le_of_ble_eq_true rfl, Nat.le_of_ble_eq_true rfl⟩ dX13_cancels_22 (t := 25) rfl rfl ?_
  refine J_iload_n hX dX13_cancels_25 0 rfl (t := 26) rfl ?_
  replace hF := Option.some.inj hF
  obtain ⟨hF, hF2⟩ := Prod.mk.inj hF
  subst hF
  subst hF2
  exact J_iret hX hR hlk dX13_cancels_26
abbrev rmX13_cancelsAll : Room := { frames := 4, cells := 0, slots := 0, locals := 86 }
theorem miX13_cancelsAll : MI yX13_cancelsAll cX13_cancelsAll 3 none 1 := ⟨q_2303, q_152, by decide +kernel, by decide +kernel, by decide +kernel, by decide +kernel⟩
theorem mvX13_cancelsAll : MV yX13_cancelsAll := ⟨q_2302, q_65⟩
def FX13_cancelsAll_L2 (n : Nat) : Nat → Wd → Int32 → Int32 → Option (Wd)
  | 0 => fun _ _ _ => none
  | k + 1 => fun w l1 l2 =>
    gd (inb 2 390) <|
    if (w 15).1 2 2 ≤ l2 then
      some w
    else
      bo1 (FX13_of w l2 0) fun x3 =>
      if x3 = l1 then
        bo1 (FX13_isOpen w l2) fun x6 =>
        if x6 = true then
          bo2 (FX13_cancels w l2) fun x9 w10 =>
          bnd (sW w10 15 (sI (w10 15) 0 31 x9)) fun w12 =>
          FX13_cancelsAll_L2 n k w12 l1 (l2 + 1)
        else
          FX13_cancelsAll_L2 n k w l1 (l2 + 1)
      else
        FX13_cancelsAll_L2 n k w l1 (l2 + 1)
set_option maxHeartbeats 4000000 in
set_option maxRecDepth 100000 in
theorem LX13_cancelsAll_2 {G : GG} {l : Launch} {p : Program} {e : Env} {s : State} {m : MethodId} {args : Array Value} {below : List Frame} {meth : Method} {c : Code} (hX : FX G RX13 cX13_cancelsAll 3 p s m args c) (hR : meth.sig.returnType = none) (hlk : meth.locks = false) {rw : Wd} (n : Nat) : ∀ (k : Nat) (w : Wd) (l1 : Int32) (l2 : Int32) , FX13_cancelsAll_L2 n k w l1 l2 = some rw → J G p l e rmX13_cancelsAll s m args below meth c 3 0 0 (MQ below (QV G (none) rw) args s 0 0 (gA G)) (GH G w) 2 [(0, .ref (adr G 15 0)), (1, .int l1), (2, .int l2)] [] := by
  intro k
  induction k with
  | zero => intro w l1 l2  hF; cases hF
  | succ k ih =>
    intro w l1 l2  hF
    simp only [FX13_cancelsAll_L2] at hF
    refine J_iload_n hX dX13_cancelsAll_2 2 rfl (t := 3) rfl ?_
    refine J_aload_n hX dX13_cancelsAll_3 0 rfl (t := 4) rfl ?_
    refine J_get hX cb10 kModel 13 (by decide) q_1980 rfl dX13_cancelsAll_4 (t := 7) rfl ?_
    refine J_iconst (v := 2) hX dX13_cancelsAll_7 (by decide) (t := 8) rfl ?_
    obtain ⟨g1, hF⟩ := gd_e hF
    refine J_iald hX (kInts (j := 2) (n := 390) (by decide) (by decide) rfl) g1 rfl dX13_cancelsAll_8 (t := 9) rfl ?_
    refine J_icmp_ge (tgt := 45) hX dX13_cancelsAll_9 (by decide) (t := 12) rfl (fun z => ?_) (fun z => ?_)
    · replace hF := it_t hF z
      replace hF := Option.some.inj hF
      subst hF
      exact J_vret hX hR hlk dX13_cancelsAll_45
    · replace hF := it_f hF z
      refine J_aload_n hX dX13_cancelsAll_12 0 rfl (t := 13) rfl ?_
      refine J_iload_n hX dX13_cancelsAll_13 2 rfl (t := 14) rfl ?_
      refine J_iconst (v := 0) hX dX13_cancelsAll_14 (by decide) (t := 15) rfl ?_
      obtain ⟨x3, h2, hF⟩ := bo1_e hF
      have k4 := (ctX13_of (G := G) (l := l) w l2 0 h2)
      refine J_callV hX [.int l2, .int 0] [] [.int x3] k4 miX13_of mvX13_of cb10 kModel q_2237 ⟨rfl, rfl, Nat.le_of_ble_eq_true rfl, Nat.le_of_ble_eq_true rfl⟩ rfl rfl (Nat.le_of_ble_eq_true rfl) ⟨Nat.le_of_ble_eq_true rfl, Nat.le_of_ble_eq_true rfl⟩ dX13_cancelsAll_15 (t := 18) rfl rfl ?_
      refine J_iload_n hX dX13_cancelsAll_18 1 rfl (t := 19) rfl ?_
      refine J_icmp_ne (tgt := 39) hX dX13_cancelsAll_19 (by decide) (t := 22) rfl (fun z => ?_) (fun z => ?_)
      · replace hF := it_f hF z
        refine J_iinc (v := l2 + 1) (lc2 := [(2, .int (l2 + 1)), (0, .ref (adr G 15 0)), (1, .int l1)]) hX dX13_cancelsAll_39 2 rfl rfl (Nat.le_of_ble_eq_true rfl) rfl (t := 42) rfl ?_
        refine J_goto (tgt := 2) hX dX13_cancelsAll_42 (by decide) ?_
        refine J_sub (lc2 := [(0, .ref (adr G 15 0)), (1, .int l1), (2, .int (l2 + 1))]) [1, 2, 0] rfl ?_
        exact ih w l1 (l2 + 1) hF
      · replace hF := it_t hF z
        refine J_aload_n hX dX13_cancelsAll_22 0 rfl (t := 23) rfl ?_
        refine J_iload_n hX dX13_cancelsAll_23 2 rfl (t := 24) rfl ?_
        obtain ⟨x6, h5, hF⟩ := bo1_e hF
        have k7 := (ctX13_isOpen (G := G) (l := l) w l2 h5)
        refine J_callV hX [.int l2] [] [.int (bI x6)] k7 miX13_isOpen mvX13_isOpen cb10 kModel q_2264 ⟨rfl, rfl, Nat.le_of_ble_eq_true rfl, Nat.le_of_ble_eq_true rfl⟩ rfl rfl (Nat.le_of_ble_eq_true rfl) ⟨Nat.le_of_ble_eq_true rfl, Nat.le_of_ble_eq_true rfl⟩ dX13_cancelsAll_24 (t := 27) rfl rfl ?_
        refine J_ifZ_eq (tgt := 39) hX dX13_cancelsAll_27 (by decide) (t := 30) rfl (fun z => ?_) (fun z => ?_)
        · replace hF := ib_f hF z
          refine J_iinc (v := l2 + 1) (lc2 := [(2, .int (l2 + 1)), (0, .ref (adr G 15 0)), (1, .int l1)]) hX dX13_cancelsAll_39 2 rfl rfl (Nat.le_of_ble_eq_true rfl) rfl (t := 42) rfl ?_
          refine J_goto (tgt := 2) hX dX13_cancelsAll_42 (by decide) ?_
          refine J_sub (lc2 := [(0, .ref (adr G 15 0)), (1, .int l1), (2, .int (l2 + 1))]) [1, 2, 0] rfl ?_
          exact ih w l1 (l2 + 1) hF
        · replace hF := it_t hF z
          refine J_aload_n hX dX13_cancelsAll_30 0 rfl (t := 31) rfl ?_
          refine J_aload_n hX dX13_cancelsAll_31 0 rfl (t := 32) rfl ?_
          refine J_iload_n hX dX13_cancelsAll_32 2 rfl (t := 33) rfl ?_
          obtain ⟨x9, w10, h8, hF⟩ := bo2_e hF
          have k11 := (ctX13_cancels (G := G) (l := l) w l2 h8)
          refine J_callV hX [.int l2] [.ref (adr G 15 0)] [.int x9, .ref (adr G 15 0)] k11 miX13_cancels mvX13_cancels cb10 kModel q_2268 ⟨rfl, rfl, Nat.le_of_ble_eq_true rfl, Nat.le_of_ble_eq_true rfl⟩ rfl rfl (Nat.le_of_ble_eq_true rfl) ⟨Nat.le_of_ble_eq_true rfl, Nat.le_of_ble_eq_true rfl⟩ dX13_cancelsAll_33 (t := 36) rfl rfl ?_
          obtain ⟨w12, e13, hF⟩ := bnd_e hF
          refine J_puti hX cb10 kModel 31 (by decide) q_1998 rfl rfl e13 (fun _ _ => Nat.le_of_ble_eq_true rfl) (fun _ _ => rfl) dX13_cancelsAll_36 (t := 39) rfl ?_
          refine J_iinc (v := l2 + 1) (lc2 := [(2, .int (l2 + 1)), (0, .ref (adr G 15 0)), (1, .int l1)]) hX dX13_cancelsAll_39 2 rfl rfl (Nat.le_of_ble_eq_true rfl) rfl (t := 42) rfl ?_
          refine J_goto (tgt := 2) hX dX13_cancelsAll_42 (by decide) ?_
          refine J_sub (lc2 := [(0, .ref (adr G 15 0)), (1, .int l1), (2, .int (l2 + 1))]) [1, 2, 0] rfl ?_
          exact ih w12 l1 (l2 + 1) hF
def FX13_cancelsAll (n : Nat) (w : Wd) (p1 : Int32) : Option (Wd) :=
  FX13_cancelsAll_L2 n n w p1 0
set_option maxHeartbeats 4000000 in
set_option maxRecDepth 100000 in
theorem ctX13_cancelsAll {G : GG} {l : Launch} (w : Wd) (p1 : Int32)  (n : Nat) {rw : Wd} (hF : FX13_cancelsAll n w p1 = some rw) : CT G l yX13_cancelsAll cX13_cancelsAll 3 none rmX13_cancelsAll 0 0 [.ref (adr G 15 0), .int p1] w (none) rw := by
  refine CT.of miX13_cancelsAll [(0, .ref (adr G 15 0)), (1, .int p1)] rfl (Nat.le_of_ble_eq_true rfl) ?_
  intro p e s m args below meth c hX hR hlk
  have hX : FX G RX13 cX13_cancelsAll 3 p s m args c := hX
  unfold FX13_cancelsAll at hF
  refine J_iconst (v := 0) hX dX13_cancelsAll_0 (by decide) (t := 1) rfl ?_
  refine J_istore_n (lc2 := [(2, .int 0), (0, .ref (adr G 15 0)), (1, .int p1)]) hX dX13_cancelsAll_1 rfl (Nat.le_of_ble_eq_true rfl) rfl (t := 2) rfl ?_
  refine J_sub (lc2 := [(0, .ref (adr G 15 0)), (1, .int p1), (2, .int 0)]) [1, 2, 0] rfl ?_
  exact LX13_cancelsAll_2 hX hR hlk n n w p1 0 hF
abbrev rmX13_fakes : Room := { frames := 5, cells := 0, slots := 0, locals := 109 }
theorem miX13_fakes : MI yX13_fakes cX13_fakes 4 (some .int) 1 := ⟨q_2287, q_152, by decide +kernel, by decide +kernel, by decide +kernel, by decide +kernel⟩
theorem mvX13_fakes : MV yX13_fakes := ⟨q_2286, q_61⟩
def FX13_fakes (n : Nat) (w : Wd) (p1 : Int32) : Option (Int32 × Wd) :=
  bo1 (FX13_of w p1 0) fun x2 =>
  gd (inb 6 390) <|
  bo2 (FX13_comesBack w p1 ((w 15).1 2 6)) fun x6 w7 =>
  bnd (FX13_cst x2) fun x10 =>
  gd (inb (x10 + 2) 390) <|
  bnd (FX13_truth x6) fun x14 =>
  gd (inb (x10 + 2) 390) <| bnd (sW w7 15 (sI (w7 15) 2 ((x10 + 2).toNatClampNeg) (((w7 15).1 2 ((x10 + 2).toNatClampNeg)) + x14))) fun w17 =>
  bo1 (FX13_isAngryNow w17 x2) fun x20 =>
  if x20 = true then
    bo1 (FX13_cancelsAll n w17 x2) fun w26 =>
    bo1 (FX13_ofCustomer w26 x2 2) fun x29 =>
    some (x29, w26)
  else
    bo1 (FX13_ofCustomer w17 x2 2) fun x23 =>
    some (x23, w17)
set_option maxHeartbeats 4000000 in
set_option maxRecDepth 100000 in
theorem ctX13_fakes {G : GG} {l : Launch} (w : Wd) (p1 : Int32)  (n : Nat) {rx : Int32} {rw : Wd} (hF : FX13_fakes n w p1 = some (rx, rw)) : CT G l yX13_fakes cX13_fakes 4 (some .int) rmX13_fakes 0 0 [.ref (adr G 15 0), .int p1] w (some (.int rx)) rw := by
  refine CT.of miX13_fakes [(0, .ref (adr G 15 0)), (1, .int p1)] rfl (Nat.le_of_ble_eq_true rfl) ?_
  intro p e s m args below meth c hX hR hlk
  have hX : FX G RX13 cX13_fakes 4 p s m args c := hX
  unfold FX13_fakes at hF
  refine J_aload_n hX dX13_fakes_0 0 rfl (t := 1) rfl ?_
  refine J_iload_n hX dX13_fakes_1 1 rfl (t := 2) rfl ?_
  refine J_iconst (v := 0) hX dX13_fakes_2 (by decide) (t := 3) rfl ?_
  obtain ⟨x2, h1, hF⟩ := bo1_e hF
  have k3 := (ctX13_of (G := G) (l := l) w p1 0 h1)
  refine J_callV hX [.int p1, .int 0] [] [.int x2] k3 miX13_of mvX13_of cb10 kModel q_2237 ⟨rfl, rfl, Nat.le_of_ble_eq_true rfl, Nat.le_of_ble_eq_true rfl⟩ rfl rfl (Nat.le_of_ble_eq_true rfl) ⟨Nat.le_of_ble_eq_true rfl, Nat.le_of_ble_eq_true rfl⟩ dX13_fakes_3 (t := 6) rfl rfl ?_
  refine J_istore_n (lc2 := [(2, .int x2), (0, .ref (adr G 15 0)), (1, .int p1)]) hX dX13_fakes_6 rfl (Nat.le_of_ble_eq_true rfl) rfl (t := 7) rfl ?_
  refine J_aload_n hX dX13_fakes_7 1 rfl (t := 8) rfl ?_
  refine J_iload_n hX dX13_fakes_8 2 rfl (t := 9) rfl ?_
  refine J_aload_n hX dX13_fakes_9 1 rfl (t := 10) rfl ?_
  refine J_get hX cb10 kModel 13 (by decide) q_1980 rfl dX13_fakes_10 (t := 13) rfl ?_
  refine J_bipush (v := 6) hX dX13_fakes_13 (by decide) (t := 15) rfl ?_
  obtain ⟨g4, hF⟩ := gd_e hF
  refine J_iald hX (kInts (j := 2) (n := 390) (by decide) (by decide) rfl) g4 rfl dX13_fakes_15 (t := 16) rfl ?_
  obtain ⟨x6, w7, h5, hF⟩ := bo2_e hF
  have k8 := (ctX13_comesBack (G := G) (l := l) w p1 ((w 15).1 2 6) h5)
  refine J_callV hX [.int p1, .int ((w 15).1 2 6)] [] [.int (bI x6)] k8 miX13_comesBack mvX13_comesBack cb10 kModel q_2288 ⟨rfl, rfl, Nat.le_of_ble_eq_true rfl, Nat.le_of_ble_eq_true rfl⟩ rfl rfl (Nat.le_of_ble_eq_true rfl) ⟨Nat.le_of_ble_eq_true rfl, Nat.le_of_ble_eq_true rfl⟩ dX13_fakes_16 (t := 19) rfl rfl ?_
  refine J_istore_n (lc2 := [(3, .int (bI x6)), (2, .int x2), (0, .ref (adr G 15 0)), (1, .int p1)]) hX dX13_fakes_19 rfl (Nat.le_of_ble_eq_true rfl) rfl (t := 20) rfl ?_
  refine J_aload_n hX dX13_fakes_20 2 rfl (t := 21) rfl ?_
  refine J_get hX cb10 kModel 13 (by decide) q_1980 rfl dX13_fakes_21 (t := 24) rfl ?_
  refine J_iload_n hX dX13_fakes_24 1 rfl (t := 25) rfl ?_
  obtain ⟨x10, h9, hF⟩ := bnd_e hF
  have k11 := (ctX13_cst (l := l) (G := G) (w := w7) x2 h9)
  refine J_callS hX [.int x2] [.ref (adr G 15 2)] [.int x10, .ref (adr G 15 2)] k11 miX13_cst q_2158 q_2157 ⟨rfl, rfl, Nat.le_of_ble_eq_true rfl, Nat.le_of_ble_eq_true rfl⟩ rfl rfl (Nat.le_of_ble_eq_true rfl) ⟨Nat.le_of_ble_eq_true rfl, Nat.le_of_ble_eq_true rfl⟩ dX13_fakes_25 (t := 28) rfl rfl ?_
  refine J_iconst (v := 2) hX dX13_fakes_28 (by decide) (t := 29) rfl ?_
  refine J_iadd hX dX13_fakes_29 (t := 30) rfl ?_
  refine J_dup2 hX dX13_fakes_30 rfl rfl (t := 31) rfl ?_
  obtain ⟨g12, hF⟩ := gd_e hF
  refine J_iald hX (kInts (j := 2) (n := 390) (by decide) (by decide) rfl) g12 rfl dX13_fakes_31 (t := 32) rfl ?_
  refine J_iload_n hX dX13_fakes_32 0 rfl (t := 33) rfl ?_
  obtain ⟨x14, h13, hF⟩ := bnd_e hF
  have k15 := (ctX13_truth (l := l) (G := G) (w := w7) x6 h13)
  refine J_callS hX [.int (bI x6)] [.int ((w7 15).1 2 ((x10 + 2).toNatClampNeg)), .int (x10 + 2), .ref (adr G 15 2)] [.int x14, .int ((w7 15).1 2 ((x10 + 2).toNatClampNeg)), .int (x10 + 2), .ref (adr G 15 2)] k15 miX13_truth q_2083 q_2082 ⟨rfl, rfl, Nat.le_of_ble_eq_true rfl, Nat.le_of_ble_eq_true rfl⟩ rfl rfl (Nat.le_of_ble_eq_true rfl) ⟨Nat.le_of_ble_eq_true rfl, Nat.le_of_ble_eq_true rfl⟩ dX13_fakes_33 (t := 36) rfl rfl ?_
  refine J_iadd hX dX13_fakes_36 (t := 37) rfl ?_
  obtain ⟨g16, hF⟩ := gd_e hF
  obtain ⟨w17, e18, hF⟩ := bnd_e hF
  refine J_iast hX (kInts (j := 2) (n := 390) (by decide) (by decide) rfl) g16 rfl e18 dX13_fakes_37 (t := 38) rfl ?_
  refine J_aload_n hX dX13_fakes_38 2 rfl (t := 39) rfl ?_
  refine J_iload_n hX dX13_fakes_39 1 rfl (t := 40) rfl ?_
  obtain ⟨x20, h19, hF⟩ := bo1_e hF
  have k21 := (ctX13_isAngryNow (G := G) (l := l) w17 x2 h19)
  refine J_callV hX [.int x2] [] [.int (bI x20)] k21 miX13_isAngryNow mvX13_isAngryNow cb10 kModel q_2244 ⟨rfl, rfl, Nat.le_of_ble_eq_true rfl, Nat.le_of_ble_eq_true rfl⟩ rfl rfl (Nat.le_of_ble_eq_true rfl) ⟨Nat.le_of_ble_eq_true rfl, Nat.le_of_ble_eq_true rfl⟩ dX13_fakes_40 (t := 43) rfl rfl ?_
  refine J_ifZ_eq (tgt := 51) hX dX13_fakes_43 (by decide) (t := 46) rfl (fun z => ?_) (fun z => ?_)
  · replace hF := ib_f hF z
    refine J_aload_n hX dX13_fakes_51 2 rfl (t := 52) rfl ?_
    refine J_iload_n hX dX13_fakes_52 1 rfl (t := 53) rfl ?_
    refine J_iconst (v := 2) hX dX13_fakes_53 (by decide) (t := 54) rfl ?_
    obtain ⟨x23, h22, hF⟩ := bo1_e hF
    have k24 := (ctX13_ofCustomer (G := G) (l := l) w17 x2 2 h22)
    refine J_callV hX [.int x2, .int 2] [] [.int x23] k24 miX13_ofCustomer mvX13_ofCustomer cb10 kModel q_2229 ⟨rfl, rfl, Nat.le_of_ble_eq_true rfl, Nat.le_of_ble_eq_true rfl⟩ rfl rfl (Nat.le_of_ble_eq_true rfl) ⟨Nat.le_of_ble_eq_true rfl, Nat.le_of_ble_eq_true rfl⟩ dX13_fakes_54 (t := 57) rfl rfl ?_
    replace hF := Option.some.inj hF
    obtain ⟨hF, hF2⟩ := Prod.mk.inj hF
    subst hF
    subst hF2
    exact J_iret hX hR hlk dX13_fakes_57
  · replace hF := it_t hF z
    refine J_aload_n hX dX13_fakes_46 2 rfl (t := 47) rfl ?_
    refine J_iload_n hX dX13_fakes_47 1 rfl (t := 48) rfl ?_
    obtain ⟨w26, h25, hF⟩ := bo1_e hF
    have k27 := (ctX13_cancelsAll (G := G) (l := l) w17 x2 n h25)
    refine J_callV hX [.int x2] [] [] k27 miX13_cancelsAll mvX13_cancelsAll cb10 kModel q_2300 ⟨rfl, rfl, Nat.le_of_ble_eq_true rfl, Nat.le_of_ble_eq_true rfl⟩ rfl rfl (Nat.le_of_ble_eq_true rfl) ⟨Nat.le_of_ble_eq_true rfl, Nat.le_of_ble_eq_true rfl⟩ dX13_fakes_48 (t := 51) rfl rfl ?_
    refine J_aload_n hX dX13_fakes_51 2 rfl (t := 52) rfl ?_
    refine J_iload_n hX dX13_fakes_52 1 rfl (t := 53) rfl ?_
    refine J_iconst (v := 2) hX dX13_fakes_53 (by decide) (t := 54) rfl ?_
    obtain ⟨x29, h28, hF⟩ := bo1_e hF
    have k30 := (ctX13_ofCustomer (G := G) (l := l) w26 x2 2 h28)
    refine J_callV hX [.int x2, .int 2] [] [.int x29] k30 miX13_ofCustomer mvX13_ofCustomer cb10 kModel q_2229 ⟨rfl, rfl, Nat.le_of_ble_eq_true rfl, Nat.le_of_ble_eq_true rfl⟩ rfl rfl (Nat.le_of_ble_eq_true rfl) ⟨Nat.le_of_ble_eq_true rfl, Nat.le_of_ble_eq_true rfl⟩ dX13_fakes_54 (t := 57) rfl rfl ?_
    replace hF := Option.some.inj hF
    obtain ⟨hF, hF2⟩ := Prod.mk.inj hF
    subst hF
    subst hF2
    exact J_iret hX hR hlk dX13_fakes_57
abbrev rmX13_returnsAt : Room := { frames := 2, cells := 0, slots := 0, locals := 42 }
theorem miX13_returnsAt : MI yX13_returnsAt cX13_returnsAt 2 (some .int) 1 := ⟨q_2350, q_152, by decide +kernel, by decide +kernel, by decide +kernel, by decide +kernel⟩
theorem mvX13_returnsAt : MV yX13_returnsAt := ⟨q_2349, q_71⟩
def FX13_returnsAt (w : Wd) (p1 : Int32) : Option (Int32) :=
  bo1 (FX13_of w p1 5) fun x2 =>
  bo1 (FX13_of w p1 1) fun x5 =>
  bo1 (FX13_ofValley w x5 0) fun x8 =>
  bo1 (FX13_of w p1 7) fun x11 =>
  some (x2 + (x8 * (x11 + 1)))
set_option maxHeartbeats 4000000 in
set_option maxRecDepth 100000 in
theorem ctX13_returnsAt {G : GG} {l : Launch} (w : Wd) (p1 : Int32)  {rx : Int32} (hF : FX13_returnsAt w p1 = some rx) : CT G l yX13_returnsAt cX13_returnsAt 2 (some .int) rmX13_returnsAt 0 0 [.ref (adr G 15 0), .int p1] w (some (.int rx)) w := by
  refine CT.of miX13_returnsAt [(0, .ref (adr G 15 0)), (1, .int p1)] rfl (Nat.le_of_ble_eq_true rfl) ?_
  intro p e s m args below meth c hX hR hlk
  have hX : FX G RX13 cX13_returnsAt 2 p s m args c := hX
  unfold FX13_returnsAt at hF
  refine J_aload_n hX dX13_returnsAt_0 0 rfl (t := 1) rfl ?_
  refine J_iload_n hX dX13_returnsAt_1 1 rfl (t := 2) rfl ?_
  refine J_iconst (v := 5) hX dX13_returnsAt_2 (by decide) (t := 3) rfl ?_
  obtain ⟨x2, h1, hF⟩ := bo1_e hF
  have k3 := (ctX13_of (G := G) (l := l) w p1 5 h1)
  refine J_callV hX [.int p1, .int 5] [] [.int x2] k3 miX13_of mvX13_of cb10 kModel q_2237 ⟨rfl, rfl, Nat.le_of_ble_eq_true rfl, Nat.le_of_ble_eq_true rfl⟩ rfl rfl (Nat.le_of_ble_eq_true rfl) ⟨Nat.le_of_ble_eq_true rfl, Nat.le_of_ble_eq_true rfl⟩ dX13_returnsAt_3 (t := 6) rfl rfl ?_
  refine J_aload_n hX dX13_returnsAt_6 0 rfl (t := 7) rfl ?_
  refine J_aload_n hX dX13_returnsAt_7 0 rfl (t := 8) rfl ?_
  refine J_iload_n hX dX13_returnsAt_8 1 rfl (t := 9) rfl ?_
  refine J_iconst (v := 1) hX dX13_returnsAt_9 (by decide) (t := 10) rfl ?_
  obtain ⟨x5, h4, hF⟩ := bo1_e hF
  have k6 := (ctX13_of (G := G) (l := l) w p1 1 h4)
  refine J_callV hX [.int p1, .int 1] [.ref (adr G 15 0), .int x2] [.int x5, .ref (adr G 15 0), .int x2] k6 miX13_of mvX13_of cb10 kModel q_2237 ⟨rfl, rfl, Nat.le_of_ble_eq_true rfl, Nat.le_of_ble_eq_true rfl⟩ rfl rfl (Nat.le_of_ble_eq_true rfl) ⟨Nat.le_of_ble_eq_true rfl, Nat.le_of_ble_eq_true rfl⟩ dX13_returnsAt_10 (t := 13) rfl rfl ?_
  refine J_iconst (v := 0) hX dX13_returnsAt_13 (by decide) (t := 14) rfl ?_
  obtain ⟨x8, h7, hF⟩ := bo1_e hF
  have k9 := (ctX13_ofValley (G := G) (l := l) w x5 0 h7)
  refine J_callV hX [.int x5, .int 0] [.int x2] [.int x8, .int x2] k9 miX13_ofValley mvX13_ofValley cb10 kModel q_2225 ⟨rfl, rfl, Nat.le_of_ble_eq_true rfl, Nat.le_of_ble_eq_true rfl⟩ rfl rfl (Nat.le_of_ble_eq_true rfl) ⟨Nat.le_of_ble_eq_true rfl, Nat.le_of_ble_eq_true rfl⟩ dX13_returnsAt_14 (t := 17) rfl rfl ?_
  refine J_aload_n hX dX13_returnsAt_17 0 rfl (t := 18) rfl ?_
  refine J_iload_n hX dX13_returnsAt_18 1 rfl (t := 19) rfl ?_
  refine J_bipush (v := 7) hX dX13_returnsAt_19 (by decide) (t := 21) rfl ?_
  obtain ⟨x11, h10, hF⟩ := bo1_e hF
  have k12 := (ctX13_of (G := G) (l := l) w p1 7 h10)
  refine J_callV hX [.int p1, .int 7] [.int x8, .int x2] [.int x11, .int x8, .int x2] k12 miX13_of mvX13_of cb10 kModel q_2237 ⟨rfl, rfl, Nat.le_of_ble_eq_true rfl, Nat.le_of_ble_eq_true rfl⟩ rfl rfl (Nat.le_of_ble_eq_true rfl) ⟨Nat.le_of_ble_eq_true rfl, Nat.le_of_ble_eq_true rfl⟩ dX13_returnsAt_21 (t := 24) rfl rfl ?_
  refine J_iconst (v := 1) hX dX13_returnsAt_24 (by decide) (t := 25) rfl ?_
  refine J_iadd hX dX13_returnsAt_25 (t := 26) rfl ?_
  refine J_imul hX dX13_returnsAt_26 (t := 27) rfl ?_
  refine J_iadd hX dX13_returnsAt_27 (t := 28) rfl ?_
  replace hF := Option.some.inj hF
  subst hF
  exact J_iret hX hR hlk dX13_returnsAt_28
abbrev rmX13_endsAt : Room := { frames := 2, cells := 0, slots := 0, locals := 42 }
theorem miX13_endsAt : MI yX13_endsAt cX13_endsAt 2 (some .int) 1 := ⟨q_2362, q_152, by decide +kernel, by decide +kernel, by decide +kernel, by decide +kernel⟩
theorem mvX13_endsAt : MV yX13_endsAt := ⟨q_2361, q_74⟩
def FX13_endsAt (w : Wd) (p1 : Int32) : Option (Int32) :=
  bo1 (FX13_of w p1 5) fun x2 =>
  bo1 (FX13_of w p1 0) fun x5 =>
  bo1 (FX13_ofCustomer w x5 0) fun x8 =>
  some (x2 + x8)
set_option maxHeartbeats 4000000 in
set_option maxRecDepth 100000 in
theorem ctX13_endsAt {G : GG} {l : Launch} (w : Wd) (p1 : Int32)  {rx : Int32} (hF : FX13_endsAt w p1 = some rx) : CT G l yX13_endsAt cX13_endsAt 2 (some .int) rmX13_endsAt 0 0 [.ref (adr G 15 0), .int p1] w (some (.int rx)) w := by
  refine CT.of miX13_endsAt [(0, .ref (adr G 15 0)), (1, .int p1)] rfl (Nat.le_of_ble_eq_true rfl) ?_
  intro p e s m args below meth c hX hR hlk
  have hX : FX G RX13 cX13_endsAt 2 p s m args c := hX
  unfold FX13_endsAt at hF
  refine J_aload_n hX dX13_endsAt_0 0 rfl (t := 1) rfl ?_
  refine J_iload_n hX dX13_endsAt_1 1 rfl (t := 2) rfl ?_
  refine J_iconst (v := 5) hX dX13_endsAt_2 (by decide) (t := 3) rfl ?_
  obtain ⟨x2, h1, hF⟩ := bo1_e hF
  have k3 := (ctX13_of (G := G) (l := l) w p1 5 h1)
  refine J_callV hX [.int p1, .int 5] [] [.int x2] k3 miX13_of mvX13_of cb10 kModel q_2237 ⟨rfl, rfl, Nat.le_of_ble_eq_true rfl, Nat.le_of_ble_eq_true rfl⟩ rfl rfl (Nat.le_of_ble_eq_true rfl) ⟨Nat.le_of_ble_eq_true rfl, Nat.le_of_ble_eq_true rfl⟩ dX13_endsAt_3 (t := 6) rfl rfl ?_
  refine J_aload_n hX dX13_endsAt_6 0 rfl (t := 7) rfl ?_
  refine J_aload_n hX dX13_endsAt_7 0 rfl (t := 8) rfl ?_
  refine J_iload_n hX dX13_endsAt_8 1 rfl (t := 9) rfl ?_
  refine J_iconst (v := 0) hX dX13_endsAt_9 (by decide) (t := 10) rfl ?_
  obtain ⟨x5, h4, hF⟩ := bo1_e hF
  have k6 := (ctX13_of (G := G) (l := l) w p1 0 h4)
  refine J_callV hX [.int p1, .int 0] [.ref (adr G 15 0), .int x2] [.int x5, .ref (adr G 15 0), .int x2] k6 miX13_of mvX13_of cb10 kModel q_2237 ⟨rfl, rfl, Nat.le_of_ble_eq_true rfl, Nat.le_of_ble_eq_true rfl⟩ rfl rfl (Nat.le_of_ble_eq_true rfl) ⟨Nat.le_of_ble_eq_true rfl, Nat.le_of_ble_eq_true rfl⟩ dX13_endsAt_10 (t := 13) rfl rfl ?_
  refine J_iconst (v := 0) hX dX13_endsAt_13 (by decide) (t := 14) rfl ?_
  obtain ⟨x8, h7, hF⟩ := bo1_e hF
  have k9 := (ctX13_ofCustomer (G := G) (l := l) w x5 0 h7)
  refine J_callV hX [.int x5, .int 0] [.int x2] [.int x8, .int x2] k9 miX13_ofCustomer mvX13_ofCustomer cb10 kModel q_2229 ⟨rfl, rfl, Nat.le_of_ble_eq_true rfl, Nat.le_of_ble_eq_true rfl⟩ rfl rfl (Nat.le_of_ble_eq_true rfl) ⟨Nat.le_of_ble_eq_true rfl, Nat.le_of_ble_eq_true rfl⟩ dX13_endsAt_14 (t := 17) rfl rfl ?_
  refine J_iadd hX dX13_endsAt_17 (t := 18) rfl ?_
  replace hF := Option.some.inj hF
  subst hF
  exact J_iret hX hR hlk dX13_endsAt_18
abbrev rmX13_loudnessOf : Room := { frames := 2, cells := 0, slots := 0, locals := 42 }
theorem miX13_loudnessOf : MI yX13_loudnessOf cX13_loudnessOf 2 (some .int) 1 := ⟨q_2354, q_152, by decide +kernel, by decide +kernel, by decide +kernel, by decide +kernel⟩
theorem mvX13_loudnessOf : MV yX13_loudnessOf := ⟨q_2353, q_72⟩
def FX13_loudnessOf (w : Wd) (p1 : Int32) : Option (Int32) :=
  bo1 (FX13_of w p1 2) fun x2 =>
  bo1 (FX13_of w p1 7) fun x5 =>
  bo1 (FX13_of w p1 1) fun x8 =>
  bo1 (FX13_ofValley w x8 3) fun x11 =>
  some ((x2 - (2 * (x5 + 1))) - x11)
set_option maxHeartbeats 4000000 in
set_option maxRecDepth 100000 in
theorem ctX13_loudnessOf {G : GG} {l : Launch} (w : Wd) (p1 : Int32)  {rx : Int32} (hF : FX13_loudnessOf w p1 = some rx) : CT G l yX13_loudnessOf cX13_loudnessOf 2 (some .int) rmX13_loudnessOf 0 0 [.ref (adr G 15 0), .int p1] w (some (.int rx)) w := by
  refine CT.of miX13_loudnessOf [(0, .ref (adr G 15 0)), (1, .int p1)] rfl (Nat.le_of_ble_eq_true rfl) ?_
  intro p e s m args below meth c hX hR hlk
  have hX : FX G RX13 cX13_loudnessOf 2 p s m args c := hX
  unfold FX13_loudnessOf at hF
  refine J_aload_n hX dX13_loudnessOf_0 0 rfl (t := 1) rfl ?_
  refine J_iload_n hX dX13_loudnessOf_1 1 rfl (t := 2) rfl ?_
  refine J_iconst (v := 2) hX dX13_loudnessOf_2 (by decide) (t := 3) rfl ?_
  obtain ⟨x2, h1, hF⟩ := bo1_e hF
  have k3 := (ctX13_of (G := G) (l := l) w p1 2 h1)
  refine J_callV hX [.int p1, .int 2] [] [.int x2] k3 miX13_of mvX13_of cb10 kModel q_2237 ⟨rfl, rfl, Nat.le_of_ble_eq_true rfl, Nat.le_of_ble_eq_true rfl⟩ rfl rfl (Nat.le_of_ble_eq_true rfl) ⟨Nat.le_of_ble_eq_true rfl, Nat.le_of_ble_eq_true rfl⟩ dX13_loudnessOf_3 (t := 6) rfl rfl ?_
  refine J_iconst (v := 2) hX dX13_loudnessOf_6 (by decide) (t := 7) rfl ?_
  refine J_aload_n hX dX13_loudnessOf_7 0 rfl (t := 8) rfl ?_
  refine J_iload_n hX dX13_loudnessOf_8 1 rfl (t := 9) rfl ?_
  refine J_bipush (v := 7) hX dX13_loudnessOf_9 (by decide) (t := 11) rfl ?_
  obtain ⟨x5, h4, hF⟩ := bo1_e hF
  have k6 := (ctX13_of (G := G) (l := l) w p1 7 h4)
  refine J_callV hX [.int p1, .int 7] [.int 2, .int x2] [.int x5, .int 2, .int x2] k6 miX13_of mvX13_of cb10 kModel q_2237 ⟨rfl, rfl, Nat.le_of_ble_eq_true rfl, Nat.le_of_ble_eq_true rfl⟩ rfl rfl (Nat.le_of_ble_eq_true rfl) ⟨Nat.le_of_ble_eq_true rfl, Nat.le_of_ble_eq_true rfl⟩ dX13_loudnessOf_11 (t := 14) rfl rfl ?_
  refine J_iconst (v := 1) hX dX13_loudnessOf_14 (by decide) (t := 15) rfl ?_
  refine J_iadd hX dX13_loudnessOf_15 (t := 16) rfl ?_
  refine J_imul hX dX13_loudnessOf_16 (t := 17) rfl ?_
  refine J_isub hX dX13_loudnessOf_17 (t := 18) rfl ?_
  refine J_aload_n hX dX13_loudnessOf_18 0 rfl (t := 19) rfl ?_
  refine J_aload_n hX dX13_loudnessOf_19 0 rfl (t := 20) rfl ?_
  refine J_iload_n hX dX13_loudnessOf_20 1 rfl (t := 21) rfl ?_
  refine J_iconst (v := 1) hX dX13_loudnessOf_21 (by decide) (t := 22) rfl ?_
  obtain ⟨x8, h7, hF⟩ := bo1_e hF
  have k9 := (ctX13_of (G := G) (l := l) w p1 1 h7)
  refine J_callV hX [.int p1, .int 1] [.ref (adr G 15 0), .int (x2 - (2 * (x5 + 1)))] [.int x8, .ref (adr G 15 0), .int (x2 - (2 * (x5 + 1)))] k9 miX13_of mvX13_of cb10 kModel q_2237 ⟨rfl, rfl, Nat.le_of_ble_eq_true rfl, Nat.le_of_ble_eq_true rfl⟩ rfl rfl (Nat.le_of_ble_eq_true rfl) ⟨Nat.le_of_ble_eq_true rfl, Nat.le_of_ble_eq_true rfl⟩ dX13_loudnessOf_22 (t := 25) rfl rfl ?_
  refine J_iconst (v := 3) hX dX13_loudnessOf_25 (by decide) (t := 26) rfl ?_
  obtain ⟨x11, h10, hF⟩ := bo1_e hF
  have k12 := (ctX13_ofValley (G := G) (l := l) w x8 3 h10)
  refine J_callV hX [.int x8, .int 3] [.int (x2 - (2 * (x5 + 1)))] [.int x11, .int (x2 - (2 * (x5 + 1)))] k12 miX13_ofValley mvX13_ofValley cb10 kModel q_2225 ⟨rfl, rfl, Nat.le_of_ble_eq_true rfl, Nat.le_of_ble_eq_true rfl⟩ rfl rfl (Nat.le_of_ble_eq_true rfl) ⟨Nat.le_of_ble_eq_true rfl, Nat.le_of_ble_eq_true rfl⟩ dX13_loudnessOf_26 (t := 29) rfl rfl ?_
  refine J_isub hX dX13_loudnessOf_29 (t := 30) rfl ?_
  replace hF := Option.some.inj hF
  subst hF
  exact J_iret hX hR hlk dX13_loudnessOf_30
abbrev rmX13_returnsNow : Room := { frames := 5, cells := 0, slots := 0, locals := 109 }
theorem miX13_returnsNow : MI yX13_returnsNow cX13_returnsNow 3 (some .int) 0 := ⟨q_2346, q_152, by decide +kernel, by decide +kernel, by decide +kernel, by decide +kernel⟩
theorem mvX13_returnsNow : MV yX13_returnsNow := ⟨q_2345, q_70⟩
def FX13_returnsNow_L4 (n : Nat) : Nat → Wd → Int32 → Int32 → Option (Int32 × Wd)
  | 0 => fun _ _ _ => none
  | k + 1 => fun w l1 l2 =>
    gd (inb 2 390) <|
    if (w 15).1 2 2 ≤ l2 then
      some (l1, w)
    else
      bo1 (FX13_isOpen w l2) fun x3 =>
      if x3 = true then
        bo1 (FX13_returnsAt w l2) fun x6 =>
        gd (inb 3 390) <|
        if x6 = (w 15).1 2 3 then
          bo1 (FX13_loudnessOf w l2) fun x10 =>
          bo2 (FX13_comesBack w l2 x10) fun x13 w14 =>
          bnd (sW w14 15 (sI (w14 15) 0 20 (bI x13))) fun w16 =>
          FX13_returnsNow_L4 n k w16 (l1 + 1) (l2 + 1)
        else
          FX13_returnsNow_L4 n k w l1 (l2 + 1)
      else
        FX13_returnsNow_L4 n k w l1 (l2 + 1)
set_option maxHeartbeats 4000000 in
set_option maxRecDepth 100000 in
theorem LX13_returnsNow_4 {G : GG} {l : Launch} {p : Program} {e : Env} {s : State} {m : MethodId} {args : Array Value} {below : List Frame} {meth : Method} {c : Code} (hX : FX G RX13 cX13_returnsNow 3 p s m args c) (hR : meth.sig.returnType = (some .int)) (hlk : meth.locks = false) {rx : Int32} {rw : Wd} (n : Nat) : ∀ (k : Nat) (w : Wd) (l1 : Int32) (l2 : Int32) , FX13_returnsNow_L4 n k w l1 l2 = some (rx, rw) → J G p l e rmX13_returnsNow s m args below meth c 3 0 0 (MQ below (QV G (some (.int rx)) rw) args s 0 0 (gA G)) (GH G w) 4 [(0, .ref (adr G 15 0)), (1, .int l1), (2, .int l2)] [] := by
  intro k
  induction k with
  | zero => intro w l1 l2  hF; cases hF
  | succ k ih =>
    intro w l1 l2  hF
    simp only [FX13_returnsNow_L4] at hF
    refine J_iload_n hX dX13_returnsNow_4 2 rfl (t := 5) rfl ?_
    refine J_aload_n hX dX13_returnsNow_5 0 rfl (t := 6) rfl ?_
    refine J_get hX cb10 kModel 13 (by decide) q_1980 rfl dX13_returnsNow_6 (t := 9) rfl ?_
    refine J_iconst (v := 2) hX dX13_returnsNow_9 (by decide) (t := 10) rfl ?_
    obtain ⟨g1, hF⟩ := gd_e hF
    refine J_iald hX (kInts (j := 2) (n := 390) (by decide) (by decide) rfl) g1 rfl dX13_returnsNow_10 (t := 11) rfl ?_
    refine J_icmp_ge (tgt := 62) hX dX13_returnsNow_11 (by decide) (t := 14) rfl (fun z => ?_) (fun z => ?_)
    · replace hF := it_t hF z
      refine J_iload_n hX dX13_returnsNow_62 1 rfl (t := 63) rfl ?_
      replace hF := Option.some.inj hF
      obtain ⟨hF, hF2⟩ := Prod.mk.inj hF
      subst hF
      subst hF2
      exact J_iret hX hR hlk dX13_returnsNow_63
    · replace hF := it_f hF z
      refine J_aload_n hX dX13_returnsNow_14 0 rfl (t := 15) rfl ?_
      refine J_iload_n hX dX13_returnsNow_15 2 rfl (t := 16) rfl ?_
      obtain ⟨x3, h2, hF⟩ := bo1_e hF
      have k4 := (ctX13_isOpen (G := G) (l := l) w l2 h2)
      refine J_callV hX [.int l2] [] [.int (bI x3)] k4 miX13_isOpen mvX13_isOpen cb10 kModel q_2264 ⟨rfl, rfl, Nat.le_of_ble_eq_true rfl, Nat.le_of_ble_eq_true rfl⟩ rfl rfl (Nat.le_of_ble_eq_true rfl) ⟨Nat.le_of_ble_eq_true rfl, Nat.le_of_ble_eq_true rfl⟩ dX13_returnsNow_16 (t := 19) rfl rfl ?_
      refine J_ifZ_eq (tgt := 56) hX dX13_returnsNow_19 (by decide) (t := 22) rfl (fun z => ?_) (fun z => ?_)
      · replace hF := ib_f hF z
        refine J_iinc (v := l2 + 1) (lc2 := [(2, .int (l2 + 1)), (0, .ref (adr G 15 0)), (1, .int l1)]) hX dX13_returnsNow_56 2 rfl rfl (Nat.le_of_ble_eq_true rfl) rfl (t := 59) rfl ?_
        refine J_goto (tgt := 4) hX dX13_returnsNow_59 (by decide) ?_
        refine J_sub (lc2 := [(0, .ref (adr G 15 0)), (1, .int l1), (2, .int (l2 + 1))]) [1, 2, 0] rfl ?_
        exact ih w l1 (l2 + 1) hF
      · replace hF := it_t hF z
        refine J_aload_n hX dX13_returnsNow_22 0 rfl (t := 23) rfl ?_
        refine J_iload_n hX dX13_returnsNow_23 2 rfl (t := 24) rfl ?_
        obtain ⟨x6, h5, hF⟩ := bo1_e hF
        have k7 := (ctX13_returnsAt (G := G) (l := l) w l2 h5)
        refine J_callV hX [.int l2] [] [.int x6] k7 miX13_returnsAt mvX13_returnsAt cb10 kModel q_2347 ⟨rfl, rfl, Nat.le_of_ble_eq_true rfl, Nat.le_of_ble_eq_true rfl⟩ rfl rfl (Nat.le_of_ble_eq_true rfl) ⟨Nat.le_of_ble_eq_true rfl, Nat.le_of_ble_eq_true rfl⟩ dX13_returnsNow_24 (t := 27) rfl rfl ?_
        refine J_aload_n hX dX13_returnsNow_27 0 rfl (t := 28) rfl ?_
        refine J_get hX cb10 kModel 13 (by decide) q_1980 rfl dX13_returnsNow_28 (t := 31) rfl ?_
        refine J_iconst (v := 3) hX dX13_returnsNow_31 (by decide) (t := 32) rfl ?_
        obtain ⟨g8, hF⟩ := gd_e hF
        refine J_iald hX (kInts (j := 2) (n := 390) (by decide) (by decide) rfl) g8 rfl dX13_returnsNow_32 (t := 33) rfl ?_
        refine J_icmp_eq (tgt := 39) hX dX13_returnsNow_33 (by decide) (t := 36) rfl (fun z => ?_) (fun z => ?_)
        · replace hF := it_t hF z
          refine J_aload_n hX dX13_returnsNow_39 0 rfl (t := 40) rfl ?_
          refine J_aload_n hX dX13_returnsNow_40 0 rfl (t := 41) rfl ?_
          refine J_iload_n hX dX13_returnsNow_41 2 rfl (t := 42) rfl ?_
          refine J_aload_n hX dX13_returnsNow_42 0 rfl (t := 43) rfl ?_
          refine J_iload_n hX dX13_returnsNow_43 2 rfl (t := 44) rfl ?_
          obtain ⟨x10, h9, hF⟩ := bo1_e hF
          have k11 := (ctX13_loudnessOf (G := G) (l := l) w l2 h9)
          refine J_callV hX [.int l2] [.int l2, .ref (adr G 15 0), .ref (adr G 15 0)] [.int x10, .int l2, .ref (adr G 15 0), .ref (adr G 15 0)] k11 miX13_loudnessOf mvX13_loudnessOf cb10 kModel q_2351 ⟨rfl, rfl, Nat.le_of_ble_eq_true rfl, Nat.le_of_ble_eq_true rfl⟩ rfl rfl (Nat.le_of_ble_eq_true rfl) ⟨Nat.le_of_ble_eq_true rfl, Nat.le_of_ble_eq_true rfl⟩ dX13_returnsNow_44 (t := 47) rfl rfl ?_
          obtain ⟨x13, w14, h12, hF⟩ := bo2_e hF
          have k15 := (ctX13_comesBack (G := G) (l := l) w l2 x10 h12)
          refine J_callV hX [.int l2, .int x10] [.ref (adr G 15 0)] [.int (bI x13), .ref (adr G 15 0)] k15 miX13_comesBack mvX13_comesBack cb10 kModel q_2288 ⟨rfl, rfl, Nat.le_of_ble_eq_true rfl, Nat.le_of_ble_eq_true rfl⟩ rfl rfl (Nat.le_of_ble_eq_true rfl) ⟨Nat.le_of_ble_eq_true rfl, Nat.le_of_ble_eq_true rfl⟩ dX13_returnsNow_47 (t := 50) rfl rfl ?_
          obtain ⟨w16, e17, hF⟩ := bnd_e hF
          refine J_putz (b := x13) hX cb10 kModel 20 (by decide) q_1987 rfl rfl e17 (fun _ _ => Nat.le_of_ble_eq_true rfl) (fun _ _ => rfl) dX13_returnsNow_50 (t := 53) rfl ?_
          refine J_iinc (v := l1 + 1) (lc2 := [(1, .int (l1 + 1)), (0, .ref (adr G 15 0)), (2, .int l2)]) hX dX13_returnsNow_53 1 rfl rfl (Nat.le_of_ble_eq_true rfl) rfl (t := 56) rfl ?_
          refine J_iinc (v := l2 + 1) (lc2 := [(2, .int (l2 + 1)), (1, .int (l1 + 1)), (0, .ref (adr G 15 0))]) hX dX13_returnsNow_56 2 rfl rfl (Nat.le_of_ble_eq_true rfl) rfl (t := 59) rfl ?_
          refine J_goto (tgt := 4) hX dX13_returnsNow_59 (by decide) ?_
          refine J_sub (lc2 := [(0, .ref (adr G 15 0)), (1, .int (l1 + 1)), (2, .int (l2 + 1))]) [2, 1, 0] rfl ?_
          exact ih w16 (l1 + 1) (l2 + 1) hF
        · replace hF := it_f hF z
          refine J_goto (tgt := 56) hX dX13_returnsNow_36 (by decide) ?_
          refine J_iinc (v := l2 + 1) (lc2 := [(2, .int (l2 + 1)), (0, .ref (adr G 15 0)), (1, .int l1)]) hX dX13_returnsNow_56 2 rfl rfl (Nat.le_of_ble_eq_true rfl) rfl (t := 59) rfl ?_
          refine J_goto (tgt := 4) hX dX13_returnsNow_59 (by decide) ?_
          refine J_sub (lc2 := [(0, .ref (adr G 15 0)), (1, .int l1), (2, .int (l2 + 1))]) [1, 2, 0] rfl ?_
          exact ih w l1 (l2 + 1) hF
def FX13_returnsNow (n : Nat) (w : Wd)  : Option (Int32 × Wd) :=
  FX13_returnsNow_L4 n n w 0 0
set_option maxHeartbeats 4000000 in
set_option maxRecDepth 100000 in
theorem ctX13_returnsNow {G : GG} {l : Launch} (w : Wd)   (n : Nat) {rx : Int32} {rw : Wd} (hF : FX13_returnsNow n w  = some (rx, rw)) : CT G l yX13_returnsNow cX13_returnsNow 3 (some .int) rmX13_returnsNow 0 0 [.ref (adr G 15 0)] w (some (.int rx)) rw := by
  refine CT.of miX13_returnsNow [(0, .ref (adr G 15 0))] rfl (Nat.le_of_ble_eq_true rfl) ?_
  intro p e s m args below meth c hX hR hlk
  have hX : FX G RX13 cX13_returnsNow 3 p s m args c := hX
  unfold FX13_returnsNow at hF
  refine J_iconst (v := 0) hX dX13_returnsNow_0 (by decide) (t := 1) rfl ?_
  refine J_istore_n (lc2 := [(1, .int 0), (0, .ref (adr G 15 0))]) hX dX13_returnsNow_1 rfl (Nat.le_of_ble_eq_true rfl) rfl (t := 2) rfl ?_
  refine J_iconst (v := 0) hX dX13_returnsNow_2 (by decide) (t := 3) rfl ?_
  refine J_istore_n (lc2 := [(2, .int 0), (1, .int 0), (0, .ref (adr G 15 0))]) hX dX13_returnsNow_3 rfl (Nat.le_of_ble_eq_true rfl) rfl (t := 4) rfl ?_
  refine J_sub (lc2 := [(0, .ref (adr G 15 0)), (1, .int 0), (2, .int 0)]) [2, 1, 0] rfl ?_
  exact LX13_returnsNow_4 hX hR hlk n n w 0 0 hF
abbrev rmX13_losesPatience : Room := { frames := 4, cells := 0, slots := 0, locals := 86 }
theorem miX13_losesPatience : MI yX13_losesPatience cX13_losesPatience 2 none 0 := ⟨q_2358, q_152, by decide +kernel, by decide +kernel, by decide +kernel, by decide +kernel⟩
theorem mvX13_losesPatience : MV yX13_losesPatience := ⟨q_2357, q_73⟩
def FX13_losesPatience_L2 (n : Nat) : Nat → Wd → Int32 → Option (Wd)
  | 0 => fun _ _ => none
  | k + 1 => fun w l1 =>
    gd (inb 2 390) <|
    if (w 15).1 2 2 ≤ l1 then
      some w
    else
      bo1 (FX13_isOpen w l1) fun x3 =>
      if x3 = true then
        bo1 (FX13_endsAt w l1) fun x6 =>
        gd (inb 3 390) <|
        if x6 = (w 15).1 2 3 then
          bo2 (FX13_cancels w l1) fun x10 w11 =>
          bnd (sW w11 15 (sI (w11 15) 0 31 x10)) fun w13 =>
          FX13_losesPatience_L2 n k w13 (l1 + 1)
        else
          FX13_losesPatience_L2 n k w (l1 + 1)
      else
        FX13_losesPatience_L2 n k w (l1 + 1)
set_option maxHeartbeats 4000000 in
set_option maxRecDepth 100000 in
theorem LX13_losesPatience_2 {G : GG} {l : Launch} {p : Program} {e : Env} {s : State} {m : MethodId} {args : Array Value} {below : List Frame} {meth : Method} {c : Code} (hX : FX G RX13 cX13_losesPatience 2 p s m args c) (hR : meth.sig.returnType = none) (hlk : meth.locks = false) {rw : Wd} (n : Nat) : ∀ (k : Nat) (w : Wd) (l1 : Int32) , FX13_losesPatience_L2 n k w l1 = some rw → J G p l e rmX13_losesPatience s m args below meth c 2 0 0 (MQ below (QV G (none) rw) args s 0 0 (gA G)) (GH G w) 2 [(0, .ref (adr G 15 0)), (1, .int l1)] [] := by
  intro k
  induction k with
  | zero => intro w l1  hF; cases hF
  | succ k ih =>
    intro w l1  hF
    simp only [FX13_losesPatience_L2] at hF
    refine J_iload_n hX dX13_losesPatience_2 1 rfl (t := 3) rfl ?_
    refine J_aload_n hX dX13_losesPatience_3 0 rfl (t := 4) rfl ?_
    refine J_get hX cb10 kModel 13 (by decide) q_1980 rfl dX13_losesPatience_4 (t := 7) rfl ?_
    refine J_iconst (v := 2) hX dX13_losesPatience_7 (by decide) (t := 8) rfl ?_
    obtain ⟨g1, hF⟩ := gd_e hF
    refine J_iald hX (kInts (j := 2) (n := 390) (by decide) (by decide) rfl) g1 rfl dX13_losesPatience_8 (t := 9) rfl ?_
    refine J_icmp_ge (tgt := 49) hX dX13_losesPatience_9 (by decide) (t := 12) rfl (fun z => ?_) (fun z => ?_)
    · replace hF := it_t hF z
      replace hF := Option.some.inj hF
      subst hF
      exact J_vret hX hR hlk dX13_losesPatience_49
    · replace hF := it_f hF z
      refine J_aload_n hX dX13_losesPatience_12 0 rfl (t := 13) rfl ?_
      refine J_iload_n hX dX13_losesPatience_13 1 rfl (t := 14) rfl ?_
      obtain ⟨x3, h2, hF⟩ := bo1_e hF
      have k4 := (ctX13_isOpen (G := G) (l := l) w l1 h2)
      refine J_callV hX [.int l1] [] [.int (bI x3)] k4 miX13_isOpen mvX13_isOpen cb10 kModel q_2264 ⟨rfl, rfl, Nat.le_of_ble_eq_true rfl, Nat.le_of_ble_eq_true rfl⟩ rfl rfl (Nat.le_of_ble_eq_true rfl) ⟨Nat.le_of_ble_eq_true rfl, Nat.le_of_ble_eq_true rfl⟩ dX13_losesPatience_14 (t := 17) rfl rfl ?_
      refine J_ifZ_eq (tgt := 43) hX dX13_losesPatience_17 (by decide) (t := 20) rfl (fun z => ?_) (fun z => ?_)
      · replace hF := ib_f hF z
        refine J_iinc (v := l1 + 1) (lc2 := [(1, .int (l1 + 1)), (0, .ref (adr G 15 0))]) hX dX13_losesPatience_43 1 rfl rfl (Nat.le_of_ble_eq_true rfl) rfl (t := 46) rfl ?_
        refine J_goto (tgt := 2) hX dX13_losesPatience_46 (by decide) ?_
        refine J_sub (lc2 := [(0, .ref (adr G 15 0)), (1, .int (l1 + 1))]) [1, 0] rfl ?_
        exact ih w (l1 + 1) hF
      · replace hF := it_t hF z
        refine J_aload_n hX dX13_losesPatience_20 0 rfl (t := 21) rfl ?_
        refine J_iload_n hX dX13_losesPatience_21 1 rfl (t := 22) rfl ?_
        obtain ⟨x6, h5, hF⟩ := bo1_e hF
        have k7 := (ctX13_endsAt (G := G) (l := l) w l1 h5)
        refine J_callV hX [.int l1] [] [.int x6] k7 miX13_endsAt mvX13_endsAt cb10 kModel q_2359 ⟨rfl, rfl, Nat.le_of_ble_eq_true rfl, Nat.le_of_ble_eq_true rfl⟩ rfl rfl (Nat.le_of_ble_eq_true rfl) ⟨Nat.le_of_ble_eq_true rfl, Nat.le_of_ble_eq_true rfl⟩ dX13_losesPatience_22 (t := 25) rfl rfl ?_
        refine J_aload_n hX dX13_losesPatience_25 0 rfl (t := 26) rfl ?_
        refine J_get hX cb10 kModel 13 (by decide) q_1980 rfl dX13_losesPatience_26 (t := 29) rfl ?_
        refine J_iconst (v := 3) hX dX13_losesPatience_29 (by decide) (t := 30) rfl ?_
        obtain ⟨g8, hF⟩ := gd_e hF
        refine J_iald hX (kInts (j := 2) (n := 390) (by decide) (by decide) rfl) g8 rfl dX13_losesPatience_30 (t := 31) rfl ?_
        refine J_icmp_ne (tgt := 43) hX dX13_losesPatience_31 (by decide) (t := 34) rfl (fun z => ?_) (fun z => ?_)
        · replace hF := it_f hF z
          refine J_iinc (v := l1 + 1) (lc2 := [(1, .int (l1 + 1)), (0, .ref (adr G 15 0))]) hX dX13_losesPatience_43 1 rfl rfl (Nat.le_of_ble_eq_true rfl) rfl (t := 46) rfl ?_
          refine J_goto (tgt := 2) hX dX13_losesPatience_46 (by decide) ?_
          refine J_sub (lc2 := [(0, .ref (adr G 15 0)), (1, .int (l1 + 1))]) [1, 0] rfl ?_
          exact ih w (l1 + 1) hF
        · replace hF := it_t hF z
          refine J_aload_n hX dX13_losesPatience_34 0 rfl (t := 35) rfl ?_
          refine J_aload_n hX dX13_losesPatience_35 0 rfl (t := 36) rfl ?_
          refine J_iload_n hX dX13_losesPatience_36 1 rfl (t := 37) rfl ?_
          obtain ⟨x10, w11, h9, hF⟩ := bo2_e hF
          have k12 := (ctX13_cancels (G := G) (l := l) w l1 h9)
          refine J_callV hX [.int l1] [.ref (adr G 15 0)] [.int x10, .ref (adr G 15 0)] k12 miX13_cancels mvX13_cancels cb10 kModel q_2268 ⟨rfl, rfl, Nat.le_of_ble_eq_true rfl, Nat.le_of_ble_eq_true rfl⟩ rfl rfl (Nat.le_of_ble_eq_true rfl) ⟨Nat.le_of_ble_eq_true rfl, Nat.le_of_ble_eq_true rfl⟩ dX13_losesPatience_37 (t := 40) rfl rfl ?_
          obtain ⟨w13, e14, hF⟩ := bnd_e hF
          refine J_puti hX cb10 kModel 31 (by decide) q_1998 rfl rfl e14 (fun _ _ => Nat.le_of_ble_eq_true rfl) (fun _ _ => rfl) dX13_losesPatience_40 (t := 43) rfl ?_
          refine J_iinc (v := l1 + 1) (lc2 := [(1, .int (l1 + 1)), (0, .ref (adr G 15 0))]) hX dX13_losesPatience_43 1 rfl rfl (Nat.le_of_ble_eq_true rfl) rfl (t := 46) rfl ?_
          refine J_goto (tgt := 2) hX dX13_losesPatience_46 (by decide) ?_
          refine J_sub (lc2 := [(0, .ref (adr G 15 0)), (1, .int (l1 + 1))]) [1, 0] rfl ?_
          exact ih w13 (l1 + 1) hF
def FX13_losesPatience (n : Nat) (w : Wd)  : Option (Wd) :=
  FX13_losesPatience_L2 n n w 0
set_option maxHeartbeats 4000000 in
set_option maxRecDepth 100000 in
theorem ctX13_losesPatience {G : GG} {l : Launch} (w : Wd)   (n : Nat) {rw : Wd} (hF : FX13_losesPatience n w  = some rw) : CT G l yX13_losesPatience cX13_losesPatience 2 none rmX13_losesPatience 0 0 [.ref (adr G 15 0)] w (none) rw := by
  refine CT.of miX13_losesPatience [(0, .ref (adr G 15 0))] rfl (Nat.le_of_ble_eq_true rfl) ?_
  intro p e s m args below meth c hX hR hlk
  have hX : FX G RX13 cX13_losesPatience 2 p s m args c := hX
  unfold FX13_losesPatience at hF
  refine J_iconst (v := 0) hX dX13_losesPatience_0 (by decide) (t := 1) rfl ?_
  refine J_istore_n (lc2 := [(1, .int 0), (0, .ref (adr G 15 0))]) hX dX13_losesPatience_1 rfl (Nat.le_of_ble_eq_true rfl) rfl (t := 2) rfl ?_
  refine J_sub (lc2 := [(0, .ref (adr G 15 0)), (1, .int 0)]) [1, 0] rfl ?_
  exact LX13_losesPatience_2 hX hR hlk n n w 0 hF
abbrev rmX13_passesOne : Room := { frames := 6, cells := 0, slots := 0, locals := 131 }
theorem miX13_passesOne : MI yX13_passesOne cX13_passesOne 2 (some .int) 0 := ⟨q_2342, q_152, by decide +kernel, by decide +kernel, by decide +kernel, by decide +kernel⟩
theorem mvX13_passesOne : MV yX13_passesOne := ⟨q_2341, q_69⟩
def FX13_passesOne (n : Nat) (w : Wd)  : Option (Int32 × Wd) :=
  gd (inb 3 390) <|
  gd (inb 3 390) <| bnd (sW w 15 (sI (w 15) 2 3 (((w 15).1 2 3) + 1))) fun w3 =>
  bo2 (FX13_returnsNow n w3) fun x6 w7 =>
  bo1 (FX13_losesPatience n w7) fun w10 =>
  some (x6, w10)
set_option maxHeartbeats 4000000 in
set_option maxRecDepth 100000 in
theorem ctX13_passesOne {G : GG} {l : Launch} (w : Wd)   (n : Nat) {rx : Int32} {rw : Wd} (hF : FX13_passesOne n w  = some (rx, rw)) : CT G l yX13_passesOne cX13_passesOne 2 (some .int) rmX13_passesOne 0 0 [.ref (adr G 15 0)] w (some (.int rx)) rw := by
  refine CT.of miX13_passesOne [(0, .ref (adr G 15 0))] rfl (Nat.le_of_ble_eq_true rfl) ?_
  intro p e s m args below meth c hX hR hlk
  have hX : FX G RX13 cX13_passesOne 2 p s m args c := hX
  unfold FX13_passesOne at hF
  refine J_aload_n hX dX13_passesOne_0 0 rfl (t := 1) rfl ?_
  refine J_get hX cb10 kModel 13 (by decide) q_1980 rfl dX13_passesOne_1 (t := 4) rfl ?_
  refine J_iconst (v := 3) hX dX13_passesOne_4 (by decide) (t := 5) rfl ?_
  refine J_dup2 hX dX13_passesOne_5 rfl rfl (t := 6) rfl ?_
  obtain ⟨g1, hF⟩ := gd_e hF
  refine J_iald hX (kInts (j := 2) (n := 390) (by decide) (by decide) rfl) g1 rfl dX13_passesOne_6 (t := 7) rfl ?_
  refine J_iconst (v := 1) hX dX13_passesOne_7 (by decide) (t := 8) rfl ?_
  refine J_iadd hX dX13_passesOne_8 (t := 9) rfl ?_
  obtain ⟨g2, hF⟩ := gd_e hF
  obtain ⟨w3, e4, hF⟩ := bnd_e hF
  refine J_iast hX (kInts (j := 2) (n := 390) (by decide) (by decide) rfl) g2 rfl e4 dX13_passesOne_9 (t := 10) rfl ?_
  refine J_aload_n hX dX13_passesOne_10 0 rfl (t := 11) rfl ?_
  obtain ⟨x6, w7, h5, hF⟩ := bo2_e hF
  have k8 := (ctX13_returnsNow (G := G) (l := l) w3  n h5)
  refine J_callV hX [] [] [.int x6] k8 miX13_returnsNow mvX13_returnsNow cb10 kModel q_2343 ⟨rfl, rfl, Nat.le_of_ble_eq_true rfl, Nat.le_of_ble_eq_true rfl⟩ rfl rfl (Nat.le_of_ble_eq_true rfl) ⟨Nat.le_of_ble_eq_true rfl, Nat.le_of_ble_eq_true rfl⟩ dX13_passesOne_11 (t := 14) rfl rfl ?_
  refine J_istore_n (lc2 := [(1, .int x6), (0, .ref (adr G 15 0))]) hX dX13_passesOne_14 rfl (Nat.le_of_ble_eq_true rfl) rfl (t := 15) rfl ?_
  refine J_aload_n hX dX13_passesOne_15 1 rfl (t := 16) rfl ?_
  obtain ⟨w10, h9, hF⟩ := bo1_e hF
  have k11 := (ctX13_losesPatience (G := G) (l := l) w7  n h9)
  refine J_callV hX [] [] [] k11 miX13_losesPatience mvX13_losesPatience cb10 kModel q_2355 ⟨rfl, rfl, Nat.le_of_ble_eq_true rfl, Nat.le_of_ble_eq_true rfl⟩ rfl rfl (Nat.le_of_ble_eq_true rfl) ⟨Nat.le_of_ble_eq_true rfl, Nat.le_of_ble_eq_true rfl⟩ dX13_passesOne_16 (t := 19) rfl rfl ?_
  refine J_iload_n hX dX13_passesOne_19 0 rfl (t := 20) rfl ?_
  replace hF := Option.some.inj hF
  obtain ⟨hF, hF2⟩ := Prod.mk.inj hF
  subst hF
  subst hF2
  exact J_iret hX hR hlk dX13_passesOne_20
abbrev rmX13_passes : Room := { frames := 7, cells := 0, slots := 0, locals := 152 }
theorem miX13_passes : MI yX13_passes cX13_passes 4 (some .int) 1 := ⟨q_2338, q_152, by decide +kernel, by decide +kernel, by decide +kernel, by decide +kernel⟩
theorem mvX13_passes : MV yX13_passes := ⟨q_2337, q_68⟩
def FX13_passes_L4 (n : Nat) : Nat → Wd → Int32 → Int32 → Int32 → Option (Int32 × Wd)
  | 0 => fun _ _ _ _ => none
  | k + 1 => fun w l1 l2 l3 =>
    if l1 ≤ l3 then
      some (l2, w)
    else
      bo2 (FX13_passesOne n w) fun x2 w3 =>
      FX13_passes_L4 n k w3 l1 (l2 + x2) (l3 + 1)
set_option maxHeartbeats 4000000 in
set_option maxRecDepth 100000 in
theorem LX13_passes_4 {G : GG} {l : Launch} {p : Program} {e : Env} {s : State} {m : MethodId} {args : Array Value} {below : List Frame} {meth : Method} {c : Code} (hX : FX G RX13 cX13_passes 4 p s m args c) (hR : meth.sig.returnType = (some .int)) (hlk : meth.locks = false) {rx : Int32} {rw : Wd} (n : Nat) : ∀ (k : Nat) (w : Wd) (l1 : Int32) (l2 : Int32) (l3 : Int32) , FX13_passes_L4 n k w l1 l2 l3 = some (rx, rw) → J G p l e rmX13_passes s m args below meth c 4 0 0 (MQ below (QV G (some (.int rx)) rw) args s 0 0 (gA G)) (GH G w) 4 [(0, .ref (adr G 15 0)), (1, .int l1), (2, .int l2), (3, .int l3)] [] := by
  intro k
  induction k with
  | zero => intro w l1 l2 l3  hF; cases hF
  | succ k ih =>
    intro w l1 l2 l3  hF
    simp only [FX13_passes_L4] at hF
    refine J_iload_n hX dX13_passes_4 3 rfl (t := 5) rfl ?_
    refine J_iload_n hX dX13_passes_5 1 rfl (t := 6) rfl ?_
    refine J_icmp_ge (tgt := 22) hX dX13_passes_6 (by decide) (t := 9) rfl (fun z => ?_) (fun z => ?_)
    · replace hF := it_t hF z
      refine J_iload_n hX dX13_passes_22 2 rfl (t := 23) rfl ?_
      replace hF := Option.some.inj hF
      obtain ⟨hF, hF2⟩ := Prod.mk.inj hF
      subst hF
      subst hF2
      exact J_iret hX hR hlk dX13_passes_23
    · replace hF := it_f hF z
      refine J_iload_n hX dX13_passes_9 2 rfl (t := 10) rfl ?_
      refine J_aload_n hX dX13_passes_10 0 rfl (t := 11) rfl ?_
      obtain ⟨x2, w3, h1, hF⟩ := bo2_e hF
      have k4 := (ctX13_passesOne (G := G) (l := l) w  n h1)
      refine J_callV hX [] [.int l2] [.int x2, .int l2] k4 miX13_passesOne mvX13_passesOne cb10 kModel q_2339 ⟨rfl, rfl, Nat.le_of_ble_eq_true rfl, Nat.le_of_ble_eq_true rfl⟩ rfl rfl (Nat.le_of_ble_eq_true rfl) ⟨Nat.le_of_ble_eq_true rfl, Nat.le_of_ble_eq_true rfl⟩ dX13_passes_11 (t := 14) rfl rfl ?_
      refine J_iadd hX dX13_passes_14 (t := 15) rfl ?_
      refine J_istore_n (lc2 := [(2, .int (l2 + x2)), (0, .ref (adr G 15 0)), (1, .int l1), (3, .int l3)]) hX dX13_passes_15 rfl (Nat.le_of_ble_eq_true rfl) rfl (t := 16) rfl ?_
      refine J_iinc (v := l3 + 1) (lc2 := [(3, .int (l3 + 1)), (2, .int (l2 + x2)), (0, .ref (adr G 15 0)), (1, .int l1)]) hX dX13_passes_16 3 rfl rfl (Nat.le_of_ble_eq_true rfl) rfl (t := 19) rfl ?_
      refine J_goto (tgt := 4) hX dX13_passes_19 (by decide) ?_
      refine J_sub (lc2 := [(0, .ref (adr G 15 0)), (1, .int l1), (2, .int (l2 + x2)), (3, .int (l3 + 1))]) [2, 3, 1, 0] rfl ?_
      exact ih w3 l1 (l2 + x2) (l3 + 1) hF
def FX13_passes (n : Nat) (w : Wd) (p1 : Int32) : Option (Int32 × Wd) :=
  FX13_passes_L4 n n w p1 0 0
set_option maxHeartbeats 4000000 in
set_option maxRecDepth 100000 in
theorem ctX13_passes {G : GG} {l : Launch} (w : Wd) (p1 : Int32)  (n : Nat) {rx : Int32} {rw : Wd} (hF : FX13_passes n w p1 = some (rx, rw)) : CT G l yX13_passes cX13_passes 4 (some .int) rmX13_passes 0 0 [.ref (adr G 15 0), .int p1] w (some (.int rx)) rw := by
  refine CT.of miX13_passes [(0, .ref (adr G 15 0)), (1, .int p1)] rfl (Nat.le_of_ble_eq_true rfl) ?_
  intro p e s m args below meth c hX hR hlk
  have hX : FX G RX13 cX13_passes 4 p s m args c := hX
  unfold FX13_passes at hF
  refine J_iconst (v := 0) hX dX13_passes_0 (by decide) (t := 1) rfl ?_
  refine J_istore_n (lc2 := [(2, .int 0), (0, .ref (adr G 15 0)), (1, .int p1)]) hX dX13_passes_1 rfl (Nat.le_of_ble_eq_true rfl) rfl (t := 2) rfl ?_
  refine J_iconst (v := 0) hX dX13_passes_2 (by decide) (t := 3) rfl ?_
  refine J_istore_n (lc2 := [(3, .int 0), (2, .int 0), (0, .ref (adr G 15 0)), (1, .int p1)]) hX dX13_passes_3 rfl (Nat.le_of_ble_eq_true rfl) rfl (t := 4) rfl ?_
  refine J_sub (lc2 := [(0, .ref (adr G 15 0)), (1, .int p1), (2, .int 0), (3, .int 0)]) [2, 3, 1, 0] rfl ?_
  exact LX13_passes_4 hX hR hlk n n w p1 0 0 hF
abbrev rmX13_isWidth : Room := { frames := 1, cells := 0, slots := 0, locals := 25 }
theorem miX13_isWidth : MI yX13_isWidth cX13_isWidth 1 (some .boolean) 1 := ⟨q_2133, q_152, by decide +kernel, by decide +kernel, by decide +kernel, by decide +kernel⟩
def FX13_isWidth (p0 : Int32) : Bool :=
  bnd (FX13_isIn p0.toInt64 1 60) fun x2 =>
  x2
set_option maxHeartbeats 4000000 in
set_option maxRecDepth 100000 in
theorem ctX13_isWidth {G : GG} {l : Launch} {w : Wd} (p0 : Int32)  {rx : Bool} (hF : FX13_isWidth p0 = rx) : CT G l yX13_isWidth cX13_isWidth 1 (some .boolean) rmX13_isWidth 0 0 [.int p0] w (some (.int (bI rx))) w := by
  refine CT.of miX13_isWidth [(0, .int p0)] rfl (Nat.le_of_ble_eq_true rfl) ?_
  intro p e s m args below meth c hX hR hlk
  have hX : FX G RX13 cX13_isWidth 1 p s m args c := hX
  unfold FX13_isWidth at hF
  refine J_iload_n hX dX13_isWidth_0 0 rfl (t := 1) rfl ?_
  refine J_i2l hX dX13_isWidth_1 (t := 2) rfl ?_
  refine J_lconst (v := 1) hX dX13_isWidth_2 (by decide) (t := 3) rfl ?_
  refine J_ldc2 hX dX13_isWidth_3 q_2134 (t := 6) rfl ?_
  obtain ⟨x2, h1, hF⟩ := bnd_e hF
  have k3 := (ctX13_isIn (l := l) (G := G) (w := w) p0.toInt64 1 60 h1)
  refine J_callS hX [.long p0.toInt64, .long 1, .long 60] [] [.int (bI x2)] k3 miX13_isIn q_2094 q_2093 ⟨rfl, rfl, Nat.le_of_ble_eq_true rfl, Nat.le_of_ble_eq_true rfl⟩ rfl rfl (Nat.le_of_ble_eq_true rfl) ⟨Nat.le_of_ble_eq_true rfl, Nat.le_of_ble_eq_true rfl⟩ dX13_isWidth_6 (t := 9) rfl rfl ?_
  subst hF
  exact J_zret (b := x2) hX hR hlk dX13_isWidth_9
abbrev rmX13_areWalls : Room := { frames := 1, cells := 0, slots := 0, locals := 25 }
theorem miX13_areWalls : MI yX13_areWalls cX13_areWalls 1 (some .boolean) 1 := ⟨q_2137, q_152, by decide +kernel, by decide +kernel, by decide +kernel, by decide +kernel⟩
def FX13_areWalls (p0 : Int32) : Bool :=
  bnd (FX13_isIn p0.toInt64 1 4) fun x2 =>
  x2
set_option maxHeartbeats 4000000 in
set_option maxRecDepth 100000 in
theorem ctX13_areWalls {G : GG} {l : Launch} {w : Wd} (p0 : Int32)  {rx : Bool} (hF : FX13_areWalls p0 = rx) : CT G l yX13_areWalls cX13_areWalls 1 (some .boolean) rmX13_areWalls 0 0 [.int p0] w (some (.int (bI rx))) w := by
  refine CT.of miX13_areWalls [(0, .int p0)] rfl (Nat.le_of_ble_eq_true rfl) ?_
  intro p e s m args below meth c hX hR hlk
  have hX : FX G RX13 cX13_areWalls 1 p s m args c := hX
  unfold FX13_areWalls at hF
  refine J_iload_n hX dX13_areWalls_0 0 rfl (t := 1) rfl ?_
  refine J_i2l hX dX13_areWalls_1 (t := 2) rfl ?_
  refine J_lconst (v := 1) hX dX13_areWalls_2 (by decide) (t := 3) rfl ?_
  refine J_ldc2 hX dX13_areWalls_3 q_2138 (t := 6) rfl ?_
  obtain ⟨x2, h1, hF⟩ := bnd_e hF
  have k3 := (ctX13_isIn (l := l) (G := G) (w := w) p0.toInt64 1 4 h1)
  refine J_callS hX [.long p0.toInt64, .long 1, .long 4] [] [.int (bI x2)] k3 miX13_isIn q_2094 q_2093 ⟨rfl, rfl, Nat.le_of_ble_eq_true rfl, Nat.le_of_ble_eq_true rfl⟩ rfl rfl (Nat.le_of_ble_eq_true rfl) ⟨Nat.le_of_ble_eq_true rfl, Nat.le_of_ble_eq_true rfl⟩ dX13_areWalls_6 (t := 9) rfl rfl ?_
  subst hF
  exact J_zret (b := x2) hX hR hlk dX13_areWalls_9
abbrev rmX13_isPrice : Room := { frames := 1, cells := 0, slots := 0, locals := 25 }
theorem miX13_isPrice : MI yX13_isPrice cX13_isPrice 1 (some .boolean) 1 := ⟨q_2141, q_152, by decide +kernel, by decide +kernel, by decide +kernel, by decide +kernel⟩
def FX13_isPrice (p0 : Int32) : Bool :=
  bnd (FX13_isIn p0.toInt64 1 99) fun x2 =>
  x2
set_option maxHeartbeats 4000000 in
set_option maxRecDepth 100000 in
theorem ctX13_isPrice {G : GG} {l : Launch} {w : Wd} (p0 : Int32)  {rx : Bool} (hF : FX13_isPrice p0 = rx) : CT G l yX13_isPrice cX13_isPrice 1 (some .boolean) rmX13_isPrice 0 0 [.int p0] w (some (.int (bI rx))) w := by
  refine CT.of miX13_isPrice [(0, .int p0)] rfl (Nat.le_of_ble_eq_true rfl) ?_
  intro p e s m args below meth c hX hR hlk
  have hX : FX G RX13 cX13_isPrice 1 p s m args c := hX
  unfold FX13_isPrice at hF
  refine J_iload_n hX dX13_isPrice_0 0 rfl (t := 1) rfl ?_
  refine J_i2l hX dX13_isPrice_1 (t := 2) rfl ?_
  refine J_lconst (v := 1) hX dX13_isPrice_2 (by decide) (t := 3) rfl ?_
  refine J_ldc2 hX dX13_isPrice_3 q_2142 (t := 6) rfl ?_
  obtain ⟨x2, h1, hF⟩ := bnd_e hF
  have k3 := (ctX13_isIn (l := l) (G := G) (w := w) p0.toInt64 1 99 h1)
  refine J_callS hX [.long p0.toInt64, .long 1, .long 99] [] [.int (bI x2)] k3 miX13_isIn q_2094 q_2093 ⟨rfl, rfl, Nat.le_of_ble_eq_true rfl, Nat.le_of_ble_eq_true rfl⟩ rfl rfl (Nat.le_of_ble_eq_true rfl) ⟨Nat.le_of_ble_eq_true rfl, Nat.le_of_ble_eq_true rfl⟩ dX13_isPrice_6 (t := 9) rfl rfl ?_
  subst hF
  exact J_zret (b := x2) hX hR hlk dX13_isPrice_9
abbrev rmX13_isFog : Room := { frames := 1, cells := 0, slots := 0, locals := 25 }
theorem miX13_isFog : MI yX13_isFog cX13_isFog 1 (some .boolean) 1 := ⟨q_2310, q_152, by decide +kernel, by decide +kernel, by decide +kernel, by decide +kernel⟩
def FX13_isFog (p0 : Int32) : Bool :=
  bnd (FX13_isIn p0.toInt64 0 9) fun x2 =>
  x2
set_option maxHeartbeats 4000000 in
set_option maxRecDepth 100000 in
theorem ctX13_isFog {G : GG} {l : Launch} {w : Wd} (p0 : Int32)  {rx : Bool} (hF : FX13_isFog p0 = rx) : CT G l yX13_isFog cX13_isFog 1 (some .boolean) rmX13_isFog 0 0 [.int p0] w (some (.int (bI rx))) w := by
  refine CT.of miX13_isFog [(0, .int p0)] rfl (Nat.le_of_ble_eq_true rfl) ?_
  intro p e s m args below meth c hX hR hlk
  have hX : FX G RX13 cX13_isFog 1 p s m args c := hX
  unfold FX13_isFog at hF
  refine J_iload_n hX dX13_isFog_0 0 rfl (t := 1) rfl ?_
  refine J_i2l hX dX13_isFog_1 (t := 2) rfl ?_
  refine J_lconst (v := 0) hX dX13_isFog_2 (by decide) (t := 3) rfl ?_
  refine J_ldc2 hX dX13_isFog_3 q_2311 (t := 6) rfl ?_
  obtain ⟨x2, h1, hF⟩ := bnd_e hF
  have k3 := (ctX13_isIn (l := l) (G := G) (w := w) p0.toInt64 0 9 h1)
  refine J_callS hX [.long p0.toInt64, .long 0, .long 9] [] [.int (bI x2)] k3 miX13_isIn q_2094 q_2093 ⟨rfl, rfl, Nat.le_of_ble_eq_true rfl, Nat.le_of_ble_eq_true rfl⟩ rfl rfl (Nat.le_of_ble_eq_true rfl) ⟨Nat.le_of_ble_eq_true rfl, Nat.le_of_ble_eq_true rfl⟩ dX13_isFog_6 (t := 9) rfl rfl ?_
  subst hF
  exact J_zret (b := x2) hX hR hlk dX13_isFog_9
abbrev rmX13_isPatience : Room := { frames := 1, cells := 0, slots := 0, locals := 25 }
theorem miX13_isPatience : MI yX13_isPatience cX13_isPatience 1 (some .boolean) 1 := ⟨q_2195, q_152, by decide +kernel, by decide +kernel, by decide +kernel, by decide +kernel⟩
def FX13_isPatience (p0 : Int32) : Bool :=
  bnd (FX13_isIn p0.toInt64 1 240) fun x2 =>
  x2
set_option maxHeartbeats 4000000 in
set_option maxRecDepth 100000 in
theorem ctX13_isPatience {G : GG} {l : Launch} {w : Wd} (p0 : Int32)  {rx : Bool} (hF : FX13_isPatience p0 = rx) : CT G l yX13_isPatience cX13_isPatience 1 (some .boolean) rmX13_isPatience 0 0 [.int p0] w (some (.int (bI rx))) w := by
  refine CT.of miX13_isPatience [(0, .int p0)] rfl (Nat.le_of_ble_eq_true rfl) ?_
  intro p e s m args below meth c hX hR hlk
  have hX : FX G RX13 cX13_isPatience 1 p s m args c := hX
  unfold FX13_isPatience at hF
  refine J_iload_n hX dX13_isPatience_0 0 rfl (t := 1) rfl ?_
  refine J_i2l hX dX13_isPatience_1 (t := 2) rfl ?_
  refine J_lconst (v := 1) hX dX13_isPatience_2 (by decide) (t := 3) rfl ?_
  refine J_ldc2 hX dX13_isPatience_3 q_2196 (t := 6) rfl ?_
  obtain ⟨x2, h1, hF⟩ := bnd_e hF
  have k3 := (ctX13_isIn (l := l) (G := G) (w := w) p0.toInt64 1 240 h1)
  refine J_callS hX [.long p0.toInt64, .long 1, .long 240] [] [.int (bI x2)] k3 miX13_isIn q_2094 q_2093 ⟨rfl, rfl, Nat.le_of_ble_eq_true rfl, Nat.le_of_ble_eq_true rfl⟩ rfl rfl (Nat.le_of_ble_eq_true rfl) ⟨Nat.le_of_ble_eq_true rfl, Nat.le_of_ble_eq_true rfl⟩ dX13_isPatience_6 (t := 9) rfl rfl ?_
  subst hF
  exact J_zret (b := x2) hX hR hlk dX13_isPatience_9
abbrev rmX13_isMoney : Room := { frames := 1, cells := 0, slots := 0, locals := 25 }
theorem miX13_isMoney : MI yX13_isMoney cX13_isMoney 1 (some .boolean) 1 := ⟨q_2199, q_152, by decide +kernel, by decide +kernel, by decide +kernel, by decide +kernel⟩
def FX13_isMoney (p0 : Int32) : Bool :=
  bnd (FX13_isIn p0.toInt64 0 9999) fun x2 =>
  x2
set_option maxHeartbeats 4000000 in
set_option maxRecDepth 100000 in
theorem ctX13_isMoney {G : GG} {l : Launch} {w : Wd} (p0 : Int32)  {rx : Bool} (hF : FX13_isMoney p0 = rx) : CT G l yX13_isMoney cX13_isMoney 1 (some .boolean) rmX13_isMoney 0 0 [.int p0] w (some (.int (bI rx))) w := by
  refine CT.of miX13_isMoney [(0, .int p0)] rfl (Nat.le_of_ble_eq_true rfl) ?_
  intro p e s m args below meth c hX hR hlk
  have hX : FX G RX13 cX13_isMoney 1 p s m args c := hX
  unfold FX13_isMoney at hF
  refine J_iload_n hX dX13_isMoney_0 0 rfl (t := 1) rfl ?_
  refine J_i2l hX dX13_isMoney_1 (t := 2) rfl ?_
  refine J_lconst (v := 0) hX dX13_isMoney_2 (by decide) (t := 3) rfl ?_
  refine J_ldc2 hX dX13_isMoney_3 q_2200 (t := 6) rfl ?_
  obtain ⟨x2, h1, hF⟩ := bnd_e hF
  have k3 := (ctX13_isIn (l := l) (G := G) (w := w) p0.toInt64 0 9999 h1)
  refine J_callS hX [.long p0.toInt64, .long 0, .long 9999] [] [.int (bI x2)] k3 miX13_isIn q_2094 q_2093 ⟨rfl, rfl, Nat.le_of_ble_eq_true rfl, Nat.le_of_ble_eq_true rfl⟩ rfl rfl (Nat.le_of_ble_eq_true rfl) ⟨Nat.le_of_ble_eq_true rfl, Nat.le_of_ble_eq_true rfl⟩ dX13_isMoney_6 (t := 9) rfl rfl ?_
  subst hF
  exact J_zret (b := x2) hX hR hlk dX13_isMoney_9
abbrev rmX13_isLoud : Room := { frames := 1, cells := 0, slots := 0, locals := 25 }
theorem miX13_isLoud : MI yX13_isLoud cX13_isLoud 1 (some .boolean) 1 := ⟨q_2219, q_152, by decide +kernel, by decide +kernel, by decide +kernel, by decide +kernel⟩
def FX13_isLoud (p0 : Int32) : Bool :=
  bnd (FX13_isIn p0.toInt64 1 20) fun x2 =>
  x2
set_option maxHeartbeats 4000000 in
set_option maxRecDepth 100000 in
theorem ctX13_isLoud {G : GG} {l : Launch} {w : Wd} (p0 : Int32)  {rx : Bool} (hF : FX13_isLoud p0 = rx) : CT G l yX13_isLoud cX13_isLoud 1 (some .boolean) rmX13_isLoud 0 0 [.int p0] w (some (.int (bI rx))) w := by
  refine CT.of miX13_isLoud [(0, .int p0)] rfl (Nat.le_of_ble_eq_true rfl) ?_
  intro p e s m args below meth c hX hR hlk
  have hX : FX G RX13 cX13_isLoud 1 p s m args c := hX
  unfold FX13_isLoud at hF
  refine J_iload_n hX dX13_isLoud_0 0 rfl (t := 1) rfl ?_
  refine J_i2l hX dX13_isLoud_1 (t := 2) rfl ?_
  refine J_lconst (v := 1) hX dX13_isLoud_2 (by decide) (t := 3) rfl ?_
  refine J_ldc2 hX dX13_isLoud_3 q_2220 (t := 6) rfl ?_
  obtain ⟨x2, h1, hF⟩ := bnd_e hF
  have k3 := (ctX13_isIn (l := l) (G := G) (w := w) p0.toInt64 1 20 h1)
  refine J_callS hX [.long p0.toInt64, .long 1, .long 20] [] [.int (bI x2)] k3 miX13_isIn q_2094 q_2093 ⟨rfl, rfl, Nat.le_of_ble_eq_true rfl, Nat.le_of_ble_eq_true rfl⟩ rfl rfl (Nat.le_of_ble_eq_true rfl) ⟨Nat.le_of_ble_eq_true rfl, Nat.le_of_ble_eq_true rfl⟩ dX13_isLoud_6 (t := 9) rfl rfl ?_
  subst hF
  exact J_zret (b := x2) hX hR hlk dX13_isLoud_9
abbrev rmX13_isDepth : Room := { frames := 1, cells := 0, slots := 0, locals := 25 }
theorem miX13_isDepth : MI yX13_isDepth cX13_isDepth 1 (some .boolean) 1 := ⟨q_2326, q_152, by decide +kernel, by decide +kernel, by decide +kernel, by decide +kernel⟩
def FX13_isDepth (p0 : Int32) : Bool :=
  bnd (FX13_isIn p0.toInt64 0 20) fun x2 =>
  x2
set_option maxHeartbeats 4000000 in
set_option maxRecDepth 100000 in
theorem ctX13_isDepth {G : GG} {l : Launch} {w : Wd} (p0 : Int32)  {rx : Bool} (hF : FX13_isDepth p0 = rx) : CT G l yX13_isDepth cX13_isDepth 1 (some .boolean) rmX13_isDepth 0 0 [.int p0] w (some (.int (bI rx))) w := by
  refine CT.of miX13_isDepth [(0, .int p0)] rfl (Nat.le_of_ble_eq_true rfl) ?_
  intro p e s m args below meth c hX hR hlk
  have hX : FX G RX13 cX13_isDepth 1 p s m args c := hX
  unfold FX13_isDepth at hF
  refine J_iload_n hX dX13_isDepth_0 0 rfl (t := 1) rfl ?_
  refine J_i2l hX dX13_isDepth_1 (t := 2) rfl ?_
  refine J_lconst (v := 0) hX dX13_isDepth_2 (by decide) (t := 3) rfl ?_
  refine J_ldc2 hX dX13_isDepth_3 q_2220 (t := 6) rfl ?_
  obtain ⟨x2, h1, hF⟩ := bnd_e hF
  have k3 := (ctX13_isIn (l := l) (G := G) (w := w) p0.toInt64 0 20 h1)
  refine J_callS hX [.long p0.toInt64, .long 0, .long 20] [] [.int (bI x2)] k3 miX13_isIn q_2094 q_2093 ⟨rfl, rfl, Nat.le_of_ble_eq_true rfl, Nat.le_of_ble_eq_true rfl⟩ rfl rfl (Nat.le_of_ble_eq_true rfl) ⟨Nat.le_of_ble_eq_true rfl, Nat.le_of_ble_eq_true rfl⟩ dX13_isDepth_6 (t := 9) rfl rfl ?_
  subst hF
  exact J_zret (b := x2) hX hR hlk dX13_isDepth_9
abbrev rmX13_mayPass : Room := { frames := 0, cells := 0, slots := 0, locals := 0 }
theorem miX13_mayPass : MI yX13_mayPass cX13_mayPass 2 (some .boolean) 1 := ⟨q_2334, q_152, by decide +kernel, by decide +kernel, by decide +kernel, by decide +kernel⟩
theorem mvX13_mayPass : MV yX13_mayPass := ⟨q_2333, q_67⟩
def FX13_mayPass (w : Wd) (p1 : Int32) : Option (Bool) :=
  gd (inb 3 390) <|
  if 9999 < ((w 15).1 2 3) + p1 then
    some false
  else
    some true
set_option maxHeartbeats 4000000 in
set_option maxRecDepth 100000 in
theorem ctX13_mayPass {G : GG} {l : Launch} (w : Wd) (p1 : Int32)  {rx : Bool} (hF : FX13_mayPass w p1 = some rx) : CT G l yX13_mayPass cX13_mayPass 2 (some .boolean) rmX13_mayPass 0 0 [.ref (adr G 15 0), .int p1] w (some (.int (bI rx))) w := by
  refine CT.of miX13_mayPass [(0, .ref (adr G 15 0)), (1, .int p1)] rfl (Nat.le_of_ble_eq_true rfl) ?_
  intro p e s m args below meth c hX hR hlk
  have hX : FX G RX13 cX13_mayPass 2 p s m args c := hX
  unfold FX13_mayPass at hF
  refine J_aload_n hX dX13_mayPass_0 0 rfl (t := 1) rfl ?_
  refine J_get hX cb10 kModel 13 (by decide) q_1980 rfl dX13_mayPass_1 (t := 4) rfl ?_
  refine J_iconst (v := 3) hX dX13_mayPass_4 (by decide) (t := 5) rfl ?_
  obtain ⟨g1, hF⟩ := gd_e hF
  refine J_iald hX (kInts (j := 2) (n := 390) (by decide) (by decide) rfl) g1 rfl dX13_mayPass_5 (t := 6) rfl ?_
  refine J_iload_n hX dX13_mayPass_6 1 rfl (t := 7) rfl ?_
  refine J_iadd hX dX13_mayPass_7 (t := 8) rfl ?_
  refine J_sipush (v := 9999) hX dX13_mayPass_8 (by decide) (t := 11) rfl ?_
  refine J_icmp_gt (tgt := 18) hX dX13_mayPass_11 (by decide) (t := 14) rfl (fun z => ?_) (fun z => ?_)
  · replace hF := it_t hF z
    refine J_iconst (v := 0) hX dX13_mayPass_18 (by decide) (t := 19) rfl ?_
    replace hF := Option.some.inj hF
    subst hF
    exact J_zret (b := false) hX hR hlk dX13_mayPass_19
  · replace hF := it_f hF z
    refine J_iconst (v := 1) hX dX13_mayPass_14 (by decide) (t := 15) rfl ?_
    refine J_goto (tgt := 19) hX dX13_mayPass_15 (by decide) ?_
    replace hF := Option.some.inj hF
    subst hF
    exact J_zret (b := true) hX hR hlk dX13_mayPass_19
abbrev rmX13_addsValley : Room := { frames := 1, cells := 0, slots := 0, locals := 23 }
theorem miX13_addsValley : MI yX13_addsValley cX13_addsValley 7 (some .int) 4 := ⟨q_2175, q_152, by decide +kernel, by decide +kernel, by decide +kernel, by decide +kernel⟩
theorem mvX13_addsValley : MV yX13_addsValley := ⟨q_2174, q_41⟩
def FX13_addsValley (w : Wd) (p1 : Int64) (p3 : Int32) (p4 : Int32) (p5 : Int32) : Option (Int32 × Wd) :=
  gd (inb 0 390) <|
  bnd (FX13_vly ((w 15).1 2 0)) fun x3 =>
  gd (inb (x3 + 0) 390) <| bnd (sW w 15 (sI (w 15) 2 ((x3 + 0).toNatClampNeg) p3)) fun w6 =>
  gd (inb (x3 + 1) 390) <| bnd (sW w6 15 (sI (w6 15) 2 ((x3 + 1).toNatClampNeg) p4)) fun w9 =>
  gd (inb (x3 + 2) 390) <| bnd (sW w9 15 (sI (w9 15) 2 ((x3 + 2).toNatClampNeg) p5)) fun w12 =>
  gd (inb (x3 + 3) 390) <| bnd (sW w12 15 (sI (w12 15) 2 ((x3 + 3).toNatClampNeg) 0)) fun w15 =>
  gd (inb (x3 + 4) 390) <| bnd (sW w15 15 (sI (w15 15) 2 ((x3 + 4).toNatClampNeg) 10)) fun w18 =>
  gd (inb (x3 + 5) 390) <| bnd (sW w18 15 (sI (w18 15) 2 ((x3 + 5).toNatClampNeg) 0)) fun w21 =>
  bo1 (FX13_laysName w21 (x3 + 6) p1) fun w24 =>
  gd (inb 0 390) <|
  gd (inb 0 390) <| bnd (sW w24 15 (sI (w24 15) 2 0 (((w24 15).1 2 0) + 1))) fun w28 =>
  gd (inb 0 390) <|
  some (((w28 15).1 2 0) - 1, w28)
set_option maxHeartbeats 4000000 in
set_option maxRecDepth 100000 in
theorem ctX13_addsValley {G : GG} {l : Launch} (w : Wd) (p1 : Int64) (p3 : Int32) (p4 : Int32) (p5 : Int32)  {rx : Int32} {rw : Wd} (hF : FX13_addsValley w p1 p3 p4 p5 = some (rx, rw)) : CT G l yX13_addsValley cX13_addsValley 7 (some .int) rmX13_addsValley 0 0 [.ref (adr G 15 0), .long p1, .int p3, .int p4, .int p5] w (some (.int rx)) rw := by
  refine CT.of miX13_addsValley [(0, .ref (adr G 15 0)), (1, .long p1), (3, .int p3), (4, .int p4), (5, .int p5)] rfl (Nat.le_of_ble_eq_true rfl) ?_
  intro p e s m args below meth c hX hR hlk
  have hX : FX G RX13 cX13_addsValley 7 p s m args c := hX
  unfold FX13_addsValley at hF
  refine J_aload_n hX dX13_addsValley_0 0 rfl (t := 1) rfl ?_
  refine J_get hX cb10 kModel 13 (by decide) q_1980 rfl dX13_addsValley_1 (t := 4) rfl ?_
  refine J_iconst (v := 0) hX dX13_addsValley_4 (by decide) (t := 5) rfl ?_
  obtain ⟨g1, hF⟩ := gd_e hF
  refine J_iald hX (kInts (j := 2) (n := 390) (by decide) (by decide) rfl) g1 rfl dX13_addsValley_5 (t := 6) rfl ?_
  obtain ⟨x3, h2, hF⟩ := bnd_e hF
  have k4 := (ctX13_vly (l := l) (G := G) (w := w) ((w 15).1 2 0) h2)
  refine J_callS hX [.int ((w 15).1 2 0)] [] [.int x3] k4 miX13_vly q_2155 q_2154 ⟨rfl, rfl, Nat.le_of_ble_eq_true rfl, Nat.le_of_ble_eq_true rfl⟩ rfl rfl (Nat.le_of_ble_eq_true rfl) ⟨Nat.le_of_ble_eq_true rfl, Nat.le_of_ble_eq_true rfl⟩ dX13_addsValley_6 (t := 9) rfl rfl ?_
  refine J_istore (lc2 := [(6, .int x3), (0, .ref (adr G 15 0)), (1, .long p1), (3, .int p3), (4, .int p4), (5, .int p5)]) hX dX13_addsValley_9 (Nat.le_of_ble_eq_true rfl) rfl (t := 11) rfl ?_
  refine J_aload_n hX dX13_addsValley_11 1 rfl (t := 12) rfl ?_
  refine J_get hX cb10 kModel 13 (by decide) q_1980 rfl dX13_addsValley_12 (t := 15) rfl ?_
  refine J_iload hX dX13_addsValley_15 0 rfl (t := 17) rfl ?_
  refine J_iconst (v := 0) hX dX13_addsValley_17 (by decide) (t := 18) rfl ?_
  refine J_iadd hX dX13_addsValley_18 (t := 19) rfl ?_
  refine J_iload_n hX dX13_addsValley_19 3 rfl (t := 20) rfl ?_
  obtain ⟨g5, hF⟩ := gd_e hF
  obtain ⟨w6, e7, hF⟩ := bnd_e hF
  refine J_iast hX (kInts (j := 2) (n := 390) (by decide) (by decide) rfl) g5 rfl e7 dX13_addsValley_20 (t := 21) rfl ?_
  refine J_aload_n hX dX13_addsValley_21 1 rfl (t := 22) rfl ?_
  refine J_get hX cb10 kModel 13 (by decide) q_1980 rfl dX13_addsValley_22 (t := 25) rfl ?_
  refine J_iload hX dX13_addsValley_25 0 rfl (t := 27) rfl ?_
  refine J_iconst (v := 1) hX dX13_addsValley_27 (by decide) (t := 28) rfl ?_
  refine J_iadd hX dX13_addsValley_28 (t := 29) rfl ?_
  refine J_iload hX dX13_addsValley_29 4 rfl (t := 31) rfl ?_
  obtain ⟨g8, hF⟩ := gd_e hF
  obtain ⟨w9, e10, hF⟩ := bnd_e hF
  refine J_iast hX (kInts (j := 2) (n := 390) (by decide) (by decide) rfl) g8 rfl e10 dX13_addsValley_31 (t := 32) rfl ?_
  refine J_aload_n hX dX13_addsValley_32 1 rfl (t := 33) rfl ?_
  refine J_get hX cb10 kModel 13 (by decide) q_1980 rfl dX13_addsValley_33 (t := 36) rfl ?_
  refine J_iload hX dX13_addsValley_36 0 rfl (t := 38) rfl ?_
  refine J_iconst (v := 2) hX dX13_addsValley_38 (by decide) (t := 39) rfl ?_
  refine J_iadd hX dX13_addsValley_39 (t := 40) rfl ?_
  refine J_iload hX dX13_addsValley_40 5 rfl (t := 42) rfl ?_
  obtain ⟨g11, hF⟩ := gd_e hF
  obtain ⟨w12, e13, hF⟩ := bnd_e hF
  refine J_iast hX (kInts (j := 2) (n := 390) (by decide) (by decide) rfl) g11 rfl e13 dX13_addsValley_42 (t := 43) rfl ?_
  refine J_aload_n hX dX13_addsValley_43 1 rfl (t := 44) rfl ?_
  refine J_get hX cb10 kModel 13 (by decide) q_1980 rfl dX13_addsValley_44 (t := 47) rfl ?_
  refine J_iload hX dX13_addsValley_47 0 rfl (t := 49) rfl ?_
  refine J_iconst (v := 3) hX dX13_addsValley_49 (by decide) (t := 50) rfl ?_
  refine J_iadd hX dX13_addsValley_50 (t := 51) rfl ?_
  refine J_iconst (v := 0) hX dX13_addsValley_51 (by decide) (t := 52) rfl ?_
  obtain ⟨g14, hF⟩ := gd_e hF
  obtain ⟨w15, e16, hF⟩ := bnd_e hF
  refine J_iast hX (kInts (j := 2) (n := 390) (by decide) (by decide) rfl) g14 rfl e16 dX13_addsValley_52 (t := 53) rfl ?_
  refine J_aload_n hX dX13_addsValley_53 1 rfl (t := 54) rfl ?_
  refine J_get hX cb10 kModel 13 (by decide) q_1980 rfl dX13_addsValley_54 (t := 57) rfl ?_
  refine J_iload hX dX13_addsValley_57 0 rfl (t := 59) rfl ?_
  refine J_iconst (v := 4) hX dX13_addsValley_59 (by decide) (t := 60) rfl ?_
  refine J_iadd hX dX13_addsValley_60 (t := 61) rfl ?_
  refine J_bipush (v := 10) hX dX13_addsValley_61 (by decide) (t := 63) rfl ?_
  obtain ⟨g17, hF⟩ := gd_e hF
  obtain ⟨w18, e19, hF⟩ := bnd_e hF
  refine J_iast hX (kInts (j := 2) (n := 390) (by decide) (by decide) rfl) g17 rfl e19 dX13_addsValley_63 (t := 64) rfl ?_
  refine J_aload_n hX dX13_addsValley_64 1 rfl (t := 65) rfl ?_
  refine J_get hX cb10 kModel 13 (by decide) q_1980 rfl dX13_addsValley_65 (t := 68) rfl ?_
  refine J_iload hX dX13_addsValley_68 0 rfl (t := 70) rfl ?_
  refine J_iconst (v := 5) hX dX13_addsValley_70 (by decide) (t := 71) rfl ?_
  refine J_iadd hX dX13_addsValley_71 (t := 72) rfl ?_
  refine J_iconst (v := 0) hX dX13_addsValley_72 (by decide) (t := 73) rfl ?_
  obtain ⟨g20, hF⟩ := gd_e hF
  obtain ⟨w21, e22, hF⟩ := bnd_e hF
  refine J_iast hX (kInts (j := 2) (n := 390) (by decide) (by decide) rfl) g20 rfl e22 dX13_addsValley_73 (t := 74) rfl ?_
  refine J_aload_n hX dX13_addsValley_74 1 rfl (t := 75) rfl ?_
  refine J_iload hX dX13_addsValley_75 0 rfl (t := 77) rfl ?_
  refine J_bipush (v := 6) hX dX13_addsValley_77 (by decide) (t := 79) rfl ?_
  refine J_iadd hX dX13_addsValley_79 (t := 80) rfl ?_
  refine J_lload_n hX dX13_addsValley_80 2 rfl (t := 81) rfl ?_
  obtain ⟨w24, h23, hF⟩ := bo1_e hF
  have k25 := (ctX13_laysName (G := G) (l := l) w21 (x3 + 6) p1 h23)
  refine J_callV hX [.int (x3 + 6), .long p1] [] [] k25 miX13_laysName mvX13_laysName cb10 kModel q_2176 ⟨rfl, rfl, Nat.le_of_ble_eq_true rfl, Nat.le_of_ble_eq_true rfl⟩ rfl rfl (Nat.le_of_ble_eq_true rfl) ⟨Nat.le_of_ble_eq_true rfl, Nat.le_of_ble_eq_true rfl⟩ dX13_addsValley_81 (t := 84) rfl rfl ?_
  refine J_aload_n hX dX13_addsValley_84 1 rfl (t := 85) rfl ?_
  refine J_get hX cb10 kModel 13 (by decide) q_1980 rfl dX13_addsValley_85 (t := 88) rfl ?_
  refine J_iconst (v := 0) hX dX13_addsValley_88 (by decide) (t := 89) rfl ?_
  refine J_dup2 hX dX13_addsValley_89 rfl rfl (t := 90) rfl ?_
  obtain ⟨g26, hF⟩ := gd_e hF
  refine J_iald hX (kInts (j := 2) (n := 390) (by decide) (by decide) rfl) g26 rfl dX13_addsValley_90 (t := 91) rfl ?_
  refine J_iconst (v := 1) hX dX13_addsValley_91 (by decide) (t := 92) rfl ?_
  refine J_iadd hX dX13_addsValley_92 (t := 93) rfl ?_
  obtain ⟨g27, hF⟩ := gd_e hF
  obtain ⟨w28, e29, hF⟩ := bnd_e hF
  refine J_iast hX (kInts (j := 2) (n := 390) (by decide) (by decide) rfl) g27 rfl e29 dX13_addsValley_93 (t := 94) rfl ?_
  refine J_aload_n hX dX13_addsValley_94 1 rfl (t := 95) rfl ?_
  refine J_get hX cb10 kModel 13 (by decide) q_1980 rfl dX13_addsValley_95 (t := 98) rfl ?_
  refine J_iconst (v := 0) hX dX13_addsValley_98 (by decide) (t := 99) rfl ?_
  obtain ⟨g30, hF⟩ := gd_e hF
  refine J_iald hX (kInts (j := 2) (n := 390) (by decide) (by decide) rfl) g30 rfl dX13_addsValley_99 (t := 100) rfl ?_
  refine J_iconst (v := 1) hX dX13_addsValley_100 (by decide) (t := 101) rfl ?_
  refine J_isub hX dX13_addsValley_101 (t := 102) rfl ?_
  replace hF := Option.some.inj hF
  obtain ⟨hF, hF2⟩ := Prod.mk.inj hF
  subst hF
  subst hF2
  exact J_iret hX hR hlk dX13_addsValley_102
abbrev rmX13_addsCustomer : Room := { frames := 1, cells := 0, slots := 0, locals := 23 }
theorem miX13_addsCustomer : MI yX13_addsCustomer cX13_addsCustomer 6 (some .int) 3 := ⟨q_2204, q_152, by decide +kernel, by decide +kernel, by decide +kernel, by decide +kernel⟩
theorem mvX13_addsCustomer : MV yX13_addsCustomer := ⟨q_2203, q_45⟩
def FX13_addsCustomer (w : Wd) (p1 : Int64) (p3 : Int32) (p4 : Int32) : Option (Int32 × Wd) :=
  gd (inb 1 390) <|
  bnd (FX13_cst ((w 15).1 2 1)) fun x3 =>
  gd (inb (x3 + 0) 390) <| bnd (sW w 15 (sI (w 15) 2 ((x3 + 0).toNatClampNeg) p3)) fun w6 =>
  gd (inb (x3 + 1) 390) <| bnd (sW w6 15 (sI (w6 15) 2 ((x3 + 1).toNatClampNeg) p4)) fun w9 =>
  gd (inb (x3 + 2) 390) <| bnd (sW w9 15 (sI (w9 15) 2 ((x3 + 2).toNatClampNeg) 0)) fun w12 =>
  gd (inb (x3 + 3) 390) <| bnd (sW w12 15 (sI (w12 15) 2 ((x3 + 3).toNatClampNeg) 0)) fun w15 =>
  bo1 (FX13_laysName w15 (x3 + 4) p1) fun w18 =>
  gd (inb 1 390) <|
  gd (inb 1 390) <| bnd (sW w18 15 (sI (w18 15) 2 1 (((w18 15).1 2 1) + 1))) fun w22 =>
  gd (inb 7 390) <|
  gd (inb 7 390) <| bnd (sW w22 15 (sI (w22 15) 2 7 (((w22 15).1 2 7) + p4))) fun w26 =>
  gd (inb 1 390) <|
  some (((w26 15).1 2 1) - 1, w26)
set_option maxHeartbeats 4000000 in
set_option maxRecDepth 100000 in
theorem ctX13_addsCustomer {G : GG} {l : Launch} (w : Wd) (p1 : Int64) (p3 : Int32) (p4 : Int32)  {rx : Int32} {rw : Wd} (hF : FX13_addsCustomer w p1 p3 p4 = some (rx, rw)) : CT G l yX13_addsCustomer cX13_addsCustomer 6 (some .int) rmX13_addsCustomer 0 0 [.ref (adr G 15 0), .long p1, .int p3, .int p4] w (some (.int rx)) rw := by
  refine CT.of miX13_addsCustomer [(0, .ref (adr G 15 0)), (1, .long p1), (3, .int p3), (4, .int p4)] rfl (Nat.le_of_ble_eq_true rfl) ?_
  intro p e s m args below meth c hX hR hlk
  have hX : FX G RX13 cX13_addsCustomer 6 p s m args c := hX
  unfold FX13_addsCustomer at hF
  refine J_aload_n hX dX13_addsCustomer_0 0 rfl (t := 1) rfl ?_
  refine J_get hX cb10 kModel 13 (by decide) q_1980 rfl dX13_addsCustomer_1 (t := 4) rfl ?_
  refine J_iconst (v := 1) hX dX13_addsCustomer_4 (by decide) (t := 5) rfl ?_
  obtain ⟨g1, hF⟩ := gd_e hF
  refine J_iald hX (kInts (j := 2) (n := 390) (by decide) (by decide) rfl) g1 rfl dX13_addsCustomer_5 (t := 6) rfl ?_
  obtain ⟨x3, h2, hF⟩ := bnd_e hF
  have k4 := (ctX13_cst (l := l) (G := G) (w := w) ((w 15).1 2 1) h2)
  refine J_callS hX [.int ((w 15).1 2 1)] [] [.int x3] k4 miX13_cst q_2158 q_2157 ⟨rfl, rfl, Nat.le_of_ble_eq_true rfl, Nat.le_of_ble_eq_true rfl⟩ rfl rfl (Nat.le_of_ble_eq_true rfl) ⟨Nat.le_of_ble_eq_true rfl, Nat.le_of_ble_eq_true rfl⟩ dX13_addsCustomer_6 (t := 9) rfl rfl ?_
  refine J_istore (lc2 := [(5, .int x3), (0, .ref (adr G 15 0)), (1, .long p1), (3, .int p3), (4, .int p4)]) hX dX13_addsCustomer_9 (Nat.le_of_ble_eq_true rfl) rfl (t := 11) rfl ?_
  refine J_aload_n hX dX13_addsCustomer_11 1 rfl (t := 12) rfl ?_
  refine J_get hX cb10 kModel 13 (by decide) q_1980 rfl dX13_addsCustomer_12 (t := 15) rfl ?_
  refine J_iload hX dX13_addsCustomer_15 0 rfl (t := 17) rfl ?_
  refine J_iconst (v := 0) hX dX13_addsCustomer_17 (by decide) (t := 18) rfl ?_
  refine J_iadd hX dX13_addsCustomer_18 (t := 19) rfl ?_
  refine J_iload_n hX dX13_addsCustomer_19 3 rfl (t := 20) rfl ?_
  obtain ⟨g5, hF⟩ := gd_e hF
  obtain ⟨w6, e7, hF⟩ := bnd_e hF
  refine J_iast hX (kInts (j := 2) (n := 390) (by decide) (by decide) rfl) g5 rfl e7 dX13_addsCustomer_20 (t := 21) rfl ?_
  refine J_aload_n hX dX13_addsCustomer_21 1 rfl (t := 22) rfl ?_
  refine J_get hX cb10 kModel 13 (by decide) q_1980 rfl dX13_addsCustomer_22 (t := 25) rfl ?_
  refine J_iload hX dX13_addsCustomer_25 0 rfl (t := 27) rfl ?_
  refine J_iconst (v := 1) hX dX13_addsCustomer_27 (by decide) (t := 28) rfl ?_
  refine J_iadd hX dX13_addsCustomer_28 (t := 29) rfl ?_
  refine J_iload hX dX13_addsCustomer_29 4 rfl (t := 31) rfl ?_
  obtain ⟨g8, hF⟩ := gd_e hF
  obtain ⟨w9, e10, hF⟩ := bnd_e hF
  refine J_iast hX (kInts (j := 2) (n := 390) (by decide) (by decide) rfl) g8 rfl e10 dX13_addsCustomer_31 (t := 32) rfl ?_
  refine J_aload_n hX dX13_addsCustomer_32 1 rfl (t := 33) rfl ?_
  refine J_get hX cb10 kModel 13 (by decide) q_1980 rfl dX13_addsCustomer_33 (t := 36) rfl ?_
  refine J_iload hX dX13_addsCustomer_36 0 rfl (t := 38) rfl ?_
  refine J_iconst (v := 2) hX dX13_addsCustomer_38 (by decide) (t := 39) rfl ?_
  refine J_iadd hX dX13_addsCustomer_39 (t := 40) rfl ?_
  refine J_iconst (v := 0) hX dX13_addsCustomer_40 (by decide) (t := 41) rfl ?_
  obtain ⟨g11, hF⟩ := gd_e hF
  obtain ⟨w12, e13, hF⟩ := bnd_e hF
  refine J_iast hX (kInts (j := 2) (n := 390) (by decide) (by decide) rfl) g11 rfl e13 dX13_addsCustomer_41 (t := 42) rfl ?_
  refine J_aload_n hX dX13_addsCustomer_42 1 rfl (t := 43) rfl ?_
  refine J_get hX cb10 kModel 13 (by decide) q_1980 rfl dX13_addsCustomer_43 (t := 46) rfl ?_
  refine J_iload hX dX13_addsCustomer_46 0 rfl (t := 48) rfl ?_
  refine J_iconst (v := 3) hX dX13_addsCustomer_48 (by decide) (t := 49) rfl ?_
  refine J_iadd hX dX13_addsCustomer_49 (t := 50) rfl ?_
  refine J_iconst (v := 0) hX dX13_addsCustomer_50 (by decide) (t := 51) rfl ?_
  obtain ⟨g14, hF⟩ := gd_e hF
  obtain ⟨w15, e16, hF⟩ := bnd_e hF
  refine J_iast hX (kInts (j := 2) (n := 390) (by decide) (by decide) rfl) g14 rfl e16 dX13_addsCustomer_51 (t := 52) rfl ?_
  refine J_aload_n hX dX13_addsCustomer_52 1 rfl (t := 53) rfl ?_
  refine J_iload hX dX13_addsCustomer_53 0 rfl (t := 55) rfl ?_
  refine J_iconst (v := 4) hX dX13_addsCustomer_55 (by decide) (t := 56) rfl ?_
  refine J_iadd hX dX13_addsCustomer_56 (t := 57) rfl ?_
  refine J_lload_n hX dX13_addsCustomer_57 2 rfl (t := 58) rfl ?_
  obtain ⟨w18, h17, hF⟩ := bo1_e hF
  have k19 := (ctX13_laysName (G := G) (l := l) w15 (x3 + 4) p1 h17)
  refine J_callV hX [.int (x3 + 4), .long p1] [] [] k19 miX13_laysName mvX13_laysName cb10 kModel q_2176 ⟨rfl, rfl, Nat.le_of_ble_eq_true rfl, Nat.le_of_ble_eq_true rfl⟩ rfl rfl (Nat.le_of_ble_eq_true rfl) ⟨Nat.le_of_ble_eq_true rfl, Nat.le_of_ble_eq_true rfl⟩ dX13_addsCustomer_58 (t := 61) rfl rfl ?_
  refine J_aload_n hX dX13_addsCustomer_61 1 rfl (t := 62) rfl ?_
  refine J_get hX cb10 kModel 13 (by decide) q_1980 rfl dX13_addsCustomer_62 (t := 65) rfl ?_
  refine J_iconst (v := 1) hX dX13_addsCustomer_65 (by decide) (t := 66) rfl ?_
  refine J_dup2 hX dX13_addsCustomer_66 rfl rfl (t := 67) rfl ?_
  obtain ⟨g20, hF⟩ := gd_e hF
  refine J_iald hX (kInts (j := 2) (n := 390) (by decide) (by decide) rfl) g20 rfl dX13_addsCustomer_67 (t := 68) rfl ?_
  refine J_iconst (v := 1) hX dX13_addsCustomer_68 (by decide) (t := 69) rfl ?_
  refine J_iadd hX dX13_addsCustomer_69 (t := 70) rfl ?_
  obtain ⟨g21, hF⟩ := gd_e hF
  obtain ⟨w22, e23, hF⟩ := bnd_e hF
  refine J_iast hX (kInts (j := 2) (n := 390) (by decide) (by decide) rfl) g21 rfl e23 dX13_addsCustomer_70 (t := 71) rfl ?_
  refine J_aload_n hX dX13_addsCustomer_71 1 rfl (t := 72) rfl ?_
  refine J_get hX cb10 kModel 13 (by decide) q_1980 rfl dX13_addsCustomer_72 (t := 75) rfl ?_
  refine J_bipush (v := 7) hX dX13_addsCustomer_75 (by decide) (t := 77) rfl ?_
  refine J_dup2 hX dX13_addsCustomer_77 rfl rfl (t := 78) rfl ?_
  obtain ⟨g24, hF⟩ := gd_e hF
  refine J_iald hX (kInts (j := 2) (n := 390) (by decide) (by decide) rfl) g24 rfl dX13_addsCustomer_78 (t := 79) rfl ?_
  refine J_iload hX dX13_addsCustomer_79 4 rfl (t := 81) rfl ?_
  refine J_iadd hX dX13_addsCustomer_81 (t := 82) rfl ?_
  obtain ⟨g25, hF⟩ := gd_e hF
  obtain ⟨w26, e27, hF⟩ := bnd_e hF
  refine J_iast hX (kInts (j := 2) (n := 390) (by decide) (by decide) rfl) g25 rfl e27 dX13_addsCustomer_82 (t := 83) rfl ?_
  refine J_aload_n hX dX13_addsCustomer_83 1 rfl (t := 84) rfl ?_
  refine J_get hX cb10 kModel 13 (by decide) q_1980 rfl dX13_addsCustomer_84 (t := 87) rfl ?_
  refine J_iconst (v := 1) hX dX13_addsCustomer_87 (by decide) (t := 88) rfl ?_
  obtain ⟨g28, hF⟩ := gd_e hF
  refine J_iald hX (kInts (j := 2) (n := 390) (by decide) (by decide) rfl) g28 rfl dX13_addsCustomer_88 (t := 89) rfl ?_
  refine J_iconst (v := 1) hX dX13_addsCustomer_89 (by decide) (t := 90) rfl ?_
  refine J_isub hX dX13_addsCustomer_90 (t := 91) rfl ?_
  replace hF := Option.some.inj hF
  obtain ⟨hF, hF2⟩ := Prod.mk.inj hF
  subst hF
  subst hF2
  exact J_iret hX hR hlk dX13_addsCustomer_91
abbrev rmX13_sets : Room := { frames := 0, cells := 0, slots := 0, locals := 0 }
theorem miX13_sets : MI yX13_sets cX13_sets 4 (some .int) 2 := ⟨q_2315, q_152, by decide +kernel, by decide +kernel, by decide +kernel, by decide +kernel⟩
theorem mvX13_sets : MV yX13_sets := ⟨q_2314, q_66⟩
def FX13_sets (w : Wd) (p1 : Int32) (p2 : Int32) : Option (Int32 × Wd) :=
  gd (inb p1 390) <|
  gd (inb p1 390) <| bnd (sW w 15 (sI (w 15) 2 p1.toNatClampNeg p2)) fun w3 =>
  some ((w 15).1 2 p1.toNatClampNeg, w3)
set_option maxHeartbeats 4000000 in
set_option maxRecDepth 100000 in
theorem ctX13_sets {G : GG} {l : Launch} (w : Wd) (p1 : Int32) (p2 : Int32)  {rx : Int32} {rw : Wd} (hF : FX13_sets w p1 p2 = some (rx, rw)) : CT G l yX13_sets cX13_sets 4 (some .int) rmX13_sets 0 0 [.ref (adr G 15 0), .int p1, .int p2] w (some (.int rx)) rw := by
  refine CT.of miX13_sets [(0, .ref (adr G 15 0)), (1, .int p1), (2, .int p2)] rfl (Nat.le_of_ble_eq_true rfl) ?_
  intro p e s m args below meth c hX hR hlk
  have hX : FX G RX13 cX13_sets 4 p s m args c := hX
  unfold FX13_sets at hF
  refine J_aload_n hX dX13_sets_0 0 rfl (t := 1) rfl ?_
  refine J_get hX cb10 kModel 13 (by decide) q_1980 rfl dX13_sets_1 (t := 4) rfl ?_
  refine J_iload_n hX dX13_sets_4 1 rfl (t := 5) rfl ?_
  obtain ⟨g1, hF⟩ := gd_e hF
  refine J_iald hX (kInts (j := 2) (n := 390) (by decide) (by decide) rfl) g1 rfl dX13_sets_5 (t := 6) rfl ?_
  refine J_istore_n (lc2 := [(3, .int ((w 15).1 2 p1.toNatClampNeg)), (0, .ref (adr G 15 0)), (1, .int p1), (2, .int p2)]) hX dX13_sets_6 rfl (Nat.le_of_ble_eq_true rfl) rfl (t := 7) rfl ?_
  refine J_aload_n hX dX13_sets_7 1 rfl (t := 8) rfl ?_
  refine J_get hX cb10 kModel 13 (by decide) q_1980 rfl dX13_sets_8 (t := 11) rfl ?_
  refine J_iload_n hX dX13_sets_11 2 rfl (t := 12) rfl ?_
  refine J_iload_n hX dX13_sets_12 3 rfl (t := 13) rfl ?_
  obtain ⟨g2, hF⟩ := gd_e hF
  obtain ⟨w3, e4, hF⟩ := bnd_e hF
  refine J_iast hX (kInts (j := 2) (n := 390) (by decide) (by decide) rfl) g2 rfl e4 dX13_sets_13 (t := 14) rfl ?_
  refine J_iload_n hX dX13_sets_14 0 rfl (t := 15) rfl ?_
  replace hF := Option.some.inj hF
  obtain ⟨hF, hF2⟩ := Prod.mk.inj hF
  subst hF
  subst hF2
  exact J_iret hX hR hlk dX13_sets_15
abbrev rmX13_isNew : Room := { frames := 3, cells := 0, slots := 0, locals := 65 }
theorem miX13_isNew : MI yX13_isNew cX13_isNew 4 (some .boolean) 2 := ⟨q_2146, q_152, by decide +kernel, by decide +kernel, by decide +kernel, by decide +kernel⟩
theorem mvX13_isNew : MV yX13_isNew := ⟨q_2145, q_36⟩
def FX13_isNew (n : Nat) (w : Wd) (p1 : Int32) (p2 : Int64) : Option (Bool) :=
  if lg_cmp p2 0 = 0 then
    some false
  else
    bo1 (FX13_found n w p1 p2) fun x2 =>
    if x2 = (-1) then
      gd (inb p1 390) <|
      if 8 ≤ (w 15).1 2 p1.toNatClampNeg then
        some false
      else
        some true
    else
      some false
set_option maxHeartbeats 4000000 in
set_option maxRecDepth 100000 in
theorem ctX13_isNew {G : GG} {l : Launch} (w : Wd) (p1 : Int32) (p2 : Int64)  (n : Nat) {rx : Bool} (hF : FX13_isNew n w p1 p2 = some rx) : CT G l yX13_isNew cX13_isNew 4 (some .boolean) rmX13_isNew 0 0 [.ref (adr G 15 0), .int p1, .long p2] w (some (.int (bI rx))) w := by
  refine CT.of miX13_isNew [(0, .ref (adr G 15 0)), (1, .int p1), (2, .long p2)] rfl (Nat.le_of_ble_eq_true rfl) ?_
  intro p e s m args below meth c hX hR hlk
  have hX : FX G RX13 cX13_isNew 4 p s m args c := hX
  unfold FX13_isNew at hF
  refine J_lload_n hX dX13_isNew_0 2 rfl (t := 1) rfl ?_
  refine J_lconst (v := 0) hX dX13_isNew_1 (by decide) (t := 2) rfl ?_
  refine J_lcmp hX dX13_isNew_2 (t := 3) rfl ?_
  refine J_if_eq (tgt := 31) hX dX13_isNew_3 (by decide) (t := 6) rfl (fun z => ?_) (fun z => ?_)
  · replace hF := it_t hF z
    refine J_iconst (v := 0) hX dX13_isNew_31 (by decide) (t := 32) rfl ?_
    replace hF := Option.some.inj hF
    subst hF
    exact J_zret (b := false) hX hR hlk dX13_isNew_32
  · replace hF := it_f hF z
    refine J_aload_n hX dX13_isNew_6 0 rfl (t := 7) rfl ?_
    refine J_iload_n hX dX13_isNew_7 1 rfl (t := 8) rfl ?_
    refine J_lload_n hX dX13_isNew_8 2 rfl (t := 9) rfl ?_
    obtain ⟨x2, h1, hF⟩ := bo1_e hF
    have k3 := (ctX13_found (G := G) (l := l) w p1 p2 n h1)
    refine J_callV hX [.int p1, .long p2] [] [.int x2] k3 miX13_found mvX13_found cb10 kModel q_2147 ⟨rfl, rfl, Nat.le_of_ble_eq_true rfl, Nat.le_of_ble_eq_true rfl⟩ rfl rfl (Nat.le_of_ble_eq_true rfl) ⟨Nat.le_of_ble_eq_true rfl, Nat.le_of_ble_eq_true rfl⟩ dX13_isNew_9 (t := 12) rfl rfl ?_
    refine J_iconst (v := (-1)) hX dX13_isNew_12 (by decide) (t := 13) rfl ?_
    refine J_icmp_ne (tgt := 31) hX dX13_isNew_13 (by decide) (t := 16) rfl (fun z => ?_) (fun z => ?_)
    · replace hF := it_f hF z
      refine J_iconst (v := 0) hX dX13_isNew_31 (by decide) (t := 32) rfl ?_
      replace hF := Option.some.inj hF
      subst hF
      exact J_zret (b := false) hX hR hlk dX13_isNew_32
    · replace hF := it_t hF z
      refine J_aload_n hX dX13_isNew_16 0 rfl (t := 17) rfl ?_
      refine J_get hX cb10 kModel 13 (by decide) q_1980 rfl dX13_isNew_17 (t := 20) rfl ?_
      refine J_iload_n hX dX13_isNew_20 1 rfl (t := 21) rfl ?_
      obtain ⟨g4, hF⟩ := gd_e hF
      refine J_iald hX (kInts (j := 2) (n := 390) (by decide) (by decide) rfl) g4 rfl dX13_isNew_21 (t := 22) rfl ?_
      refine J_bipush (v := 8) hX dX13_isNew_22 (by decide) (t := 24) rfl ?_
      refine J_icmp_ge (tgt := 31) hX dX13_isNew_24 (by decide) (t := 27) rfl (fun z => ?_) (fun z => ?_)
      · replace hF := it_t hF z
        refine J_iconst (v := 0) hX dX13_isNew_31 (by decide) (t := 32) rfl ?_
        replace hF := Option.some.inj hF
        subst hF
        exact J_zret (b := false) hX hR hlk dX13_isNew_32
      · replace hF := it_f hF z
        refine J_iconst (v := 1) hX dX13_isNew_27 (by decide) (t := 28) rfl ?_
        refine J_goto (tgt := 32) hX dX13_isNew_28 (by decide) ?_
        replace hF := Option.some.inj hF
        subst hF
        exact J_zret (b := true) hX hR hlk dX13_isNew_32
abbrev rmX13_addValley : Room := { frames := 4, cells := 0, slots := 0, locals := 88 }
theorem miX13_addValley : MI yX13_addValley cX13_addValley 6 (some .int) 3 := ⟨q_2122, q_152, by decide +kernel, by decide +kernel, by decide +kernel, by decide +kernel⟩
theorem mvX13_addValley : MV yX13_addValley := ⟨q_2120, q_2121⟩
def FX13_addValley (n : Nat) (w : Wd) (p1 : Int32) (p2 : Int32) (p3 : Int32) : Option (Int32 × Wd) :=
  bo1 (FX13_bufferName n w) fun x2 =>
  bnd (FX13_isWidth p1) fun x5 =>
  if x5 = true then
    bnd (FX13_areWalls p2) fun x28 =>
    if x28 = true then
      bnd (FX13_isPrice p3) fun x51 =>
      if x51 = true then
        bo1 (FX13_isNew n w 0 x2) fun x74 =>
        bnd2 (FX13_goesBoth w true x74) fun x77 w78 =>
        if x77 = true then
          bo1 (FX13_laysAside n w78) fun w81 =>
          bnd (sW w81 15 (sI (w81 15) 0 2 0)) fun w83 =>
          bo2 (FX13_addsValley w83 x2 p1 p2 p3) fun x86 w87 =>
          bo2 (FX13_kept n w87 x86) fun x90 w91 =>
          some (x90, w91)
        else
          some (0, w78)
      else
        bo1 (FX13_isNew n w 0 x2) fun x54 =>
        bnd2 (FX13_goesBoth w false x54) fun x57 w58 =>
        if x57 = true then
          bo1 (FX13_laysAside n w58) fun w61 =>
          bnd (sW w61 15 (sI (w61 15) 0 2 0)) fun w63 =>
          bo2 (FX13_addsValley w63 x2 p1 p2 p3) fun x66 w67 =>
          bo2 (FX13_kept n w67 x66) fun x70 w71 =>
          some (x70, w71)
        else
          some (0, w58)
    else
      bo1 (FX13_isNew n w 0 x2) fun x31 =>
      bnd2 (FX13_goesBoth w false x31) fun x34 w35 =>
      if x34 = true then
        bo1 (FX13_laysAside n w35) fun w38 =>
        bnd (sW w38 15 (sI (w38 15) 0 2 0)) fun w40 =>
        bo2 (FX13_addsValley w40 x2 p1 p2 p3) fun x43 w44 =>
        bo2 (FX13_kept n w44 x43) fun x47 w48 =>
        some (x47, w48)
      else
        some (0, w35)
  else
    bo1 (FX13_isNew n w 0 x2) fun x8 =>
    bnd2 (FX13_goesBoth w false x8) fun x11 w12 =>
    if x11 = true then
      bo1 (FX13_laysAside n w12) fun w15 =>
      bnd (sW w15 15 (sI (w15 15) 0 2 0)) fun w17 =>
      bo2 (FX13_addsValley w17 x2 p1 p2 p3) fun x20 w21 =>
      bo2 (FX13_kept n w21 x20) fun x24 w25 =>
      some (x24, w25)
    else
      some (0, w12)
set_option maxHeartbeats 4000000 in
set_option maxRecDepth 100000 in
theorem ctX13_addValley {G : GG} {l : Launch} (w : Wd) (p1 : Int32) (p2 : Int32) (p3 : Int32)  (n : Nat) {rx : Int32} {rw : Wd} (hF : FX13_addValley n w p1 p2 p3 = some (rx, rw)) : CT G l yX13_addValley cX13_addValley 6 (some .int) rmX13_addValley 0 0 [.ref (adr G 15 0), .int p1, .int p2, .int p3] w (some (.int rx)) rw := by
  refine CT.of miX13_addValley [(0, .ref (adr G 15 0)), (1, .int p1), (2, .int p2), (3, .int p3)] rfl (Nat.le_of_ble_eq_true rfl) ?_
  intro p e s m args below meth c hX hR hlk
  have hX : FX G RX13 cX13_addValley 6 p s m args c := hX
  unfold FX13_addValley at hF
  refine J_aload_n hX dX13_addValley_0 0 rfl (t := 1) rfl ?_
  obtain ⟨x2, h1, hF⟩ := bo1_e hF
  have k3 := (ctX13_bufferName (G := G) (l := l) w  n h1)
  refine J_callV hX [] [] [.long x2] k3 miX13_bufferName mvX13_bufferName cb10 kModel q_2123 ⟨rfl, rfl, Nat.le_of_ble_eq_true rfl, Nat.le_of_ble_eq_true rfl⟩ rfl rfl (Nat.le_of_ble_eq_true rfl) ⟨Nat.le_of_ble_eq_true rfl, Nat.le_of_ble_eq_true rfl⟩ dX13_addValley_1 (t := 4) rfl rfl ?_
  refine J_lstore (lc2 := [(4, .long x2), (0, .ref (adr G 15 0)), (1, .int p1), (2, .int p2), (3, .int p3)]) hX dX13_addValley_4 (Nat.le_of_ble_eq_true rfl) rfl (t := 6) rfl ?_
  refine J_aload_n hX dX13_addValley_6 1 rfl (t := 7) rfl ?_
  refine J_iload_n hX dX13_addValley_7 2 rfl (t := 8) rfl ?_
  obtain ⟨x5, h4, hF⟩ := bnd_e hF
  have k6 := (ctX13_isWidth (l := l) (G := G) (w := w) p1 h4)
  refine J_callS hX [.int p1] [.ref (adr G 15 0)] [.int (bI x5), .ref (adr G 15 0)] k6 miX13_isWidth q_2132 q_2131 ⟨rfl, rfl, Nat.le_of_ble_eq_true rfl, Nat.le_of_ble_eq_true rfl⟩ rfl rfl (Nat.le_of_ble_eq_true rfl) ⟨Nat.le_of_ble_eq_true rfl, Nat.le_of_ble_eq_true rfl⟩ dX13_addValley_8 (t := 11) rfl rfl ?_
  refine J_ifZ_eq (tgt := 32) hX dX13_addValley_11 (by decide) (t := 14) rfl (fun z => ?_) (fun z => ?_)
  · replace hF := ib_f hF z
    refine J_iconst (v := 0) hX dX13_addValley_32 (by decide) (t := 33) rfl ?_
    refine J_aload_n hX dX13_addValley_33 1 rfl (t := 34) rfl ?_
    refine J_iconst (v := 0) hX dX13_addValley_34 (by decide) (t := 35) rfl ?_
    refine J_lload hX dX13_addValley_35 0 rfl (t := 37) rfl ?_
    obtain ⟨x8, h7, hF⟩ := bo1_e hF
    have k9 := (ctX13_isNew (G := G) (l := l) w 0 x2 n h7)
    refine J_callV hX [.int 0, .long x2] [.int 0, .ref (adr G 15 0)] [.int (bI x8), .int 0, .ref (adr G 15 0)] k9 miX13_isNew mvX13_isNew cb10 kModel q_2143 ⟨rfl, rfl, Nat.le_of_ble_eq_true rfl, Nat.le_of_ble_eq_true rfl⟩ rfl rfl (Nat.le_of_ble_eq_true rfl) ⟨Nat.le_of_ble_eq_true rfl, Nat.le_of_ble_eq_true rfl⟩ dX13_addValley_37 (t := 40) rfl rfl ?_
    obtain ⟨x11, w12, h10, hF⟩ := bnd2_e hF
    have k13 := (ctX13_goesBoth (G := G) (l := l) w false x8 h10)
    refine J_callV hX [.int (bI false), .int (bI x8)] [] [.int (bI x11)] k13 miX13_goesBoth mvX13_goesBoth cb10 kModel q_2164 ⟨rfl, rfl, Nat.le_of_ble_eq_true rfl, Nat.le_of_ble_eq_true rfl⟩ rfl rfl (Nat.le_of_ble_eq_true rfl) ⟨Nat.le_of_ble_eq_true rfl, Nat.le_of_ble_eq_true rfl⟩ dX13_addValley_40 (t := 43) rfl rfl ?_
    refine J_ifZ_ne (tgt := 48) hX dX13_addValley_43 (by decide) (t := 46) rfl (fun z => ?_) (fun z => ?_)
    · replace hF := it_t hF z
      refine J_aload_n hX dX13_addValley_48 1 rfl (t := 49) rfl ?_
      obtain ⟨w15, h14, hF⟩ := bo1_e hF
      have k16 := (ctX13_laysAside (G := G) (l := l) w12  n h14)
      refine J_callV hX [] [] [] k16 miX13_laysAside mvX13_laysAside cb10 kModel q_2168 ⟨rfl, rfl, Nat.le_of_ble_eq_true rfl, Nat.le_of_ble_eq_true rfl⟩ rfl rfl (Nat.le_of_ble_eq_true rfl) ⟨Nat.le_of_ble_eq_true rfl, Nat.le_of_ble_eq_true rfl⟩ dX13_addValley_49 (t := 52) rfl rfl ?_
      refine J_aload_n hX dX13_addValley_52 1 rfl (t := 53) rfl ?_
      refine J_iconst (v := 0) hX dX13_addValley_53 (by decide) (t := 54) rfl ?_
      obtain ⟨w17, e18, hF⟩ := bnd_e hF
      refine J_puti hX cb10 kModel 2 (by decide) q_1969 rfl rfl e18 (fun _ _ => Nat.le_of_ble_eq_true rfl) (fun _ _ => rfl) dX13_addValley_54 (t := 57) rfl ?_
      refine J_aload_n hX dX13_addValley_57 1 rfl (t := 58) rfl ?_
      refine J_aload_n hX dX13_addValley_58 1 rfl (t := 59) rfl ?_
      refine J_lload hX dX13_addValley_59 0 rfl (t := 61) rfl ?_
      refine J_iload_n hX dX13_addValley_61 2 rfl (t := 62) rfl ?_
      refine J_iload_n hX dX13_addValley_62 3 rfl (t := 63) rfl ?_
      refine J_iload_n hX dX13_addValley_63 4 rfl (t := 64) rfl ?_
      obtain ⟨x20, w21, h19, hF⟩ := bo2_e hF
      have k22 := (ctX13_addsValley (G := G) (l := l) w17 x2 p1 p2 p3 h19)
      refine J_callV hX [.long x2, .int p1, .int p2, .int p3] [.ref (adr G 15 0)] [.int x20, .ref (adr G 15 0)] k22 miX13_addsValley mvX13_addsValley cb10 kModel q_2172 ⟨rfl, rfl, Nat.le_of_ble_eq_true rfl, Nat.le_of_ble_eq_true rfl⟩ rfl rfl (Nat.le_of_ble_eq_true rfl) ⟨Nat.le_of_ble_eq_true rfl, Nat.le_of_ble_eq_true rfl⟩ dX13_addValley_64 (t := 67) rfl rfl ?_
      obtain ⟨x24, w25, h23, hF⟩ := bo2_e hF
      have k26 := (ctX13_kept (G := G) (l := l) w21 x20 n h23)
      refine J_callV hX [.int x20] [] [.int x24] k26 miX13_kept mvX13_kept cb10 kModel q_2181 ⟨rfl, rfl, Nat.le_of_ble_eq_true rfl, Nat.le_of_ble_eq_true rfl⟩ rfl rfl (Nat.le_of_ble_eq_true rfl) ⟨Nat.le_of_ble_eq_true rfl, Nat.le_of_ble_eq_true rfl⟩ dX13_addValley_67 (t := 70) rfl rfl ?_
      replace hF := Option.some.inj hF
      obtain ⟨hF, hF2⟩ := Prod.mk.inj hF
      subst hF
      subst hF2
      exact J_iret hX hR hlk dX13_addValley_70
    · replace hF := ib_f hF z
      refine J_iconst (v := 0) hX dX13_addValley_46 (by decide) (t := 47) rfl ?_
      replace hF := Option.some.inj hF
      obtain ⟨hF, hF2⟩ := Prod.mk.inj hF
      subst hF
      subst hF2
      exact J_iret hX hR hlk dX13_addValley_47
  · replace hF := it_t hF z
    refine J_iload_n hX dX13_addValley_14 3 rfl (t := 15) rfl ?_
    obtain ⟨x28, h27, hF⟩ := bnd_e hF
    have k29 := (ctX13_areWalls (l := l) (G := G) (w := w) p2 h27)
    refine J_callS hX [.int p2] [.ref (adr G 15 0)] [.int (bI x28), .ref (adr G 15 0)] k29 miX13_areWalls q_2136 q_2135 ⟨rfl, rfl, Nat.le_of_ble_eq_true rfl, Nat.le_of_ble_eq_true rfl⟩ rfl rfl (Nat.le_of_ble_eq_true rfl) ⟨Nat.le_of_ble_eq_true rfl, Nat.le_of_ble_eq_true rfl⟩ dX13_addValley_15 (t := 18) rfl rfl ?_
    refine J_ifZ_eq (tgt := 32) hX dX13_addValley_18 (by decide) (t := 21) rfl (fun z => ?_) (fun z => ?_)
    · replace hF := ib_f hF z
      refine J_iconst (v := 0) hX dX13_addValley_32 (by decide) (t := 33) rfl ?_
      refine J_aload_n hX dX13_addValley_33 1 rfl (t := 34) rfl ?_
      refine J_iconst (v := 0) hX dX13_addValley_34 (by decide) (t := 35) rfl ?_
      refine J_lload hX dX13_addValley_35 0 rfl (t := 37) rfl ?_
      obtain ⟨x31, h30, hF⟩ := bo1_e hF
      have k32 := (ctX13_isNew (G := G) (l := l) w 0 x2 n h30)
      refine J_callV hX [.int 0, .long x2] [.int 0, .ref (adr G 15 0)] [.int (bI x31), .int 0, .ref (adr G 15 0)] k32 miX13_isNew mvX13_isNew cb10 kModel q_2143 ⟨rfl, rfl, Nat.le_of_ble_eq_true rfl, Nat.le_of_ble_eq_true rfl⟩ rfl rfl (Nat.le_of_ble_eq_true rfl) ⟨Nat.le_of_ble_eq_true rfl, Nat.le_of_ble_eq_true rfl⟩ dX13_addValley_37 (t := 40) rfl rfl ?_
      obtain ⟨x34, w35, h33, hF⟩ := bnd2_e hF
      have k36 := (ctX13_goesBoth (G := G) (l := l) w false x31 h33)
      refine J_callV hX [.int (bI false), .int (bI x31)] [] [.int (bI x34)] k36 miX13_goesBoth mvX13_goesBoth cb10 kModel q_2164 ⟨rfl, rfl, Nat.le_of_ble_eq_true rfl, Nat.le_of_ble_eq_true rfl⟩ rfl rfl (Nat.le_of_ble_eq_true rfl) ⟨Nat.le_of_ble_eq_true rfl, Nat.le_of_ble_eq_true rfl⟩ dX13_addValley_40 (t := 43) rfl rfl ?_
      refine J_ifZ_ne (tgt := 48) hX dX13_addValley_43 (by decide) (t := 46) rfl (fun z => ?_) (fun z => ?_)
      · replace hF := it_t hF z
        refine J_aload_n hX dX13_addValley_48 1 rfl (t := 49) rfl ?_
        obtain ⟨w38, h37, hF⟩ := bo1_e hF
        have k39 := (ctX13_laysAside (G := G) (l := l) w35  n h37)
        refine J_callV hX [] [] [] k39 miX13_laysAside mvX13_laysAside cb10 kModel q_2168 ⟨rfl, rfl, Nat.le_of_ble_eq_true rfl, Nat.le_of_ble_eq_true rfl⟩ rfl rfl (Nat.le_of_ble_eq_true rfl) ⟨Nat.le_of_ble_eq_true rfl, Nat.le_of_ble_eq_true rfl⟩ dX13_addValley_49 (t := 52) rfl rfl ?_
        refine J_aload_n hX dX13_addValley_52 1 rfl (t := 53) rfl ?_
        refine J_iconst (v := 0) hX dX13_addValley_53 (by decide) (t := 54) rfl ?_
        obtain ⟨w40, e41, hF⟩ := bnd_e hF
        refine J_puti hX cb10 kModel 2 (by decide) q_1969 rfl rfl e41 (fun _ _ => Nat.le_of_ble_eq_true rfl) (fun _ _ => rfl) dX13_addValley_54 (t := 57) rfl ?_
        refine J_aload_n hX dX13_addValley_57 1 rfl (t := 58) rfl ?_
        refine J_aload_n hX dX13_addValley_58 1 rfl (t := 59) rfl ?_
        refine J_lload hX dX13_addValley_59 0 rfl (t := 61) rfl ?_
        refine J_iload_n hX dX13_addValley_61 2 rfl (t := 62) rfl ?_
        refine J_iload_n hX dX13_addValley_62 3 rfl (t := 63) rfl ?_
        refine J_iload_n hX dX13_addValley_63 4 rfl (t := 64) rfl ?_
        obtain ⟨x43, w44, h42, hF⟩ := bo2_e hF
        have k45 := (ctX13_addsValley (G := G) (l := l) w40 x2 p1 p2 p3 h42)
        refine J_callV hX [.long x2, .int p1, .int p2, .int p3] [.ref (adr G 15 0)] [.int x43, .ref (adr G 15 0)] k45 miX13_addsValley mvX13_addsValley cb10 kModel q_2172 ⟨rfl, rfl, Nat.le_of_ble_eq_true rfl, Nat.le_of_ble_eq_true rfl⟩ rfl rfl (Nat.le_of_ble_eq_true rfl) ⟨Nat.le_of_ble_eq_true rfl, Nat.le_of_ble_eq_true rfl⟩ dX13_addValley_64 (t := 67) rfl rfl ?_
        obtain ⟨x47, w48, h46, hF⟩ := bo2_e hF
        have k49 := (ctX13_kept (G := G) (l := l) w44 x43 n h46)
        refine J_callV hX [.int x43] [] [.int x47] k49 miX13_kept mvX13_kept cb10 kModel q_2181 ⟨rfl, rfl, Nat.le_of_ble_eq_true rfl, Nat.le_of_ble_eq_true rfl⟩ rfl rfl (Nat.le_of_ble_eq_true rfl) ⟨Nat.le_of_ble_eq_true rfl, Nat.le_of_ble_eq_true rfl⟩ dX13_addValley_67 (t := 70) rfl rfl ?_
        replace hF := Option.some.inj hF
        obtain ⟨hF, hF2⟩ := Prod.mk.inj hF
        subst hF
        subst hF2
        exact J_iret hX hR hlk dX13_addValley_70
      · replace hF := ib_f hF z
        refine J_iconst (v := 0) hX dX13_addValley_46 (by decide) (t := 47) rfl ?_
        replace hF := Option.some.inj hF
        obtain ⟨hF, hF2⟩ := Prod.mk.inj hF
        subst hF
        subst hF2
        exact J_iret hX hR hlk dX13_addValley_47
    · replace hF := it_t hF z
      refine J_iload_n hX dX13_addValley_21 4 rfl (t := 22) rfl ?_
      obtain ⟨x51, h50, hF⟩ := bnd_e hF
      have k52 := (ctX13_isPrice (l := l) (G := G) (w := w) p3 h50)
      refine J_callS hX [.int p3] [.ref (adr G 15 0)] [.int (bI x51), .ref (adr G 15 0)] k52 miX13_isPrice q_2140 q_2139 ⟨rfl, rfl, Nat.le_of_ble_eq_true rfl, Nat.le_of_ble_eq_true rfl⟩ rfl rfl (Nat.le_of_ble_eq_true rfl) ⟨Nat.le_of_ble_eq_true rfl, Nat.le_of_ble_eq_true rfl⟩ dX13_addValley_22 (t := 25) rfl rfl ?_
      refine J_ifZ_eq (tgt := 32) hX dX13_addValley_25 (by decide) (t := 28) rfl (fun z => ?_) (fun z => ?_)
      · replace hF := ib_f hF z
        refine J_iconst (v := 0) hX dX13_addValley_32 (by decide) (t := 33) rfl ?_
        refine J_aload_n hX dX13_addValley_33 1 rfl (t := 34) rfl ?_
        refine J_iconst (v := 0) hX dX13_addValley_34 (by decide) (t := 35) rfl ?_
        refine J_lload hX dX13_addValley_35 0 rfl (t := 37) rfl ?_
        obtain ⟨x54, h53, hF⟩ := bo1_e hF
        have k55 := (ctX13_isNew (G := G) (l := l) w 0 x2 n h53)
        refine J_callV hX [.int 0, .long x2] [.int 0, .ref (adr G 15 0)] [.int (bI x54), .int 0, .ref (adr G 15 0)] k55 miX13_isNew mvX13_isNew cb10 kModel q_2143 ⟨rfl, rfl, Nat.le_of_ble_eq_true rfl, Nat.le_of_ble_eq_true rfl⟩ rfl rfl (Nat.le_of_ble_eq_true rfl) ⟨Nat.le_of_ble_eq_true rfl, Nat.le_of_ble_eq_true rfl⟩ dX13_addValley_37 (t := 40) rfl rfl ?_
        obtain ⟨x57, w58, h56, hF⟩ := bnd2_e hF
        have k59 := (ctX13_goesBoth (G := G) (l := l) w false x54 h56)
        refine J_callV hX [.int (bI false), .int (bI x54)] [] [.int (bI x57)] k59 miX13_goesBoth mvX13_goesBoth cb10 kModel q_2164 ⟨rfl, rfl, Nat.le_of_ble_eq_true rfl, Nat.le_of_ble_eq_true rfl⟩ rfl rfl (Nat.le_of_ble_eq_true rfl) ⟨Nat.le_of_ble_eq_true rfl, Nat.le_of_ble_eq_true rfl⟩ dX13_addValley_40 (t := 43) rfl rfl ?_
        refine J_ifZ_ne (tgt := 48) hX dX13_addValley_43 (by decide) (t := 46) rfl (fun z => ?_) (fun z => ?_)
        · replace hF := it_t hF z
          refine J_aload_n hX dX13_addValley_48 1 rfl (t := 49) rfl ?_
          obtain ⟨w61, h60, hF⟩ := bo1_e hF
          have k62 := (ctX13_laysAside (G := G) (l := l) w58  n h60)
          refine J_callV hX [] [] [] k62 miX13_laysAside mvX13_laysAside cb10 kModel q_2168 ⟨rfl, rfl, Nat.le_of_ble_eq_true rfl, Nat.le_of_ble_eq_true rfl⟩ rfl rfl (Nat.le_of_ble_eq_true rfl) ⟨Nat.le_of_ble_eq_true rfl, Nat.le_of_ble_eq_true rfl⟩ dX13_addValley_49 (t := 52) rfl rfl ?_
          refine J_aload_n hX dX13_addValley_52 1 rfl (t := 53) rfl ?_
          refine J_iconst (v := 0) hX dX13_addValley_53 (by decide) (t := 54) rfl ?_
          obtain ⟨w63, e64, hF⟩ := bnd_e hF
          refine J_puti hX cb10 kModel 2 (by decide) q_1969 rfl rfl e64 (fun _ _ => Nat.le_of_ble_eq_true rfl) (fun _ _ => rfl) dX13_addValley_54 (t := 57) rfl ?_
          refine J_aload_n hX dX13_addValley_57 1 rfl (t := 58) rfl ?_
          refine J_aload_n hX dX13_addValley_58 1 rfl (t := 59) rfl ?_
          refine J_lload hX dX13_addValley_59 0 rfl (t := 61) rfl ?_
          refine J_iload_n hX dX13_addValley_61 2 rfl (t := 62) rfl ?_
          refine J_iload_n hX dX13_addValley_62 3 rfl (t := 63) rfl ?_
          refine J_iload_n hX dX13_addValley_63 4 rfl (t := 64) rfl ?_
          obtain ⟨x66, w67, h65, hF⟩ := bo2_e hF
          have k68 := (ctX13_addsValley (G := G) (l := l) w63 x2 p1 p2 p3 h65)
          refine J_callV hX [.long x2, .int p1, .int p2, .int p3] [.ref (adr G 15 0)] [.int x66, .ref (adr G 15 0)] k68 miX13_addsValley mvX13_addsValley cb10 kModel q_2172 ⟨rfl, rfl, Nat.le_of_ble_eq_true rfl, Nat.le_of_ble_eq_true rfl⟩ rfl rfl (Nat.le_of_ble_eq_true rfl) ⟨Nat.le_of_ble_eq_true rfl, Nat.le_of_ble_eq_true rfl⟩ dX13_addValley_64 (t := 67) rfl rfl ?_
          obtain ⟨x70, w71, h69, hF⟩ := bo2_e hF
          have k72 := (ctX13_kept (G := G) (l := l) w67 x66 n h69)
          refine J_callV hX [.int x66] [] [.int x70] k72 miX13_kept mvX13_kept cb10 kModel q_2181 ⟨rfl, rfl, Nat.le_of_ble_eq_true rfl, Nat.le_of_ble_eq_true rfl⟩ rfl rfl (Nat.le_of_ble_eq_true rfl) ⟨Nat.le_of_ble_eq_true rfl, Nat.le_of_ble_eq_true rfl⟩ dX13_addValley_67 (t := 70) rfl rfl ?_
          replace hF := Option.some.inj hF
          obtain ⟨hF, hF2⟩ := Prod.mk.inj hF
          subst hF
          subst hF2
          exact J_iret hX hR hlk dX13_addValley_70
        · replace hF := ib_f hF z
          refine J_iconst (v := 0) hX dX13_addValley_46 (by decide) (t := 47) rfl ?_
          replace hF := Option.some.inj hF
          obtain ⟨hF, hF2⟩ := Prod.mk.inj hF
          subst hF
          subst hF2
          exact J_iret hX hR hlk dX13_addValley_47
      · replace hF := it_t hF z
        refine J_iconst (v := 1) hX dX13_addValley_28 (by decide) (t := 29) rfl ?_
        refine J_goto (tgt := 33) hX dX13_addValley_29 (by decide) ?_
        refine J_aload_n hX dX13_addValley_33 1 rfl (t := 34) rfl ?_
        refine J_iconst (v := 0) hX dX13_addValley_34 (by decide) (t := 35) rfl ?_
        refine J_lload hX dX13_addValley_35 0 rfl (t := 37) rfl ?_
        obtain ⟨x74, h73, hF⟩ := bo1_e hF
        have k75 := (ctX13_isNew (G := G) (l := l) w 0 x2 n h73)
        refine J_callV hX [.int 0, .long x2] [.int 1, .ref (adr G 15 0)] [.int (bI x74), .int 1, .ref (adr G 15 0)] k75 miX13_isNew mvX13_isNew cb10 kModel q_2143 ⟨rfl, rfl, Nat.le_of_ble_eq_true rfl, Nat.le_of_ble_eq_true rfl⟩ rfl rfl (Nat.le_of_ble_eq_true rfl) ⟨Nat.le_of_ble_eq_true rfl, Nat.le_of_ble_eq_true rfl⟩ dX13_addValley_37 (t := 40) rfl rfl ?_
        obtain ⟨x77, w78, h76, hF⟩ := bnd2_e hF
        have k79 := (ctX13_goesBoth (G := G) (l := l) w true x74 h76)
        refine J_callV hX [.int (bI true), .int (bI x74)] [] [.int (bI x77)] k79 miX13_goesBoth mvX13_goesBoth cb10 kModel q_2164 ⟨rfl, rfl, Nat.le_of_ble_eq_true rfl, Nat.le_of_ble_eq_true rfl⟩ rfl rfl (Nat.le_of_ble_eq_true rfl) ⟨Nat.le_of_ble_eq_true rfl, Nat.le_of_ble_eq_true rfl⟩ dX13_addValley_40 (t := 43) rfl rfl ?_
        refine J_ifZ_ne (tgt := 48) hX dX13_addValley_43 (by decide) (t := 46) rfl (fun z => ?_) (fun z => ?_)
        · replace hF := it_t hF z
          refine J_aload_n hX dX13_addValley_48 1 rfl (t := 49) rfl ?_
          obtain ⟨w81, h80, hF⟩ := bo1_e hF
          have k82 := (ctX13_laysAside (G := G) (l := l) w78  n h80)
          refine J_callV hX [] [] [] k82 miX13_laysAside mvX13_laysAside cb10 kModel q_2168 ⟨rfl, rfl, Nat.le_of_ble_eq_true rfl, Nat.le_of_ble_eq_true rfl⟩ rfl rfl (Nat.le_of_ble_eq_true rfl) ⟨Nat.le_of_ble_eq_true rfl, Nat.le_of_ble_eq_true rfl⟩ dX13_addValley_49 (t := 52) rfl rfl ?_
          refine J_aload_n hX dX13_addValley_52 1 rfl (t := 53) rfl ?_
          refine J_iconst (v := 0) hX dX13_addValley_53 (by decide) (t := 54) rfl ?_
          obtain ⟨w83, e84, hF⟩ := bnd_e hF
          refine J_puti hX cb10 kModel 2 (by decide) q_1969 rfl rfl e84 (fun _ _ => Nat.le_of_ble_eq_true rfl) (fun _ _ => rfl) dX13_addValley_54 (t := 57) rfl ?_
          refine J_aload_n hX dX13_addValley_57 1 rfl (t := 58) rfl ?_
          refine J_aload_n hX dX13_addValley_58 1 rfl (t := 59) rfl ?_
          refine J_lload hX dX13_addValley_59 0 rfl (t := 61) rfl ?_
          refine J_iload_n hX dX13_addValley_61 2 rfl (t := 62) rfl ?_
          refine J_iload_n hX dX13_addValley_62 3 rfl (t := 63) rfl ?_
          refine J_iload_n hX dX13_addValley_63 4 rfl (t := 64) rfl ?_
          obtain ⟨x86, w87, h85, hF⟩ := bo2_e hF
          have k88 := (ctX13_addsValley (G := G) (l := l) w83 x2 p1 p2 p3 h85)
          refine J_callV hX [.long x2, .int p1, .int p2, .int p3] [.ref (adr G 15 0)] [.int x86, .ref (adr G 15 0)] k88 miX13_addsValley mvX13_addsValley cb10 kModel q_2172 ⟨rfl, rfl, Nat.le_of_ble_eq_true rfl, Nat.le_of_ble_eq_true rfl⟩ rfl rfl (Nat.le_of_ble_eq_true rfl) ⟨Nat.le_of_ble_eq_true rfl, Nat.le_of_ble_eq_true rfl⟩ dX13_addValley_64 (t := 67) rfl rfl ?_
          obtain ⟨x90, w91, h89, hF⟩ := bo2_e hF
          have k92 := (ctX13_kept (G := G) (l := l) w87 x86 n h89)
          refine J_callV hX [.int x86] [] [.int x90] k92 miX13_kept mvX13_kept cb10 kModel q_2181 ⟨rfl, rfl, Nat.le_of_ble_eq_true rfl, Nat.le_of_ble_eq_true rfl⟩ rfl rfl (Nat.le_of_ble_eq_true rfl) ⟨Nat.le_of_ble_eq_true rfl, Nat.le_of_ble_eq_true rfl⟩ dX13_addValley_67 (t := 70) rfl rfl ?_
          replace hF := Option.some.inj hF
          obtain ⟨hF, hF2⟩ := Prod.mk.inj hF
          subst hF
          subst hF2
          exact J_iret hX hR hlk dX13_addValley_70
        · replace hF := ib_f hF z
          refine J_iconst (v := 0) hX dX13_addValley_46 (by decide) (t := 47) rfl ?_
          replace hF := Option.some.inj hF
          obtain ⟨hF, hF2⟩ := Prod.mk.inj hF
          subst hF
          subst hF2
          exact J_iret hX hR hlk dX13_addValley_47
abbrev rmX13_addCustomer : Room := { frames := 4, cells := 0, slots := 0, locals := 88 }
theorem miX13_addCustomer : MI yX13_addCustomer cX13_addCustomer 5 (some .int) 2 := ⟨q_2192, q_152, by decide +kernel, by decide +kernel, by decide +kernel, by decide +kernel⟩
theorem mvX13_addCustomer : MV yX13_addCustomer := ⟨q_2190, q_2191⟩
def FX13_addCustomer (n : Nat) (w : Wd) (p1 : Int32) (p2 : Int32) : Option (Int32 × Wd) :=
  bo1 (FX13_bufferName n w) fun x2 =>
  bnd (FX13_isPatience p1) fun x5 =>
  if x5 = true then
    bnd (FX13_isMoney p2) fun x28 =>
    if x28 = true then
      bo1 (FX13_isNew n w 1 x2) fun x51 =>
      bnd2 (FX13_goesBoth w true x51) fun x54 w55 =>
      if x54 = true then
        bo1 (FX13_laysAside n w55) fun w58 =>
        bnd (sW w58 15 (sI (w58 15) 0 2 0)) fun w60 =>
        bo2 (FX13_addsCustomer w60 x2 p1 p2) fun x63 w64 =>
        bo2 (FX13_kept n w64 x63) fun x67 w68 =>
        some (x67, w68)
      else
        some (0, w55)
    else
      bo1 (FX13_isNew n w 1 x2) fun x31 =>
      bnd2 (FX13_goesBoth w false x31) fun x34 w35 =>
      if x34 = true then
        bo1 (FX13_laysAside n w35) fun w38 =>
        bnd (sW w38 15 (sI (w38 15) 0 2 0)) fun w40 =>
        bo2 (FX13_addsCustomer w40 x2 p1 p2) fun x43 w44 =>
        bo2 (FX13_kept n w44 x43) fun x47 w48 =>
        some (x47, w48)
      else
        some (0, w35)
  else
    bo1 (FX13_isNew n w 1 x2) fun x8 =>
    bnd2 (FX13_goesBoth w false x8) fun x11 w12 =>
    if x11 = true then
      bo1 (FX13_laysAside n w12) fun w15 =>
      bnd (sW w15 15 (sI (w15 15) 0 2 0)) fun w17 =>
      bo2 (FX13_addsCustomer w17 x2 p1 p2) fun x20 w21 =>
      bo2 (FX13_kept n w21 x20) fun x24 w25 =>
      some (x24, w25)
    else
      some (0, w12)
set_option maxHeartbeats 4000000 in
set_option maxRecDepth 100000 in
theorem ctX13_addCustomer {G : GG} {l : Launch} (w : Wd) (p1 : Int32) (p2 : Int32)  (n : Nat) {rx : Int32} {rw : Wd} (hF : FX13_addCustomer n w p1 p2 = some (rx, rw)) : CT G l yX13_addCustomer cX13_addCustomer 5 (some .int) rmX13_addCustomer 0 0 [.ref (adr G 15 0), .int p1, .int p2] w (some (.int rx)) rw := by
  refine CT.of miX13_addCustomer [(0, .ref (adr G 15 0)), (1, .int p1), (2, .int p2)] rfl (Nat.le_of_ble_eq_true rfl) ?_
  intro p e s m args below meth c hX hR hlk
  have hX : FX G RX13 cX13_addCustomer 5 p s m args c := hX
  unfold FX13_addCustomer at hF
  refine J_aload_n hX dX13_addCustomer_0 0 rfl (t := 1) rfl ?_
  obtain ⟨x2, h1, hF⟩ := bo1_e hF
  have k3 := (ctX13_bufferName (G := G) (l := l) w  n h1)
  refine J_callV hX [] [] [.long x2] k3 miX13_bufferName mvX13_bufferName cb10 kModel q_2123 ⟨rfl, rfl, Nat.le_of_ble_eq_true rfl, Nat.le_of_ble_eq_true rfl⟩ rfl rfl (Nat.le_of_ble_eq_true rfl) ⟨Nat.le_of_ble_eq_true rfl, Nat.le_of_ble_eq_true rfl⟩ dX13_addCustomer_1 (t := 4) rfl rfl ?_
  refine J_lstore_n (lc2 := [(3, .long x2), (0, .ref (adr G 15 0)), (1, .int p1), (2, .int p2)]) hX dX13_addCustomer_4 rfl (Nat.le_of_ble_eq_true rfl) rfl (t := 5) rfl ?_
  refine J_aload_n hX dX13_addCustomer_5 1 rfl (t := 6) rfl ?_
  refine J_iload_n hX dX13_addCustomer_6 2 rfl (t := 7) rfl ?_
  obtain ⟨x5, h4, hF⟩ := bnd_e hF
  have k6 := (ctX13_isPatience (l := l) (G := G) (w := w) p1 h4)
  refine J_callS hX [.int p1] [.ref (adr G 15 0)] [.int (bI x5), .ref (adr G 15 0)] k6 miX13_isPatience q_2194 q_2193 ⟨rfl, rfl, Nat.le_of_ble_eq_true rfl, Nat.le_of_ble_eq_true rfl⟩ rfl rfl (Nat.le_of_ble_eq_true rfl) ⟨Nat.le_of_ble_eq_true rfl, Nat.le_of_ble_eq_true rfl⟩ dX13_addCustomer_7 (t := 10) rfl rfl ?_
  refine J_ifZ_eq (tgt := 24) hX dX13_addCustomer_10 (by decide) (t := 13) rfl (fun z => ?_) (fun z => ?_)
  · replace hF := ib_f hF z
    refine J_iconst (v := 0) hX dX13_addCustomer_24 (by decide) (t := 25) rfl ?_
    refine J_aload_n hX dX13_addCustomer_25 1 rfl (t := 26) rfl ?_
    refine J_iconst (v := 1) hX dX13_addCustomer_26 (by decide) (t := 27) rfl ?_
    refine J_lload_n hX dX13_addCustomer_27 0 rfl (t := 28) rfl ?_
    obtain ⟨x8, h7, hF⟩ := bo1_e hF
    have k9 := (ctX13_isNew (G := G) (l := l) w 1 x2 n h7)
    refine J_callV hX [.int 1, .long x2] [.int 0, .ref (adr G 15 0)] [.int (bI x8), .int 0, .ref (adr G 15 0)] k9 miX13_isNew mvX13_isNew cb10 kModel q_2143 ⟨rfl, rfl, Nat.le_of_ble_eq_true rfl, Nat.le_of_ble_eq_true rfl⟩ rfl rfl (Nat.le_of_ble_eq_true rfl) ⟨Nat.le_of_ble_eq_true rfl, Nat.le_of_ble_eq_true rfl⟩ dX13_addCustomer_28 (t := 31) rfl rfl ?_
    obtain ⟨x11, w12, h10, hF⟩ := bnd2_e hF
    have k13 := (ctX13_goesBoth (G := G) (l := l) w false x8 h10)
    refine J_callV hX [.int (bI false), .int (bI x8)] [] [.int (bI x11)] k13 miX13_goesBoth mvX13_goesBoth cb10 kModel q_2164 ⟨rfl, rfl, Nat.le_of_ble_eq_true rfl, Nat.le_of_ble_eq_true rfl⟩ rfl rfl (Nat.le_of_ble_eq_true rfl) ⟨Nat.le_of_ble_eq_true rfl, Nat.le_of_ble_eq_true rfl⟩ dX13_addCustomer_31 (t := 34) rfl rfl ?_
    refine J_ifZ_ne (tgt := 39) hX dX13_addCustomer_34 (by decide) (t := 37) rfl (fun z => ?_) (fun z => ?_)
    · replace hF := it_t hF z
      refine J_aload_n hX dX13_addCustomer_39 1 rfl (t := 40) rfl ?_
      obtain ⟨w15, h14, hF⟩ := bo1_e hF
      have k16 := (ctX13_laysAside (G := G) (l := l) w12  n h14)
      refine J_callV hX [] [] [] k16 miX13_laysAside mvX13_laysAside cb10 kModel q_2168 ⟨rfl, rfl, Nat.le_of_ble_eq_true rfl, Nat.le_of_ble_eq_true rfl⟩ rfl rfl (Nat.le_of_ble_eq_true rfl) ⟨Nat.le_of_ble_eq_true rfl, Nat.le_of_ble_eq_true rfl⟩ dX13_addCustomer_40 (t := 43) rfl rfl ?_
      refine J_aload_n hX dX13_addCustomer_43 1 rfl (t := 44) rfl ?_
      refine J_iconst (v := 0) hX dX13_addCustomer_44 (by decide) (t := 45) rfl ?_
      obtain ⟨w17, e18, hF⟩ := bnd_e hF
      refine J_puti hX cb10 kModel 2 (by decide) q_1969 rfl rfl e18 (fun _ _ => Nat.le_of_ble_eq_true rfl) (fun _ _ => rfl) dX13_addCustomer_45 (t := 48) rfl ?_
      refine J_aload_n hX dX13_addCustomer_48 1 rfl (t := 49) rfl ?_
      refine J_aload_n hX dX13_addCustomer_49 1 rfl (t := 50) rfl ?_
      refine J_lload_n hX dX13_addCustomer_50 0 rfl (t := 51) rfl ?_
      refine J_iload_n hX dX13_addCustomer_51 2 rfl (t := 52) rfl ?_
      refine J_iload_n hX dX13_addCustomer_52 3 rfl (t := 53) rfl ?_
      obtain ⟨x20, w21, h19, hF⟩ := bo2_e hF
      have k22 := (ctX13_addsCustomer (G := G) (l := l) w17 x2 p1 p2 h19)
      refine J_callV hX [.long x2, .int p1, .int p2] [.ref (adr G 15 0)] [.int x20, .ref (adr G 15 0)] k22 miX13_addsCustomer mvX13_addsCustomer cb10 kModel q_2201 ⟨rfl, rfl, Nat.le_of_ble_eq_true rfl, Nat.le_of_ble_eq_true rfl⟩ rfl rfl (Nat.le_of_ble_eq_true rfl) ⟨Nat.le_of_ble_eq_true rfl, Nat.le_of_ble_eq_true rfl⟩ dX13_addCustomer_53 (t := 56) rfl rfl ?_
      obtain ⟨x24, w25, h23, hF⟩ := bo2_e hF
      have k26 := (ctX13_kept (G := G) (l := l) w21 x20 n h23)
      refine J_callV hX [.int x20] [] [.int x24] k26 miX13_kept mvX13_kept cb10 kModel q_2181 ⟨rfl, rfl, Nat.le_of_ble_eq_true rfl, Nat.le_of_ble_eq_true rfl⟩ rfl rfl (Nat.le_of_ble_eq_true rfl) ⟨Nat.le_of_ble_eq_true rfl, Nat.le_of_ble_eq_true rfl⟩ dX13_addCustomer_56 (t := 59) rfl rfl ?_
      replace hF := Option.some.inj hF
      obtain ⟨hF, hF2⟩ := Prod.mk.inj hF
      subst hF
      subst hF2
      exact J_iret hX hR hlk dX13_addCustomer_59
    · replace hF := ib_f hF z
      refine J_iconst (v := 0) hX dX13_addCustomer_37 (by decide) (t := 38) rfl ?_
      replace hF := Option.some.inj hF
      obtain ⟨hF, hF2⟩ := Prod.mk.inj hF
      subst hF
      subst hF2
      exact J_iret hX hR hlk dX13_addCustomer_38
  · replace hF := it_t hF z
    refine J_iload_n hX dX13_addCustomer_13 3 rfl (t := 14) rfl ?_
    obtain ⟨x28, h27, hF⟩ := bnd_e hF
    have k29 := (ctX13_isMoney (l := l) (G := G) (w := w) p2 h27)
    refine J_callS hX [.int p2] [.ref (adr G 15 0)] [.int (bI x28), .ref (adr G 15 0)] k29 miX13_isMoney q_2198 q_2197 ⟨rfl, rfl, Nat.le_of_ble_eq_true rfl, Nat.le_of_ble_eq_true rfl⟩ rfl rfl (Nat.le_of_ble_eq_true rfl) ⟨Nat.le_of_ble_eq_true rfl, Nat.le_of_ble_eq_true rfl⟩ dX13_addCustomer_14 (t := 17) rfl rfl ?_
    refine J_ifZ_eq (tgt := 24) hX dX13_addCustomer_17 (by decide) (t := 20) rfl (fun z => ?_) (fun z => ?_)
    · replace hF := ib_f hF z
      refine J_iconst (v := 0) hX dX13_addCustomer_24 (by decide) (t := 25) rfl ?_
      refine J_aload_n hX dX13_addCustomer_25 1 rfl (t := 26) rfl ?_
      refine J_iconst (v := 1) hX dX13_addCustomer_26 (by decide) (t := 27) rfl ?_
      refine J_lload_n hX dX13_addCustomer_27 0 rfl (t := 28) rfl ?_
      obtain ⟨x31, h30, hF⟩ := bo1_e hF
      have k32 := (ctX13_isNew (G := G) (l := l) w 1 x2 n h30)
      refine J_callV hX [.int 1, .long x2] [.int 0, .ref (adr G 15 0)] [.int (bI x31), .int 0, .ref (adr G 15 0)] k32 miX13_isNew mvX13_isNew cb10 kModel q_2143 ⟨rfl, rfl, Nat.le_of_ble_eq_true rfl, Nat.le_of_ble_eq_true rfl⟩ rfl rfl (Nat.le_of_ble_eq_true rfl) ⟨Nat.le_of_ble_eq_true rfl, Nat.le_of_ble_eq_true rfl⟩ dX13_addCustomer_28 (t := 31) rfl rfl ?_
      obtain ⟨x34, w35, h33, hF⟩ := bnd2_e hF
      have k36 := (ctX13_goesBoth (G := G) (l := l) w false x31 h33)
      refine J_callV hX [.int (bI false), .int (bI x31)] [] [.int (bI x34)] k36 miX13_goesBoth mvX13_goesBoth cb10 kModel q_2164 ⟨rfl, rfl, Nat.le_of_ble_eq_true rfl, Nat.le_of_ble_eq_true rfl⟩ rfl rfl (Nat.le_of_ble_eq_true rfl) ⟨Nat.le_of_ble_eq_true rfl, Nat.le_of_ble_eq_true rfl⟩ dX13_addCustomer_31 (t := 34) rfl rfl ?_
      refine J_ifZ_ne (tgt := 39) hX dX13_addCustomer_34 (by decide) (t := 37) rfl (fun z => ?_) (fun z => ?_)
      · replace hF := it_t hF z
        refine J_aload_n hX dX13_addCustomer_39 1 rfl (t := 40) rfl ?_
        obtain ⟨w38, h37, hF⟩ := bo1_e hF
        have k39 := (ctX13_laysAside (G := G) (l := l) w35  n h37)
        refine J_callV hX [] [] [] k39 miX13_laysAside mvX13_laysAside cb10 kModel q_2168 ⟨rfl, rfl, Nat.le_of_ble_eq_true rfl, Nat.le_of_ble_eq_true rfl⟩ rfl rfl (Nat.le_of_ble_eq_true rfl) ⟨Nat.le_of_ble_eq_true rfl, Nat.le_of_ble_eq_true rfl⟩ dX13_addCustomer_40 (t := 43) rfl rfl ?_
        refine J_aload_n hX dX13_addCustomer_43 1 rfl (t := 44) rfl ?_
        refine J_iconst (v := 0) hX dX13_addCustomer_44 (by decide) (t := 45) rfl ?_
        obtain ⟨w40, e41, hF⟩ := bnd_e hF
        refine J_puti hX cb10 kModel 2 (by decide) q_1969 rfl rfl e41 (fun _ _ => Nat.le_of_ble_eq_true rfl) (fun _ _ => rfl) dX13_addCustomer_45 (t := 48) rfl ?_
        refine J_aload_n hX dX13_addCustomer_48 1 rfl (t := 49) rfl ?_
        refine J_aload_n hX dX13_addCustomer_49 1 rfl (t := 50) rfl ?_
        refine J_lload_n hX dX13_addCustomer_50 0 rfl (t := 51) rfl ?_
        refine J_iload_n hX dX13_addCustomer_51 2 rfl (t := 52) rfl ?_
        refine J_iload_n hX dX13_addCustomer_52 3 rfl (t := 53) rfl ?_
        obtain ⟨x43, w44, h42, hF⟩ := bo2_e hF
        have k45 := (ctX13_addsCustomer (G := G) (l := l) w40 x2 p1 p2 h42)
        refine J_callV hX [.long x2, .int p1, .int p2] [.ref (adr G 15 0)] [.int x43, .ref (adr G 15 0)] k45 miX13_addsCustomer mvX13_addsCustomer cb10 kModel q_2201 ⟨rfl, rfl, Nat.le_of_ble_eq_true rfl, Nat.le_of_ble_eq_true rfl⟩ rfl rfl (Nat.le_of_ble_eq_true rfl) ⟨Nat.le_of_ble_eq_true rfl, Nat.le_of_ble_eq_true rfl⟩ dX13_addCustomer_53 (t := 56) rfl rfl ?_
        obtain ⟨x47, w48, h46, hF⟩ := bo2_e hF
        have k49 := (ctX13_kept (G := G) (l := l) w44 x43 n h46)
        refine J_callV hX [.int x43] [] [.int x47] k49 miX13_kept mvX13_kept cb10 kModel q_2181 ⟨rfl, rfl, Nat.le_of_ble_eq_true rfl, Nat.le_of_ble_eq_true rfl⟩ rfl rfl (Nat.le_of_ble_eq_true rfl) ⟨Nat.le_of_ble_eq_true rfl, Nat.le_of_ble_eq_true rfl⟩ dX13_addCustomer_56 (t := 59) rfl rfl ?_
        replace hF := Option.some.inj hF
        obtain ⟨hF, hF2⟩ := Prod.mk.inj hF
        subst hF
        subst hF2
        exact J_iret hX hR hlk dX13_addCustomer_59
      · replace hF := ib_f hF z
        refine J_iconst (v := 0) hX dX13_addCustomer_37 (by decide) (t := 38) rfl ?_
        replace hF := Option.some.inj hF
        obtain ⟨hF, hF2⟩ := Prod.mk.inj hF
        subst hF
        subst hF2
        exact J_iret hX hR hlk dX13_addCustomer_38
    · replace hF := it_t hF z
      refine J_iconst (v := 1) hX dX13_addCustomer_20 (by decide) (t := 21) rfl ?_
      refine J_goto (tgt := 25) hX dX13_addCustomer_21 (by decide) ?_
      refine J_aload_n hX dX13_addCustomer_25 1 rfl (t := 26) rfl ?_
      refine J_iconst (v := 1) hX dX13_addCustomer_26 (by decide) (t := 27) rfl ?_
      refine J_lload_n hX dX13_addCustomer_27 0 rfl (t := 28) rfl ?_
      obtain ⟨x51, h50, hF⟩ := bo1_e hF
      have k52 := (ctX13_isNew (G := G) (l := l) w 1 x2 n h50)
      refine J_callV hX [.int 1, .long x2] [.int 1, .ref (adr G 15 0)] [.int (bI x51), .int 1, .ref (adr G 15 0)] k52 miX13_isNew mvX13_isNew cb10 kModel q_2143 ⟨rfl, rfl, Nat.le_of_ble_eq_true rfl, Nat.le_of_ble_eq_true rfl⟩ rfl rfl (Nat.le_of_ble_eq_true rfl) ⟨Nat.le_of_ble_eq_true rfl, Nat.le_of_ble_eq_true rfl⟩ dX13_addCustomer_28 (t := 31) rfl rfl ?_
      obtain ⟨x54, w55, h53, hF⟩ := bnd2_e hF
      have k56 := (ctX13_goesBoth (G := G) (l := l) w true x51 h53)
      refine J_callV hX [.int (bI true), .int (bI x51)] [] [.int (bI x54)] k56 miX13_goesBoth mvX13_goesBoth cb10 kModel q_2164 ⟨rfl, rfl, Nat.le_of_ble_eq_true rfl, Nat.le_of_ble_eq_true rfl⟩ rfl rfl (Nat.le_of_ble_eq_true rfl) ⟨Nat.le_of_ble_eq_true rfl, Nat.le_of_ble_eq_true rfl⟩ dX13_addCustomer_31 (t := 34) rfl rfl ?_
      refine J_ifZ_ne (tgt := 39) hX dX13_addCustomer_34 (by decide) (t := 37) rfl (fun z => ?_) (fun z => ?_)
      · replace hF := it_t hF z
        refine J_aload_n hX dX13_addCustomer_39 1 rfl (t := 40) rfl ?_
        obtain ⟨w58, h57, hF⟩ := bo1_e hF
        have k59 := (ctX13_laysAside (G := G) (l := l) w55  n h57)
        refine J_callV hX [] [] [] k59 miX13_laysAside mvX13_laysAside cb10 kModel q_2168 ⟨rfl, rfl, Nat.le_of_ble_eq_true rfl, Nat.le_of_ble_eq_true rfl⟩ rfl rfl (Nat.le_of_ble_eq_true rfl) ⟨Nat.le_of_ble_eq_true rfl, Nat.le_of_ble_eq_true rfl⟩ dX13_addCustomer_40 (t := 43) rfl rfl ?_
        refine J_aload_n hX dX13_addCustomer_43 1 rfl (t := 44) rfl ?_
        refine J_iconst (v := 0) hX dX13_addCustomer_44 (by decide) (t := 45) rfl ?_
        obtain ⟨w60, e61, hF⟩ := bnd_e hF
        refine J_puti hX cb10 kModel 2 (by decide) q_1969 rfl rfl e61 (fun _ _ => Nat.le_of_ble_eq_true rfl) (fun _ _ => rfl) dX13_addCustomer_45 (t := 48) rfl ?_
        refine J_aload_n hX dX13_addCustomer_48 1 rfl (t := 49) rfl ?_
        refine J_aload_n hX dX13_addCustomer_49 1 rfl (t := 50) rfl ?_
        refine J_lload_n hX dX13_addCustomer_50 0 rfl (t := 51) rfl ?_
        refine J_iload_n hX dX13_addCustomer_51 2 rfl (t := 52) rfl ?_
        refine J_iload_n hX dX13_addCustomer_52 3 rfl (t := 53) rfl ?_
        obtain ⟨x63, w64, h62, hF⟩ := bo2_e hF
        have k65 := (ctX13_addsCustomer (G := G) (l := l) w60 x2 p1 p2 h62)
        refine J_callV hX [.long x2, .int p1, .int p2] [.ref (adr G 15 0)] [.int x63, .ref (adr G 15 0)] k65 miX13_addsCustomer mvX13_addsCustomer cb10 kModel q_2201 ⟨rfl, rfl, Nat.le_of_ble_eq_true rfl, Nat.le_of_ble_eq_true rfl⟩ rfl rfl (Nat.le_of_ble_eq_true rfl) ⟨Nat.le_of_ble_eq_true rfl, Nat.le_of_ble_eq_true rfl⟩ dX13_addCustomer_53 (t := 56) rfl rfl ?_
        obtain ⟨x67, w68, h66, hF⟩ := bo2_e hF
        have k69 := (ctX13_kept (G := G) (l := l) w64 x63 n h66)
        refine J_callV hX [.int x63] [] [.int x67] k69 miX13_kept mvX13_kept cb10 kModel q_2181 ⟨rfl, rfl, Nat.le_of_ble_eq_true rfl, Nat.le_of_ble_eq_true rfl⟩ rfl rfl (Nat.le_of_ble_eq_true rfl) ⟨Nat.le_of_ble_eq_true rfl, Nat.le_of_ble_eq_true rfl⟩ dX13_addCustomer_56 (t := 59) rfl rfl ?_
        replace hF := Option.some.inj hF
        obtain ⟨hF, hF2⟩ := Prod.mk.inj hF
        subst hF
        subst hF2
        exact J_iret hX hR hlk dX13_addCustomer_59
      · replace hF := ib_f hF z
        refine J_iconst (v := 0) hX dX13_addCustomer_37 (by decide) (t := 38) rfl ?_
        replace hF := Option.some.inj hF
        obtain ⟨hF, hF2⟩ := Prod.mk.inj hF
        subst hF
        subst hF2
        exact J_iret hX hR hlk dX13_addCustomer_38
abbrev rmX13_shout : Room := { frames := 4, cells := 0, slots := 0, locals := 88 }
theorem miX13_shout : MI yX13_shout cX13_shout 7 (some .int) 4 := ⟨q_2208, q_152, by decide +kernel, by decide +kernel, by decide +kernel, by decide +kernel⟩
theorem mvX13_shout : MV yX13_shout := ⟨q_2206, q_2207⟩
def FX13_shout_B76 (n : Nat) (w : Wd) (l1 : Int32) (l2 : Int32) (l3 : Int32) (l4 : Int32) (y0 : Bool) (y1 : Bool) (y2 : Bool) : Option (Int32 × Wd) :=
  bnd2 (FX13_goesThree w y2 y1 y0) fun x8 w9 =>
  if x8 = true then
    bo1 (FX13_laysAside n w9) fun w12 =>
    bo2 (FX13_sells w12 l1 l2 l3 l4) fun x15 w16 =>
    bo2 (FX13_kept n w16 x15) fun x19 w20 =>
    some (x19, w20)
  else
    some (0, w9)
set_option maxHeartbeats 4000000 in
set_option maxRecDepth 100000 in
theorem BX13_shout_76 {G : GG} {l : Launch} {p : Program} {e : Env} {s : State} {m : MethodId} {args : Array Value} {below : List Frame} {meth : Method} {c : Code} (hX : FX G RX13 cX13_shout 7 p s m args c) (hR : meth.sig.returnType = (some .int)) (hlk : meth.locks = false) {rx : Int32} {rw : Wd} (n : Nat) (w : Wd) (l1 : Int32) (l2 : Int32) (l3 : Int32) (l4 : Int32) (y0 : Bool) (y1 : Bool) (y2 : Bool)  (hF : FX13_shout_B76 n w l1 l2 l3 l4 y0 y1 y2 = some (rx, rw)) : J G p l e rmX13_shout s m args below meth c 7 0 0 (MQ below (QV G (some (.int rx)) rw) args s 0 0 (gA G)) (GH G w) 76 [(0, .ref (adr G 15 0)), (1, .int l1), (2, .int l2), (3, .int l3), (4, .int l4)] [.int (bI y0), .int (bI y1), .int (bI y2), .ref (adr G 15 0)] := by
  unfold FX13_shout_B76 at hF
  obtain ⟨x8, w9, h7, hF⟩ := bnd2_e hF
  have k10 := (ctX13_goesThree (G := G) (l := l) w y2 y1 y0 h7)
  refine J_callV hX [.int (bI y2), .int (bI y1), .int (bI y0)] [] [.int (bI x8)] k10 miX13_goesThree mvX13_goesThree cb10 kModel q_2248 ⟨rfl, rfl, Nat.le_of_ble_eq_true rfl, Nat.le_of_ble_eq_true rfl⟩ rfl rfl (Nat.le_of_ble_eq_true rfl) ⟨Nat.le_of_ble_eq_true rfl, Nat.le_of_ble_eq_true rfl⟩ dX13_shout_76 (t := 79) rfl rfl ?_
  refine J_ifZ_ne (tgt := 84) hX dX13_shout_79 (by decide) (t := 82) rfl (fun z => ?_) (fun z => ?_)
  · replace hF := it_t hF z
    refine J_aload_n hX dX13_shout_84 0 rfl (t := 85) rfl ?_
    obtain ⟨w12, h11, hF⟩ := bo1_e hF
    have k13 := (ctX13_laysAside (G := G) (l := l) w9  n h11)
    refine J_callV hX [] [] [] k13 miX13_laysAside mvX13_laysAside cb10 kModel q_2168 ⟨rfl, rfl, Nat.le_of_ble_eq_true rfl, Nat.le_of_ble_eq_true rfl⟩ rfl rfl (Nat.le_of_ble_eq_true rfl) ⟨Nat.le_of_ble_eq_true rfl, Nat.le_of_ble_eq_true rfl⟩ dX13_shout_85 (t := 88) rfl rfl ?_
    refine J_aload_n hX dX13_shout_88 0 rfl (t := 89) rfl ?_
    refine J_aload_n hX dX13_shout_89 0 rfl (t := 90) rfl ?_
    refine J_iload_n hX dX13_shout_90 1 rfl (t := 91) rfl ?_
    refine J_iload_n hX dX13_shout_91 2 rfl (t := 92) rfl ?_
    refine J_iload_n hX dX13_shout_92 3 rfl (t := 93) rfl ?_
    refine J_iload hX dX13_shout_93 4 rfl (t := 95) rfl ?_
    obtain ⟨x15, w16, h14, hF⟩ := bo2_e hF
    have k17 := (ctX13_sells (G := G) (l := l) w12 l1 l2 l3 l4 h14)
    refine J_callV hX [.int l1, .int l2, .int l3, .int l4] [.ref (adr G 15 0)] [.int x15, .ref (adr G 15 0)] k17 miX13_sells mvX13_sells cb10 kModel q_2252 ⟨rfl, rfl, Nat.le_of_ble_eq_true rfl, Nat.le_of_ble_eq_true rfl⟩ rfl rfl (Nat.le_of_ble_eq_true rfl) ⟨Nat.le_of_ble_eq_true rfl, Nat.le_of_ble_eq_true rfl⟩ dX13_shout_95 (t := 98) rfl rfl ?_
    obtain ⟨x19, w20, h18, hF⟩ := bo2_e hF
    have k21 := (ctX13_kept (G := G) (l := l) w16 x15 n h18)
    refine J_callV hX [.int x15] [] [.int x19] k21 miX13_kept mvX13_kept cb10 kModel q_2181 ⟨rfl, rfl, Nat.le_of_ble_eq_true rfl, Nat.le_of_ble_eq_true rfl⟩ rfl rfl (Nat.le_of_ble_eq_true rfl) ⟨Nat.le_of_ble_eq_true rfl, Nat.le_of_ble_eq_true rfl⟩ dX13_shout_98 (t := 101) rfl rfl ?_
    replace hF := Option.some.inj hF
    obtain ⟨hF, hF2⟩ := Prod.mk.inj hF
    subst hF
    subst hF2
    exact J_iret hX hR hlk dX13_shout_101
  · replace hF := ib_f hF z
    refine J_iconst (v := 0) hX dX13_shout_82 (by decide) (t := 83) rfl ?_
    replace hF := Option.some.inj hF
    obtain ⟨hF, hF2⟩ := Prod.mk.inj hF
    subst hF
    subst hF2
    exact J_iret hX hR hlk dX13_shout_83
def FX13_shout_B75 (n : Nat) (w : Wd) (l1 : Int32) (l2 : Int32) (l3 : Int32) (l4 : Int32) (y0 : Bool) (y1 : Bool) : Option (Int32 × Wd) :=
  FX13_shout_B76 n w l1 l2 l3 l4 false y0 y1
set_option maxHeartbeats 4000000 in
set_option maxRecDepth 100000 in
theorem BX13_shout_75 {G : GG} {l : Launch} {p : Program} {e : Env} {s : State} {m : MethodId} {args : Array Value} {below : List Frame} {meth : Method} {c : Code} (hX : FX G RX13 cX13_shout 7 p s m args c) (hR : meth.sig.returnType = (some .int)) (hlk : meth.locks = false) {rx : Int32} {rw : Wd} (n : Nat) (w : Wd) (l1 : Int32) (l2 : Int32) (l3 : Int32) (l4 : Int32) (y0 : Bool) (y1 : Bool)  (hF : FX13_shout_B75 n w l1 l2 l3 l4 y0 y1 = some (rx, rw)) : J G p l e rmX13_shout s m args below meth c 7 0 0 (MQ below (QV G (some (.int rx)) rw) args s 0 0 (gA G)) (GH G w) 75 [(0, .ref (adr G 15 0)), (1, .int l1), (2, .int l2), (3, .int l3), (4, .int l4)] [.int (bI y0), .int (bI y1), .ref (adr G 15 0)] := by
  unfold FX13_shout_B75 at hF
  refine J_iconst (v := 0) hX dX13_shout_75 (by decide) (t := 76) rfl ?_
  refine J_sub (lc2 := [(0, .ref (adr G 15 0)), (1, .int l1), (2, .int l2), (3, .int l3), (4, .int l4)]) [0, 1, 2, 3, 4] rfl ?_
  exact BX13_shout_76 hX hR hlk n w l1 l2 l3 l4 false y0 y1 hF
def FX13_shout_B43 (n : Nat) (w : Wd) (l1 : Int32) (l2 : Int32) (l3 : Int32) (l4 : Int32) (l5 : Bool) (y0 : Bool) : Option (Int32 × Wd) :=
  if l5 = true then
    if y0 = true then
      bo1 (FX13_refuses n w l1 l2 l4) fun x23 =>
      if x23 = 0 then
        FX13_shout_B76 n w l1 l2 l3 l4 true y0 l5
      else
        FX13_shout_B75 n w l1 l2 l3 l4 y0 l5
    else
      FX13_shout_B75 n w l1 l2 l3 l4 y0 l5
  else
    FX13_shout_B75 n w l1 l2 l3 l4 y0 l5
set_option maxHeartbeats 4000000 in
set_option maxRecDepth 100000 in
theorem BX13_shout_43 {G : GG} {l : Launch} {p : Program} {e : Env} {s : State} {m : MethodId} {args : Array Value} {below : List Frame} {meth : Method} {c : Code} (hX : FX G RX13 cX13_shout 7 p s m args c) (hR : meth.sig.returnType = (some .int)) (hlk : meth.locks = false) {rx : Int32} {rw : Wd} (n : Nat) (w : Wd) (l1 : Int32) (l2 : Int32) (l3 : Int32) (l4 : Int32) (l5 : Bool) (y0 : Bool)  (hF : FX13_shout_B43 n w l1 l2 l3 l4 l5 y0 = some (rx, rw)) : J G p l e rmX13_shout s m args below meth c 7 0 0 (MQ below (QV G (some (.int rx)) rw) args s 0 0 (gA G)) (GH G w) 43 [(0, .ref (adr G 15 0)), (1, .int l1), (2, .int l2), (3, .int l3), (4, .int l4), (5, .int (bI l5))] [.int (bI y0)] := by
  unfold FX13_shout_B43 at hF
  refine J_istore (lc2 := [(6, .int (bI y0)), (0, .ref (adr G 15 0)), (1, .int l1), (2, .int l2), (3, .int l3), (4, .int l4), (5, .int (bI l5))]) hX dX13_shout_43 (Nat.le_of_ble_eq_true rfl) rfl (t := 45) rfl ?_
  refine J_aload_n hX dX13_shout_45 1 rfl (t := 46) rfl ?_
  refine J_iload hX dX13_shout_46 6 rfl (t := 48) rfl ?_
  refine J_iload hX dX13_shout_48 0 rfl (t := 50) rfl ?_
  refine J_iload hX dX13_shout_50 6 rfl (t := 52) rfl ?_
  refine J_ifZ_eq (tgt := 75) hX dX13_shout_52 (by decide) (t := 55) rfl (fun z => ?_) (fun z => ?_)
  · replace hF := ib_f hF z
    refine J_sub (lc2 := [(0, .ref (adr G 15 0)), (1, .int l1), (2, .int l2), (3, .int l3), (4, .int l4)]) [1, 2, 3, 4, 5] rfl ?_
    exact BX13_shout_75 hX hR hlk n w l1 l2 l3 l4 y0 l5 hF
  · replace hF := it_t hF z
    refine J_iload hX dX13_shout_55 0 rfl (t := 57) rfl ?_
    refine J_ifZ_eq (tgt := 75) hX dX13_shout_57 (by decide) (t := 60) rfl (fun z => ?_) (fun z => ?_)
    · replace hF := ib_f hF z
      refine J_sub (lc2 := [(0, .ref (adr G 15 0)), (1, .int l1), (2, .int l2), (3, .int l3), (4, .int l4)]) [1, 2, 3, 4, 5] rfl ?_
      exact BX13_shout_75 hX hR hlk n w l1 l2 l3 l4 y0 l5 hF
    · replace hF := it_t hF z
      refine J_aload_n hX dX13_shout_60 1 rfl (t := 61) rfl ?_
      refine J_iload_n hX dX13_shout_61 2 rfl (t := 62) rfl ?_
      refine J_iload_n hX dX13_shout_62 3 rfl (t := 63) rfl ?_
      refine J_iload hX dX13_shout_63 5 rfl (t := 65) rfl ?_
      obtain ⟨x23, h22, hF⟩ := bo1_e hF
      have k24 := (ctX13_refuses (G := G) (l := l) w l1 l2 l4 n h22)
      refine J_callV hX [.int l1, .int l2, .int l4] [.int (bI y0), .int (bI l5), .ref (adr G 15 0)] [.int x23, .int (bI y0), .int (bI l5), .ref (adr G 15 0)] k24 miX13_refuses mvX13_refuses cb10 kModel q_2221 ⟨rfl, rfl, Nat.le_of_ble_eq_true rfl, Nat.le_of_ble_eq_true rfl⟩ rfl rfl (Nat.le_of_ble_eq_true rfl) ⟨Nat.le_of_ble_eq_true rfl, Nat.le_of_ble_eq_true rfl⟩ dX13_shout_65 (t := 68) rfl rfl ?_
      refine J_if_ne (tgt := 75) hX dX13_shout_68 (by decide) (t := 71) rfl (fun z => ?_) (fun z => ?_)
      · replace hF := it_f hF z
        refine J_sub (lc2 := [(0, .ref (adr G 15 0)), (1, .int l1), (2, .int l2), (3, .int l3), (4, .int l4)]) [1, 2, 3, 4, 5] rfl ?_
        exact BX13_shout_75 hX hR hlk n w l1 l2 l3 l4 y0 l5 hF
      · replace hF := it_t hF z
        refine J_iconst (v := 1) hX dX13_shout_71 (by decide) (t := 72) rfl ?_
        refine J_goto (tgt := 76) hX dX13_shout_72 (by decide) ?_
        refine J_sub (lc2 := [(0, .ref (adr G 15 0)), (1, .int l1), (2, .int l2), (3, .int l3), (4, .int l4)]) [1, 2, 3, 4, 5] rfl ?_
        exact BX13_shout_76 hX hR hlk n w l1 l2 l3 l4 true y0 l5 hF
def FX13_shout_B42 (n : Nat) (w : Wd) (l1 : Int32) (l2 : Int32) (l3 : Int32) (l4 : Int32) (l5 : Bool) : Option (Int32 × Wd) :=
  FX13_shout_B43 n w l1 l2 l3 l4 l5 false
set_option maxHeartbeats 4000000 in
set_option maxRecDepth 100000 in
theorem BX13_shout_42 {G : GG} {l : Launch} {p : Program} {e : Env} {s : State} {m : MethodId} {args : Array Value} {below : List Frame} {meth : Method} {c : Code} (hX : FX G RX13 cX13_shout 7 p s m args c) (hR : meth.sig.returnType = (some .int)) (hlk : meth.locks = false) {rx : Int32} {rw : Wd} (n : Nat) (w : Wd) (l1 : Int32) (l2 : Int32) (l3 : Int32) (l4 : Int32) (l5 : Bool)  (hF : FX13_shout_B42 n w l1 l2 l3 l4 l5 = some (rx, rw)) : J G p l e rmX13_shout s m args below meth c 7 0 0 (MQ below (QV G (some (.int rx)) rw) args s 0 0 (gA G)) (GH G w) 42 [(0, .ref (adr G 15 0)), (1, .int l1), (2, .int l2), (3, .int l3), (4, .int l4), (5, .int (bI l5))] [] := by
  unfold FX13_shout_B42 at hF
  refine J_iconst (v := 0) hX dX13_shout_42 (by decide) (t := 43) rfl ?_
  refine J_sub (lc2 := [(0, .ref (adr G 15 0)), (1, .int l1), (2, .int l2), (3, .int l3), (4, .int l4), (5, .int (bI l5))]) [0, 1, 2, 3, 4, 5] rfl ?_
  exact BX13_shout_43 hX hR hlk n w l1 l2 l3 l4 l5 false hF
def FX13_shout_B21 (n : Nat) (w : Wd) (l1 : Int32) (l2 : Int32) (l3 : Int32) (l4 : Int32) (y0 : Bool) : Option (Int32 × Wd) :=
  bnd (FX13_isLoud l3) fun x5 =>
  if x5 = true then
    bnd (FX13_areWalls l4) fun x26 =>
    if x26 = true then
      FX13_shout_B43 n w l1 l2 l3 l4 y0 true
    else
      FX13_shout_B42 n w l1 l2 l3 l4 y0
  else
    FX13_shout_B42 n w l1 l2 l3 l4 y0
set_option maxHeartbeats 4000000 in
set_option maxRecDepth 100000 in
theorem BX13_shout_21 {G : GG} {l : Launch} {p : Program} {e : Env} {s : State} {m : MethodId} {args : Array Value} {below : List Frame} {meth : Method} {c : Code} (hX : FX G RX13 cX13_shout 7 p s m args c) (hR : meth.sig.returnType = (some .int)) (hlk : meth.locks = false) {rx : Int32} {rw : Wd} (n : Nat) (w : Wd) (l1 : Int32) (l2 : Int32) (l3 : Int32) (l4 : Int32) (y0 : Bool)  (hF : FX13_shout_B21 n w l1 l2 l3 l4 y0 = some (rx, rw)) : J G p l e rmX13_shout s m args below meth c 7 0 0 (MQ below (QV G (some (.int rx)) rw) args s 0 0 (gA G)) (GH G w) 21 [(0, .ref (adr G 15 0)), (1, .int l1), (2, .int l2), (3, .int l3), (4, .int l4)] [.int (bI y0)] := by
  unfold FX13_shout_B21 at hF
  refine J_istore (lc2 := [(5, .int (bI y0)), (0, .ref (adr G 15 0)), (1, .int l1), (2, .int l2), (3, .int l3), (4, .int l4)]) hX dX13_shout_21 (Nat.le_of_ble_eq_true rfl) rfl (t := 23) rfl ?_
  refine J_iload_n hX dX13_shout_23 4 rfl (t := 24) rfl ?_
  obtain ⟨x5, h4, hF⟩ := bnd_e hF
  have k6 := (ctX13_isLoud (l := l) (G := G) (w := w) l3 h4)
  refine J_callS hX [.int l3] [] [.int (bI x5)] k6 miX13_isLoud q_2218 q_2217 ⟨rfl, rfl, Nat.le_of_ble_eq_true rfl, Nat.le_of_ble_eq_true rfl⟩ rfl rfl (Nat.le_of_ble_eq_true rfl) ⟨Nat.le_of_ble_eq_true rfl, Nat.le_of_ble_eq_true rfl⟩ dX13_shout_24 (t := 27) rfl rfl ?_
  refine J_ifZ_eq (tgt := 42) hX dX13_shout_27 (by decide) (t := 30) rfl (fun z => ?_) (fun z => ?_)
  · replace hF := ib_f hF z
    refine J_sub (lc2 := [(0, .ref (adr G 15 0)), (1, .int l1), (2, .int l2), (3, .int l3), (4, .int l4), (5, .int (bI y0))]) [1, 2, 3, 4, 5, 0] rfl ?_
    exact BX13_shout_42 hX hR hlk n w l1 l2 l3 l4 y0 hF
  · replace hF := it_t hF z
    refine J_iload hX dX13_shout_30 5 rfl (t := 32) rfl ?_
    obtain ⟨x26, h25, hF⟩ := bnd_e hF
    have k27 := (ctX13_areWalls (l := l) (G := G) (w := w) l4 h25)
    refine J_callS hX [.int l4] [] [.int (bI x26)] k27 miX13_areWalls q_2136 q_2135 ⟨rfl, rfl, Nat.le_of_ble_eq_true rfl, Nat.le_of_ble_eq_true rfl⟩ rfl rfl (Nat.le_of_ble_eq_true rfl) ⟨Nat.le_of_ble_eq_true rfl, Nat.le_of_ble_eq_true rfl⟩ dX13_shout_32 (t := 35) rfl rfl ?_
    refine J_ifZ_eq (tgt := 42) hX dX13_shout_35 (by decide) (t := 38) rfl (fun z => ?_) (fun z => ?_)
    · replace hF := ib_f hF z
      refine J_sub (lc2 := [(0, .ref (adr G 15 0)), (1, .int l1), (2, .int l2), (3, .int l3), (4, .int l4), (5, .int (bI y0))]) [1, 2, 3, 4, 5, 0] rfl ?_
      exact BX13_shout_42 hX hR hlk n w l1 l2 l3 l4 y0 hF
    · replace hF := it_t hF z
      refine J_iconst (v := 1) hX dX13_shout_38 (by decide) (t := 39) rfl ?_
      refine J_goto (tgt := 43) hX dX13_shout_39 (by decide) ?_
      refine J_sub (lc2 := [(0, .ref (adr G 15 0)), (1, .int l1), (2, .int l2), (3, .int l3), (4, .int l4), (5, .int (bI y0))]) [1, 2, 3, 4, 5, 0] rfl ?_
      exact BX13_shout_43 hX hR hlk n w l1 l2 l3 l4 y0 true hF
def FX13_shout_B20 (n : Nat) (w : Wd) (l1 : Int32) (l2 : Int32) (l3 : Int32) (l4 : Int32) : Option (Int32 × Wd) :=
  FX13_shout_B21 n w l1 l2 l3 l4 false
set_option maxHeartbeats 4000000 in
set_option maxRecDepth 100000 in
theorem BX13_shout_20 {G : GG} {l : Launch} {p : Program} {e : Env} {s : State} {m : MethodId} {args : Array Value} {below : List Frame} {meth : Method} {c : Code} (hX : FX G RX13 cX13_shout 7 p s m args c) (hR : meth.sig.returnType = (some .int)) (hlk : meth.locks = false) {rx : Int32} {rw : Wd} (n : Nat) (w : Wd) (l1 : Int32) (l2 : Int32) (l3 : Int32) (l4 : Int32)  (hF : FX13_shout_B20 n w l1 l2 l3 l4 = some (rx, rw)) : J G p l e rmX13_shout s m args below meth c 7 0 0 (MQ below (QV G (some (.int rx)) rw) args s 0 0 (gA G)) (GH G w) 20 [(0, .ref (adr G 15 0)), (1, .int l1), (2, .int l2), (3, .int l3), (4, .int l4)] [] := by
  unfold FX13_shout_B20 at hF
  refine J_iconst (v := 0) hX dX13_shout_20 (by decide) (t := 21) rfl ?_
  refine J_sub (lc2 := [(0, .ref (adr G 15 0)), (1, .int l1), (2, .int l2), (3, .int l3), (4, .int l4)]) [0, 1, 2, 3, 4] rfl ?_
  exact BX13_shout_21 hX hR hlk n w l1 l2 l3 l4 false hF
def FX13_shout (n : Nat) (w : Wd) (p1 : Int32) (p2 : Int32) (p3 : Int32) (p4 : Int32) : Option (Int32 × Wd) :=
  bo1 (FX13_isCustomer w p1) fun x2 =>
  if x2 = true then
    bo1 (FX13_isValley w p2) fun x29 =>
    if x29 = true then
      FX13_shout_B21 n w p1 p2 p3 p4 true
    else
      FX13_shout_B20 n w p1 p2 p3 p4
  else
    FX13_shout_B20 n w p1 p2 p3 p4
set_option maxHeartbeats 4000000 in
set_option maxRecDepth 100000 in
theorem ctX13_shout {G : GG} {l : Launch} (w : Wd) (p1 : Int32) (p2 : Int32) (p3 : Int32) (p4 : Int32)  (n : Nat) {rx : Int32} {rw : Wd} (hF : FX13_shout n w p1 p2 p3 p4 = some (rx, rw)) : CT G l yX13_shout cX13_shout 7 (some .int) rmX13_shout 0 0 [.ref (adr G 15 0), .int p1, .int p2, .int p3, .int p4] w (some (.int rx)) rw := by
  refine CT.of miX13_shout [(0, .ref (adr G 15 0)), (1, .int p1), (2, .int p2), (3, .int p3), (4, .int p4)] rfl (Nat.le_of_ble_eq_true rfl) ?_
  intro p e s m args below meth c hX hR hlk
  have hX : FX G RX13 cX13_shout 7 p s m args c := hX
  unfold FX13_shout at hF
  refine J_aload_n hX dX13_shout_0 0 rfl (t := 1) rfl ?_
  refine J_iload_n hX dX13_shout_1 1 rfl (t := 2) rfl ?_
  obtain ⟨x2, h1, hF⟩ := bo1_e hF
  have k3 := (ctX13_isCustomer (G := G) (l := l) w p1 h1)
  refine J_callV hX [.int p1] [] [.int (bI x2)] k3 miX13_isCustomer mvX13_isCustomer cb10 kModel q_2209 ⟨rfl, rfl, Nat.le_of_ble_eq_true rfl, Nat.le_of_ble_eq_true rfl⟩ rfl rfl (Nat.le_of_ble_eq_true rfl) ⟨Nat.le_of_ble_eq_true rfl, Nat.le_of_ble_eq_true rfl⟩ dX13_shout_2 (t := 5) rfl rfl ?_
  refine J_ifZ_eq (tgt := 20) hX dX13_shout_5 (by decide) (t := 8) rfl (fun z => ?_) (fun z => ?_)
  · replace hF := ib_f hF z
    refine J_sub (lc2 := [(0, .ref (adr G 15 0)), (1, .int p1), (2, .int p2), (3, .int p3), (4, .int p4)]) [0, 1, 2, 3, 4] rfl ?_
    exact BX13_shout_20 hX hR hlk n w p1 p2 p3 p4 hF
  · replace hF := it_t hF z
    refine J_aload_n hX dX13_shout_8 0 rfl (t := 9) rfl ?_
    refine J_iload_n hX dX13_shout_9 2 rfl (t := 10) rfl ?_
    obtain ⟨x29, h28, hF⟩ := bo1_e hF
    have k30 := (ctX13_isValley (G := G) (l := l) w p2 h28)
    refine J_callV hX [.int p2] [] [.int (bI x29)] k30 miX13_isValley mvX13_isValley cb10 kModel q_2213 ⟨rfl, rfl, Nat.le_of_ble_eq_true rfl, Nat.le_of_ble_eq_true rfl⟩ rfl rfl (Nat.le_of_ble_eq_true rfl) ⟨Nat.le_of_ble_eq_true rfl, Nat.le_of_ble_eq_true rfl⟩ dX13_shout_10 (t := 13) rfl rfl ?_
    refine J_ifZ_eq (tgt := 20) hX dX13_shout_13 (by decide) (t := 16) rfl (fun z => ?_) (fun z => ?_)
    · replace hF := ib_f hF z
      refine J_sub (lc2 := [(0, .ref (adr G 15 0)), (1, .int p1), (2, .int p2), (3, .int p3), (4, .int p4)]) [0, 1, 2, 3, 4] rfl ?_
      exact BX13_shout_20 hX hR hlk n w p1 p2 p3 p4 hF
    · replace hF := it_t hF z
      refine J_iconst (v := 1) hX dX13_shout_16 (by decide) (t := 17) rfl ?_
      refine J_goto (tgt := 21) hX dX13_shout_17 (by decide) ?_
      refine J_sub (lc2 := [(0, .ref (adr G 15 0)), (1, .int p1), (2, .int p2), (3, .int p3), (4, .int p4)]) [0, 1, 2, 3, 4] rfl ?_
      exact BX13_shout_21 hX hR hlk n w p1 p2 p3 p4 true hF
abbrev rmX13_cancel : Room := { frames := 4, cells := 0, slots := 0, locals := 86 }
theorem miX13_cancel : MI yX13_cancel cX13_cancel 2 (some .int) 1 := ⟨q_2259, q_152, by decide +kernel, by decide +kernel, by decide +kernel, by decide +kernel⟩
theorem mvX13_cancel : MV yX13_cancel := ⟨q_2257, q_2258⟩
def FX13_cancel (n : Nat) (w : Wd) (p1 : Int32) : Option (Int32 × Wd) :=
  bo1 (FX13_isShout0 w p1) fun x2 =>
  bo1 (FX13_isOpen w p1) fun x5 =>
  bnd2 (FX13_goesBoth w x2 x5) fun x8 w9 =>
  if x8 = true then
    bo1 (FX13_laysAside n w9) fun w12 =>
    bo2 (FX13_cancels w12 p1) fun x15 w16 =>
    bo2 (FX13_kept n w16 x15) fun x19 w20 =>
    some (x19, w20)
  else
    some (0, w9)
set_option maxHeartbeats 4000000 in
set_option maxRecDepth 100000 in
theorem ctX13_cancel {G : GG} {l : Launch} (w : Wd) (p1 : Int32)  (n : Nat) {rx : Int32} {rw : Wd} (hF : FX13_cancel n w p1 = some (rx, rw)) : CT G l yX13_cancel cX13_cancel 2 (some .int) rmX13_cancel 0 0 [.ref (adr G 15 0), .int p1] w (some (.int rx)) rw := by
  refine CT.of miX13_cancel [(0, .ref (adr G 15 0)), (1, .int p1)] rfl (Nat.le_of_ble_eq_true rfl) ?_
  intro p e s m args below meth c hX hR hlk
  have hX : FX G RX13 cX13_cancel 2 p s m args c := hX
  unfold FX13_cancel at hF
  refine J_aload_n hX dX13_cancel_0 0 rfl (t := 1) rfl ?_
  refine J_aload_n hX dX13_cancel_1 0 rfl (t := 2) rfl ?_
  refine J_iload_n hX dX13_cancel_2 1 rfl (t := 3) rfl ?_
  obtain ⟨x2, h1, hF⟩ := bo1_e hF
  have k3 := (ctX13_isShout0 (G := G) (l := l) w p1 h1)
  refine J_callV hX [.int p1] [.ref (adr G 15 0)] [.int (bI x2), .ref (adr G 15 0)] k3 miX13_isShout0 mvX13_isShout0 cb10 kModel q_2260 ⟨rfl, rfl, Nat.le_of_ble_eq_true rfl, Nat.le_of_ble_eq_true rfl⟩ rfl rfl (Nat.le_of_ble_eq_true rfl) ⟨Nat.le_of_ble_eq_true rfl, Nat.le_of_ble_eq_true rfl⟩ dX13_cancel_3 (t := 6) rfl rfl ?_
  refine J_aload_n hX dX13_cancel_6 0 rfl (t := 7) rfl ?_
  refine J_iload_n hX dX13_cancel_7 1 rfl (t := 8) rfl ?_
  obtain ⟨x5, h4, hF⟩ := bo1_e hF
  have k6 := (ctX13_isOpen (G := G) (l := l) w p1 h4)
  refine J_callV hX [.int p1] [.int (bI x2), .ref (adr G 15 0)] [.int (bI x5), .int (bI x2), .ref (adr G 15 0)] k6 miX13_isOpen mvX13_isOpen cb10 kModel q_2264 ⟨rfl, rfl, Nat.le_of_ble_eq_true rfl, Nat.le_of_ble_eq_true rfl⟩ rfl rfl (Nat.le_of_ble_eq_true rfl) ⟨Nat.le_of_ble_eq_true rfl, Nat.le_of_ble_eq_true rfl⟩ dX13_cancel_8 (t := 11) rfl rfl ?_
  obtain ⟨x8, w9, h7, hF⟩ := bnd2_e hF
  have k10 := (ctX13_goesBoth (G := G) (l := l) w x2 x5 h7)
  refine J_callV hX [.int (bI x2), .int (bI x5)] [] [.int (bI x8)] k10 miX13_goesBoth mvX13_goesBoth cb10 kModel q_2164 ⟨rfl, rfl, Nat.le_of_ble_eq_true rfl, Nat.le_of_ble_eq_true rfl⟩ rfl rfl (Nat.le_of_ble_eq_true rfl) ⟨Nat.le_of_ble_eq_true rfl, Nat.le_of_ble_eq_true rfl⟩ dX13_cancel_11 (t := 14) rfl rfl ?_
  refine J_ifZ_ne (tgt := 19) hX dX13_cancel_14 (by decide) (t := 17) rfl (fun z => ?_) (fun z => ?_)
  · replace hF := it_t hF z
    refine J_aload_n hX dX13_cancel_19 0 rfl (t := 20) rfl ?_
    obtain ⟨w12, h11, hF⟩ := bo1_e hF
    have k13 := (ctX13_laysAside (G := G) (l := l) w9  n h11)
    refine J_callV hX [] [] [] k13 miX13_laysAside mvX13_laysAside cb10 kModel q_2168 ⟨rfl, rfl, Nat.le_of_ble_eq_true rfl, Nat.le_of_ble_eq_true rfl⟩ rfl rfl (Nat.le_of_ble_eq_true rfl) ⟨Nat.le_of_ble_eq_true rfl, Nat.le_of_ble_eq_true rfl⟩ dX13_cancel_20 (t := 23) rfl rfl ?_
    refine J_aload_n hX dX13_cancel_23 0 rfl (t := 24) rfl ?_
    refine J_aload_n hX dX13_cancel_24 0 rfl (t := 25) rfl ?_
    refine J_iload_n hX dX13_cancel_25 1 rfl (t := 26) rfl ?_
    obtain ⟨x15, w16, h14, hF⟩ := bo2_e hF
    have k17 := (ctX13_cancels (G := G) (l := l) w12 p1 h14)
    refine J_callV hX [.int p1] [.ref (adr G 15 0)] [.int x15, .ref (adr G 15 0)] k17 miX13_cancels mvX13_cancels cb10 kModel q_2268 ⟨rfl, rfl, Nat.le_of_ble_eq_true rfl, Nat.le_of_ble_eq_true rfl⟩ rfl rfl (Nat.le_of_ble_eq_true rfl) ⟨Nat.le_of_ble_eq_true rfl, Nat.le_of_ble_eq_true rfl⟩ dX13_cancel_26 (t := 29) rfl rfl ?_
    obtain ⟨x19, w20, h18, hF⟩ := bo2_e hF
    have k21 := (ctX13_kept (G := G) (l := l) w16 x15 n h18)
    refine J_callV hX [.int x15] [] [.int x19] k21 miX13_kept mvX13_kept cb10 kModel q_2181 ⟨rfl, rfl, Nat.le_of_ble_eq_true rfl, Nat.le_of_ble_eq_true rfl⟩ rfl rfl (Nat.le_of_ble_eq_true rfl) ⟨Nat.le_of_ble_eq_true rfl, Nat.le_of_ble_eq_true rfl⟩ dX13_cancel_29 (t := 32) rfl rfl ?_
    replace hF := Option.some.inj hF
    obtain ⟨hF, hF2⟩ := Prod.mk.inj hF
    subst hF
    subst hF2
    exact J_iret hX hR hlk dX13_cancel_32
  · replace hF := ib_f hF z
    refine J_iconst (v := 0) hX dX13_cancel_17 (by decide) (t := 18) rfl ?_
    replace hF := Option.some.inj hF
    obtain ⟨hF, hF2⟩ := Prod.mk.inj hF
    subst hF
    subst hF2
    exact J_iret hX hR hlk dX13_cancel_18
abbrev rmX13_fake : Room := { frames := 6, cells := 0, slots := 0, locals := 132 }
theorem miX13_fake : MI yX13_fake cX13_fake 2 (some .int) 1 := ⟨q_2283, q_152, by decide +kernel, by decide +kernel, by decide +kernel, by decide +kernel⟩
theorem mvX13_fake : MV yX13_fake := ⟨q_2281, q_2282⟩
def FX13_fake (n : Nat) (w : Wd) (p1 : Int32) : Option (Int32 × Wd) :=
  bo1 (FX13_isShout0 w p1) fun x2 =>
  bo1 (FX13_isOpen w p1) fun x5 =>
  bnd2 (FX13_goesBoth w x2 x5) fun x8 w9 =>
  if x8 = true then
    bo1 (FX13_laysAside n w9) fun w12 =>
    bo2 (FX13_fakes n w12 p1) fun x15 w16 =>
    bo2 (FX13_kept n w16 x15) fun x19 w20 =>
    some (x19, w20)
  else
    some (0, w9)
set_option maxHeartbeats 4000000 in
set_option maxRecDepth 100000 in
theorem ctX13_fake {G : GG} {l : Launch} (w : Wd) (p1 : Int32)  (n : Nat) {rx : Int32} {rw : Wd} (hF : FX13_fake n w p1 = some (rx, rw)) : CT G l yX13_fake cX13_fake 2 (some .int) rmX13_fake 0 0 [.ref (adr G 15 0), .int p1] w (some (.int rx)) rw := by
  refine CT.of miX13_fake [(0, .ref (adr G 15 0)), (1, .int p1)] rfl (Nat.le_of_ble_eq_true rfl) ?_
  intro p e s m args below meth c hX hR hlk
  have hX : FX G RX13 cX13_fake 2 p s m args c := hX
  unfold FX13_fake at hF
  refine J_aload_n hX dX13_fake_0 0 rfl (t := 1) rfl ?_
  refine J_aload_n hX dX13_fake_1 0 rfl (t := 2) rfl ?_
  refine J_iload_n hX dX13_fake_2 1 rfl (t := 3) rfl ?_
  obtain ⟨x2, h1, hF⟩ := bo1_e hF
  have k3 := (ctX13_isShout0 (G := G) (l := l) w p1 h1)
  refine J_callV hX [.int p1] [.ref (adr G 15 0)] [.int (bI x2), .ref (adr G 15 0)] k3 miX13_isShout0 mvX13_isShout0 cb10 kModel q_2260 ⟨rfl, rfl, Nat.le_of_ble_eq_true rfl, Nat.le_of_ble_eq_true rfl⟩ rfl rfl (Nat.le_of_ble_eq_true rfl) ⟨Nat.le_of_ble_eq_true rfl, Nat.le_of_ble_eq_true rfl⟩ dX13_fake_3 (t := 6) rfl rfl ?_
  refine J_aload_n hX dX13_fake_6 0 rfl (t := 7) rfl ?_
  refine J_iload_n hX dX13_fake_7 1 rfl (t := 8) rfl ?_
  obtain ⟨x5, h4, hF⟩ := bo1_e hF
  have k6 := (ctX13_isOpen (G := G) (l := l) w p1 h4)
  refine J_callV hX [.int p1] [.int (bI x2), .ref (adr G 15 0)] [.int (bI x5), .int (bI x2), .ref (adr G 15 0)] k6 miX13_isOpen mvX13_isOpen cb10 kModel q_2264 ⟨rfl, rfl, Nat.le_of_ble_eq_true rfl, Nat.le_of_ble_eq_true rfl⟩ rfl rfl (Nat.le_of_ble_eq_true rfl) ⟨Nat.le_of_ble_eq_true rfl, Nat.le_of_ble_eq_true rfl⟩ dX13_fake_8 (t := 11) rfl rfl ?_
  obtain ⟨x8, w9, h7, hF⟩ := bnd2_e hF
  have k10 := (ctX13_goesBoth (G := G) (l := l) w x2 x5 h7)
  refine J_callV hX [.int (bI x2), .int (bI x5)] [] [.int (bI x8)] k10 miX13_goesBoth mvX13_goesBoth cb10 kModel q_2164 ⟨rfl, rfl, Nat.le_of_ble_eq_true rfl, Nat.le_of_ble_eq_true rfl⟩ rfl rfl (Nat.le_of_ble_eq_true rfl) ⟨Nat.le_of_ble_eq_true rfl, Nat.le_of_ble_eq_true rfl⟩ dX13_fake_11 (t := 14) rfl rfl ?_
  refine J_ifZ_ne (tgt := 19) hX dX13_fake_14 (by decide) (t := 17) rfl (fun z => ?_) (fun z => ?_)
  · replace hF := it_t hF z
    refine J_aload_n hX dX13_fake_19 0 rfl (t := 20) rfl ?_
    obtain ⟨w12, h11, hF⟩ := bo1_e hF
    have k13 := (ctX13_laysAside (G := G) (l := l) w9  n h11)
    refine J_callV hX [] [] [] k13 miX13_laysAside mvX13_laysAside cb10 kModel q_2168 ⟨rfl, rfl, Nat.le_of_ble_eq_true rfl, Nat.le_of_ble_eq_true rfl⟩ rfl rfl (Nat.le_of_ble_eq_true rfl) ⟨Nat.le_of_ble_eq_true rfl, Nat.le_of_ble_eq_true rfl⟩ dX13_fake_20 (t := 23) rfl rfl ?_
    refine J_aload_n hX dX13_fake_23 0 rfl (t := 24) rfl ?_
    refine J_aload_n hX dX13_fake_24 0 rfl (t := 25) rfl ?_
    refine J_iload_n hX dX13_fake_25 1 rfl (t := 26) rfl ?_
    obtain ⟨x15, w16, h14, hF⟩ := bo2_e hF
    have k17 := (ctX13_fakes (G := G) (l := l) w12 p1 n h14)
    refine J_callV hX [.int p1] [.ref (adr G 15 0)] [.int x15, .ref (adr G 15 0)] k17 miX13_fakes mvX13_fakes cb10 kModel q_2284 ⟨rfl, rfl, Nat.le_of_ble_eq_true rfl, Nat.le_of_ble_eq_true rfl⟩ rfl rfl (Nat.le_of_ble_eq_true rfl) ⟨Nat.le_of_ble_eq_true rfl, Nat.le_of_ble_eq_true rfl⟩ dX13_fake_26 (t := 29) rfl rfl ?_
    obtain ⟨x19, w20, h18, hF⟩ := bo2_e hF
    have k21 := (ctX13_kept (G := G) (l := l) w16 x15 n h18)
    refine J_callV hX [.int x15] [] [.int x19] k21 miX13_kept mvX13_kept cb10 kModel q_2181 ⟨rfl, rfl, Nat.le_of_ble_eq_true rfl, Nat.le_of_ble_eq_true rfl⟩ rfl rfl (Nat.le_of_ble_eq_true rfl) ⟨Nat.le_of_ble_eq_true rfl, Nat.le_of_ble_eq_true rfl⟩ dX13_fake_29 (t := 32) rfl rfl ?_
    replace hF := Option.some.inj hF
    obtain ⟨hF, hF2⟩ := Prod.mk.inj hF
    subst hF
    subst hF2
    exact J_iret hX hR hlk dX13_fake_32
  · replace hF := ib_f hF z
    refine J_iconst (v := 0) hX dX13_fake_17 (by decide) (t := 18) rfl ?_
    replace hF := Option.some.inj hF
    obtain ⟨hF, hF2⟩ := Prod.mk.inj hF
    subst hF
    subst hF2
    exact J_iret hX hR hlk dX13_fake_18
abbrev rmX13_setFog : Room := { frames := 3, cells := 0, slots := 0, locals := 66 }
theorem miX13_setFog : MI yX13_setFog cX13_setFog 3 (some .int) 2 := ⟨q_2307, q_152, by decide +kernel, by decide +kernel, by decide +kernel, by decide +kernel⟩
theorem mvX13_setFog : MV yX13_setFog := ⟨q_2305, q_2306⟩
def FX13_setFog (n : Nat) (w : Wd) (p1 : Int32) (p2 : Int32) : Option (Int32 × Wd) :=
  bo1 (FX13_isValley w p1) fun x2 =>
  bnd (FX13_isFog p2) fun x5 =>
  bnd2 (FX13_goesBoth w x2 x5) fun x8 w9 =>
  if x8 = true then
    bo1 (FX13_laysAside n w9) fun w12 =>
    bnd (FX13_vly p1) fun x15 =>
    bo2 (FX13_sets w12 (x15 + 3) p2) fun x18 w19 =>
    bo2 (FX13_kept n w19 x18) fun x22 w23 =>
    some (x22, w23)
  else
    some (0, w9)
set_option maxHeartbeats 4000000 in
set_option maxRecDepth 100000 in
theorem ctX13_setFog {G : GG} {l : Launch} (w : Wd) (p1 : Int32) (p2 : Int32)  (n : Nat) {rx : Int32} {rw : Wd} (hF : FX13_setFog n w p1 p2 = some (rx, rw)) : CT G l yX13_setFog cX13_setFog 3 (some .int) rmX13_setFog 0 0 [.ref (adr G 15 0), .int p1, .int p2] w (some (.int rx)) rw := by
  refine CT.of miX13_setFog [(0, .ref (adr G 15 0)), (1, .int p1), (2, .int p2)] rfl (Nat.le_of_ble_eq_true rfl) ?_
  intro p e s m args below meth c hX hR hlk
  have hX : FX G RX13 cX13_setFog 3 p s m args c := hX
  unfold FX13_setFog at hF
  refine J_aload_n hX dX13_setFog_0 0 rfl (t := 1) rfl ?_
  refine J_aload_n hX dX13_setFog_1 0 rfl (t := 2) rfl ?_
  refine J_iload_n hX dX13_setFog_2 1 rfl (t := 3) rfl ?_
  obtain ⟨x2, h1, hF⟩ := bo1_e hF
  have k3 := (ctX13_isValley (G := G) (l := l) w p1 h1)
  refine J_callV hX [.int p1] [.ref (adr G 15 0)] [.int (bI x2), .ref (adr G 15 0)] k3 miX13_isValley mvX13_isValley cb10 kModel q_2213 ⟨rfl, rfl, Nat.le_of_ble_eq_true rfl, Nat.le_of_ble_eq_true rfl⟩ rfl rfl (Nat.le_of_ble_eq_true rfl) ⟨Nat.le_of_ble_eq_true rfl, Nat.le_of_ble_eq_true rfl⟩ dX13_setFog_3 (t := 6) rfl rfl ?_
  refine J_iload_n hX dX13_setFog_6 2 rfl (t := 7) rfl ?_
  obtain ⟨x5, h4, hF⟩ := bnd_e hF
  have k6 := (ctX13_isFog (l := l) (G := G) (w := w) p2 h4)
  refine J_callS hX [.int p2] [.int (bI x2), .ref (adr G 15 0)] [.int (bI x5), .int (bI x2), .ref (adr G 15 0)] k6 miX13_isFog q_2309 q_2308 ⟨rfl, rfl, Nat.le_of_ble_eq_true rfl, Nat.le_of_ble_eq_true rfl⟩ rfl rfl (Nat.le_of_ble_eq_true rfl) ⟨Nat.le_of_ble_eq_true rfl, Nat.le_of_ble_eq_true rfl⟩ dX13_setFog_7 (t := 10) rfl rfl ?_
  obtain ⟨x8, w9, h7, hF⟩ := bnd2_e hF
  have k10 := (ctX13_goesBoth (G := G) (l := l) w x2 x5 h7)
  refine J_callV hX [.int (bI x2), .int (bI x5)] [] [.int (bI x8)] k10 miX13_goesBoth mvX13_goesBoth cb10 kModel q_2164 ⟨rfl, rfl, Nat.le_of_ble_eq_true rfl, Nat.le_of_ble_eq_true rfl⟩ rfl rfl (Nat.le_of_ble_eq_true rfl) ⟨Nat.le_of_ble_eq_true rfl, Nat.le_of_ble_eq_true rfl⟩ dX13_setFog_10 (t := 13) rfl rfl ?_
  refine J_ifZ_ne (tgt := 18) hX dX13_setFog_13 (by decide) (t := 16) rfl (fun z => ?_) (fun z => ?_)
  · replace hF := it_t hF z
    refine J_aload_n hX dX13_setFog_18 0 rfl (t := 19) rfl ?_
    obtain ⟨w12, h11, hF⟩ := bo1_e hF
    have k13 := (ctX13_laysAside (G := G) (l := l) w9  n h11)
    refine J_callV hX [] [] [] k13 miX13_laysAside mvX13_laysAside cb10 kModel q_2168 ⟨rfl, rfl, Nat.le_of_ble_eq_true rfl, Nat.le_of_ble_eq_true rfl⟩ rfl rfl (Nat.le_of_ble_eq_true rfl) ⟨Nat.le_of_ble_eq_true rfl, Nat.le_of_ble_eq_true rfl⟩ dX13_setFog_19 (t := 22) rfl rfl ?_
    refine J_aload_n hX dX13_setFog_22 0 rfl (t := 23) rfl ?_
    refine J_aload_n hX dX13_setFog_23 0 rfl (t := 24) rfl ?_
    refine J_iload_n hX dX13_setFog_24 1 rfl (t := 25) rfl ?_
    obtain ⟨x15, h14, hF⟩ := bnd_e hF
    have k16 := (ctX13_vly (l := l) (G := G) (w := w12) p1 h14)
    refine J_callS hX [.int p1] [.ref (adr G 15 0), .ref (adr G 15 0)] [.int x15, .ref (adr G 15 0), .ref (adr G 15 0)] k16 miX13_vly q_2155 q_2154 ⟨rfl, rfl, Nat.le_of_ble_eq_true rfl, Nat.le_of_ble_eq_true rfl⟩ rfl rfl (Nat.le_of_ble_eq_true rfl) ⟨Nat.le_of_ble_eq_true rfl, Nat.le_of_ble_eq_true rfl⟩ dX13_setFog_25 (t := 28) rfl rfl ?_
    refine J_iconst (v := 3) hX dX13_setFog_28 (by decide) (t := 29) rfl ?_
    refine J_iadd hX dX13_setFog_29 (t := 30) rfl ?_
    refine J_iload_n hX dX13_setFog_30 2 rfl (t := 31) rfl ?_
    obtain ⟨x18, w19, h17, hF⟩ := bo2_e hF
    have k20 := (ctX13_sets (G := G) (l := l) w12 (x15 + 3) p2 h17)
    refine J_callV hX [.int (x15 + 3), .int p2] [.ref (adr G 15 0)] [.int x18, .ref (adr G 15 0)] k20 miX13_sets mvX13_sets cb10 kModel q_2312 ⟨rfl, rfl, Nat.le_of_ble_eq_true rfl, Nat.le_of_ble_eq_true rfl⟩ rfl rfl (Nat.le_of_ble_eq_true rfl) ⟨Nat.le_of_ble_eq_true rfl, Nat.le_of_ble_eq_true rfl⟩ dX13_setFog_31 (t := 34) rfl rfl ?_
    obtain ⟨x22, w23, h21, hF⟩ := bo2_e hF
    have k24 := (ctX13_kept (G := G) (l := l) w19 x18 n h21)
    refine J_callV hX [.int x18] [] [.int x22] k24 miX13_kept mvX13_kept cb10 kModel q_2181 ⟨rfl, rfl, Nat.le_of_ble_eq_true rfl, Nat.le_of_ble_eq_true rfl⟩ rfl rfl (Nat.le_of_ble_eq_true rfl) ⟨Nat.le_of_ble_eq_true rfl, Nat.le_of_ble_eq_true rfl⟩ dX13_setFog_34 (t := 37) rfl rfl ?_
    replace hF := Option.some.inj hF
    obtain ⟨hF, hF2⟩ := Prod.mk.inj hF
    subst hF
    subst hF2
    exact J_iret hX hR hlk dX13_setFog_37
  · replace hF := ib_f hF z
    refine J_iconst (v := 0) hX dX13_setFog_16 (by decide) (t := 17) rfl ?_
    replace hF := Option.some.inj hF
    obtain ⟨hF, hF2⟩ := Prod.mk.inj hF
    subst hF
    subst hF2
    exact J_iret hX hR hlk dX13_setFog_17
abbrev rmX13_setPrice : Room := { frames := 3, cells := 0, slots := 0, locals := 66 }
theorem miX13_setPrice : MI yX13_setPrice cX13_setPrice 3 (some .int) 2 := ⟨q_2319, q_152, by decide +kernel, by decide +kernel, by decide +kernel, by decide +kernel⟩
theorem mvX13_setPrice : MV yX13_setPrice := ⟨q_2317, q_2318⟩
def FX13_setPrice (n : Nat) (w : Wd) (p1 : Int32) (p2 : Int32) : Option (Int32 × Wd) :=
  bo1 (FX13_isValley w p1) fun x2 =>
  bnd (FX13_isPrice p2) fun x5 =>
  bnd2 (FX13_goesBoth w x2 x5) fun x8 w9 =>
  if x8 = true then
    bo1 (FX13_laysAside n w9) fun w12 =>
    bnd (FX13_vly p1) fun x15 =>
    bo2 (FX13_sets w12 (x15 + 2) p2) fun x18 w19 =>
    bo2 (FX13_kept n w19 x18) fun x22 w23 =>
    some (x22, w23)
  else
    some (0, w9)
set_option maxHeartbeats 4000000 in
set_option maxRecDepth 100000 in
theorem ctX13_setPrice {G : GG} {l : Launch} (w : Wd) (p1 : Int32) (p2 : Int32)  (n : Nat) {rx : Int32} {rw : Wd} (hF : FX13_setPrice n w p1 p2 = some (rx, rw)) : CT G l yX13_setPrice cX13_setPrice 3 (some .int) rmX13_setPrice 0 0 [.ref (adr G 15 0), .int p1, .int p2] w (some (.int rx)) rw := by
  refine CT.of miX13_setPrice [(0, .ref (adr G 15 0)), (1, .int p1), (2, .int p2)] rfl (Nat.le_of_ble_eq_true rfl) ?_
  intro p e s m args below meth c hX hR hlk
  have hX : FX G RX13 cX13_setPrice 3 p s m args c := hX
  unfold FX13_setPrice at hF
  refine J_aload_n hX dX13_setPrice_0 0 rfl (t := 1) rfl ?_
  refine J_aload_n hX dX13_setPrice_1 0 rfl (t := 2) rfl ?_
  refine J_iload_n hX dX13_setPrice_2 1 rfl (t := 3) rfl ?_
  obtain ⟨x2, h1, hF⟩ := bo1_e hF
  have k3 := (ctX13_isValley (G := G) (l := l) w p1 h1)
  refine J_callV hX [.int p1] [.ref (adr G 15 0)] [.int (bI x2), .ref (adr G 15 0)] k3 miX13_isValley mvX13_isValley cb10 kModel q_2213 ⟨rfl, rfl, Nat.le_of_ble_eq_true rfl, Nat.le_of_ble_eq_true rfl⟩ rfl rfl (Nat.le_of_ble_eq_true rfl) ⟨Nat.le_of_ble_eq_true rfl, Nat.le_of_ble_eq_true rfl⟩ dX13_setPrice_3 (t := 6) rfl rfl ?_
  refine J_iload_n hX dX13_setPrice_6 2 rfl (t := 7) rfl ?_
  obtain ⟨x5, h4, hF⟩ := bnd_e hF
  have k6 := (ctX13_isPrice (l := l) (G := G) (w := w) p2 h4)
  refine J_callS hX [.int p2] [.int (bI x2), .ref (adr G 15 0)] [.int (bI x5), .int (bI x2), .ref (adr G 15 0)] k6 miX13_isPrice q_2140 q_2139 ⟨rfl, rfl, Nat.le_of_ble_eq_true rfl, Nat.le_of_ble_eq_true rfl⟩ rfl rfl (Nat.le_of_ble_eq_true rfl) ⟨Nat.le_of_ble_eq_true rfl, Nat.le_of_ble_eq_true rfl⟩ dX13_setPrice_7 (t := 10) rfl rfl ?_
  obtain ⟨x8, w9, h7, hF⟩ := bnd2_e hF
  have k10 := (ctX13_goesBoth (G := G) (l := l) w x2 x5 h7)
  refine J_callV hX [.int (bI x2), .int (bI x5)] [] [.int (bI x8)] k10 miX13_goesBoth mvX13_goesBoth cb10 kModel q_2164 ⟨rfl, rfl, Nat.le_of_ble_eq_true rfl, Nat.le_of_ble_eq_true rfl⟩ rfl rfl (Nat.le_of_ble_eq_true rfl) ⟨Nat.le_of_ble_eq_true rfl, Nat.le_of_ble_eq_true rfl⟩ dX13_setPrice_10 (t := 13) rfl rfl ?_
  refine J_ifZ_ne (tgt := 18) hX dX13_setPrice_13 (by decide) (t := 16) rfl (fun z => ?_) (fun z => ?_)
  · replace hF := it_t hF z
    refine J_aload_n hX dX13_setPrice_18 0 rfl (t := 19) rfl ?_
    obtain ⟨w12, h11, hF⟩ := bo1_e hF
    have k13 := (ctX13_laysAside (G := G) (l := l) w9  n h11)
    refine J_callV hX [] [] [] k13 miX13_laysAside mvX13_laysAside cb10 kModel q_2168 ⟨rfl, rfl, Nat.le_of_ble_eq_true rfl, Nat.le_of_ble_eq_true rfl⟩ rfl rfl (Nat.le_of_ble_eq_true rfl) ⟨Nat.le_of_ble_eq_true rfl, Nat.le_of_ble_eq_true rfl⟩ dX13_setPrice_19 (t := 22) rfl rfl ?_
    refine J_aload_n hX dX13_setPrice_22 0 rfl (t := 23) rfl ?_
    refine J_aload_n hX dX13_setPrice_23 0 rfl (t := 24) rfl ?_
    refine J_iload_n hX dX13_setPrice_24 1 rfl (t := 25) rfl ?_
    obtain ⟨x15, h14, hF⟩ := bnd_e hF
    have k16 := (ctX13_vly (l := l) (G := G) (w := w12) p1 h14)
    refine J_callS hX [.int p1] [.ref (adr G 15 0), .ref (adr G 15 0)] [.int x15, .ref (adr G 15 0), .ref (adr G 15 0)] k16 miX13_vly q_2155 q_2154 ⟨rfl, rfl, Nat.le_of_ble_eq_true rfl, Nat.le_of_ble_eq_true rfl⟩ rfl rfl (Nat.le_of_ble_eq_true rfl) ⟨Nat.le_of_ble_eq_true rfl, Nat.le_of_ble_eq_true rfl⟩ dX13_setPrice_25 (t := 28) rfl rfl ?_
    refine J_iconst (v := 2) hX dX13_setPrice_28 (by decide) (t := 29) rfl ?_
    refine J_iadd hX dX13_setPrice_29 (t := 30) rfl ?_
    refine J_iload_n hX dX13_setPrice_30 2 rfl (t := 31) rfl ?_
    obtain ⟨x18, w19, h17, hF⟩ := bo2_e hF
    have k20 := (ctX13_sets (G := G) (l := l) w12 (x15 + 2) p2 h17)
    refine J_callV hX [.int (x15 + 2), .int p2] [.ref (adr G 15 0)] [.int x18, .ref (adr G 15 0)] k20 miX13_sets mvX13_sets cb10 kModel q_2312 ⟨rfl, rfl, Nat.le_of_ble_eq_true rfl, Nat.le_of_ble_eq_true rfl⟩ rfl rfl (Nat.le_of_ble_eq_true rfl) ⟨Nat.le_of_ble_eq_true rfl, Nat.le_of_ble_eq_true rfl⟩ dX13_setPrice_31 (t := 34) rfl rfl ?_
    obtain ⟨x22, w23, h21, hF⟩ := bo2_e hF
    have k24 := (ctX13_kept (G := G) (l := l) w19 x18 n h21)
    refine J_callV hX [.int x18] [] [.int x22] k24 miX13_kept mvX13_kept cb10 kModel q_2181 ⟨rfl, rfl, Nat.le_of_ble_eq_true rfl, Nat.le_of_ble_eq_true rfl⟩ rfl rfl (Nat.le_of_ble_eq_true rfl) ⟨Nat.le_of_ble_eq_true rfl, Nat.le_of_ble_eq_true rfl⟩ dX13_setPrice_34 (t := 37) rfl rfl ?_
    replace hF := Option.some.inj hF
    obtain ⟨hF, hF2⟩ := Prod.mk.inj hF
    subst hF
    subst hF2
    exact J_iret hX hR hlk dX13_setPrice_37
  · replace hF := ib_f hF z
    refine J_iconst (v := 0) hX dX13_setPrice_16 (by decide) (t := 17) rfl ?_
    replace hF := Option.some.inj hF
    obtain ⟨hF, hF2⟩ := Prod.mk.inj hF
    subst hF
    subst hF2
    exact J_iret hX hR hlk dX13_setPrice_17
abbrev rmX13_setWell : Room := { frames := 3, cells := 0, slots := 0, locals := 66 }
theorem miX13_setWell : MI yX13_setWell cX13_setWell 2 (some .int) 1 := ⟨q_2323, q_152, by decide +kernel, by decide +kernel, by decide +kernel, by decide +kernel⟩
theorem mvX13_setWell : MV yX13_setWell := ⟨q_2321, q_2322⟩
def FX13_setWell (n : Nat) (w : Wd) (p1 : Int32) : Option (Int32 × Wd) :=
  bnd (FX13_isDepth p1) fun x2 =>
  bnd2 (FX13_goes w x2) fun x5 w6 =>
  if x5 = true then
    bo1 (FX13_laysAside n w6) fun w9 =>
    bo2 (FX13_sets w9 6 p1) fun x12 w13 =>
    bo2 (FX13_kept n w13 x12) fun x16 w17 =>
    some (x16, w17)
  else
    some (0, w6)
set_option maxHeartbeats 4000000 in
set_option maxRecDepth 100000 in
theorem ctX13_setWell {G : GG} {l : Launch} (w : Wd) (p1 : Int32)  (n : Nat) {rx : Int32} {rw : Wd} (hF : FX13_setWell n w p1 = some (rx, rw)) : CT G l yX13_setWell cX13_setWell 2 (some .int) rmX13_setWell 0 0 [.ref (adr G 15 0), .int p1] w (some (.int rx)) rw := by
  refine CT.of miX13_setWell [(0, .ref (adr G 15 0)), (1, .int p1)] rfl (Nat.le_of_ble_eq_true rfl) ?_
  intro p e s m args below meth c hX hR hlk
  have hX : FX G RX13 cX13_setWell 2 p s m args c := hX
  unfold FX13_setWell at hF
  refine J_aload_n hX dX13_setWell_0 0 rfl (t := 1) rfl ?_
  refine J_iload_n hX dX13_setWell_1 1 rfl (t := 2) rfl ?_
  obtain ⟨x2, h1, hF⟩ := bnd_e hF
  have k3 := (ctX13_isDepth (l := l) (G := G) (w := w) p1 h1)
  refine J_callS hX [.int p1] [.ref (adr G 15 0)] [.int (bI x2), .ref (adr G 15 0)] k3 miX13_isDepth q_2325 q_2324 ⟨rfl, rfl, Nat.le_of_ble_eq_true rfl, Nat.le_of_ble_eq_true rfl⟩ rfl rfl (Nat.le_of_ble_eq_true rfl) ⟨Nat.le_of_ble_eq_true rfl, Nat.le_of_ble_eq_true rfl⟩ dX13_setWell_2 (t := 5) rfl rfl ?_
  obtain ⟨x5, w6, h4, hF⟩ := bnd2_e hF
  have k7 := (ctX13_goes (G := G) (l := l) w x2 h4)
  refine J_callV hX [.int (bI x2)] [] [.int (bI x5)] k7 miX13_goes mvX13_goes cb10 kModel q_2078 ⟨rfl, rfl, Nat.le_of_ble_eq_true rfl, Nat.le_of_ble_eq_true rfl⟩ rfl rfl (Nat.le_of_ble_eq_true rfl) ⟨Nat.le_of_ble_eq_true rfl, Nat.le_of_ble_eq_true rfl⟩ dX13_setWell_5 (t := 8) rfl rfl ?_
  refine J_ifZ_ne (tgt := 13) hX dX13_setWell_8 (by decide) (t := 11) rfl (fun z => ?_) (fun z => ?_)
  · replace hF := it_t hF z
    refine J_aload_n hX dX13_setWell_13 0 rfl (t := 14) rfl ?_
    obtain ⟨w9, h8, hF⟩ := bo1_e hF
    have k10 := (ctX13_laysAside (G := G) (l := l) w6  n h8)
    refine J_callV hX [] [] [] k10 miX13_laysAside mvX13_laysAside cb10 kModel q_2168 ⟨rfl, rfl, Nat.le_of_ble_eq_true rfl, Nat.le_of_ble_eq_true rfl⟩ rfl rfl (Nat.le_of_ble_eq_true rfl) ⟨Nat.le_of_ble_eq_true rfl, Nat.le_of_ble_eq_true rfl⟩ dX13_setWell_14 (t := 17) rfl rfl ?_
    refine J_aload_n hX dX13_setWell_17 0 rfl (t := 18) rfl ?_
    refine J_aload_n hX dX13_setWell_18 0 rfl (t := 19) rfl ?_
    refine J_bipush (v := 6) hX dX13_setWell_19 (by decide) (t := 21) rfl ?_
    refine J_iload_n hX dX13_setWell_21 1 rfl (t := 22) rfl ?_
    obtain ⟨x12, w13, h11, hF⟩ := bo2_e hF
    have k14 := (ctX13_sets (G := G) (l := l) w9 6 p1 h11)
    refine J_callV hX [.int 6, .int p1] [.ref (adr G 15 0)] [.int x12, .ref (adr G 15 0)] k14 miX13_sets mvX13_sets cb10 kModel q_2312 ⟨rfl, rfl, Nat.le_of_ble_eq_true rfl, Nat.le_of_ble_eq_true rfl⟩ rfl rfl (Nat.le_of_ble_eq_true rfl) ⟨Nat.le_of_ble_eq_true rfl, Nat.le_of_ble_eq_true rfl⟩ dX13_setWell_22 (t := 25) rfl rfl ?_
    obtain ⟨x16, w17, h15, hF⟩ := bo2_e hF
    have k18 := (ctX13_kept (G := G) (l := l) w13 x12 n h15)
    refine J_callV hX [.int x12] [] [.int x16] k18 miX13_kept mvX13_kept cb10 kModel q_2181 ⟨rfl, rfl, Nat.le_of_ble_eq_true rfl, Nat.le_of_ble_eq_true rfl⟩ rfl rfl (Nat.le_of_ble_eq_true rfl) ⟨Nat.le_of_ble_eq_true rfl, Nat.le_of_ble_eq_true rfl⟩ dX13_setWell_25 (t := 28) rfl rfl ?_
    replace hF := Option.some.inj hF
    obtain ⟨hF, hF2⟩ := Prod.mk.inj hF
    subst hF
    subst hF2
    exact J_iret hX hR hlk dX13_setWell_28
  · replace hF := ib_f hF z
    refine J_iconst (v := 0) hX dX13_setWell_11 (by decide) (t := 12) rfl ?_
    replace hF := Option.some.inj hF
    obtain ⟨hF, hF2⟩ := Prod.mk.inj hF
    subst hF
    subst hF2
    exact J_iret hX hR hlk dX13_setWell_12
abbrev rmX13_pass : Room := { frames := 8, cells := 0, slots := 0, locals := 175 }
theorem miX13_pass : MI yX13_pass cX13_pass 2 (some .int) 1 := ⟨q_2330, q_152, by decide +kernel, by decide +kernel, by decide +kernel, by decide +kernel⟩
theorem mvX13_pass : MV yX13_pass := ⟨q_2328, q_2329⟩
def FX13_pass (n : Nat) (w : Wd) (p1 : Int32) : Option (Int32 × Wd) :=
  bnd (FX13_isPatience p1) fun x2 =>
  bnd (FX13_isPatience p1) fun x5 =>
  if x5 = true then
    bo1 (FX13_mayPass w p1) fun x23 =>
    if x23 = true then
      bnd2 (FX13_goesBoth w x2 true) fun x41 w42 =>
      if x41 = true then
        bo1 (FX13_laysAside n w42) fun w45 =>
        bo2 (FX13_passes n w45 p1) fun x48 w49 =>
        bo2 (FX13_kept n w49 x48) fun x52 w53 =>
        some (x52, w53)
      else
        some (0, w42)
    else
      bnd2 (FX13_goesBoth w x2 false) fun x26 w27 =>
      if x26 = true then
        bo1 (FX13_laysAside n w27) fun w30 =>
        bo2 (FX13_passes n w30 p1) fun x33 w34 =>
        bo2 (FX13_kept n w34 x33) fun x37 w38 =>
        some (x37, w38)
      else
        some (0, w27)
  else
    bnd2 (FX13_goesBoth w x2 false) fun x8 w9 =>
    if x8 = true then
      bo1 (FX13_laysAside n w9) fun w12 =>
      bo2 (FX13_passes n w12 p1) fun x15 w16 =>
      bo2 (FX13_kept n w16 x15) fun x19 w20 =>
      some (x19, w20)
    else
      some (0, w9)
set_option maxHeartbeats 4000000 in
set_option maxRecDepth 100000 in
theorem ctX13_pass {G : GG} {l : Launch} (w : Wd) (p1 : Int32)  (n : Nat) {rx : Int32} {rw : Wd} (hF : FX13_pass n w p1 = some (rx, rw)) : CT G l yX13_pass cX13_pass 2 (some .int) rmX13_pass 0 0 [.ref (adr G 15 0), .int p1] w (some (.int rx)) rw := by
  refine CT.of miX13_pass [(0, .ref (adr G 15 0)), (1, .int p1)] rfl (Nat.le_of_ble_eq_true rfl) ?_
  intro p e s m args below meth c hX hR hlk
  have hX : FX G RX13 cX13_pass 2 p s m args c := hX
  unfold FX13_pass at hF
  refine J_aload_n hX dX13_pass_0 0 rfl (t := 1) rfl ?_
  refine J_iload_n hX dX13_pass_1 1 rfl (t := 2) rfl ?_
  obtain ⟨x2, h1, hF⟩ := bnd_e hF
  have k3 := (ctX13_isPatience (l := l) (G := G) (w := w) p1 h1)
  refine J_callS hX [.int p1] [.ref (adr G 15 0)] [.int (bI x2), .ref (adr G 15 0)] k3 miX13_isPatience q_2194 q_2193 ⟨rfl, rfl, Nat.le_of_ble_eq_true rfl, Nat.le_of_ble_eq_true rfl⟩ rfl rfl (Nat.le_of_ble_eq_true rfl) ⟨Nat.le_of_ble_eq_true rfl, Nat.le_of_ble_eq_true rfl⟩ dX13_pass_2 (t := 5) rfl rfl ?_
  refine J_iload_n hX dX13_pass_5 1 rfl (t := 6) rfl ?_
  obtain ⟨x5, h4, hF⟩ := bnd_e hF
  have k6 := (ctX13_isPatience (l := l) (G := G) (w := w) p1 h4)
  refine J_callS hX [.int p1] [.int (bI x2), .ref (adr G 15 0)] [.int (bI x5), .int (bI x2), .ref (adr G 15 0)] k6 miX13_isPatience q_2194 q_2193 ⟨rfl, rfl, Nat.le_of_ble_eq_true rfl, Nat.le_of_ble_eq_true rfl⟩ rfl rfl (Nat.le_of_ble_eq_true rfl) ⟨Nat.le_of_ble_eq_true rfl, Nat.le_of_ble_eq_true rfl⟩ dX13_pass_6 (t := 9) rfl rfl ?_
  refine J_ifZ_eq (tgt := 24) hX dX13_pass_9 (by decide) (t := 12) rfl (fun z => ?_) (fun z => ?_)
  · replace hF := ib_f hF z
    refine J_iconst (v := 0) hX dX13_pass_24 (by decide) (t := 25) rfl ?_
    obtain ⟨x8, w9, h7, hF⟩ := bnd2_e hF
    have k10 := (ctX13_goesBoth (G := G) (l := l) w x2 false h7)
    refine J_callV hX [.int (bI x2), .int (bI false)] [] [.int (bI x8)] k10 miX13_goesBoth mvX13_goesBoth cb10 kModel q_2164 ⟨rfl, rfl, Nat.le_of_ble_eq_true rfl, Nat.le_of_ble_eq_true rfl⟩ rfl rfl (Nat.le_of_ble_eq_true rfl) ⟨Nat.le_of_ble_eq_true rfl, Nat.le_of_ble_eq_true rfl⟩ dX13_pass_25 (t := 28) rfl rfl ?_
    refine J_ifZ_ne (tgt := 33) hX dX13_pass_28 (by decide) (t := 31) rfl (fun z => ?_) (fun z => ?_)
    · replace hF := it_t hF z
      refine J_aload_n hX dX13_pass_33 0 rfl (t := 34) rfl ?_
      obtain ⟨w12, h11, hF⟩ := bo1_e hF
      have k13 := (ctX13_laysAside (G := G) (l := l) w9  n h11)
      refine J_callV hX [] [] [] k13 miX13_laysAside mvX13_laysAside cb10 kModel q_2168 ⟨rfl, rfl, Nat.le_of_ble_eq_true rfl, Nat.le_of_ble_eq_true rfl⟩ rfl rfl (Nat.le_of_ble_eq_true rfl) ⟨Nat.le_of_ble_eq_true rfl, Nat.le_of_ble_eq_true rfl⟩ dX13_pass_34 (t := 37) rfl rfl ?_
      refine J_aload_n hX dX13_pass_37 0 rfl (t := 38) rfl ?_
      refine J_aload_n hX dX13_pass_38 0 rfl (t := 39) rfl ?_
      refine J_iload_n hX dX13_pass_39 1 rfl (t := 40) rfl ?_
      obtain ⟨x15, w16, h14, hF⟩ := bo2_e hF
      have k17 := (ctX13_passes (G := G) (l := l) w12 p1 n h14)
      refine J_callV hX [.int p1] [.ref (adr G 15 0)] [.int x15, .ref (adr G 15 0)] k17 miX13_passes mvX13_passes cb10 kModel q_2335 ⟨rfl, rfl, Nat.le_of_ble_eq_true rfl, Nat.le_of_ble_eq_true rfl⟩ rfl rfl (Nat.le_of_ble_eq_true rfl) ⟨Nat.le_of_ble_eq_true rfl, Nat.le_of_ble_eq_true rfl⟩ dX13_pass_40 (t := 43) rfl rfl ?_
      obtain ⟨x19, w20, h18, hF⟩ := bo2_e hF
      have k21 := (ctX13_kept (G := G) (l := l) w16 x15 n h18)
      refine J_callV hX [.int x15] [] [.int x19] k21 miX13_kept mvX13_kept cb10 kModel q_2181 ⟨rfl, rfl, Nat.le_of_ble_eq_true rfl, Nat.le_of_ble_eq_true rfl⟩ rfl rfl (Nat.le_of_ble_eq_true rfl) ⟨Nat.le_of_ble_eq_true rfl, Nat.le_of_ble_eq_true rfl⟩ dX13_pass_43 (t := 46) rfl rfl ?_
      replace hF := Option.some.inj hF
      obtain ⟨hF, hF2⟩ := Prod.mk.inj hF
      subst hF
      subst hF2
      exact J_iret hX hR hlk dX13_pass_46
    · replace hF := ib_f hF z
      refine J_iconst (v := 0) hX dX13_pass_31 (by decide) (t := 32) rfl ?_
      replace hF := Option.some.inj hF
      obtain ⟨hF, hF2⟩ := Prod.mk.inj hF
      subst hF
      subst hF2
      exact J_iret hX hR hlk dX13_pass_32
  · replace hF := it_t hF z
    refine J_aload_n hX dX13_pass_12 0 rfl (t := 13) rfl ?_
    refine J_iload_n hX dX13_pass_13 1 rfl (t := 14) rfl ?_
    obtain ⟨x23, h22, hF⟩ := bo1_e hF
    have k24 := (ctX13_mayPass (G := G) (l := l) w p1 h22)
    refine J_callV hX [.int p1] [.int (bI x2), .ref (adr G 15 0)] [.int (bI x23), .int (bI x2), .ref (adr G 15 0)] k24 miX13_mayPass mvX13_mayPass cb10 kModel q_2331 ⟨rfl, rfl, Nat.le_of_ble_eq_true rfl, Nat.le_of_ble_eq_true rfl⟩ rfl rfl (Nat.le_of_ble_eq_true rfl) ⟨Nat.le_of_ble_eq_true rfl, Nat.le_of_ble_eq_true rfl⟩ dX13_pass_14 (t := 17) rfl rfl ?_
    refine J_ifZ_eq (tgt := 24) hX dX13_pass_17 (by decide) (t := 20) rfl (fun z => ?_) (fun z => ?_)
    · replace hF := ib_f hF z
      refine J_iconst (v := 0) hX dX13_pass_24 (by decide) (t := 25) rfl ?_
      obtain ⟨x26, w27, h25, hF⟩ := bnd2_e hF
      have k28 := (ctX13_goesBoth (G := G) (l := l) w x2 false h25)
      refine J_callV hX [.int (bI x2), .int (bI false)] [] [.int (bI x26)] k28 miX13_goesBoth mvX13_goesBoth cb10 kModel q_2164 ⟨rfl, rfl, Nat.le_of_ble_eq_true rfl, Nat.le_of_ble_eq_true rfl⟩ rfl rfl (Nat.le_of_ble_eq_true rfl) ⟨Nat.le_of_ble_eq_true rfl, Nat.le_of_ble_eq_true rfl⟩ dX13_pass_25 (t := 28) rfl rfl ?_
      refine J_ifZ_ne (tgt := 33) hX dX13_pass_28 (by decide) (t := 31) rfl (fun z => ?_) (fun z => ?_)
      · replace hF := it_t hF z
        refine J_aload_n hX dX13_pass_33 0 rfl (t := 34) rfl ?_
        obtain ⟨w30, h29, hF⟩ := bo1_e hF
        have k31 := (ctX13_laysAside (G := G) (l := l) w27  n h29)
        refine J_callV hX [] [] [] k31 miX13_laysAside mvX13_laysAside cb10 kModel q_2168 ⟨rfl, rfl, Nat.le_of_ble_eq_true rfl, Nat.le_of_ble_eq_true rfl⟩ rfl rfl (Nat.le_of_ble_eq_true rfl) ⟨Nat.le_of_ble_eq_true rfl, Nat.le_of_ble_eq_true rfl⟩ dX13_pass_34 (t := 37) rfl rfl ?_
        refine J_aload_n hX dX13_pass_37 0 rfl (t := 38) rfl ?_
        refine J_aload_n hX dX13_pass_38 0 rfl (t := 39) rfl ?_
        refine J_iload_n hX dX13_pass_39 1 rfl (t := 40) rfl ?_
        obtain ⟨x33, w34, h32, hF⟩ := bo2_e hF
        have k35 := (ctX13_passes (G := G) (l := l) w30 p1 n h32)
        refine J_callV hX [.int p1] [.ref (adr G 15 0)] [.int x33, .ref (adr G 15 0)] k35 miX13_passes mvX13_passes cb10 kModel q_2335 ⟨rfl, rfl, Nat.le_of_ble_eq_true rfl, Nat.le_of_ble_eq_true rfl⟩ rfl rfl (Nat.le_of_ble_eq_true rfl) ⟨Nat.le_of_ble_eq_true rfl, Nat.le_of_ble_eq_true rfl⟩ dX13_pass_40 (t := 43) rfl rfl ?_
        obtain ⟨x37, w38, h36, hF⟩ := bo2_e hF
        have k39 := (ctX13_kept (G := G) (l := l) w34 x33 n h36)
        refine J_callV hX [.int x33] [] [.int x37] k39 miX13_kept mvX13_kept cb10 kModel q_2181 ⟨rfl, rfl, Nat.le_of_ble_eq_true rfl, Nat.le_of_ble_eq_true rfl⟩ rfl rfl (Nat.le_of_ble_eq_true rfl) ⟨Nat.le_of_ble_eq_true rfl, Nat.le_of_ble_eq_true rfl⟩ dX13_pass_43 (t := 46) rfl rfl ?_
        replace hF := Option.some.inj hF
        obtain ⟨hF, hF2⟩ := Prod.mk.inj hF
        subst hF
        subst hF2
        exact J_iret hX hR hlk dX13_pass_46
      · replace hF := ib_f hF z
        refine J_iconst (v := 0) hX dX13_pass_31 (by decide) (t := 32) rfl ?_
        replace hF := Option.some.inj hF
        obtain ⟨hF, hF2⟩ := Prod.mk.inj hF
        subst hF
        subst hF2
        exact J_iret hX hR hlk dX13_pass_32
    · replace hF := it_t hF z
      refine J_iconst (v := 1) hX dX13_pass_20 (by decide) (t := 21) rfl ?_
      refine J_goto (tgt := 25) hX dX13_pass_21 (by decide) ?_
      obtain ⟨x41, w42, h40, hF⟩ := bnd2_e hF
      have k43 := (ctX13_goesBoth (G := G) (l := l) w x2 true h40)
      refine J_callV hX [.int (bI x2), .int (bI true)] [] [.int (bI x41)] k43 miX13_goesBoth mvX13_goesBoth cb10 kModel q_2164 ⟨rfl, rfl, Nat.le_of_ble_eq_true rfl, Nat.le_of_ble_eq_true rfl⟩ rfl rfl (Nat.le_of_ble_eq_true rfl) ⟨Nat.le_of_ble_eq_true rfl, Nat.le_of_ble_eq_true rfl⟩ dX13_pass_25 (t := 28) rfl rfl ?_
      refine J_ifZ_ne (tgt := 33) hX dX13_pass_28 (by decide) (t := 31) rfl (fun z => ?_) (fun z => ?_)
      · replace hF := it_t hF z
        refine J_aload_n hX dX13_pass_33 0 rfl (t := 34) rfl ?_
        obtain ⟨w45, h44, hF⟩ := bo1_e hF
        have k46 := (ctX13_laysAside (G := G) (l := l) w42  n h44)
        refine J_callV hX [] [] [] k46 miX13_laysAside mvX13_laysAside cb10 kModel q_2168 ⟨rfl, rfl, Nat.le_of_ble_eq_true rfl, Nat.le_of_ble_eq_true rfl⟩ rfl rfl (Nat.le_of_ble_eq_true rfl) ⟨Nat.le_of_ble_eq_true rfl, Nat.le_of_ble_eq_true rfl⟩ dX13_pass_34 (t := 37) rfl rfl ?_
        refine J_aload_n hX dX13_pass_37 0 rfl (t := 38) rfl ?_
        refine J_aload_n hX dX13_pass_38 0 rfl (t := 39) rfl ?_
        refine J_iload_n hX dX13_pass_39 1 rfl (t := 40) rfl ?_
        obtain ⟨x48, w49, h47, hF⟩ := bo2_e hF
        have k50 := (ctX13_passes (G := G) (l := l) w45 p1 n h47)
        refine J_callV hX [.int p1] [.ref (adr G 15 0)] [.int x48, .ref (adr G 15 0)] k50 miX13_passes mvX13_passes cb10 kModel q_2335 ⟨rfl, rfl, Nat.le_of_ble_eq_true rfl, Nat.le_of_ble_eq_true rfl⟩ rfl rfl (Nat.le_of_ble_eq_true rfl) ⟨Nat.le_of_ble_eq_true rfl, Nat.le_of_ble_eq_true rfl⟩ dX13_pass_40 (t := 43) rfl rfl ?_
        obtain ⟨x52, w53, h51, hF⟩ := bo2_e hF
        have k54 := (ctX13_kept (G := G) (l := l) w49 x48 n h51)
        refine J_callV hX [.int x48] [] [.int x52] k54 miX13_kept mvX13_kept cb10 kModel q_2181 ⟨rfl, rfl, Nat.le_of_ble_eq_true rfl, Nat.le_of_ble_eq_true rfl⟩ rfl rfl (Nat.le_of_ble_eq_true rfl) ⟨Nat.le_of_ble_eq_true rfl, Nat.le_of_ble_eq_true rfl⟩ dX13_pass_43 (t := 46) rfl rfl ?_
        replace hF := Option.some.inj hF
        obtain ⟨hF, hF2⟩ := Prod.mk.inj hF
        subst hF
        subst hF2
        exact J_iret hX hR hlk dX13_pass_46
      · replace hF := ib_f hF z
        refine J_iconst (v := 0) hX dX13_pass_31 (by decide) (t := 32) rfl ?_
        replace hF := Option.some.inj hF
        obtain ⟨hF, hF2⟩ := Prod.mk.inj hF
        subst hF
        subst hF2
        exact J_iret hX hR hlk dX13_pass_32
abbrev rmX13_more : Room := { frames := 3, cells := 0, slots := 0, locals := 70 }
theorem miX13_more : MI yX13_more cX13_more 3 (some .int) 2 := ⟨q_2423, q_152, by decide +kernel, by decide +kernel, by decide +kernel, by decide +kernel⟩
theorem mvX13_more : MV yX13_more := ⟨q_2422, q_87⟩
def FX13_more (n : Nat) (w : Wd) (p1 : Int32) (p2 : Int32) : Option (Int32 × Wd) :=
  bnd (FX13_isGood w) fun x2 =>
  if x2 = true then
    bo2 (FX13_number n w p1 p2) fun x5 w6 =>
    some (x5, w6)
  else
    some (p1, w)
set_option maxHeartbeats 4000000 in
set_option maxRecDepth 100000 in
theorem ctX13_more {G : GG} {l : Launch} (w : Wd) (p1 : Int32) (p2 : Int32)  (n : Nat) {rx : Int32} {rw : Wd} (hF : FX13_more n w p1 p2 = some (rx, rw)) : CT G l yX13_more cX13_more 3 (some .int) rmX13_more 0 0 [.ref (adr G 15 0), .int p1, .int p2] w (some (.int rx)) rw := by
  refine CT.of miX13_more [(0, .ref (adr G 15 0)), (1, .int p1), (2, .int p2)] rfl (Nat.le_of_ble_eq_true rfl) ?_
  intro p e s m args below meth c hX hR hlk
  have hX : FX G RX13 cX13_more 3 p s m args c := hX
  unfold FX13_more at hF
  refine J_aload_n hX dX13_more_0 0 rfl (t := 1) rfl ?_
  obtain ⟨x2, h1, hF⟩ := bnd_e hF
  have k3 := (ctX13_isGood (G := G) (l := l) w  h1)
  refine J_callV hX [] [] [.int (bI x2)] k3 miX13_isGood mvX13_isGood cb10 kModel q_2387 ⟨rfl, rfl, Nat.le_of_ble_eq_true rfl, Nat.le_of_ble_eq_true rfl⟩ rfl rfl (Nat.le_of_ble_eq_true rfl) ⟨Nat.le_of_ble_eq_true rfl, Nat.le_of_ble_eq_true rfl⟩ dX13_more_1 (t := 4) rfl rfl ?_
  refine J_ifZ_eq (tgt := 16) hX dX13_more_4 (by decide) (t := 7) rfl (fun z => ?_) (fun z => ?_)
  · replace hF := ib_f hF z
    refine J_iload_n hX dX13_more_16 1 rfl (t := 17) rfl ?_
    replace hF := Option.some.inj hF
    obtain ⟨hF, hF2⟩ := Prod.mk.inj hF
    subst hF
    subst hF2
    exact J_iret hX hR hlk dX13_more_17
  · replace hF := it_t hF z
    refine J_aload_n hX dX13_more_7 0 rfl (t := 8) rfl ?_
    refine J_iload_n hX dX13_more_8 1 rfl (t := 9) rfl ?_
    refine J_iload_n hX dX13_more_9 2 rfl (t := 10) rfl ?_
    obtain ⟨x5, w6, h4, hF⟩ := bo2_e hF
    have k7 := (ctX13_number (G := G) (l := l) w p1 p2 n h4)
    refine J_callV hX [.int p1, .int p2] [] [.int x5] k7 miX13_number mvX13_number cb10 kModel q_2424 ⟨rfl, rfl, Nat.le_of_ble_eq_true rfl, Nat.le_of_ble_eq_true rfl⟩ rfl rfl (Nat.le_of_ble_eq_true rfl) ⟨Nat.le_of_ble_eq_true rfl, Nat.le_of_ble_eq_true rfl⟩ dX13_more_10 (t := 13) rfl rfl ?_
    refine J_goto (tgt := 17) hX dX13_more_13 (by decide) ?_
    replace hF := Option.some.inj hF
    obtain ⟨hF, hF2⟩ := Prod.mk.inj hF
    subst hF
    subst hF2
    exact J_iret hX hR hlk dX13_more_17
abbrev rmX13_valleyRest : Room := { frames := 4, cells := 0, slots := 0, locals := 92 }
theorem miX13_valleyRest : MI yX13_valleyRest cX13_valleyRest 6 none 1 := ⟨q_2419, q_152, by decide +kernel, by decide +kernel, by decide +kernel, by decide +kernel⟩
theorem mvX13_valleyRest : MV yX13_valleyRest := ⟨q_2418, q_86⟩
def FX13_valleyRest (n : Nat) (w : Wd) (p1 : Int64) : Option (Wd) :=
  bo2 (FX13_more n w 1 60) fun x2 w3 =>
  bo2 (FX13_more n w3 1 4) fun x6 w7 =>
  bo2 (FX13_more n w7 1 99) fun x10 w11 =>
  bnd (FX13_isGood w11) fun x14 =>
  if x14 = true then
    bo2 (FX13_addsValley w11 p1 x2 x6 x10) fun x17 w18 =>
    bnd (sW w18 15 (sI (w18 15) 0 31 x17)) fun w20 =>
    some w20
  else
    some w11
set_option maxHeartbeats 4000000 in
set_option maxRecDepth 100000 in
theorem ctX13_valleyRest {G : GG} {l : Launch} (w : Wd) (p1 : Int64)  (n : Nat) {rw : Wd} (hF : FX13_valleyRest n w p1 = some rw) : CT G l yX13_valleyRest cX13_valleyRest 6 none rmX13_valleyRest 0 0 [.ref (adr G 15 0), .long p1] w (none) rw := by
  refine CT.of miX13_valleyRest [(0, .ref (adr G 15 0)), (1, .long p1)] rfl (Nat.le_of_ble_eq_true rfl) ?_
  intro p e s m args below meth c hX hR hlk
  have hX : FX G RX13 cX13_valleyRest 6 p s m args c := hX
  unfold FX13_valleyRest at hF
  refine J_aload_n hX dX13_valleyRest_0 0 rfl (t := 1) rfl ?_
  refine J_iconst (v := 1) hX dX13_valleyRest_1 (by decide) (t := 2) rfl ?_
  refine J_bipush (v := 60) hX dX13_valleyRest_2 (by decide) (t := 4) rfl ?_
  obtain ⟨x2, w3, h1, hF⟩ := bo2_e hF
  have k4 := (ctX13_more (G := G) (l := l) w 1 60 n h1)
  refine J_callV hX [.int 1, .int 60] [] [.int x2] k4 miX13_more mvX13_more cb10 kModel q_2420 ⟨rfl, rfl, Nat.le_of_ble_eq_true rfl, Nat.le_of_ble_eq_true rfl⟩ rfl rfl (Nat.le_of_ble_eq_true rfl) ⟨Nat.le_of_ble_eq_true rfl, Nat.le_of_ble_eq_true rfl⟩ dX13_valleyRest_4 (t := 7) rfl rfl ?_
  refine J_istore_n (lc2 := [(3, .int x2), (0, .ref (adr G 15 0)), (1, .long p1)]) hX dX13_valleyRest_7 rfl (Nat.le_of_ble_eq_true rfl) rfl (t := 8) rfl ?_
  refine J_aload_n hX dX13_valleyRest_8 1 rfl (t := 9) rfl ?_
  refine J_iconst (v := 1) hX dX13_valleyRest_9 (by decide) (t := 10) rfl ?_
  refine J_iconst (v := 4) hX dX13_valleyRest_10 (by decide) (t := 11) rfl ?_
  obtain ⟨x6, w7, h5, hF⟩ := bo2_e hF
  have k8 := (ctX13_more (G := G) (l := l) w3 1 4 n h5)
  refine J_callV hX [.int 1, .int 4] [] [.int x6] k8 miX13_more mvX13_more cb10 kModel q_2420 ⟨rfl, rfl, Nat.le_of_ble_eq_true rfl, Nat.le_of_ble_eq_true rfl⟩ rfl rfl (Nat.le_of_ble_eq_true rfl) ⟨Nat.le_of_ble_eq_true rfl, Nat.le_of_ble_eq_true rfl⟩ dX13_valleyRest_11 (t := 14) rfl rfl ?_
  refine J_istore (lc2 := [(4, .int x6), (3, .int x2), (0, .ref (adr G 15 0)), (1, .long p1)]) hX dX13_valleyRest_14 (Nat.le_of_ble_eq_true rfl) rfl (t := 16) rfl ?_
  refine J_aload_n hX dX13_valleyRest_16 2 rfl (t := 17) rfl ?_
  refine J_iconst (v := 1) hX dX13_valleyRest_17 (by decide) (t := 18) rfl ?_
  refine J_bipush (v := 99) hX dX13_valleyRest_18 (by decide) (t := 20) rfl ?_
  obtain ⟨x10, w11, h9, hF⟩ := bo2_e hF
  have k12 := (ctX13_more (G := G) (l := l) w7 1 99 n h9)
  refine J_callV hX [.int 1, .int 99] [] [.int x10] k12 miX13_more mvX13_more cb10 kModel q_2420 ⟨rfl, rfl, Nat.le_of_ble_eq_true rfl, Nat.le_of_ble_eq_true rfl⟩ rfl rfl (Nat.le_of_ble_eq_true rfl) ⟨Nat.le_of_ble_eq_true rfl, Nat.le_of_ble_eq_true rfl⟩ dX13_valleyRest_20 (t := 23) rfl rfl ?_
  refine J_istore (lc2 := [(5, .int x10), (4, .int x6), (3, .int x2), (0, .ref (adr G 15 0)), (1, .long p1)]) hX dX13_valleyRest_23 (Nat.le_of_ble_eq_true rfl) rfl (t := 25) rfl ?_
  refine J_aload_n hX dX13_valleyRest_25 3 rfl (t := 26) rfl ?_
  obtain ⟨x14, h13, hF⟩ := bnd_e hF
  have k15 := (ctX13_isGood (G := G) (l := l) w11  h13)
  refine J_callV hX [] [] [.int (bI x14)] k15 miX13_isGood mvX13_isGood cb10 kModel q_2387 ⟨rfl, rfl, Nat.le_of_ble_eq_true rfl, Nat.le_of_ble_eq_true rfl⟩ rfl rfl (Nat.le_of_ble_eq_true rfl) ⟨Nat.le_of_ble_eq_true rfl, Nat.le_of_ble_eq_true rfl⟩ dX13_valleyRest_26 (t := 29) rfl rfl ?_
  refine J_ifZ_eq (tgt := 46) hX dX13_valleyRest_29 (by decide) (t := 32) rfl (fun z => ?_) (fun z => ?_)
  · replace hF := ib_f hF z
    replace hF := Option.some.inj hF
    subst hF
    exact J_vret hX hR hlk dX13_valleyRest_46
  · replace hF := it_t hF z
    refine J_aload_n hX dX13_valleyRest_32 3 rfl (t := 33) rfl ?_
    refine J_aload_n hX dX13_valleyRest_33 3 rfl (t := 34) rfl ?_
    refine J_lload_n hX dX13_valleyRest_34 4 rfl (t := 35) rfl ?_
    refine J_iload_n hX dX13_valleyRest_35 2 rfl (t := 36) rfl ?_
    refine J_iload hX dX13_valleyRest_36 1 rfl (t := 38) rfl ?_
    refine J_iload hX dX13_valleyRest_38 0 rfl (t := 40) rfl ?_
    obtain ⟨x17, w18, h16, hF⟩ := bo2_e hF
    have k19 := (ctX13_addsValley (G := G) (l := l) w11 p1 x2 x6 x10 h16)
    refine J_callV hX [.long p1, .int x2, .int x6, .int x10] [.ref (adr G 15 0)] [.int x17, .ref (adr G 15 0)] k19 miX13_addsValley mvX13_addsValley cb10 kModel q_2172 ⟨rfl, rfl, Nat.le_of_ble_eq_true rfl, Nat.le_of_ble_eq_true rfl⟩ rfl rfl (Nat.le_of_ble_eq_true rfl) ⟨Nat.le_of_ble_eq_true rfl, Nat.le_of_ble_eq_true rfl⟩ dX13_valleyRest_40 (t := 43) rfl rfl ?_
    obtain ⟨w20, e21, hF⟩ := bnd_e hF
    refine J_puti hX cb10 kModel 31 (by decide) q_1998 rfl rfl e21 (fun _ _ => Nat.le_of_ble_eq_true rfl) (fun _ _ => rfl) dX13_valleyRest_43 (t := 46) rfl ?_
    replace hF := Option.some.inj hF
    subst hF
    exact J_vret hX hR hlk dX13_valleyRest_46
abbrev rmX13_customerRest : Room := { frames := 4, cells := 0, slots := 0, locals := 92 }
theorem miX13_customerRest : MI yX13_customerRest cX13_customerRest 5 none 1 := ⟨q_2435, q_152, by decide +kernel, by decide +kernel, by decide +kernel, by decide +kernel⟩
theorem mvX13_customerRest : MV yX13_customerRest := ⟨q_2434, q_90⟩
def FX13_customerRest (n : Nat) (w : Wd) (p1 : Int64) : Option (Wd) :=
  bo2 (FX13_more n w 1 240) fun x2 w3 =>
  bo2 (FX13_more n w3 0 9999) fun x6 w7 =>
  bnd (FX13_isGood w7) fun x10 =>
  if x10 = true then
    bo2 (FX13_addsCustomer w7 p1 x2 x6) fun x13 w14 =>
    bnd (sW w14 15 (sI (w14 15) 0 31 x13)) fun w16 =>
    some w16
  else
    some w7
set_option maxHeartbeats 4000000 in
set_option maxRecDepth 100000 in
theorem ctX13_customerRest {G : GG} {l : Launch} (w : Wd) (p1 : Int64)  (n : Nat) {rw : Wd} (hF : FX13_customerRest n w p1 = some rw) : CT G l yX13_customerRest cX13_customerRest 5 none rmX13_customerRest 0 0 [.ref (adr G 15 0), .long p1] w (none) rw := by
  refine CT.of miX13_customerRest [(0, .ref (adr G 15 0)), (1, .long p1)] rfl (Nat.le_of_ble_eq_true rfl) ?_
  intro p e s m args below meth c hX hR hlk
  have hX : FX G RX13 cX13_customerRest 5 p s m args c := hX
  unfold FX13_customerRest at hF
  refine J_aload_n hX dX13_customerRest_0 0 rfl (t := 1) rfl ?_
  refine J_iconst (v := 1) hX dX13_customerRest_1 (by decide) (t := 2) rfl ?_
  refine J_sipush (v := 240) hX dX13_customerRest_2 (by decide) (t := 5) rfl ?_
  obtain ⟨x2, w3, h1, hF⟩ := bo2_e hF
  have k4 := (ctX13_more (G := G) (l := l) w 1 240 n h1)
  refine J_callV hX [.int 1, .int 240] [] [.int x2] k4 miX13_more mvX13_more cb10 kModel q_2420 ⟨rfl, rfl, Nat.le_of_ble_eq_true rfl, Nat.le_of_ble_eq_true rfl⟩ rfl rfl (Nat.le_of_ble_eq_true rfl) ⟨Nat.le_of_ble_eq_true rfl, Nat.le_of_ble_eq_true rfl⟩ dX13_customerRest_5 (t := 8) rfl rfl ?_
  refine J_istore_n (lc2 := [(3, .int x2), (0, .ref (adr G 15 0)), (1, .long p1)]) hX dX13_customerRest_8 rfl (Nat.le_of_ble_eq_true rfl) rfl (t := 9) rfl ?_
  refine J_aload_n hX dX13_customerRest_9 1 rfl (t := 10) rfl ?_
  refine J_iconst (v := 0) hX dX13_customerRest_10 (by decide) (t := 11) rfl ?_
  refine J_sipush (v := 9999) hX dX13_customerRest_11 (by decide) (t := 14) rfl ?_
  obtain ⟨x6, w7, h5, hF⟩ := bo2_e hF
  have k8 := (ctX13_more (G := G) (l := l) w3 0 9999 n h5)
  refine J_callV hX [.int 0, .int 9999] [] [.int x6] k8 miX13_more mvX13_more cb10 kModel q_2420 ⟨rfl, rfl, Nat.le_of_ble_eq_true rfl, Nat.le_of_ble_eq_true rfl⟩ rfl rfl (Nat.le_of_ble_eq_true rfl) ⟨Nat.le_of_ble_eq_true rfl, Nat.le_of_ble_eq_true rfl⟩ dX13_customerRest_14 (t := 17) rfl rfl ?_
  refine J_istore (lc2 := [(4, .int x6), (3, .int x2), (0, .ref (adr G 15 0)), (1, .long p1)]) hX dX13_customerRest_17 (Nat.le_of_ble_eq_true rfl) rfl (t := 19) rfl ?_
  refine J_aload_n hX dX13_customerRest_19 2 rfl (t := 20) rfl ?_
  obtain ⟨x10, h9, hF⟩ := bnd_e hF
  have k11 := (ctX13_isGood (G := G) (l := l) w7  h9)
  refine J_callV hX [] [] [.int (bI x10)] k11 miX13_isGood mvX13_isGood cb10 kModel q_2387 ⟨rfl, rfl, Nat.le_of_ble_eq_true rfl, Nat.le_of_ble_eq_true rfl⟩ rfl rfl (Nat.le_of_ble_eq_true rfl) ⟨Nat.le_of_ble_eq_true rfl, Nat.le_of_ble_eq_true rfl⟩ dX13_customerRest_20 (t := 23) rfl rfl ?_
  refine J_ifZ_eq (tgt := 38) hX dX13_customerRest_23 (by decide) (t := 26) rfl (fun z => ?_) (fun z => ?_)
  · replace hF := ib_f hF z
    replace hF := Option.some.inj hF
    subst hF
    exact J_vret hX hR hlk dX13_customerRest_38
  · replace hF := it_t hF z
    refine J_aload_n hX dX13_customerRest_26 2 rfl (t := 27) rfl ?_
    refine J_aload_n hX dX13_customerRest_27 2 rfl (t := 28) rfl ?_
    refine J_lload_n hX dX13_customerRest_28 3 rfl (t := 29) rfl ?_
    refine J_iload_n hX dX13_customerRest_29 1 rfl (t := 30) rfl ?_
    refine J_iload hX dX13_customerRest_30 0 rfl (t := 32) rfl ?_
    obtain ⟨x13, w14, h12, hF⟩ := bo2_e hF
    have k15 := (ctX13_addsCustomer (G := G) (l := l) w7 p1 x2 x6 h12)
    refine J_callV hX [.long p1, .int x2, .int x6] [.ref (adr G 15 0)] [.int x13, .ref (adr G 15 0)] k15 miX13_addsCustomer mvX13_addsCustomer cb10 kModel q_2201 ⟨rfl, rfl, Nat.le_of_ble_eq_true rfl, Nat.le_of_ble_eq_true rfl⟩ rfl rfl (Nat.le_of_ble_eq_true rfl) ⟨Nat.le_of_ble_eq_true rfl, Nat.le_of_ble_eq_true rfl⟩ dX13_customerRest_32 (t := 35) rfl rfl ?_
    obtain ⟨w16, e17, hF⟩ := bnd_e hF
    refine J_puti hX cb10 kModel 31 (by decide) q_1998 rfl rfl e17 (fun _ _ => Nat.le_of_ble_eq_true rfl) (fun _ _ => rfl) dX13_customerRest_35 (t := 38) rfl ?_
    replace hF := Option.some.inj hF
    subst hF
    exact J_vret hX hR hlk dX13_customerRest_38
abbrev rmX13_newLine : Room := { frames := 5, cells := 0, slots := 0, locals := 117 }
theorem miX13_newLine : MI yX13_newLine cX13_newLine 4 none 1 := ⟨q_2415, q_152, by decide +kernel, by decide +kernel, by decide +kernel, by decide +kernel⟩
theorem mvX13_newLine : MV yX13_newLine := ⟨q_2414, q_85⟩
def FX13_newLine_B88 (n : Nat) (w : Wd) (l1 : Int32) (l2 : Int64) : Option (Wd) :=
  if l1 = 0 then
    bo1 (FX13_valleyRest n w l2) fun w18 =>
    some w18
  else
    bo1 (FX13_customerRest n w l2) fun w15 =>
    some w15
set_option maxHeartbeats 4000000 in
set_option maxRecDepth 100000 in
theorem BX13_newLine_88 {G : GG} {l : Launch} {p : Program} {e : Env} {s : State} {m : MethodId} {args : Array Value} {below : List Frame} {meth : Method} {c : Code} (hX : FX G RX13 cX13_newLine 4 p s m args c) (hR : meth.sig.returnType = none) (hlk : meth.locks = false) {rw : Wd} (n : Nat) (w : Wd) (l1 : Int32) (l2 : Int64)  (hF : FX13_newLine_B88 n w l1 l2 = some rw) : J G p l e rmX13_newLine s m args below meth c 4 0 0 (MQ below (QV G (none) rw) args s 0 0 (gA G)) (GH G w) 88 [(0, .ref (adr G 15 0)), (1, .int l1), (2, .long l2)] [] := by
  unfold FX13_newLine_B88 at hF
  refine J_iload_n hX dX13_newLine_88 1 rfl (t := 89) rfl ?_
  refine J_if_ne (tgt := 100) hX dX13_newLine_89 (by decide) (t := 92) rfl (fun z => ?_) (fun z => ?_)
  · replace hF := it_f hF z
    refine J_aload_n hX dX13_newLine_100 0 rfl (t := 101) rfl ?_
    refine J_lload_n hX dX13_newLine_101 2 rfl (t := 102) rfl ?_
    obtain ⟨w15, h14, hF⟩ := bo1_e hF
    have k16 := (ctX13_customerRest (G := G) (l := l) w l2 n h14)
    refine J_callV hX [.long l2] [] [] k16 miX13_customerRest mvX13_customerRest cb10 kModel q_2432 ⟨rfl, rfl, Nat.le_of_ble_eq_true rfl, Nat.le_of_ble_eq_true rfl⟩ rfl rfl (Nat.le_of_ble_eq_true rfl) ⟨Nat.le_of_ble_eq_true rfl, Nat.le_of_ble_eq_true rfl⟩ dX13_newLine_102 (t := 105) rfl rfl ?_
    replace hF := Option.some.inj hF
    subst hF
    exact J_vret hX hR hlk dX13_newLine_105
  · replace hF := it_t hF z
    refine J_aload_n hX dX13_newLine_92 0 rfl (t := 93) rfl ?_
    refine J_lload_n hX dX13_newLine_93 2 rfl (t := 94) rfl ?_
    obtain ⟨w18, h17, hF⟩ := bo1_e hF
    have k19 := (ctX13_valleyRest (G := G) (l := l) w l2 n h17)
    refine J_callV hX [.long l2] [] [] k19 miX13_valleyRest mvX13_valleyRest cb10 kModel q_2416 ⟨rfl, rfl, Nat.le_of_ble_eq_true rfl, Nat.le_of_ble_eq_true rfl⟩ rfl rfl (Nat.le_of_ble_eq_true rfl) ⟨Nat.le_of_ble_eq_true rfl, Nat.le_of_ble_eq_true rfl⟩ dX13_newLine_94 (t := 97) rfl rfl ?_
    refine J_goto (tgt := 105) hX dX13_newLine_97 (by decide) ?_
    replace hF := Option.some.inj hF
    subst hF
    exact J_vret hX hR hlk dX13_newLine_105
def FX13_newLine_B72 (n : Nat) (w : Wd) (l1 : Int32) : Option (Wd) :=
  bnd (FX13_isGood w) fun x12 =>
  if x12 = true then
    bo1 (FX13_goOnRead n w) fun w21 =>
    FX13_newLine_B88 n w21 l1 ((w 15).2 0 12)
  else
    FX13_newLine_B88 n w l1 ((w 15).2 0 12)
set_option maxHeartbeats 4000000 in
set_option maxRecDepth 100000 in
theorem BX13_newLine_72 {G : GG} {l : Launch} {p : Program} {e : Env} {s : State} {m : MethodId} {args : Array Value} {below : List Frame} {meth : Method} {c : Code} (hX : FX G RX13 cX13_newLine 4 p s m args c) (hR : meth.sig.returnType = none) (hlk : meth.locks = false) {rw : Wd} (n : Nat) (w : Wd) (l1 : Int32)  (hF : FX13_newLine_B72 n w l1 = some rw) : J G p l e rmX13_newLine s m args below meth c 4 0 0 (MQ below (QV G (none) rw) args s 0 0 (gA G)) (GH G w) 72 [(0, .ref (adr G 15 0)), (1, .int l1)] [] := by
  unfold FX13_newLine_B72 at hF
  refine J_aload_n hX dX13_newLine_72 0 rfl (t := 73) rfl ?_
  refine J_get hX cb10 kModel 12 (by decide) q_1979 rfl dX13_newLine_73 (t := 76) rfl ?_
  refine J_lstore_n (lc2 := [(2, .long ((w 15).2 0 12)), (0, .ref (adr G 15 0)), (1, .int l1)]) hX dX13_newLine_76 rfl (Nat.le_of_ble_eq_true rfl) rfl (t := 77) rfl ?_
  refine J_aload_n hX dX13_newLine_77 1 rfl (t := 78) rfl ?_
  obtain ⟨x12, h11, hF⟩ := bnd_e hF
  have k13 := (ctX13_isGood (G := G) (l := l) w  h11)
  refine J_callV hX [] [] [.int (bI x12)] k13 miX13_isGood mvX13_isGood cb10 kModel q_2387 ⟨rfl, rfl, Nat.le_of_ble_eq_true rfl, Nat.le_of_ble_eq_true rfl⟩ rfl rfl (Nat.le_of_ble_eq_true rfl) ⟨Nat.le_of_ble_eq_true rfl, Nat.le_of_ble_eq_true rfl⟩ dX13_newLine_78 (t := 81) rfl rfl ?_
  refine J_ifZ_eq (tgt := 88) hX dX13_newLine_81 (by decide) (t := 84) rfl (fun z => ?_) (fun z => ?_)
  · replace hF := ib_f hF z
    refine J_sub (lc2 := [(0, .ref (adr G 15 0)), (1, .int l1), (2, .long ((w 15).2 0 12))]) [1, 2, 0] rfl ?_
    exact BX13_newLine_88 hX hR hlk n w l1 ((w 15).2 0 12) hF
  · replace hF := it_t hF z
    refine J_aload_n hX dX13_newLine_84 1 rfl (t := 85) rfl ?_
    obtain ⟨w21, h20, hF⟩ := bo1_e hF
    have k22 := (ctX13_goOnRead (G := G) (l := l) w  n h20)
    refine J_callV hX [] [] [] k22 miX13_goOnRead mvX13_goOnRead cb10 kModel q_2371 ⟨rfl, rfl, Nat.le_of_ble_eq_true rfl, Nat.le_of_ble_eq_true rfl⟩ rfl rfl (Nat.le_of_ble_eq_true rfl) ⟨Nat.le_of_ble_eq_true rfl, Nat.le_of_ble_eq_true rfl⟩ dX13_newLine_85 (t := 88) rfl rfl ?_
    refine J_sub (lc2 := [(0, .ref (adr G 15 0)), (1, .int l1), (2, .long ((w 15).2 0 12))]) [1, 2, 0] rfl ?_
    exact BX13_newLine_88 hX hR hlk n w21 l1 ((w 15).2 0 12) hF
def FX13_newLine_B47 (n : Nat) (w : Wd) (l1 : Int32) : Option (Wd) :=
  bnd (FX13_isGood w) fun x9 =>
  if x9 = true then
    bo1 (FX13_found n w l1 ((w 15).2 0 12)) fun x24 =>
    if x24 = (-1) then
      FX13_newLine_B72 n w l1
    else
      bnd (FX13_wrong w 3) fun w27 =>
      FX13_newLine_B72 n w27 l1
  else
    FX13_newLine_B72 n w l1
set_option maxHeartbeats 4000000 in
set_option maxRecDepth 100000 in
theorem BX13_newLine_47 {G : GG} {l : Launch} {p : Program} {e : Env} {s : State} {m : MethodId} {args : Array Value} {below : List Frame} {meth : Method} {c : Code} (hX : FX G RX13 cX13_newLine 4 p s m args c) (hR : meth.sig.returnType = none) (hlk : meth.locks = false) {rw : Wd} (n : Nat) (w : Wd) (l1 : Int32)  (hF : FX13_newLine_B47 n w l1 = some rw) : J G p l e rmX13_newLine s m args below meth c 4 0 0 (MQ below (QV G (none) rw) args s 0 0 (gA G)) (GH G w) 47 [(0, .ref (adr G 15 0)), (1, .int l1)] [] := by
  unfold FX13_newLine_B47 at hF
  refine J_aload_n hX dX13_newLine_47 0 rfl (t := 48) rfl ?_
  obtain ⟨x9, h8, hF⟩ := bnd_e hF
  have k10 := (ctX13_isGood (G := G) (l := l) w  h8)
  refine J_callV hX [] [] [.int (bI x9)] k10 miX13_isGood mvX13_isGood cb10 kModel q_2387 ⟨rfl, rfl, Nat.le_of_ble_eq_true rfl, Nat.le_of_ble_eq_true rfl⟩ rfl rfl (Nat.le_of_ble_eq_true rfl) ⟨Nat.le_of_ble_eq_true rfl, Nat.le_of_ble_eq_true rfl⟩ dX13_newLine_48 (t := 51) rfl rfl ?_
  refine J_ifZ_eq (tgt := 72) hX dX13_newLine_51 (by decide) (t := 54) rfl (fun z => ?_) (fun z => ?_)
  · replace hF := ib_f hF z
    refine J_sub (lc2 := [(0, .ref (adr G 15 0)), (1, .int l1)]) [0, 1] rfl ?_
    exact BX13_newLine_72 hX hR hlk n w l1 hF
  · replace hF := it_t hF z
    refine J_aload_n hX dX13_newLine_54 0 rfl (t := 55) rfl ?_
    refine J_iload_n hX dX13_newLine_55 1 rfl (t := 56) rfl ?_
    refine J_aload_n hX dX13_newLine_56 0 rfl (t := 57) rfl ?_
    refine J_get hX cb10 kModel 12 (by decide) q_1979 rfl dX13_newLine_57 (t := 60) rfl ?_
    obtain ⟨x24, h23, hF⟩ := bo1_e hF
    have k25 := (ctX13_found (G := G) (l := l) w l1 ((w 15).2 0 12) n h23)
    refine J_callV hX [.int l1, .long ((w 15).2 0 12)] [] [.int x24] k25 miX13_found mvX13_found cb10 kModel q_2147 ⟨rfl, rfl, Nat.le_of_ble_eq_true rfl, Nat.le_of_ble_eq_true rfl⟩ rfl rfl (Nat.le_of_ble_eq_true rfl) ⟨Nat.le_of_ble_eq_true rfl, Nat.le_of_ble_eq_true rfl⟩ dX13_newLine_60 (t := 63) rfl rfl ?_
    refine J_iconst (v := (-1)) hX dX13_newLine_63 (by decide) (t := 64) rfl ?_
    refine J_icmp_eq (tgt := 72) hX dX13_newLine_64 (by decide) (t := 67) rfl (fun z => ?_) (fun z => ?_)
    · replace hF := it_t hF z
      refine J_sub (lc2 := [(0, .ref (adr G 15 0)), (1, .int l1)]) [0, 1] rfl ?_
      exact BX13_newLine_72 hX hR hlk n w l1 hF
    · replace hF := it_f hF z
      refine J_aload_n hX dX13_newLine_67 0 rfl (t := 68) rfl ?_
      refine J_iconst (v := 3) hX dX13_newLine_68 (by decide) (t := 69) rfl ?_
      obtain ⟨w27, h26, hF⟩ := bnd_e hF
      have k28 := (ctX13_wrong (G := G) (l := l) w 3 h26)
      refine J_callV hX [.int 3] [] [] k28 miX13_wrong mvX13_wrong cb10 kModel q_2395 ⟨rfl, rfl, Nat.le_of_ble_eq_true rfl, Nat.le_of_ble_eq_true rfl⟩ rfl rfl (Nat.le_of_ble_eq_true rfl) ⟨Nat.le_of_ble_eq_true rfl, Nat.le_of_ble_eq_true rfl⟩ dX13_newLine_69 (t := 72) rfl rfl ?_
      refine J_sub (lc2 := [(0, .ref (adr G 15 0)), (1, .int l1)]) [0, 1] rfl ?_
      exact BX13_newLine_72 hX hR hlk n w27 l1 hF
def FX13_newLine_B27 (n : Nat) (w : Wd) (l1 : Int32) : Option (Wd) :=
  bnd (FX13_isGood w) fun x6 =>
  if x6 = true then
    if (w 15).1 0 6 = 1 then
      FX13_newLine_B47 n w l1
    else
      bnd (FX13_wrong w 1) fun w30 =>
      FX13_newLine_B47 n w30 l1
  else
    FX13_newLine_B47 n w l1
set_option maxHeartbeats 4000000 in
set_option maxRecDepth 100000 in
theorem BX13_newLine_27 {G : GG} {l : Launch} {p : Program} {e : Env} {s : State} {m : MethodId} {args : Array Value} {below : List Frame} {meth : Method} {c : Code} (hX : FX G RX13 cX13_newLine 4 p s m args c) (hR : meth.sig.returnType = none) (hlk : meth.locks = false) {rw : Wd} (n : Nat) (w : Wd) (l1 : Int32)  (hF : FX13_newLine_B27 n w l1 = some rw) : J G p l e rmX13_newLine s m args below meth c 4 0 0 (MQ below (QV G (none) rw) args s 0 0 (gA G)) (GH G w) 27 [(0, .ref (adr G 15 0)), (1, .int l1)] [] := by
  unfold FX13_newLine_B27 at hF
  refine J_aload_n hX dX13_newLine_27 0 rfl (t := 28) rfl ?_
  obtain ⟨x6, h5, hF⟩ := bnd_e hF
  have k7 := (ctX13_isGood (G := G) (l := l) w  h5)
  refine J_callV hX [] [] [.int (bI x6)] k7 miX13_isGood mvX13_isGood cb10 kModel q_2387 ⟨rfl, rfl, Nat.le_of_ble_eq_true rfl, Nat.le_of_ble_eq_true rfl⟩ rfl rfl (Nat.le_of_ble_eq_true rfl) ⟨Nat.le_of_ble_eq_true rfl, Nat.le_of_ble_eq_true rfl⟩ dX13_newLine_28 (t := 31) rfl rfl ?_
  refine J_ifZ_eq (tgt := 47) hX dX13_newLine_31 (by decide) (t := 34) rfl (fun z => ?_) (fun z => ?_)
  · replace hF := ib_f hF z
    refine J_sub (lc2 := [(0, .ref (adr G 15 0)), (1, .int l1)]) [0, 1] rfl ?_
    exact BX13_newLine_47 hX hR hlk n w l1 hF
  · replace hF := it_t hF z
    refine J_aload_n hX dX13_newLine_34 0 rfl (t := 35) rfl ?_
    refine J_get hX cb10 kModel 6 (by decide) q_1973 rfl dX13_newLine_35 (t := 38) rfl ?_
    refine J_iconst (v := 1) hX dX13_newLine_38 (by decide) (t := 39) rfl ?_
    refine J_icmp_eq (tgt := 47) hX dX13_newLine_39 (by decide) (t := 42) rfl (fun z => ?_) (fun z => ?_)
    · replace hF := it_t hF z
      refine J_sub (lc2 := [(0, .ref (adr G 15 0)), (1, .int l1)]) [0, 1] rfl ?_
      exact BX13_newLine_47 hX hR hlk n w l1 hF
    · replace hF := it_f hF z
      refine J_aload_n hX dX13_newLine_42 0 rfl (t := 43) rfl ?_
      refine J_iconst (v := 1) hX dX13_newLine_43 (by decide) (t := 44) rfl ?_
      obtain ⟨w30, h29, hF⟩ := bnd_e hF
      have k31 := (ctX13_wrong (G := G) (l := l) w 1 h29)
      refine J_callV hX [.int 1] [] [] k31 miX13_wrong mvX13_wrong cb10 kModel q_2395 ⟨rfl, rfl, Nat.le_of_ble_eq_true rfl, Nat.le_of_ble_eq_true rfl⟩ rfl rfl (Nat.le_of_ble_eq_true rfl) ⟨Nat.le_of_ble_eq_true rfl, Nat.le_of_ble_eq_true rfl⟩ dX13_newLine_44 (t := 47) rfl rfl ?_
      refine J_sub (lc2 := [(0, .ref (adr G 15 0)), (1, .int l1)]) [0, 1] rfl ?_
      exact BX13_newLine_47 hX hR hlk n w30 l1 hF
def FX13_newLine_B16 (n : Nat) (w : Wd) (l1 : Int32) : Option (Wd) :=
  bnd (FX13_isGood w) fun x3 =>
  if x3 = true then
    bo1 (FX13_goOnRead n w) fun w33 =>
    FX13_newLine_B27 n w33 l1
  else
    FX13_newLine_B27 n w l1
set_option maxHeartbeats 4000000 in
set_option maxRecDepth 100000 in
theorem BX13_newLine_16 {G : GG} {l : Launch} {p : Program} {e : Env} {s : State} {m : MethodId} {args : Array Value} {below : List Frame} {meth : Method} {c : Code} (hX : FX G RX13 cX13_newLine 4 p s m args c) (hR : meth.sig.returnType = none) (hlk : meth.locks = false) {rw : Wd} (n : Nat) (w : Wd) (l1 : Int32)  (hF : FX13_newLine_B16 n w l1 = some rw) : J G p l e rmX13_newLine s m args below meth c 4 0 0 (MQ below (QV G (none) rw) args s 0 0 (gA G)) (GH G w) 16 [(0, .ref (adr G 15 0)), (1, .int l1)] [] := by
  unfold FX13_newLine_B16 at hF
  refine J_aload_n hX dX13_newLine_16 0 rfl (t := 17) rfl ?_
  obtain ⟨x3, h2, hF⟩ := bnd_e hF
  have k4 := (ctX13_isGood (G := G) (l := l) w  h2)
  refine J_callV hX [] [] [.int (bI x3)] k4 miX13_isGood mvX13_isGood cb10 kModel q_2387 ⟨rfl, rfl, Nat.le_of_ble_eq_true rfl, Nat.le_of_ble_eq_true rfl⟩ rfl rfl (Nat.le_of_ble_eq_true rfl) ⟨Nat.le_of_ble_eq_true rfl, Nat.le_of_ble_eq_true rfl⟩ dX13_newLine_17 (t := 20) rfl rfl ?_
  refine J_ifZ_eq (tgt := 27) hX dX13_newLine_20 (by decide) (t := 23) rfl (fun z => ?_) (fun z => ?_)
  · replace hF := ib_f hF z
    refine J_sub (lc2 := [(0, .ref (adr G 15 0)), (1, .int l1)]) [0, 1] rfl ?_
    exact BX13_newLine_27 hX hR hlk n w l1 hF
  · replace hF := it_t hF z
    refine J_aload_n hX dX13_newLine_23 0 rfl (t := 24) rfl ?_
    obtain ⟨w33, h32, hF⟩ := bo1_e hF
    have k34 := (ctX13_goOnRead (G := G) (l := l) w  n h32)
    refine J_callV hX [] [] [] k34 miX13_goOnRead mvX13_goOnRead cb10 kModel q_2371 ⟨rfl, rfl, Nat.le_of_ble_eq_true rfl, Nat.le_of_ble_eq_true rfl⟩ rfl rfl (Nat.le_of_ble_eq_true rfl) ⟨Nat.le_of_ble_eq_true rfl, Nat.le_of_ble_eq_true rfl⟩ dX13_newLine_24 (t := 27) rfl rfl ?_
    refine J_sub (lc2 := [(0, .ref (adr G 15 0)), (1, .int l1)]) [0, 1] rfl ?_
    exact BX13_newLine_27 hX hR hlk n w33 l1 hF
def FX13_newLine (n : Nat) (w : Wd) (p1 : Int32) : Option (Wd) :=
  gd (inb p1 390) <|
  if (w 15).1 2 p1.toNatClampNeg = 8 then
    bnd (FX13_wrong w 5) fun w36 =>
    FX13_newLine_B16 n w36 p1
  else
    FX13_newLine_B16 n w p1
set_option maxHeartbeats 4000000 in
set_option maxRecDepth 100000 in
theorem ctX13_newLine {G : GG} {l : Launch} (w : Wd) (p1 : Int32)  (n : Nat) {rw : Wd} (hF : FX13_newLine n w p1 = some rw) : CT G l yX13_newLine cX13_newLine 4 none rmX13_newLine 0 0 [.ref (adr G 15 0), .int p1] w (none) rw := by
  refine CT.of miX13_newLine [(0, .ref (adr G 15 0)), (1, .int p1)] rfl (Nat.le_of_ble_eq_true rfl) ?_
  intro p e s m args below meth c hX hR hlk
  have hX : FX G RX13 cX13_newLine 4 p s m args c := hX
  unfold FX13_newLine at hF
  refine J_aload_n hX dX13_newLine_0 0 rfl (t := 1) rfl ?_
  refine J_get hX cb10 kModel 13 (by decide) q_1980 rfl dX13_newLine_1 (t := 4) rfl ?_
  refine J_iload_n hX dX13_newLine_4 1 rfl (t := 5) rfl ?_
  obtain ⟨g1, hF⟩ := gd_e hF
  refine J_iald hX (kInts (j := 2) (n := 390) (by decide) (by decide) rfl) g1 rfl dX13_newLine_5 (t := 6) rfl ?_
  refine J_bipush (v := 8) hX dX13_newLine_6 (by decide) (t := 8) rfl ?_
  refine J_icmp_ne (tgt := 16) hX dX13_newLine_8 (by decide) (t := 11) rfl (fun z => ?_) (fun z => ?_)
  · replace hF := it_f hF z
    refine J_sub (lc2 := [(0, .ref (adr G 15 0)), (1, .int p1)]) [0, 1] rfl ?_
    exact BX13_newLine_16 hX hR hlk n w p1 hF
  · replace hF := it_t hF z
    refine J_aload_n hX dX13_newLine_11 0 rfl (t := 12) rfl ?_
    refine J_iconst (v := 5) hX dX13_newLine_12 (by decide) (t := 13) rfl ?_
    obtain ⟨w36, h35, hF⟩ := bnd_e hF
    have k37 := (ctX13_wrong (G := G) (l := l) w 5 h35)
    refine J_callV hX [.int 5] [] [] k37 miX13_wrong mvX13_wrong cb10 kModel q_2395 ⟨rfl, rfl, Nat.le_of_ble_eq_true rfl, Nat.le_of_ble_eq_true rfl⟩ rfl rfl (Nat.le_of_ble_eq_true rfl) ⟨Nat.le_of_ble_eq_true rfl, Nat.le_of_ble_eq_true rfl⟩ dX13_newLine_13 (t := 16) rfl rfl ?_
    refine J_sub (lc2 := [(0, .ref (adr G 15 0)), (1, .int p1)]) [0, 1] rfl ?_
    exact BX13_newLine_16 hX hR hlk n w36 p1 hF
abbrev rmX13_nameHere : Room := { frames := 3, cells := 0, slots := 0, locals := 65 }
theorem miX13_nameHere : MI yX13_nameHere cX13_nameHere 3 (some .int) 1 := ⟨q_2445, q_152, by decide +kernel, by decide +kernel, by decide +kernel, by decide +kernel⟩
theorem mvX13_nameHere : MV yX13_nameHere := ⟨q_2444, q_92⟩
def FX13_nameHere_B58 (n : Nat) (w : Wd) (l2 : Int32) : Option (Int32 × Wd) :=
  bnd (FX13_isGood w) fun x11 =>
  if x11 = true then
    bo1 (FX13_goOnRead n w) fun w14 =>
    some (l2, w14)
  else
    some (l2, w)
set_option maxHeartbeats 4000000 in
set_option maxRecDepth 100000 in
theorem BX13_nameHere_58 {G : GG} {l : Launch} {p : Program} {e : Env} {s : State} {m : MethodId} {args : Array Value} {below : List Frame} {meth : Method} {c : Code} (hX : FX G RX13 cX13_nameHere 3 p s m args c) (hR : meth.sig.returnType = (some .int)) (hlk : meth.locks = false) {rx : Int32} {rw : Wd} (n : Nat) (w : Wd) (l2 : Int32)  (hF : FX13_nameHere_B58 n w l2 = some (rx, rw)) : J G p l e rmX13_nameHere s m args below meth c 3 0 0 (MQ below (QV G (some (.int rx)) rw) args s 0 0 (gA G)) (GH G w) 58 [(0, .ref (adr G 15 0)), (2, .int l2)] [] := by
  unfold FX13_nameHere_B58 at hF
  refine J_aload_n hX dX13_nameHere_58 0 rfl (t := 59) rfl ?_
  obtain ⟨x11, h10, hF⟩ := bnd_e hF
  have k12 := (ctX13_isGood (G := G) (l := l) w  h10)
  refine J_callV hX [] [] [.int (bI x11)] k12 miX13_isGood mvX13_isGood cb10 kModel q_2387 ⟨rfl, rfl, Nat.le_of_ble_eq_true rfl, Nat.le_of_ble_eq_true rfl⟩ rfl rfl (Nat.le_of_ble_eq_true rfl) ⟨Nat.le_of_ble_eq_true rfl, Nat.le_of_ble_eq_true rfl⟩ dX13_nameHere_59 (t := 62) rfl rfl ?_
  refine J_ifZ_eq (tgt := 69) hX dX13_nameHere_62 (by decide) (t := 65) rfl (fun z => ?_) (fun z => ?_)
  · replace hF := ib_f hF z
    refine J_iload_n hX dX13_nameHere_69 1 rfl (t := 70) rfl ?_
    replace hF := Option.some.inj hF
    obtain ⟨hF, hF2⟩ := Prod.mk.inj hF
    subst hF
    subst hF2
    exact J_iret hX hR hlk dX13_nameHere_70
  · replace hF := it_t hF z
    refine J_aload_n hX dX13_nameHere_65 0 rfl (t := 66) rfl ?_
    obtain ⟨w14, h13, hF⟩ := bo1_e hF
    have k15 := (ctX13_goOnRead (G := G) (l := l) w  n h13)
    refine J_callV hX [] [] [] k15 miX13_goOnRead mvX13_goOnRead cb10 kModel q_2371 ⟨rfl, rfl, Nat.le_of_ble_eq_true rfl, Nat.le_of_ble_eq_true rfl⟩ rfl rfl (Nat.le_of_ble_eq_true rfl) ⟨Nat.le_of_ble_eq_true rfl, Nat.le_of_ble_eq_true rfl⟩ dX13_nameHere_66 (t := 69) rfl rfl ?_
    refine J_iload_n hX dX13_nameHere_69 1 rfl (t := 70) rfl ?_
    replace hF := Option.some.inj hF
    obtain ⟨hF, hF2⟩ := Prod.mk.inj hF
    subst hF
    subst hF2
    exact J_iret hX hR hlk dX13_nameHere_70
def FX13_nameHere_B40 (n : Nat) (w : Wd) (y0 : Int32) : Option (Int32 × Wd) :=
  bnd (FX13_isGood w) fun x8 =>
  if x8 = true then
    if y0 = (-1) then
      bnd (FX13_wrong w 4) fun w17 =>
      FX13_nameHere_B58 n w17 y0
    else
      FX13_nameHere_B58 n w y0
  else
    FX13_nameHere_B58 n w y0
set_option maxHeartbeats 4000000 in
set_option maxRecDepth 100000 in
theorem BX13_nameHere_40 {G : GG} {l : Launch} {p : Program} {e : Env} {s : State} {m : MethodId} {args : Array Value} {below : List Frame} {meth : Method} {c : Code} (hX : FX G RX13 cX13_nameHere 3 p s m args c) (hR : meth.sig.returnType = (some .int)) (hlk : meth.locks = false) {rx : Int32} {rw : Wd} (n : Nat) (w : Wd) (y0 : Int32)  (hF : FX13_nameHere_B40 n w y0 = some (rx, rw)) : J G p l e rmX13_nameHere s m args below meth c 3 0 0 (MQ below (QV G (some (.int rx)) rw) args s 0 0 (gA G)) (GH G w) 40 [(0, .ref (adr G 15 0))] [.int y0] := by
  unfold FX13_nameHere_B40 at hF
  refine J_istore_n (lc2 := [(2, .int y0), (0, .ref (adr G 15 0))]) hX dX13_nameHere_40 rfl (Nat.le_of_ble_eq_true rfl) rfl (t := 41) rfl ?_
  refine J_aload_n hX dX13_nameHere_41 1 rfl (t := 42) rfl ?_
  obtain ⟨x8, h7, hF⟩ := bnd_e hF
  have k9 := (ctX13_isGood (G := G) (l := l) w  h7)
  refine J_callV hX [] [] [.int (bI x8)] k9 miX13_isGood mvX13_isGood cb10 kModel q_2387 ⟨rfl, rfl, Nat.le_of_ble_eq_true rfl, Nat.le_of_ble_eq_true rfl⟩ rfl rfl (Nat.le_of_ble_eq_true rfl) ⟨Nat.le_of_ble_eq_true rfl, Nat.le_of_ble_eq_true rfl⟩ dX13_nameHere_42 (t := 45) rfl rfl ?_
  refine J_ifZ_eq (tgt := 58) hX dX13_nameHere_45 (by decide) (t := 48) rfl (fun z => ?_) (fun z => ?_)
  · replace hF := ib_f hF z
    refine J_sub (lc2 := [(0, .ref (adr G 15 0)), (2, .int y0)]) [1, 0] rfl ?_
    exact BX13_nameHere_58 hX hR hlk n w y0 hF
  · replace hF := it_t hF z
    refine J_iload_n hX dX13_nameHere_48 0 rfl (t := 49) rfl ?_
    refine J_iconst (v := (-1)) hX dX13_nameHere_49 (by decide) (t := 50) rfl ?_
    refine J_icmp_ne (tgt := 58) hX dX13_nameHere_50 (by decide) (t := 53) rfl (fun z => ?_) (fun z => ?_)
    · replace hF := it_f hF z
      refine J_sub (lc2 := [(0, .ref (adr G 15 0)), (2, .int y0)]) [1, 0] rfl ?_
      exact BX13_nameHere_58 hX hR hlk n w y0 hF
    · replace hF := it_t hF z
      refine J_aload_n hX dX13_nameHere_53 1 rfl (t := 54) rfl ?_
      refine J_iconst (v := 4) hX dX13_nameHere_54 (by decide) (t := 55) rfl ?_
      obtain ⟨w17, h16, hF⟩ := bnd_e hF
      have k18 := (ctX13_wrong (G := G) (l := l) w 4 h16)
      refine J_callV hX [.int 4] [] [] k18 miX13_wrong mvX13_wrong cb10 kModel q_2395 ⟨rfl, rfl, Nat.le_of_ble_eq_true rfl, Nat.le_of_ble_eq_true rfl⟩ rfl rfl (Nat.le_of_ble_eq_true rfl) ⟨Nat.le_of_ble_eq_true rfl, Nat.le_of_ble_eq_true rfl⟩ dX13_nameHere_55 (t := 58) rfl rfl ?_
      refine J_sub (lc2 := [(0, .ref (adr G 15 0)), (2, .int y0)]) [1, 0] rfl ?_
      exact BX13_nameHere_58 hX hR hlk n w17 y0 hF
def FX13_nameHere_B20 (n : Nat) (w : Wd) (l1 : Int32) : Option (Int32 × Wd) :=
  bnd (FX13_isGood w) fun x5 =>
  if x5 = true then
    bo1 (FX13_found n w l1 ((w 15).2 0 12)) fun x20 =>
    FX13_nameHere_B40 n w x20
  else
    FX13_nameHere_B40 n w (-1)
set_option maxHeartbeats 4000000 in
set_option maxRecDepth 100000 in
theorem BX13_nameHere_20 {G : GG} {l : Launch} {p : Program} {e : Env} {s : State} {m : MethodId} {args : Array Value} {below : List Frame} {meth : Method} {c : Code} (hX : FX G RX13 cX13_nameHere 3 p s m args c) (hR : meth.sig.returnType = (some .int)) (hlk : meth.locks = false) {rx : Int32} {rw : Wd} (n : Nat) (w : Wd) (l1 : Int32)  (hF : FX13_nameHere_B20 n w l1 = some (rx, rw)) : J G p l e rmX13_nameHere s m args below meth c 3 0 0 (MQ below (QV G (some (.int rx)) rw) args s 0 0 (gA G)) (GH G w) 20 [(0, .ref (adr G 15 0)), (1, .int l1)] [] := by
  unfold FX13_nameHere_B20 at hF
  refine J_aload_n hX dX13_nameHere_20 0 rfl (t := 21) rfl ?_
  obtain ⟨x5, h4, hF⟩ := bnd_e hF
  have k6 := (ctX13_isGood (G := G) (l := l) w  h4)
  refine J_callV hX [] [] [.int (bI x5)] k6 miX13_isGood mvX13_isGood cb10 kModel q_2387 ⟨rfl, rfl, Nat.le_of_ble_eq_true rfl, Nat.le_of_ble_eq_true rfl⟩ rfl rfl (Nat.le_of_ble_eq_true rfl) ⟨Nat.le_of_ble_eq_true rfl, Nat.le_of_ble_eq_true rfl⟩ dX13_nameHere_21 (t := 24) rfl rfl ?_
  refine J_ifZ_eq (tgt := 39) hX dX13_nameHere_24 (by decide) (t := 27) rfl (fun z => ?_) (fun z => ?_)
  · replace hF := ib_f hF z
    refine J_iconst (v := (-1)) hX dX13_nameHere_39 (by decide) (t := 40) rfl ?_
    refine J_sub (lc2 := [(0, .ref (adr G 15 0))]) [0] rfl ?_
    exact BX13_nameHere_40 hX hR hlk n w (-1) hF
  · replace hF := it_t hF z
    refine J_aload_n hX dX13_nameHere_27 0 rfl (t := 28) rfl ?_
    refine J_iload_n hX dX13_nameHere_28 1 rfl (t := 29) rfl ?_
    refine J_aload_n hX dX13_nameHere_29 0 rfl (t := 30) rfl ?_
    refine J_get hX cb10 kModel 12 (by decide) q_1979 rfl dX13_nameHere_30 (t := 33) rfl ?_
    obtain ⟨x20, h19, hF⟩ := bo1_e hF
    have k21 := (ctX13_found (G := G) (l := l) w l1 ((w 15).2 0 12) n h19)
    refine J_callV hX [.int l1, .long ((w 15).2 0 12)] [] [.int x20] k21 miX13_found mvX13_found cb10 kModel q_2147 ⟨rfl, rfl, Nat.le_of_ble_eq_true rfl, Nat.le_of_ble_eq_true rfl⟩ rfl rfl (Nat.le_of_ble_eq_true rfl) ⟨Nat.le_of_ble_eq_true rfl, Nat.le_of_ble_eq_true rfl⟩ dX13_nameHere_33 (t := 36) rfl rfl ?_
    refine J_goto (tgt := 40) hX dX13_nameHere_36 (by decide) ?_
    refine J_sub (lc2 := [(0, .ref (adr G 15 0))]) [0] rfl ?_
    exact BX13_nameHere_40 hX hR hlk n w x20 hF
def FX13_nameHere (n : Nat) (w : Wd) (p1 : Int32) : Option (Int32 × Wd) :=
  bnd (FX13_isGood w) fun x2 =>
  if x2 = true then
    if (w 15).1 0 6 = 1 then
      FX13_nameHere_B20 n w p1
    else
      bnd (FX13_wrong w 1) fun w23 =>
      FX13_nameHere_B20 n w23 p1
  else
    FX13_nameHere_B20 n w p1
set_option maxHeartbeats 4000000 in
set_option maxRecDepth 100000 in
theorem ctX13_nameHere {G : GG} {l : Launch} (w : Wd) (p1 : Int32)  (n : Nat) {rx : Int32} {rw : Wd} (hF : FX13_nameHere n w p1 = some (rx, rw)) : CT G l yX13_nameHere cX13_nameHere 3 (some .int) rmX13_nameHere 0 0 [.ref (adr G 15 0), .int p1] w (some (.int rx)) rw := by
  refine CT.of miX13_nameHere [(0, .ref (adr G 15 0)), (1, .int p1)] rfl (Nat.le_of_ble_eq_true rfl) ?_
  intro p e s m args below meth c hX hR hlk
  have hX : FX G RX13 cX13_nameHere 3 p s m args c := hX
  unfold FX13_nameHere at hF
  refine J_aload_n hX dX13_nameHere_0 0 rfl (t := 1) rfl ?_
  obtain ⟨x2, h1, hF⟩ := bnd_e hF
  have k3 := (ctX13_isGood (G := G) (l := l) w  h1)
  refine J_callV hX [] [] [.int (bI x2)] k3 miX13_isGood mvX13_isGood cb10 kModel q_2387 ⟨rfl, rfl, Nat.le_of_ble_eq_true rfl, Nat.le_of_ble_eq_true rfl⟩ rfl rfl (Nat.le_of_ble_eq_true rfl) ⟨Nat.le_of_ble_eq_true rfl, Nat.le_of_ble_eq_true rfl⟩ dX13_nameHere_1 (t := 4) rfl rfl ?_
  refine J_ifZ_eq (tgt := 20) hX dX13_nameHere_4 (by decide) (t := 7) rfl (fun z => ?_) (fun z => ?_)
  · replace hF := ib_f hF z
    refine J_sub (lc2 := [(0, .ref (adr G 15 0)), (1, .int p1)]) [0, 1] rfl ?_
    exact BX13_nameHere_20 hX hR hlk n w p1 hF
  · replace hF := it_t hF z
    refine J_aload_n hX dX13_nameHere_7 0 rfl (t := 8) rfl ?_
    refine J_get hX cb10 kModel 6 (by decide) q_1973 rfl dX13_nameHere_8 (t := 11) rfl ?_
    refine J_iconst (v := 1) hX dX13_nameHere_11 (by decide) (t := 12) rfl ?_
    refine J_icmp_eq (tgt := 20) hX dX13_nameHere_12 (by decide) (t := 15) rfl (fun z => ?_) (fun z => ?_)
    · replace hF := it_t hF z
      refine J_sub (lc2 := [(0, .ref (adr G 15 0)), (1, .int p1)]) [0, 1] rfl ?_
      exact BX13_nameHere_20 hX hR hlk n w p1 hF
    · replace hF := it_f hF z
      refine J_aload_n hX dX13_nameHere_15 0 rfl (t := 16) rfl ?_
      refine J_iconst (v := 1) hX dX13_nameHere_16 (by decide) (t := 17) rfl ?_
      obtain ⟨w23, h22, hF⟩ := bnd_e hF
      have k24 := (ctX13_wrong (G := G) (l := l) w 1 h22)
      refine J_callV hX [.int 1] [] [] k24 miX13_wrong mvX13_wrong cb10 kModel q_2395 ⟨rfl, rfl, Nat.le_of_ble_eq_true rfl, Nat.le_of_ble_eq_true rfl⟩ rfl rfl (Nat.le_of_ble_eq_true rfl) ⟨Nat.le_of_ble_eq_true rfl, Nat.le_of_ble_eq_true rfl⟩ dX13_nameHere_17 (t := 20) rfl rfl ?_
      refine J_sub (lc2 := [(0, .ref (adr G 15 0)), (1, .int p1)]) [0, 1] rfl ?_
      exact BX13_nameHere_20 hX hR hlk n w23 p1 hF
abbrev rmX13_shoutLine : Room := { frames := 4, cells := 0, slots := 0, locals := 92 }
theorem miX13_shoutLine : MI yX13_shoutLine cX13_shoutLine 5 none 0 := ⟨q_2441, q_152, by decide +kernel, by decide +kernel, by decide +kernel, by decide +kernel⟩
theorem mvX13_shoutLine : MV yX13_shoutLine := ⟨q_2440, q_91⟩
def FX13_shoutLine (n : Nat) (w : Wd)  : Option (Wd) :=
  bo1 (FX13_goOnRead n w) fun w2 =>
  bo2 (FX13_nameHere n w2 1) fun x5 w6 =>
  bo2 (FX13_nameHere n w6 0) fun x9 w10 =>
  bo2 (FX13_more n w10 1 20) fun x13 w14 =>
  bo2 (FX13_more n w14 1 4) fun x17 w18 =>
  bnd (FX13_isSign w18 59) fun x21 =>
  if x21 = true then
    bo1 (FX13_refuses n w18 x5 x9 x17) fun x24 =>
    if x24 = 0 then
      bo2 (FX13_sells w18 x5 x9 x13 x17) fun x27 w28 =>
      bnd (sW w28 15 (sI (w28 15) 0 31 x27)) fun w30 =>
      some w30
    else
      bnd (FX13_wrong w18 6) fun w33 =>
      some w33
  else
    some w18
set_option maxHeartbeats 4000000 in
set_option maxRecDepth 100000 in
theorem ctX13_shoutLine {G : GG} {l : Launch} (w : Wd)   (n : Nat) {rw : Wd} (hF : FX13_shoutLine n w  = some rw) : CT G l yX13_shoutLine cX13_shoutLine 5 none rmX13_shoutLine 0 0 [.ref (adr G 15 0)] w (none) rw := by
  refine CT.of miX13_shoutLine [(0, .ref (adr G 15 0))] rfl (Nat.le_of_ble_eq_true rfl) ?_
  intro p e s m args below meth c hX hR hlk
  have hX : FX G RX13 cX13_shoutLine 5 p s m args c := hX
  unfold FX13_shoutLine at hF
  refine J_aload_n hX dX13_shoutLine_0 0 rfl (t := 1) rfl ?_
  obtain ⟨w2, h1, hF⟩ := bo1_e hF
  have k3 := (ctX13_goOnRead (G := G) (l := l) w  n h1)
  refine J_callV hX [] [] [] k3 miX13_goOnRead mvX13_goOnRead cb10 kModel q_2371 ⟨rfl, rfl, Nat.le_of_ble_eq_true rfl, Nat.le_of_ble_eq_true rfl⟩ rfl rfl (Nat.le_of_ble_eq_true rfl) ⟨Nat.le_of_ble_eq_true rfl, Nat.le_of_ble_eq_true rfl⟩ dX13_shoutLine_1 (t := 4) rfl rfl ?_
  refine J_aload_n hX dX13_shoutLine_4 0 rfl (t := 5) rfl ?_
  refine J_iconst (v := 1) hX dX13_shoutLine_5 (by decide) (t := 6) rfl ?_
  obtain ⟨x5, w6, h4, hF⟩ := bo2_e hF
  have k7 := (ctX13_nameHere (G := G) (l := l) w2 1 n h4)
  refine J_callV hX [.int 1] [] [.int x5] k7 miX13_nameHere mvX13_nameHere cb10 kModel q_2442 ⟨rfl, rfl, Nat.le_of_ble_eq_true rfl, Nat.le_of_ble_eq_true rfl⟩ rfl rfl (Nat.le_of_ble_eq_true rfl) ⟨Nat.le_of_ble_eq_true rfl, Nat.le_of_ble_eq_true rfl⟩ dX13_shoutLine_6 (t := 9) rfl rfl ?_
  refine J_istore_n (lc2 := [(1, .int x5), (0, .ref (adr G 15 0))]) hX dX13_shoutLine_9 rfl (Nat.le_of_ble_eq_true rfl) rfl (t := 10) rfl ?_
  refine J_aload_n hX dX13_shoutLine_10 1 rfl (t := 11) rfl ?_
  refine J_iconst (v := 0) hX dX13_shoutLine_11 (by decide) (t := 12) rfl ?_
  obtain ⟨x9, w10, h8, hF⟩ := bo2_e hF
  have k11 := (ctX13_nameHere (G := G) (l := l) w6 0 n h8)
  refine J_callV hX [.int 0] [] [.int x9] k11 miX13_nameHere mvX13_nameHere cb10 kModel q_2442 ⟨rfl, rfl, Nat.le_of_ble_eq_true rfl, Nat.le_of_ble_eq_true rfl⟩ rfl rfl (Nat.le_of_ble_eq_true rfl) ⟨Nat.le_of_ble_eq_true rfl, Nat.le_of_ble_eq_true rfl⟩ dX13_shoutLine_12 (t := 15) rfl rfl ?_
  refine J_istore_n (lc2 := [(2, .int x9), (1, .int x5), (0, .ref (adr G 15 0))]) hX dX13_shoutLine_15 rfl (Nat.le_of_ble_eq_true rfl) rfl (t := 16) rfl ?_
  refine J_aload_n hX dX13_shoutLine_16 2 rfl (t := 17) rfl ?_
  refine J_iconst (v := 1) hX dX13_shoutLine_17 (by decide) (t := 18) rfl ?_
  refine J_bipush (v := 20) hX dX13_shoutLine_18 (by decide) (t := 20) rfl ?_
  obtain ⟨x13, w14, h12, hF⟩ := bo2_e hF
  have k15 := (ctX13_more (G := G) (l := l) w10 1 20 n h12)
  refine J_callV hX [.int 1, .int 20] [] [.int x13] k15 miX13_more mvX13_more cb10 kModel q_2420 ⟨rfl, rfl, Nat.le_of_ble_eq_true rfl, Nat.le_of_ble_eq_true rfl⟩ rfl rfl (Nat.le_of_ble_eq_true rfl) ⟨Nat.le_of_ble_eq_true rfl, Nat.le_of_ble_eq_true rfl⟩ dX13_shoutLine_20 (t := 23) rfl rfl ?_
  refine J_istore_n (lc2 := [(3, .int x13), (2, .int x9), (1, .int x5), (0, .ref (adr G 15 0))]) hX dX13_shoutLine_23 rfl (Nat.le_of_ble_eq_true rfl) rfl (t := 24) rfl ?_
  refine J_aload_n hX dX13_shoutLine_24 3 rfl (t := 25) rfl ?_
  refine J_iconst (v := 1) hX dX13_shoutLine_25 (by decide) (t := 26) rfl ?_
  refine J_iconst (v := 4) hX dX13_shoutLine_26 (by decide) (t := 27) rfl ?_
  obtain ⟨x17, w18, h16, hF⟩ := bo2_e hF
  have k19 := (ctX13_more (G := G) (l := l) w14 1 4 n h16)
  refine J_callV hX [.int 1, .int 4] [] [.int x17] k19 miX13_more mvX13_more cb10 kModel q_2420 ⟨rfl, rfl, Nat.le_of_ble_eq_true rfl, Nat.le_of_ble_eq_true rfl⟩ rfl rfl (Nat.le_of_ble_eq_true rfl) ⟨Nat.le_of_ble_eq_true rfl, Nat.le_of_ble_eq_true rfl⟩ dX13_shoutLine_27 (t := 30) rfl rfl ?_
  refine J_istore (lc2 := [(4, .int x17), (3, .int x13), (2, .int x9), (1, .int x5), (0, .ref (adr G 15 0))]) hX dX13_shoutLine_30 (Nat.le_of_ble_eq_true rfl) rfl (t := 32) rfl ?_
  refine J_aload_n hX dX13_shoutLine_32 4 rfl (t := 33) rfl ?_
  refine J_bipush (v := 59) hX dX13_shoutLine_33 (by decide) (t := 35) rfl ?_
  obtain ⟨x21, h20, hF⟩ := bnd_e hF
  have k22 := (ctX13_isSign (G := G) (l := l) w18 59 h20)
  refine J_callV hX [.int 59] [] [.int (bI x21)] k22 miX13_isSign mvX13_isSign cb10 kModel q_2403 ⟨rfl, rfl, Nat.le_of_ble_eq_true rfl, Nat.le_of_ble_eq_true rfl⟩ rfl rfl (Nat.le_of_ble_eq_true rfl) ⟨Nat.le_of_ble_eq_true rfl, Nat.le_of_ble_eq_true rfl⟩ dX13_shoutLine_35 (t := 38) rfl rfl ?_
  refine J_ifZ_ne (tgt := 42) hX dX13_shoutLine_38 (by decide) (t := 41) rfl (fun z => ?_) (fun z => ?_)
  · replace hF := it_t hF z
    refine J_aload_n hX dX13_shoutLine_42 4 rfl (t := 43) rfl ?_
    refine J_iload_n hX dX13_shoutLine_43 3 rfl (t := 44) rfl ?_
    refine J_iload_n hX dX13_shoutLine_44 2 rfl (t := 45) rfl ?_
    refine J_iload hX dX13_shoutLine_45 0 rfl (t := 47) rfl ?_
    obtain ⟨x24, h23, hF⟩ := bo1_e hF
    have k25 := (ctX13_refuses (G := G) (l := l) w18 x5 x9 x17 n h23)
    refine J_callV hX [.int x5, .int x9, .int x17] [] [.int x24] k25 miX13_refuses mvX13_refuses cb10 kModel q_2221 ⟨rfl, rfl, Nat.le_of_ble_eq_true rfl, Nat.le_of_ble_eq_true rfl⟩ rfl rfl (Nat.le_of_ble_eq_true rfl) ⟨Nat.le_of_ble_eq_true rfl, Nat.le_of_ble_eq_true rfl⟩ dX13_shoutLine_47 (t := 50) rfl rfl ?_
    refine J_if_eq (tgt := 62) hX dX13_shoutLine_50 (by decide) (t := 53) rfl (fun z => ?_) (fun z => ?_)
    · replace hF := it_t hF z
      refine J_aload_n hX dX13_shoutLine_62 4 rfl (t := 63) rfl ?_
      refine J_aload_n hX dX13_shoutLine_63 4 rfl (t := 64) rfl ?_
      refine J_iload_n hX dX13_shoutLine_64 3 rfl (t := 65) rfl ?_
      refine J_iload_n hX dX13_shoutLine_65 2 rfl (t := 66) rfl ?_
      refine J_iload_n hX dX13_shoutLine_66 1 rfl (t := 67) rfl ?_
      refine J_iload hX dX13_shoutLine_67 0 rfl (t := 69) rfl ?_
      obtain ⟨x27, w28, h26, hF⟩ := bo2_e hF
      have k29 := (ctX13_sells (G := G) (l := l) w18 x5 x9 x13 x17 h26)
      refine J_callV hX [.int x5, .int x9, .int x13, .int x17] [.ref (adr G 15 0)] [.int x27, .ref (adr G 15 0)] k29 miX13_sells mvX13_sells cb10 kModel q_2252 ⟨rfl, rfl, Nat.le_of_ble_eq_true rfl, Nat.le_of_ble_eq_true rfl⟩ rfl rfl (Nat.le_of_ble_eq_true rfl) ⟨Nat.le_of_ble_eq_true rfl, Nat.le_of_ble_eq_true rfl⟩ dX13_shoutLine_69 (t := 72) rfl rfl ?_
      obtain ⟨w30, e31, hF⟩ := bnd_e hF
      refine J_puti hX cb10 kModel 31 (by decide) q_1998 rfl rfl e31 (fun _ _ => Nat.le_of_ble_eq_true rfl) (fun _ _ => rfl) dX13_shoutLine_72 (t := 75) rfl ?_
      replace hF := Option.some.inj hF
      subst hF
      exact J_vret hX hR hlk dX13_shoutLine_75
    · replace hF := it_f hF z
      refine J_aload_n hX dX13_shoutLine_53 4 rfl (t := 54) rfl ?_
      refine J_bipush (v := 6) hX dX13_shoutLine_54 (by decide) (t := 56) rfl ?_
      obtain ⟨w33, h32, hF⟩ := bnd_e hF
      have k34 := (ctX13_wrong (G := G) (l := l) w18 6 h32)
      refine J_callV hX [.int 6] [] [] k34 miX13_wrong mvX13_wrong cb10 kModel q_2395 ⟨rfl, rfl, Nat.le_of_ble_eq_true rfl, Nat.le_of_ble_eq_true rfl⟩ rfl rfl (Nat.le_of_ble_eq_true rfl) ⟨Nat.le_of_ble_eq_true rfl, Nat.le_of_ble_eq_true rfl⟩ dX13_shoutLine_56 (t := 59) rfl rfl ?_
      refine J_goto (tgt := 75) hX dX13_shoutLine_59 (by decide) ?_
      replace hF := Option.some.inj hF
      subst hF
      exact J_vret hX hR hlk dX13_shoutLine_75
  · replace hF := ib_f hF z
    replace hF := Option.some.inj hF
    subst hF
    exact J_vret hX hR hlk dX13_shoutLine_41
abbrev rmX13_valleyLine : Room := { frames := 4, cells := 0, slots := 0, locals := 92 }
theorem miX13_valleyLine : MI yX13_valleyLine cX13_valleyLine 6 none 3 := ⟨q_2450, q_152, by decide +kernel, by decide +kernel, by decide +kernel, by decide +kernel⟩
theorem mvX13_valleyLine : MV yX13_valleyLine := ⟨q_2449, q_93⟩
def FX13_valleyLine (n : Nat) (w : Wd) (p1 : Int32) (p2 : Int32) (p3 : Int32) : Option (Wd) :=
  bo1 (FX13_goOnRead n w) fun w2 =>
  bo2 (FX13_nameHere n w2 0) fun x5 w6 =>
  bo2 (FX13_more n w6 p2 p3) fun x9 w10 =>
  bnd (FX13_isGood w10) fun x13 =>
  if x13 = true then
    bnd (FX13_vly x5) fun x16 =>
    bo2 (FX13_sets w10 (x16 + p1) x9) fun x19 w20 =>
    bnd (sW w20 15 (sI (w20 15) 0 31 x19)) fun w22 =>
    some w22
  else
    some w10
set_option maxHeartbeats 4000000 in
set_option maxRecDepth 100000 in
theorem ctX13_valleyLine {G : GG} {l : Launch} (w : Wd) (p1 : Int32) (p2 : Int32) (p3 : Int32)  (n : Nat) {rw : Wd} (hF : FX13_valleyLine n w p1 p2 p3 = some rw) : CT G l yX13_valleyLine cX13_valleyLine 6 none rmX13_valleyLine 0 0 [.ref (adr G 15 0), .int p1, .int p2, .int p3] w (none) rw := by
  refine CT.of miX13_valleyLine [(0, .ref (adr G 15 0)), (1, .int p1), (2, .int p2), (3, .int p3)] rfl (Nat.le_of_ble_eq_true rfl) ?_
  intro p e s m args below meth c hX hR hlk
  have hX : FX G RX13 cX13_valleyLine 6 p s m args c := hX
  unfold FX13_valleyLine at hF
  refine J_aload_n hX dX13_valleyLine_0 0 rfl (t := 1) rfl ?_
  obtain ⟨w2, h1, hF⟩ := bo1_e hF
  have k3 := (ctX13_goOnRead (G := G) (l := l) w  n h1)
  refine J_callV hX [] [] [] k3 miX13_goOnRead mvX13_goOnRead cb10 kModel q_2371 ⟨rfl, rfl, Nat.le_of_ble_eq_true rfl, Nat.le_of_ble_eq_true rfl⟩ rfl rfl (Nat.le_of_ble_eq_true rfl) ⟨Nat.le_of_ble_eq_true rfl, Nat.le_of_ble_eq_true rfl⟩ dX13_valleyLine_1 (t := 4) rfl rfl ?_
  refine J_aload_n hX dX13_valleyLine_4 0 rfl (t := 5) rfl ?_
  refine J_iconst (v := 0) hX dX13_valleyLine_5 (by decide) (t := 6) rfl ?_
  obtain ⟨x5, w6, h4, hF⟩ := bo2_e hF
  have k7 := (ctX13_nameHere (G := G) (l := l) w2 0 n h4)
  refine J_callV hX [.int 0] [] [.int x5] k7 miX13_nameHere mvX13_nameHere cb10 kModel q_2442 ⟨rfl, rfl, Nat.le_of_ble_eq_true rfl, Nat.le_of_ble_eq_true rfl⟩ rfl rfl (Nat.le_of_ble_eq_true rfl) ⟨Nat.le_of_ble_eq_true rfl, Nat.le_of_ble_eq_true rfl⟩ dX13_valleyLine_6 (t := 9) rfl rfl ?_
  refine J_istore (lc2 := [(4, .int x5), (0, .ref (adr G 15 0)), (1, .int p1), (2, .int p2), (3, .int p3)]) hX dX13_valleyLine_9 (Nat.le_of_ble_eq_true rfl) rfl (t := 11) rfl ?_
  refine J_aload_n hX dX13_valleyLine_11 1 rfl (t := 12) rfl ?_
  refine J_iload_n hX dX13_valleyLine_12 3 rfl (t := 13) rfl ?_
  refine J_iload_n hX dX13_valleyLine_13 4 rfl (t := 14) rfl ?_
  obtain ⟨x9, w10, h8, hF⟩ := bo2_e hF
  have k11 := (ctX13_more (G := G) (l := l) w6 p2 p3 n h8)
  refine J_callV hX [.int p2, .int p3] [] [.int x9] k11 miX13_more mvX13_more cb10 kModel q_2420 ⟨rfl, rfl, Nat.le_of_ble_eq_true rfl, Nat.le_of_ble_eq_true rfl⟩ rfl rfl (Nat.le_of_ble_eq_true rfl) ⟨Nat.le_of_ble_eq_true rfl, Nat.le_of_ble_eq_true rfl⟩ dX13_valleyLine_14 (t := 17) rfl rfl ?_
  refine J_istore (lc2 := [(5, .int x9), (4, .int x5), (0, .ref (adr G 15 0)), (1, .int p1), (2, .int p2), (3, .int p3)]) hX dX13_valleyLine_17 (Nat.le_of_ble_eq_true rfl) rfl (t := 19) rfl ?_
  refine J_aload_n hX dX13_valleyLine_19 2 rfl (t := 20) rfl ?_
  obtain ⟨x13, h12, hF⟩ := bnd_e hF
  have k14 := (ctX13_isGood (G := G) (l := l) w10  h12)
  refine J_callV hX [] [] [.int (bI x13)] k14 miX13_isGood mvX13_isGood cb10 kModel q_2387 ⟨rfl, rfl, Nat.le_of_ble_eq_true rfl, Nat.le_of_ble_eq_true rfl⟩ rfl rfl (Nat.le_of_ble_eq_true rfl) ⟨Nat.le_of_ble_eq_true rfl, Nat.le_of_ble_eq_true rfl⟩ dX13_valleyLine_20 (t := 23) rfl rfl ?_
  refine J_ifZ_eq (tgt := 43) hX dX13_valleyLine_23 (by decide) (t := 26) rfl (fun z => ?_) (fun z => ?_)
  · replace hF := ib_f hF z
    replace hF := Option.some.inj hF
    subst hF
    exact J_vret hX hR hlk dX13_valleyLine_43
  · replace hF := it_t hF z
    refine J_aload_n hX dX13_valleyLine_26 2 rfl (t := 27) rfl ?_
    refine J_aload_n hX dX13_valleyLine_27 2 rfl (t := 28) rfl ?_
    refine J_iload hX dX13_valleyLine_28 1 rfl (t := 30) rfl ?_
    obtain ⟨x16, h15, hF⟩ := bnd_e hF
    have k17 := (ctX13_vly (l := l) (G := G) (w := w10) x5 h15)
    refine J_callS hX [.int x5] [.ref (adr G 15 0), .ref (adr G 15 0)] [.int x16, .ref (adr G 15 0), .ref (adr G 15 0)] k17 miX13_vly q_2155 q_2154 ⟨rfl, rfl, Nat.le_of_ble_eq_true rfl, Nat.le_of_ble_eq_true rfl⟩ rfl rfl (Nat.le_of_ble_eq_true rfl) ⟨Nat.le_of_ble_eq_true rfl, Nat.le_of_ble_eq_true rfl⟩ dX13_valleyLine_30 (t := 33) rfl rfl ?_
    refine J_iload_n hX dX13_valleyLine_33 3 rfl (t := 34) rfl ?_
    refine J_iadd hX dX13_valleyLine_34 (t := 35) rfl ?_
    refine J_iload hX dX13_valleyLine_35 0 rfl (t := 37) rfl ?_
    obtain ⟨x19, w20, h18, hF⟩ := bo2_e hF
    have k21 := (ctX13_sets (G := G) (l := l) w10 (x16 + p1) x9 h18)
    refine J_callV hX [.int (x16 + p1), .int x9] [.ref (adr G 15 0)] [.int x19, .ref (adr G 15 0)] k21 miX13_sets mvX13_sets cb10 kModel q_2312 ⟨rfl, rfl, Nat.le_of_ble_eq_true rfl, Nat.le_of_ble_eq_true rfl⟩ rfl rfl (Nat.le_of_ble_eq_true rfl) ⟨Nat.le_of_ble_eq_true rfl, Nat.le_of_ble_eq_true rfl⟩ dX13_valleyLine_37 (t := 40) rfl rfl ?_
    obtain ⟨w22, e23, hF⟩ := bnd_e hF
    refine J_puti hX cb10 kModel 31 (by decide) q_1998 rfl rfl e23 (fun _ _ => Nat.le_of_ble_eq_true rfl) (fun _ _ => rfl) dX13_valleyLine_40 (t := 43) rfl ?_
    replace hF := Option.some.inj hF
    subst hF
    exact J_vret hX hR hlk dX13_valleyLine_43
abbrev rmX13_wellLine : Room := { frames := 4, cells := 0, slots := 0, locals := 92 }
theorem miX13_wellLine : MI yX13_wellLine cX13_wellLine 2 none 0 := ⟨q_2456, q_152, by decide +kernel, by decide +kernel, by decide +kernel, by decide +kernel⟩
theorem mvX13_wellLine : MV yX13_wellLine := ⟨q_2455, q_94⟩
def FX13_wellLine (n : Nat) (w : Wd)  : Option (Wd) :=
  bo1 (FX13_goOnRead n w) fun w2 =>
  bo2 (FX13_more n w2 0 20) fun x5 w6 =>
  bnd (FX13_isGood w6) fun x9 =>
  if x9 = true then
    bo2 (FX13_sets w6 6 x5) fun x12 w13 =>
    bnd (sW w13 15 (sI (w13 15) 0 31 x12)) fun w15 =>
    some w15
  else
    some w6
set_option maxHeartbeats 4000000 in
set_option maxRecDepth 100000 in
theorem ctX13_wellLine {G : GG} {l : Launch} (w : Wd)   (n : Nat) {rw : Wd} (hF : FX13_wellLine n w  = some rw) : CT G l yX13_wellLine cX13_wellLine 2 none rmX13_wellLine 0 0 [.ref (adr G 15 0)] w (none) rw := by
  refine CT.of miX13_wellLine [(0, .ref (adr G 15 0))] rfl (Nat.le_of_ble_eq_true rfl) ?_
  intro p e s m args below meth c hX hR hlk
  have hX : FX G RX13 cX13_wellLine 2 p s m args c := hX
  unfold FX13_wellLine at hF
  refine J_aload_n hX dX13_wellLine_0 0 rfl (t := 1) rfl ?_
  obtain ⟨w2, h1, hF⟩ := bo1_e hF
  have k3 := (ctX13_goOnRead (G := G) (l := l) w  n h1)
  refine J_callV hX [] [] [] k3 miX13_goOnRead mvX13_goOnRead cb10 kModel q_2371 ⟨rfl, rfl, Nat.le_of_ble_eq_true rfl, Nat.le_of_ble_eq_true rfl⟩ rfl rfl (Nat.le_of_ble_eq_true rfl) ⟨Nat.le_of_ble_eq_true rfl, Nat.le_of_ble_eq_true rfl⟩ dX13_wellLine_1 (t := 4) rfl rfl ?_
  refine J_aload_n hX dX13_wellLine_4 0 rfl (t := 5) rfl ?_
  refine J_iconst (v := 0) hX dX13_wellLine_5 (by decide) (t := 6) rfl ?_
  refine J_bipush (v := 20) hX dX13_wellLine_6 (by decide) (t := 8) rfl ?_
  obtain ⟨x5, w6, h4, hF⟩ := bo2_e hF
  have k7 := (ctX13_more (G := G) (l := l) w2 0 20 n h4)
  refine J_callV hX [.int 0, .int 20] [] [.int x5] k7 miX13_more mvX13_more cb10 kModel q_2420 ⟨rfl, rfl, Nat.le_of_ble_eq_true rfl, Nat.le_of_ble_eq_true rfl⟩ rfl rfl (Nat.le_of_ble_eq_true rfl) ⟨Nat.le_of_ble_eq_true rfl, Nat.le_of_ble_eq_true rfl⟩ dX13_wellLine_8 (t := 11) rfl rfl ?_
  refine J_istore_n (lc2 := [(1, .int x5), (0, .ref (adr G 15 0))]) hX dX13_wellLine_11 rfl (Nat.le_of_ble_eq_true rfl) rfl (t := 12) rfl ?_
  refine J_aload_n hX dX13_wellLine_12 1 rfl (t := 13) rfl ?_
  obtain ⟨x9, h8, hF⟩ := bnd_e hF
  have k10 := (ctX13_isGood (G := G) (l := l) w6  h8)
  refine J_callV hX [] [] [.int (bI x9)] k10 miX13_isGood mvX13_isGood cb10 kModel q_2387 ⟨rfl, rfl, Nat.le_of_ble_eq_true rfl, Nat.le_of_ble_eq_true rfl⟩ rfl rfl (Nat.le_of_ble_eq_true rfl) ⟨Nat.le_of_ble_eq_true rfl, Nat.le_of_ble_eq_true rfl⟩ dX13_wellLine_13 (t := 16) rfl rfl ?_
  refine J_ifZ_eq (tgt := 30) hX dX13_wellLine_16 (by decide) (t := 19) rfl (fun z => ?_) (fun z => ?_)
  · replace hF := ib_f hF z
    replace hF := Option.some.inj hF
    subst hF
    exact J_vret hX hR hlk dX13_wellLine_30
  · replace hF := it_t hF z
    refine J_aload_n hX dX13_wellLine_19 1 rfl (t := 20) rfl ?_
    refine J_aload_n hX dX13_wellLine_20 1 rfl (t := 21) rfl ?_
    refine J_bipush (v := 6) hX dX13_wellLine_21 (by decide) (t := 23) rfl ?_
    refine J_iload_n hX dX13_wellLine_23 0 rfl (t := 24) rfl ?_
    obtain ⟨x12, w13, h11, hF⟩ := bo2_e hF
    have k14 := (ctX13_sets (G := G) (l := l) w6 6 x5 h11)
    refine J_callV hX [.int 6, .int x5] [.ref (adr G 15 0)] [.int x12, .ref (adr G 15 0)] k14 miX13_sets mvX13_sets cb10 kModel q_2312 ⟨rfl, rfl, Nat.le_of_ble_eq_true rfl, Nat.le_of_ble_eq_true rfl⟩ rfl rfl (Nat.le_of_ble_eq_true rfl) ⟨Nat.le_of_ble_eq_true rfl, Nat.le_of_ble_eq_true rfl⟩ dX13_wellLine_24 (t := 27) rfl rfl ?_
    obtain ⟨w15, e16, hF⟩ := bnd_e hF
    refine J_puti hX cb10 kModel 31 (by decide) q_1998 rfl rfl e16 (fun _ _ => Nat.le_of_ble_eq_true rfl) (fun _ _ => rfl) dX13_wellLine_27 (t := 30) rfl ?_
    replace hF := Option.some.inj hF
    subst hF
    exact J_vret hX hR hlk dX13_wellLine_30
abbrev rmX13_passLine : Room := { frames := 8, cells := 0, slots := 0, locals := 175 }
theorem miX13_passLine : MI yX13_passLine cX13_passLine 2 none 0 := ⟨q_2461, q_152, by decide +kernel, by decide +kernel, by decide +kernel, by decide +kernel⟩
theorem mvX13_passLine : MV yX13_passLine := ⟨q_2460, q_95⟩
def FX13_passLine (n : Nat) (w : Wd)  : Option (Wd) :=
  bo1 (FX13_goOnRead n w) fun w2 =>
  bnd2 (FX13_looks w2 1 240) fun x5 w6 =>
  bnd (FX13_isGood w6) fun x9 =>
  if x9 = true then
    bo1 (FX13_mayPass w6 x5) fun x24 =>
    if x24 = true then
      bnd (FX13_isGood w6) fun x27 =>
      if x27 = true then
        bo2 (FX13_passes n w6 x5) fun x30 w31 =>
        bnd (sW w31 15 (sI (w31 15) 0 31 x30)) fun w33 =>
        bo1 (FX13_goOnRead n w33) fun w36 =>
        some w36
      else
        some w6
    else
      bnd (FX13_wrong w6 6) fun w39 =>
      bnd (FX13_isGood w39) fun x42 =>
      if x42 = true then
        bo2 (FX13_passes n w39 x5) fun x45 w46 =>
        bnd (sW w46 15 (sI (w46 15) 0 31 x45)) fun w48 =>
        bo1 (FX13_goOnRead n w48) fun w51 =>
        some w51
      else
        some w39
  else
    bnd (FX13_isGood w6) fun x12 =>
    if x12 = true then
      bo2 (FX13_passes n w6 x5) fun x15 w16 =>
      bnd (sW w16 15 (sI (w16 15) 0 31 x15)) fun w18 =>
      bo1 (FX13_goOnRead n w18) fun w21 =>
      some w21
    else
      some w6
set_option maxHeartbeats 4000000 in
set_option maxRecDepth 100000 in
theorem ctX13_passLine {G : GG} {l : Launch} (w : Wd)   (n : Nat) {rw : Wd} (hF : FX13_passLine n w  = some rw) : CT G l yX13_passLine cX13_passLine 2 none rmX13_passLine 0 0 [.ref (adr G 15 0)] w (none) rw := by
  refine CT.of miX13_passLine [(0, .ref (adr G 15 0))] rfl (Nat.le_of_ble_eq_true rfl) ?_
  intro p e s m args below meth c hX hR hlk
  have hX : FX G RX13 cX13_passLine 2 p s m args c := hX
  unfold FX13_passLine at hF
  refine J_aload_n hX dX13_passLine_0 0 rfl (t := 1) rfl ?_
  obtain ⟨w2, h1, hF⟩ := bo1_e hF
  have k3 := (ctX13_goOnRead (G := G) (l := l) w  n h1)
  refine J_callV hX [] [] [] k3 miX13_goOnRead mvX13_goOnRead cb10 kModel q_2371 ⟨rfl, rfl, Nat.le_of_ble_eq_true rfl, Nat.le_of_ble_eq_true rfl⟩ rfl rfl (Nat.le_of_ble_eq_true rfl) ⟨Nat.le_of_ble_eq_true rfl, Nat.le_of_ble_eq_true rfl⟩ dX13_passLine_1 (t := 4) rfl rfl ?_
  refine J_aload_n hX dX13_passLine_4 0 rfl (t := 5) rfl ?_
  refine J_iconst (v := 1) hX dX13_passLine_5 (by decide) (t := 6) rfl ?_
  refine J_sipush (v := 240) hX dX13_passLine_6 (by decide) (t := 9) rfl ?_
  obtain ⟨x5, w6, h4, hF⟩ := bnd2_e hF
  have k7 := (ctX13_looks (G := G) (l := l) w2 1 240 h4)
  refine J_callV hX [.int 1, .int 240] [] [.int x5] k7 miX13_looks mvX13_looks cb10 kModel q_2428 ⟨rfl, rfl, Nat.le_of_ble_eq_true rfl, Nat.le_of_ble_eq_true rfl⟩ rfl rfl (Nat.le_of_ble_eq_true rfl) ⟨Nat.le_of_ble_eq_true rfl, Nat.le_of_ble_eq_true rfl⟩ dX13_passLine_9 (t := 12) rfl rfl ?_
  refine J_istore_n (lc2 := [(1, .int x5), (0, .ref (adr G 15 0))]) hX dX13_passLine_12 rfl (Nat.le_of_ble_eq_true rfl) rfl (t := 13) rfl ?_
  refine J_aload_n hX dX13_passLine_13 1 rfl (t := 14) rfl ?_
  obtain ⟨x9, h8, hF⟩ := bnd_e hF
  have k10 := (ctX13_isGood (G := G) (l := l) w6  h8)
  refine J_callV hX [] [] [.int (bI x9)] k10 miX13_isGood mvX13_isGood cb10 kModel q_2387 ⟨rfl, rfl, Nat.le_of_ble_eq_true rfl, Nat.le_of_ble_eq_true rfl⟩ rfl rfl (Nat.le_of_ble_eq_true rfl) ⟨Nat.le_of_ble_eq_true rfl, Nat.le_of_ble_eq_true rfl⟩ dX13_passLine_14 (t := 17) rfl rfl ?_
  refine J_ifZ_eq (tgt := 34) hX dX13_passLine_17 (by decide) (t := 20) rfl (fun z => ?_) (fun z => ?_)
  · replace hF := ib_f hF z
    refine J_aload_n hX dX13_passLine_34 1 rfl (t := 35) rfl ?_
    obtain ⟨x12, h11, hF⟩ := bnd_e hF
    have k13 := (ctX13_isGood (G := G) (l := l) w6  h11)
    refine J_callV hX [] [] [.int (bI x12)] k13 miX13_isGood mvX13_isGood cb10 kModel q_2387 ⟨rfl, rfl, Nat.le_of_ble_eq_true rfl, Nat.le_of_ble_eq_true rfl⟩ rfl rfl (Nat.le_of_ble_eq_true rfl) ⟨Nat.le_of_ble_eq_true rfl, Nat.le_of_ble_eq_true rfl⟩ dX13_passLine_35 (t := 38) rfl rfl ?_
    refine J_ifZ_ne (tgt := 42) hX dX13_passLine_38 (by decide) (t := 41) rfl (fun z => ?_) (fun z => ?_)
    · replace hF := it_t hF z
      refine J_aload_n hX dX13_passLine_42 1 rfl (t := 43) rfl ?_
      refine J_aload_n hX dX13_passLine_43 1 rfl (t := 44) rfl ?_
      refine J_iload_n hX dX13_passLine_44 0 rfl (t := 45) rfl ?_
      obtain ⟨x15, w16, h14, hF⟩ := bo2_e hF
      have k17 := (ctX13_passes (G := G) (l := l) w6 x5 n h14)
      refine J_callV hX [.int x5] [.ref (adr G 15 0)] [.int x15, .ref (adr G 15 0)] k17 miX13_passes mvX13_passes cb10 kModel q_2335 ⟨rfl, rfl, Nat.le_of_ble_eq_true rfl, Nat.le_of_ble_eq_true rfl⟩ rfl rfl (Nat.le_of_ble_eq_true rfl) ⟨Nat.le_of_ble_eq_true rfl, Nat.le_of_ble_eq_true rfl⟩ dX13_passLine_45 (t := 48) rfl rfl ?_
      obtain ⟨w18, e19, hF⟩ := bnd_e hF
      refine J_puti hX cb10 kModel 31 (by decide) q_1998 rfl rfl e19 (fun _ _ => Nat.le_of_ble_eq_true rfl) (fun _ _ => rfl) dX13_passLine_48 (t := 51) rfl ?_
      refine J_aload_n hX dX13_passLine_51 1 rfl (t := 52) rfl ?_
      obtain ⟨w21, h20, hF⟩ := bo1_e hF
      have k22 := (ctX13_goOnRead (G := G) (l := l) w18  n h20)
      refine J_callV hX [] [] [] k22 miX13_goOnRead mvX13_goOnRead cb10 kModel q_2371 ⟨rfl, rfl, Nat.le_of_ble_eq_true rfl, Nat.le_of_ble_eq_true rfl⟩ rfl rfl (Nat.le_of_ble_eq_true rfl) ⟨Nat.le_of_ble_eq_true rfl, Nat.le_of_ble_eq_true rfl⟩ dX13_passLine_52 (t := 55) rfl rfl ?_
      replace hF := Option.some.inj hF
      subst hF
      exact J_vret hX hR hlk dX13_passLine_55
    · replace hF := ib_f hF z
      replace hF := Option.some.inj hF
      subst hF
      exact J_vret hX hR hlk dX13_passLine_41
  · replace hF := it_t hF z
    refine J_aload_n hX dX13_passLine_20 1 rfl (t := 21) rfl ?_
    refine J_iload_n hX dX13_passLine_21 0 rfl (t := 22) rfl ?_
    obtain ⟨x24, h23, hF⟩ := bo1_e hF
    have k25 := (ctX13_mayPass (G := G) (l := l) w6 x5 h23)
    refine J_callV hX [.int x5] [] [.int (bI x24)] k25 miX13_mayPass mvX13_mayPass cb10 kModel q_2331 ⟨rfl, rfl, Nat.le_of_ble_eq_true rfl, Nat.le_of_ble_eq_true rfl⟩ rfl rfl (Nat.le_of_ble_eq_true rfl) ⟨Nat.le_of_ble_eq_true rfl, Nat.le_of_ble_eq_true rfl⟩ dX13_passLine_22 (t := 25) rfl rfl ?_
    refine J_ifZ_ne (tgt := 34) hX dX13_passLine_25 (by decide) (t := 28) rfl (fun z => ?_) (fun z => ?_)
    · replace hF := it_t hF z
      refine J_aload_n hX dX13_passLine_34 1 rfl (t := 35) rfl ?_
      obtain ⟨x27, h26, hF⟩ := bnd_e hF
      have k28 := (ctX13_isGood (G := G) (l := l) w6  h26)
      refine J_callV hX [] [] [.int (bI x27)] k28 miX13_isGood mvX13_isGood cb10 kModel q_2387 ⟨rfl, rfl, Nat.le_of_ble_eq_true rfl, Nat.le_of_ble_eq_true rfl⟩ rfl rfl (Nat.le_of_ble_eq_true rfl) ⟨Nat.le_of_ble_eq_true rfl, Nat.le_of_ble_eq_true rfl⟩ dX13_passLine_35 (t := 38) rfl rfl ?_
      refine J_ifZ_ne (tgt := 42) hX dX13_passLine_38 (by decide) (t := 41) rfl (fun z => ?_) (fun z => ?_)
      · replace hF := it_t hF z
        refine J_aload_n hX dX13_passLine_42 1 rfl (t := 43) rfl ?_
        refine J_aload_n hX dX13_passLine_43 1 rfl (t := 44) rfl ?_
        refine J_iload_n hX dX13_passLine_44 0 rfl (t := 45) rfl ?_
        obtain ⟨x30, w31, h29, hF⟩ := bo2_e hF
        have k32 := (ctX13_passes (G := G) (l := l) w6 x5 n h29)
        refine J_callV hX [.int x5] [.ref (adr G 15 0)] [.int x30, .ref (adr G 15 0)] k32 miX13_passes mvX13_passes cb10 kModel q_2335 ⟨rfl, rfl, Nat.le_of_ble_eq_true rfl, Nat.le_of_ble_eq_true rfl⟩ rfl rfl (Nat.le_of_ble_eq_true rfl) ⟨Nat.le_of_ble_eq_true rfl, Nat.le_of_ble_eq_true rfl⟩ dX13_passLine_45 (t := 48) rfl rfl ?_
        obtain ⟨w33, e34, hF⟩ := bnd_e hF
        refine J_puti hX cb10 kModel 31 (by decide) q_1998 rfl rfl e34 (fun _ _ => Nat.le_of_ble_eq_true rfl) (fun _ _ => rfl) dX13_passLine_48 (t := 51) rfl ?_
        refine J_aload_n hX dX13_passLine_51 1 rfl (t := 52) rfl ?_
        obtain ⟨w36, h35, hF⟩ := bo1_e hF
        have k37 := (ctX13_goOnRead (G := G) (l := l) w33  n h35)
        refine J_callV hX [] [] [] k37 miX13_goOnRead mvX13_goOnRead cb10 kModel q_2371 ⟨rfl, rfl, Nat.le_of_ble_eq_true rfl, Nat.le_of_ble_eq_true rfl⟩ rfl rfl (Nat.le_of_ble_eq_true rfl) ⟨Nat.le_of_ble_eq_true rfl, Nat.le_of_ble_eq_true rfl⟩ dX13_passLine_52 (t := 55) rfl rfl ?_
        replace hF := Option.some.inj hF
        subst hF
        exact J_vret hX hR hlk dX13_passLine_55
      · replace hF := ib_f hF z
        replace hF := Option.some.inj hF
        subst hF
        exact J_vret hX hR hlk dX13_passLine_41
    · replace hF := ib_f hF z
      refine J_aload_n hX dX13_passLine_28 1 rfl (t := 29) rfl ?_
      refine J_bipush (v := 6) hX dX13_passLine_29 (by decide) (t := 31) rfl ?_
      obtain ⟨w39, h38, hF⟩ := bnd_e hF
      have k40 := (ctX13_wrong (G := G) (l := l) w6 6 h38)
      refine J_callV hX [.int 6] [] [] k40 miX13_wrong mvX13_wrong cb10 kModel q_2395 ⟨rfl, rfl, Nat.le_of_ble_eq_true rfl, Nat.le_of_ble_eq_true rfl⟩ rfl rfl (Nat.le_of_ble_eq_true rfl) ⟨Nat.le_of_ble_eq_true rfl, Nat.le_of_ble_eq_true rfl⟩ dX13_passLine_31 (t := 34) rfl rfl ?_
      refine J_aload_n hX dX13_passLine_34 1 rfl (t := 35) rfl ?_
      obtain ⟨x42, h41, hF⟩ := bnd_e hF
      have k43 := (ctX13_isGood (G := G) (l := l) w39  h41)
      refine J_callV hX [] [] [.int (bI x42)] k43 miX13_isGood mvX13_isGood cb10 kModel q_2387 ⟨rfl, rfl, Nat.le_of_ble_eq_true rfl, Nat.le_of_ble_eq_true rfl⟩ rfl rfl (Nat.le_of_ble_eq_true rfl) ⟨Nat.le_of_ble_eq_true rfl, Nat.le_of_ble_eq_true rfl⟩ dX13_passLine_35 (t := 38) rfl rfl ?_
      refine J_ifZ_ne (tgt := 42) hX dX13_passLine_38 (by decide) (t := 41) rfl (fun z => ?_) (fun z => ?_)
      · replace hF := it_t hF z
        refine J_aload_n hX dX13_passLine_42 1 rfl (t := 43) rfl ?_
        refine J_aload_n hX dX13_passLine_43 1 rfl (t := 44) rfl ?_
        refine J_iload_n hX dX13_passLine_44 0 rfl (t := 45) rfl ?_
        obtain ⟨x45, w46, h44, hF⟩ := bo2_e hF
        have k47 := (ctX13_passes (G := G) (l := l) w39 x5 n h44)
        refine J_callV hX [.int x5] [.ref (adr G 15 0)] [.int x45, .ref (adr G 15 0)] k47 miX13_passes mvX13_passes cb10 kModel q_2335 ⟨rfl, rfl, Nat.le_of_ble_eq_true rfl, Nat.le_of_ble_eq_true rfl⟩ rfl rfl (Nat.le_of_ble_eq_true rfl) ⟨Nat.le_of_ble_eq_true rfl, Nat.le_of_ble_eq_true rfl⟩ dX13_passLine_45 (t := 48) rfl rfl ?_
        obtain ⟨w48, e49, hF⟩ := bnd_e hF
        refine J_puti hX cb10 kModel 31 (by decide) q_1998 rfl rfl e49 (fun _ _ => Nat.le_of_ble_eq_true rfl) (fun _ _ => rfl) dX13_passLine_48 (t := 51) rfl ?_
        refine J_aload_n hX dX13_passLine_51 1 rfl (t := 52) rfl ?_
        obtain ⟨w51, h50, hF⟩ := bo1_e hF
        have k52 := (ctX13_goOnRead (G := G) (l := l) w48  n h50)
        refine J_callV hX [] [] [] k52 miX13_goOnRead mvX13_goOnRead cb10 kModel q_2371 ⟨rfl, rfl, Nat.le_of_ble_eq_true rfl, Nat.le_of_ble_eq_true rfl⟩ rfl rfl (Nat.le_of_ble_eq_true rfl) ⟨Nat.le_of_ble_eq_true rfl, Nat.le_of_ble_eq_true rfl⟩ dX13_passLine_52 (t := 55) rfl rfl ?_
        replace hF := Option.some.inj hF
        subst hF
        exact J_vret hX hR hlk dX13_passLine_55
      · replace hF := ib_f hF z
        replace hF := Option.some.inj hF
        subst hF
        exact J_vret hX hR hlk dX13_passLine_41
abbrev rmX13_fakeLine : Room := { frames := 6, cells := 0, slots := 0, locals := 132 }
theorem miX13_fakeLine : MI yX13_fakeLine cX13_fakeLine 2 none 0 := ⟨q_2466, q_152, by decide +kernel, by decide +kernel, by decide +kernel, by decide +kernel⟩
theorem mvX13_fakeLine : MV yX13_fakeLine := ⟨q_2465, q_96⟩
def FX13_fakeLine (n : Nat) (w : Wd)  : Option (Wd) :=
  bo1 (FX13_goOnRead n w) fun w2 =>
  gd (inb 2 390) <|
  bnd2 (FX13_looks w2 0 (((w2 15).1 2 2) - 1)) fun x6 w7 =>
  bnd (FX13_isGood w7) fun x10 =>
  if x10 = true then
    bo1 (FX13_isOpen w7 x6) fun x25 =>
    if x25 = true then
      bnd (FX13_isGood w7) fun x28 =>
      if x28 = true then
        bo2 (FX13_fakes n w7 x6) fun x31 w32 =>
        bnd (sW w32 15 (sI (w32 15) 0 31 x31)) fun w34 =>
        bo1 (FX13_goOnRead n w34) fun w37 =>
        some w37
      else
        some w7
    else
      bnd (FX13_wrong w7 6) fun w40 =>
      bnd (FX13_isGood w40) fun x43 =>
      if x43 = true then
        bo2 (FX13_fakes n w40 x6) fun x46 w47 =>
        bnd (sW w47 15 (sI (w47 15) 0 31 x46)) fun w49 =>
        bo1 (FX13_goOnRead n w49) fun w52 =>
        some w52
      else
        some w40
  else
    bnd (FX13_isGood w7) fun x13 =>
    if x13 = true then
      bo2 (FX13_fakes n w7 x6) fun x16 w17 =>
      bnd (sW w17 15 (sI (w17 15) 0 31 x16)) fun w19 =>
      bo1 (FX13_goOnRead n w19) fun w22 =>
      some w22
    else
      some w7
set_option maxHeartbeats 4000000 in
set_option maxRecDepth 100000 in
theorem ctX13_fakeLine {G : GG} {l : Launch} (w : Wd)   (n : Nat) {rw : Wd} (hF : FX13_fakeLine n w  = some rw) : CT G l yX13_fakeLine cX13_fakeLine 2 none rmX13_fakeLine 0 0 [.ref (adr G 15 0)] w (none) rw := by
  refine CT.of miX13_fakeLine [(0, .ref (adr G 15 0))] rfl (Nat.le_of_ble_eq_true rfl) ?_
  intro p e s m args below meth c hX hR hlk
  have hX : FX G RX13 cX13_fakeLine 2 p s m args c := hX
  unfold FX13_fakeLine at hF
  refine J_aload_n hX dX13_fakeLine_0 0 rfl (t := 1) rfl ?_
  obtain ⟨w2, h1, hF⟩ := bo1_e hF
  have k3 := (ctX13_goOnRead (G := G) (l := l) w  n h1)
  refine J_callV hX [] [] [] k3 miX13_goOnRead mvX13_goOnRead cb10 kModel q_2371 ⟨rfl, rfl, Nat.le_of_ble_eq_true rfl, Nat.le_of_ble_eq_true rfl⟩ rfl rfl (Nat.le_of_ble_eq_true rfl) ⟨Nat.le_of_ble_eq_true rfl, Nat.le_of_ble_eq_true rfl⟩ dX13_fakeLine_1 (t := 4) rfl rfl ?_
  refine J_aload_n hX dX13_fakeLine_4 0 rfl (t := 5) rfl ?_
  refine J_iconst (v := 0) hX dX13_fakeLine_5 (by decide) (t := 6) rfl ?_
  refine J_aload_n hX dX13_fakeLine_6 0 rfl (t := 7) rfl ?_
  refine J_get hX cb10 kModel 13 (by decide) q_1980 rfl dX13_fakeLine_7 (t := 10) rfl ?_
  refine J_iconst (v := 2) hX dX13_fakeLine_10 (by decide) (t := 11) rfl ?_
  obtain ⟨g4, hF⟩ := gd_e hF
  refine J_iald hX (kInts (j := 2) (n := 390) (by decide) (by decide) rfl) g4 rfl dX13_fakeLine_11 (t := 12) rfl ?_
  refine J_iconst (v := 1) hX dX13_fakeLine_12 (by decide) (t := 13) rfl ?_
  refine J_isub hX dX13_fakeLine_13 (t := 14) rfl ?_
  obtain ⟨x6, w7, h5, hF⟩ := bnd2_e hF
  have k8 := (ctX13_looks (G := G) (l := l) w2 0 (((w2 15).1 2 2) - 1) h5)
  refine J_callV hX [.int 0, .int (((w2 15).1 2 2) - 1)] [] [.int x6] k8 miX13_looks mvX13_looks cb10 kModel q_2428 ⟨rfl, rfl, Nat.le_of_ble_eq_true rfl, Nat.le_of_ble_eq_true rfl⟩ rfl rfl (Nat.le_of_ble_eq_true rfl) ⟨Nat.le_of_ble_eq_true rfl, Nat.le_of_ble_eq_true rfl⟩ dX13_fakeLine_14 (t := 17) rfl rfl ?_
  refine J_istore_n (lc2 := [(1, .int x6), (0, .ref (adr G 15 0))]) hX dX13_fakeLine_17 rfl (Nat.le_of_ble_eq_true rfl) rfl (t := 18) rfl ?_
  refine J_aload_n hX dX13_fakeLine_18 1 rfl (t := 19) rfl ?_
  obtain ⟨x10, h9, hF⟩ := bnd_e hF
  have k11 := (ctX13_isGood (G := G) (l := l) w7  h9)
  refine J_callV hX [] [] [.int (bI x10)] k11 miX13_isGood mvX13_isGood cb10 kModel q_2387 ⟨rfl, rfl, Nat.le_of_ble_eq_true rfl, Nat.le_of_ble_eq_true rfl⟩ rfl rfl (Nat.le_of_ble_eq_true rfl) ⟨Nat.le_of_ble_eq_true rfl, Nat.le_of_ble_eq_true rfl⟩ dX13_fakeLine_19 (t := 22) rfl rfl ?_
  refine J_ifZ_eq (tgt := 39) hX dX13_fakeLine_22 (by decide) (t := 25) rfl (fun z => ?_) (fun z => ?_)
  · replace hF := ib_f hF z
    refine J_aload_n hX dX13_fakeLine_39 1 rfl (t := 40) rfl ?_
    obtain ⟨x13, h12, hF⟩ := bnd_e hF
    have k14 := (ctX13_isGood (G := G) (l := l) w7  h12)
    refine J_callV hX [] [] [.int (bI x13)] k14 miX13_isGood mvX13_isGood cb10 kModel q_2387 ⟨rfl, rfl, Nat.le_of_ble_eq_true rfl, Nat.le_of_ble_eq_true rfl⟩ rfl rfl (Nat.le_of_ble_eq_true rfl) ⟨Nat.le_of_ble_eq_true rfl, Nat.le_of_ble_eq_true rfl⟩ dX13_fakeLine_40 (t := 43) rfl rfl ?_
    refine J_ifZ_ne (tgt := 47) hX dX13_fakeLine_43 (by decide) (t := 46) rfl (fun z => ?_) (fun z => ?_)
    · replace hF := it_t hF z
      refine J_aload_n hX dX13_fakeLine_47 1 rfl (t := 48) rfl ?_
      refine J_aload_n hX dX13_fakeLine_48 1 rfl (t := 49) rfl ?_
      refine J_iload_n hX dX13_fakeLine_49 0 rfl (t := 50) rfl ?_
      obtain ⟨x16, w17, h15, hF⟩ := bo2_e hF
      have k18 := (ctX13_fakes (G := G) (l := l) w7 x6 n h15)
      refine J_callV hX [.int x6] [.ref (adr G 15 0)] [.int x16, .ref (adr G 15 0)] k18 miX13_fakes mvX13_fakes cb10 kModel q_2284 ⟨rfl, rfl, Nat.le_of_ble_eq_true rfl, Nat.le_of_ble_eq_true rfl⟩ rfl rfl (Nat.le_of_ble_eq_true rfl) ⟨Nat.le_of_ble_eq_true rfl, Nat.le_of_ble_eq_true rfl⟩ dX13_fakeLine_50 (t := 53) rfl rfl ?_
      obtain ⟨w19, e20, hF⟩ := bnd_e hF
      refine J_puti hX cb10 kModel 31 (by decide) q_1998 rfl rfl e20 (fun _ _ => Nat.le_of_ble_eq_true rfl) (fun _ _ => rfl) dX13_fakeLine_53 (t := 56) rfl ?_
      refine J_aload_n hX dX13_fakeLine_56 1 rfl (t := 57) rfl ?_
      obtain ⟨w22, h21, hF⟩ := bo1_e hF
      have k23 := (ctX13_goOnRead (G := G) (l := l) w19  n h21)
      refine J_callV hX [] [] [] k23 miX13_goOnRead mvX13_goOnRead cb10 kModel q_2371 ⟨rfl, rfl, Nat.le_of_ble_eq_true rfl, Nat.le_of_ble_eq_true rfl⟩ rfl rfl (Nat.le_of_ble_eq_true rfl) ⟨Nat.le_of_ble_eq_true rfl, Nat.le_of_ble_eq_true rfl⟩ dX13_fakeLine_57 (t := 60) rfl rfl ?_
      replace hF := Option.some.inj hF
      subst hF
      exact J_vret hX hR hlk dX13_fakeLine_60
    · replace hF := ib_f hF z
      replace hF := Option.some.inj hF
      subst hF
      exact J_vret hX hR hlk dX13_fakeLine_46
  · replace hF := it_t hF z
    refine J_aload_n hX dX13_fakeLine_25 1 rfl (t := 26) rfl ?_
    refine J_iload_n hX dX13_fakeLine_26 0 rfl (t := 27) rfl ?_
    obtain ⟨x25, h24, hF⟩ := bo1_e hF
    have k26 := (ctX13_isOpen (G := G) (l := l) w7 x6 h24)
    refine J_callV hX [.int x6] [] [.int (bI x25)] k26 miX13_isOpen mvX13_isOpen cb10 kModel q_2264 ⟨rfl, rfl, Nat.le_of_ble_eq_true rfl, Nat.le_of_ble_eq_true rfl⟩ rfl rfl (Nat.le_of_ble_eq_true rfl) ⟨Nat.le_of_ble_eq_true rfl, Nat.le_of_ble_eq_true rfl⟩ dX13_fakeLine_27 (t := 30) rfl rfl ?_
    refine J_ifZ_ne (tgt := 39) hX dX13_fakeLine_30 (by decide) (t := 33) rfl (fun z => ?_) (fun z => ?_)
    · replace hF := it_t hF z
      refine J_aload_n hX dX13_fakeLine_39 1 rfl (t := 40) rfl ?_
      obtain ⟨x28, h27, hF⟩ := bnd_e hF
      have k29 := (ctX13_isGood (G := G) (l := l) w7  h27)
      refine J_callV hX [] [] [.int (bI x28)] k29 miX13_isGood mvX13_isGood cb10 kModel q_2387 ⟨rfl, rfl, Nat.le_of_ble_eq_true rfl, Nat.le_of_ble_eq_true rfl⟩ rfl rfl (Nat.le_of_ble_eq_true rfl) ⟨Nat.le_of_ble_eq_true rfl, Nat.le_of_ble_eq_true rfl⟩ dX13_fakeLine_40 (t := 43) rfl rfl ?_
      refine J_ifZ_ne (tgt := 47) hX dX13_fakeLine_43 (by decide) (t := 46) rfl (fun z => ?_) (fun z => ?_)
      · replace hF := it_t hF z
        refine J_aload_n hX dX13_fakeLine_47 1 rfl (t := 48) rfl ?_
        refine J_aload_n hX dX13_fakeLine_48 1 rfl (t := 49) rfl ?_
        refine J_iload_n hX dX13_fakeLine_49 0 rfl (t := 50) rfl ?_
        obtain ⟨x31, w32, h30, hF⟩ := bo2_e hF
        have k33 := (ctX13_fakes (G := G) (l := l) w7 x6 n h30)
        refine J_callV hX [.int x6] [.ref (adr G 15 0)] [.int x31, .ref (adr G 15 0)] k33 miX13_fakes mvX13_fakes cb10 kModel q_2284 ⟨rfl, rfl, Nat.le_of_ble_eq_true rfl, Nat.le_of_ble_eq_true rfl⟩ rfl rfl (Nat.le_of_ble_eq_true rfl) ⟨Nat.le_of_ble_eq_true rfl, Nat.le_of_ble_eq_true rfl⟩ dX13_fakeLine_50 (t := 53) rfl rfl ?_
        obtain ⟨w34, e35, hF⟩ := bnd_e hF
        refine J_puti hX cb10 kModel 31 (by decide) q_1998 rfl rfl e35 (fun _ _ => Nat.le_of_ble_eq_true rfl) (fun _ _ => rfl) dX13_fakeLine_53 (t := 56) rfl ?_
        refine J_aload_n hX dX13_fakeLine_56 1 rfl (t := 57) rfl ?_
        obtain ⟨w37, h36, hF⟩ := bo1_e hF
        have k38 := (ctX13_goOnRead (G := G) (l := l) w34  n h36)
        refine J_callV hX [] [] [] k38 miX13_goOnRead mvX13_goOnRead cb10 kModel q_2371 ⟨rfl, rfl, Nat.le_of_ble_eq_true rfl, Nat.le_of_ble_eq_true rfl⟩ rfl rfl (Nat.le_of_ble_eq_true rfl) ⟨Nat.le_of_ble_eq_true rfl, Nat.le_of_ble_eq_true rfl⟩ dX13_fakeLine_57 (t := 60) rfl rfl ?_
        replace hF := Option.some.inj hF
        subst hF
        exact J_vret hX hR hlk dX13_fakeLine_60
      · replace hF := ib_f hF z
        replace hF := Option.some.inj hF
        subst hF
        exact J_vret hX hR hlk dX13_fakeLine_46
    · replace hF := ib_f hF z
      refine J_aload_n hX dX13_fakeLine_33 1 rfl (t := 34) rfl ?_
      refine J_bipush (v := 6) hX dX13_fakeLine_34 (by decide) (t := 36) rfl ?_
      obtain ⟨w40, h39, hF⟩ := bnd_e hF
      have k41 := (ctX13_wrong (G := G) (l := l) w7 6 h39)
      refine J_callV hX [.int 6] [] [] k41 miX13_wrong mvX13_wrong cb10 kModel q_2395 ⟨rfl, rfl, Nat.le_of_ble_eq_true rfl, Nat.le_of_ble_eq_true rfl⟩ rfl rfl (Nat.le_of_ble_eq_true rfl) ⟨Nat.le_of_ble_eq_true rfl, Nat.le_of_ble_eq_true rfl⟩ dX13_fakeLine_36 (t := 39) rfl rfl ?_
      refine J_aload_n hX dX13_fakeLine_39 1 rfl (t := 40) rfl ?_
      obtain ⟨x43, h42, hF⟩ := bnd_e hF
      have k44 := (ctX13_isGood (G := G) (l := l) w40  h42)
      refine J_callV hX [] [] [.int (bI x43)] k44 miX13_isGood mvX13_isGood cb10 kModel q_2387 ⟨rfl, rfl, Nat.le_of_ble_eq_true rfl, Nat.le_of_ble_eq_true rfl⟩ rfl rfl (Nat.le_of_ble_eq_true rfl) ⟨Nat.le_of_ble_eq_true rfl, Nat.le_of_ble_eq_true rfl⟩ dX13_fakeLine_40 (t := 43) rfl rfl ?_
      refine J_ifZ_ne (tgt := 47) hX dX13_fakeLine_43 (by decide) (t := 46) rfl (fun z => ?_) (fun z => ?_)
      · replace hF := it_t hF z
        refine J_aload_n hX dX13_fakeLine_47 1 rfl (t := 48) rfl ?_
        refine J_aload_n hX dX13_fakeLine_48 1 rfl (t := 49) rfl ?_
        refine J_iload_n hX dX13_fakeLine_49 0 rfl (t := 50) rfl ?_
        obtain ⟨x46, w47, h45, hF⟩ := bo2_e hF
        have k48 := (ctX13_fakes (G := G) (l := l) w40 x6 n h45)
        refine J_callV hX [.int x6] [.ref (adr G 15 0)] [.int x46, .ref (adr G 15 0)] k48 miX13_fakes mvX13_fakes cb10 kModel q_2284 ⟨rfl, rfl, Nat.le_of_ble_eq_true rfl, Nat.le_of_ble_eq_true rfl⟩ rfl rfl (Nat.le_of_ble_eq_true rfl) ⟨Nat.le_of_ble_eq_true rfl, Nat.le_of_ble_eq_true rfl⟩ dX13_fakeLine_50 (t := 53) rfl rfl ?_
        obtain ⟨w49, e50, hF⟩ := bnd_e hF
        refine J_puti hX cb10 kModel 31 (by decide) q_1998 rfl rfl e50 (fun _ _ => Nat.le_of_ble_eq_true rfl) (fun _ _ => rfl) dX13_fakeLine_53 (t := 56) rfl ?_
        refine J_aload_n hX dX13_fakeLine_56 1 rfl (t := 57) rfl ?_
        obtain ⟨w52, h51, hF⟩ := bo1_e hF
        have k53 := (ctX13_goOnRead (G := G) (l := l) w49  n h51)
        refine J_callV hX [] [] [] k53 miX13_goOnRead mvX13_goOnRead cb10 kModel q_2371 ⟨rfl, rfl, Nat.le_of_ble_eq_true rfl, Nat.le_of_ble_eq_true rfl⟩ rfl rfl (Nat.le_of_ble_eq_true rfl) ⟨Nat.le_of_ble_eq_true rfl, Nat.le_of_ble_eq_true rfl⟩ dX13_fakeLine_57 (t := 60) rfl rfl ?_
        replace hF := Option.some.inj hF
        subst hF
        exact J_vret hX hR hlk dX13_fakeLine_60
      · replace hF := ib_f hF z
        replace hF := Option.some.inj hF
        subst hF
        exact J_vret hX hR hlk dX13_fakeLine_46
abbrev rmX13_statement : Room := { frames := 9, cells := 0, slots := 0, locals := 196 }
theorem miX13_statement : MI yX13_statement cX13_statement 1 none 0 := ⟨q_2410, q_152, by decide +kernel, by decide +kernel, by decide +kernel, by decide +kernel⟩
theorem mvX13_statement : MV yX13_statement := ⟨q_2409, q_84⟩
def FX13_statement (n : Nat) (w : Wd)  : Option (Wd) :=
  bnd (FX13_isWord w 739651769) fun x2 =>
  if x2 = true then
    bo1 (FX13_newLine n w 0) fun w50 =>
    some w50
  else
    bnd (FX13_isWord w 126286804146) fun x5 =>
    if x5 = true then
      bo1 (FX13_newLine n w 1) fun w47 =>
      some w47
    else
      bnd (FX13_isWord w 20201140) fun x8 =>
      if x8 = true then
        bo1 (FX13_shoutLine n w) fun w44 =>
        some w44
      else
        bnd (FX13_isWord w 6631) fun x11 =>
        if x11 = true then
          bo1 (FX13_valleyLine n w 3 0 9) fun w41 =>
          some w41
        else
          bnd (FX13_isWord w 17376357) fun x14 =>
          if x14 = true then
            bo1 (FX13_valleyLine n w 2 1 99) fun w38 =>
            some w38
          else
            bnd (FX13_isWord w 759180) fun x17 =>
            if x17 = true then
              bo1 (FX13_wellLine n w) fun w35 =>
              some w35
            else
              bnd (FX13_isWord w 525939) fun x20 =>
              if x20 = true then
                bo1 (FX13_passLine n w) fun w32 =>
                some w32
              else
                bnd (FX13_isWord w 197989) fun x23 =>
                if x23 = true then
                  bo1 (FX13_fakeLine n w) fun w29 =>
                  some w29
                else
                  bnd (FX13_wrong w 1) fun w26 =>
                  some w26
set_option maxHeartbeats 4000000 in
set_option maxRecDepth 100000 in
theorem ctX13_statement {G : GG} {l : Launch} (w : Wd)   (n : Nat) {rw : Wd} (hF : FX13_statement n w  = some rw) : CT G l yX13_statement cX13_statement 1 none rmX13_statement 0 0 [.ref (adr G 15 0)] w (none) rw := by
  refine CT.of miX13_statement [(0, .ref (adr G 15 0))] rfl (Nat.le_of_ble_eq_true rfl) ?_
  intro p e s m args below meth c hX hR hlk
  have hX : FX G RX13 cX13_statement 1 p s m args c := hX
  unfold FX13_statement at hF
  refine J_aload_n hX dX13_statement_0 0 rfl (t := 1) rfl ?_
  refine J_ldc2 hX dX13_statement_1 q_2411 (t := 4) rfl ?_
  obtain ⟨x2, h1, hF⟩ := bnd_e hF
  have k3 := (ctX13_isWord (G := G) (l := l) w 739651769 h1)
  refine J_callV hX [.long 739651769] [] [.int (bI x2)] k3 miX13_isWord mvX13_isWord cb10 kModel q_2391 ⟨rfl, rfl, Nat.le_of_ble_eq_true rfl, Nat.le_of_ble_eq_true rfl⟩ rfl rfl (Nat.le_of_ble_eq_true rfl) ⟨Nat.le_of_ble_eq_true rfl, Nat.le_of_ble_eq_true rfl⟩ dX13_statement_4 (t := 7) rfl rfl ?_
  refine J_ifZ_eq (tgt := 18) hX dX13_statement_7 (by decide) (t := 10) rfl (fun z => ?_) (fun z => ?_)
  · replace hF := ib_f hF z
    refine J_aload_n hX dX13_statement_18 0 rfl (t := 19) rfl ?_
    refine J_ldc2 hX dX13_statement_19 q_2436 (t := 22) rfl ?_
    obtain ⟨x5, h4, hF⟩ := bnd_e hF
    have k6 := (ctX13_isWord (G := G) (l := l) w 126286804146 h4)
    refine J_callV hX [.long 126286804146] [] [.int (bI x5)] k6 miX13_isWord mvX13_isWord cb10 kModel q_2391 ⟨rfl, rfl, Nat.le_of_ble_eq_true rfl, Nat.le_of_ble_eq_true rfl⟩ rfl rfl (Nat.le_of_ble_eq_true rfl) ⟨Nat.le_of_ble_eq_true rfl, Nat.le_of_ble_eq_true rfl⟩ dX13_statement_22 (t := 25) rfl rfl ?_
    refine J_ifZ_eq (tgt := 36) hX dX13_statement_25 (by decide) (t := 28) rfl (fun z => ?_) (fun z => ?_)
    · replace hF := ib_f hF z
      refine J_aload_n hX dX13_statement_36 0 rfl (t := 37) rfl ?_
      refine J_ldc2 hX dX13_statement_37 q_2437 (t := 40) rfl ?_
      obtain ⟨x8, h7, hF⟩ := bnd_e hF
      have k9 := (ctX13_isWord (G := G) (l := l) w 20201140 h7)
      refine J_callV hX [.long 20201140] [] [.int (bI x8)] k9 miX13_isWord mvX13_isWord cb10 kModel q_2391 ⟨rfl, rfl, Nat.le_of_ble_eq_true rfl, Nat.le_of_ble_eq_true rfl⟩ rfl rfl (Nat.le_of_ble_eq_true rfl) ⟨Nat.le_of_ble_eq_true rfl, Nat.le_of_ble_eq_true rfl⟩ dX13_statement_40 (t := 43) rfl rfl ?_
      refine J_ifZ_eq (tgt := 53) hX dX13_statement_43 (by decide) (t := 46) rfl (fun z => ?_) (fun z => ?_)
      · replace hF := ib_f hF z
        refine J_aload_n hX dX13_statement_53 0 rfl (t := 54) rfl ?_
        refine J_ldc2 hX dX13_statement_54 q_2446 (t := 57) rfl ?_
        obtain ⟨x11, h10, hF⟩ := bnd_e hF
        have k12 := (ctX13_isWord (G := G) (l := l) w 6631 h10)
        refine J_callV hX [.long 6631] [] [.int (bI x11)] k12 miX13_isWord mvX13_isWord cb10 kModel q_2391 ⟨rfl, rfl, Nat.le_of_ble_eq_true rfl, Nat.le_of_ble_eq_true rfl⟩ rfl rfl (Nat.le_of_ble_eq_true rfl) ⟨Nat.le_of_ble_eq_true rfl, Nat.le_of_ble_eq_true rfl⟩ dX13_statement_57 (t := 60) rfl rfl ?_
        refine J_ifZ_eq (tgt := 74) hX dX13_statement_60 (by decide) (t := 63) rfl (fun z => ?_) (fun z => ?_)
        · replace hF := ib_f hF z
          refine J_aload_n hX dX13_statement_74 0 rfl (t := 75) rfl ?_
          refine J_ldc2 hX dX13_statement_75 q_2451 (t := 78) rfl ?_
          obtain ⟨x14, h13, hF⟩ := bnd_e hF
          have k15 := (ctX13_isWord (G := G) (l := l) w 17376357 h13)
          refine J_callV hX [.long 17376357] [] [.int (bI x14)] k15 miX13_isWord mvX13_isWord cb10 kModel q_2391 ⟨rfl, rfl, Nat.le_of_ble_eq_true rfl, Nat.le_of_ble_eq_true rfl⟩ rfl rfl (Nat.le_of_ble_eq_true rfl) ⟨Nat.le_of_ble_eq_true rfl, Nat.le_of_ble_eq_true rfl⟩ dX13_statement_78 (t := 81) rfl rfl ?_
          refine J_ifZ_eq (tgt := 95) hX dX13_statement_81 (by decide) (t := 84) rfl (fun z => ?_) (fun z => ?_)
          · replace hF := ib_f hF z
            refine J_aload_n hX dX13_statement_95 0 rfl (t := 96) rfl ?_
            refine J_ldc2 hX dX13_statement_96 q_2452 (t := 99) rfl ?_
            obtain ⟨x17, h16, hF⟩ := bnd_e hF
            have k18 := (ctX13_isWord (G := G) (l := l) w 759180 h16)
            refine J_callV hX [.long 759180] [] [.int (bI x17)] k18 miX13_isWord mvX13_isWord cb10 kModel q_2391 ⟨rfl, rfl, Nat.le_of_ble_eq_true rfl, Nat.le_of_ble_eq_true rfl⟩ rfl rfl (Nat.le_of_ble_eq_true rfl) ⟨Nat.le_of_ble_eq_true rfl, Nat.le_of_ble_eq_true rfl⟩ dX13_statement_99 (t := 102) rfl rfl ?_
            refine J_ifZ_eq (tgt := 112) hX dX13_statement_102 (by decide) (t := 105) rfl (fun z => ?_) (fun z => ?_)
            · replace hF := ib_f hF z
              refine J_aload_n hX dX13_statement_112 0 rfl (t := 113) rfl ?_
              refine J_ldc2 hX dX13_statement_113 q_2457 (t := 116) rfl ?_
              obtain ⟨x20, h19, hF⟩ := bnd_e hF
              have k21 := (ctX13_isWord (G := G) (l := l) w 525939 h19)
              refine J_callV hX [.long 525939] [] [.int (bI x20)] k21 miX13_isWord mvX13_isWord cb10 kModel q_2391 ⟨rfl, rfl, Nat.le_of_ble_eq_true rfl, Nat.le_of_ble_eq_true rfl⟩ rfl rfl (Nat.le_of_ble_eq_true rfl) ⟨Nat.le_of_ble_eq_true rfl, Nat.le_of_ble_eq_true rfl⟩ dX13_statement_116 (t := 119) rfl rfl ?_
              refine J_ifZ_eq (tgt := 129) hX dX13_statement_119 (by decide) (t := 122) rfl (fun z => ?_) (fun z => ?_)
              · replace hF := ib_f hF z
                refine J_aload_n hX dX13_statement_129 0 rfl (t := 130) rfl ?_
                refine J_ldc2 hX dX13_statement_130 q_2462 (t := 133) rfl ?_
                obtain ⟨x23, h22, hF⟩ := bnd_e hF
                have k24 := (ctX13_isWord (G := G) (l := l) w 197989 h22)
                refine J_callV hX [.long 197989] [] [.int (bI x23)] k24 miX13_isWord mvX13_isWord cb10 kModel q_2391 ⟨rfl, rfl, Nat.le_of_ble_eq_true rfl, Nat.le_of_ble_eq_true rfl⟩ rfl rfl (Nat.le_of_ble_eq_true rfl) ⟨Nat.le_of_ble_eq_true rfl, Nat.le_of_ble_eq_true rfl⟩ dX13_statement_133 (t := 136) rfl rfl ?_
                refine J_ifZ_eq (tgt := 146) hX dX13_statement_136 (by decide) (t := 139) rfl (fun z => ?_) (fun z => ?_)
                · replace hF := ib_f hF z
                  refine J_aload_n hX dX13_statement_146 0 rfl (t := 147) rfl ?_
                  refine J_iconst (v := 1) hX dX13_statement_147 (by decide) (t := 148) rfl ?_
                  obtain ⟨w26, h25, hF⟩ := bnd_e hF
                  have k27 := (ctX13_wrong (G := G) (l := l) w 1 h25)
                  refine J_callV hX [.int 1] [] [] k27 miX13_wrong mvX13_wrong cb10 kModel q_2395 ⟨rfl, rfl, Nat.le_of_ble_eq_true rfl, Nat.le_of_ble_eq_true rfl⟩ rfl rfl (Nat.le_of_ble_eq_true rfl) ⟨Nat.le_of_ble_eq_true rfl, Nat.le_of_ble_eq_true rfl⟩ dX13_statement_148 (t := 151) rfl rfl ?_
                  replace hF := Option.some.inj hF
                  subst hF
                  exact J_vret hX hR hlk dX13_statement_151
                · replace hF := it_t hF z
                  refine J_aload_n hX dX13_statement_139 0 rfl (t := 140) rfl ?_
                  obtain ⟨w29, h28, hF⟩ := bo1_e hF
                  have k30 := (ctX13_fakeLine (G := G) (l := l) w  n h28)
                  refine J_callV hX [] [] [] k30 miX13_fakeLine mvX13_fakeLine cb10 kModel q_2463 ⟨rfl, rfl, Nat.le_of_ble_eq_true rfl, Nat.le_of_ble_eq_true rfl⟩ rfl rfl (Nat.le_of_ble_eq_true rfl) ⟨Nat.le_of_ble_eq_true rfl, Nat.le_of_ble_eq_true rfl⟩ dX13_statement_140 (t := 143) rfl rfl ?_
                  refine J_goto (tgt := 151) hX dX13_statement_143 (by decide) ?_
                  replace hF := Option.some.inj hF
                  subst hF
                  exact J_vret hX hR hlk dX13_statement_151
              · replace hF := it_t hF z
                refine J_aload_n hX dX13_statement_122 0 rfl (t := 123) rfl ?_
                obtain ⟨w32, h31, hF⟩ := bo1_e hF
                have k33 := (ctX13_passLine (G := G) (l := l) w  n h31)
                refine J_callV hX [] [] [] k33 miX13_passLine mvX13_passLine cb10 kModel q_2458 ⟨rfl, rfl, Nat.le_of_ble_eq_true rfl, Nat.le_of_ble_eq_true rfl⟩ rfl rfl (Nat.le_of_ble_eq_true rfl) ⟨Nat.le_of_ble_eq_true rfl, Nat.le_of_ble_eq_true rfl⟩ dX13_statement_123 (t := 126) rfl rfl ?_
                refine J_goto (tgt := 151) hX dX13_statement_126 (by decide) ?_
                replace hF := Option.some.inj hF
                subst hF
                exact J_vret hX hR hlk dX13_statement_151
            · replace hF := it_t hF z
              refine J_aload_n hX dX13_statement_105 0 rfl (t := 106) rfl ?_
              obtain ⟨w35, h34, hF⟩ := bo1_e hF
              have k36 := (ctX13_wellLine (G := G) (l := l) w  n h34)
              refine J_callV hX [] [] [] k36 miX13_wellLine mvX13_wellLine cb10 kModel q_2453 ⟨rfl, rfl, Nat.le_of_ble_eq_true rfl, Nat.le_of_ble_eq_true rfl⟩ rfl rfl (Nat.le_of_ble_eq_true rfl) ⟨Nat.le_of_ble_eq_true rfl, Nat.le_of_ble_eq_true rfl⟩ dX13_statement_106 (t := 109) rfl rfl ?_
              refine J_goto (tgt := 151) hX dX13_statement_109 (by decide) ?_
              replace hF := Option.some.inj hF
              subst hF
              exact J_vret hX hR hlk dX13_statement_151
          · replace hF := it_t hF z
            refine J_aload_n hX dX13_statement_84 0 rfl (t := 85) rfl ?_
            refine J_iconst (v := 2) hX dX13_statement_85 (by decide) (t := 86) rfl ?_
            refine J_iconst (v := 1) hX dX13_statement_86 (by decide) (t := 87) rfl ?_
            refine J_bipush (v := 99) hX dX13_statement_87 (by decide) (t := 89) rfl ?_
            obtain ⟨w38, h37, hF⟩ := bo1_e hF
            have k39 := (ctX13_valleyLine (G := G) (l := l) w 2 1 99 n h37)
            refine J_callV hX [.int 2, .int 1, .int 99] [] [] k39 miX13_valleyLine mvX13_valleyLine cb10 kModel q_2447 ⟨rfl, rfl, Nat.le_of_ble_eq_true rfl, Nat.le_of_ble_eq_true rfl⟩ rfl rfl (Nat.le_of_ble_eq_true rfl) ⟨Nat.le_of_ble_eq_true rfl, Nat.le_of_ble_eq_true rfl⟩ dX13_statement_89 (t := 92) rfl rfl ?_
            refine J_goto (tgt := 151) hX dX13_statement_92 (by decide) ?_
            replace hF := Option.some.inj hF
            subst hF
            exact J_vret hX hR hlk dX13_statement_151
        · replace hF := it_t hF z
          refine J_aload_n hX dX13_statement_63 0 rfl (t := 64) rfl ?_
          refine J_iconst (v := 3) hX dX13_statement_64 (by decide) (t := 65) rfl ?_
          refine J_iconst (v := 0) hX dX13_statement_65 (by decide) (t := 66) rfl ?_
          refine J_bipush (v := 9) hX dX13_statement_66 (by decide) (t := 68) rfl ?_
          obtain ⟨w41, h40, hF⟩ := bo1_e hF
          have k42 := (ctX13_valleyLine (G := G) (l := l) w 3 0 9 n h40)
          refine J_callV hX [.int 3, .int 0, .int 9] [] [] k42 miX13_valleyLine mvX13_valleyLine cb10 kModel q_2447 ⟨rfl, rfl, Nat.le_of_ble_eq_true rfl, Nat.le_of_ble_eq_true rfl⟩ rfl rfl (Nat.le_of_ble_eq_true rfl) ⟨Nat.le_of_ble_eq_true rfl, Nat.le_of_ble_eq_true rfl⟩ dX13_statement_68 (t := 71) rfl rfl ?_
          refine J_goto (tgt := 151) hX dX13_statement_71 (by decide) ?_
          replace hF := Option.some.inj hF
          subst hF
          exact J_vret hX hR hlk dX13_statement_151
      · replace hF := it_t hF z
        refine J_aload_n hX dX13_statement_46 0 rfl (t := 47) rfl ?_
        obtain ⟨w44, h43, hF⟩ := bo1_e hF
        have k45 := (ctX13_shoutLine (G := G) (l := l) w  n h43)
        refine J_callV hX [] [] [] k45 miX13_shoutLine mvX13_shoutLine cb10 kModel q_2438 ⟨rfl, rfl, Nat.le_of_ble_eq_true rfl, Nat.le_of_ble_eq_true rfl⟩ rfl rfl (Nat.le_of_ble_eq_true rfl) ⟨Nat.le_of_ble_eq_true rfl, Nat.le_of_ble_eq_true rfl⟩ dX13_statement_47 (t := 50) rfl rfl ?_
        refine J_goto (tgt := 151) hX dX13_statement_50 (by decide) ?_
        replace hF := Option.some.inj hF
        subst hF
        exact J_vret hX hR hlk dX13_statement_151
    · replace hF := it_t hF z
      refine J_aload_n hX dX13_statement_28 0 rfl (t := 29) rfl ?_
      refine J_iconst (v := 1) hX dX13_statement_29 (by decide) (t := 30) rfl ?_
      obtain ⟨w47, h46, hF⟩ := bo1_e hF
      have k48 := (ctX13_newLine (G := G) (l := l) w 1 n h46)
      refine J_callV hX [.int 1] [] [] k48 miX13_newLine mvX13_newLine cb10 kModel q_2412 ⟨rfl, rfl, Nat.le_of_ble_eq_true rfl, Nat.le_of_ble_eq_true rfl⟩ rfl rfl (Nat.le_of_ble_eq_true rfl) ⟨Nat.le_of_ble_eq_true rfl, Nat.le_of_ble_eq_true rfl⟩ dX13_statement_30 (t := 33) rfl rfl ?_
      refine J_goto (tgt := 151) hX dX13_statement_33 (by decide) ?_
      replace hF := Option.some.inj hF
      subst hF
      exact J_vret hX hR hlk dX13_statement_151
  · replace hF := it_t hF z
    refine J_aload_n hX dX13_statement_10 0 rfl (t := 11) rfl ?_
    refine J_iconst (v := 0) hX dX13_statement_11 (by decide) (t := 12) rfl ?_
    obtain ⟨w50, h49, hF⟩ := bo1_e hF
    have k51 := (ctX13_newLine (G := G) (l := l) w 0 n h49)
    refine J_callV hX [.int 0] [] [] k51 miX13_newLine mvX13_newLine cb10 kModel q_2412 ⟨rfl, rfl, Nat.le_of_ble_eq_true rfl, Nat.le_of_ble_eq_true rfl⟩ rfl rfl (Nat.le_of_ble_eq_true rfl) ⟨Nat.le_of_ble_eq_true rfl, Nat.le_of_ble_eq_true rfl⟩ dX13_statement_12 (t := 15) rfl rfl ?_
    refine J_goto (tgt := 151) hX dX13_statement_15 (by decide) ?_
    replace hF := Option.some.inj hF
    subst hF
    exact J_vret hX hR hlk dX13_statement_151
abbrev rmX13_readText : Room := { frames := 10, cells := 0, slots := 0, locals := 216 }
theorem miX13_readText : MI yX13_readText cX13_readText 1 (some .int) 0 := ⟨q_2366, q_152, by decide +kernel, by decide +kernel, by decide +kernel, by decide +kernel⟩
theorem mvX13_readText : MV yX13_readText := ⟨q_2364, q_2365⟩
def FX13_readText_L25 (n : Nat) : Nat → Wd → Option (Int32 × Wd)
  | 0 => fun _ => none
  | k + 1 => fun w  =>
    bnd (FX13_isGood w) fun x17 =>
    if x17 = true then
      if (w 15).1 0 6 = 0 then
        bnd2 (FX13_endsText w) fun x30 w31 =>
        if x30 = true then
          bnd (sW w31 15 (sI (w31 15) 0 18 0)) fun w33 =>
          gd (inb 2 390) <|
          some ((w33 15).1 2 2, w33)
        else
          bo1 (FX13_goesBack n w31) fun w37 =>
          some (0, w37)
      else
        bo1 (FX13_statement n w) fun w40 =>
        bo1 (FX13_mustSign n w40 59) fun w43 =>
        FX13_readText_L25 n k w43 
    else
      bnd2 (FX13_endsText w) fun x20 w21 =>
      if x20 = true then
        bnd (sW w21 15 (sI (w21 15) 0 18 0)) fun w23 =>
        gd (inb 2 390) <|
        some ((w23 15).1 2 2, w23)
      else
        bo1 (FX13_goesBack n w21) fun w27 =>
        some (0, w27)
set_option maxHeartbeats 4000000 in
set_option maxRecDepth 100000 in
theorem LX13_readText_25 {G : GG} {l : Launch} {p : Program} {e : Env} {s : State} {m : MethodId} {args : Array Value} {below : List Frame} {meth : Method} {c : Code} (hX : FX G RX13 cX13_readText 1 p s m args c) (hR : meth.sig.returnType = (some .int)) (hlk : meth.locks = false) {rx : Int32} {rw : Wd} (n : Nat) : ∀ (k : Nat) (w : Wd)  , FX13_readText_L25 n k w  = some (rx, rw) → J G p l e rmX13_readText s m args below meth c 1 0 0 (MQ below (QV G (some (.int rx)) rw) args s 0 0 (gA G)) (GH G w) 25 [(0, .ref (adr G 15 0))] [] := by
  intro k
  induction k with
  | zero => intro w   hF; cases hF
  | succ k ih =>
    intro w   hF
    simp only [FX13_readText_L25] at hF
    refine J_aload_n hX dX13_readText_25 0 rfl (t := 26) rfl ?_
    obtain ⟨x17, h16, hF⟩ := bnd_e hF
    have k18 := (ctX13_isGood (G := G) (l := l) w  h16)
    refine J_callV hX [] [] [.int (bI x17)] k18 miX13_isGood mvX13_isGood cb10 kModel q_2387 ⟨rfl, rfl, Nat.le_of_ble_eq_true rfl, Nat.le_of_ble_eq_true rfl⟩ rfl rfl (Nat.le_of_ble_eq_true rfl) ⟨Nat.le_of_ble_eq_true rfl, Nat.le_of_ble_eq_true rfl⟩ dX13_readText_26 (t := 29) rfl rfl ?_
    refine J_ifZ_eq (tgt := 52) hX dX13_readText_29 (by decide) (t := 32) rfl (fun z => ?_) (fun z => ?_)
    · replace hF := ib_f hF z
      refine J_aload_n hX dX13_readText_52 0 rfl (t := 53) rfl ?_
      obtain ⟨x20, w21, h19, hF⟩ := bnd2_e hF
      have k22 := (ctX13_endsText (G := G) (l := l) w  h19)
      refine J_callV hX [] [] [.int (bI x20)] k22 miX13_endsText mvX13_endsText cb10 kModel q_2467 ⟨rfl, rfl, Nat.le_of_ble_eq_true rfl, Nat.le_of_ble_eq_true rfl⟩ rfl rfl (Nat.le_of_ble_eq_true rfl) ⟨Nat.le_of_ble_eq_true rfl, Nat.le_of_ble_eq_true rfl⟩ dX13_readText_53 (t := 56) rfl rfl ?_
      refine J_ifZ_ne (tgt := 65) hX dX13_readText_56 (by decide) (t := 59) rfl (fun z => ?_) (fun z => ?_)
      · replace hF := it_t hF z
        refine J_aload_n hX dX13_readText_65 0 rfl (t := 66) rfl ?_
        refine J_iconst (v := 0) hX dX13_readText_66 (by decide) (t := 67) rfl ?_
        obtain ⟨w23, e24, hF⟩ := bnd_e hF
        refine J_puti hX cb10 kModel 18 (by decide) q_1985 rfl rfl e24 (fun _ _ => Nat.le_of_ble_eq_true rfl) (fun _ _ => rfl) dX13_readText_67 (t := 70) rfl ?_
        refine J_aload_n hX dX13_readText_70 0 rfl (t := 71) rfl ?_
        refine J_get hX cb10 kModel 13 (by decide) q_1980 rfl dX13_readText_71 (t := 74) rfl ?_
        refine J_iconst (v := 2) hX dX13_readText_74 (by decide) (t := 75) rfl ?_
        obtain ⟨g25, hF⟩ := gd_e hF
        refine J_iald hX (kInts (j := 2) (n := 390) (by decide) (by decide) rfl) g25 rfl dX13_readText_75 (t := 76) rfl ?_
        replace hF := Option.some.inj hF
        obtain ⟨hF, hF2⟩ := Prod.mk.inj hF
        subst hF
        subst hF2
        exact J_iret hX hR hlk dX13_readText_76
      · replace hF := ib_f hF z
        refine J_aload_n hX dX13_readText_59 0 rfl (t := 60) rfl ?_
        obtain ⟨w27, h26, hF⟩ := bo1_e hF
        have k28 := (ctX13_goesBack (G := G) (l := l) w21  n h26)
        refine J_callV hX [] [] [] k28 miX13_goesBack mvX13_goesBack cb10 kModel q_2471 ⟨rfl, rfl, Nat.le_of_ble_eq_true rfl, Nat.le_of_ble_eq_true rfl⟩ rfl rfl (Nat.le_of_ble_eq_true rfl) ⟨Nat.le_of_ble_eq_true rfl, Nat.le_of_ble_eq_true rfl⟩ dX13_readText_60 (t := 63) rfl rfl ?_
        refine J_iconst (v := 0) hX dX13_readText_63 (by decide) (t := 64) rfl ?_
        replace hF := Option.some.inj hF
        obtain ⟨hF, hF2⟩ := Prod.mk.inj hF
        subst hF
        subst hF2
        exact J_iret hX hR hlk dX13_readText_64
    · replace hF := it_t hF z
      refine J_aload_n hX dX13_readText_32 0 rfl (t := 33) rfl ?_
      refine J_get hX cb10 kModel 6 (by decide) q_1973 rfl dX13_readText_33 (t := 36) rfl ?_
      refine J_if_eq (tgt := 52) hX dX13_readText_36 (by decide) (t := 39) rfl (fun z => ?_) (fun z => ?_)
      · replace hF := it_t hF z
        refine J_aload_n hX dX13_readText_52 0 rfl (t := 53) rfl ?_
        obtain ⟨x30, w31, h29, hF⟩ := bnd2_e hF
        have k32 := (ctX13_endsText (G := G) (l := l) w  h29)
        refine J_callV hX [] [] [.int (bI x30)] k32 miX13_endsText mvX13_endsText cb10 kModel q_2467 ⟨rfl, rfl, Nat.le_of_ble_eq_true rfl, Nat.le_of_ble_eq_true rfl⟩ rfl rfl (Nat.le_of_ble_eq_true rfl) ⟨Nat.le_of_ble_eq_true rfl, Nat.le_of_ble_eq_true rfl⟩ dX13_readText_53 (t := 56) rfl rfl ?_
        refine J_ifZ_ne (tgt := 65) hX dX13_readText_56 (by decide) (t := 59) rfl (fun z => ?_) (fun z => ?_)
        · replace hF := it_t hF z
          refine J_aload_n hX dX13_readText_65 0 rfl (t := 66) rfl ?_
          refine J_iconst (v := 0) hX dX13_readText_66 (by decide) (t := 67) rfl ?_
          obtain ⟨w33, e34, hF⟩ := bnd_e hF
          refine J_puti hX cb10 kModel 18 (by decide) q_1985 rfl rfl e34 (fun _ _ => Nat.le_of_ble_eq_true rfl) (fun _ _ => rfl) dX13_readText_67 (t := 70) rfl ?_
          refine J_aload_n hX dX13_readText_70 0 rfl (t := 71) rfl ?_
          refine J_get hX cb10 kModel 13 (by decide) q_1980 rfl dX13_readText_71 (t := 74) rfl ?_
          refine J_iconst (v := 2) hX dX13_readText_74 (by decide) (t := 75) rfl ?_
          obtain ⟨g35, hF⟩ := gd_e hF
          refine J_iald hX (kInts (j := 2) (n := 390) (by decide) (by decide) rfl) g35 rfl dX13_readText_75 (t := 76) rfl ?_
          replace hF := Option.some.inj hF
          obtain ⟨hF, hF2⟩ := Prod.mk.inj hF
          subst hF
          subst hF2
          exact J_iret hX hR hlk dX13_readText_76
        · replace hF := ib_f hF z
          refine J_aload_n hX dX13_readText_59 0 rfl (t := 60) rfl ?_
          obtain ⟨w37, h36, hF⟩ := bo1_e hF
          have k38 := (ctX13_goesBack (G := G) (l := l) w31  n h36)
          refine J_callV hX [] [] [] k38 miX13_goesBack mvX13_goesBack cb10 kModel q_2471 ⟨rfl, rfl, Nat.le_of_ble_eq_true rfl, Nat.le_of_ble_eq_true rfl⟩ rfl rfl (Nat.le_of_ble_eq_true rfl) ⟨Nat.le_of_ble_eq_true rfl, Nat.le_of_ble_eq_true rfl⟩ dX13_readText_60 (t := 63) rfl rfl ?_
          refine J_iconst (v := 0) hX dX13_readText_63 (by decide) (t := 64) rfl ?_
          replace hF := Option.some.inj hF
          obtain ⟨hF, hF2⟩ := Prod.mk.inj hF
          subst hF
          subst hF2
          exact J_iret hX hR hlk dX13_readText_64
      · replace hF := it_f hF z
        refine J_aload_n hX dX13_readText_39 0 rfl (t := 40) rfl ?_
        obtain ⟨w40, h39, hF⟩ := bo1_e hF
        have k41 := (ctX13_statement (G := G) (l := l) w  n h39)
        refine J_callV hX [] [] [] k41 miX13_statement mvX13_statement cb10 kModel q_2407 ⟨rfl, rfl, Nat.le_of_ble_eq_true rfl, Nat.le_of_ble_eq_true rfl⟩ rfl rfl (Nat.le_of_ble_eq_true rfl) ⟨Nat.le_of_ble_eq_true rfl, Nat.le_of_ble_eq_true rfl⟩ dX13_readText_40 (t := 43) rfl rfl ?_
        refine J_aload_n hX dX13_readText_43 0 rfl (t := 44) rfl ?_
        refine J_bipush (v := 59) hX dX13_readText_44 (by decide) (t := 46) rfl ?_
        obtain ⟨w43, h42, hF⟩ := bo1_e hF
        have k44 := (ctX13_mustSign (G := G) (l := l) w40 59 n h42)
        refine J_callV hX [.int 59] [] [] k44 miX13_mustSign mvX13_mustSign cb10 kModel q_2399 ⟨rfl, rfl, Nat.le_of_ble_eq_true rfl, Nat.le_of_ble_eq_true rfl⟩ rfl rfl (Nat.le_of_ble_eq_true rfl) ⟨Nat.le_of_ble_eq_true rfl, Nat.le_of_ble_eq_true rfl⟩ dX13_readText_46 (t := 49) rfl rfl ?_
        refine J_goto (tgt := 25) hX dX13_readText_49 (by decide) ?_
        refine J_sub (lc2 := [(0, .ref (adr G 15 0))]) [0] rfl ?_
        exact ih w43  hF
def FX13_readText (n : Nat) (w : Wd)  : Option (Int32 × Wd) :=
  bo1 (FX13_laysAside n w) fun w2 =>
  bo1 (FX13_beginsText n w2) fun w5 =>
  bo1 (FX13_begins n w5) fun w8 =>
  bo1 (FX13_mustWord n w8 437857460) fun w11 =>
  bo1 (FX13_mustSign n w11 59) fun w14 =>
  FX13_readText_L25 n n w14 
set_option maxHeartbeats 4000000 in
set_option maxRecDepth 100000 in
theorem ctX13_readText {G : GG} {l : Launch} (w : Wd)   (n : Nat) {rx : Int32} {rw : Wd} (hF : FX13_readText n w  = some (rx, rw)) : CT G l yX13_readText cX13_readText 1 (some .int) rmX13_readText 0 0 [.ref (adr G 15 0)] w (some (.int rx)) rw := by
  refine CT.of miX13_readText [(0, .ref (adr G 15 0))] rfl (Nat.le_of_ble_eq_true rfl) ?_
  intro p e s m args below meth c hX hR hlk
  have hX : FX G RX13 cX13_readText 1 p s m args c := hX
  unfold FX13_readText at hF
  refine J_aload_n hX dX13_readText_0 0 rfl (t := 1) rfl ?_
  obtain ⟨w2, h1, hF⟩ := bo1_e hF
  have k3 := (ctX13_laysAside (G := G) (l := l) w  n h1)
  refine J_callV hX [] [] [] k3 miX13_laysAside mvX13_laysAside cb10 kModel q_2168 ⟨rfl, rfl, Nat.le_of_ble_eq_true rfl, Nat.le_of_ble_eq_true rfl⟩ rfl rfl (Nat.le_of_ble_eq_true rfl) ⟨Nat.le_of_ble_eq_true rfl, Nat.le_of_ble_eq_true rfl⟩ dX13_readText_1 (t := 4) rfl rfl ?_
  refine J_aload_n hX dX13_readText_4 0 rfl (t := 5) rfl ?_
  obtain ⟨w5, h4, hF⟩ := bo1_e hF
  have k6 := (ctX13_beginsText (G := G) (l := l) w2  n h4)
  refine J_callV hX [] [] [] k6 miX13_beginsText mvX13_beginsText cb10 kModel q_2367 ⟨rfl, rfl, Nat.le_of_ble_eq_true rfl, Nat.le_of_ble_eq_true rfl⟩ rfl rfl (Nat.le_of_ble_eq_true rfl) ⟨Nat.le_of_ble_eq_true rfl, Nat.le_of_ble_eq_true rfl⟩ dX13_readText_5 (t := 8) rfl rfl ?_
  refine J_aload_n hX dX13_readText_8 0 rfl (t := 9) rfl ?_
  obtain ⟨w8, h7, hF⟩ := bo1_e hF
  have k9 := (ctX13_begins (G := G) (l := l) w5  n h7)
  refine J_callV hX [] [] [] k9 miX13_begins mvX13_begins cb10 kModel q_1963 ⟨rfl, rfl, Nat.le_of_ble_eq_true rfl, Nat.le_of_ble_eq_true rfl⟩ rfl rfl (Nat.le_of_ble_eq_true rfl) ⟨Nat.le_of_ble_eq_true rfl, Nat.le_of_ble_eq_true rfl⟩ dX13_readText_9 (t := 12) rfl rfl ?_
  refine J_aload_n hX dX13_readText_12 0 rfl (t := 13) rfl ?_
  refine J_ldc2 hX dX13_readText_13 q_2382 (t := 16) rfl ?_
  obtain ⟨w11, h10, hF⟩ := bo1_e hF
  have k12 := (ctX13_mustWord (G := G) (l := l) w8 437857460 n h10)
  refine J_callV hX [.long 437857460] [] [] k12 miX13_mustWord mvX13_mustWord cb10 kModel q_2383 ⟨rfl, rfl, Nat.le_of_ble_eq_true rfl, Nat.le_of_ble_eq_true rfl⟩ rfl rfl (Nat.le_of_ble_eq_true rfl) ⟨Nat.le_of_ble_eq_true rfl, Nat.le_of_ble_eq_true rfl⟩ dX13_readText_16 (t := 19) rfl rfl ?_
  refine J_aload_n hX dX13_readText_19 0 rfl (t := 20) rfl ?_
  refine J_bipush (v := 59) hX dX13_readText_20 (by decide) (t := 22) rfl ?_
  obtain ⟨w14, h13, hF⟩ := bo1_e hF
  have k15 := (ctX13_mustSign (G := G) (l := l) w11 59 n h13)
  refine J_callV hX [.int 59] [] [] k15 miX13_mustSign mvX13_mustSign cb10 kModel q_2399 ⟨rfl, rfl, Nat.le_of_ble_eq_true rfl, Nat.le_of_ble_eq_true rfl⟩ rfl rfl (Nat.le_of_ble_eq_true rfl) ⟨Nat.le_of_ble_eq_true rfl, Nat.le_of_ble_eq_true rfl⟩ dX13_readText_22 (t := 25) rfl rfl ?_
  refine J_sub (lc2 := [(0, .ref (adr G 15 0))]) [0] rfl ?_
  exact LX13_readText_25 hX hR hlk n n w14  hF
abbrev rmX13_told : Room := { frames := 0, cells := 0, slots := 0, locals := 0 }
theorem miX13_told : MI yX13_told cX13_told 2 (some .int) 1 := ⟨q_2482, q_152, by decide +kernel, by decide +kernel, by decide +kernel, by decide +kernel⟩
theorem mvX13_told : MV yX13_told := ⟨q_2481, q_99⟩
def FX13_told (w : Wd) (p1 : Int32) : Int32 × Wd :=
  bnd (sW w 15 (sI (w 15) 0 0 0)) fun w1 =>
  (p1, w1)
set_option maxHeartbeats 4000000 in
set_option maxRecDepth 100000 in
theorem ctX13_told {G : GG} {l : Launch} (w : Wd) (p1 : Int32)  {rx : Int32} {rw : Wd} (hF : FX13_told w p1 = (rx, rw)) : CT G l yX13_told cX13_told 2 (some .int) rmX13_told 0 0 [.ref (adr G 15 0), .int p1] w (some (.int rx)) rw := by
  refine CT.of miX13_told [(0, .ref (adr G 15 0)), (1, .int p1)] rfl (Nat.le_of_ble_eq_true rfl) ?_
  intro p e s m args below meth c hX hR hlk
  have hX : FX G RX13 cX13_told 2 p s m args c := hX
  unfold FX13_told at hF
  refine J_aload_n hX dX13_told_0 0 rfl (t := 1) rfl ?_
  refine J_iconst (v := 0) hX dX13_told_1 (by decide) (t := 2) rfl ?_
  obtain ⟨w1, e2, hF⟩ := bnd_e hF
  refine J_puti hX cb10 kModel 0 (by decide) q_1967 rfl rfl e2 (fun _ _ => Nat.le_of_ble_eq_true rfl) (fun _ _ => rfl) dX13_told_2 (t := 5) rfl ?_
  refine J_iload_n hX dX13_told_5 1 rfl (t := 6) rfl ?_
  obtain ⟨hF, hF2⟩ := Prod.mk.inj hF
  subst hF
  subst hF2
  exact J_iret hX hR hlk dX13_told_6
abbrev rmX13_valleyCount : Room := { frames := 1, cells := 0, slots := 0, locals := 21 }
theorem miX13_valleyCount : MI yX13_valleyCount cX13_valleyCount 1 (some .int) 0 := ⟨q_2478, q_152, by decide +kernel, by decide +kernel, by decide +kernel, by decide +kernel⟩
theorem mvX13_valleyCount : MV yX13_valleyCount := ⟨q_2476, q_2477⟩
def FX13_valleyCount (w : Wd)  : Option (Int32 × Wd) :=
  gd (inb 0 390) <|
  bnd2 (FX13_told w ((w 15).1 2 0)) fun x3 w4 =>
  some (x3, w4)
set_option maxHeartbeats 4000000 in
set_option maxRecDepth 100000 in
theorem ctX13_valleyCount {G : GG} {l : Launch} (w : Wd)   {rx : Int32} {rw : Wd} (hF : FX13_valleyCount w  = some (rx, rw)) : CT G l yX13_valleyCount cX13_valleyCount 1 (some .int) rmX13_valleyCount 0 0 [.ref (adr G 15 0)] w (some (.int rx)) rw := by
  refine CT.of miX13_valleyCount [(0, .ref (adr G 15 0))] rfl (Nat.le_of_ble_eq_true rfl) ?_
  intro p e s m args below meth c hX hR hlk
  have hX : FX G RX13 cX13_valleyCount 1 p s m args c := hX
  unfold FX13_valleyCount at hF
  refine J_aload_n hX dX13_valleyCount_0 0 rfl (t := 1) rfl ?_
  refine J_aload_n hX dX13_valleyCount_1 0 rfl (t := 2) rfl ?_
  refine J_get hX cb10 kModel 13 (by decide) q_1980 rfl dX13_valleyCount_2 (t := 5) rfl ?_
  refine J_iconst (v := 0) hX dX13_valleyCount_5 (by decide) (t := 6) rfl ?_
  obtain ⟨g1, hF⟩ := gd_e hF
  refine J_iald hX (kInts (j := 2) (n := 390) (by decide) (by decide) rfl) g1 rfl dX13_valleyCount_6 (t := 7) rfl ?_
  obtain ⟨x3, w4, h2, hF⟩ := bnd2_e hF
  have k5 := (ctX13_told (G := G) (l := l) w ((w 15).1 2 0) h2)
  refine J_callV hX [.int ((w 15).1 2 0)] [] [.int x3] k5 miX13_told mvX13_told cb10 kModel q_2479 ⟨rfl, rfl, Nat.le_of_ble_eq_true rfl, Nat.le_of_ble_eq_true rfl⟩ rfl rfl (Nat.le_of_ble_eq_true rfl) ⟨Nat.le_of_ble_eq_true rfl, Nat.le_of_ble_eq_true rfl⟩ dX13_valleyCount_7 (t := 10) rfl rfl ?_
  replace hF := Option.some.inj hF
  obtain ⟨hF, hF2⟩ := Prod.mk.inj hF
  subst hF
  subst hF2
  exact J_iret hX hR hlk dX13_valleyCount_10
abbrev rmX13_customerCount : Room := { frames := 1, cells := 0, slots := 0, locals := 21 }
theorem miX13_customerCount : MI yX13_customerCount cX13_customerCount 1 (some .int) 0 := ⟨q_2486, q_152, by decide +kernel, by decide +kernel, by decide +kernel, by decide +kernel⟩
theorem mvX13_customerCount : MV yX13_customerCount := ⟨q_2484, q_2485⟩
def FX13_customerCount (w : Wd)  : Option (Int32 × Wd) :=
  gd (inb 1 390) <|
  bnd2 (FX13_told w ((w 15).1 2 1)) fun x3 w4 =>
  some (x3, w4)
set_option maxHeartbeats 4000000 in
set_option maxRecDepth 100000 in
theorem ctX13_customerCount {G : GG} {l : Launch} (w : Wd)   {rx : Int32} {rw : Wd} (hF : FX13_customerCount w  = some (rx, rw)) : CT G l yX13_customerCount cX13_customerCount 1 (some .int) rmX13_customerCount 0 0 [.ref (adr G 15 0)] w (some (.int rx)) rw := by
  refine CT.of miX13_customerCount [(0, .ref (adr G 15 0))] rfl (Nat.le_of_ble_eq_true rfl) ?_
  intro p e s m args below meth c hX hR hlk
  have hX : FX G RX13 cX13_customerCount 1 p s m args c := hX
  unfold FX13_customerCount at hF
  refine J_aload_n hX dX13_customerCount_0 0 rfl (t := 1) rfl ?_
  refine J_aload_n hX dX13_customerCount_1 0 rfl (t := 2) rfl ?_
  refine J_get hX cb10 kModel 13 (by decide) q_1980 rfl dX13_customerCount_2 (t := 5) rfl ?_
  refine J_iconst (v := 1) hX dX13_customerCount_5 (by decide) (t := 6) rfl ?_
  obtain ⟨g1, hF⟩ := gd_e hF
  refine J_iald hX (kInts (j := 2) (n := 390) (by decide) (by decide) rfl) g1 rfl dX13_customerCount_6 (t := 7) rfl ?_
  obtain ⟨x3, w4, h2, hF⟩ := bnd2_e hF
  have k5 := (ctX13_told (G := G) (l := l) w ((w 15).1 2 1) h2)
  refine J_callV hX [.int ((w 15).1 2 1)] [] [.int x3] k5 miX13_told mvX13_told cb10 kModel q_2479 ⟨rfl, rfl, Nat.le_of_ble_eq_true rfl, Nat.le_of_ble_eq_true rfl⟩ rfl rfl (Nat.le_of_ble_eq_true rfl) ⟨Nat.le_of_ble_eq_true rfl, Nat.le_of_ble_eq_true rfl⟩ dX13_customerCount_7 (t := 10) rfl rfl ?_
  replace hF := Option.some.inj hF
  obtain ⟨hF, hF2⟩ := Prod.mk.inj hF
  subst hF
  subst hF2
  exact J_iret hX hR hlk dX13_customerCount_10
abbrev rmX13_shoutCount : Room := { frames := 1, cells := 0, slots := 0, locals := 21 }
theorem miX13_shoutCount : MI yX13_shoutCount cX13_shoutCount 1 (some .int) 0 := ⟨q_2490, q_152, by decide +kernel, by decide +kernel, by decide +kernel, by decide +kernel⟩
theorem mvX13_shoutCount : MV yX13_shoutCount := ⟨q_2488, q_2489⟩
def FX13_shoutCount (w : Wd)  : Option (Int32 × Wd) :=
  gd (inb 2 390) <|
  bnd2 (FX13_told w ((w 15).1 2 2)) fun x3 w4 =>
  some (x3, w4)
set_option maxHeartbeats 4000000 in
set_option maxRecDepth 100000 in
theorem ctX13_shoutCount {G : GG} {l : Launch} (w : Wd)   {rx : Int32} {rw : Wd} (hF : FX13_shoutCount w  = some (rx, rw)) : CT G l yX13_shoutCount cX13_shoutCount 1 (some .int) rmX13_shoutCount 0 0 [.ref (adr G 15 0)] w (some (.int rx)) rw := by
  refine CT.of miX13_shoutCount [(0, .ref (adr G 15 0))] rfl (Nat.le_of_ble_eq_true rfl) ?_
  intro p e s m args below meth c hX hR hlk
  have hX : FX G RX13 cX13_shoutCount 1 p s m args c := hX
  unfold FX13_shoutCount at hF
  refine J_aload_n hX dX13_shoutCount_0 0 rfl (t := 1) rfl ?_
  refine J_aload_n hX dX13_shoutCount_1 0 rfl (t := 2) rfl ?_
  refine J_get hX cb10 kModel 13 (by decide) q_1980 rfl dX13_shoutCount_2 (t := 5) rfl ?_
  refine J_iconst (v := 2) hX dX13_shoutCount_5 (by decide) (t := 6) rfl ?_
  obtain ⟨g1, hF⟩ := gd_e hF
  refine J_iald hX (kInts (j := 2) (n := 390) (by decide) (by decide) rfl) g1 rfl dX13_shoutCount_6 (t := 7) rfl ?_
  obtain ⟨x3, w4, h2, hF⟩ := bnd2_e hF
  have k5 := (ctX13_told (G := G) (l := l) w ((w 15).1 2 2) h2)
  refine J_callV hX [.int ((w 15).1 2 2)] [] [.int x3] k5 miX13_told mvX13_told cb10 kModel q_2479 ⟨rfl, rfl, Nat.le_of_ble_eq_true rfl, Nat.le_of_ble_eq_true rfl⟩ rfl rfl (Nat.le_of_ble_eq_true rfl) ⟨Nat.le_of_ble_eq_true rfl, Nat.le_of_ble_eq_true rfl⟩ dX13_shoutCount_7 (t := 10) rfl rfl ?_
  replace hF := Option.some.inj hF
  obtain ⟨hF, hF2⟩ := Prod.mk.inj hF
  subst hF
  subst hF2
  exact J_iret hX hR hlk dX13_shoutCount_10
abbrev rmX13_time : Room := { frames := 1, cells := 0, slots := 0, locals := 21 }
theorem miX13_time : MI yX13_time cX13_time 1 (some .int) 0 := ⟨q_2494, q_152, by decide +kernel, by decide +kernel, by decide +kernel, by decide +kernel⟩
theorem mvX13_time : MV yX13_time := ⟨q_2492, q_2493⟩
def FX13_time (w : Wd)  : Option (Int32 × Wd) :=
  gd (inb 3 390) <|
  bnd2 (FX13_told w ((w 15).1 2 3)) fun x3 w4 =>
  some (x3, w4)
set_option maxHeartbeats 4000000 in
set_option maxRecDepth 100000 in
theorem ctX13_time {G : GG} {l : Launch} (w : Wd)   {rx : Int32} {rw : Wd} (hF : FX13_time w  = some (rx, rw)) : CT G l yX13_time cX13_time 1 (some .int) rmX13_time 0 0 [.ref (adr G 15 0)] w (some (.int rx)) rw := by
  refine CT.of miX13_time [(0, .ref (adr G 15 0))] rfl (Nat.le_of_ble_eq_true rfl) ?_
  intro p e s m args below meth c hX hR hlk
  have hX : FX G RX13 cX13_time 1 p s m args c := hX
  unfold FX13_time at hF
  refine J_aload_n hX dX13_time_0 0 rfl (t := 1) rfl ?_
  refine J_aload_n hX dX13_time_1 0 rfl (t := 2) rfl ?_
  refine J_get hX cb10 kModel 13 (by decide) q_1980 rfl dX13_time_2 (t := 5) rfl ?_
  refine J_iconst (v := 3) hX dX13_time_5 (by decide) (t := 6) rfl ?_
  obtain ⟨g1, hF⟩ := gd_e hF
  refine J_iald hX (kInts (j := 2) (n := 390) (by decide) (by decide) rfl) g1 rfl dX13_time_6 (t := 7) rfl ?_
  obtain ⟨x3, w4, h2, hF⟩ := bnd2_e hF
  have k5 := (ctX13_told (G := G) (l := l) w ((w 15).1 2 3) h2)
  refine J_callV hX [.int ((w 15).1 2 3)] [] [.int x3] k5 miX13_told mvX13_told cb10 kModel q_2479 ⟨rfl, rfl, Nat.le_of_ble_eq_true rfl, Nat.le_of_ble_eq_true rfl⟩ rfl rfl (Nat.le_of_ble_eq_true rfl) ⟨Nat.le_of_ble_eq_true rfl, Nat.le_of_ble_eq_true rfl⟩ dX13_time_7 (t := 10) rfl rfl ?_
  replace hF := Option.some.inj hF
  obtain ⟨hF, hF2⟩ := Prod.mk.inj hF
  subst hF
  subst hF2
  exact J_iret hX hR hlk dX13_time_10
abbrev rmX13_earned : Room := { frames := 1, cells := 0, slots := 0, locals := 21 }
theorem miX13_earned : MI yX13_earned cX13_earned 1 (some .int) 0 := ⟨q_2498, q_152, by decide +kernel, by decide +kernel, by decide +kernel, by decide +kernel⟩
theorem mvX13_earned : MV yX13_earned := ⟨q_2496, q_2497⟩
def FX13_earned (w : Wd)  : Option (Int32 × Wd) :=
  gd (inb 4 390) <|
  bnd2 (FX13_told w ((w 15).1 2 4)) fun x3 w4 =>
  some (x3, w4)
set_option maxHeartbeats 4000000 in
set_option maxRecDepth 100000 in
theorem ctX13_earned {G : GG} {l : Launch} (w : Wd)   {rx : Int32} {rw : Wd} (hF : FX13_earned w  = some (rx, rw)) : CT G l yX13_earned cX13_earned 1 (some .int) rmX13_earned 0 0 [.ref (adr G 15 0)] w (some (.int rx)) rw := by
  refine CT.of miX13_earned [(0, .ref (adr G 15 0))] rfl (Nat.le_of_ble_eq_true rfl) ?_
  intro p e s m args below meth c hX hR hlk
  have hX : FX G RX13 cX13_earned 1 p s m args c := hX
  unfold FX13_earned at hF
  refine J_aload_n hX dX13_earned_0 0 rfl (t := 1) rfl ?_
  refine J_aload_n hX dX13_earned_1 0 rfl (t := 2) rfl ?_
  refine J_get hX cb10 kModel 13 (by decide) q_1980 rfl dX13_earned_2 (t := 5) rfl ?_
  refine J_iconst (v := 4) hX dX13_earned_5 (by decide) (t := 6) rfl ?_
  obtain ⟨g1, hF⟩ := gd_e hF
  refine J_iald hX (kInts (j := 2) (n := 390) (by decide) (by decide) rfl) g1 rfl dX13_earned_6 (t := 7) rfl ?_
  obtain ⟨x3, w4, h2, hF⟩ := bnd2_e hF
  have k5 := (ctX13_told (G := G) (l := l) w ((w 15).1 2 4) h2)
  refine J_callV hX [.int ((w 15).1 2 4)] [] [.int x3] k5 miX13_told mvX13_told cb10 kModel q_2479 ⟨rfl, rfl, Nat.le_of_ble_eq_true rfl, Nat.le_of_ble_eq_true rfl⟩ rfl rfl (Nat.le_of_ble_eq_true rfl) ⟨Nat.le_of_ble_eq_true rfl, Nat.le_of_ble_eq_true rfl⟩ dX13_earned_7 (t := 10) rfl rfl ?_
  replace hF := Option.some.inj hF
  obtain ⟨hF, hF2⟩ := Prod.mk.inj hF
  subst hF
  subst hF2
  exact J_iret hX hR hlk dX13_earned_10
abbrev rmX13_refunded : Room := { frames := 1, cells := 0, slots := 0, locals := 21 }
theorem miX13_refunded : MI yX13_refunded cX13_refunded 1 (some .int) 0 := ⟨q_2502, q_152, by decide +kernel, by decide +kernel, by decide +kernel, by decide +kernel⟩
theorem mvX13_refunded : MV yX13_refunded := ⟨q_2500, q_2501⟩
def FX13_refunded (w : Wd)  : Option (Int32 × Wd) :=
  gd (inb 5 390) <|
  bnd2 (FX13_told w ((w 15).1 2 5)) fun x3 w4 =>
  some (x3, w4)
set_option maxHeartbeats 4000000 in
set_option maxRecDepth 100000 in
theorem ctX13_refunded {G : GG} {l : Launch} (w : Wd)   {rx : Int32} {rw : Wd} (hF : FX13_refunded w  = some (rx, rw)) : CT G l yX13_refunded cX13_refunded 1 (some .int) rmX13_refunded 0 0 [.ref (adr G 15 0)] w (some (.int rx)) rw := by
  refine CT.of miX13_refunded [(0, .ref (adr G 15 0))] rfl (Nat.le_of_ble_eq_true rfl) ?_
  intro p e s m args below meth c hX hR hlk
  have hX : FX G RX13 cX13_refunded 1 p s m args c := hX
  unfold FX13_refunded at hF
  refine J_aload_n hX dX13_refunded_0 0 rfl (t := 1) rfl ?_
  refine J_aload_n hX dX13_refunded_1 0 rfl (t := 2) rfl ?_
  refine J_get hX cb10 kModel 13 (by decide) q_1980 rfl dX13_refunded_2 (t := 5) rfl ?_
  refine J_iconst (v := 5) hX dX13_refunded_5 (by decide) (t := 6) rfl ?_
  obtain ⟨g1, hF⟩ := gd_e hF
  refine J_iald hX (kInts (j := 2) (n := 390) (by decide) (by decide) rfl) g1 rfl dX13_refunded_6 (t := 7) rfl ?_
  obtain ⟨x3, w4, h2, hF⟩ := bnd2_e hF
  have k5 := (ctX13_told (G := G) (l := l) w ((w 15).1 2 5) h2)
  refine J_callV hX [.int ((w 15).1 2 5)] [] [.int x3] k5 miX13_told mvX13_told cb10 kModel q_2479 ⟨rfl, rfl, Nat.le_of_ble_eq_true rfl, Nat.le_of_ble_eq_true rfl⟩ rfl rfl (Nat.le_of_ble_eq_true rfl) ⟨Nat.le_of_ble_eq_true rfl, Nat.le_of_ble_eq_true rfl⟩ dX13_refunded_7 (t := 10) rfl rfl ?_
  replace hF := Option.some.inj hF
  obtain ⟨hF, hF2⟩ := Prod.mk.inj hF
  subst hF
  subst hF2
  exact J_iret hX hR hlk dX13_refunded_10
abbrev rmX13_held : Room := { frames := 4, cells := 0, slots := 0, locals := 85 }
theorem miX13_held : MI yX13_held cX13_held 1 (some .int) 0 := ⟨q_2506, q_152, by decide +kernel, by decide +kernel, by decide +kernel, by decide +kernel⟩
theorem mvX13_held : MV yX13_held := ⟨q_2504, q_2505⟩
def FX13_held (n : Nat) (w : Wd)  : Option (Int32 × Wd) :=
  bo1 (FX13_heldAll n w) fun x2 =>
  bnd2 (FX13_told w x2) fun x5 w6 =>
  some (x5, w6)
set_option maxHeartbeats 4000000 in
set_option maxRecDepth 100000 in
theorem ctX13_held {G : GG} {l : Launch} (w : Wd)   (n : Nat) {rx : Int32} {rw : Wd} (hF : FX13_held n w  = some (rx, rw)) : CT G l yX13_held cX13_held 1 (some .int) rmX13_held 0 0 [.ref (adr G 15 0)] w (some (.int rx)) rw := by
  refine CT.of miX13_held [(0, .ref (adr G 15 0))] rfl (Nat.le_of_ble_eq_true rfl) ?_
  intro p e s m args below meth c hX hR hlk
  have hX : FX G RX13 cX13_held 1 p s m args c := hX
  unfold FX13_held at hF
  refine J_aload_n hX dX13_held_0 0 rfl (t := 1) rfl ?_
  refine J_aload_n hX dX13_held_1 0 rfl (t := 2) rfl ?_
  obtain ⟨x2, h1, hF⟩ := bo1_e hF
  have k3 := (ctX13_heldAll (G := G) (l := l) w  n h1)
  refine J_callV hX [] [.ref (adr G 15 0)] [.int x2, .ref (adr G 15 0)] k3 miX13_heldAll mvX13_heldAll cb10 kModel q_2507 ⟨rfl, rfl, Nat.le_of_ble_eq_true rfl, Nat.le_of_ble_eq_true rfl⟩ rfl rfl (Nat.le_of_ble_eq_true rfl) ⟨Nat.le_of_ble_eq_true rfl, Nat.le_of_ble_eq_true rfl⟩ dX13_held_2 (t := 5) rfl rfl ?_
  obtain ⟨x5, w6, h4, hF⟩ := bnd2_e hF
  have k7 := (ctX13_told (G := G) (l := l) w x2 h4)
  refine J_callV hX [.int x2] [] [.int x5] k7 miX13_told mvX13_told cb10 kModel q_2479 ⟨rfl, rfl, Nat.le_of_ble_eq_true rfl, Nat.le_of_ble_eq_true rfl⟩ rfl rfl (Nat.le_of_ble_eq_true rfl) ⟨Nat.le_of_ble_eq_true rfl, Nat.le_of_ble_eq_true rfl⟩ dX13_held_5 (t := 8) rfl rfl ?_
  replace hF := Option.some.inj hF
  obtain ⟨hF, hF2⟩ := Prod.mk.inj hF
  subst hF
  subst hF2
  exact J_iret hX hR hlk dX13_held_8
abbrev rmX13_wellDepth : Room := { frames := 1, cells := 0, slots := 0, locals := 21 }
theorem miX13_wellDepth : MI yX13_wellDepth cX13_wellDepth 1 (some .int) 0 := ⟨q_2514, q_152, by decide +kernel, by decide +kernel, by decide +kernel, by decide +kernel⟩
theorem mvX13_wellDepth : MV yX13_wellDepth := ⟨q_2512, q_2513⟩
def FX13_wellDepth (w : Wd)  : Option (Int32 × Wd) :=
  gd (inb 6 390) <|
  bnd2 (FX13_told w ((w 15).1 2 6)) fun x3 w4 =>
  some (x3, w4)
set_option maxHeartbeats 4000000 in
set_option maxRecDepth 100000 in
theorem ctX13_wellDepth {G : GG} {l : Launch} (w : Wd)   {rx : Int32} {rw : Wd} (hF : FX13_wellDepth w  = some (rx, rw)) : CT G l yX13_wellDepth cX13_wellDepth 1 (some .int) rmX13_wellDepth 0 0 [.ref (adr G 15 0)] w (some (.int rx)) rw := by
  refine CT.of miX13_wellDepth [(0, .ref (adr G 15 0))] rfl (Nat.le_of_ble_eq_true rfl) ?_
  intro p e s m args below meth c hX hR hlk
  have hX : FX G RX13 cX13_wellDepth 1 p s m args c := hX
  unfold FX13_wellDepth at hF
  refine J_aload_n hX dX13_wellDepth_0 0 rfl (t := 1) rfl ?_
  refine J_aload_n hX dX13_wellDepth_1 0 rfl (t := 2) rfl ?_
  refine J_get hX cb10 kModel 13 (by decide) q_1980 rfl dX13_wellDepth_2 (t := 5) rfl ?_
  refine J_bipush (v := 6) hX dX13_wellDepth_5 (by decide) (t := 7) rfl ?_
  obtain ⟨g1, hF⟩ := gd_e hF
  refine J_iald hX (kInts (j := 2) (n := 390) (by decide) (by decide) rfl) g1 rfl dX13_wellDepth_7 (t := 8) rfl ?_
  obtain ⟨x3, w4, h2, hF⟩ := bnd2_e hF
  have k5 := (ctX13_told (G := G) (l := l) w ((w 15).1 2 6) h2)
  refine J_callV hX [.int ((w 15).1 2 6)] [] [.int x3] k5 miX13_told mvX13_told cb10 kModel q_2479 ⟨rfl, rfl, Nat.le_of_ble_eq_true rfl, Nat.le_of_ble_eq_true rfl⟩ rfl rfl (Nat.le_of_ble_eq_true rfl) ⟨Nat.le_of_ble_eq_true rfl, Nat.le_of_ble_eq_true rfl⟩ dX13_wellDepth_8 (t := 11) rfl rfl ?_
  replace hF := Option.some.inj hF
  obtain ⟨hF, hF2⟩ := Prod.mk.inj hF
  subst hF
  subst hF2
  exact J_iret hX hR hlk dX13_wellDepth_11
abbrev rmX13_openShouts : Room := { frames := 3, cells := 0, slots := 0, locals := 67 }
theorem miX13_openShouts : MI yX13_openShouts cX13_openShouts 3 (some .int) 0 := ⟨q_2518, q_152, by decide +kernel, by decide +kernel, by decide +kernel, by decide +kernel⟩
theorem mvX13_openShouts : MV yX13_openShouts := ⟨q_2516, q_2517⟩
def FX13_openShouts_L4 (n : Nat) : Nat → Wd → Int32 → Int32 → Option (Int32 × Wd)
  | 0 => fun _ _ _ => none
  | k + 1 => fun w l1 l2 =>
    gd (inb 2 390) <|
    if (w 15).1 2 2 ≤ l2 then
      bnd2 (FX13_told w l1) fun x3 w4 =>
      some (x3, w4)
    else
      bo1 (FX13_isOpen w l2) fun x7 =>
      bnd (FX13_truth x7) fun x10 =>
      FX13_openShouts_L4 n k w (l1 + x10) (l2 + 1)
set_option maxHeartbeats 4000000 in
set_option maxRecDepth 100000 in
theorem LX13_openShouts_4 {G : GG} {l : Launch} {p : Program} {e : Env} {s : State} {m : MethodId} {args : Array Value} {below : List Frame} {meth : Method} {c : Code} (hX : FX G RX13 cX13_openShouts 3 p s m args c) (hR : meth.sig.returnType = (some .int)) (hlk : meth.locks = false) {rx : Int32} {rw : Wd} (n : Nat) : ∀ (k : Nat) (w : Wd) (l1 : Int32) (l2 : Int32) , FX13_openShouts_L4 n k w l1 l2 = some (rx, rw) → J G p l e rmX13_openShouts s m args below meth c 3 0 0 (MQ below (QV G (some (.int rx)) rw) args s 0 0 (gA G)) (GH G w) 4 [(0, .ref (adr G 15 0)), (1, .int l1), (2, .int l2)] [] := by
  intro k
  induction k with
  | zero => intro w l1 l2  hF; cases hF
  | succ k ih =>
    intro w l1 l2  hF
    simp only [FX13_openShouts_L4] at hF
    refine J_iload_n hX dX13_openShouts_4 2 rfl (t := 5) rfl ?_
    refine J_aload_n hX dX13_openShouts_5 0 rfl (t := 6) rfl ?_
    refine J_get hX cb10 kModel 13 (by decide) q_1980 rfl dX13_openShouts_6 (t := 9) rfl ?_
    refine J_iconst (v := 2) hX dX13_openShouts_9 (by decide) (t := 10) rfl ?_
    obtain ⟨g1, hF⟩ := gd_e hF
    refine J_iald hX (kInts (j := 2) (n := 390) (by decide) (by decide) rfl) g1 rfl dX13_openShouts_10 (t := 11) rfl ?_
    refine J_icmp_ge (tgt := 31) hX dX13_openShouts_11 (by decide) (t := 14) rfl (fun z => ?_) (fun z => ?_)
    · replace hF := it_t hF z
      refine J_aload_n hX dX13_openShouts_31 0 rfl (t := 32) rfl ?_
      refine J_iload_n hX dX13_openShouts_32 1 rfl (t := 33) rfl ?_
      obtain ⟨x3, w4, h2, hF⟩ := bnd2_e hF
      have k5 := (ctX13_told (G := G) (l := l) w l1 h2)
      refine J_callV hX [.int l1] [] [.int x3] k5 miX13_told mvX13_told cb10 kModel q_2479 ⟨rfl, rfl, Nat.le_of_ble_eq_true rfl, Nat.le_of_ble_eq_true rfl⟩ rfl rfl (Nat.le_of_ble_eq_true rfl) ⟨Nat.le_of_ble_eq_true rfl, Nat.le_of_ble_eq_true rfl⟩ dX13_openShouts_33 (t := 36) rfl rfl ?_
      replace hF := Option.some.inj hF
      obtain ⟨hF, hF2⟩ := Prod.mk.inj hF
      subst hF
      subst hF2
      exact J_iret hX hR hlk dX13_openShouts_36
    · replace hF := it_f hF z
      refine J_iload_n hX dX13_openShouts_14 1 rfl (t := 15) rfl ?_
      refine J_aload_n hX dX13_openShouts_15 0 rfl (t := 16) rfl ?_
      refine J_iload_n hX dX13_openShouts_16 2 rfl (t := 17) rfl ?_
      obtain ⟨x7, h6, hF⟩ := bo1_e hF
      have k8 := (ctX13_isOpen (G := G) (l := l) w l2 h6)
      refine J_callV hX [.int l2] [.int l1] [.int (bI x7), .int l1] k8 miX13_isOpen mvX13_isOpen cb10 kModel q_2264 ⟨rfl, rfl, Nat.le_of_ble_eq_true rfl, Nat.le_of_ble_eq_true rfl⟩ rfl rfl (Nat.le_of_ble_eq_true rfl) ⟨Nat.le_of_ble_eq_true rfl, Nat.le_of_ble_eq_true rfl⟩ dX13_openShouts_17 (t := 20) rfl rfl ?_
      obtain ⟨x10, h9, hF⟩ := bnd_e hF
      have k11 := (ctX13_truth (l := l) (G := G) (w := w) x7 h9)
      refine J_callS hX [.int (bI x7)] [.int l1] [.int x10, .int l1] k11 miX13_truth q_2083 q_2082 ⟨rfl, rfl, Nat.le_of_ble_eq_true rfl, Nat.le_of_ble_eq_true rfl⟩ rfl rfl (Nat.le_of_ble_eq_true rfl) ⟨Nat.le_of_ble_eq_true rfl, Nat.le_of_ble_eq_true rfl⟩ dX13_openShouts_20 (t := 23) rfl rfl ?_
      refine J_iadd hX dX13_openShouts_23 (t := 24) rfl ?_
      refine J_istore_n (lc2 := [(1, .int (l1 + x10)), (0, .ref (adr G 15 0)), (2, .int l2)]) hX dX13_openShouts_24 rfl (Nat.le_of_ble_eq_true rfl) rfl (t := 25) rfl ?_
      refine J_iinc (v := l2 + 1) (lc2 := [(2, .int (l2 + 1)), (1, .int (l1 + x10)), (0, .ref (adr G 15 0))]) hX dX13_openShouts_25 2 rfl rfl (Nat.le_of_ble_eq_true rfl) rfl (t := 28) rfl ?_
      refine J_goto (tgt := 4) hX dX13_openShouts_28 (by decide) ?_
      refine J_sub (lc2 := [(0, .ref (adr G 15 0)), (1, .int (l1 + x10)), (2, .int (l2 + 1))]) [2, 1, 0] rfl ?_
      exact ih w (l1 + x10) (l2 + 1) hF
def FX13_openShouts (n : Nat) (w : Wd)  : Option (Int32 × Wd) :=
  FX13_openShouts_L4 n n w 0 0
set_option maxHeartbeats 4000000 in
set_option maxRecDepth 100000 in
theorem ctX13_openShouts {G : GG} {l : Launch} (w : Wd)   (n : Nat) {rx : Int32} {rw : Wd} (hF : FX13_openShouts n w  = some (rx, rw)) : CT G l yX13_openShouts cX13_openShouts 3 (some .int) rmX13_openShouts 0 0 [.ref (adr G 15 0)] w (some (.int rx)) rw := by
  refine CT.of miX13_openShouts [(0, .ref (adr G 15 0))] rfl (Nat.le_of_ble_eq_true rfl) ?_
  intro p e s m args below meth c hX hR hlk
  have hX : FX G RX13 cX13_openShouts 3 p s m args c := hX
  unfold FX13_openShouts at hF
  refine J_iconst (v := 0) hX dX13_openShouts_0 (by decide) (t := 1) rfl ?_
  refine J_istore_n (lc2 := [(1, .int 0), (0, .ref (adr G 15 0))]) hX dX13_openShouts_1 rfl (Nat.le_of_ble_eq_true rfl) rfl (t := 2) rfl ?_
  refine J_iconst (v := 0) hX dX13_openShouts_2 (by decide) (t := 3) rfl ?_
  refine J_istore_n (lc2 := [(2, .int 0), (1, .int 0), (0, .ref (adr G 15 0))]) hX dX13_openShouts_3 rfl (Nat.le_of_ble_eq_true rfl) rfl (t := 4) rfl ?_
  refine J_sub (lc2 := [(0, .ref (adr G 15 0)), (1, .int 0), (2, .int 0)]) [2, 1, 0] rfl ?_
  exact LX13_openShouts_4 hX hR hlk n n w 0 0 hF
abbrev rmX13_lengthOf : Room := { frames := 0, cells := 0, slots := 0, locals := 0 }
theorem miX13_lengthOf : MI yX13_lengthOf cX13_lengthOf 5 (some .int) 1 := ⟨q_2528, q_152, by decide +kernel, by decide +kernel, by decide +kernel, by decide +kernel⟩
def FX13_lengthOf_L4 (n : Nat) : Nat → Int64 → Int32 → Int64 → Option (Int32)
  | 0 => fun _ _ _ => none
  | k + 1 => fun l0 l2 l3 =>
    if lg_cmp l3 0 ≤ 0 then
      some l2
    else
      FX13_lengthOf_L4 n k l0 (l2 + 1) (l3 >>> ((5 : Int32).toInt64 &&& 63))
set_option maxHeartbeats 4000000 in
set_option maxRecDepth 100000 in
theorem LX13_lengthOf_4 {G : GG} {l : Launch} {w : Wd} {p : Program} {e : Env} {s : State} {m : MethodId} {args : Array Value} {below : List Frame} {meth : Method} {c : Code} (hX : FX G RX13 cX13_lengthOf 5 p s m args c) (hR : meth.sig.returnType = (some .int)) (hlk : meth.locks = false) {rx : Int32} (n : Nat) : ∀ (k : Nat) (l0 : Int64) (l2 : Int32) (l3 : Int64) , FX13_lengthOf_L4 n k l0 l2 l3 = some rx → J G p l e rmX13_lengthOf s m args below meth c 5 0 0 (MQ below (QV G (some (.int rx)) w) args s 0 0 (gA G)) (GH G w) 4 [(0, .long l0), (2, .int l2), (3, .long l3)] [] := by
  intro k
  induction k with
  | zero => intro l0 l2 l3  hF; cases hF
  | succ k ih =>
    intro l0 l2 l3  hF
    simp only [FX13_lengthOf_L4] at hF
    refine J_lload_n hX dX13_lengthOf_4 2 rfl (t := 5) rfl ?_
    refine J_lconst (v := 0) hX dX13_lengthOf_5 (by decide) (t := 6) rfl ?_
    refine J_lcmp hX dX13_lengthOf_6 (t := 7) rfl ?_
    refine J_if_le (tgt := 20) hX dX13_lengthOf_7 (by decide) (t := 10) rfl (fun z => ?_) (fun z => ?_)
    · replace hF := it_t hF z
      refine J_iload_n hX dX13_lengthOf_20 1 rfl (t := 21) rfl ?_
      replace hF := Option.some.inj hF
      subst hF
      exact J_iret hX hR hlk dX13_lengthOf_21
    · replace hF := it_f hF z
      refine J_iinc (v := l2 + 1) (lc2 := [(2, .int (l2 + 1)), (0, .long l0), (3, .long l3)]) hX dX13_lengthOf_10 1 rfl rfl (Nat.le_of_ble_eq_true rfl) rfl (t := 13) rfl ?_
      refine J_lload_n hX dX13_lengthOf_13 2 rfl (t := 14) rfl ?_
      refine J_iconst (v := 5) hX dX13_lengthOf_14 (by decide) (t := 15) rfl ?_
      refine J_lshr hX dX13_lengthOf_15 (t := 16) rfl ?_
      refine J_lstore_n (lc2 := [(3, .long (l3 >>> ((5 : Int32).toInt64 &&& 63))), (2, .int (l2 + 1)), (0, .long l0)]) hX dX13_lengthOf_16 rfl (Nat.le_of_ble_eq_true rfl) rfl (t := 17) rfl ?_
      refine J_goto (tgt := 4) hX dX13_lengthOf_17 (by decide) ?_
      refine J_sub (lc2 := [(0, .long l0), (2, .int (l2 + 1)), (3, .long (l3 >>> ((5 : Int32).toInt64 &&& 63)))]) [2, 1, 0] rfl ?_
      exact ih l0 (l2 + 1) (l3 >>> ((5 : Int32).toInt64 &&& 63)) hF
def FX13_lengthOf (n : Nat) (p0 : Int64) : Option (Int32) :=
  FX13_lengthOf_L4 n n p0 0 p0
set_option maxHeartbeats 4000000 in
set_option maxRecDepth 100000 in
theorem ctX13_lengthOf {G : GG} {l : Launch} {w : Wd} (p0 : Int64)  (n : Nat) {rx : Int32} (hF : FX13_lengthOf n p0 = some rx) : CT G l yX13_lengthOf cX13_lengthOf 5 (some .int) rmX13_lengthOf 0 0 [.long p0] w (some (.int rx)) w := by
  refine CT.of miX13_lengthOf [(0, .long p0)] rfl (Nat.le_of_ble_eq_true rfl) ?_
  intro p e s m args below meth c hX hR hlk
  have hX : FX G RX13 cX13_lengthOf 5 p s m args c := hX
  unfold FX13_lengthOf at hF
  refine J_iconst (v := 0) hX dX13_lengthOf_0 (by decide) (t := 1) rfl ?_
  refine J_istore_n (lc2 := [(2, .int 0), (0, .long p0)]) hX dX13_lengthOf_1 rfl (Nat.le_of_ble_eq_true rfl) rfl (t := 2) rfl ?_
  refine J_lload_n hX dX13_lengthOf_2 1 rfl (t := 3) rfl ?_
  refine J_lstore_n (lc2 := [(3, .long p0), (2, .int 0), (0, .long p0)]) hX dX13_lengthOf_3 rfl (Nat.le_of_ble_eq_true rfl) rfl (t := 4) rfl ?_
  refine J_sub (lc2 := [(0, .long p0), (2, .int 0), (3, .long p0)]) [2, 1, 0] rfl ?_
  exact LX13_lengthOf_4 hX hR hlk n n p0 0 p0 hF
abbrev rmX13_letterAt : Room := { frames := 1, cells := 0, slots := 0, locals := 25 }
theorem miX13_letterAt : MI yX13_letterAt cX13_letterAt 4 (some .int) 2 := ⟨q_2525, q_152, by decide +kernel, by decide +kernel, by decide +kernel, by decide +kernel⟩
def FX13_letterAt (n : Nat) (p0 : Int64) (p2 : Int32) : Option (Int32) :=
  bo1 (FX13_lengthOf n p0) fun x2 =>
  bnd (FX13_isIn p2.toInt64 0 ((x2 - 1).toInt64)) fun x5 =>
  if x5 = true then
    some (96 + (((p0 >>> ((5 * ((x2 - 1) - p2)).toInt64 &&& 63)) &&& 31).toInt32))
  else
    some (-1)
set_option maxHeartbeats 4000000 in
set_option maxRecDepth 100000 in
theorem ctX13_letterAt {G : GG} {l : Launch} {w : Wd} (p0 : Int64) (p2 : Int32)  (n : Nat) {rx : Int32} (hF : FX13_letterAt n p0 p2 = some rx) : CT G l yX13_letterAt cX13_letterAt 4 (some .int) rmX13_letterAt 0 0 [.long p0, .int p2] w (some (.int rx)) w := by
  refine CT.of miX13_letterAt [(0, .long p0), (2, .int p2)] rfl (Nat.le_of_ble_eq_true rfl) ?_
  intro p e s m args below meth c hX hR hlk
  have hX : FX G RX13 cX13_letterAt 4 p s m args c := hX
  unfold FX13_letterAt at hF
  refine J_lload_n hX dX13_letterAt_0 0 rfl (t := 1) rfl ?_
  obtain ⟨x2, h1, hF⟩ := bo1_e hF
  have k3 := (ctX13_lengthOf (l := l) (G := G) (w := w) p0 n h1)
  refine J_callS hX [.long p0] [] [.int x2] k3 miX13_lengthOf q_2527 q_2526 ⟨rfl, rfl, Nat.le_of_ble_eq_true rfl, Nat.le_of_ble_eq_true rfl⟩ rfl rfl (Nat.le_of_ble_eq_true rfl) ⟨Nat.le_of_ble_eq_true rfl, Nat.le_of_ble_eq_true rfl⟩ dX13_letterAt_1 (t := 4) rfl rfl ?_
  refine J_istore_n (lc2 := [(3, .int x2), (0, .long p0), (2, .int p2)]) hX dX13_letterAt_4 rfl (Nat.le_of_ble_eq_true rfl) rfl (t := 5) rfl ?_
  refine J_iload_n hX dX13_letterAt_5 2 rfl (t := 6) rfl ?_
  refine J_i2l hX dX13_letterAt_6 (t := 7) rfl ?_
  refine J_lconst (v := 0) hX dX13_letterAt_7 (by decide) (t := 8) rfl ?_
  refine J_iload_n hX dX13_letterAt_8 0 rfl (t := 9) rfl ?_
  refine J_iconst (v := 1) hX dX13_letterAt_9 (by decide) (t := 10) rfl ?_
  refine J_isub hX dX13_letterAt_10 (t := 11) rfl ?_
  refine J_i2l hX dX13_letterAt_11 (t := 12) rfl ?_
  obtain ⟨x5, h4, hF⟩ := bnd_e hF
  have k6 := (ctX13_isIn (l := l) (G := G) (w := w) p2.toInt64 0 ((x2 - 1).toInt64) h4)
  refine J_callS hX [.long p2.toInt64, .long 0, .long ((x2 - 1).toInt64)] [] [.int (bI x5)] k6 miX13_isIn q_2094 q_2093 ⟨rfl, rfl, Nat.le_of_ble_eq_true rfl, Nat.le_of_ble_eq_true rfl⟩ rfl rfl (Nat.le_of_ble_eq_true rfl) ⟨Nat.le_of_ble_eq_true rfl, Nat.le_of_ble_eq_true rfl⟩ dX13_letterAt_12 (t := 15) rfl rfl ?_
  refine J_ifZ_ne (tgt := 20) hX dX13_letterAt_15 (by decide) (t := 18) rfl (fun z => ?_) (fun z => ?_)
  · replace hF := it_t hF z
    refine J_bipush (v := 96) hX dX13_letterAt_20 (by decide) (t := 22) rfl ?_
    refine J_lload_n hX dX13_letterAt_22 1 rfl (t := 23) rfl ?_
    refine J_iconst (v := 5) hX dX13_letterAt_23 (by decide) (t := 24) rfl ?_
    refine J_iload_n hX dX13_letterAt_24 0 rfl (t := 25) rfl ?_
    refine J_iconst (v := 1) hX dX13_letterAt_25 (by decide) (t := 26) rfl ?_
    refine J_isub hX dX13_letterAt_26 (t := 27) rfl ?_
    refine J_iload_n hX dX13_letterAt_27 2 rfl (t := 28) rfl ?_
    refine J_isub hX dX13_letterAt_28 (t := 29) rfl ?_
    refine J_imul hX dX13_letterAt_29 (t := 30) rfl ?_
    refine J_lshr hX dX13_letterAt_30 (t := 31) rfl ?_
    refine J_ldc2 hX dX13_letterAt_31 q_2529 (t := 34) rfl ?_
    refine J_land hX dX13_letterAt_34 (t := 35) rfl ?_
    refine J_l2i hX dX13_letterAt_35 (t := 36) rfl ?_
    refine J_iadd hX dX13_letterAt_36 (t := 37) rfl ?_
    replace hF := Option.some.inj hF
    subst hF
    exact J_iret hX hR hlk dX13_letterAt_37
  · replace hF := ib_f hF z
    refine J_iconst (v := (-1)) hX dX13_letterAt_18 (by decide) (t := 19) rfl ?_
    replace hF := Option.some.inj hF
    subst hF
    exact J_iret hX hR hlk dX13_letterAt_19
abbrev rmX13_valleyByte : Room := { frames := 2, cells := 0, slots := 0, locals := 48 }
theorem miX13_valleyByte : MI yX13_valleyByte cX13_valleyByte 3 (some .int) 2 := ⟨q_2522, q_152, by decide +kernel, by decide +kernel, by decide +kernel, by decide +kernel⟩
theorem mvX13_valleyByte : MV yX13_valleyByte := ⟨q_2520, q_2521⟩
def FX13_valleyByte (n : Nat) (w : Wd) (p1 : Int32) (p2 : Int32) : Option (Int32 × Wd) :=
  bo1 (FX13_isValley w p1) fun x2 =>
  bnd2 (FX13_goes w x2) fun x5 w6 =>
  if x5 = true then
    bnd (FX13_nme 0 p1) fun x9 =>
    bo1 (FX13_nameAt w6 x9) fun x12 =>
    bo1 (FX13_letterAt n x12 p2) fun x15 =>
    some (x15, w6)
  else
    some (0, w6)
set_option maxHeartbeats 4000000 in
set_option maxRecDepth 100000 in
theorem ctX13_valleyByte {G : GG} {l : Launch} (w : Wd) (p1 : Int32) (p2 : Int32)  (n : Nat) {rx : Int32} {rw : Wd} (hF : FX13_valleyByte n w p1 p2 = some (rx, rw)) : CT G l yX13_valleyByte cX13_valleyByte 3 (some .int) rmX13_valleyByte 0 0 [.ref (adr G 15 0), .int p1, .int p2] w (some (.int rx)) rw := by
  refine CT.of miX13_valleyByte [(0, .ref (adr G 15 0)), (1, .int p1), (2, .int p2)] rfl (Nat.le_of_ble_eq_true rfl) ?_
  intro p e s m args below meth c hX hR hlk
  have hX : FX G RX13 cX13_valleyByte 3 p s m args c := hX
  unfold FX13_valleyByte at hF
  refine J_aload_n hX dX13_valleyByte_0 0 rfl (t := 1) rfl ?_
  refine J_aload_n hX dX13_valleyByte_1 0 rfl (t := 2) rfl ?_
  refine J_iload_n hX dX13_valleyByte_2 1 rfl (t := 3) rfl ?_
  obtain ⟨x2, h1, hF⟩ := bo1_e hF
  have k3 := (ctX13_isValley (G := G) (l := l) w p1 h1)
  refine J_callV hX [.int p1] [.ref (adr G 15 0)] [.int (bI x2), .ref (adr G 15 0)] k3 miX13_isValley mvX13_isValley cb10 kModel q_2213 ⟨rfl, rfl, Nat.le_of_ble_eq_true rfl, Nat.le_of_ble_eq_true rfl⟩ rfl rfl (Nat.le_of_ble_eq_true rfl) ⟨Nat.le_of_ble_eq_true rfl, Nat.le_of_ble_eq_true rfl⟩ dX13_valleyByte_3 (t := 6) rfl rfl ?_
  obtain ⟨x5, w6, h4, hF⟩ := bnd2_e hF
  have k7 := (ctX13_goes (G := G) (l := l) w x2 h4)
  refine J_callV hX [.int (bI x2)] [] [.int (bI x5)] k7 miX13_goes mvX13_goes cb10 kModel q_2078 ⟨rfl, rfl, Nat.le_of_ble_eq_true rfl, Nat.le_of_ble_eq_true rfl⟩ rfl rfl (Nat.le_of_ble_eq_true rfl) ⟨Nat.le_of_ble_eq_true rfl, Nat.le_of_ble_eq_true rfl⟩ dX13_valleyByte_6 (t := 9) rfl rfl ?_
  refine J_ifZ_eq (tgt := 28) hX dX13_valleyByte_9 (by decide) (t := 12) rfl (fun z => ?_) (fun z => ?_)
  · replace hF := ib_f hF z
    refine J_iconst (v := 0) hX dX13_valleyByte_28 (by decide) (t := 29) rfl ?_
    replace hF := Option.some.inj hF
    obtain ⟨hF, hF2⟩ := Prod.mk.inj hF
    subst hF
    subst hF2
    exact J_iret hX hR hlk dX13_valleyByte_29
  · replace hF := it_t hF z
    refine J_aload_n hX dX13_valleyByte_12 0 rfl (t := 13) rfl ?_
    refine J_iconst (v := 0) hX dX13_valleyByte_13 (by decide) (t := 14) rfl ?_
    refine J_iload_n hX dX13_valleyByte_14 1 rfl (t := 15) rfl ?_
    obtain ⟨x9, h8, hF⟩ := bnd_e hF
    have k10 := (ctX13_nme (l := l) (G := G) (w := w6) 0 p1 h8)
    refine J_callS hX [.int 0, .int p1] [.ref (adr G 15 0)] [.int x9, .ref (adr G 15 0)] k10 miX13_nme q_2152 q_2151 ⟨rfl, rfl, Nat.le_of_ble_eq_true rfl, Nat.le_of_ble_eq_true rfl⟩ rfl rfl (Nat.le_of_ble_eq_true rfl) ⟨Nat.le_of_ble_eq_true rfl, Nat.le_of_ble_eq_true rfl⟩ dX13_valleyByte_15 (t := 18) rfl rfl ?_
    obtain ⟨x12, h11, hF⟩ := bo1_e hF
    have k13 := (ctX13_nameAt (G := G) (l := l) w6 x9 h11)
    refine J_callV hX [.int x9] [] [.long x12] k13 miX13_nameAt mvX13_nameAt cb10 kModel q_2160 ⟨rfl, rfl, Nat.le_of_ble_eq_true rfl, Nat.le_of_ble_eq_true rfl⟩ rfl rfl (Nat.le_of_ble_eq_true rfl) ⟨Nat.le_of_ble_eq_true rfl, Nat.le_of_ble_eq_true rfl⟩ dX13_valleyByte_18 (t := 21) rfl rfl ?_
    refine J_iload_n hX dX13_valleyByte_21 2 rfl (t := 22) rfl ?_
    obtain ⟨x15, h14, hF⟩ := bo1_e hF
    have k16 := (ctX13_letterAt (l := l) (G := G) (w := w6) x12 p2 n h14)
    refine J_callS hX [.long x12, .int p2] [] [.int x15] k16 miX13_letterAt q_2524 q_2523 ⟨rfl, rfl, Nat.le_of_ble_eq_true rfl, Nat.le_of_ble_eq_true rfl⟩ rfl rfl (Nat.le_of_ble_eq_true rfl) ⟨Nat.le_of_ble_eq_true rfl, Nat.le_of_ble_eq_true rfl⟩ dX13_valleyByte_22 (t := 25) rfl rfl ?_
    refine J_goto (tgt := 29) hX dX13_valleyByte_25 (by decide) ?_
    replace hF := Option.some.inj hF
    obtain ⟨hF, hF2⟩ := Prod.mk.inj hF
    subst hF
    subst hF2
    exact J_iret hX hR hlk dX13_valleyByte_29
abbrev rmX13_findValley : Room := { frames := 3, cells := 0, slots := 0, locals := 65 }
theorem miX13_findValley : MI yX13_findValley cX13_findValley 1 (some .int) 0 := ⟨q_2533, q_152, by decide +kernel, by decide +kernel, by decide +kernel, by decide +kernel⟩
theorem mvX13_findValley : MV yX13_findValley := ⟨q_2531, q_2532⟩
def FX13_findValley (n : Nat) (w : Wd)  : Option (Int32 × Wd) :=
  bo1 (FX13_bufferName n w) fun x2 =>
  bo1 (FX13_found n w 0 x2) fun x5 =>
  bnd2 (FX13_told w x5) fun x8 w9 =>
  some (x8, w9)
set_option maxHeartbeats 4000000 in
set_option maxRecDepth 100000 in
theorem ctX13_findValley {G : GG} {l : Launch} (w : Wd)   (n : Nat) {rx : Int32} {rw : Wd} (hF : FX13_findValley n w  = some (rx, rw)) : CT G l yX13_findValley cX13_findValley 1 (some .int) rmX13_findValley 0 0 [.ref (adr G 15 0)] w (some (.int rx)) rw := by
  refine CT.of miX13_findValley [(0, .ref (adr G 15 0))] rfl (Nat.le_of_ble_eq_true rfl) ?_
  intro p e s m args below meth c hX hR hlk
  have hX : FX G RX13 cX13_findValley 1 p s m args c := hX
  unfold FX13_findValley at hF
  refine J_aload_n hX dX13_findValley_0 0 rfl (t := 1) rfl ?_
  refine J_aload_n hX dX13_findValley_1 0 rfl (t := 2) rfl ?_
  refine J_iconst (v := 0) hX dX13_findValley_2 (by decide) (t := 3) rfl ?_
  refine J_aload_n hX dX13_findValley_3 0 rfl (t := 4) rfl ?_
  obtain ⟨x2, h1, hF⟩ := bo1_e hF
  have k3 := (ctX13_bufferName (G := G) (l := l) w  n h1)
  refine J_callV hX [] [.int 0, .ref (adr G 15 0), .ref (adr G 15 0)] [.long x2, .int 0, .ref (adr G 15 0), .ref (adr G 15 0)] k3 miX13_bufferName mvX13_bufferName cb10 kModel q_2123 ⟨rfl, rfl, Nat.le_of_ble_eq_true rfl, Nat.le_of_ble_eq_true rfl⟩ rfl rfl (Nat.le_of_ble_eq_true rfl) ⟨Nat.le_of_ble_eq_true rfl, Nat.le_of_ble_eq_true rfl⟩ dX13_findValley_4 (t := 7) rfl rfl ?_
  obtain ⟨x5, h4, hF⟩ := bo1_e hF
  have k6 := (ctX13_found (G := G) (l := l) w 0 x2 n h4)
  refine J_callV hX [.int 0, .long x2] [.ref (adr G 15 0)] [.int x5, .ref (adr G 15 0)] k6 miX13_found mvX13_found cb10 kModel q_2147 ⟨rfl, rfl, Nat.le_of_ble_eq_true rfl, Nat.le_of_ble_eq_true rfl⟩ rfl rfl (Nat.le_of_ble_eq_true rfl) ⟨Nat.le_of_ble_eq_true rfl, Nat.le_of_ble_eq_true rfl⟩ dX13_findValley_7 (t := 10) rfl rfl ?_
  obtain ⟨x8, w9, h7, hF⟩ := bnd2_e hF
  have k10 := (ctX13_told (G := G) (l := l) w x5 h7)
  refine J_callV hX [.int x5] [] [.int x8] k10 miX13_told mvX13_told cb10 kModel q_2479 ⟨rfl, rfl, Nat.le_of_ble_eq_true rfl, Nat.le_of_ble_eq_true rfl⟩ rfl rfl (Nat.le_of_ble_eq_true rfl) ⟨Nat.le_of_ble_eq_true rfl, Nat.le_of_ble_eq_true rfl⟩ dX13_findValley_10 (t := 13) rfl rfl ?_
  replace hF := Option.some.inj hF
  obtain ⟨hF, hF2⟩ := Prod.mk.inj hF
  subst hF
  subst hF2
  exact J_iret hX hR hlk dX13_findValley_13
abbrev rmX13_inValley : Room := { frames := 2, cells := 0, slots := 0, locals := 46 }
theorem miX13_inValley : MI yX13_inValley cX13_inValley 3 (some .int) 2 := ⟨q_2541, q_152, by decide +kernel, by decide +kernel, by decide +kernel, by decide +kernel⟩
theorem mvX13_inValley : MV yX13_inValley := ⟨q_2540, q_101⟩
def FX13_inValley (w : Wd) (p1 : Int32) (p2 : Int32) : Option (Int32 × Wd) :=
  bo1 (FX13_isValley w p1) fun x2 =>
  bnd2 (FX13_goes w x2) fun x5 w6 =>
  if x5 = true then
    bo1 (FX13_ofValley w6 p1 p2) fun x9 =>
    some (x9, w6)
  else
    some (0, w6)
set_option maxHeartbeats 4000000 in
set_option maxRecDepth 100000 in
theorem ctX13_inValley {G : GG} {l : Launch} (w : Wd) (p1 : Int32) (p2 : Int32)  {rx : Int32} {rw : Wd} (hF : FX13_inValley w p1 p2 = some (rx, rw)) : CT G l yX13_inValley cX13_inValley 3 (some .int) rmX13_inValley 0 0 [.ref (adr G 15 0), .int p1, .int p2] w (some (.int rx)) rw := by
  refine CT.of miX13_inValley [(0, .ref (adr G 15 0)), (1, .int p1), (2, .int p2)] rfl (Nat.le_of_ble_eq_true rfl) ?_
  intro p e s m args below meth c hX hR hlk
  have hX : FX G RX13 cX13_inValley 3 p s m args c := hX
  unfold FX13_inValley at hF
  refine J_aload_n hX dX13_inValley_0 0 rfl (t := 1) rfl ?_
  refine J_aload_n hX dX13_inValley_1 0 rfl (t := 2) rfl ?_
  refine J_iload_n hX dX13_inValley_2 1 rfl (t := 3) rfl ?_
  obtain ⟨x2, h1, hF⟩ := bo1_e hF
  have k3 := (ctX13_isValley (G := G) (l := l) w p1 h1)
  refine J_callV hX [.int p1] [.ref (adr G 15 0)] [.int (bI x2), .ref (adr G 15 0)] k3 miX13_isValley mvX13_isValley cb10 kModel q_2213 ⟨rfl, rfl, Nat.le_of_ble_eq_true rfl, Nat.le_of_ble_eq_true rfl⟩ rfl rfl (Nat.le_of_ble_eq_true rfl) ⟨Nat.le_of_ble_eq_true rfl, Nat.le_of_ble_eq_true rfl⟩ dX13_inValley_3 (t := 6) rfl rfl ?_
  obtain ⟨x5, w6, h4, hF⟩ := bnd2_e hF
  have k7 := (ctX13_goes (G := G) (l := l) w x2 h4)
  refine J_callV hX [.int (bI x2)] [] [.int (bI x5)] k7 miX13_goes mvX13_goes cb10 kModel q_2078 ⟨rfl, rfl, Nat.le_of_ble_eq_true rfl, Nat.le_of_ble_eq_true rfl⟩ rfl rfl (Nat.le_of_ble_eq_true rfl) ⟨Nat.le_of_ble_eq_true rfl, Nat.le_of_ble_eq_true rfl⟩ dX13_inValley_6 (t := 9) rfl rfl ?_
  refine J_ifZ_eq (tgt := 21) hX dX13_inValley_9 (by decide) (t := 12) rfl (fun z => ?_) (fun z => ?_)
  · replace hF := ib_f hF z
    refine J_iconst (v := 0) hX dX13_inValley_21 (by decide) (t := 22) rfl ?_
    replace hF := Option.some.inj hF
    obtain ⟨hF, hF2⟩ := Prod.mk.inj hF
    subst hF
    subst hF2
    exact J_iret hX hR hlk dX13_inValley_22
  · replace hF := it_t hF z
    refine J_aload_n hX dX13_inValley_12 0 rfl (t := 13) rfl ?_
    refine J_iload_n hX dX13_inValley_13 1 rfl (t := 14) rfl ?_
    refine J_iload_n hX dX13_inValley_14 2 rfl (t := 15) rfl ?_
    obtain ⟨x9, h8, hF⟩ := bo1_e hF
    have k10 := (ctX13_ofValley (G := G) (l := l) w6 p1 p2 h8)
    refine J_callV hX [.int p1, .int p2] [] [.int x9] k10 miX13_ofValley mvX13_ofValley cb10 kModel q_2225 ⟨rfl, rfl, Nat.le_of_ble_eq_true rfl, Nat.le_of_ble_eq_true rfl⟩ rfl rfl (Nat.le_of_ble_eq_true rfl) ⟨Nat.le_of_ble_eq_true rfl, Nat.le_of_ble_eq_true rfl⟩ dX13_inValley_15 (t := 18) rfl rfl ?_
    refine J_goto (tgt := 22) hX dX13_inValley_18 (by decide) ?_
    replace hF := Option.some.inj hF
    obtain ⟨hF, hF2⟩ := Prod.mk.inj hF
    subst hF
    subst hF2
    exact J_iret hX hR hlk dX13_inValley_22
abbrev rmX13_width : Room := { frames := 3, cells := 0, slots := 0, locals := 68 }
theorem miX13_width : MI yX13_width cX13_width 2 (some .int) 1 := ⟨q_2537, q_152, by decide +kernel, by decide +kernel, by decide +kernel, by decide +kernel⟩
theorem mvX13_width : MV yX13_width := ⟨q_2535, q_2536⟩
def FX13_width (w : Wd) (p1 : Int32) : Option (Int32 × Wd) :=
  bo2 (FX13_inValley w p1 0) fun x2 w3 =>
  some (x2, w3)
set_option maxHeartbeats 4000000 in
set_option maxRecDepth 100000 in
theorem ctX13_width {G : GG} {l : Launch} (w : Wd) (p1 : Int32)  {rx : Int32} {rw : Wd} (hF : FX13_width w p1 = some (rx, rw)) : CT G l yX13_width cX13_width 2 (some .int) rmX13_width 0 0 [.ref (adr G 15 0), .int p1] w (some (.int rx)) rw := by
  refine CT.of miX13_width [(0, .ref (adr G 15 0)), (1, .int p1)] rfl (Nat.le_of_ble_eq_true rfl) ?_
  intro p e s m args below meth c hX hR hlk
  have hX : FX G RX13 cX13_width 2 p s m args c := hX
  unfold FX13_width at hF
  refine J_aload_n hX dX13_width_0 0 rfl (t := 1) rfl ?_
  refine J_iload_n hX dX13_width_1 1 rfl (t := 2) rfl ?_
  refine J_iconst (v := 0) hX dX13_width_2 (by decide) (t := 3) rfl ?_
  obtain ⟨x2, w3, h1, hF⟩ := bo2_e hF
  have k4 := (ctX13_inValley (G := G) (l := l) w p1 0 h1)
  refine J_callV hX [.int p1, .int 0] [] [.int x2] k4 miX13_inValley mvX13_inValley cb10 kModel q_2538 ⟨rfl, rfl, Nat.le_of_ble_eq_true rfl, Nat.le_of_ble_eq_true rfl⟩ rfl rfl (Nat.le_of_ble_eq_true rfl) ⟨Nat.le_of_ble_eq_true rfl, Nat.le_of_ble_eq_true rfl⟩ dX13_width_3 (t := 6) rfl rfl ?_
  replace hF := Option.some.inj hF
  obtain ⟨hF, hF2⟩ := Prod.mk.inj hF
  subst hF
  subst hF2
  exact J_iret hX hR hlk dX13_width_6
abbrev rmX13_walls : Room := { frames := 3, cells := 0, slots := 0, locals := 68 }
theorem miX13_walls : MI yX13_walls cX13_walls 2 (some .int) 1 := ⟨q_2545, q_152, by decide +kernel, by decide +kernel, by decide +kernel, by decide +kernel⟩
theorem mvX13_walls : MV yX13_walls := ⟨q_2543, q_2544⟩
def FX13_walls (w : Wd) (p1 : Int32) : Option (Int32 × Wd) :=
  bo2 (FX13_inValley w p1 1) fun x2 w3 =>
  some (x2, w3)
set_option maxHeartbeats 4000000 in
set_option maxRecDepth 100000 in
theorem ctX13_walls {G : GG} {l : Launch} (w : Wd) (p1 : Int32)  {rx : Int32} {rw : Wd} (hF : FX13_walls w p1 = some (rx, rw)) : CT G l yX13_walls cX13_walls 2 (some .int) rmX13_walls 0 0 [.ref (adr G 15 0), .int p1] w (some (.int rx)) rw := by
  refine CT.of miX13_walls [(0, .ref (adr G 15 0)), (1, .int p1)] rfl (Nat.le_of_ble_eq_true rfl) ?_
  intro p e s m args below meth c hX hR hlk
  have hX : FX G RX13 cX13_walls 2 p s m args c := hX
  unfold FX13_walls at hF
  refine J_aload_n hX dX13_walls_0 0 rfl (t := 1) rfl ?_
  refine J_iload_n hX dX13_walls_1 1 rfl (t := 2) rfl ?_
  refine J_iconst (v := 1) hX dX13_walls_2 (by decide) (t := 3) rfl ?_
  obtain ⟨x2, w3, h1, hF⟩ := bo2_e hF
  have k4 := (ctX13_inValley (G := G) (l := l) w p1 1 h1)
  refine J_callV hX [.int p1, .int 1] [] [.int x2] k4 miX13_inValley mvX13_inValley cb10 kModel q_2538 ⟨rfl, rfl, Nat.le_of_ble_eq_true rfl, Nat.le_of_ble_eq_true rfl⟩ rfl rfl (Nat.le_of_ble_eq_true rfl) ⟨Nat.le_of_ble_eq_true rfl, Nat.le_of_ble_eq_true rfl⟩ dX13_walls_3 (t := 6) rfl rfl ?_
  replace hF := Option.some.inj hF
  obtain ⟨hF, hF2⟩ := Prod.mk.inj hF
  subst hF
  subst hF2
  exact J_iret hX hR hlk dX13_walls_6
abbrev rmX13_price : Room := { frames := 3, cells := 0, slots := 0, locals := 68 }
theorem miX13_price : MI yX13_price cX13_price 2 (some .int) 1 := ⟨q_2549, q_152, by decide +kernel, by decide +kernel, by decide +kernel, by decide +kernel⟩
theorem mvX13_price : MV yX13_price := ⟨q_2547, q_2548⟩
def FX13_price (w : Wd) (p1 : Int32) : Option (Int32 × Wd) :=
  bo2 (FX13_inValley w p1 2) fun x2 w3 =>
  some (x2, w3)
set_option maxHeartbeats 4000000 in
set_option maxRecDepth 100000 in
theorem ctX13_price {G : GG} {l : Launch} (w : Wd) (p1 : Int32)  {rx : Int32} {rw : Wd} (hF : FX13_price w p1 = some (rx, rw)) : CT G l yX13_price cX13_price 2 (some .int) rmX13_price 0 0 [.ref (adr G 15 0), .int p1] w (some (.int rx)) rw := by
  refine CT.of miX13_price [(0, .ref (adr G 15 0)), (1, .int p1)] rfl (Nat.le_of_ble_eq_true rfl) ?_
  intro p e s m args below meth c hX hR hlk
  have hX : FX G RX13 cX13_price 2 p s m args c := hX
  unfold FX13_price at hF
  refine J_aload_n hX dX13_price_0 0 rfl (t := 1) rfl ?_
  refine J_iload_n hX dX13_price_1 1 rfl (t := 2) rfl ?_
  refine J_iconst (v := 2) hX dX13_price_2 (by decide) (t := 3) rfl ?_
  obtain ⟨x2, w3, h1, hF⟩ := bo2_e hF
  have k4 := (ctX13_inValley (G := G) (l := l) w p1 2 h1)
  refine J_callV hX [.int p1, .int 2] [] [.int x2] k4 miX13_inValley mvX13_inValley cb10 kModel q_2538 ⟨rfl, rfl, Nat.le_of_ble_eq_true rfl, Nat.le_of_ble_eq_true rfl⟩ rfl rfl (Nat.le_of_ble_eq_true rfl) ⟨Nat.le_of_ble_eq_true rfl, Nat.le_of_ble_eq_true rfl⟩ dX13_price_3 (t := 6) rfl rfl ?_
  replace hF := Option.some.inj hF
  obtain ⟨hF, hF2⟩ := Prod.mk.inj hF
  subst hF
  subst hF2
  exact J_iret hX hR hlk dX13_price_6
abbrev rmX13_rating : Room := { frames := 3, cells := 0, slots := 0, locals := 68 }
theorem miX13_rating : MI yX13_rating cX13_rating 2 (some .int) 1 := ⟨q_2553, q_152, by decide +kernel, by decide +kernel, by decide +kernel, by decide +kernel⟩
theorem mvX13_rating : MV yX13_rating := ⟨q_2551, q_2552⟩
def FX13_rating (w : Wd) (p1 : Int32) : Option (Int32 × Wd) :=
  bo2 (FX13_inValley w p1 4) fun x2 w3 =>
  some (x2, w3)
set_option maxHeartbeats 4000000 in
set_option maxRecDepth 100000 in
theorem ctX13_rating {G : GG} {l : Launch} (w : Wd) (p1 : Int32)  {rx : Int32} {rw : Wd} (hF : FX13_rating w p1 = some (rx, rw)) : CT G l yX13_rating cX13_rating 2 (some .int) rmX13_rating 0 0 [.ref (adr G 15 0), .int p1] w (some (.int rx)) rw := by
  refine CT.of miX13_rating [(0, .ref (adr G 15 0)), (1, .int p1)] rfl (Nat.le_of_ble_eq_true rfl) ?_
  intro p e s m args below meth c hX hR hlk
  have hX : FX G RX13 cX13_rating 2 p s m args c := hX
  unfold FX13_rating at hF
  refine J_aload_n hX dX13_rating_0 0 rfl (t := 1) rfl ?_
  refine J_iload_n hX dX13_rating_1 1 rfl (t := 2) rfl ?_
  refine J_iconst (v := 4) hX dX13_rating_2 (by decide) (t := 3) rfl ?_
  obtain ⟨x2, w3, h1, hF⟩ := bo2_e hF
  have k4 := (ctX13_inValley (G := G) (l := l) w p1 4 h1)
  refine J_callV hX [.int p1, .int 4] [] [.int x2] k4 miX13_inValley mvX13_inValley cb10 kModel q_2538 ⟨rfl, rfl, Nat.le_of_ble_eq_true rfl, Nat.le_of_ble_eq_true rfl⟩ rfl rfl (Nat.le_of_ble_eq_true rfl) ⟨Nat.le_of_ble_eq_true rfl, Nat.le_of_ble_eq_true rfl⟩ dX13_rating_3 (t := 6) rfl rfl ?_
  replace hF := Option.some.inj hF
  obtain ⟨hF, hF2⟩ := Prod.mk.inj hF
  subst hF
  subst hF2
  exact J_iret hX hR hlk dX13_rating_6
abbrev rmX13_echoesLost : Room := { frames := 3, cells := 0, slots := 0, locals := 68 }
theorem miX13_echoesLost : MI yX13_echoesLost cX13_echoesLost 2 (some .int) 1 := ⟨q_2557, q_152, by decide +kernel, by decide +kernel, by decide +kernel, by decide +kernel⟩
theorem mvX13_echoesLost : MV yX13_echoesLost := ⟨q_2555, q_2556⟩
def FX13_echoesLost (w : Wd) (p1 : Int32) : Option (Int32 × Wd) :=
  bo2 (FX13_inValley w p1 5) fun x2 w3 =>
  some (x2, w3)
set_option maxHeartbeats 4000000 in
set_option maxRecDepth 100000 in
theorem ctX13_echoesLost {G : GG} {l : Launch} (w : Wd) (p1 : Int32)  {rx : Int32} {rw : Wd} (hF : FX13_echoesLost w p1 = some (rx, rw)) : CT G l yX13_echoesLost cX13_echoesLost 2 (some .int) rmX13_echoesLost 0 0 [.ref (adr G 15 0), .int p1] w (some (.int rx)) rw := by
  refine CT.of miX13_echoesLost [(0, .ref (adr G 15 0)), (1, .int p1)] rfl (Nat.le_of_ble_eq_true rfl) ?_
  intro p e s m args below meth c hX hR hlk
  have hX : FX G RX13 cX13_echoesLost 2 p s m args c := hX
  unfold FX13_echoesLost at hF
  refine J_aload_n hX dX13_echoesLost_0 0 rfl (t := 1) rfl ?_
  refine J_iload_n hX dX13_echoesLost_1 1 rfl (t := 2) rfl ?_
  refine J_iconst (v := 5) hX dX13_echoesLost_2 (by decide) (t := 3) rfl ?_
  obtain ⟨x2, w3, h1, hF⟩ := bo2_e hF
  have k4 := (ctX13_inValley (G := G) (l := l) w p1 5 h1)
  refine J_callV hX [.int p1, .int 5] [] [.int x2] k4 miX13_inValley mvX13_inValley cb10 kModel q_2538 ⟨rfl, rfl, Nat.le_of_ble_eq_true rfl, Nat.le_of_ble_eq_true rfl⟩ rfl rfl (Nat.le_of_ble_eq_true rfl) ⟨Nat.le_of_ble_eq_true rfl, Nat.le_of_ble_eq_true rfl⟩ dX13_echoesLost_3 (t := 6) rfl rfl ?_
  replace hF := Option.some.inj hF
  obtain ⟨hF, hF2⟩ := Prod.mk.inj hF
  subst hF
  subst hF2
  exact J_iret hX hR hlk dX13_echoesLost_6
abbrev rmX13_earnedOf : Room := { frames := 3, cells := 0, slots := 0, locals := 63 }
theorem miX13_earnedOf : MI yX13_earnedOf cX13_earnedOf 4 (some .int) 1 := ⟨q_2565, q_152, by decide +kernel, by decide +kernel, by decide +kernel, by decide +kernel⟩
theorem mvX13_earnedOf : MV yX13_earnedOf := ⟨q_2564, q_102⟩
def FX13_earnedOf_L4 (n : Nat) : Nat → Wd → Int32 → Int32 → Int32 → Option (Int32)
  | 0 => fun _ _ _ _ => none
  | k + 1 => fun w l1 l2 l3 =>
    gd (inb 2 390) <|
    if (w 15).1 2 2 ≤ l3 then
      some l2
    else
      bo1 (FX13_of w l3 1) fun x3 =>
      if x3 = l1 then
        bo1 (FX13_receiptOf n w l3) fun x6 =>
        FX13_earnedOf_L4 n k w l1 (l2 + x6) (l3 + 1)
      else
        FX13_earnedOf_L4 n k w l1 (l2 + 0) (l3 + 1)
set_option maxHeartbeats 4000000 in
set_option maxRecDepth 100000 in
theorem LX13_earnedOf_4 {G : GG} {l : Launch} {p : Program} {e : Env} {s : State} {m : MethodId} {args : Array Value} {below : List Frame} {meth : Method} {c : Code} (hX : FX G RX13 cX13_earnedOf 4 p s m args c) (hR : meth.sig.returnType = (some .int)) (hlk : meth.locks = false) {rx : Int32} (n : Nat) : ∀ (k : Nat) (w : Wd) (l1 : Int32) (l2 : Int32) (l3 : Int32) , FX13_earnedOf_L4 n k w l1 l2 l3 = some rx → J G p l e rmX13_earnedOf s m args below meth c 4 0 0 (MQ below (QV G (some (.int rx)) w) args s 0 0 (gA G)) (GH G w) 4 [(0, .ref (adr G 15 0)), (1, .int l1), (2, .int l2), (3, .int l3)] [] := by
  intro k
  induction k with
  | zero => intro w l1 l2 l3  hF; cases hF
  | succ k ih =>
    intro w l1 l2 l3  hF
    simp only [FX13_earnedOf_L4] at hF
    refine J_iload_n hX dX13_earnedOf_4 3 rfl (t := 5) rfl ?_
    refine J_aload_n hX dX13_earnedOf_5 0 rfl (t := 6) rfl ?_
    refine J_get hX cb10 kModel 13 (by decide) q_1980 rfl dX13_earnedOf_6 (t := 9) rfl ?_
    refine J_iconst (v := 2) hX dX13_earnedOf_9 (by decide) (t := 10) rfl ?_
    obtain ⟨g1, hF⟩ := gd_e hF
    refine J_iald hX (kInts (j := 2) (n := 390) (by decide) (by decide) rfl) g1 rfl dX13_earnedOf_10 (t := 11) rfl ?_
    refine J_icmp_ge (tgt := 42) hX dX13_earnedOf_11 (by decide) (t := 14) rfl (fun z => ?_) (fun z => ?_)
    · replace hF := it_t hF z
      refine J_iload_n hX dX13_earnedOf_42 2 rfl (t := 43) rfl ?_
      replace hF := Option.some.inj hF
      subst hF
      exact J_iret hX hR hlk dX13_earnedOf_43
    · replace hF := it_f hF z
      refine J_iload_n hX dX13_earnedOf_14 2 rfl (t := 15) rfl ?_
      refine J_aload_n hX dX13_earnedOf_15 0 rfl (t := 16) rfl ?_
      refine J_iload_n hX dX13_earnedOf_16 3 rfl (t := 17) rfl ?_
      refine J_iconst (v := 1) hX dX13_earnedOf_17 (by decide) (t := 18) rfl ?_
      obtain ⟨x3, h2, hF⟩ := bo1_e hF
      have k4 := (ctX13_of (G := G) (l := l) w l3 1 h2)
      refine J_callV hX [.int l3, .int 1] [.int l2] [.int x3, .int l2] k4 miX13_of mvX13_of cb10 kModel q_2237 ⟨rfl, rfl, Nat.le_of_ble_eq_true rfl, Nat.le_of_ble_eq_true rfl⟩ rfl rfl (Nat.le_of_ble_eq_true rfl) ⟨Nat.le_of_ble_eq_true rfl, Nat.le_of_ble_eq_true rfl⟩ dX13_earnedOf_18 (t := 21) rfl rfl ?_
      refine J_iload_n hX dX13_earnedOf_21 1 rfl (t := 22) rfl ?_
      refine J_icmp_ne (tgt := 33) hX dX13_earnedOf_22 (by decide) (t := 25) rfl (fun z => ?_) (fun z => ?_)
      · replace hF := it_f hF z
        refine J_iconst (v := 0) hX dX13_earnedOf_33 (by decide) (t := 34) rfl ?_
        refine J_iadd hX dX13_earnedOf_34 (t := 35) rfl ?_
        refine J_istore_n (lc2 := [(2, .int (l2 + 0)), (0, .ref (adr G 15 0)), (1, .int l1), (3, .int l3)]) hX dX13_earnedOf_35 rfl (Nat.le_of_ble_eq_true rfl) rfl (t := 36) rfl ?_
        refine J_iinc (v := l3 + 1) (lc2 := [(3, .int (l3 + 1)), (2, .int (l2 + 0)), (0, .ref (adr G 15 0)), (1, .int l1)]) hX dX13_earnedOf_36 3 rfl rfl (Nat.le_of_ble_eq_true rfl) rfl (t := 39) rfl ?_
        refine J_goto (tgt := 4) hX dX13_earnedOf_39 (by decide) ?_
        refine J_sub (lc2 := [(0, .ref (adr G 15 0)), (1, .int l1), (2, .int (l2 + 0)), (3, .int (l3 + 1))]) [2, 3, 1, 0] rfl ?_
        exact ih w l1 (l2 + 0) (l3 + 1) hF
      · replace hF := it_t hF z
        refine J_aload_n hX dX13_earnedOf_25 0 rfl (t := 26) rfl ?_
        refine J_iload_n hX dX13_earnedOf_26 3 rfl (t := 27) rfl ?_
        obtain ⟨x6, h5, hF⟩ := bo1_e hF
        have k7 := (ctX13_receiptOf (G := G) (l := l) w l3 n h5)
        refine J_callV hX [.int l3] [.int l2] [.int x6, .int l2] k7 miX13_receiptOf mvX13_receiptOf cb10 kModel q_2566 ⟨rfl, rfl, Nat.le_of_ble_eq_true rfl, Nat.le_of_ble_eq_true rfl⟩ rfl rfl (Nat.le_of_ble_eq_true rfl) ⟨Nat.le_of_ble_eq_true rfl, Nat.le_of_ble_eq_true rfl⟩ dX13_earnedOf_27 (t := 30) rfl rfl ?_
        refine J_goto (tgt := 34) hX dX13_earnedOf_30 (by decide) ?_
        refine J_iadd hX dX13_earnedOf_34 (t := 35) rfl ?_
        refine J_istore_n (lc2 := [(2, .int (l2 + x6)), (0, .ref (adr G 15 0)), (1, .int l1), (3, .int l3)]) hX dX13_earnedOf_35 rfl (Nat.le_of_ble_eq_true rfl) rfl (t := 36) rfl ?_
        refine J_iinc (v := l3 + 1) (lc2 := [(3, .int (l3 + 1)), (2, .int (l2 + x6)), (0, .ref (adr G 15 0)), (1, .int l1)]) hX dX13_earnedOf_36 3 rfl rfl (Nat.le_of_ble_eq_true rfl) rfl (t := 39) rfl ?_
        refine J_goto (tgt := 4) hX dX13_earnedOf_39 (by decide) ?_
        refine J_sub (lc2 := [(0, .ref (adr G 15 0)), (1, .int l1), (2, .int (l2 + x6)), (3, .int (l3 + 1))]) [2, 3, 1, 0] rfl ?_
        exact ih w l1 (l2 + x6) (l3 + 1) hF
def FX13_earnedOf (n : Nat) (w : Wd) (p1 : Int32) : Option (Int32) :=
  FX13_earnedOf_L4 n n w p1 0 0
set_option maxHeartbeats 4000000 in
set_option maxRecDepth 100000 in
theorem ctX13_earnedOf {G : GG} {l : Launch} (w : Wd) (p1 : Int32)  (n : Nat) {rx : Int32} (hF : FX13_earnedOf n w p1 = some rx) : CT G l yX13_earnedOf cX13_earnedOf 4 (some .int) rmX13_earnedOf 0 0 [.ref (adr G 15 0), .int p1] w (some (.int rx)) w := by
  refine CT.of miX13_earnedOf [(0, .ref (adr G 15 0)), (1, .int p1)] rfl (Nat.le_of_ble_eq_true rfl) ?_
  intro p e s m args below meth c hX hR hlk
  have hX : FX G RX13 cX13_earnedOf 4 p s m args c := hX
  unfold FX13_earnedOf at hF
  refine J_iconst (v := 0) hX dX13_earnedOf_0 (by decide) (t := 1) rfl ?_
  refine J_istore_n (lc2 := [(2, .int 0), (0, .ref (adr G 15 0)), (1, .int p1)]) hX dX13_earnedOf_1 rfl (Nat.le_of_ble_eq_true rfl) rfl (t := 2) rfl ?_
  refine J_iconst (v := 0) hX dX13_earnedOf_2 (by decide) (t := 3) rfl ?_
  refine J_istore_n (lc2 := [(3, .int 0), (2, .int 0), (0, .ref (adr G 15 0)), (1, .int p1)]) hX dX13_earnedOf_3 rfl (Nat.le_of_ble_eq_true rfl) rfl (t := 4) rfl ?_
  refine J_sub (lc2 := [(0, .ref (adr G 15 0)), (1, .int p1), (2, .int 0), (3, .int 0)]) [2, 3, 1, 0] rfl ?_
  exact LX13_earnedOf_4 hX hR hlk n n w p1 0 0 hF
abbrev rmX13_earnedIn : Room := { frames := 4, cells := 0, slots := 0, locals := 86 }
theorem miX13_earnedIn : MI yX13_earnedIn cX13_earnedIn 2 (some .int) 1 := ⟨q_2561, q_152, by decide +kernel, by decide +kernel, by decide +kernel, by decide +kernel⟩
theorem mvX13_earnedIn : MV yX13_earnedIn := ⟨q_2559, q_2560⟩
def FX13_earnedIn (n : Nat) (w : Wd) (p1 : Int32) : Option (Int32 × Wd) :=
  bo1 (FX13_isValley w p1) fun x2 =>
  bnd2 (FX13_goes w x2) fun x5 w6 =>
  if x5 = true then
    bo1 (FX13_earnedOf n w6 p1) fun x9 =>
    some (x9, w6)
  else
    some (0, w6)
set_option maxHeartbeats 4000000 in
set_option maxRecDepth 100000 in
theorem ctX13_earnedIn {G : GG} {l : Launch} (w : Wd) (p1 : Int32)  (n : Nat) {rx : Int32} {rw : Wd} (hF : FX13_earnedIn n w p1 = some (rx, rw)) : CT G l yX13_earnedIn cX13_earnedIn 2 (some .int) rmX13_earnedIn 0 0 [.ref (adr G 15 0), .int p1] w (some (.int rx)) rw := by
  refine CT.of miX13_earnedIn [(0, .ref (adr G 15 0)), (1, .int p1)] rfl (Nat.le_of_ble_eq_true rfl) ?_
  intro p e s m args below meth c hX hR hlk
  have hX : FX G RX13 cX13_earnedIn 2 p s m args c := hX
  unfold FX13_earnedIn at hF
  refine J_aload_n hX dX13_earnedIn_0 0 rfl (t := 1) rfl ?_
  refine J_aload_n hX dX13_earnedIn_1 0 rfl (t := 2) rfl ?_
  refine J_iload_n hX dX13_earnedIn_2 1 rfl (t := 3) rfl ?_
  obtain ⟨x2, h1, hF⟩ := bo1_e hF
  have k3 := (ctX13_isValley (G := G) (l := l) w p1 h1)
  refine J_callV hX [.int p1] [.ref (adr G 15 0)] [.int (bI x2), .ref (adr G 15 0)] k3 miX13_isValley mvX13_isValley cb10 kModel q_2213 ⟨rfl, rfl, Nat.le_of_ble_eq_true rfl, Nat.le_of_ble_eq_true rfl⟩ rfl rfl (Nat.le_of_ble_eq_true rfl) ⟨Nat.le_of_ble_eq_true rfl, Nat.le_of_ble_eq_true rfl⟩ dX13_earnedIn_3 (t := 6) rfl rfl ?_
  obtain ⟨x5, w6, h4, hF⟩ := bnd2_e hF
  have k7 := (ctX13_goes (G := G) (l := l) w x2 h4)
  refine J_callV hX [.int (bI x2)] [] [.int (bI x5)] k7 miX13_goes mvX13_goes cb10 kModel q_2078 ⟨rfl, rfl, Nat.le_of_ble_eq_true rfl, Nat.le_of_ble_eq_true rfl⟩ rfl rfl (Nat.le_of_ble_eq_true rfl) ⟨Nat.le_of_ble_eq_true rfl, Nat.le_of_ble_eq_true rfl⟩ dX13_earnedIn_6 (t := 9) rfl rfl ?_
  refine J_ifZ_eq (tgt := 20) hX dX13_earnedIn_9 (by decide) (t := 12) rfl (fun z => ?_) (fun z => ?_)
  · replace hF := ib_f hF z
    refine J_iconst (v := 0) hX dX13_earnedIn_20 (by decide) (t := 21) rfl ?_
    replace hF := Option.some.inj hF
    obtain ⟨hF, hF2⟩ := Prod.mk.inj hF
    subst hF
    subst hF2
    exact J_iret hX hR hlk dX13_earnedIn_21
  · replace hF := it_t hF z
    refine J_aload_n hX dX13_earnedIn_12 0 rfl (t := 13) rfl ?_
    refine J_iload_n hX dX13_earnedIn_13 1 rfl (t := 14) rfl ?_
    obtain ⟨x9, h8, hF⟩ := bo1_e hF
    have k10 := (ctX13_earnedOf (G := G) (l := l) w6 p1 n h8)
    refine J_callV hX [.int p1] [] [.int x9] k10 miX13_earnedOf mvX13_earnedOf cb10 kModel q_2562 ⟨rfl, rfl, Nat.le_of_ble_eq_true rfl, Nat.le_of_ble_eq_true rfl⟩ rfl rfl (Nat.le_of_ble_eq_true rfl) ⟨Nat.le_of_ble_eq_true rfl, Nat.le_of_ble_eq_true rfl⟩ dX13_earnedIn_14 (t := 17) rfl rfl ?_
    refine J_goto (tgt := 21) hX dX13_earnedIn_17 (by decide) ?_
    replace hF := Option.some.inj hF
    obtain ⟨hF, hF2⟩ := Prod.mk.inj hF
    subst hF
    subst hF2
    exact J_iret hX hR hlk dX13_earnedIn_21
abbrev rmX13_isBetter : Room := { frames := 2, cells := 0, slots := 0, locals := 42 }
theorem miX13_isBetter : MI yX13_isBetter cX13_isBetter 3 (some .boolean) 2 := ⟨q_2580, q_152, by decide +kernel, by decide +kernel, by decide +kernel, by decide +kernel⟩
theorem mvX13_isBetter : MV yX13_isBetter := ⟨q_2579, q_104⟩
def FX13_isBetter (w : Wd) (p1 : Int32) (p2 : Int32) : Option (Bool) :=
  bo1 (FX13_ofValley w p1 4) fun x2 =>
  bo1 (FX13_ofValley w p2 4) fun x5 =>
  if x2 = x5 then
    bo1 (FX13_ofValley w p1 2) fun x8 =>
    bo1 (FX13_ofValley w p2 2) fun x11 =>
    if x11 ≤ x8 then
      some false
    else
      some true
  else
    bo1 (FX13_ofValley w p1 4) fun x14 =>
    bo1 (FX13_ofValley w p2 4) fun x17 =>
    if x14 ≤ x17 then
      some false
    else
      some true
set_option maxHeartbeats 4000000 in
set_option maxRecDepth 100000 in
theorem ctX13_isBetter {G : GG} {l : Launch} (w : Wd) (p1 : Int32) (p2 : Int32)  {rx : Bool} (hF : FX13_isBetter w p1 p2 = some rx) : CT G l yX13_isBetter cX13_isBetter 3 (some .boolean) rmX13_isBetter 0 0 [.ref (adr G 15 0), .int p1, .int p2] w (some (.int (bI rx))) w := by
  refine CT.of miX13_isBetter [(0, .ref (adr G 15 0)), (1, .int p1), (2, .int p2)] rfl (Nat.le_of_ble_eq_true rfl) ?_
  intro p e s m args below meth c hX hR hlk
  have hX : FX G RX13 cX13_isBetter 3 p s m args c := hX
  unfold FX13_isBetter at hF
  refine J_aload_n hX dX13_isBetter_0 0 rfl (t := 1) rfl ?_
  refine J_iload_n hX dX13_isBetter_1 1 rfl (t := 2) rfl ?_
  refine J_iconst (v := 4) hX dX13_isBetter_2 (by decide) (t := 3) rfl ?_
  obtain ⟨x2, h1, hF⟩ := bo1_e hF
  have k3 := (ctX13_ofValley (G := G) (l := l) w p1 4 h1)
  refine J_callV hX [.int p1, .int 4] [] [.int x2] k3 miX13_ofValley mvX13_ofValley cb10 kModel q_2225 ⟨rfl, rfl, Nat.le_of_ble_eq_true rfl, Nat.le_of_ble_eq_true rfl⟩ rfl rfl (Nat.le_of_ble_eq_true rfl) ⟨Nat.le_of_ble_eq_true rfl, Nat.le_of_ble_eq_true rfl⟩ dX13_isBetter_3 (t := 6) rfl rfl ?_
  refine J_aload_n hX dX13_isBetter_6 0 rfl (t := 7) rfl ?_
  refine J_iload_n hX dX13_isBetter_7 2 rfl (t := 8) rfl ?_
  refine J_iconst (v := 4) hX dX13_isBetter_8 (by decide) (t := 9) rfl ?_
  obtain ⟨x5, h4, hF⟩ := bo1_e hF
  have k6 := (ctX13_ofValley (G := G) (l := l) w p2 4 h4)
  refine J_callV hX [.int p2, .int 4] [.int x2] [.int x5, .int x2] k6 miX13_ofValley mvX13_ofValley cb10 kModel q_2225 ⟨rfl, rfl, Nat.le_of_ble_eq_true rfl, Nat.le_of_ble_eq_true rfl⟩ rfl rfl (Nat.le_of_ble_eq_true rfl) ⟨Nat.le_of_ble_eq_true rfl, Nat.le_of_ble_eq_true rfl⟩ dX13_isBetter_9 (t := 12) rfl rfl ?_
  refine J_icmp_eq (tgt := 36) hX dX13_isBetter_12 (by decide) (t := 15) rfl (fun z => ?_) (fun z => ?_)
  · replace hF := it_t hF z
    refine J_aload_n hX dX13_isBetter_36 0 rfl (t := 37) rfl ?_
    refine J_iload_n hX dX13_isBetter_37 1 rfl (t := 38) rfl ?_
    refine J_iconst (v := 2) hX dX13_isBetter_38 (by decide) (t := 39) rfl ?_
    obtain ⟨x8, h7, hF⟩ := bo1_e hF
    have k9 := (ctX13_ofValley (G := G) (l := l) w p1 2 h7)
    refine J_callV hX [.int p1, .int 2] [] [.int x8] k9 miX13_ofValley mvX13_ofValley cb10 kModel q_2225 ⟨rfl, rfl, Nat.le_of_ble_eq_true rfl, Nat.le_of_ble_eq_true rfl⟩ rfl rfl (Nat.le_of_ble_eq_true rfl) ⟨Nat.le_of_ble_eq_true rfl, Nat.le_of_ble_eq_true rfl⟩ dX13_isBetter_39 (t := 42) rfl rfl ?_
    refine J_aload_n hX dX13_isBetter_42 0 rfl (t := 43) rfl ?_
    refine J_iload_n hX dX13_isBetter_43 2 rfl (t := 44) rfl ?_
    refine J_iconst (v := 2) hX dX13_isBetter_44 (by decide) (t := 45) rfl ?_
    obtain ⟨x11, h10, hF⟩ := bo1_e hF
    have k12 := (ctX13_ofValley (G := G) (l := l) w p2 2 h10)
    refine J_callV hX [.int p2, .int 2] [.int x8] [.int x11, .int x8] k12 miX13_ofValley mvX13_ofValley cb10 kModel q_2225 ⟨rfl, rfl, Nat.le_of_ble_eq_true rfl, Nat.le_of_ble_eq_true rfl⟩ rfl rfl (Nat.le_of_ble_eq_true rfl) ⟨Nat.le_of_ble_eq_true rfl, Nat.le_of_ble_eq_true rfl⟩ dX13_isBetter_45 (t := 48) rfl rfl ?_
    refine J_icmp_ge (tgt := 55) hX dX13_isBetter_48 (by decide) (t := 51) rfl (fun z => ?_) (fun z => ?_)
    · replace hF := it_t hF z
      refine J_iconst (v := 0) hX dX13_isBetter_55 (by decide) (t := 56) rfl ?_
      replace hF := Option.some.inj hF
      subst hF
      exact J_zret (b := false) hX hR hlk dX13_isBetter_56
    · replace hF := it_f hF z
      refine J_iconst (v := 1) hX dX13_isBetter_51 (by decide) (t := 52) rfl ?_
      refine J_goto (tgt := 56) hX dX13_isBetter_52 (by decide) ?_
      replace hF := Option.some.inj hF
      subst hF
      exact J_zret (b := true) hX hR hlk dX13_isBetter_56
  · replace hF := it_f hF z
    refine J_aload_n hX dX13_isBetter_15 0 rfl (t := 16) rfl ?_
    refine J_iload_n hX dX13_isBetter_16 1 rfl (t := 17) rfl ?_
    refine J_iconst (v := 4) hX dX13_isBetter_17 (by decide) (t := 18) rfl ?_
    obtain ⟨x14, h13, hF⟩ := bo1_e hF
    have k15 := (ctX13_ofValley (G := G) (l := l) w p1 4 h13)
    refine J_callV hX [.int p1, .int 4] [] [.int x14] k15 miX13_ofValley mvX13_ofValley cb10 kModel q_2225 ⟨rfl, rfl, Nat.le_of_ble_eq_true rfl, Nat.le_of_ble_eq_true rfl⟩ rfl rfl (Nat.le_of_ble_eq_true rfl) ⟨Nat.le_of_ble_eq_true rfl, Nat.le_of_ble_eq_true rfl⟩ dX13_isBetter_18 (t := 21) rfl rfl ?_
    refine J_aload_n hX dX13_isBetter_21 0 rfl (t := 22) rfl ?_
    refine J_iload_n hX dX13_isBetter_22 2 rfl (t := 23) rfl ?_
    refine J_iconst (v := 4) hX dX13_isBetter_23 (by decide) (t := 24) rfl ?_
    obtain ⟨x17, h16, hF⟩ := bo1_e hF
    have k18 := (ctX13_ofValley (G := G) (l := l) w p2 4 h16)
    refine J_callV hX [.int p2, .int 4] [.int x14] [.int x17, .int x14] k18 miX13_ofValley mvX13_ofValley cb10 kModel q_2225 ⟨rfl, rfl, Nat.le_of_ble_eq_true rfl, Nat.le_of_ble_eq_true rfl⟩ rfl rfl (Nat.le_of_ble_eq_true rfl) ⟨Nat.le_of_ble_eq_true rfl, Nat.le_of_ble_eq_true rfl⟩ dX13_isBetter_24 (t := 27) rfl rfl ?_
    refine J_icmp_le (tgt := 34) hX dX13_isBetter_27 (by decide) (t := 30) rfl (fun z => ?_) (fun z => ?_)
    · replace hF := it_t hF z
      refine J_iconst (v := 0) hX dX13_isBetter_34 (by decide) (t := 35) rfl ?_
      replace hF := Option.some.inj hF
      subst hF
      exact J_zret (b := false) hX hR hlk dX13_isBetter_35
    · replace hF := it_f hF z
      refine J_iconst (v := 1) hX dX13_isBetter_30 (by decide) (t := 31) rfl ?_
      refine J_goto (tgt := 35) hX dX13_isBetter_31 (by decide) ?_
      replace hF := Option.some.inj hF
      subst hF
      exact J_zret (b := true) hX hR hlk dX13_isBetter_35
abbrev rmX13_bestValley : Room := { frames := 3, cells := 0, slots := 0, locals := 64 }
theorem miX13_bestValley : MI yX13_bestValley cX13_bestValley 3 (some .int) 0 := ⟨q_2576, q_152, by decide +kernel, by decide +kernel, by decide +kernel, by decide +kernel⟩
theorem mvX13_bestValley : MV yX13_bestValley := ⟨q_2574, q_2575⟩
def FX13_bestValley_L4 (n : Nat) : Nat → Wd → Int32 → Int32 → Option (Int32 × Wd)
  | 0 => fun _ _ _ => none
  | k + 1 => fun w l1 l2 =>
    gd (inb 0 390) <|
    if (w 15).1 2 0 ≤ l2 then
      bnd2 (FX13_told w l1) fun x3 w4 =>
      some (x3, w4)
    else
      if l1 = (-1) then
        FX13_bestValley_L4 n k w l2 (l2 + 1)
      else
        bo1 (FX13_isBetter w l2 l1) fun x7 =>
        if x7 = true then
          FX13_bestValley_L4 n k w l2 (l2 + 1)
        else
          FX13_bestValley_L4 n k w l1 (l2 + 1)
set_option maxHeartbeats 4000000 in
set_option maxRecDepth 100000 in
theorem LX13_bestValley_4 {G : GG} {l : Launch} {p : Program} {e : Env} {s : State} {m : MethodId} {args : Array Value} {below : List Frame} {meth : Method} {c : Code} (hX : FX G RX13 cX13_bestValley 3 p s m args c) (hR : meth.sig.returnType = (some .int)) (hlk : meth.locks = false) {rx : Int32} {rw : Wd} (n : Nat) : ∀ (k : Nat) (w : Wd) (l1 : Int32) (l2 : Int32) , FX13_bestValley_L4 n k w l1 l2 = some (rx, rw) → J G p l e rmX13_bestValley s m args below meth c 3 0 0 (MQ below (QV G (some (.int rx)) rw) args s 0 0 (gA G)) (GH G w) 4 [(0, .ref (adr G 15 0)), (1, .int l1), (2, .int l2)] [] := by
  intro k
  induction k with
  | zero => intro w l1 l2  hF; cases hF
  | succ k ih =>
    intro w l1 l2  hF
    simp only [FX13_bestValley_L4] at hF
    refine J_iload_n hX dX13_bestValley_4 2 rfl (t := 5) rfl ?_
    refine J_aload_n hX dX13_bestValley_5 0 rfl (t := 6) rfl ?_
    refine J_get hX cb10 kModel 13 (by decide) q_1980 rfl dX13_bestValley_6 (t := 9) rfl ?_
    refine J_iconst (v := 0) hX dX13_bestValley_9 (by decide) (t := 10) rfl ?_
    obtain ⟨g1, hF⟩ := gd_e hF
    refine J_iald hX (kInts (j := 2) (n := 390) (by decide) (by decide) rfl) g1 rfl dX13_bestValley_10 (t := 11) rfl ?_
    refine J_icmp_ge (tgt := 36) hX dX13_bestValley_11 (by decide) (t := 14) rfl (fun z => ?_) (fun z => ?_)
    · replace hF := it_t hF z
      refine J_aload_n hX dX13_bestValley_36 0 rfl (t := 37) rfl ?_
      refine J_iload_n hX dX13_bestValley_37 1 rfl (t := 38) rfl ?_
      obtain ⟨x3, w4, h2, hF⟩ := bnd2_e hF
      have k5 := (ctX13_told (G := G) (l := l) w l1 h2)
      refine J_callV hX [.int l1] [] [.int x3] k5 miX13_told mvX13_told cb10 kModel q_2479 ⟨rfl, rfl, Nat.le_of_ble_eq_true rfl, Nat.le_of_ble_eq_true rfl⟩ rfl rfl (Nat.le_of_ble_eq_true rfl) ⟨Nat.le_of_ble_eq_true rfl, Nat.le_of_ble_eq_true rfl⟩ dX13_bestValley_38 (t := 41) rfl rfl ?_
      replace hF := Option.some.inj hF
      obtain ⟨hF, hF2⟩ := Prod.mk.inj hF
      subst hF
      subst hF2
      exact J_iret hX hR hlk dX13_bestValley_41
    · replace hF := it_f hF z
      refine J_iload_n hX dX13_bestValley_14 1 rfl (t := 15) rfl ?_
      refine J_iconst (v := (-1)) hX dX13_bestValley_15 (by decide) (t := 16) rfl ?_
      refine J_icmp_eq (tgt := 28) hX dX13_bestValley_16 (by decide) (t := 19) rfl (fun z => ?_) (fun z => ?_)
      · replace hF := it_t hF z
        refine J_iload_n hX dX13_bestValley_28 2 rfl (t := 29) rfl ?_
        refine J_istore_n (lc2 := [(1, .int l2), (0, .ref (adr G 15 0)), (2, .int l2)]) hX dX13_bestValley_29 rfl (Nat.le_of_ble_eq_true rfl) rfl (t := 30) rfl ?_
        refine J_iinc (v := l2 + 1) (lc2 := [(2, .int (l2 + 1)), (1, .int l2), (0, .ref (adr G 15 0))]) hX dX13_bestValley_30 2 rfl rfl (Nat.le_of_ble_eq_true rfl) rfl (t := 33) rfl ?_
        refine J_goto (tgt := 4) hX dX13_bestValley_33 (by decide) ?_
        refine J_sub (lc2 := [(0, .ref (adr G 15 0)), (1, .int l2), (2, .int (l2 + 1))]) [2, 1, 0] rfl ?_
        exact ih w l2 (l2 + 1) hF
      · replace hF := it_f hF z
        refine J_aload_n hX dX13_bestValley_19 0 rfl (t := 20) rfl ?_
        refine J_iload_n hX dX13_bestValley_20 2 rfl (t := 21) rfl ?_
        refine J_iload_n hX dX13_bestValley_21 1 rfl (t := 22) rfl ?_
        obtain ⟨x7, h6, hF⟩ := bo1_e hF
        have k8 := (ctX13_isBetter (G := G) (l := l) w l2 l1 h6)
        refine J_callV hX [.int l2, .int l1] [] [.int (bI x7)] k8 miX13_isBetter mvX13_isBetter cb10 kModel q_2577 ⟨rfl, rfl, Nat.le_of_ble_eq_true rfl, Nat.le_of_ble_eq_true rfl⟩ rfl rfl (Nat.le_of_ble_eq_true rfl) ⟨Nat.le_of_ble_eq_true rfl, Nat.le_of_ble_eq_true rfl⟩ dX13_bestValley_22 (t := 25) rfl rfl ?_
        refine J_ifZ_eq (tgt := 30) hX dX13_bestValley_25 (by decide) (t := 28) rfl (fun z => ?_) (fun z => ?_)
        · replace hF := ib_f hF z
          refine J_iinc (v := l2 + 1) (lc2 := [(2, .int (l2 + 1)), (0, .ref (adr G 15 0)), (1, .int l1)]) hX dX13_bestValley_30 2 rfl rfl (Nat.le_of_ble_eq_true rfl) rfl (t := 33) rfl ?_
          refine J_goto (tgt := 4) hX dX13_bestValley_33 (by decide) ?_
          refine J_sub (lc2 := [(0, .ref (adr G 15 0)), (1, .int l1), (2, .int (l2 + 1))]) [1, 2, 0] rfl ?_
          exact ih w l1 (l2 + 1) hF
        · replace hF := it_t hF z
          refine J_iload_n hX dX13_bestValley_28 2 rfl (t := 29) rfl ?_
          refine J_istore_n (lc2 := [(1, .int l2), (0, .ref (adr G 15 0)), (2, .int l2)]) hX dX13_bestValley_29 rfl (Nat.le_of_ble_eq_true rfl) rfl (t := 30) rfl ?_
          refine J_iinc (v := l2 + 1) (lc2 := [(2, .int (l2 + 1)), (1, .int l2), (0, .ref (adr G 15 0))]) hX dX13_bestValley_30 2 rfl rfl (Nat.le_of_ble_eq_true rfl) rfl (t := 33) rfl ?_
          refine J_goto (tgt := 4) hX dX13_bestValley_33 (by decide) ?_
          refine J_sub (lc2 := [(0, .ref (adr G 15 0)), (1, .int l2), (2, .int (l2 + 1))]) [2, 1, 0] rfl ?_
          exact ih w l2 (l2 + 1) hF
def FX13_bestValley (n : Nat) (w : Wd)  : Option (Int32 × Wd) :=
  FX13_bestValley_L4 n n w (-1) 0
set_option maxHeartbeats 4000000 in
set_option maxRecDepth 100000 in
theorem ctX13_bestValley {G : GG} {l : Launch} (w : Wd)   (n : Nat) {rx : Int32} {rw : Wd} (hF : FX13_bestValley n w  = some (rx, rw)) : CT G l yX13_bestValley cX13_bestValley 3 (some .int) rmX13_bestValley 0 0 [.ref (adr G 15 0)] w (some (.int rx)) rw := by
  refine CT.of miX13_bestValley [(0, .ref (adr G 15 0))] rfl (Nat.le_of_ble_eq_true rfl) ?_
  intro p e s m args below meth c hX hR hlk
  have hX : FX G RX13 cX13_bestValley 3 p s m args c := hX
  unfold FX13_bestValley at hF
  refine J_iconst (v := (-1)) hX dX13_bestValley_0 (by decide) (t := 1) rfl ?_
  refine J_istore_n (lc2 := [(1, .int (-1)), (0, .ref (adr G 15 0))]) hX dX13_bestValley_1 rfl (Nat.le_of_ble_eq_true rfl) rfl (t := 2) rfl ?_
  refine J_iconst (v := 0) hX dX13_bestValley_2 (by decide) (t := 3) rfl ?_
  refine J_istore_n (lc2 := [(2, .int 0), (1, .int (-1)), (0, .ref (adr G 15 0))]) hX dX13_bestValley_3 rfl (Nat.le_of_ble_eq_true rfl) rfl (t := 4) rfl ?_
  refine J_sub (lc2 := [(0, .ref (adr G 15 0)), (1, .int (-1)), (2, .int 0)]) [2, 1, 0] rfl ?_
  exact LX13_bestValley_4 hX hR hlk n n w (-1) 0 hF
abbrev rmX13_widened : Room := { frames := 2, cells := 0, slots := 0, locals := 41 }
theorem miX13_widened : MI yX13_widened cX13_widened 4 (some .long) 1 := ⟨q_2592, q_152, by decide +kernel, by decide +kernel, by decide +kernel, by decide +kernel⟩
theorem mvX13_widened : MV yX13_widened := ⟨q_2591, q_106⟩
def FX13_widened (n : Nat) (w : Wd) (p1 : Int32) : Option (Int64) :=
  bnd (FX13_nme 0 p1) fun x2 =>
  bo1 (FX13_nameAt w x2) fun x5 =>
  bo1 (FX13_lengthOf n x5) fun x8 =>
  some (x5 <<< ((5 * (8 - x8)).toInt64 &&& 63))
set_option maxHeartbeats 4000000 in
set_option maxRecDepth 100000 in
theorem ctX13_widened {G : GG} {l : Launch} (w : Wd) (p1 : Int32)  (n : Nat) {rx : Int64} (hF : FX13_widened n w p1 = some rx) : CT G l yX13_widened cX13_widened 4 (some .long) rmX13_widened 0 0 [.ref (adr G 15 0), .int p1] w (some (.long rx)) w := by
  refine CT.of miX13_widened [(0, .ref (adr G 15 0)), (1, .int p1)] rfl (Nat.le_of_ble_eq_true rfl) ?_
  intro p e s m args below meth c hX hR hlk
  have hX : FX G RX13 cX13_widened 4 p s m args c := hX
  unfold FX13_widened at hF
  refine J_aload_n hX dX13_widened_0 0 rfl (t := 1) rfl ?_
  refine J_iconst (v := 0) hX dX13_widened_1 (by decide) (t := 2) rfl ?_
  refine J_iload_n hX dX13_widened_2 1 rfl (t := 3) rfl ?_
  obtain ⟨x2, h1, hF⟩ := bnd_e hF
  have k3 := (ctX13_nme (l := l) (G := G) (w := w) 0 p1 h1)
  refine J_callS hX [.int 0, .int p1] [.ref (adr G 15 0)] [.int x2, .ref (adr G 15 0)] k3 miX13_nme q_2152 q_2151 ⟨rfl, rfl, Nat.le_of_ble_eq_true rfl, Nat.le_of_ble_eq_true rfl⟩ rfl rfl (Nat.le_of_ble_eq_true rfl) ⟨Nat.le_of_ble_eq_true rfl, Nat.le_of_ble_eq_true rfl⟩ dX13_widened_3 (t := 6) rfl rfl ?_
  obtain ⟨x5, h4, hF⟩ := bo1_e hF
  have k6 := (ctX13_nameAt (G := G) (l := l) w x2 h4)
  refine J_callV hX [.int x2] [] [.long x5] k6 miX13_nameAt mvX13_nameAt cb10 kModel q_2160 ⟨rfl, rfl, Nat.le_of_ble_eq_true rfl, Nat.le_of_ble_eq_true rfl⟩ rfl rfl (Nat.le_of_ble_eq_true rfl) ⟨Nat.le_of_ble_eq_true rfl, Nat.le_of_ble_eq_true rfl⟩ dX13_widened_6 (t := 9) rfl rfl ?_
  refine J_lstore_n (lc2 := [(2, .long x5), (0, .ref (adr G 15 0)), (1, .int p1)]) hX dX13_widened_9 rfl (Nat.le_of_ble_eq_true rfl) rfl (t := 10) rfl ?_
  refine J_lload_n hX dX13_widened_10 0 rfl (t := 11) rfl ?_
  refine J_iconst (v := 5) hX dX13_widened_11 (by decide) (t := 12) rfl ?_
  refine J_bipush (v := 8) hX dX13_widened_12 (by decide) (t := 14) rfl ?_
  refine J_lload_n hX dX13_widened_14 0 rfl (t := 15) rfl ?_
  obtain ⟨x8, h7, hF⟩ := bo1_e hF
  have k9 := (ctX13_lengthOf (l := l) (G := G) (w := w) x5 n h7)
  refine J_callS hX [.long x5] [.int 8, .int 5, .long x5] [.int x8, .int 8, .int 5, .long x5] k9 miX13_lengthOf q_2527 q_2526 ⟨rfl, rfl, Nat.le_of_ble_eq_true rfl, Nat.le_of_ble_eq_true rfl⟩ rfl rfl (Nat.le_of_ble_eq_true rfl) ⟨Nat.le_of_ble_eq_true rfl, Nat.le_of_ble_eq_true rfl⟩ dX13_widened_15 (t := 18) rfl rfl ?_
  refine J_isub hX dX13_widened_18 (t := 19) rfl ?_
  refine J_imul hX dX13_widened_19 (t := 20) rfl ?_
  refine J_lshl hX dX13_widened_20 (t := 21) rfl ?_
  replace hF := Option.some.inj hF
  subst hF
  exact J_lret hX hR hlk dX13_widened_21
abbrev rmX13_ahead : Room := { frames := 3, cells := 0, slots := 0, locals := 64 }
theorem miX13_ahead : MI yX13_ahead cX13_ahead 4 (some .int) 1 := ⟨q_2588, q_152, by decide +kernel, by decide +kernel, by decide +kernel, by decide +kernel⟩
theorem mvX13_ahead : MV yX13_ahead := ⟨q_2587, q_105⟩
def FX13_ahead_L4 (n : Nat) : Nat → Wd → Int32 → Int32 → Int32 → Option (Int32)
  | 0 => fun _ _ _ _ => none
  | k + 1 => fun w l1 l2 l3 =>
    gd (inb 0 390) <|
    if (w 15).1 2 0 ≤ l3 then
      some l2
    else
      bo1 (FX13_widened n w l3) fun x3 =>
      bo1 (FX13_widened n w l1) fun x6 =>
      if 0 ≤ lg_cmp x3 x6 then
        bnd (FX13_truth false) fun x9 =>
        FX13_ahead_L4 n k w l1 (l2 + x9) (l3 + 1)
      else
        bnd (FX13_truth true) fun x12 =>
        FX13_ahead_L4 n k w l1 (l2 + x12) (l3 + 1)
set_option maxHeartbeats 4000000 in
set_option maxRecDepth 100000 in
theorem LX13_ahead_4 {G : GG} {l : Launch} {p : Program} {e : Env} {s : State} {m : MethodId} {args : Array Value} {below : List Frame} {meth : Method} {c : Code} (hX : FX G RX13 cX13_ahead 4 p s m args c) (hR : meth.sig.returnType = (some .int)) (hlk : meth.locks = false) {rx : Int32} (n : Nat) : ∀ (k : Nat) (w : Wd) (l1 : Int32) (l2 : Int32) (l3 : Int32) , FX13_ahead_L4 n k w l1 l2 l3 = some rx → J G p l e rmX13_ahead s m args below meth c 4 0 0 (MQ below (QV G (some (.int rx)) w) args s 0 0 (gA G)) (GH G w) 4 [(0, .ref (adr G 15 0)), (1, .int l1), (2, .int l2), (3, .int l3)] [] := by
  intro k
  induction k with
  | zero => intro w l1 l2 l3  hF; cases hF
  | succ k ih =>
    intro w l1 l2 l3  hF
    simp only [FX13_ahead_L4] at hF
    refine J_iload_n hX dX13_ahead_4 3 rfl (t := 5) rfl ?_
    refine J_aload_n hX dX13_ahead_5 0 rfl (t := 6) rfl ?_
    refine J_get hX cb10 kModel 13 (by decide) q_1980 rfl dX13_ahead_6 (t := 9) rfl ?_
    refine J_iconst (v := 0) hX dX13_ahead_9 (by decide) (t := 10) rfl ?_
    obtain ⟨g1, hF⟩ := gd_e hF
    refine J_iald hX (kInts (j := 2) (n := 390) (by decide) (by decide) rfl) g1 rfl dX13_ahead_10 (t := 11) rfl ?_
    refine J_icmp_ge (tgt := 45) hX dX13_ahead_11 (by decide) (t := 14) rfl (fun z => ?_) (fun z => ?_)
    · replace hF := it_t hF z
      refine J_iload_n hX dX13_ahead_45 2 rfl (t := 46) rfl ?_
      replace hF := Option.some.inj hF
      subst hF
      exact J_iret hX hR hlk dX13_ahead_46
    · replace hF := it_f hF z
      refine J_iload_n hX dX13_ahead_14 2 rfl (t := 15) rfl ?_
      refine J_aload_n hX dX13_ahead_15 0 rfl (t := 16) rfl ?_
      refine J_iload_n hX dX13_ahead_16 3 rfl (t := 17) rfl ?_
      obtain ⟨x3, h2, hF⟩ := bo1_e hF
      have k4 := (ctX13_widened (G := G) (l := l) w l3 n h2)
      refine J_callV hX [.int l3] [.int l2] [.long x3, .int l2] k4 miX13_widened mvX13_widened cb10 kModel q_2589 ⟨rfl, rfl, Nat.le_of_ble_eq_true rfl, Nat.le_of_ble_eq_true rfl⟩ rfl rfl (Nat.le_of_ble_eq_true rfl) ⟨Nat.le_of_ble_eq_true rfl, Nat.le_of_ble_eq_true rfl⟩ dX13_ahead_17 (t := 20) rfl rfl ?_
      refine J_aload_n hX dX13_ahead_20 0 rfl (t := 21) rfl ?_
      refine J_iload_n hX dX13_ahead_21 1 rfl (t := 22) rfl ?_
      obtain ⟨x6, h5, hF⟩ := bo1_e hF
      have k7 := (ctX13_widened (G := G) (l := l) w l1 n h5)
      refine J_callV hX [.int l1] [.long x3, .int l2] [.long x6, .long x3, .int l2] k7 miX13_widened mvX13_widened cb10 kModel q_2589 ⟨rfl, rfl, Nat.le_of_ble_eq_true rfl, Nat.le_of_ble_eq_true rfl⟩ rfl rfl (Nat.le_of_ble_eq_true rfl) ⟨Nat.le_of_ble_eq_true rfl, Nat.le_of_ble_eq_true rfl⟩ dX13_ahead_22 (t := 25) rfl rfl ?_
      refine J_lcmp hX dX13_ahead_25 (t := 26) rfl ?_
      refine J_if_ge (tgt := 33) hX dX13_ahead_26 (by decide) (t := 29) rfl (fun z => ?_) (fun z => ?_)
      · replace hF := it_t hF z
        refine J_iconst (v := 0) hX dX13_ahead_33 (by decide) (t := 34) rfl ?_
        obtain ⟨x9, h8, hF⟩ := bnd_e hF
        have k10 := (ctX13_truth (l := l) (G := G) (w := w) false h8)
        refine J_callS hX [.int (bI false)] [.int l2] [.int x9, .int l2] k10 miX13_truth q_2083 q_2082 ⟨rfl, rfl, Nat.le_of_ble_eq_true rfl, Nat.le_of_ble_eq_true rfl⟩ rfl rfl (Nat.le_of_ble_eq_true rfl) ⟨Nat.le_of_ble_eq_true rfl, Nat.le_of_ble_eq_true rfl⟩ dX13_ahead_34 (t := 37) rfl rfl ?_
        refine J_iadd hX dX13_ahead_37 (t := 38) rfl ?_
        refine J_istore_n (lc2 := [(2, .int (l2 + x9)), (0, .ref (adr G 15 0)), (1, .int l1), (3, .int l3)]) hX dX13_ahead_38 rfl (Nat.le_of_ble_eq_true rfl) rfl (t := 39) rfl ?_
        refine J_iinc (v := l3 + 1) (lc2 := [(3, .int (l3 + 1)), (2, .int (l2 + x9)), (0, .ref (adr G 15 0)), (1, .int l1)]) hX dX13_ahead_39 3 rfl rfl (Nat.le_of_ble_eq_true rfl) rfl (t := 42) rfl ?_
        refine J_goto (tgt := 4) hX dX13_ahead_42 (by decide) ?_
        refine J_sub (lc2 := [(0, .ref (adr G 15 0)), (1, .int l1), (2, .int (l2 + x9)), (3, .int (l3 + 1))]) [2, 3, 1, 0] rfl ?_
        exact ih w l1 (l2 + x9) (l3 + 1) hF
      · replace hF := it_f hF z
        refine J_iconst (v := 1) hX dX13_ahead_29 (by decide) (t := 30) rfl ?_
        refine J_goto (tgt := 34) hX dX13_ahead_30 (by decide) ?_
        obtain ⟨x12, h11, hF⟩ := bnd_e hF
        have k13 := (ctX13_truth (l := l) (G := G) (w := w) true h11)
        refine J_callS hX [.int (bI true)] [.int l2] [.int x12, .int l2] k13 miX13_truth q_2083 q_2082 ⟨rfl, rfl, Nat.le_of_ble_eq_true rfl, Nat.le_of_ble_eq_true rfl⟩ rfl rfl (Nat.le_of_ble_eq_true rfl) ⟨Nat.le_of_ble_eq_true rfl, Nat.le_of_ble_eq_true rfl⟩ dX13_ahead_34 (t := 37) rfl rfl ?_
        refine J_iadd hX dX13_ahead_37 (t := 38) rfl ?_
        refine J_istore_n (lc2 := [(2, .int (l2 + x12)), (0, .ref (adr G 15 0)), (1, .int l1), (3, .int l3)]) hX dX13_ahead_38 rfl (Nat.le_of_ble_eq_true rfl) rfl (t := 39) rfl ?_
        refine J_iinc (v := l3 + 1) (lc2 := [(3, .int (l3 + 1)), (2, .int (l2 + x12)), (0, .ref (adr G 15 0)), (1, .int l1)]) hX dX13_ahead_39 3 rfl rfl (Nat.le_of_ble_eq_true rfl) rfl (t := 42) rfl ?_
        refine J_goto (tgt := 4) hX dX13_ahead_42 (by decide) ?_
        refine J_sub (lc2 := [(0, .ref (adr G 15 0)), (1, .int l1), (2, .int (l2 + x12)), (3, .int (l3 + 1))]) [2, 3, 1, 0] rfl ?_
        exact ih w l1 (l2 + x12) (l3 + 1) hF
def FX13_ahead (n : Nat) (w : Wd) (p1 : Int32) : Option (Int32) :=
  FX13_ahead_L4 n n w p1 0 0
set_option maxHeartbeats 4000000 in
set_option maxRecDepth 100000 in
theorem ctX13_ahead {G : GG} {l : Launch} (w : Wd) (p1 : Int32)  (n : Nat) {rx : Int32} (hF : FX13_ahead n w p1 = some rx) : CT G l yX13_ahead cX13_ahead 4 (some .int) rmX13_ahead 0 0 [.ref (adr G 15 0), .int p1] w (some (.int rx)) w := by
  refine CT.of miX13_ahead [(0, .ref (adr G 15 0)), (1, .int p1)] rfl (Nat.le_of_ble_eq_true rfl) ?_
  intro p e s m args below meth c hX hR hlk
  have hX : FX G RX13 cX13_ahead 4 p s m args c := hX
  unfold FX13_ahead at hF
  refine J_iconst (v := 0) hX dX13_ahead_0 (by decide) (t := 1) rfl ?_
  refine J_istore_n (lc2 := [(2, .int 0), (0, .ref (adr G 15 0)), (1, .int p1)]) hX dX13_ahead_1 rfl (Nat.le_of_ble_eq_true rfl) rfl (t := 2) rfl ?_
  refine J_iconst (v := 0) hX dX13_ahead_2 (by decide) (t := 3) rfl ?_
  refine J_istore_n (lc2 := [(3, .int 0), (2, .int 0), (0, .ref (adr G 15 0)), (1, .int p1)]) hX dX13_ahead_3 rfl (Nat.le_of_ble_eq_true rfl) rfl (t := 4) rfl ?_
  refine J_sub (lc2 := [(0, .ref (adr G 15 0)), (1, .int p1), (2, .int 0), (3, .int 0)]) [2, 3, 1, 0] rfl ?_
  exact LX13_ahead_4 hX hR hlk n n w p1 0 0 hF
abbrev rmX13_valleyByName : Room := { frames := 4, cells := 0, slots := 0, locals := 87 }
theorem miX13_valleyByName : MI yX13_valleyByName cX13_valleyByName 3 (some .int) 1 := ⟨q_2584, q_152, by decide +kernel, by decide +kernel, by decide +kernel, by decide +kernel⟩
theorem mvX13_valleyByName : MV yX13_valleyByName := ⟨q_2582, q_2583⟩
def FX13_valleyByName_L7 (n : Nat) : Nat → Wd → Int32 → Int32 → Option (Int32 × Wd)
  | 0 => fun _ _ _ => none
  | k + 1 => fun w l1 l2 =>
    gd (inb 0 390) <|
    if (w 15).1 2 0 ≤ l2 then
      some ((-1), w)
    else
      bo1 (FX13_ahead n w l2) fun x5 =>
      if x5 = l1 then
        some (l2, w)
      else
        FX13_valleyByName_L7 n k w l1 (l2 + 1)
set_option maxHeartbeats 4000000 in
set_option maxRecDepth 100000 in
theorem LX13_valleyByName_7 {G : GG} {l : Launch} {p : Program} {e : Env} {s : State} {m : MethodId} {args : Array Value} {below : List Frame} {meth : Method} {c : Code} (hX : FX G RX13 cX13_valleyByName 3 p s m args c) (hR : meth.sig.returnType = (some .int)) (hlk : meth.locks = false) {rx : Int32} {rw : Wd} (n : Nat) : ∀ (k : Nat) (w : Wd) (l1 : Int32) (l2 : Int32) , FX13_valleyByName_L7 n k w l1 l2 = some (rx, rw) → J G p l e rmX13_valleyByName s m args below meth c 3 0 0 (MQ below (QV G (some (.int rx)) rw) args s 0 0 (gA G)) (GH G w) 7 [(0, .ref (adr G 15 0)), (1, .int l1), (2, .int l2)] [] := by
  intro k
  induction k with
  | zero => intro w l1 l2  hF; cases hF
  | succ k ih =>
    intro w l1 l2  hF
    simp only [FX13_valleyByName_L7] at hF
    refine J_iload_n hX dX13_valleyByName_7 2 rfl (t := 8) rfl ?_
    refine J_aload_n hX dX13_valleyByName_8 0 rfl (t := 9) rfl ?_
    refine J_get hX cb10 kModel 13 (by decide) q_1980 rfl dX13_valleyByName_9 (t := 12) rfl ?_
    refine J_iconst (v := 0) hX dX13_valleyByName_12 (by decide) (t := 13) rfl ?_
    obtain ⟨g3, hF⟩ := gd_e hF
    refine J_iald hX (kInts (j := 2) (n := 390) (by decide) (by decide) rfl) g3 rfl dX13_valleyByName_13 (t := 14) rfl ?_
    refine J_icmp_ge (tgt := 34) hX dX13_valleyByName_14 (by decide) (t := 17) rfl (fun z => ?_) (fun z => ?_)
    · replace hF := it_t hF z
      refine J_iconst (v := (-1)) hX dX13_valleyByName_34 (by decide) (t := 35) rfl ?_
      replace hF := Option.some.inj hF
      obtain ⟨hF, hF2⟩ := Prod.mk.inj hF
      subst hF
      subst hF2
      exact J_iret hX hR hlk dX13_valleyByName_35
    · replace hF := it_f hF z
      refine J_aload_n hX dX13_valleyByName_17 0 rfl (t := 18) rfl ?_
      refine J_iload_n hX dX13_valleyByName_18 2 rfl (t := 19) rfl ?_
      obtain ⟨x5, h4, hF⟩ := bo1_e hF
      have k6 := (ctX13_ahead (G := G) (l := l) w l2 n h4)
      refine J_callV hX [.int l2] [] [.int x5] k6 miX13_ahead mvX13_ahead cb10 kModel q_2585 ⟨rfl, rfl, Nat.le_of_ble_eq_true rfl, Nat.le_of_ble_eq_true rfl⟩ rfl rfl (Nat.le_of_ble_eq_true rfl) ⟨Nat.le_of_ble_eq_true rfl, Nat.le_of_ble_eq_true rfl⟩ dX13_valleyByName_19 (t := 22) rfl rfl ?_
      refine J_iload_n hX dX13_valleyByName_22 1 rfl (t := 23) rfl ?_
      refine J_icmp_ne (tgt := 28) hX dX13_valleyByName_23 (by decide) (t := 26) rfl (fun z => ?_) (fun z => ?_)
      · replace hF := it_f hF z
        refine J_iinc (v := l2 + 1) (lc2 := [(2, .int (l2 + 1)), (0, .ref (adr G 15 0)), (1, .int l1)]) hX dX13_valleyByName_28 2 rfl rfl (Nat.le_of_ble_eq_true rfl) rfl (t := 31) rfl ?_
        refine J_goto (tgt := 7) hX dX13_valleyByName_31 (by decide) ?_
        refine J_sub (lc2 := [(0, .ref (adr G 15 0)), (1, .int l1), (2, .int (l2 + 1))]) [1, 2, 0] rfl ?_
        exact ih w l1 (l2 + 1) hF
      · replace hF := it_t hF z
        refine J_iload_n hX dX13_valleyByName_26 2 rfl (t := 27) rfl ?_
        replace hF := Option.some.inj hF
        obtain ⟨hF, hF2⟩ := Prod.mk.inj hF
        subst hF
        subst hF2
        exact J_iret hX hR hlk dX13_valleyByName_27
def FX13_valleyByName (n : Nat) (w : Wd) (p1 : Int32) : Option (Int32 × Wd) :=
  bnd (sW w 15 (sI (w 15) 0 0 0)) fun w1 =>
  FX13_valleyByName_L7 n n w1 p1 0
set_option maxHeartbeats 4000000 in
set_option maxRecDepth 100000 in
theorem ctX13_valleyByName {G : GG} {l : Launch} (w : Wd) (p1 : Int32)  (n : Nat) {rx : Int32} {rw : Wd} (hF : FX13_valleyByName n w p1 = some (rx, rw)) : CT G l yX13_valleyByName cX13_valleyByName 3 (some .int) rmX13_valleyByName 0 0 [.ref (adr G 15 0), .int p1] w (some (.int rx)) rw := by
  refine CT.of miX13_valleyByName [(0, .ref (adr G 15 0)), (1, .int p1)] rfl (Nat.le_of_ble_eq_true rfl) ?_
  intro p e s m args below meth c hX hR hlk
  have hX : FX G RX13 cX13_valleyByName 3 p s m args c := hX
  unfold FX13_valleyByName at hF
  refine J_aload_n hX dX13_valleyByName_0 0 rfl (t := 1) rfl ?_
  refine J_iconst (v := 0) hX dX13_valleyByName_1 (by decide) (t := 2) rfl ?_
  obtain ⟨w1, e2, hF⟩ := bnd_e hF
  refine J_puti hX cb10 kModel 0 (by decide) q_1967 rfl rfl e2 (fun _ _ => Nat.le_of_ble_eq_true rfl) (fun _ _ => rfl) dX13_valleyByName_2 (t := 5) rfl ?_
  refine J_iconst (v := 0) hX dX13_valleyByName_5 (by decide) (t := 6) rfl ?_
  refine J_istore_n (lc2 := [(2, .int 0), (0, .ref (adr G 15 0)), (1, .int p1)]) hX dX13_valleyByName_6 rfl (Nat.le_of_ble_eq_true rfl) rfl (t := 7) rfl ?_
  refine J_sub (lc2 := [(0, .ref (adr G 15 0)), (1, .int p1), (2, .int 0)]) [1, 2, 0] rfl ?_
  exact LX13_valleyByName_7 hX hR hlk n n w1 p1 0 hF
abbrev rmX13_findCustomer : Room := { frames := 3, cells := 0, slots := 0, locals := 65 }
theorem miX13_findCustomer : MI yX13_findCustomer cX13_findCustomer 1 (some .int) 0 := ⟨q_2596, q_152, by decide +kernel, by decide +kernel, by decide +kernel, by decide +kernel⟩
theorem mvX13_findCustomer : MV yX13_findCustomer := ⟨q_2594, q_2595⟩
def FX13_findCustomer (n : Nat) (w : Wd)  : Option (Int32 × Wd) :=
  bo1 (FX13_bufferName n w) fun x2 =>
  bo1 (FX13_found n w 1 x2) fun x5 =>
  bnd2 (FX13_told w x5) fun x8 w9 =>
  some (x8, w9)
set_option maxHeartbeats 4000000 in
set_option maxRecDepth 100000 in
theorem ctX13_findCustomer {G : GG} {l : Launch} (w : Wd)   (n : Nat) {rx : Int32} {rw : Wd} (hF : FX13_findCustomer n w  = some (rx, rw)) : CT G l yX13_findCustomer cX13_findCustomer 1 (some .int) rmX13_findCustomer 0 0 [.ref (adr G 15 0)] w (some (.int rx)) rw := by
  refine CT.of miX13_findCustomer [(0, .ref (adr G 15 0))] rfl (Nat.le_of_ble_eq_true rfl) ?_
  intro p e s m args below meth c hX hR hlk
  have hX : FX G RX13 cX13_findCustomer 1 p s m args c := hX
  unfold FX13_findCustomer at hF
  refine J_aload_n hX dX13_findCustomer_0 0 rfl (t := 1) rfl ?_
  refine J_aload_n hX dX13_findCustomer_1 0 rfl (t := 2) rfl ?_
  refine J_iconst (v := 1) hX dX13_findCustomer_2 (by decide) (t := 3) rfl ?_
  refine J_aload_n hX dX13_findCustomer_3 0 rfl (t := 4) rfl ?_
  obtain ⟨x2, h1, hF⟩ := bo1_e hF
  have k3 := (ctX13_bufferName (G := G) (l := l) w  n h1)
  refine J_callV hX [] [.int 1, .ref (adr G 15 0), .ref (adr G 15 0)] [.long x2, .int 1, .ref (adr G 15 0), .ref (adr G 15 0)] k3 miX13_bufferName mvX13_bufferName cb10 kModel q_2123 ⟨rfl, rfl, Nat.le_of_ble_eq_true rfl, Nat.le_of_ble_eq_true rfl⟩ rfl rfl (Nat.le_of_ble_eq_true rfl) ⟨Nat.le_of_ble_eq_true rfl, Nat.le_of_ble_eq_true rfl⟩ dX13_findCustomer_4 (t := 7) rfl rfl ?_
  obtain ⟨x5, h4, hF⟩ := bo1_e hF
  have k6 := (ctX13_found (G := G) (l := l) w 1 x2 n h4)
  refine J_callV hX [.int 1, .long x2] [.ref (adr G 15 0)] [.int x5, .ref (adr G 15 0)] k6 miX13_found mvX13_found cb10 kModel q_2147 ⟨rfl, rfl, Nat.le_of_ble_eq_true rfl, Nat.le_of_ble_eq_true rfl⟩ rfl rfl (Nat.le_of_ble_eq_true rfl) ⟨Nat.le_of_ble_eq_true rfl, Nat.le_of_ble_eq_true rfl⟩ dX13_findCustomer_7 (t := 10) rfl rfl ?_
  obtain ⟨x8, w9, h7, hF⟩ := bnd2_e hF
  have k10 := (ctX13_told (G := G) (l := l) w x5 h7)
  refine J_callV hX [.int x5] [] [.int x8] k10 miX13_told mvX13_told cb10 kModel q_2479 ⟨rfl, rfl, Nat.le_of_ble_eq_true rfl, Nat.le_of_ble_eq_true rfl⟩ rfl rfl (Nat.le_of_ble_eq_true rfl) ⟨Nat.le_of_ble_eq_true rfl, Nat.le_of_ble_eq_true rfl⟩ dX13_findCustomer_10 (t := 13) rfl rfl ?_
  replace hF := Option.some.inj hF
  obtain ⟨hF, hF2⟩ := Prod.mk.inj hF
  subst hF
  subst hF2
  exact J_iret hX hR hlk dX13_findCustomer_13
abbrev rmX13_inCustomer : Room := { frames := 2, cells := 0, slots := 0, locals := 46 }
theorem miX13_inCustomer : MI yX13_inCustomer cX13_inCustomer 3 (some .int) 2 := ⟨q_2604, q_152, by decide +kernel, by decide +kernel, by decide +kernel, by decide +kernel⟩
theorem mvX13_inCustomer : MV yX13_inCustomer := ⟨q_2603, q_107⟩
def FX13_inCustomer (w : Wd) (p1 : Int32) (p2 : Int32) : Option (Int32 × Wd) :=
  bo1 (FX13_isCustomer w p1) fun x2 =>
  bnd2 (FX13_goes w x2) fun x5 w6 =>
  if x5 = true then
    bo1 (FX13_ofCustomer w6 p1 p2) fun x9 =>
    some (x9, w6)
  else
    some (0, w6)
set_option maxHeartbeats 4000000 in
set_option maxRecDepth 100000 in
theorem ctX13_inCustomer {G : GG} {l : Launch} (w : Wd) (p1 : Int32) (p2 : Int32)  {rx : Int32} {rw : Wd} (hF : FX13_inCustomer w p1 p2 = some (rx, rw)) : CT G l yX13_inCustomer cX13_inCustomer 3 (some .int) rmX13_inCustomer 0 0 [.ref (adr G 15 0), .int p1, .int p2] w (some (.int rx)) rw := by
  refine CT.of miX13_inCustomer [(0, .ref (adr G 15 0)), (1, .int p1), (2, .int p2)] rfl (Nat.le_of_ble_eq_true rfl) ?_
  intro p e s m args below meth c hX hR hlk
  have hX : FX G RX13 cX13_inCustomer 3 p s m args c := hX
  unfold FX13_inCustomer at hF
  refine J_aload_n hX dX13_inCustomer_0 0 rfl (t := 1) rfl ?_
  refine J_aload_n hX dX13_inCustomer_1 0 rfl (t := 2) rfl ?_
  refine J_iload_n hX dX13_inCustomer_2 1 rfl (t := 3) rfl ?_
  obtain ⟨x2, h1, hF⟩ := bo1_e hF
  have k3 := (ctX13_isCustomer (G := G) (l := l) w p1 h1)
  refine J_callV hX [.int p1] [.ref (adr G 15 0)] [.int (bI x2), .ref (adr G 15 0)] k3 miX13_isCustomer mvX13_isCustomer cb10 kModel q_2209 ⟨rfl, rfl, Nat.le_of_ble_eq_true rfl, Nat.le_of_ble_eq_true rfl⟩ rfl rfl (Nat.le_of_ble_eq_true rfl) ⟨Nat.le_of_ble_eq_true rfl, Nat.le_of_ble_eq_true rfl⟩ dX13_inCustomer_3 (t := 6) rfl rfl ?_
  obtain ⟨x5, w6, h4, hF⟩ := bnd2_e hF
  have k7 := (ctX13_goes (G := G) (l := l) w x2 h4)
  refine J_callV hX [.int (bI x2)] [] [.int (bI x5)] k7 miX13_goes mvX13_goes cb10 kModel q_2078 ⟨rfl, rfl, Nat.le_of_ble_eq_true rfl, Nat.le_of_ble_eq_true rfl⟩ rfl rfl (Nat.le_of_ble_eq_true rfl) ⟨Nat.le_of_ble_eq_true rfl, Nat.le_of_ble_eq_true rfl⟩ dX13_inCustomer_6 (t := 9) rfl rfl ?_
  refine J_ifZ_eq (tgt := 21) hX dX13_inCustomer_9 (by decide) (t := 12) rfl (fun z => ?_) (fun z => ?_)
  · replace hF := ib_f hF z
    refine J_iconst (v := 0) hX dX13_inCustomer_21 (by decide) (t := 22) rfl ?_
    replace hF := Option.some.inj hF
    obtain ⟨hF, hF2⟩ := Prod.mk.inj hF
    subst hF
    subst hF2
    exact J_iret hX hR hlk dX13_inCustomer_22
  · replace hF := it_t hF z
    refine J_aload_n hX dX13_inCustomer_12 0 rfl (t := 13) rfl ?_
    refine J_iload_n hX dX13_inCustomer_13 1 rfl (t := 14) rfl ?_
    refine J_iload_n hX dX13_inCustomer_14 2 rfl (t := 15) rfl ?_
    obtain ⟨x9, h8, hF⟩ := bo1_e hF
    have k10 := (ctX13_ofCustomer (G := G) (l := l) w6 p1 p2 h8)
    refine J_callV hX [.int p1, .int p2] [] [.int x9] k10 miX13_ofCustomer mvX13_ofCustomer cb10 kModel q_2229 ⟨rfl, rfl, Nat.le_of_ble_eq_true rfl, Nat.le_of_ble_eq_true rfl⟩ rfl rfl (Nat.le_of_ble_eq_true rfl) ⟨Nat.le_of_ble_eq_true rfl, Nat.le_of_ble_eq_true rfl⟩ dX13_inCustomer_15 (t := 18) rfl rfl ?_
    refine J_goto (tgt := 22) hX dX13_inCustomer_18 (by decide) ?_
    replace hF := Option.some.inj hF
    obtain ⟨hF, hF2⟩ := Prod.mk.inj hF
    subst hF
    subst hF2
    exact J_iret hX hR hlk dX13_inCustomer_22
abbrev rmX13_money : Room := { frames := 3, cells := 0, slots := 0, locals := 68 }
theorem miX13_money : MI yX13_money cX13_money 2 (some .int) 1 := ⟨q_2600, q_152, by decide +kernel, by decide +kernel, by decide +kernel, by decide +kernel⟩
theorem mvX13_money : MV yX13_money := ⟨q_2598, q_2599⟩
def FX13_money (w : Wd) (p1 : Int32) : Option (Int32 × Wd) :=
  bo2 (FX13_inCustomer w p1 1) fun x2 w3 =>
  some (x2, w3)
set_option maxHeartbeats 4000000 in
set_option maxRecDepth 100000 in
theorem ctX13_money {G : GG} {l : Launch} (w : Wd) (p1 : Int32)  {rx : Int32} {rw : Wd} (hF : FX13_money w p1 = some (rx, rw)) : CT G l yX13_money cX13_money 2 (some .int) rmX13_money 0 0 [.ref (adr G 15 0), .int p1] w (some (.int rx)) rw := by
  refine CT.of miX13_money [(0, .ref (adr G 15 0)), (1, .int p1)] rfl (Nat.le_of_ble_eq_true rfl) ?_
  intro p e s m args below meth c hX hR hlk
  have hX : FX G RX13 cX13_money 2 p s m args c := hX
  unfold FX13_money at hF
  refine J_aload_n hX dX13_money_0 0 rfl (t := 1) rfl ?_
  refine J_iload_n hX dX13_money_1 1 rfl (t := 2) rfl ?_
  refine J_iconst (v := 1) hX dX13_money_2 (by decide) (t := 3) rfl ?_
  obtain ⟨x2, w3, h1, hF⟩ := bo2_e hF
  have k4 := (ctX13_inCustomer (G := G) (l := l) w p1 1 h1)
  refine J_callV hX [.int p1, .int 1] [] [.int x2] k4 miX13_inCustomer mvX13_inCustomer cb10 kModel q_2601 ⟨rfl, rfl, Nat.le_of_ble_eq_true rfl, Nat.le_of_ble_eq_true rfl⟩ rfl rfl (Nat.le_of_ble_eq_true rfl) ⟨Nat.le_of_ble_eq_true rfl, Nat.le_of_ble_eq_true rfl⟩ dX13_money_3 (t := 6) rfl rfl ?_
  replace hF := Option.some.inj hF
  obtain ⟨hF, hF2⟩ := Prod.mk.inj hF
  subst hF
  subst hF2
  exact J_iret hX hR hlk dX13_money_6
abbrev rmX13_patience : Room := { frames := 3, cells := 0, slots := 0, locals := 68 }
theorem miX13_patience : MI yX13_patience cX13_patience 2 (some .int) 1 := ⟨q_2608, q_152, by decide +kernel, by decide +kernel, by decide +kernel, by decide +kernel⟩
theorem mvX13_patience : MV yX13_patience := ⟨q_2606, q_2607⟩
def FX13_patience (w : Wd) (p1 : Int32) : Option (Int32 × Wd) :=
  bo2 (FX13_inCustomer w p1 0) fun x2 w3 =>
  some (x2, w3)
set_option maxHeartbeats 4000000 in
set_option maxRecDepth 100000 in
theorem ctX13_patience {G : GG} {l : Launch} (w : Wd) (p1 : Int32)  {rx : Int32} {rw : Wd} (hF : FX13_patience w p1 = some (rx, rw)) : CT G l yX13_patience cX13_patience 2 (some .int) rmX13_patience 0 0 [.ref (adr G 15 0), .int p1] w (some (.int rx)) rw := by
  refine CT.of miX13_patience [(0, .ref (adr G 15 0)), (1, .int p1)] rfl (Nat.le_of_ble_eq_true rfl) ?_
  intro p e s m args below meth c hX hR hlk
  have hX : FX G RX13 cX13_patience 2 p s m args c := hX
  unfold FX13_patience at hF
  refine J_aload_n hX dX13_patience_0 0 rfl (t := 1) rfl ?_
  refine J_iload_n hX dX13_patience_1 1 rfl (t := 2) rfl ?_
  refine J_iconst (v := 0) hX dX13_patience_2 (by decide) (t := 3) rfl ?_
  obtain ⟨x2, w3, h1, hF⟩ := bo2_e hF
  have k4 := (ctX13_inCustomer (G := G) (l := l) w p1 0 h1)
  refine J_callV hX [.int p1, .int 0] [] [.int x2] k4 miX13_inCustomer mvX13_inCustomer cb10 kModel q_2601 ⟨rfl, rfl, Nat.le_of_ble_eq_true rfl, Nat.le_of_ble_eq_true rfl⟩ rfl rfl (Nat.le_of_ble_eq_true rfl) ⟨Nat.le_of_ble_eq_true rfl, Nat.le_of_ble_eq_true rfl⟩ dX13_patience_3 (t := 6) rfl rfl ?_
  replace hF := Option.some.inj hF
  obtain ⟨hF, hF2⟩ := Prod.mk.inj hF
  subst hF
  subst hF2
  exact J_iret hX hR hlk dX13_patience_6
abbrev rmX13_suspicion : Room := { frames := 3, cells := 0, slots := 0, locals := 68 }
theorem miX13_suspicion : MI yX13_suspicion cX13_suspicion 2 (some .int) 1 := ⟨q_2612, q_152, by decide +kernel, by decide +kernel, by decide +kernel, by decide +kernel⟩
theorem mvX13_suspicion : MV yX13_suspicion := ⟨q_2610, q_2611⟩
def FX13_suspicion (w : Wd) (p1 : Int32) : Option (Int32 × Wd) :=
  bo2 (FX13_inCustomer w p1 2) fun x2 w3 =>
  some (x2, w3)
set_option maxHeartbeats 4000000 in
set_option maxRecDepth 100000 in
theorem ctX13_suspicion {G : GG} {l : Launch} (w : Wd) (p1 : Int32)  {rx : Int32} {rw : Wd} (hF : FX13_suspicion w p1 = some (rx, rw)) : CT G l yX13_suspicion cX13_suspicion 2 (some .int) rmX13_suspicion 0 0 [.ref (adr G 15 0), .int p1] w (some (.int rx)) rw := by
  refine CT.of miX13_suspicion [(0, .ref (adr G 15 0)), (1, .int p1)] rfl (Nat.le_of_ble_eq_true rfl) ?_
  intro p e s m args below meth c hX hR hlk
  have hX : FX G RX13 cX13_suspicion 2 p s m args c := hX
  unfold FX13_suspicion at hF
  refine J_aload_n hX dX13_suspicion_0 0 rfl (t := 1) rfl ?_
  refine J_iload_n hX dX13_suspicion_1 1 rfl (t := 2) rfl ?_
  refine J_iconst (v := 2) hX dX13_suspicion_2 (by decide) (t := 3) rfl ?_
  obtain ⟨x2, w3, h1, hF⟩ := bo2_e hF
  have k4 := (ctX13_inCustomer (G := G) (l := l) w p1 2 h1)
  refine J_callV hX [.int p1, .int 2] [] [.int x2] k4 miX13_inCustomer mvX13_inCustomer cb10 kModel q_2601 ⟨rfl, rfl, Nat.le_of_ble_eq_true rfl, Nat.le_of_ble_eq_true rfl⟩ rfl rfl (Nat.le_of_ble_eq_true rfl) ⟨Nat.le_of_ble_eq_true rfl, Nat.le_of_ble_eq_true rfl⟩ dX13_suspicion_3 (t := 6) rfl rfl ?_
  replace hF := Option.some.inj hF
  obtain ⟨hF, hF2⟩ := Prod.mk.inj hF
  subst hF
  subst hF2
  exact J_iret hX hR hlk dX13_suspicion_6
abbrev rmX13_isAngry : Room := { frames := 3, cells := 0, slots := 0, locals := 63 }
theorem miX13_isAngry : MI yX13_isAngry cX13_isAngry 2 (some .boolean) 1 := ⟨q_2616, q_152, by decide +kernel, by decide +kernel, by decide +kernel, by decide +kernel⟩
theorem mvX13_isAngry : MV yX13_isAngry := ⟨q_2614, q_2615⟩
def FX13_isAngry (w : Wd) (p1 : Int32) : Option (Bool × Wd) :=
  bo1 (FX13_isCustomer w p1) fun x2 =>
  bnd2 (FX13_goes w x2) fun x5 w6 =>
  if x5 = true then
    bo1 (FX13_isAngryNow w6 p1) fun x9 =>
    if x9 = true then
      some (true, w6)
    else
      some (false, w6)
  else
    some (false, w6)
set_option maxHeartbeats 4000000 in
set_option maxRecDepth 100000 in
theorem ctX13_isAngry {G : GG} {l : Launch} (w : Wd) (p1 : Int32)  {rx : Bool} {rw : Wd} (hF : FX13_isAngry w p1 = some (rx, rw)) : CT G l yX13_isAngry cX13_isAngry 2 (some .boolean) rmX13_isAngry 0 0 [.ref (adr G 15 0), .int p1] w (some (.int (bI rx))) rw := by
  refine CT.of miX13_isAngry [(0, .ref (adr G 15 0)), (1, .int p1)] rfl (Nat.le_of_ble_eq_true rfl) ?_
  intro p e s m args below meth c hX hR hlk
  have hX : FX G RX13 cX13_isAngry 2 p s m args c := hX
  unfold FX13_isAngry at hF
  refine J_aload_n hX dX13_isAngry_0 0 rfl (t := 1) rfl ?_
  refine J_aload_n hX dX13_isAngry_1 0 rfl (t := 2) rfl ?_
  refine J_iload_n hX dX13_isAngry_2 1 rfl (t := 3) rfl ?_
  obtain ⟨x2, h1, hF⟩ := bo1_e hF
  have k3 := (ctX13_isCustomer (G := G) (l := l) w p1 h1)
  refine J_callV hX [.int p1] [.ref (adr G 15 0)] [.int (bI x2), .ref (adr G 15 0)] k3 miX13_isCustomer mvX13_isCustomer cb10 kModel q_2209 ⟨rfl, rfl, Nat.le_of_ble_eq_true rfl, Nat.le_of_ble_eq_true rfl⟩ rfl rfl (Nat.le_of_ble_eq_true rfl) ⟨Nat.le_of_ble_eq_true rfl, Nat.le_of_ble_eq_true rfl⟩ dX13_isAngry_3 (t := 6) rfl rfl ?_
  obtain ⟨x5, w6, h4, hF⟩ := bnd2_e hF
  have k7 := (ctX13_goes (G := G) (l := l) w x2 h4)
  refine J_callV hX [.int (bI x2)] [] [.int (bI x5)] k7 miX13_goes mvX13_goes cb10 kModel q_2078 ⟨rfl, rfl, Nat.le_of_ble_eq_true rfl, Nat.le_of_ble_eq_true rfl⟩ rfl rfl (Nat.le_of_ble_eq_true rfl) ⟨Nat.le_of_ble_eq_true rfl, Nat.le_of_ble_eq_true rfl⟩ dX13_isAngry_6 (t := 9) rfl rfl ?_
  refine J_ifZ_eq (tgt := 24) hX dX13_isAngry_9 (by decide) (t := 12) rfl (fun z => ?_) (fun z => ?_)
  · replace hF := ib_f hF z
    refine J_iconst (v := 0) hX dX13_isAngry_24 (by decide) (t := 25) rfl ?_
    replace hF := Option.some.inj hF
    obtain ⟨hF, hF2⟩ := Prod.mk.inj hF
    subst hF
    subst hF2
    exact J_zret (b := false) hX hR hlk dX13_isAngry_25
  · replace hF := it_t hF z
    refine J_aload_n hX dX13_isAngry_12 0 rfl (t := 13) rfl ?_
    refine J_iload_n hX dX13_isAngry_13 1 rfl (t := 14) rfl ?_
    obtain ⟨x9, h8, hF⟩ := bo1_e hF
    have k10 := (ctX13_isAngryNow (G := G) (l := l) w6 p1 h8)
    refine J_callV hX [.int p1] [] [.int (bI x9)] k10 miX13_isAngryNow mvX13_isAngryNow cb10 kModel q_2244 ⟨rfl, rfl, Nat.le_of_ble_eq_true rfl, Nat.le_of_ble_eq_true rfl⟩ rfl rfl (Nat.le_of_ble_eq_true rfl) ⟨Nat.le_of_ble_eq_true rfl, Nat.le_of_ble_eq_true rfl⟩ dX13_isAngry_14 (t := 17) rfl rfl ?_
    refine J_ifZ_eq (tgt := 24) hX dX13_isAngry_17 (by decide) (t := 20) rfl (fun z => ?_) (fun z => ?_)
    · replace hF := ib_f hF z
      refine J_iconst (v := 0) hX dX13_isAngry_24 (by decide) (t := 25) rfl ?_
      replace hF := Option.some.inj hF
      obtain ⟨hF, hF2⟩ := Prod.mk.inj hF
      subst hF
      subst hF2
      exact J_zret (b := false) hX hR hlk dX13_isAngry_25
    · replace hF := it_t hF z
      refine J_iconst (v := 1) hX dX13_isAngry_20 (by decide) (t := 21) rfl ?_
      refine J_goto (tgt := 25) hX dX13_isAngry_21 (by decide) ?_
      replace hF := Option.some.inj hF
      obtain ⟨hF, hF2⟩ := Prod.mk.inj hF
      subst hF
      subst hF2
      exact J_zret (b := true) hX hR hlk dX13_isAngry_25
abbrev rmX13_echoesHeard : Room := { frames := 3, cells := 0, slots := 0, locals := 68 }
theorem miX13_echoesHeard : MI yX13_echoesHeard cX13_echoesHeard 2 (some .int) 1 := ⟨q_2620, q_152, by decide +kernel, by decide +kernel, by decide +kernel, by decide +kernel⟩
theorem mvX13_echoesHeard : MV yX13_echoesHeard := ⟨q_2618, q_2619⟩
def FX13_echoesHeard (w : Wd) (p1 : Int32) : Option (Int32 × Wd) :=
  bo2 (FX13_inCustomer w p1 3) fun x2 w3 =>
  some (x2, w3)
set_option maxHeartbeats 4000000 in
set_option maxRecDepth 100000 in
theorem ctX13_echoesHeard {G : GG} {l : Launch} (w : Wd) (p1 : Int32)  {rx : Int32} {rw : Wd} (hF : FX13_echoesHeard w p1 = some (rx, rw)) : CT G l yX13_echoesHeard cX13_echoesHeard 2 (some .int) rmX13_echoesHeard 0 0 [.ref (adr G 15 0), .int p1] w (some (.int rx)) rw := by
  refine CT.of miX13_echoesHeard [(0, .ref (adr G 15 0)), (1, .int p1)] rfl (Nat.le_of_ble_eq_true rfl) ?_
  intro p e s m args below meth c hX hR hlk
  have hX : FX G RX13 cX13_echoesHeard 2 p s m args c := hX
  unfold FX13_echoesHeard at hF
  refine J_aload_n hX dX13_echoesHeard_0 0 rfl (t := 1) rfl ?_
  refine J_iload_n hX dX13_echoesHeard_1 1 rfl (t := 2) rfl ?_
  refine J_iconst (v := 3) hX dX13_echoesHeard_2 (by decide) (t := 3) rfl ?_
  obtain ⟨x2, w3, h1, hF⟩ := bo2_e hF
  have k4 := (ctX13_inCustomer (G := G) (l := l) w p1 3 h1)
  refine J_callV hX [.int p1, .int 3] [] [.int x2] k4 miX13_inCustomer mvX13_inCustomer cb10 kModel q_2601 ⟨rfl, rfl, Nat.le_of_ble_eq_true rfl, Nat.le_of_ble_eq_true rfl⟩ rfl rfl (Nat.le_of_ble_eq_true rfl) ⟨Nat.le_of_ble_eq_true rfl, Nat.le_of_ble_eq_true rfl⟩ dX13_echoesHeard_3 (t := 6) rfl rfl ?_
  replace hF := Option.some.inj hF
  obtain ⟨hF, hF2⟩ := Prod.mk.inj hF
  subst hF
  subst hF2
  exact J_iret hX hR hlk dX13_echoesHeard_6
abbrev rmX13_angryCustomers : Room := { frames := 3, cells := 0, slots := 0, locals := 63 }
theorem miX13_angryCustomers : MI yX13_angryCustomers cX13_angryCustomers 3 (some .int) 0 := ⟨q_2624, q_152, by decide +kernel, by decide +kernel, by decide +kernel, by decide +kernel⟩
theorem mvX13_angryCustomers : MV yX13_angryCustomers := ⟨q_2622, q_2623⟩
def FX13_angryCustomers_L4 (n : Nat) : Nat → Wd → Int32 → Int32 → Option (Int32 × Wd)
  | 0 => fun _ _ _ => none
  | k + 1 => fun w l1 l2 =>
    gd (inb 1 390) <|
    if (w 15).1 2 1 ≤ l2 then
      bnd2 (FX13_told w l1) fun x3 w4 =>
      some (x3, w4)
    else
      bo1 (FX13_isAngryNow w l2) fun x7 =>
      bnd (FX13_truth x7) fun x10 =>
      FX13_angryCustomers_L4 n k w (l1 ||| (x10 <<< (l2 &&& 31))) (l2 + 1)
set_option maxHeartbeats 4000000 in
set_option maxRecDepth 100000 in
theorem LX13_angryCustomers_4 {G : GG} {l : Launch} {p : Program} {e : Env} {s : State} {m : MethodId} {args : Array Value} {below : List Frame} {meth : Method} {c : Code} (hX : FX G RX13 cX13_angryCustomers 3 p s m args c) (hR : meth.sig.returnType = (some .int)) (hlk : meth.locks = false) {rx : Int32} {rw : Wd} (n : Nat) : ∀ (k : Nat) (w : Wd) (l1 : Int32) (l2 : Int32) , FX13_angryCustomers_L4 n k w l1 l2 = some (rx, rw) → J G p l e rmX13_angryCustomers s m args below meth c 3 0 0 (MQ below (QV G (some (.int rx)) rw) args s 0 0 (gA G)) (GH G w) 4 [(0, .ref (adr G 15 0)), (1, .int l1), (2, .int l2)] [] := by
  intro k
  induction k with
  | zero => intro w l1 l2  hF; cases hF
  | succ k ih =>
    intro w l1 l2  hF
    simp only [FX13_angryCustomers_L4] at hF
    refine J_iload_n hX dX13_angryCustomers_4 2 rfl (t := 5) rfl ?_
    refine J_aload_n hX dX13_angryCustomers_5 0 rfl (t := 6) rfl ?_
    refine J_get hX cb10 kModel 13 (by decide) q_1980 rfl dX13_angryCustomers_6 (t := 9) rfl ?_
    refine J_iconst (v := 1) hX dX13_angryCustomers_9 (by decide) (t := 10) rfl ?_
    obtain ⟨g1, hF⟩ := gd_e hF
    refine J_iald hX (kInts (j := 2) (n := 390) (by decide) (by decide) rfl) g1 rfl dX13_angryCustomers_10 (t := 11) rfl ?_
    refine J_icmp_ge (tgt := 33) hX dX13_angryCustomers_11 (by decide) (t := 14) rfl (fun z => ?_) (fun z => ?_)
    · replace hF := it_t hF z
      refine J_aload_n hX dX13_angryCustomers_33 0 rfl (t := 34) rfl ?_
      refine J_iload_n hX dX13_angryCustomers_34 1 rfl (t := 35) rfl ?_
      obtain ⟨x3, w4, h2, hF⟩ := bnd2_e hF
      have k5 := (ctX13_told (G := G) (l := l) w l1 h2)
      refine J_callV hX [.int l1] [] [.int x3] k5 miX13_told mvX13_told cb10 kModel q_2479 ⟨rfl, rfl, Nat.le_of_ble_eq_true rfl, Nat.le_of_ble_eq_true rfl⟩ rfl rfl (Nat.le_of_ble_eq_true rfl) ⟨Nat.le_of_ble_eq_true rfl, Nat.le_of_ble_eq_true rfl⟩ dX13_angryCustomers_35 (t := 38) rfl rfl ?_
      replace hF := Option.some.inj hF
      obtain ⟨hF, hF2⟩ := Prod.mk.inj hF
      subst hF
      subst hF2
      exact J_iret hX hR hlk dX13_angryCustomers_38
    · replace hF := it_f hF z
      refine J_iload_n hX dX13_angryCustomers_14 1 rfl (t := 15) rfl ?_
      refine J_aload_n hX dX13_angryCustomers_15 0 rfl (t := 16) rfl ?_
      refine J_iload_n hX dX13_angryCustomers_16 2 rfl (t := 17) rfl ?_
      obtain ⟨x7, h6, hF⟩ := bo1_e hF
      have k8 := (ctX13_isAngryNow (G := G) (l := l) w l2 h6)
      refine J_callV hX [.int l2] [.int l1] [.int (bI x7), .int l1] k8 miX13_isAngryNow mvX13_isAngryNow cb10 kModel q_2244 ⟨rfl, rfl, Nat.le_of_ble_eq_true rfl, Nat.le_of_ble_eq_true rfl⟩ rfl rfl (Nat.le_of_ble_eq_true rfl) ⟨Nat.le_of_ble_eq_true rfl, Nat.le_of_ble_eq_true rfl⟩ dX13_angryCustomers_17 (t := 20) rfl rfl ?_
      obtain ⟨x10, h9, hF⟩ := bnd_e hF
      have k11 := (ctX13_truth (l := l) (G := G) (w := w) x7 h9)
      refine J_callS hX [.int (bI x7)] [.int l1] [.int x10, .int l1] k11 miX13_truth q_2083 q_2082 ⟨rfl, rfl, Nat.le_of_ble_eq_true rfl, Nat.le_of_ble_eq_true rfl⟩ rfl rfl (Nat.le_of_ble_eq_true rfl) ⟨Nat.le_of_ble_eq_true rfl, Nat.le_of_ble_eq_true rfl⟩ dX13_angryCustomers_20 (t := 23) rfl rfl ?_
      refine J_iload_n hX dX13_angryCustomers_23 2 rfl (t := 24) rfl ?_
      refine J_ishl hX dX13_angryCustomers_24 (t := 25) rfl ?_
      refine J_ior hX dX13_angryCustomers_25 (t := 26) rfl ?_
      refine J_istore_n (lc2 := [(1, .int (l1 ||| (x10 <<< (l2 &&& 31)))), (0, .ref (adr G 15 0)), (2, .int l2)]) hX dX13_angryCustomers_26 rfl (Nat.le_of_ble_eq_true rfl) rfl (t := 27) rfl ?_
      refine J_iinc (v := l2 + 1) (lc2 := [(2, .int (l2 + 1)), (1, .int (l1 ||| (x10 <<< (l2 &&& 31)))), (0, .ref (adr G 15 0))]) hX dX13_angryCustomers_27 2 rfl rfl (Nat.le_of_ble_eq_true rfl) rfl (t := 30) rfl ?_
      refine J_goto (tgt := 4) hX dX13_angryCustomers_30 (by decide) ?_
      refine J_sub (lc2 := [(0, .ref (adr G 15 0)), (1, .int (l1 ||| (x10 <<< (l2 &&& 31)))), (2, .int (l2 + 1))]) [2, 1, 0] rfl ?_
      exact ih w (l1 ||| (x10 <<< (l2 &&& 31))) (l2 + 1) hF
def FX13_angryCustomers (n : Nat) (w : Wd)  : Option (Int32 × Wd) :=
  FX13_angryCustomers_L4 n n w 0 0
set_option maxHeartbeats 4000000 in
set_option maxRecDepth 100000 in
theorem ctX13_angryCustomers {G : GG} {l : Launch} (w : Wd)   (n : Nat) {rx : Int32} {rw : Wd} (hF : FX13_angryCustomers n w  = some (rx, rw)) : CT G l yX13_angryCustomers cX13_angryCustomers 3 (some .int) rmX13_angryCustomers 0 0 [.ref (adr G 15 0)] w (some (.int rx)) rw := by
  refine CT.of miX13_angryCustomers [(0, .ref (adr G 15 0))] rfl (Nat.le_of_ble_eq_true rfl) ?_
  intro p e s m args below meth c hX hR hlk
  have hX : FX G RX13 cX13_angryCustomers 3 p s m args c := hX
  unfold FX13_angryCustomers at hF
  refine J_iconst (v := 0) hX dX13_angryCustomers_0 (by decide) (t := 1) rfl ?_
  refine J_istore_n (lc2 := [(1, .int 0), (0, .ref (adr G 15 0))]) hX dX13_angryCustomers_1 rfl (Nat.le_of_ble_eq_true rfl) rfl (t := 2) rfl ?_
  refine J_iconst (v := 0) hX dX13_angryCustomers_2 (by decide) (t := 3) rfl ?_
  refine J_istore_n (lc2 := [(2, .int 0), (1, .int 0), (0, .ref (adr G 15 0))]) hX dX13_angryCustomers_3 rfl (Nat.le_of_ble_eq_true rfl) rfl (t := 4) rfl ?_
  refine J_sub (lc2 := [(0, .ref (adr G 15 0)), (1, .int 0), (2, .int 0)]) [2, 1, 0] rfl ?_
  exact LX13_angryCustomers_4 hX hR hlk n n w 0 0 hF
abbrev rmX13_bestCustomer : Room := { frames := 2, cells := 0, slots := 0, locals := 42 }
theorem miX13_bestCustomer : MI yX13_bestCustomer cX13_bestCustomer 3 (some .int) 0 := ⟨q_2628, q_152, by decide +kernel, by decide +kernel, by decide +kernel, by decide +kernel⟩
theorem mvX13_bestCustomer : MV yX13_bestCustomer := ⟨q_2626, q_2627⟩
def FX13_bestCustomer_L4 (n : Nat) : Nat → Wd → Int32 → Int32 → Option (Int32 × Wd)
  | 0 => fun _ _ _ => none
  | k + 1 => fun w l1 l2 =>
    gd (inb 1 390) <|
    if (w 15).1 2 1 ≤ l2 then
      bnd2 (FX13_told w l1) fun x3 w4 =>
      some (x3, w4)
    else
      if l1 = (-1) then
        FX13_bestCustomer_L4 n k w l2 (l2 + 1)
      else
        bo1 (FX13_ofCustomer w l2 3) fun x7 =>
        bo1 (FX13_ofCustomer w l1 3) fun x10 =>
        if x7 ≤ x10 then
          FX13_bestCustomer_L4 n k w l1 (l2 + 1)
        else
          FX13_bestCustomer_L4 n k w l2 (l2 + 1)
set_option maxHeartbeats 4000000 in
set_option maxRecDepth 100000 in
theorem LX13_bestCustomer_4 {G : GG} {l : Launch} {p : Program} {e : Env} {s : State} {m : MethodId} {args : Array Value} {below : List Frame} {meth : Method} {c : Code} (hX : FX G RX13 cX13_bestCustomer 3 p s m args c) (hR : meth.sig.returnType = (some .int)) (hlk : meth.locks = false) {rx : Int32} {rw : Wd} (n : Nat) : ∀ (k : Nat) (w : Wd) (l1 : Int32) (l2 : Int32) , FX13_bestCustomer_L4 n k w l1 l2 = some (rx, rw) → J G p l e rmX13_bestCustomer s m args below meth c 3 0 0 (MQ below (QV G (some (.int rx)) rw) args s 0 0 (gA G)) (GH G w) 4 [(0, .ref (adr G 15 0)), (1, .int l1), (2, .int l2)] [] := by
  intro k
  induction k with
  | zero => intro w l1 l2  hF; cases hF
  | succ k ih =>
    intro w l1 l2  hF
    simp only [FX13_bestCustomer_L4] at hF
    refine J_iload_n hX dX13_bestCustomer_4 2 rfl (t := 5) rfl ?_
    refine J_aload_n hX dX13_bestCustomer_5 0 rfl (t := 6) rfl ?_
    refine J_get hX cb10 kModel 13 (by decide) q_1980 rfl dX13_bestCustomer_6 (t := 9) rfl ?_
    refine J_iconst (v := 1) hX dX13_bestCustomer_9 (by decide) (t := 10) rfl ?_
    obtain ⟨g1, hF⟩ := gd_e hF
    refine J_iald hX (kInts (j := 2) (n := 390) (by decide) (by decide) rfl) g1 rfl dX13_bestCustomer_10 (t := 11) rfl ?_
    refine J_icmp_ge (tgt := 42) hX dX13_bestCustomer_11 (by decide) (t := 14) rfl (fun z => ?_) (fun z => ?_)
    · replace hF := it_t hF z
      refine J_aload_n hX dX13_bestCustomer_42 0 rfl (t := 43) rfl ?_
      refine J_iload_n hX dX13_bestCustomer_43 1 rfl (t := 44) rfl ?_
      obtain ⟨x3, w4, h2, hF⟩ := bnd2_e hF
      have k5 := (ctX13_told (G := G) (l := l) w l1 h2)
      refine J_callV hX [.int l1] [] [.int x3] k5 miX13_told mvX13_told cb10 kModel q_2479 ⟨rfl, rfl, Nat.le_of_ble_eq_true rfl, Nat.le_of_ble_eq_true rfl⟩ rfl rfl (Nat.le_of_ble_eq_true rfl) ⟨Nat.le_of_ble_eq_true rfl, Nat.le_of_ble_eq_true rfl⟩ dX13_bestCustomer_44 (t := 47) rfl rfl ?_
      replace hF := Option.some.inj hF
      obtain ⟨hF, hF2⟩ := Prod.mk.inj hF
      subst hF
      subst hF2
      exact J_iret hX hR hlk dX13_bestCustomer_47
    · replace hF := it_f hF z
      refine J_iload_n hX dX13_bestCustomer_14 1 rfl (t := 15) rfl ?_
      refine J_iconst (v := (-1)) hX dX13_bestCustomer_15 (by decide) (t := 16) rfl ?_
      refine J_icmp_eq (tgt := 34) hX dX13_bestCustomer_16 (by decide) (t := 19) rfl (fun z => ?_) (fun z => ?_)
      · replace hF := it_t hF z
        refine J_iload_n hX dX13_bestCustomer_34 2 rfl (t := 35) rfl ?_
        refine J_istore_n (lc2 := [(1, .int l2), (0, .ref (adr G 15 0)), (2, .int l2)]) hX dX13_bestCustomer_35 rfl (Nat.le_of_ble_eq_true rfl) rfl (t := 36) rfl ?_
        refine J_iinc (v := l2 + 1) (lc2 := [(2, .int (l2 + 1)), (1, .int l2), (0, .ref (adr G 15 0))]) hX dX13_bestCustomer_36 2 rfl rfl (Nat.le_of_ble_eq_true rfl) rfl (t := 39) rfl ?_
        refine J_goto (tgt := 4) hX dX13_bestCustomer_39 (by decide) ?_
        refine J_sub (lc2 := [(0, .ref (adr G 15 0)), (1, .int l2), (2, .int (l2 + 1))]) [2, 1, 0] rfl ?_
        exact ih w l2 (l2 + 1) hF
      · replace hF := it_f hF z
        refine J_aload_n hX dX13_bestCustomer_19 0 rfl (t := 20) rfl ?_
        refine J_iload_n hX dX13_bestCustomer_20 2 rfl (t := 21) rfl ?_
        refine J_iconst (v := 3) hX dX13_bestCustomer_21 (by decide) (t := 22) rfl ?_
        obtain ⟨x7, h6, hF⟩ := bo1_e hF
        have k8 := (ctX13_ofCustomer (G := G) (l := l) w l2 3 h6)
        refine J_callV hX [.int l2, .int 3] [] [.int x7] k8 miX13_ofCustomer mvX13_ofCustomer cb10 kModel q_2229 ⟨rfl, rfl, Nat.le_of_ble_eq_true rfl, Nat.le_of_ble_eq_true rfl⟩ rfl rfl (Nat.le_of_ble_eq_true rfl) ⟨Nat.le_of_ble_eq_true rfl, Nat.le_of_ble_eq_true rfl⟩ dX13_bestCustomer_22 (t := 25) rfl rfl ?_
        refine J_aload_n hX dX13_bestCustomer_25 0 rfl (t := 26) rfl ?_
        refine J_iload_n hX dX13_bestCustomer_26 1 rfl (t := 27) rfl ?_
        refine J_iconst (v := 3) hX dX13_bestCustomer_27 (by decide) (t := 28) rfl ?_
        obtain ⟨x10, h9, hF⟩ := bo1_e hF
        have k11 := (ctX13_ofCustomer (G := G) (l := l) w l1 3 h9)
        refine J_callV hX [.int l1, .int 3] [.int x7] [.int x10, .int x7] k11 miX13_ofCustomer mvX13_ofCustomer cb10 kModel q_2229 ⟨rfl, rfl, Nat.le_of_ble_eq_true rfl, Nat.le_of_ble_eq_true rfl⟩ rfl rfl (Nat.le_of_ble_eq_true rfl) ⟨Nat.le_of_ble_eq_true rfl, Nat.le_of_ble_eq_true rfl⟩ dX13_bestCustomer_28 (t := 31) rfl rfl ?_
        refine J_icmp_le (tgt := 36) hX dX13_bestCustomer_31 (by decide) (t := 34) rfl (fun z => ?_) (fun z => ?_)
        · replace hF := it_t hF z
          refine J_iinc (v := l2 + 1) (lc2 := [(2, .int (l2 + 1)), (0, .ref (adr G 15 0)), (1, .int l1)]) hX dX13_bestCustomer_36 2 rfl rfl (Nat.le_of_ble_eq_true rfl) rfl (t := 39) rfl ?_
          refine J_goto (tgt := 4) hX dX13_bestCustomer_39 (by decide) ?_
          refine J_sub (lc2 := [(0, .ref (adr G 15 0)), (1, .int l1), (2, .int (l2 + 1))]) [1, 2, 0] rfl ?_
          exact ih w l1 (l2 + 1) hF
        · replace hF := it_f hF z
          refine J_iload_n hX dX13_bestCustomer_34 2 rfl (t := 35) rfl ?_
          refine J_istore_n (lc2 := [(1, .int l2), (0, .ref (adr G 15 0)), (2, .int l2)]) hX dX13_bestCustomer_35 rfl (Nat.le_of_ble_eq_true rfl) rfl (t := 36) rfl ?_
          refine J_iinc (v := l2 + 1) (lc2 := [(2, .int (l2 + 1)), (1, .int l2), (0, .ref (adr G 15 0))]) hX dX13_bestCustomer_36 2 rfl rfl (Nat.le_of_ble_eq_true rfl) rfl (t := 39) rfl ?_
          refine J_goto (tgt := 4) hX dX13_bestCustomer_39 (by decide) ?_
          refine J_sub (lc2 := [(0, .ref (adr G 15 0)), (1, .int l2), (2, .int (l2 + 1))]) [2, 1, 0] rfl ?_
          exact ih w l2 (l2 + 1) hF
def FX13_bestCustomer (n : Nat) (w : Wd)  : Option (Int32 × Wd) :=
  FX13_bestCustomer_L4 n n w (-1) 0
set_option maxHeartbeats 4000000 in
set_option maxRecDepth 100000 in
theorem ctX13_bestCustomer {G : GG} {l : Launch} (w : Wd)   (n : Nat) {rx : Int32} {rw : Wd} (hF : FX13_bestCustomer n w  = some (rx, rw)) : CT G l yX13_bestCustomer cX13_bestCustomer 3 (some .int) rmX13_bestCustomer 0 0 [.ref (adr G 15 0)] w (some (.int rx)) rw := by
  refine CT.of miX13_bestCustomer [(0, .ref (adr G 15 0))] rfl (Nat.le_of_ble_eq_true rfl) ?_
  intro p e s m args below meth c hX hR hlk
  have hX : FX G RX13 cX13_bestCustomer 3 p s m args c := hX
  unfold FX13_bestCustomer at hF
  refine J_iconst (v := (-1)) hX dX13_bestCustomer_0 (by decide) (t := 1) rfl ?_
  refine J_istore_n (lc2 := [(1, .int (-1)), (0, .ref (adr G 15 0))]) hX dX13_bestCustomer_1 rfl (Nat.le_of_ble_eq_true rfl) rfl (t := 2) rfl ?_
  refine J_iconst (v := 0) hX dX13_bestCustomer_2 (by decide) (t := 3) rfl ?_
  refine J_istore_n (lc2 := [(2, .int 0), (1, .int (-1)), (0, .ref (adr G 15 0))]) hX dX13_bestCustomer_3 rfl (Nat.le_of_ble_eq_true rfl) rfl (t := 4) rfl ?_
  refine J_sub (lc2 := [(0, .ref (adr G 15 0)), (1, .int (-1)), (2, .int 0)]) [2, 1, 0] rfl ?_
  exact LX13_bestCustomer_4 hX hR hlk n n w (-1) 0 hF
abbrev rmX13_heldFor : Room := { frames := 4, cells := 0, slots := 0, locals := 86 }
theorem miX13_heldFor : MI yX13_heldFor cX13_heldFor 2 (some .int) 1 := ⟨q_2632, q_152, by decide +kernel, by decide +kernel, by decide +kernel, by decide +kernel⟩
theorem mvX13_heldFor : MV yX13_heldFor := ⟨q_2630, q_2631⟩
def FX13_heldFor (n : Nat) (w : Wd) (p1 : Int32) : Option (Int32 × Wd) :=
  bo1 (FX13_isCustomer w p1) fun x2 =>
  bnd2 (FX13_goes w x2) fun x5 w6 =>
  if x5 = true then
    bo1 (FX13_heldOf n w6 p1) fun x9 =>
    some (x9, w6)
  else
    some (0, w6)
set_option maxHeartbeats 4000000 in
set_option maxRecDepth 100000 in
theorem ctX13_heldFor {G : GG} {l : Launch} (w : Wd) (p1 : Int32)  (n : Nat) {rx : Int32} {rw : Wd} (hF : FX13_heldFor n w p1 = some (rx, rw)) : CT G l yX13_heldFor cX13_heldFor 2 (some .int) rmX13_heldFor 0 0 [.ref (adr G 15 0), .int p1] w (some (.int rx)) rw := by
  refine CT.of miX13_heldFor [(0, .ref (adr G 15 0)), (1, .int p1)] rfl (Nat.le_of_ble_eq_true rfl) ?_
  intro p e s m args below meth c hX hR hlk
  have hX : FX G RX13 cX13_heldFor 2 p s m args c := hX
  unfold FX13_heldFor at hF
  refine J_aload_n hX dX13_heldFor_0 0 rfl (t := 1) rfl ?_
  refine J_aload_n hX dX13_heldFor_1 0 rfl (t := 2) rfl ?_
  refine J_iload_n hX dX13_heldFor_2 1 rfl (t := 3) rfl ?_
  obtain ⟨x2, h1, hF⟩ := bo1_e hF
  have k3 := (ctX13_isCustomer (G := G) (l := l) w p1 h1)
  refine J_callV hX [.int p1] [.ref (adr G 15 0)] [.int (bI x2), .ref (adr G 15 0)] k3 miX13_isCustomer mvX13_isCustomer cb10 kModel q_2209 ⟨rfl, rfl, Nat.le_of_ble_eq_true rfl, Nat.le_of_ble_eq_true rfl⟩ rfl rfl (Nat.le_of_ble_eq_true rfl) ⟨Nat.le_of_ble_eq_true rfl, Nat.le_of_ble_eq_true rfl⟩ dX13_heldFor_3 (t := 6) rfl rfl ?_
  obtain ⟨x5, w6, h4, hF⟩ := bnd2_e hF
  have k7 := (ctX13_goes (G := G) (l := l) w x2 h4)
  refine J_callV hX [.int (bI x2)] [] [.int (bI x5)] k7 miX13_goes mvX13_goes cb10 kModel q_2078 ⟨rfl, rfl, Nat.le_of_ble_eq_true rfl, Nat.le_of_ble_eq_true rfl⟩ rfl rfl (Nat.le_of_ble_eq_true rfl) ⟨Nat.le_of_ble_eq_true rfl, Nat.le_of_ble_eq_true rfl⟩ dX13_heldFor_6 (t := 9) rfl rfl ?_
  refine J_ifZ_eq (tgt := 20) hX dX13_heldFor_9 (by decide) (t := 12) rfl (fun z => ?_) (fun z => ?_)
  · replace hF := ib_f hF z
    refine J_iconst (v := 0) hX dX13_heldFor_20 (by decide) (t := 21) rfl ?_
    replace hF := Option.some.inj hF
    obtain ⟨hF, hF2⟩ := Prod.mk.inj hF
    subst hF
    subst hF2
    exact J_iret hX hR hlk dX13_heldFor_21
  · replace hF := it_t hF z
    refine J_aload_n hX dX13_heldFor_12 0 rfl (t := 13) rfl ?_
    refine J_iload_n hX dX13_heldFor_13 1 rfl (t := 14) rfl ?_
    obtain ⟨x9, h8, hF⟩ := bo1_e hF
    have k10 := (ctX13_heldOf (G := G) (l := l) w6 p1 n h8)
    refine J_callV hX [.int p1] [] [.int x9] k10 miX13_heldOf mvX13_heldOf cb10 kModel q_2633 ⟨rfl, rfl, Nat.le_of_ble_eq_true rfl, Nat.le_of_ble_eq_true rfl⟩ rfl rfl (Nat.le_of_ble_eq_true rfl) ⟨Nat.le_of_ble_eq_true rfl, Nat.le_of_ble_eq_true rfl⟩ dX13_heldFor_14 (t := 17) rfl rfl ?_
    refine J_goto (tgt := 21) hX dX13_heldFor_17 (by decide) ?_
    replace hF := Option.some.inj hF
    obtain ⟨hF, hF2⟩ := Prod.mk.inj hF
    subst hF
    subst hF2
    exact J_iret hX hR hlk dX13_heldFor_21
abbrev rmX13_inShout : Room := { frames := 2, cells := 0, slots := 0, locals := 46 }
theorem miX13_inShout : MI yX13_inShout cX13_inShout 3 (some .int) 2 := ⟨q_2644, q_152, by decide +kernel, by decide +kernel, by decide +kernel, by decide +kernel⟩
theorem mvX13_inShout : MV yX13_inShout := ⟨q_2643, q_109⟩
def FX13_inShout (w : Wd) (p1 : Int32) (p2 : Int32) : Option (Int32 × Wd) :=
  bo1 (FX13_isShout0 w p1) fun x2 =>
  bnd2 (FX13_goes w x2) fun x5 w6 =>
  if x5 = true then
    bo1 (FX13_of w6 p1 p2) fun x9 =>
    some (x9, w6)
  else
    some (0, w6)
set_option maxHeartbeats 4000000 in
set_option maxRecDepth 100000 in
theorem ctX13_inShout {G : GG} {l : Launch} (w : Wd) (p1 : Int32) (p2 : Int32)  {rx : Int32} {rw : Wd} (hF : FX13_inShout w p1 p2 = some (rx, rw)) : CT G l yX13_inShout cX13_inShout 3 (some .int) rmX13_inShout 0 0 [.ref (adr G 15 0), .int p1, .int p2] w (some (.int rx)) rw := by
  refine CT.of miX13_inShout [(0, .ref (adr G 15 0)), (1, .int p1), (2, .int p2)] rfl (Nat.le_of_ble_eq_true rfl) ?_
  intro p e s m args below meth c hX hR hlk
  have hX : FX G RX13 cX13_inShout 3 p s m args c := hX
  unfold FX13_inShout at hF
  refine J_aload_n hX dX13_inShout_0 0 rfl (t := 1) rfl ?_
  refine J_aload_n hX dX13_inShout_1 0 rfl (t := 2) rfl ?_
  refine J_iload_n hX dX13_inShout_2 1 rfl (t := 3) rfl ?_
  obtain ⟨x2, h1, hF⟩ := bo1_e hF
  have k3 := (ctX13_isShout0 (G := G) (l := l) w p1 h1)
  refine J_callV hX [.int p1] [.ref (adr G 15 0)] [.int (bI x2), .ref (adr G 15 0)] k3 miX13_isShout0 mvX13_isShout0 cb10 kModel q_2260 ⟨rfl, rfl, Nat.le_of_ble_eq_true rfl, Nat.le_of_ble_eq_true rfl⟩ rfl rfl (Nat.le_of_ble_eq_true rfl) ⟨Nat.le_of_ble_eq_true rfl, Nat.le_of_ble_eq_true rfl⟩ dX13_inShout_3 (t := 6) rfl rfl ?_
  obtain ⟨x5, w6, h4, hF⟩ := bnd2_e hF
  have k7 := (ctX13_goes (G := G) (l := l) w x2 h4)
  refine J_callV hX [.int (bI x2)] [] [.int (bI x5)] k7 miX13_goes mvX13_goes cb10 kModel q_2078 ⟨rfl, rfl, Nat.le_of_ble_eq_true rfl, Nat.le_of_ble_eq_true rfl⟩ rfl rfl (Nat.le_of_ble_eq_true rfl) ⟨Nat.le_of_ble_eq_true rfl, Nat.le_of_ble_eq_true rfl⟩ dX13_inShout_6 (t := 9) rfl rfl ?_
  refine J_ifZ_eq (tgt := 21) hX dX13_inShout_9 (by decide) (t := 12) rfl (fun z => ?_) (fun z => ?_)
  · replace hF := ib_f hF z
    refine J_iconst (v := 0) hX dX13_inShout_21 (by decide) (t := 22) rfl ?_
    replace hF := Option.some.inj hF
    obtain ⟨hF, hF2⟩ := Prod.mk.inj hF
    subst hF
    subst hF2
    exact J_iret hX hR hlk dX13_inShout_22
  · replace hF := it_t hF z
    refine J_aload_n hX dX13_inShout_12 0 rfl (t := 13) rfl ?_
    refine J_iload_n hX dX13_inShout_13 1 rfl (t := 14) rfl ?_
    refine J_iload_n hX dX13_inShout_14 2 rfl (t := 15) rfl ?_
    obtain ⟨x9, h8, hF⟩ := bo1_e hF
    have k10 := (ctX13_of (G := G) (l := l) w6 p1 p2 h8)
    refine J_callV hX [.int p1, .int p2] [] [.int x9] k10 miX13_of mvX13_of cb10 kModel q_2237 ⟨rfl, rfl, Nat.le_of_ble_eq_true rfl, Nat.le_of_ble_eq_true rfl⟩ rfl rfl (Nat.le_of_ble_eq_true rfl) ⟨Nat.le_of_ble_eq_true rfl, Nat.le_of_ble_eq_true rfl⟩ dX13_inShout_15 (t := 18) rfl rfl ?_
    refine J_goto (tgt := 22) hX dX13_inShout_18 (by decide) ?_
    replace hF := Option.some.inj hF
    obtain ⟨hF, hF2⟩ := Prod.mk.inj hF
    subst hF
    subst hF2
    exact J_iret hX hR hlk dX13_inShout_22
abbrev rmX13_shoutCustomer : Room := { frames := 3, cells := 0, slots := 0, locals := 68 }
theorem miX13_shoutCustomer : MI yX13_shoutCustomer cX13_shoutCustomer 2 (some .int) 1 := ⟨q_2640, q_152, by decide +kernel, by decide +kernel, by decide +kernel, by decide +kernel⟩
theorem mvX13_shoutCustomer : MV yX13_shoutCustomer := ⟨q_2638, q_2639⟩
def FX13_shoutCustomer (w : Wd) (p1 : Int32) : Option (Int32 × Wd) :=
  bo2 (FX13_inShout w p1 0) fun x2 w3 =>
  some (x2, w3)
set_option maxHeartbeats 4000000 in
set_option maxRecDepth 100000 in
theorem ctX13_shoutCustomer {G : GG} {l : Launch} (w : Wd) (p1 : Int32)  {rx : Int32} {rw : Wd} (hF : FX13_shoutCustomer w p1 = some (rx, rw)) : CT G l yX13_shoutCustomer cX13_shoutCustomer 2 (some .int) rmX13_shoutCustomer 0 0 [.ref (adr G 15 0), .int p1] w (some (.int rx)) rw := by
  refine CT.of miX13_shoutCustomer [(0, .ref (adr G 15 0)), (1, .int p1)] rfl (Nat.le_of_ble_eq_true rfl) ?_
  intro p e s m args below meth c hX hR hlk
  have hX : FX G RX13 cX13_shoutCustomer 2 p s m args c := hX
  unfold FX13_shoutCustomer at hF
  refine J_aload_n hX dX13_shoutCustomer_0 0 rfl (t := 1) rfl ?_
  refine J_iload_n hX dX13_shoutCustomer_1 1 rfl (t := 2) rfl ?_
  refine J_iconst (v := 0) hX dX13_shoutCustomer_2 (by decide) (t := 3) rfl ?_
  obtain ⟨x2, w3, h1, hF⟩ := bo2_e hF
  have k4 := (ctX13_inShout (G := G) (l := l) w p1 0 h1)
  refine J_callV hX [.int p1, .int 0] [] [.int x2] k4 miX13_inShout mvX13_inShout cb10 kModel q_2641 ⟨rfl, rfl, Nat.le_of_ble_eq_true rfl, Nat.le_of_ble_eq_true rfl⟩ rfl rfl (Nat.le_of_ble_eq_true rfl) ⟨Nat.le_of_ble_eq_true rfl, Nat.le_of_ble_eq_true rfl⟩ dX13_shoutCustomer_3 (t := 6) rfl rfl ?_
  replace hF := Option.some.inj hF
  obtain ⟨hF, hF2⟩ := Prod.mk.inj hF
  subst hF
  subst hF2
  exact J_iret hX hR hlk dX13_shoutCustomer_6
abbrev rmX13_shoutValley : Room := { frames := 3, cells := 0, slots := 0, locals := 68 }
theorem miX13_shoutValley : MI yX13_shoutValley cX13_shoutValley 2 (some .int) 1 := ⟨q_2648, q_152, by decide +kernel, by decide +kernel, by decide +kernel, by decide +kernel⟩
theorem mvX13_shoutValley : MV yX13_shoutValley := ⟨q_2646, q_2647⟩
def FX13_shoutValley (w : Wd) (p1 : Int32) : Option (Int32 × Wd) :=
  bo2 (FX13_inShout w p1 1) fun x2 w3 =>
  some (x2, w3)
set_option maxHeartbeats 4000000 in
set_option maxRecDepth 100000 in
theorem ctX13_shoutValley {G : GG} {l : Launch} (w : Wd) (p1 : Int32)  {rx : Int32} {rw : Wd} (hF : FX13_shoutValley w p1 = some (rx, rw)) : CT G l yX13_shoutValley cX13_shoutValley 2 (some .int) rmX13_shoutValley 0 0 [.ref (adr G 15 0), .int p1] w (some (.int rx)) rw := by
  refine CT.of miX13_shoutValley [(0, .ref (adr G 15 0)), (1, .int p1)] rfl (Nat.le_of_ble_eq_true rfl) ?_
  intro p e s m args below meth c hX hR hlk
  have hX : FX G RX13 cX13_shoutValley 2 p s m args c := hX
  unfold FX13_shoutValley at hF
  refine J_aload_n hX dX13_shoutValley_0 0 rfl (t := 1) rfl ?_
  refine J_iload_n hX dX13_shoutValley_1 1 rfl (t := 2) rfl ?_
  refine J_iconst (v := 1) hX dX13_shoutValley_2 (by decide) (t := 3) rfl ?_
  obtain ⟨x2, w3, h1, hF⟩ := bo2_e hF
  have k4 := (ctX13_inShout (G := G) (l := l) w p1 1 h1)
  refine J_callV hX [.int p1, .int 1] [] [.int x2] k4 miX13_inShout mvX13_inShout cb10 kModel q_2641 ⟨rfl, rfl, Nat.le_of_ble_eq_true rfl, Nat.le_of_ble_eq_true rfl⟩ rfl rfl (Nat.le_of_ble_eq_true rfl) ⟨Nat.le_of_ble_eq_true rfl, Nat.le_of_ble_eq_true rfl⟩ dX13_shoutValley_3 (t := 6) rfl rfl ?_
  replace hF := Option.some.inj hF
  obtain ⟨hF, hF2⟩ := Prod.mk.inj hF
  subst hF
  subst hF2
  exact J_iret hX hR hlk dX13_shoutValley_6
abbrev rmX13_shoutState : Room := { frames := 3, cells := 0, slots := 0, locals := 68 }
theorem miX13_shoutState : MI yX13_shoutState cX13_shoutState 2 (some .int) 1 := ⟨q_2652, q_152, by decide +kernel, by decide +kernel, by decide +kernel, by decide +kernel⟩
theorem mvX13_shoutState : MV yX13_shoutState := ⟨q_2650, q_2651⟩
def FX13_shoutState (w : Wd) (p1 : Int32) : Option (Int32 × Wd) :=
  bo2 (FX13_inShout w p1 6) fun x2 w3 =>
  some (x2, w3)
set_option maxHeartbeats 4000000 in
set_option maxRecDepth 100000 in
theorem ctX13_shoutState {G : GG} {l : Launch} (w : Wd) (p1 : Int32)  {rx : Int32} {rw : Wd} (hF : FX13_shoutState w p1 = some (rx, rw)) : CT G l yX13_shoutState cX13_shoutState 2 (some .int) rmX13_shoutState 0 0 [.ref (adr G 15 0), .int p1] w (some (.int rx)) rw := by
  refine CT.of miX13_shoutState [(0, .ref (adr G 15 0)), (1, .int p1)] rfl (Nat.le_of_ble_eq_true rfl) ?_
  intro p e s m args below meth c hX hR hlk
  have hX : FX G RX13 cX13_shoutState 2 p s m args c := hX
  unfold FX13_shoutState at hF
  refine J_aload_n hX dX13_shoutState_0 0 rfl (t := 1) rfl ?_
  refine J_iload_n hX dX13_shoutState_1 1 rfl (t := 2) rfl ?_
  refine J_bipush (v := 6) hX dX13_shoutState_2 (by decide) (t := 4) rfl ?_
  obtain ⟨x2, w3, h1, hF⟩ := bo2_e hF
  have k4 := (ctX13_inShout (G := G) (l := l) w p1 6 h1)
  refine J_callV hX [.int p1, .int 6] [] [.int x2] k4 miX13_inShout mvX13_inShout cb10 kModel q_2641 ⟨rfl, rfl, Nat.le_of_ble_eq_true rfl, Nat.le_of_ble_eq_true rfl⟩ rfl rfl (Nat.le_of_ble_eq_true rfl) ⟨Nat.le_of_ble_eq_true rfl, Nat.le_of_ble_eq_true rfl⟩ dX13_shoutState_4 (t := 7) rfl rfl ?_
  replace hF := Option.some.inj hF
  obtain ⟨hF, hF2⟩ := Prod.mk.inj hF
  subst hF
  subst hF2
  exact J_iret hX hR hlk dX13_shoutState_7
abbrev rmX13_returns : Room := { frames := 3, cells := 0, slots := 0, locals := 68 }
theorem miX13_returns : MI yX13_returns cX13_returns 2 (some .int) 1 := ⟨q_2656, q_152, by decide +kernel, by decide +kernel, by decide +kernel, by decide +kernel⟩
theorem mvX13_returns : MV yX13_returns := ⟨q_2654, q_2655⟩
def FX13_returns (w : Wd) (p1 : Int32) : Option (Int32 × Wd) :=
  bo2 (FX13_inShout w p1 7) fun x2 w3 =>
  some (x2, w3)
set_option maxHeartbeats 4000000 in
set_option maxRecDepth 100000 in
theorem ctX13_returns {G : GG} {l : Launch} (w : Wd) (p1 : Int32)  {rx : Int32} {rw : Wd} (hF : FX13_returns w p1 = some (rx, rw)) : CT G l yX13_returns cX13_returns 2 (some .int) rmX13_returns 0 0 [.ref (adr G 15 0), .int p1] w (some (.int rx)) rw := by
  refine CT.of miX13_returns [(0, .ref (adr G 15 0)), (1, .int p1)] rfl (Nat.le_of_ble_eq_true rfl) ?_
  intro p e s m args below meth c hX hR hlk
  have hX : FX G RX13 cX13_returns 2 p s m args c := hX
  unfold FX13_returns at hF
  refine J_aload_n hX dX13_returns_0 0 rfl (t := 1) rfl ?_
  refine J_iload_n hX dX13_returns_1 1 rfl (t := 2) rfl ?_
  refine J_bipush (v := 7) hX dX13_returns_2 (by decide) (t := 4) rfl ?_
  obtain ⟨x2, w3, h1, hF⟩ := bo2_e hF
  have k4 := (ctX13_inShout (G := G) (l := l) w p1 7 h1)
  refine J_callV hX [.int p1, .int 7] [] [.int x2] k4 miX13_inShout mvX13_inShout cb10 kModel q_2641 ⟨rfl, rfl, Nat.le_of_ble_eq_true rfl, Nat.le_of_ble_eq_true rfl⟩ rfl rfl (Nat.le_of_ble_eq_true rfl) ⟨Nat.le_of_ble_eq_true rfl, Nat.le_of_ble_eq_true rfl⟩ dX13_returns_4 (t := 7) rfl rfl ?_
  replace hF := Option.some.inj hF
  obtain ⟨hF, hF2⟩ := Prod.mk.inj hF
  subst hF
  subst hF2
  exact J_iret hX hR hlk dX13_returns_7
abbrev rmX13_receipt : Room := { frames := 3, cells := 0, slots := 0, locals := 63 }
theorem miX13_receipt : MI yX13_receipt cX13_receipt 2 (some .int) 1 := ⟨q_2660, q_152, by decide +kernel, by decide +kernel, by decide +kernel, by decide +kernel⟩
theorem mvX13_receipt : MV yX13_receipt := ⟨q_2658, q_2659⟩
def FX13_receipt (n : Nat) (w : Wd) (p1 : Int32) : Option (Int32 × Wd) :=
  bo1 (FX13_isShout0 w p1) fun x2 =>
  bnd2 (FX13_goes w x2) fun x5 w6 =>
  if x5 = true then
    bo1 (FX13_receiptOf n w6 p1) fun x9 =>
    some (x9, w6)
  else
    some (0, w6)
set_option maxHeartbeats 4000000 in
set_option maxRecDepth 100000 in
theorem ctX13_receipt {G : GG} {l : Launch} (w : Wd) (p1 : Int32)  (n : Nat) {rx : Int32} {rw : Wd} (hF : FX13_receipt n w p1 = some (rx, rw)) : CT G l yX13_receipt cX13_receipt 2 (some .int) rmX13_receipt 0 0 [.ref (adr G 15 0), .int p1] w (some (.int rx)) rw := by
  refine CT.of miX13_receipt [(0, .ref (adr G 15 0)), (1, .int p1)] rfl (Nat.le_of_ble_eq_true rfl) ?_
  intro p e s m args below meth c hX hR hlk
  have hX : FX G RX13 cX13_receipt 2 p s m args c := hX
  unfold FX13_receipt at hF
  refine J_aload_n hX dX13_receipt_0 0 rfl (t := 1) rfl ?_
  refine J_aload_n hX dX13_receipt_1 0 rfl (t := 2) rfl ?_
  refine J_iload_n hX dX13_receipt_2 1 rfl (t := 3) rfl ?_
  obtain ⟨x2, h1, hF⟩ := bo1_e hF
  have k3 := (ctX13_isShout0 (G := G) (l := l) w p1 h1)
  refine J_callV hX [.int p1] [.ref (adr G 15 0)] [.int (bI x2), .ref (adr G 15 0)] k3 miX13_isShout0 mvX13_isShout0 cb10 kModel q_2260 ⟨rfl, rfl, Nat.le_of_ble_eq_true rfl, Nat.le_of_ble_eq_true rfl⟩ rfl rfl (Nat.le_of_ble_eq_true rfl) ⟨Nat.le_of_ble_eq_true rfl, Nat.le_of_ble_eq_true rfl⟩ dX13_receipt_3 (t := 6) rfl rfl ?_
  obtain ⟨x5, w6, h4, hF⟩ := bnd2_e hF
  have k7 := (ctX13_goes (G := G) (l := l) w x2 h4)
  refine J_callV hX [.int (bI x2)] [] [.int (bI x5)] k7 miX13_goes mvX13_goes cb10 kModel q_2078 ⟨rfl, rfl, Nat.le_of_ble_eq_true rfl, Nat.le_of_ble_eq_true rfl⟩ rfl rfl (Nat.le_of_ble_eq_true rfl) ⟨Nat.le_of_ble_eq_true rfl, Nat.le_of_ble_eq_true rfl⟩ dX13_receipt_6 (t := 9) rfl rfl ?_
  refine J_ifZ_eq (tgt := 20) hX dX13_receipt_9 (by decide) (t := 12) rfl (fun z => ?_) (fun z => ?_)
  · replace hF := ib_f hF z
    refine J_iconst (v := 0) hX dX13_receipt_20 (by decide) (t := 21) rfl ?_
    replace hF := Option.some.inj hF
    obtain ⟨hF, hF2⟩ := Prod.mk.inj hF
    subst hF
    subst hF2
    exact J_iret hX hR hlk dX13_receipt_21
  · replace hF := it_t hF z
    refine J_aload_n hX dX13_receipt_12 0 rfl (t := 13) rfl ?_
    refine J_iload_n hX dX13_receipt_13 1 rfl (t := 14) rfl ?_
    obtain ⟨x9, h8, hF⟩ := bo1_e hF
    have k10 := (ctX13_receiptOf (G := G) (l := l) w6 p1 n h8)
    refine J_callV hX [.int p1] [] [.int x9] k10 miX13_receiptOf mvX13_receiptOf cb10 kModel q_2566 ⟨rfl, rfl, Nat.le_of_ble_eq_true rfl, Nat.le_of_ble_eq_true rfl⟩ rfl rfl (Nat.le_of_ble_eq_true rfl) ⟨Nat.le_of_ble_eq_true rfl, Nat.le_of_ble_eq_true rfl⟩ dX13_receipt_14 (t := 17) rfl rfl ?_
    refine J_goto (tgt := 21) hX dX13_receipt_17 (by decide) ?_
    replace hF := Option.some.inj hF
    obtain ⟨hF, hF2⟩ := Prod.mk.inj hF
    subst hF
    subst hF2
    exact J_iret hX hR hlk dX13_receipt_21
abbrev rmX13_nextReturn : Room := { frames := 3, cells := 0, slots := 0, locals := 67 }
theorem miX13_nextReturn : MI yX13_nextReturn cX13_nextReturn 2 (some .int) 1 := ⟨q_2664, q_152, by decide +kernel, by decide +kernel, by decide +kernel, by decide +kernel⟩
theorem mvX13_nextReturn : MV yX13_nextReturn := ⟨q_2662, q_2663⟩
def FX13_nextReturn (w : Wd) (p1 : Int32) : Option (Int32 × Wd) :=
  bo1 (FX13_isShout0 w p1) fun x2 =>
  bnd2 (FX13_goes w x2) fun x5 w6 =>
  if x5 = true then
    bo1 (FX13_isOpen w6 p1) fun x9 =>
    if x9 = true then
      bo1 (FX13_returnsAt w6 p1) fun x12 =>
      some (x12, w6)
    else
      some ((-1), w6)
  else
    some (0, w6)
set_option maxHeartbeats 4000000 in
set_option maxRecDepth 100000 in
theorem ctX13_nextReturn {G : GG} {l : Launch} (w : Wd) (p1 : Int32)  {rx : Int32} {rw : Wd} (hF : FX13_nextReturn w p1 = some (rx, rw)) : CT G l yX13_nextReturn cX13_nextReturn 2 (some .int) rmX13_nextReturn 0 0 [.ref (adr G 15 0), .int p1] w (some (.int rx)) rw := by
  refine CT.of miX13_nextReturn [(0, .ref (adr G 15 0)), (1, .int p1)] rfl (Nat.le_of_ble_eq_true rfl) ?_
  intro p e s m args below meth c hX hR hlk
  have hX : FX G RX13 cX13_nextReturn 2 p s m args c := hX
  unfold FX13_nextReturn at hF
  refine J_aload_n hX dX13_nextReturn_0 0 rfl (t := 1) rfl ?_
  refine J_aload_n hX dX13_nextReturn_1 0 rfl (t := 2) rfl ?_
  refine J_iload_n hX dX13_nextReturn_2 1 rfl (t := 3) rfl ?_
  obtain ⟨x2, h1, hF⟩ := bo1_e hF
  have k3 := (ctX13_isShout0 (G := G) (l := l) w p1 h1)
  refine J_callV hX [.int p1] [.ref (adr G 15 0)] [.int (bI x2), .ref (adr G 15 0)] k3 miX13_isShout0 mvX13_isShout0 cb10 kModel q_2260 ⟨rfl, rfl, Nat.le_of_ble_eq_true rfl, Nat.le_of_ble_eq_true rfl⟩ rfl rfl (Nat.le_of_ble_eq_true rfl) ⟨Nat.le_of_ble_eq_true rfl, Nat.le_of_ble_eq_true rfl⟩ dX13_nextReturn_3 (t := 6) rfl rfl ?_
  obtain ⟨x5, w6, h4, hF⟩ := bnd2_e hF
  have k7 := (ctX13_goes (G := G) (l := l) w x2 h4)
  refine J_callV hX [.int (bI x2)] [] [.int (bI x5)] k7 miX13_goes mvX13_goes cb10 kModel q_2078 ⟨rfl, rfl, Nat.le_of_ble_eq_true rfl, Nat.le_of_ble_eq_true rfl⟩ rfl rfl (Nat.le_of_ble_eq_true rfl) ⟨Nat.le_of_ble_eq_true rfl, Nat.le_of_ble_eq_true rfl⟩ dX13_nextReturn_6 (t := 9) rfl rfl ?_
  refine J_ifZ_ne (tgt := 14) hX dX13_nextReturn_9 (by decide) (t := 12) rfl (fun z => ?_) (fun z => ?_)
  · replace hF := it_t hF z
    refine J_aload_n hX dX13_nextReturn_14 0 rfl (t := 15) rfl ?_
    refine J_iload_n hX dX13_nextReturn_15 1 rfl (t := 16) rfl ?_
    obtain ⟨x9, h8, hF⟩ := bo1_e hF
    have k10 := (ctX13_isOpen (G := G) (l := l) w6 p1 h8)
    refine J_callV hX [.int p1] [] [.int (bI x9)] k10 miX13_isOpen mvX13_isOpen cb10 kModel q_2264 ⟨rfl, rfl, Nat.le_of_ble_eq_true rfl, Nat.le_of_ble_eq_true rfl⟩ rfl rfl (Nat.le_of_ble_eq_true rfl) ⟨Nat.le_of_ble_eq_true rfl, Nat.le_of_ble_eq_true rfl⟩ dX13_nextReturn_16 (t := 19) rfl rfl ?_
    refine J_ifZ_eq (tgt := 30) hX dX13_nextReturn_19 (by decide) (t := 22) rfl (fun z => ?_) (fun z => ?_)
    · replace hF := ib_f hF z
      refine J_iconst (v := (-1)) hX dX13_nextReturn_30 (by decide) (t := 31) rfl ?_
      replace hF := Option.some.inj hF
      obtain ⟨hF, hF2⟩ := Prod.mk.inj hF
      subst hF
      subst hF2
      exact J_iret hX hR hlk dX13_nextReturn_31
    · replace hF := it_t hF z
      refine J_aload_n hX dX13_nextReturn_22 0 rfl (t := 23) rfl ?_
      refine J_iload_n hX dX13_nextReturn_23 1 rfl (t := 24) rfl ?_
      obtain ⟨x12, h11, hF⟩ := bo1_e hF
      have k13 := (ctX13_returnsAt (G := G) (l := l) w6 p1 h11)
      refine J_callV hX [.int p1] [] [.int x12] k13 miX13_returnsAt mvX13_returnsAt cb10 kModel q_2347 ⟨rfl, rfl, Nat.le_of_ble_eq_true rfl, Nat.le_of_ble_eq_true rfl⟩ rfl rfl (Nat.le_of_ble_eq_true rfl) ⟨Nat.le_of_ble_eq_true rfl, Nat.le_of_ble_eq_true rfl⟩ dX13_nextReturn_24 (t := 27) rfl rfl ?_
      refine J_goto (tgt := 31) hX dX13_nextReturn_27 (by decide) ?_
      replace hF := Option.some.inj hF
      obtain ⟨hF, hF2⟩ := Prod.mk.inj hF
      subst hF
      subst hF2
      exact J_iret hX hR hlk dX13_nextReturn_31
  · replace hF := ib_f hF z
    refine J_iconst (v := 0) hX dX13_nextReturn_12 (by decide) (t := 13) rfl ?_
    replace hF := Option.some.inj hF
    obtain ⟨hF, hF2⟩ := Prod.mk.inj hF
    subst hF
    subst hF2
    exact J_iret hX hR hlk dX13_nextReturn_13
abbrev rmX13_patienceEnds : Room := { frames := 3, cells := 0, slots := 0, locals := 63 }
theorem miX13_patienceEnds : MI yX13_patienceEnds cX13_patienceEnds 2 (some .int) 1 := ⟨q_2668, q_152, by decide +kernel, by decide +kernel, by decide +kernel, by decide +kernel⟩
theorem mvX13_patienceEnds : MV yX13_patienceEnds := ⟨q_2666, q_2667⟩
def FX13_patienceEnds (w : Wd) (p1 : Int32) : Option (Int32 × Wd) :=
  bo1 (FX13_isShout0 w p1) fun x2 =>
  bnd2 (FX13_goes w x2) fun x5 w6 =>
  if x5 = true then
    bo1 (FX13_endsAt w6 p1) fun x9 =>
    some (x9, w6)
  else
    some (0, w6)
set_option maxHeartbeats 4000000 in
set_option maxRecDepth 100000 in
theorem ctX13_patienceEnds {G : GG} {l : Launch} (w : Wd) (p1 : Int32)  {rx : Int32} {rw : Wd} (hF : FX13_patienceEnds w p1 = some (rx, rw)) : CT G l yX13_patienceEnds cX13_patienceEnds 2 (some .int) rmX13_patienceEnds 0 0 [.ref (adr G 15 0), .int p1] w (some (.int rx)) rw := by
  refine CT.of miX13_patienceEnds [(0, .ref (adr G 15 0)), (1, .int p1)] rfl (Nat.le_of_ble_eq_true rfl) ?_
  intro p e s m args below meth c hX hR hlk
  have hX : FX G RX13 cX13_patienceEnds 2 p s m args c := hX
  unfold FX13_patienceEnds at hF
  refine J_aload_n hX dX13_patienceEnds_0 0 rfl (t := 1) rfl ?_
  refine J_aload_n hX dX13_patienceEnds_1 0 rfl (t := 2) rfl ?_
  refine J_iload_n hX dX13_patienceEnds_2 1 rfl (t := 3) rfl ?_
  obtain ⟨x2, h1, hF⟩ := bo1_e hF
  have k3 := (ctX13_isShout0 (G := G) (l := l) w p1 h1)
  refine J_callV hX [.int p1] [.ref (adr G 15 0)] [.int (bI x2), .ref (adr G 15 0)] k3 miX13_isShout0 mvX13_isShout0 cb10 kModel q_2260 ⟨rfl, rfl, Nat.le_of_ble_eq_true rfl, Nat.le_of_ble_eq_true rfl⟩ rfl rfl (Nat.le_of_ble_eq_true rfl) ⟨Nat.le_of_ble_eq_true rfl, Nat.le_of_ble_eq_true rfl⟩ dX13_patienceEnds_3 (t := 6) rfl rfl ?_
  obtain ⟨x5, w6, h4, hF⟩ := bnd2_e hF
  have k7 := (ctX13_goes (G := G) (l := l) w x2 h4)
  refine J_callV hX [.int (bI x2)] [] [.int (bI x5)] k7 miX13_goes mvX13_goes cb10 kModel q_2078 ⟨rfl, rfl, Nat.le_of_ble_eq_true rfl, Nat.le_of_ble_eq_true rfl⟩ rfl rfl (Nat.le_of_ble_eq_true rfl) ⟨Nat.le_of_ble_eq_true rfl, Nat.le_of_ble_eq_true rfl⟩ dX13_patienceEnds_6 (t := 9) rfl rfl ?_
  refine J_ifZ_eq (tgt := 20) hX dX13_patienceEnds_9 (by decide) (t := 12) rfl (fun z => ?_) (fun z => ?_)
  · replace hF := ib_f hF z
    refine J_iconst (v := 0) hX dX13_patienceEnds_20 (by decide) (t := 21) rfl ?_
    replace hF := Option.some.inj hF
    obtain ⟨hF, hF2⟩ := Prod.mk.inj hF
    subst hF
    subst hF2
    exact J_iret hX hR hlk dX13_patienceEnds_21
  · replace hF := it_t hF z
    refine J_aload_n hX dX13_patienceEnds_12 0 rfl (t := 13) rfl ?_
    refine J_iload_n hX dX13_patienceEnds_13 1 rfl (t := 14) rfl ?_
    obtain ⟨x9, h8, hF⟩ := bo1_e hF
    have k10 := (ctX13_endsAt (G := G) (l := l) w6 p1 h8)
    refine J_callV hX [.int p1] [] [.int x9] k10 miX13_endsAt mvX13_endsAt cb10 kModel q_2359 ⟨rfl, rfl, Nat.le_of_ble_eq_true rfl, Nat.le_of_ble_eq_true rfl⟩ rfl rfl (Nat.le_of_ble_eq_true rfl) ⟨Nat.le_of_ble_eq_true rfl, Nat.le_of_ble_eq_true rfl⟩ dX13_patienceEnds_14 (t := 17) rfl rfl ?_
    refine J_goto (tgt := 21) hX dX13_patienceEnds_17 (by decide) ?_
    replace hF := Option.some.inj hF
    obtain ⟨hF, hF2⟩ := Prod.mk.inj hF
    subst hF
    subst hF2
    exact J_iret hX hR hlk dX13_patienceEnds_21
abbrev rmX13_refusal : Room := { frames := 4, cells := 0, slots := 0, locals := 88 }
theorem miX13_refusal : MI yX13_refusal cX13_refusal 4 (some .int) 3 := ⟨q_2672, q_152, by decide +kernel, by decide +kernel, by decide +kernel, by decide +kernel⟩
theorem mvX13_refusal : MV yX13_refusal := ⟨q_2670, q_2671⟩
def FX13_refusal (n : Nat) (w : Wd) (p1 : Int32) (p2 : Int32) (p3 : Int32) : Option (Int32 × Wd) :=
  bo1 (FX13_isCustomer w p1) fun x2 =>
  if x2 = true then
    bo1 (FX13_isValley w p2) fun x15 =>
    if x15 = true then
      bnd (FX13_areWalls p3) fun x28 =>
      bnd2 (FX13_goesBoth w true x28) fun x31 w32 =>
      if x31 = true then
        bo1 (FX13_refuses n w32 p1 p2 p3) fun x35 =>
        some (x35, w32)
      else
        some (0, w32)
    else
      bnd (FX13_areWalls p3) fun x18 =>
      bnd2 (FX13_goesBoth w false x18) fun x21 w22 =>
      if x21 = true then
        bo1 (FX13_refuses n w22 p1 p2 p3) fun x25 =>
        some (x25, w22)
      else
        some (0, w22)
  else
    bnd (FX13_areWalls p3) fun x5 =>
    bnd2 (FX13_goesBoth w false x5) fun x8 w9 =>
    if x8 = true then
      bo1 (FX13_refuses n w9 p1 p2 p3) fun x12 =>
      some (x12, w9)
    else
      some (0, w9)
set_option maxHeartbeats 4000000 in
set_option maxRecDepth 100000 in
theorem ctX13_refusal {G : GG} {l : Launch} (w : Wd) (p1 : Int32) (p2 : Int32) (p3 : Int32)  (n : Nat) {rx : Int32} {rw : Wd} (hF : FX13_refusal n w p1 p2 p3 = some (rx, rw)) : CT G l yX13_refusal cX13_refusal 4 (some .int) rmX13_refusal 0 0 [.ref (adr G 15 0), .int p1, .int p2, .int p3] w (some (.int rx)) rw := by
  refine CT.of miX13_refusal [(0, .ref (adr G 15 0)), (1, .int p1), (2, .int p2), (3, .int p3)] rfl (Nat.le_of_ble_eq_true rfl) ?_
  intro p e s m args below meth c hX hR hlk
  have hX : FX G RX13 cX13_refusal 4 p s m args c := hX
  unfold FX13_refusal at hF
  refine J_aload_n hX dX13_refusal_0 0 rfl (t := 1) rfl ?_
  refine J_aload_n hX dX13_refusal_1 0 rfl (t := 2) rfl ?_
  refine J_iload_n hX dX13_refusal_2 1 rfl (t := 3) rfl ?_
  obtain ⟨x2, h1, hF⟩ := bo1_e hF
  have k3 := (ctX13_isCustomer (G := G) (l := l) w p1 h1)
  refine J_callV hX [.int p1] [.ref (adr G 15 0)] [.int (bI x2), .ref (adr G 15 0)] k3 miX13_isCustomer mvX13_isCustomer cb10 kModel q_2209 ⟨rfl, rfl, Nat.le_of_ble_eq_true rfl, Nat.le_of_ble_eq_true rfl⟩ rfl rfl (Nat.le_of_ble_eq_true rfl) ⟨Nat.le_of_ble_eq_true rfl, Nat.le_of_ble_eq_true rfl⟩ dX13_refusal_3 (t := 6) rfl rfl ?_
  refine J_ifZ_eq (tgt := 21) hX dX13_refusal_6 (by decide) (t := 9) rfl (fun z => ?_) (fun z => ?_)
  · replace hF := ib_f hF z
    refine J_iconst (v := 0) hX dX13_refusal_21 (by decide) (t := 22) rfl ?_
    refine J_iload_n hX dX13_refusal_22 3 rfl (t := 23) rfl ?_
    obtain ⟨x5, h4, hF⟩ := bnd_e hF
    have k6 := (ctX13_areWalls (l := l) (G := G) (w := w) p3 h4)
    refine J_callS hX [.int p3] [.int 0, .ref (adr G 15 0)] [.int (bI x5), .int 0, .ref (adr G 15 0)] k6 miX13_areWalls q_2136 q_2135 ⟨rfl, rfl, Nat.le_of_ble_eq_true rfl, Nat.le_of_ble_eq_true rfl⟩ rfl rfl (Nat.le_of_ble_eq_true rfl) ⟨Nat.le_of_ble_eq_true rfl, Nat.le_of_ble_eq_true rfl⟩ dX13_refusal_23 (t := 26) rfl rfl ?_
    obtain ⟨x8, w9, h7, hF⟩ := bnd2_e hF
    have k10 := (ctX13_goesBoth (G := G) (l := l) w false x5 h7)
    refine J_callV hX [.int (bI false), .int (bI x5)] [] [.int (bI x8)] k10 miX13_goesBoth mvX13_goesBoth cb10 kModel q_2164 ⟨rfl, rfl, Nat.le_of_ble_eq_true rfl, Nat.le_of_ble_eq_true rfl⟩ rfl rfl (Nat.le_of_ble_eq_true rfl) ⟨Nat.le_of_ble_eq_true rfl, Nat.le_of_ble_eq_true rfl⟩ dX13_refusal_26 (t := 29) rfl rfl ?_
    refine J_ifZ_eq (tgt := 42) hX dX13_refusal_29 (by decide) (t := 32) rfl (fun z => ?_) (fun z => ?_)
    · replace hF := ib_f hF z
      refine J_iconst (v := 0) hX dX13_refusal_42 (by decide) (t := 43) rfl ?_
      replace hF := Option.some.inj hF
      obtain ⟨hF, hF2⟩ := Prod.mk.inj hF
      subst hF
      subst hF2
      exact J_iret hX hR hlk dX13_refusal_43
    · replace hF := it_t hF z
      refine J_aload_n hX dX13_refusal_32 0 rfl (t := 33) rfl ?_
      refine J_iload_n hX dX13_refusal_33 1 rfl (t := 34) rfl ?_
      refine J_iload_n hX dX13_refusal_34 2 rfl (t := 35) rfl ?_
      refine J_iload_n hX dX13_refusal_35 3 rfl (t := 36) rfl ?_
      obtain ⟨x12, h11, hF⟩ := bo1_e hF
      have k13 := (ctX13_refuses (G := G) (l := l) w9 p1 p2 p3 n h11)
      refine J_callV hX [.int p1, .int p2, .int p3] [] [.int x12] k13 miX13_refuses mvX13_refuses cb10 kModel q_2221 ⟨rfl, rfl, Nat.le_of_ble_eq_true rfl, Nat.le_of_ble_eq_true rfl⟩ rfl rfl (Nat.le_of_ble_eq_true rfl) ⟨Nat.le_of_ble_eq_true rfl, Nat.le_of_ble_eq_true rfl⟩ dX13_refusal_36 (t := 39) rfl rfl ?_
      refine J_goto (tgt := 43) hX dX13_refusal_39 (by decide) ?_
      replace hF := Option.some.inj hF
      obtain ⟨hF, hF2⟩ := Prod.mk.inj hF
      subst hF
      subst hF2
      exact J_iret hX hR hlk dX13_refusal_43
  · replace hF := it_t hF z
    refine J_aload_n hX dX13_refusal_9 0 rfl (t := 10) rfl ?_
    refine J_iload_n hX dX13_refusal_10 2 rfl (t := 11) rfl ?_
    obtain ⟨x15, h14, hF⟩ := bo1_e hF
    have k16 := (ctX13_isValley (G := G) (l := l) w p2 h14)
    refine J_callV hX [.int p2] [.ref (adr G 15 0)] [.int (bI x15), .ref (adr G 15 0)] k16 miX13_isValley mvX13_isValley cb10 kModel q_2213 ⟨rfl, rfl, Nat.le_of_ble_eq_true rfl, Nat.le_of_ble_eq_true rfl⟩ rfl rfl (Nat.le_of_ble_eq_true rfl) ⟨Nat.le_of_ble_eq_true rfl, Nat.le_of_ble_eq_true rfl⟩ dX13_refusal_11 (t := 14) rfl rfl ?_
    refine J_ifZ_eq (tgt := 21) hX dX13_refusal_14 (by decide) (t := 17) rfl (fun z => ?_) (fun z => ?_)
    · replace hF := ib_f hF z
      refine J_iconst (v := 0) hX dX13_refusal_21 (by decide) (t := 22) rfl ?_
      refine J_iload_n hX dX13_refusal_22 3 rfl (t := 23) rfl ?_
      obtain ⟨x18, h17, hF⟩ := bnd_e hF
      have k19 := (ctX13_areWalls (l := l) (G := G) (w := w) p3 h17)
      refine J_callS hX [.int p3] [.int 0, .ref (adr G 15 0)] [.int (bI x18), .int 0, .ref (adr G 15 0)] k19 miX13_areWalls q_2136 q_2135 ⟨rfl, rfl, Nat.le_of_ble_eq_true rfl, Nat.le_of_ble_eq_true rfl⟩ rfl rfl (Nat.le_of_ble_eq_true rfl) ⟨Nat.le_of_ble_eq_true rfl, Nat.le_of_ble_eq_true rfl⟩ dX13_refusal_23 (t := 26) rfl rfl ?_
      obtain ⟨x21, w22, h20, hF⟩ := bnd2_e hF
      have k23 := (ctX13_goesBoth (G := G) (l := l) w false x18 h20)
      refine J_callV hX [.int (bI false), .int (bI x18)] [] [.int (bI x21)] k23 miX13_goesBoth mvX13_goesBoth cb10 kModel q_2164 ⟨rfl, rfl, Nat.le_of_ble_eq_true rfl, Nat.le_of_ble_eq_true rfl⟩ rfl rfl (Nat.le_of_ble_eq_true rfl) ⟨Nat.le_of_ble_eq_true rfl, Nat.le_of_ble_eq_true rfl⟩ dX13_refusal_26 (t := 29) rfl rfl ?_
      refine J_ifZ_eq (tgt := 42) hX dX13_refusal_29 (by decide) (t := 32) rfl (fun z => ?_) (fun z => ?_)
      · replace hF := ib_f hF z
        refine J_iconst (v := 0) hX dX13_refusal_42 (by decide) (t := 43) rfl ?_
        replace hF := Option.some.inj hF
        obtain ⟨hF, hF2⟩ := Prod.mk.inj hF
        subst hF
        subst hF2
        exact J_iret hX hR hlk dX13_refusal_43
      · replace hF := it_t hF z
        refine J_aload_n hX dX13_refusal_32 0 rfl (t := 33) rfl ?_
        refine J_iload_n hX dX13_refusal_33 1 rfl (t := 34) rfl ?_
        refine J_iload_n hX dX13_refusal_34 2 rfl (t := 35) rfl ?_
        refine J_iload_n hX dX13_refusal_35 3 rfl (t := 36) rfl ?_
        obtain ⟨x25, h24, hF⟩ := bo1_e hF
        have k26 := (ctX13_refuses (G := G) (l := l) w22 p1 p2 p3 n h24)
        refine J_callV hX [.int p1, .int p2, .int p3] [] [.int x25] k26 miX13_refuses mvX13_refuses cb10 kModel q_2221 ⟨rfl, rfl, Nat.le_of_ble_eq_true rfl, Nat.le_of_ble_eq_true rfl⟩ rfl rfl (Nat.le_of_ble_eq_true rfl) ⟨Nat.le_of_ble_eq_true rfl, Nat.le_of_ble_eq_true rfl⟩ dX13_refusal_36 (t := 39) rfl rfl ?_
        refine J_goto (tgt := 43) hX dX13_refusal_39 (by decide) ?_
        replace hF := Option.some.inj hF
        obtain ⟨hF, hF2⟩ := Prod.mk.inj hF
        subst hF
        subst hF2
        exact J_iret hX hR hlk dX13_refusal_43
    · replace hF := it_t hF z
      refine J_iconst (v := 1) hX dX13_refusal_17 (by decide) (t := 18) rfl ?_
      refine J_goto (tgt := 22) hX dX13_refusal_18 (by decide) ?_
      refine J_iload_n hX dX13_refusal_22 3 rfl (t := 23) rfl ?_
      obtain ⟨x28, h27, hF⟩ := bnd_e hF
      have k29 := (ctX13_areWalls (l := l) (G := G) (w := w) p3 h27)
      refine J_callS hX [.int p3] [.int 1, .ref (adr G 15 0)] [.int (bI x28), .int 1, .ref (adr G 15 0)] k29 miX13_areWalls q_2136 q_2135 ⟨rfl, rfl, Nat.le_of_ble_eq_true rfl, Nat.le_of_ble_eq_true rfl⟩ rfl rfl (Nat.le_of_ble_eq_true rfl) ⟨Nat.le_of_ble_eq_true rfl, Nat.le_of_ble_eq_true rfl⟩ dX13_refusal_23 (t := 26) rfl rfl ?_
      obtain ⟨x31, w32, h30, hF⟩ := bnd2_e hF
      have k33 := (ctX13_goesBoth (G := G) (l := l) w true x28 h30)
      refine J_callV hX [.int (bI true), .int (bI x28)] [] [.int (bI x31)] k33 miX13_goesBoth mvX13_goesBoth cb10 kModel q_2164 ⟨rfl, rfl, Nat.le_of_ble_eq_true rfl, Nat.le_of_ble_eq_true rfl⟩ rfl rfl (Nat.le_of_ble_eq_true rfl) ⟨Nat.le_of_ble_eq_true rfl, Nat.le_of_ble_eq_true rfl⟩ dX13_refusal_26 (t := 29) rfl rfl ?_
      refine J_ifZ_eq (tgt := 42) hX dX13_refusal_29 (by decide) (t := 32) rfl (fun z => ?_) (fun z => ?_)
      · replace hF := ib_f hF z
        refine J_iconst (v := 0) hX dX13_refusal_42 (by decide) (t := 43) rfl ?_
        replace hF := Option.some.inj hF
        obtain ⟨hF, hF2⟩ := Prod.mk.inj hF
        subst hF
        subst hF2
        exact J_iret hX hR hlk dX13_refusal_43
      · replace hF := it_t hF z
        refine J_aload_n hX dX13_refusal_32 0 rfl (t := 33) rfl ?_
        refine J_iload_n hX dX13_refusal_33 1 rfl (t := 34) rfl ?_
        refine J_iload_n hX dX13_refusal_34 2 rfl (t := 35) rfl ?_
        refine J_iload_n hX dX13_refusal_35 3 rfl (t := 36) rfl ?_
        obtain ⟨x35, h34, hF⟩ := bo1_e hF
        have k36 := (ctX13_refuses (G := G) (l := l) w32 p1 p2 p3 n h34)
        refine J_callV hX [.int p1, .int p2, .int p3] [] [.int x35] k36 miX13_refuses mvX13_refuses cb10 kModel q_2221 ⟨rfl, rfl, Nat.le_of_ble_eq_true rfl, Nat.le_of_ble_eq_true rfl⟩ rfl rfl (Nat.le_of_ble_eq_true rfl) ⟨Nat.le_of_ble_eq_true rfl, Nat.le_of_ble_eq_true rfl⟩ dX13_refusal_36 (t := 39) rfl rfl ?_
        refine J_goto (tgt := 43) hX dX13_refusal_39 (by decide) ?_
        replace hF := Option.some.inj hF
        obtain ⟨hF, hF2⟩ := Prod.mk.inj hF
        subst hF
        subst hF2
        exact J_iret hX hR hlk dX13_refusal_43
abbrev rmX13_neededLoudness : Room := { frames := 2, cells := 0, slots := 0, locals := 46 }
theorem miX13_neededLoudness : MI yX13_neededLoudness cX13_neededLoudness 3 (some .int) 2 := ⟨q_2676, q_152, by decide +kernel, by decide +kernel, by decide +kernel, by decide +kernel⟩
theorem mvX13_neededLoudness : MV yX13_neededLoudness := ⟨q_2674, q_2675⟩
def FX13_neededLoudness (w : Wd) (p1 : Int32) (p2 : Int32) : Option (Int32 × Wd) :=
  bo1 (FX13_isValley w p1) fun x2 =>
  bnd (FX13_areWalls p2) fun x5 =>
  bnd2 (FX13_goesBoth w x2 x5) fun x8 w9 =>
  if x8 = true then
    bo1 (FX13_ofValley w9 p1 1) fun x12 =>
    if p2 ≤ x12 then
      bo1 (FX13_ofValley w9 p1 3) fun x15 =>
      some (((2 * p2) + x15) + 1, w9)
    else
      some ((-1), w9)
  else
    some (0, w9)
set_option maxHeartbeats 4000000 in
set_option maxRecDepth 100000 in
theorem ctX13_neededLoudness {G : GG} {l : Launch} (w : Wd) (p1 : Int32) (p2 : Int32)  {rx : Int32} {rw : Wd} (hF : FX13_neededLoudness w p1 p2 = some (rx, rw)) : CT G l yX13_neededLoudness cX13_neededLoudness 3 (some .int) rmX13_neededLoudness 0 0 [.ref (adr G 15 0), .int p1, .int p2] w (some (.int rx)) rw := by
  refine CT.of miX13_neededLoudness [(0, .ref (adr G 15 0)), (1, .int p1), (2, .int p2)] rfl (Nat.le_of_ble_eq_true rfl) ?_
  intro p e s m args below meth c hX hR hlk
  have hX : FX G RX13 cX13_neededLoudness 3 p s m args c := hX
  unfold FX13_neededLoudness at hF
  refine J_aload_n hX dX13_neededLoudness_0 0 rfl (t := 1) rfl ?_
  refine J_aload_n hX dX13_neededLoudness_1 0 rfl (t := 2) rfl ?_
  refine J_iload_n hX dX13_neededLoudness_2 1 rfl (t := 3) rfl ?_
  obtain ⟨x2, h1, hF⟩ := bo1_e hF
  have k3 := (ctX13_isValley (G := G) (l := l) w p1 h1)
  refine J_callV hX [.int p1] [.ref (adr G 15 0)] [.int (bI x2), .ref (adr G 15 0)] k3 miX13_isValley mvX13_isValley cb10 kModel q_2213 ⟨rfl, rfl, Nat.le_of_ble_eq_true rfl, Nat.le_of_ble_eq_true rfl⟩ rfl rfl (Nat.le_of_ble_eq_true rfl) ⟨Nat.le_of_ble_eq_true rfl, Nat.le_of_ble_eq_true rfl⟩ dX13_neededLoudness_3 (t := 6) rfl rfl ?_
  refine J_iload_n hX dX13_neededLoudness_6 2 rfl (t := 7) rfl ?_
  obtain ⟨x5, h4, hF⟩ := bnd_e hF
  have k6 := (ctX13_areWalls (l := l) (G := G) (w := w) p2 h4)
  refine J_callS hX [.int p2] [.int (bI x2), .ref (adr G 15 0)] [.int (bI x5), .int (bI x2), .ref (adr G 15 0)] k6 miX13_areWalls q_2136 q_2135 ⟨rfl, rfl, Nat.le_of_ble_eq_true rfl, Nat.le_of_ble_eq_true rfl⟩ rfl rfl (Nat.le_of_ble_eq_true rfl) ⟨Nat.le_of_ble_eq_true rfl, Nat.le_of_ble_eq_true rfl⟩ dX13_neededLoudness_7 (t := 10) rfl rfl ?_
  obtain ⟨x8, w9, h7, hF⟩ := bnd2_e hF
  have k10 := (ctX13_goesBoth (G := G) (l := l) w x2 x5 h7)
  refine J_callV hX [.int (bI x2), .int (bI x5)] [] [.int (bI x8)] k10 miX13_goesBoth mvX13_goesBoth cb10 kModel q_2164 ⟨rfl, rfl, Nat.le_of_ble_eq_true rfl, Nat.le_of_ble_eq_true rfl⟩ rfl rfl (Nat.le_of_ble_eq_true rfl) ⟨Nat.le_of_ble_eq_true rfl, Nat.le_of_ble_eq_true rfl⟩ dX13_neededLoudness_10 (t := 13) rfl rfl ?_
  refine J_ifZ_ne (tgt := 18) hX dX13_neededLoudness_13 (by decide) (t := 16) rfl (fun z => ?_) (fun z => ?_)
  · replace hF := it_t hF z
    refine J_iload_n hX dX13_neededLoudness_18 2 rfl (t := 19) rfl ?_
    refine J_aload_n hX dX13_neededLoudness_19 0 rfl (t := 20) rfl ?_
    refine J_iload_n hX dX13_neededLoudness_20 1 rfl (t := 21) rfl ?_
    refine J_iconst (v := 1) hX dX13_neededLoudness_21 (by decide) (t := 22) rfl ?_
    obtain ⟨x12, h11, hF⟩ := bo1_e hF
    have k13 := (ctX13_ofValley (G := G) (l := l) w9 p1 1 h11)
    refine J_callV hX [.int p1, .int 1] [.int p2] [.int x12, .int p2] k13 miX13_ofValley mvX13_ofValley cb10 kModel q_2225 ⟨rfl, rfl, Nat.le_of_ble_eq_true rfl, Nat.le_of_ble_eq_true rfl⟩ rfl rfl (Nat.le_of_ble_eq_true rfl) ⟨Nat.le_of_ble_eq_true rfl, Nat.le_of_ble_eq_true rfl⟩ dX13_neededLoudness_22 (t := 25) rfl rfl ?_
    refine J_icmp_le (tgt := 32) hX dX13_neededLoudness_25 (by decide) (t := 28) rfl (fun z => ?_) (fun z => ?_)
    · replace hF := it_t hF z
      refine J_iconst (v := 2) hX dX13_neededLoudness_32 (by decide) (t := 33) rfl ?_
      refine J_iload_n hX dX13_neededLoudness_33 2 rfl (t := 34) rfl ?_
      refine J_imul hX dX13_neededLoudness_34 (t := 35) rfl ?_
      refine J_aload_n hX dX13_neededLoudness_35 0 rfl (t := 36) rfl ?_
      refine J_iload_n hX dX13_neededLoudness_36 1 rfl (t := 37) rfl ?_
      refine J_iconst (v := 3) hX dX13_neededLoudness_37 (by decide) (t := 38) rfl ?_
      obtain ⟨x15, h14, hF⟩ := bo1_e hF
      have k16 := (ctX13_ofValley (G := G) (l := l) w9 p1 3 h14)
      refine J_callV hX [.int p1, .int 3] [.int (2 * p2)] [.int x15, .int (2 * p2)] k16 miX13_ofValley mvX13_ofValley cb10 kModel q_2225 ⟨rfl, rfl, Nat.le_of_ble_eq_true rfl, Nat.le_of_ble_eq_true rfl⟩ rfl rfl (Nat.le_of_ble_eq_true rfl) ⟨Nat.le_of_ble_eq_true rfl, Nat.le_of_ble_eq_true rfl⟩ dX13_neededLoudness_38 (t := 41) rfl rfl ?_
      refine J_iadd hX dX13_neededLoudness_41 (t := 42) rfl ?_
      refine J_iconst (v := 1) hX dX13_neededLoudness_42 (by decide) (t := 43) rfl ?_
      refine J_iadd hX dX13_neededLoudness_43 (t := 44) rfl ?_
      replace hF := Option.some.inj hF
      obtain ⟨hF, hF2⟩ := Prod.mk.inj hF
      subst hF
      subst hF2
      exact J_iret hX hR hlk dX13_neededLoudness_44
    · replace hF := it_f hF z
      refine J_iconst (v := (-1)) hX dX13_neededLoudness_28 (by decide) (t := 29) rfl ?_
      refine J_goto (tgt := 44) hX dX13_neededLoudness_29 (by decide) ?_
      replace hF := Option.some.inj hF
      obtain ⟨hF, hF2⟩ := Prod.mk.inj hF
      subst hF
      subst hF2
      exact J_iret hX hR hlk dX13_neededLoudness_44
  · replace hF := ib_f hF z
    refine J_iconst (v := 0) hX dX13_neededLoudness_16 (by decide) (t := 17) rfl ?_
    replace hF := Option.some.inj hF
    obtain ⟨hF, hF2⟩ := Prod.mk.inj hF
    subst hF
    subst hF2
    exact J_iret hX hR hlk dX13_neededLoudness_17
abbrev rmX13_isOffer : Room := { frames := 4, cells := 0, slots := 0, locals := 88 }
theorem miX13_isOffer : MI yX13_isOffer cX13_isOffer 4 (some .boolean) 3 := ⟨q_2688, q_152, by decide +kernel, by decide +kernel, by decide +kernel, by decide +kernel⟩
theorem mvX13_isOffer : MV yX13_isOffer := ⟨q_2687, q_111⟩
def FX13_isOffer (n : Nat) (w : Wd) (p1 : Int32) (p2 : Int32) (p3 : Int32) : Option (Bool) :=
  bo1 (FX13_refuses n w p1 p2 p3) fun x2 =>
  if x2 = 0 then
    bo1 (FX13_ofValley w p2 0) fun x5 =>
    bo1 (FX13_ofCustomer w p1 0) fun x8 =>
    if x8 < x5 * p3 then
      some false
    else
      some true
  else
    some false
set_option maxHeartbeats 4000000 in
set_option maxRecDepth 100000 in
theorem ctX13_isOffer {G : GG} {l : Launch} (w : Wd) (p1 : Int32) (p2 : Int32) (p3 : Int32)  (n : Nat) {rx : Bool} (hF : FX13_isOffer n w p1 p2 p3 = some rx) : CT G l yX13_isOffer cX13_isOffer 4 (some .boolean) rmX13_isOffer 0 0 [.ref (adr G 15 0), .int p1, .int p2, .int p3] w (some (.int (bI rx))) w := by
  refine CT.of miX13_isOffer [(0, .ref (adr G 15 0)), (1, .int p1), (2, .int p2), (3, .int p3)] rfl (Nat.le_of_ble_eq_true rfl) ?_
  intro p e s m args below meth c hX hR hlk
  have hX : FX G RX13 cX13_isOffer 4 p s m args c := hX
  unfold FX13_isOffer at hF
  refine J_aload_n hX dX13_isOffer_0 0 rfl (t := 1) rfl ?_
  refine J_iload_n hX dX13_isOffer_1 1 rfl (t := 2) rfl ?_
  refine J_iload_n hX dX13_isOffer_2 2 rfl (t := 3) rfl ?_
  refine J_iload_n hX dX13_isOffer_3 3 rfl (t := 4) rfl ?_
  obtain ⟨x2, h1, hF⟩ := bo1_e hF
  have k3 := (ctX13_refuses (G := G) (l := l) w p1 p2 p3 n h1)
  refine J_callV hX [.int p1, .int p2, .int p3] [] [.int x2] k3 miX13_refuses mvX13_refuses cb10 kModel q_2221 ⟨rfl, rfl, Nat.le_of_ble_eq_true rfl, Nat.le_of_ble_eq_true rfl⟩ rfl rfl (Nat.le_of_ble_eq_true rfl) ⟨Nat.le_of_ble_eq_true rfl, Nat.le_of_ble_eq_true rfl⟩ dX13_isOffer_4 (t := 7) rfl rfl ?_
  refine J_if_ne (tgt := 31) hX dX13_isOffer_7 (by decide) (t := 10) rfl (fun z => ?_) (fun z => ?_)
  · replace hF := it_f hF z
    refine J_iconst (v := 0) hX dX13_isOffer_31 (by decide) (t := 32) rfl ?_
    replace hF := Option.some.inj hF
    subst hF
    exact J_zret (b := false) hX hR hlk dX13_isOffer_32
  · replace hF := it_t hF z
    refine J_aload_n hX dX13_isOffer_10 0 rfl (t := 11) rfl ?_
    refine J_iload_n hX dX13_isOffer_11 2 rfl (t := 12) rfl ?_
    refine J_iconst (v := 0) hX dX13_isOffer_12 (by decide) (t := 13) rfl ?_
    obtain ⟨x5, h4, hF⟩ := bo1_e hF
    have k6 := (ctX13_ofValley (G := G) (l := l) w p2 0 h4)
    refine J_callV hX [.int p2, .int 0] [] [.int x5] k6 miX13_ofValley mvX13_ofValley cb10 kModel q_2225 ⟨rfl, rfl, Nat.le_of_ble_eq_true rfl, Nat.le_of_ble_eq_true rfl⟩ rfl rfl (Nat.le_of_ble_eq_true rfl) ⟨Nat.le_of_ble_eq_true rfl, Nat.le_of_ble_eq_true rfl⟩ dX13_isOffer_13 (t := 16) rfl rfl ?_
    refine J_iload_n hX dX13_isOffer_16 3 rfl (t := 17) rfl ?_
    refine J_imul hX dX13_isOffer_17 (t := 18) rfl ?_
    refine J_aload_n hX dX13_isOffer_18 0 rfl (t := 19) rfl ?_
    refine J_iload_n hX dX13_isOffer_19 1 rfl (t := 20) rfl ?_
    refine J_iconst (v := 0) hX dX13_isOffer_20 (by decide) (t := 21) rfl ?_
    obtain ⟨x8, h7, hF⟩ := bo1_e hF
    have k9 := (ctX13_ofCustomer (G := G) (l := l) w p1 0 h7)
    refine J_callV hX [.int p1, .int 0] [.int (x5 * p3)] [.int x8, .int (x5 * p3)] k9 miX13_ofCustomer mvX13_ofCustomer cb10 kModel q_2229 ⟨rfl, rfl, Nat.le_of_ble_eq_true rfl, Nat.le_of_ble_eq_true rfl⟩ rfl rfl (Nat.le_of_ble_eq_true rfl) ⟨Nat.le_of_ble_eq_true rfl, Nat.le_of_ble_eq_true rfl⟩ dX13_isOffer_21 (t := 24) rfl rfl ?_
    refine J_icmp_gt (tgt := 31) hX dX13_isOffer_24 (by decide) (t := 27) rfl (fun z => ?_) (fun z => ?_)
    · replace hF := it_t hF z
      refine J_iconst (v := 0) hX dX13_isOffer_31 (by decide) (t := 32) rfl ?_
      replace hF := Option.some.inj hF
      subst hF
      exact J_zret (b := false) hX hR hlk dX13_isOffer_32
    · replace hF := it_f hF z
      refine J_iconst (v := 1) hX dX13_isOffer_27 (by decide) (t := 28) rfl ?_
      refine J_goto (tgt := 32) hX dX13_isOffer_28 (by decide) ?_
      replace hF := Option.some.inj hF
      subst hF
      exact J_zret (b := true) hX hR hlk dX13_isOffer_32
abbrev rmX13_isCheaper : Room := { frames := 2, cells := 0, slots := 0, locals := 42 }
theorem miX13_isCheaper : MI yX13_isCheaper cX13_isCheaper 3 (some .boolean) 2 := ⟨q_2692, q_152, by decide +kernel, by decide +kernel, by decide +kernel, by decide +kernel⟩
theorem mvX13_isCheaper : MV yX13_isCheaper := ⟨q_2691, q_112⟩
def FX13_isCheaper (w : Wd) (p1 : Int32) (p2 : Int32) : Option (Bool) :=
  bo1 (FX13_ofValley w p1 2) fun x2 =>
  bo1 (FX13_ofValley w p2 2) fun x5 =>
  if x2 = x5 then
    bo1 (FX13_ofValley w p1 4) fun x8 =>
    bo1 (FX13_ofValley w p2 4) fun x11 =>
    if x8 ≤ x11 then
      some false
    else
      some true
  else
    bo1 (FX13_ofValley w p1 2) fun x14 =>
    bo1 (FX13_ofValley w p2 2) fun x17 =>
    if x17 ≤ x14 then
      some false
    else
      some true
set_option maxHeartbeats 4000000 in
set_option maxRecDepth 100000 in
theorem ctX13_isCheaper {G : GG} {l : Launch} (w : Wd) (p1 : Int32) (p2 : Int32)  {rx : Bool} (hF : FX13_isCheaper w p1 p2 = some rx) : CT G l yX13_isCheaper cX13_isCheaper 3 (some .boolean) rmX13_isCheaper 0 0 [.ref (adr G 15 0), .int p1, .int p2] w (some (.int (bI rx))) w := by
  refine CT.of miX13_isCheaper [(0, .ref (adr G 15 0)), (1, .int p1), (2, .int p2)] rfl (Nat.le_of_ble_eq_true rfl) ?_
  intro p e s m args below meth c hX hR hlk
  have hX : FX G RX13 cX13_isCheaper 3 p s m args c := hX
  unfold FX13_isCheaper at hF
  refine J_aload_n hX dX13_isCheaper_0 0 rfl (t := 1) rfl ?_
  refine J_iload_n hX dX13_isCheaper_1 1 rfl (t := 2) rfl ?_
  refine J_iconst (v := 2) hX dX13_isCheaper_2 (by decide) (t := 3) rfl ?_
  obtain ⟨x2, h1, hF⟩ := bo1_e hF
  have k3 := (ctX13_ofValley (G := G) (l := l) w p1 2 h1)
  refine J_callV hX [.int p1, .int 2] [] [.int x2] k3 miX13_ofValley mvX13_ofValley cb10 kModel q_2225 ⟨rfl, rfl, Nat.le_of_ble_eq_true rfl, Nat.le_of_ble_eq_true rfl⟩ rfl rfl (Nat.le_of_ble_eq_true rfl) ⟨Nat.le_of_ble_eq_true rfl, Nat.le_of_ble_eq_true rfl⟩ dX13_isCheaper_3 (t := 6) rfl rfl ?_
  refine J_aload_n hX dX13_isCheaper_6 0 rfl (t := 7) rfl ?_
  refine J_iload_n hX dX13_isCheaper_7 2 rfl (t := 8) rfl ?_
  refine J_iconst (v := 2) hX dX13_isCheaper_8 (by decide) (t := 9) rfl ?_
  obtain ⟨x5, h4, hF⟩ := bo1_e hF
  have k6 := (ctX13_ofValley (G := G) (l := l) w p2 2 h4)
  refine J_callV hX [.int p2, .int 2] [.int x2] [.int x5, .int x2] k6 miX13_ofValley mvX13_ofValley cb10 kModel q_2225 ⟨rfl, rfl, Nat.le_of_ble_eq_true rfl, Nat.le_of_ble_eq_true rfl⟩ rfl rfl (Nat.le_of_ble_eq_true rfl) ⟨Nat.le_of_ble_eq_true rfl, Nat.le_of_ble_eq_true rfl⟩ dX13_isCheaper_9 (t := 12) rfl rfl ?_
  refine J_icmp_eq (tgt := 36) hX dX13_isCheaper_12 (by decide) (t := 15) rfl (fun z => ?_) (fun z => ?_)
  · replace hF := it_t hF z
    refine J_aload_n hX dX13_isCheaper_36 0 rfl (t := 37) rfl ?_
    refine J_iload_n hX dX13_isCheaper_37 1 rfl (t := 38) rfl ?_
    refine J_iconst (v := 4) hX dX13_isCheaper_38 (by decide) (t := 39) rfl ?_
    obtain ⟨x8, h7, hF⟩ := bo1_e hF
    have k9 := (ctX13_ofValley (G := G) (l := l) w p1 4 h7)
    refine J_callV hX [.int p1, .int 4] [] [.int x8] k9 miX13_ofValley mvX13_ofValley cb10 kModel q_2225 ⟨rfl, rfl, Nat.le_of_ble_eq_true rfl, Nat.le_of_ble_eq_true rfl⟩ rfl rfl (Nat.le_of_ble_eq_true rfl) ⟨Nat.le_of_ble_eq_true rfl, Nat.le_of_ble_eq_true rfl⟩ dX13_isCheaper_39 (t := 42) rfl rfl ?_
    refine J_aload_n hX dX13_isCheaper_42 0 rfl (t := 43) rfl ?_
    refine J_iload_n hX dX13_isCheaper_43 2 rfl (t := 44) rfl ?_
    refine J_iconst (v := 4) hX dX13_isCheaper_44 (by decide) (t := 45) rfl ?_
    obtain ⟨x11, h10, hF⟩ := bo1_e hF
    have k12 := (ctX13_ofValley (G := G) (l := l) w p2 4 h10)
    refine J_callV hX [.int p2, .int 4] [.int x8] [.int x11, .int x8] k12 miX13_ofValley mvX13_ofValley cb10 kModel q_2225 ⟨rfl, rfl, Nat.le_of_ble_eq_true rfl, Nat.le_of_ble_eq_true rfl⟩ rfl rfl (Nat.le_of_ble_eq_true rfl) ⟨Nat.le_of_ble_eq_true rfl, Nat.le_of_ble_eq_true rfl⟩ dX13_isCheaper_45 (t := 48) rfl rfl ?_
    refine J_icmp_le (tgt := 55) hX dX13_isCheaper_48 (by decide) (t := 51) rfl (fun z => ?_) (fun z => ?_)
    · replace hF := it_t hF z
      refine J_iconst (v := 0) hX dX13_isCheaper_55 (by decide) (t := 56) rfl ?_
      replace hF := Option.some.inj hF
      subst hF
      exact J_zret (b := false) hX hR hlk dX13_isCheaper_56
    · replace hF := it_f hF z
      refine J_iconst (v := 1) hX dX13_isCheaper_51 (by decide) (t := 52) rfl ?_
      refine J_goto (tgt := 56) hX dX13_isCheaper_52 (by decide) ?_
      replace hF := Option.some.inj hF
      subst hF
      exact J_zret (b := true) hX hR hlk dX13_isCheaper_56
  · replace hF := it_f hF z
    refine J_aload_n hX dX13_isCheaper_15 0 rfl (t := 16) rfl ?_
    refine J_iload_n hX dX13_isCheaper_16 1 rfl (t := 17) rfl ?_
    refine J_iconst (v := 2) hX dX13_isCheaper_17 (by decide) (t := 18) rfl ?_
    obtain ⟨x14, h13, hF⟩ := bo1_e hF
    have k15 := (ctX13_ofValley (G := G) (l := l) w p1 2 h13)
    refine J_callV hX [.int p1, .int 2] [] [.int x14] k15 miX13_ofValley mvX13_ofValley cb10 kModel q_2225 ⟨rfl, rfl, Nat.le_of_ble_eq_true rfl, Nat.le_of_ble_eq_true rfl⟩ rfl rfl (Nat.le_of_ble_eq_true rfl) ⟨Nat.le_of_ble_eq_true rfl, Nat.le_of_ble_eq_true rfl⟩ dX13_isCheaper_18 (t := 21) rfl rfl ?_
    refine J_aload_n hX dX13_isCheaper_21 0 rfl (t := 22) rfl ?_
    refine J_iload_n hX dX13_isCheaper_22 2 rfl (t := 23) rfl ?_
    refine J_iconst (v := 2) hX dX13_isCheaper_23 (by decide) (t := 24) rfl ?_
    obtain ⟨x17, h16, hF⟩ := bo1_e hF
    have k18 := (ctX13_ofValley (G := G) (l := l) w p2 2 h16)
    refine J_callV hX [.int p2, .int 2] [.int x14] [.int x17, .int x14] k18 miX13_ofValley mvX13_ofValley cb10 kModel q_2225 ⟨rfl, rfl, Nat.le_of_ble_eq_true rfl, Nat.le_of_ble_eq_true rfl⟩ rfl rfl (Nat.le_of_ble_eq_true rfl) ⟨Nat.le_of_ble_eq_true rfl, Nat.le_of_ble_eq_true rfl⟩ dX13_isCheaper_24 (t := 27) rfl rfl ?_
    refine J_icmp_ge (tgt := 34) hX dX13_isCheaper_27 (by decide) (t := 30) rfl (fun z => ?_) (fun z => ?_)
    · replace hF := it_t hF z
      refine J_iconst (v := 0) hX dX13_isCheaper_34 (by decide) (t := 35) rfl ?_
      replace hF := Option.some.inj hF
      subst hF
      exact J_zret (b := false) hX hR hlk dX13_isCheaper_35
    · replace hF := it_f hF z
      refine J_iconst (v := 1) hX dX13_isCheaper_30 (by decide) (t := 31) rfl ?_
      refine J_goto (tgt := 35) hX dX13_isCheaper_31 (by decide) ?_
      replace hF := Option.some.inj hF
      subst hF
      exact J_zret (b := true) hX hR hlk dX13_isCheaper_35
abbrev rmX13_offer : Room := { frames := 5, cells := 0, slots := 0, locals := 111 }
theorem miX13_offer : MI yX13_offer cX13_offer 5 (some .int) 2 := ⟨q_2684, q_152, by decide +kernel, by decide +kernel, by decide +kernel, by decide +kernel⟩
theorem mvX13_offer : MV yX13_offer := ⟨q_2683, q_110⟩
def FX13_offer_L5 (n : Nat) : Nat → Wd → Int32 → Int32 → Int32 → Int32 → Option (Int32)
  | 0 => fun _ _ _ _ _ => none
  | k + 1 => fun w l1 l2 l3 l4 =>
    gd (inb 0 390) <|
    if (w 15).1 2 0 ≤ l4 then
      some l3
    else
      bo1 (FX13_isOffer n w l1 l4 l2) fun x3 =>
      if x3 = true then
        if l3 = (-1) then
          FX13_offer_L5 n k w l1 l2 l4 (l4 + 1)
        else
          bo1 (FX13_isCheaper w l4 l3) fun x6 =>
          if x6 = true then
            FX13_offer_L5 n k w l1 l2 l4 (l4 + 1)
          else
            FX13_offer_L5 n k w l1 l2 l3 (l4 + 1)
      else
        FX13_offer_L5 n k w l1 l2 l3 (l4 + 1)
set_option maxHeartbeats 4000000 in
set_option maxRecDepth 100000 in
theorem LX13_offer_5 {G : GG} {l : Launch} {p : Program} {e : Env} {s : State} {m : MethodId} {args : Array Value} {below : List Frame} {meth : Method} {c : Code} (hX : FX G RX13 cX13_offer 5 p s m args c) (hR : meth.sig.returnType = (some .int)) (hlk : meth.locks = false) {rx : Int32} (n : Nat) : ∀ (k : Nat) (w : Wd) (l1 : Int32) (l2 : Int32) (l3 : Int32) (l4 : Int32) , FX13_offer_L5 n k w l1 l2 l3 l4 = some rx → J G p l e rmX13_offer s m args below meth c 5 0 0 (MQ below (QV G (some (.int rx)) w) args s 0 0 (gA G)) (GH G w) 5 [(0, .ref (adr G 15 0)), (1, .int l1), (2, .int l2), (3, .int l3), (4, .int l4)] [] := by
  intro k
  induction k with
  | zero => intro w l1 l2 l3 l4  hF; cases hF
  | succ k ih =>
    intro w l1 l2 l3 l4  hF
    simp only [FX13_offer_L5] at hF
    refine J_iload hX dX13_offer_5 4 rfl (t := 7) rfl ?_
    refine J_aload_n hX dX13_offer_7 0 rfl (t := 8) rfl ?_
    refine J_get hX cb10 kModel 13 (by decide) q_1980 rfl dX13_offer_8 (t := 11) rfl ?_
    refine J_iconst (v := 0) hX dX13_offer_11 (by decide) (t := 12) rfl ?_
    obtain ⟨g1, hF⟩ := gd_e hF
    refine J_iald hX (kInts (j := 2) (n := 390) (by decide) (by decide) rfl) g1 rfl dX13_offer_12 (t := 13) rfl ?_
    refine J_icmp_ge (tgt := 51) hX dX13_offer_13 (by decide) (t := 16) rfl (fun z => ?_) (fun z => ?_)
    · replace hF := it_t hF z
      refine J_iload_n hX dX13_offer_51 3 rfl (t := 52) rfl ?_
      replace hF := Option.some.inj hF
      subst hF
      exact J_iret hX hR hlk dX13_offer_52
    · replace hF := it_f hF z
      refine J_aload_n hX dX13_offer_16 0 rfl (t := 17) rfl ?_
      refine J_iload_n hX dX13_offer_17 1 rfl (t := 18) rfl ?_
      refine J_iload hX dX13_offer_18 4 rfl (t := 20) rfl ?_
      refine J_iload_n hX dX13_offer_20 2 rfl (t := 21) rfl ?_
      obtain ⟨x3, h2, hF⟩ := bo1_e hF
      have k4 := (ctX13_isOffer (G := G) (l := l) w l1 l4 l2 n h2)
      refine J_callV hX [.int l1, .int l4, .int l2] [] [.int (bI x3)] k4 miX13_isOffer mvX13_isOffer cb10 kModel q_2685 ⟨rfl, rfl, Nat.le_of_ble_eq_true rfl, Nat.le_of_ble_eq_true rfl⟩ rfl rfl (Nat.le_of_ble_eq_true rfl) ⟨Nat.le_of_ble_eq_true rfl, Nat.le_of_ble_eq_true rfl⟩ dX13_offer_21 (t := 24) rfl rfl ?_
      refine J_ifZ_eq (tgt := 45) hX dX13_offer_24 (by decide) (t := 27) rfl (fun z => ?_) (fun z => ?_)
      · replace hF := ib_f hF z
        refine J_iinc (v := l4 + 1) (lc2 := [(4, .int (l4 + 1)), (0, .ref (adr G 15 0)), (1, .int l1), (2, .int l2), (3, .int l3)]) hX dX13_offer_45 4 rfl rfl (Nat.le_of_ble_eq_true rfl) rfl (t := 48) rfl ?_
        refine J_goto (tgt := 5) hX dX13_offer_48 (by decide) ?_
        refine J_sub (lc2 := [(0, .ref (adr G 15 0)), (1, .int l1), (2, .int l2), (3, .int l3), (4, .int (l4 + 1))]) [1, 2, 3, 4, 0] rfl ?_
        exact ih w l1 l2 l3 (l4 + 1) hF
      · replace hF := it_t hF z
        refine J_iload_n hX dX13_offer_27 3 rfl (t := 28) rfl ?_
        refine J_iconst (v := (-1)) hX dX13_offer_28 (by decide) (t := 29) rfl ?_
        refine J_icmp_eq (tgt := 42) hX dX13_offer_29 (by decide) (t := 32) rfl (fun z => ?_) (fun z => ?_)
        · replace hF := it_t hF z
          refine J_iload hX dX13_offer_42 4 rfl (t := 44) rfl ?_
          refine J_istore_n (lc2 := [(3, .int l4), (0, .ref (adr G 15 0)), (1, .int l1), (2, .int l2), (4, .int l4)]) hX dX13_offer_44 rfl (Nat.le_of_ble_eq_true rfl) rfl (t := 45) rfl ?_
          refine J_iinc (v := l4 + 1) (lc2 := [(4, .int (l4 + 1)), (3, .int l4), (0, .ref (adr G 15 0)), (1, .int l1), (2, .int l2)]) hX dX13_offer_45 4 rfl rfl (Nat.le_of_ble_eq_true rfl) rfl (t := 48) rfl ?_
          refine J_goto (tgt := 5) hX dX13_offer_48 (by decide) ?_
          refine J_sub (lc2 := [(0, .ref (adr G 15 0)), (1, .int l1), (2, .int l2), (3, .int l4), (4, .int (l4 + 1))]) [2, 3, 4, 1, 0] rfl ?_
          exact ih w l1 l2 l4 (l4 + 1) hF
        · replace hF := it_f hF z
          refine J_aload_n hX dX13_offer_32 0 rfl (t := 33) rfl ?_
          refine J_iload hX dX13_offer_33 4 rfl (t := 35) rfl ?_
          refine J_iload_n hX dX13_offer_35 3 rfl (t := 36) rfl ?_
          obtain ⟨x6, h5, hF⟩ := bo1_e hF
          have k7 := (ctX13_isCheaper (G := G) (l := l) w l4 l3 h5)
          refine J_callV hX [.int l4, .int l3] [] [.int (bI x6)] k7 miX13_isCheaper mvX13_isCheaper cb10 kModel q_2689 ⟨rfl, rfl, Nat.le_of_ble_eq_true rfl, Nat.le_of_ble_eq_true rfl⟩ rfl rfl (Nat.le_of_ble_eq_true rfl) ⟨Nat.le_of_ble_eq_true rfl, Nat.le_of_ble_eq_true rfl⟩ dX13_offer_36 (t := 39) rfl rfl ?_
          refine J_ifZ_eq (tgt := 45) hX dX13_offer_39 (by decide) (t := 42) rfl (fun z => ?_) (fun z => ?_)
          · replace hF := ib_f hF z
            refine J_iinc (v := l4 + 1) (lc2 := [(4, .int (l4 + 1)), (0, .ref (adr G 15 0)), (1, .int l1), (2, .int l2), (3, .int l3)]) hX dX13_offer_45 4 rfl rfl (Nat.le_of_ble_eq_true rfl) rfl (t := 48) rfl ?_
            refine J_goto (tgt := 5) hX dX13_offer_48 (by decide) ?_
            refine J_sub (lc2 := [(0, .ref (adr G 15 0)), (1, .int l1), (2, .int l2), (3, .int l3), (4, .int (l4 + 1))]) [1, 2, 3, 4, 0] rfl ?_
            exact ih w l1 l2 l3 (l4 + 1) hF
          · replace hF := it_t hF z
            refine J_iload hX dX13_offer_42 4 rfl (t := 44) rfl ?_
            refine J_istore_n (lc2 := [(3, .int l4), (0, .ref (adr G 15 0)), (1, .int l1), (2, .int l2), (4, .int l4)]) hX dX13_offer_44 rfl (Nat.le_of_ble_eq_true rfl) rfl (t := 45) rfl ?_
            refine J_iinc (v := l4 + 1) (lc2 := [(4, .int (l4 + 1)), (3, .int l4), (0, .ref (adr G 15 0)), (1, .int l1), (2, .int l2)]) hX dX13_offer_45 4 rfl rfl (Nat.le_of_ble_eq_true rfl) rfl (t := 48) rfl ?_
            refine J_goto (tgt := 5) hX dX13_offer_48 (by decide) ?_
            refine J_sub (lc2 := [(0, .ref (adr G 15 0)), (1, .int l1), (2, .int l2), (3, .int l4), (4, .int (l4 + 1))]) [2, 3, 4, 1, 0] rfl ?_
            exact ih w l1 l2 l4 (l4 + 1) hF
def FX13_offer (n : Nat) (w : Wd) (p1 : Int32) (p2 : Int32) : Option (Int32) :=
  FX13_offer_L5 n n w p1 p2 (-1) 0
set_option maxHeartbeats 4000000 in
set_option maxRecDepth 100000 in
theorem ctX13_offer {G : GG} {l : Launch} (w : Wd) (p1 : Int32) (p2 : Int32)  (n : Nat) {rx : Int32} (hF : FX13_offer n w p1 p2 = some rx) : CT G l yX13_offer cX13_offer 5 (some .int) rmX13_offer 0 0 [.ref (adr G 15 0), .int p1, .int p2] w (some (.int rx)) w := by
  refine CT.of miX13_offer [(0, .ref (adr G 15 0)), (1, .int p1), (2, .int p2)] rfl (Nat.le_of_ble_eq_true rfl) ?_
  intro p e s m args below meth c hX hR hlk
  have hX : FX G RX13 cX13_offer 5 p s m args c := hX
  unfold FX13_offer at hF
  refine J_iconst (v := (-1)) hX dX13_offer_0 (by decide) (t := 1) rfl ?_
  refine J_istore_n (lc2 := [(3, .int (-1)), (0, .ref (adr G 15 0)), (1, .int p1), (2, .int p2)]) hX dX13_offer_1 rfl (Nat.le_of_ble_eq_true rfl) rfl (t := 2) rfl ?_
  refine J_iconst (v := 0) hX dX13_offer_2 (by decide) (t := 3) rfl ?_
  refine J_istore (lc2 := [(4, .int 0), (3, .int (-1)), (0, .ref (adr G 15 0)), (1, .int p1), (2, .int p2)]) hX dX13_offer_3 (Nat.le_of_ble_eq_true rfl) rfl (t := 5) rfl ?_
  refine J_sub (lc2 := [(0, .ref (adr G 15 0)), (1, .int p1), (2, .int p2), (3, .int (-1)), (4, .int 0)]) [2, 3, 4, 1, 0] rfl ?_
  exact LX13_offer_5 hX hR hlk n n w p1 p2 (-1) 0 hF
abbrev rmX13_bestOffer : Room := { frames := 6, cells := 0, slots := 0, locals := 135 }
theorem miX13_bestOffer : MI yX13_bestOffer cX13_bestOffer 3 (some .int) 2 := ⟨q_2680, q_152, by decide +kernel, by decide +kernel, by decide +kernel, by decide +kernel⟩
theorem mvX13_bestOffer : MV yX13_bestOffer := ⟨q_2678, q_2679⟩
def FX13_bestOffer (n : Nat) (w : Wd) (p1 : Int32) (p2 : Int32) : Option (Int32 × Wd) :=
  bo1 (FX13_isCustomer w p1) fun x2 =>
  bnd (FX13_areWalls p2) fun x5 =>
  bnd2 (FX13_goesBoth w x2 x5) fun x8 w9 =>
  if x8 = true then
    bo1 (FX13_offer n w9 p1 p2) fun x12 =>
    some (x12, w9)
  else
    some (0, w9)
set_option maxHeartbeats 4000000 in
set_option maxRecDepth 100000 in
theorem ctX13_bestOffer {G : GG} {l : Launch} (w : Wd) (p1 : Int32) (p2 : Int32)  (n : Nat) {rx : Int32} {rw : Wd} (hF : FX13_bestOffer n w p1 p2 = some (rx, rw)) : CT G l yX13_bestOffer cX13_bestOffer 3 (some .int) rmX13_bestOffer 0 0 [.ref (adr G 15 0), .int p1, .int p2] w (some (.int rx)) rw := by
  refine CT.of miX13_bestOffer [(0, .ref (adr G 15 0)), (1, .int p1), (2, .int p2)] rfl (Nat.le_of_ble_eq_true rfl) ?_
  intro p e s m args below meth c hX hR hlk
  have hX : FX G RX13 cX13_bestOffer 3 p s m args c := hX
  unfold FX13_bestOffer at hF
  refine J_aload_n hX dX13_bestOffer_0 0 rfl (t := 1) rfl ?_
  refine J_aload_n hX dX13_bestOffer_1 0 rfl (t := 2) rfl ?_
  refine J_iload_n hX dX13_bestOffer_2 1 rfl (t := 3) rfl ?_
  obtain ⟨x2, h1, hF⟩ := bo1_e hF
  have k3 := (ctX13_isCustomer (G := G) (l := l) w p1 h1)
  refine J_callV hX [.int p1] [.ref (adr G 15 0)] [.int (bI x2), .ref (adr G 15 0)] k3 miX13_isCustomer mvX13_isCustomer cb10 kModel q_2209 ⟨rfl, rfl, Nat.le_of_ble_eq_true rfl, Nat.le_of_ble_eq_true rfl⟩ rfl rfl (Nat.le_of_ble_eq_true rfl) ⟨Nat.le_of_ble_eq_true rfl, Nat.le_of_ble_eq_true rfl⟩ dX13_bestOffer_3 (t := 6) rfl rfl ?_
  refine J_iload_n hX dX13_bestOffer_6 2 rfl (t := 7) rfl ?_
  obtain ⟨x5, h4, hF⟩ := bnd_e hF
  have k6 := (ctX13_areWalls (l := l) (G := G) (w := w) p2 h4)
  refine J_callS hX [.int p2] [.int (bI x2), .ref (adr G 15 0)] [.int (bI x5), .int (bI x2), .ref (adr G 15 0)] k6 miX13_areWalls q_2136 q_2135 ⟨rfl, rfl, Nat.le_of_ble_eq_true rfl, Nat.le_of_ble_eq_true rfl⟩ rfl rfl (Nat.le_of_ble_eq_true rfl) ⟨Nat.le_of_ble_eq_true rfl, Nat.le_of_ble_eq_true rfl⟩ dX13_bestOffer_7 (t := 10) rfl rfl ?_
  obtain ⟨x8, w9, h7, hF⟩ := bnd2_e hF
  have k10 := (ctX13_goesBoth (G := G) (l := l) w x2 x5 h7)
  refine J_callV hX [.int (bI x2), .int (bI x5)] [] [.int (bI x8)] k10 miX13_goesBoth mvX13_goesBoth cb10 kModel q_2164 ⟨rfl, rfl, Nat.le_of_ble_eq_true rfl, Nat.le_of_ble_eq_true rfl⟩ rfl rfl (Nat.le_of_ble_eq_true rfl) ⟨Nat.le_of_ble_eq_true rfl, Nat.le_of_ble_eq_true rfl⟩ dX13_bestOffer_10 (t := 13) rfl rfl ?_
  refine J_ifZ_eq (tgt := 25) hX dX13_bestOffer_13 (by decide) (t := 16) rfl (fun z => ?_) (fun z => ?_)
  · replace hF := ib_f hF z
    refine J_iconst (v := 0) hX dX13_bestOffer_25 (by decide) (t := 26) rfl ?_
    replace hF := Option.some.inj hF
    obtain ⟨hF, hF2⟩ := Prod.mk.inj hF
    subst hF
    subst hF2
    exact J_iret hX hR hlk dX13_bestOffer_26
  · replace hF := it_t hF z
    refine J_aload_n hX dX13_bestOffer_16 0 rfl (t := 17) rfl ?_
    refine J_iload_n hX dX13_bestOffer_17 1 rfl (t := 18) rfl ?_
    refine J_iload_n hX dX13_bestOffer_18 2 rfl (t := 19) rfl ?_
    obtain ⟨x12, h11, hF⟩ := bo1_e hF
    have k13 := (ctX13_offer (G := G) (l := l) w9 p1 p2 n h11)
    refine J_callV hX [.int p1, .int p2] [] [.int x12] k13 miX13_offer mvX13_offer cb10 kModel q_2681 ⟨rfl, rfl, Nat.le_of_ble_eq_true rfl, Nat.le_of_ble_eq_true rfl⟩ rfl rfl (Nat.le_of_ble_eq_true rfl) ⟨Nat.le_of_ble_eq_true rfl, Nat.le_of_ble_eq_true rfl⟩ dX13_bestOffer_19 (t := 22) rfl rfl ?_
    refine J_goto (tgt := 26) hX dX13_bestOffer_22 (by decide) ?_
    replace hF := Option.some.inj hF
    obtain ⟨hF, hF2⟩ := Prod.mk.inj hF
    subst hF
    subst hF2
    exact J_iret hX hR hlk dX13_bestOffer_26
abbrev rmX13_smaller : Room := { frames := 0, cells := 0, slots := 0, locals := 0 }
theorem miX13_smaller : MI yX13_smaller cX13_smaller 2 (some .int) 2 := ⟨q_2699, q_152, by decide +kernel, by decide +kernel, by decide +kernel, by decide +kernel⟩
def FX13_smaller (p0 : Int32) (p1 : Int32) : Int32 :=
  if p1 ≤ p0 then
    p1
  else
    p0
set_option maxHeartbeats 4000000 in
set_option maxRecDepth 100000 in
theorem ctX13_smaller {G : GG} {l : Launch} {w : Wd} (p0 : Int32) (p1 : Int32)  {rx : Int32} (hF : FX13_smaller p0 p1 = rx) : CT G l yX13_smaller cX13_smaller 2 (some .int) rmX13_smaller 0 0 [.int p0, .int p1] w (some (.int rx)) w := by
  refine CT.of miX13_smaller [(0, .int p0), (1, .int p1)] rfl (Nat.le_of_ble_eq_true rfl) ?_
  intro p e s m args below meth c hX hR hlk
  have hX : FX G RX13 cX13_smaller 2 p s m args c := hX
  unfold FX13_smaller at hF
  refine J_iload_n hX dX13_smaller_0 0 rfl (t := 1) rfl ?_
  refine J_iload_n hX dX13_smaller_1 1 rfl (t := 2) rfl ?_
  refine J_icmp_ge (tgt := 9) hX dX13_smaller_2 (by decide) (t := 5) rfl (fun z => ?_) (fun z => ?_)
  · replace hF := it_t hF z
    refine J_iload_n hX dX13_smaller_9 1 rfl (t := 10) rfl ?_
    subst hF
    exact J_iret hX hR hlk dX13_smaller_10
  · replace hF := it_f hF z
    refine J_iload_n hX dX13_smaller_5 0 rfl (t := 6) rfl ?_
    refine J_goto (tgt := 10) hX dX13_smaller_6 (by decide) ?_
    subst hF
    exact J_iret hX hR hlk dX13_smaller_10
abbrev rmX13_nextEvent : Room := { frames := 3, cells := 0, slots := 0, locals := 67 }
theorem miX13_nextEvent : MI yX13_nextEvent cX13_nextEvent 4 (some .int) 0 := ⟨q_2696, q_152, by decide +kernel, by decide +kernel, by decide +kernel, by decide +kernel⟩
theorem mvX13_nextEvent : MV yX13_nextEvent := ⟨q_2694, q_2695⟩
def FX13_nextEvent_L4 (n : Nat) : Nat → Wd → Int32 → Int32 → Option (Int32 × Wd)
  | 0 => fun _ _ _ => none
  | k + 1 => fun w l1 l2 =>
    gd (inb 2 390) <|
    if (w 15).1 2 2 ≤ l2 then
      bnd2 (FX13_told w l1) fun x3 w4 =>
      some (x3, w4)
    else
      bo1 (FX13_isOpen w l2) fun x7 =>
      if x7 = true then
        bo1 (FX13_returnsAt w l2) fun x10 =>
        bo1 (FX13_endsAt w l2) fun x13 =>
        bnd (FX13_smaller x10 x13) fun x16 =>
        if l1 = (-1) then
          FX13_nextEvent_L4 n k w x16 (l2 + 1)
        else
          bnd (FX13_smaller x16 l1) fun x19 =>
          FX13_nextEvent_L4 n k w x19 (l2 + 1)
      else
        FX13_nextEvent_L4 n k w l1 (l2 + 1)
set_option maxHeartbeats 4000000 in
set_option maxRecDepth 100000 in
theorem LX13_nextEvent_4 {G : GG} {l : Launch} {p : Program} {e : Env} {s : State} {m : MethodId} {args : Array Value} {below : List Frame} {meth : Method} {c : Code} (hX : FX G RX13 cX13_nextEvent 4 p s m args c) (hR : meth.sig.returnType = (some .int)) (hlk : meth.locks = false) {rx : Int32} {rw : Wd} (n : Nat) : ∀ (k : Nat) (w : Wd) (l1 : Int32) (l2 : Int32) , FX13_nextEvent_L4 n k w l1 l2 = some (rx, rw) → J G p l e rmX13_nextEvent s m args below meth c 4 0 0 (MQ below (QV G (some (.int rx)) rw) args s 0 0 (gA G)) (GH G w) 4 [(0, .ref (adr G 15 0)), (1, .int l1), (2, .int l2)] [] := by
  intro k
  induction k with
  | zero => intro w l1 l2  hF; cases hF
  | succ k ih =>
    intro w l1 l2  hF
    simp only [FX13_nextEvent_L4] at hF
    refine J_iload_n hX dX13_nextEvent_4 2 rfl (t := 5) rfl ?_
    refine J_aload_n hX dX13_nextEvent_5 0 rfl (t := 6) rfl ?_
    refine J_get hX cb10 kModel 13 (by decide) q_1980 rfl dX13_nextEvent_6 (t := 9) rfl ?_
    refine J_iconst (v := 2) hX dX13_nextEvent_9 (by decide) (t := 10) rfl ?_
    obtain ⟨g1, hF⟩ := gd_e hF
    refine J_iald hX (kInts (j := 2) (n := 390) (by decide) (by decide) rfl) g1 rfl dX13_nextEvent_10 (t := 11) rfl ?_
    refine J_icmp_ge (tgt := 60) hX dX13_nextEvent_11 (by decide) (t := 14) rfl (fun z => ?_) (fun z => ?_)
    · replace hF := it_t hF z
      refine J_aload_n hX dX13_nextEvent_60 0 rfl (t := 61) rfl ?_
      refine J_iload_n hX dX13_nextEvent_61 1 rfl (t := 62) rfl ?_
      obtain ⟨x3, w4, h2, hF⟩ := bnd2_e hF
      have k5 := (ctX13_told (G := G) (l := l) w l1 h2)
      refine J_callV hX [.int l1] [] [.int x3] k5 miX13_told mvX13_told cb10 kModel q_2479 ⟨rfl, rfl, Nat.le_of_ble_eq_true rfl, Nat.le_of_ble_eq_true rfl⟩ rfl rfl (Nat.le_of_ble_eq_true rfl) ⟨Nat.le_of_ble_eq_true rfl, Nat.le_of_ble_eq_true rfl⟩ dX13_nextEvent_62 (t := 65) rfl rfl ?_
      replace hF := Option.some.inj hF
      obtain ⟨hF, hF2⟩ := Prod.mk.inj hF
      subst hF
      subst hF2
      exact J_iret hX hR hlk dX13_nextEvent_65
    · replace hF := it_f hF z
      refine J_aload_n hX dX13_nextEvent_14 0 rfl (t := 15) rfl ?_
      refine J_iload_n hX dX13_nextEvent_15 2 rfl (t := 16) rfl ?_
      obtain ⟨x7, h6, hF⟩ := bo1_e hF
      have k8 := (ctX13_isOpen (G := G) (l := l) w l2 h6)
      refine J_callV hX [.int l2] [] [.int (bI x7)] k8 miX13_isOpen mvX13_isOpen cb10 kModel q_2264 ⟨rfl, rfl, Nat.le_of_ble_eq_true rfl, Nat.le_of_ble_eq_true rfl⟩ rfl rfl (Nat.le_of_ble_eq_true rfl) ⟨Nat.le_of_ble_eq_true rfl, Nat.le_of_ble_eq_true rfl⟩ dX13_nextEvent_16 (t := 19) rfl rfl ?_
      refine J_ifZ_ne (tgt := 25) hX dX13_nextEvent_19 (by decide) (t := 22) rfl (fun z => ?_) (fun z => ?_)
      · replace hF := it_t hF z
        refine J_aload_n hX dX13_nextEvent_25 0 rfl (t := 26) rfl ?_
        refine J_iload_n hX dX13_nextEvent_26 2 rfl (t := 27) rfl ?_
        obtain ⟨x10, h9, hF⟩ := bo1_e hF
        have k11 := (ctX13_returnsAt (G := G) (l := l) w l2 h9)
        refine J_callV hX [.int l2] [] [.int x10] k11 miX13_returnsAt mvX13_returnsAt cb10 kModel q_2347 ⟨rfl, rfl, Nat.le_of_ble_eq_true rfl, Nat.le_of_ble_eq_true rfl⟩ rfl rfl (Nat.le_of_ble_eq_true rfl) ⟨Nat.le_of_ble_eq_true rfl, Nat.le_of_ble_eq_true rfl⟩ dX13_nextEvent_27 (t := 30) rfl rfl ?_
        refine J_aload_n hX dX13_nextEvent_30 0 rfl (t := 31) rfl ?_
        refine J_iload_n hX dX13_nextEvent_31 2 rfl (t := 32) rfl ?_
        obtain ⟨x13, h12, hF⟩ := bo1_e hF
        have k14 := (ctX13_endsAt (G := G) (l := l) w l2 h12)
        refine J_callV hX [.int l2] [.int x10] [.int x13, .int x10] k14 miX13_endsAt mvX13_endsAt cb10 kModel q_2359 ⟨rfl, rfl, Nat.le_of_ble_eq_true rfl, Nat.le_of_ble_eq_true rfl⟩ rfl rfl (Nat.le_of_ble_eq_true rfl) ⟨Nat.le_of_ble_eq_true rfl, Nat.le_of_ble_eq_true rfl⟩ dX13_nextEvent_32 (t := 35) rfl rfl ?_
        obtain ⟨x16, h15, hF⟩ := bnd_e hF
        have k17 := (ctX13_smaller (l := l) (G := G) (w := w) x10 x13 h15)
        refine J_callS hX [.int x10, .int x13] [] [.int x16] k17 miX13_smaller q_2698 q_2697 ⟨rfl, rfl, Nat.le_of_ble_eq_true rfl, Nat.le_of_ble_eq_true rfl⟩ rfl rfl (Nat.le_of_ble_eq_true rfl) ⟨Nat.le_of_ble_eq_true rfl, Nat.le_of_ble_eq_true rfl⟩ dX13_nextEvent_35 (t := 38) rfl rfl ?_
        refine J_istore_n (lc2 := [(3, .int x16), (0, .ref (adr G 15 0)), (1, .int l1), (2, .int l2)]) hX dX13_nextEvent_38 rfl (Nat.le_of_ble_eq_true rfl) rfl (t := 39) rfl ?_
        refine J_iload_n hX dX13_nextEvent_39 2 rfl (t := 40) rfl ?_
        refine J_iconst (v := (-1)) hX dX13_nextEvent_40 (by decide) (t := 41) rfl ?_
        refine J_icmp_ne (tgt := 48) hX dX13_nextEvent_41 (by decide) (t := 44) rfl (fun z => ?_) (fun z => ?_)
        · replace hF := it_f hF z
          refine J_iload_n hX dX13_nextEvent_48 0 rfl (t := 49) rfl ?_
          refine J_iload_n hX dX13_nextEvent_49 2 rfl (t := 50) rfl ?_
          obtain ⟨x19, h18, hF⟩ := bnd_e hF
          have k20 := (ctX13_smaller (l := l) (G := G) (w := w) x16 l1 h18)
          refine J_callS hX [.int x16, .int l1] [] [.int x19] k20 miX13_smaller q_2698 q_2697 ⟨rfl, rfl, Nat.le_of_ble_eq_true rfl, Nat.le_of_ble_eq_true rfl⟩ rfl rfl (Nat.le_of_ble_eq_true rfl) ⟨Nat.le_of_ble_eq_true rfl, Nat.le_of_ble_eq_true rfl⟩ dX13_nextEvent_50 (t := 53) rfl rfl ?_
          refine J_istore_n (lc2 := [(1, .int x19), (3, .int x16), (0, .ref (adr G 15 0)), (2, .int l2)]) hX dX13_nextEvent_53 rfl (Nat.le_of_ble_eq_true rfl) rfl (t := 54) rfl ?_
          refine J_iinc (v := l2 + 1) (lc2 := [(2, .int (l2 + 1)), (1, .int x19), (3, .int x16), (0, .ref (adr G 15 0))]) hX dX13_nextEvent_54 3 rfl rfl (Nat.le_of_ble_eq_true rfl) rfl (t := 57) rfl ?_
          refine J_goto (tgt := 4) hX dX13_nextEvent_57 (by decide) ?_
          refine J_sub (lc2 := [(0, .ref (adr G 15 0)), (1, .int x19), (2, .int (l2 + 1))]) [3, 1, 0] rfl ?_
          exact ih w x19 (l2 + 1) hF
        · replace hF := it_t hF z
          refine J_iload_n hX dX13_nextEvent_44 0 rfl (t := 45) rfl ?_
          refine J_goto (tgt := 53) hX dX13_nextEvent_45 (by decide) ?_
          refine J_istore_n (lc2 := [(1, .int x16), (3, .int x16), (0, .ref (adr G 15 0)), (2, .int l2)]) hX dX13_nextEvent_53 rfl (Nat.le_of_ble_eq_true rfl) rfl (t := 54) rfl ?_
          refine J_iinc (v := l2 + 1) (lc2 := [(2, .int (l2 + 1)), (1, .int x16), (3, .int x16), (0, .ref (adr G 15 0))]) hX dX13_nextEvent_54 3 rfl rfl (Nat.le_of_ble_eq_true rfl) rfl (t := 57) rfl ?_
          refine J_goto (tgt := 4) hX dX13_nextEvent_57 (by decide) ?_
          refine J_sub (lc2 := [(0, .ref (adr G 15 0)), (1, .int x16), (2, .int (l2 + 1))]) [3, 1, 0] rfl ?_
          exact ih w x16 (l2 + 1) hF
      · replace hF := ib_f hF z
        refine J_goto (tgt := 54) hX dX13_nextEvent_22 (by decide) ?_
        refine J_iinc (v := l2 + 1) (lc2 := [(2, .int (l2 + 1)), (0, .ref (adr G 15 0)), (1, .int l1)]) hX dX13_nextEvent_54 2 rfl rfl (Nat.le_of_ble_eq_true rfl) rfl (t := 57) rfl ?_
        refine J_goto (tgt := 4) hX dX13_nextEvent_57 (by decide) ?_
        refine J_sub (lc2 := [(0, .ref (adr G 15 0)), (1, .int l1), (2, .int (l2 + 1))]) [1, 2, 0] rfl ?_
        exact ih w l1 (l2 + 1) hF
def FX13_nextEvent (n : Nat) (w : Wd)  : Option (Int32 × Wd) :=
  FX13_nextEvent_L4 n n w (-1) 0
set_option maxHeartbeats 4000000 in
set_option maxRecDepth 100000 in
theorem ctX13_nextEvent {G : GG} {l : Launch} (w : Wd)   (n : Nat) {rx : Int32} {rw : Wd} (hF : FX13_nextEvent n w  = some (rx, rw)) : CT G l yX13_nextEvent cX13_nextEvent 4 (some .int) rmX13_nextEvent 0 0 [.ref (adr G 15 0)] w (some (.int rx)) rw := by
  refine CT.of miX13_nextEvent [(0, .ref (adr G 15 0))] rfl (Nat.le_of_ble_eq_true rfl) ?_
  intro p e s m args below meth c hX hR hlk
  have hX : FX G RX13 cX13_nextEvent 4 p s m args c := hX
  unfold FX13_nextEvent at hF
  refine J_iconst (v := (-1)) hX dX13_nextEvent_0 (by decide) (t := 1) rfl ?_
  refine J_istore_n (lc2 := [(1, .int (-1)), (0, .ref (adr G 15 0))]) hX dX13_nextEvent_1 rfl (Nat.le_of_ble_eq_true rfl) rfl (t := 2) rfl ?_
  refine J_iconst (v := 0) hX dX13_nextEvent_2 (by decide) (t := 3) rfl ?_
  refine J_istore_n (lc2 := [(2, .int 0), (1, .int (-1)), (0, .ref (adr G 15 0))]) hX dX13_nextEvent_3 rfl (Nat.le_of_ble_eq_true rfl) rfl (t := 4) rfl ?_
  refine J_sub (lc2 := [(0, .ref (adr G 15 0)), (1, .int (-1)), (2, .int 0)]) [2, 1, 0] rfl ?_
  exact LX13_nextEvent_4 hX hR hlk n n w (-1) 0 hF
abbrev rmX13_earnedBehind : Room := { frames := 8, cells := 0, slots := 0, locals := 175 }
theorem miX13_earnedBehind : MI yX13_earnedBehind cX13_earnedBehind 2 (some .int) 1 := ⟨q_2707, q_152, by decide +kernel, by decide +kernel, by decide +kernel, by decide +kernel⟩
theorem mvX13_earnedBehind : MV yX13_earnedBehind := ⟨q_2706, q_113⟩
def FX13_earnedBehind (n : Nat) (w : Wd) (p1 : Int32) : Option (Int32 × Wd) :=
  bo1 (FX13_holds n w) fun w2 =>
  bo2 (FX13_passes n w2 p1) fun x5 w6 =>
  bnd (sW w6 15 (sI (w6 15) 0 31 x5)) fun w8 =>
  gd (inb 4 390) <|
  bo2 (FX13_putBack n w8 ((w8 15).1 2 4)) fun x12 w13 =>
  some (x12, w13)
set_option maxHeartbeats 4000000 in
set_option maxRecDepth 100000 in
theorem ctX13_earnedBehind {G : GG} {l : Launch} (w : Wd) (p1 : Int32)  (n : Nat) {rx : Int32} {rw : Wd} (hF : FX13_earnedBehind n w p1 = some (rx, rw)) : CT G l yX13_earnedBehind cX13_earnedBehind 2 (some .int) rmX13_earnedBehind 0 0 [.ref (adr G 15 0), .int p1] w (some (.int rx)) rw := by
  refine CT.of miX13_earnedBehind [(0, .ref (adr G 15 0)), (1, .int p1)] rfl (Nat.le_of_ble_eq_true rfl) ?_
  intro p e s m args below meth c hX hR hlk
  have hX : FX G RX13 cX13_earnedBehind 2 p s m args c := hX
  unfold FX13_earnedBehind at hF
  refine J_aload_n hX dX13_earnedBehind_0 0 rfl (t := 1) rfl ?_
  obtain ⟨w2, h1, hF⟩ := bo1_e hF
  have k3 := (ctX13_holds (G := G) (l := l) w  n h1)
  refine J_callV hX [] [] [] k3 miX13_holds mvX13_holds cb10 kModel q_2708 ⟨rfl, rfl, Nat.le_of_ble_eq_true rfl, Nat.le_of_ble_eq_true rfl⟩ rfl rfl (Nat.le_of_ble_eq_true rfl) ⟨Nat.le_of_ble_eq_true rfl, Nat.le_of_ble_eq_true rfl⟩ dX13_earnedBehind_1 (t := 4) rfl rfl ?_
  refine J_aload_n hX dX13_earnedBehind_4 0 rfl (t := 5) rfl ?_
  refine J_aload_n hX dX13_earnedBehind_5 0 rfl (t := 6) rfl ?_
  refine J_iload_n hX dX13_earnedBehind_6 1 rfl (t := 7) rfl ?_
  obtain ⟨x5, w6, h4, hF⟩ := bo2_e hF
  have k7 := (ctX13_passes (G := G) (l := l) w2 p1 n h4)
  refine J_callV hX [.int p1] [.ref (adr G 15 0)] [.int x5, .ref (adr G 15 0)] k7 miX13_passes mvX13_passes cb10 kModel q_2335 ⟨rfl, rfl, Nat.le_of_ble_eq_true rfl, Nat.le_of_ble_eq_true rfl⟩ rfl rfl (Nat.le_of_ble_eq_true rfl) ⟨Nat.le_of_ble_eq_true rfl, Nat.le_of_ble_eq_true rfl⟩ dX13_earnedBehind_7 (t := 10) rfl rfl ?_
  obtain ⟨w8, e9, hF⟩ := bnd_e hF
  refine J_puti hX cb10 kModel 31 (by decide) q_1998 rfl rfl e9 (fun _ _ => Nat.le_of_ble_eq_true rfl) (fun _ _ => rfl) dX13_earnedBehind_10 (t := 13) rfl ?_
  refine J_aload_n hX dX13_earnedBehind_13 0 rfl (t := 14) rfl ?_
  refine J_aload_n hX dX13_earnedBehind_14 0 rfl (t := 15) rfl ?_
  refine J_get hX cb10 kModel 13 (by decide) q_1980 rfl dX13_earnedBehind_15 (t := 18) rfl ?_
  refine J_iconst (v := 4) hX dX13_earnedBehind_18 (by decide) (t := 19) rfl ?_
  obtain ⟨g10, hF⟩ := gd_e hF
  refine J_iald hX (kInts (j := 2) (n := 390) (by decide) (by decide) rfl) g10 rfl dX13_earnedBehind_19 (t := 20) rfl ?_
  obtain ⟨x12, w13, h11, hF⟩ := bo2_e hF
  have k14 := (ctX13_putBack (G := G) (l := l) w8 ((w8 15).1 2 4) n h11)
  refine J_callV hX [.int ((w8 15).1 2 4)] [] [.int x12] k14 miX13_putBack mvX13_putBack cb10 kModel q_2712 ⟨rfl, rfl, Nat.le_of_ble_eq_true rfl, Nat.le_of_ble_eq_true rfl⟩ rfl rfl (Nat.le_of_ble_eq_true rfl) ⟨Nat.le_of_ble_eq_true rfl, Nat.le_of_ble_eq_true rfl⟩ dX13_earnedBehind_20 (t := 23) rfl rfl ?_
  replace hF := Option.some.inj hF
  obtain ⟨hF, hF2⟩ := Prod.mk.inj hF
  subst hF
  subst hF2
  exact J_iret hX hR hlk dX13_earnedBehind_23
abbrev rmX13_earnedAfter : Room := { frames := 9, cells := 0, slots := 0, locals := 196 }
theorem miX13_earnedAfter : MI yX13_earnedAfter cX13_earnedAfter 2 (some .int) 1 := ⟨q_2703, q_152, by decide +kernel, by decide +kernel, by decide +kernel, by decide +kernel⟩
theorem mvX13_earnedAfter : MV yX13_earnedAfter := ⟨q_2701, q_2702⟩
def FX13_earnedAfter (n : Nat) (w : Wd) (p1 : Int32) : Option (Int32 × Wd) :=
  bnd (FX13_isIn p1.toInt64 0 240) fun x2 =>
  bnd2 (FX13_goes w x2) fun x5 w6 =>
  if x5 = true then
    bo2 (FX13_earnedBehind n w6 p1) fun x9 w10 =>
    some (x9, w10)
  else
    some (0, w6)
set_option maxHeartbeats 4000000 in
set_option maxRecDepth 100000 in
theorem ctX13_earnedAfter {G : GG} {l : Launch} (w : Wd) (p1 : Int32)  (n : Nat) {rx : Int32} {rw : Wd} (hF : FX13_earnedAfter n w p1 = some (rx, rw)) : CT G l yX13_earnedAfter cX13_earnedAfter 2 (some .int) rmX13_earnedAfter 0 0 [.ref (adr G 15 0), .int p1] w (some (.int rx)) rw := by
  refine CT.of miX13_earnedAfter [(0, .ref (adr G 15 0)), (1, .int p1)] rfl (Nat.le_of_ble_eq_true rfl) ?_
  intro p e s m args below meth c hX hR hlk
  have hX : FX G RX13 cX13_earnedAfter 2 p s m args c := hX
  unfold FX13_earnedAfter at hF
  refine J_aload_n hX dX13_earnedAfter_0 0 rfl (t := 1) rfl ?_
  refine J_iload_n hX dX13_earnedAfter_1 1 rfl (t := 2) rfl ?_
  refine J_i2l hX dX13_earnedAfter_2 (t := 3) rfl ?_
  refine J_lconst (v := 0) hX dX13_earnedAfter_3 (by decide) (t := 4) rfl ?_
  refine J_ldc2 hX dX13_earnedAfter_4 q_2196 (t := 7) rfl ?_
  obtain ⟨x2, h1, hF⟩ := bnd_e hF
  have k3 := (ctX13_isIn (l := l) (G := G) (w := w) p1.toInt64 0 240 h1)
  refine J_callS hX [.long p1.toInt64, .long 0, .long 240] [.ref (adr G 15 0)] [.int (bI x2), .ref (adr G 15 0)] k3 miX13_isIn q_2094 q_2093 ⟨rfl, rfl, Nat.le_of_ble_eq_true rfl, Nat.le_of_ble_eq_true rfl⟩ rfl rfl (Nat.le_of_ble_eq_true rfl) ⟨Nat.le_of_ble_eq_true rfl, Nat.le_of_ble_eq_true rfl⟩ dX13_earnedAfter_7 (t := 10) rfl rfl ?_
  obtain ⟨x5, w6, h4, hF⟩ := bnd2_e hF
  have k7 := (ctX13_goes (G := G) (l := l) w x2 h4)
  refine J_callV hX [.int (bI x2)] [] [.int (bI x5)] k7 miX13_goes mvX13_goes cb10 kModel q_2078 ⟨rfl, rfl, Nat.le_of_ble_eq_true rfl, Nat.le_of_ble_eq_true rfl⟩ rfl rfl (Nat.le_of_ble_eq_true rfl) ⟨Nat.le_of_ble_eq_true rfl, Nat.le_of_ble_eq_true rfl⟩ dX13_earnedAfter_10 (t := 13) rfl rfl ?_
  refine J_ifZ_eq (tgt := 24) hX dX13_earnedAfter_13 (by decide) (t := 16) rfl (fun z => ?_) (fun z => ?_)
  · replace hF := ib_f hF z
    refine J_iconst (v := 0) hX dX13_earnedAfter_24 (by decide) (t := 25) rfl ?_
    replace hF := Option.some.inj hF
    obtain ⟨hF, hF2⟩ := Prod.mk.inj hF
    subst hF
    subst hF2
    exact J_iret hX hR hlk dX13_earnedAfter_25
  · replace hF := it_t hF z
    refine J_aload_n hX dX13_earnedAfter_16 0 rfl (t := 17) rfl ?_
    refine J_iload_n hX dX13_earnedAfter_17 1 rfl (t := 18) rfl ?_
    obtain ⟨x9, w10, h8, hF⟩ := bo2_e hF
    have k11 := (ctX13_earnedBehind (G := G) (l := l) w6 p1 n h8)
    refine J_callV hX [.int p1] [] [.int x9] k11 miX13_earnedBehind mvX13_earnedBehind cb10 kModel q_2704 ⟨rfl, rfl, Nat.le_of_ble_eq_true rfl, Nat.le_of_ble_eq_true rfl⟩ rfl rfl (Nat.le_of_ble_eq_true rfl) ⟨Nat.le_of_ble_eq_true rfl, Nat.le_of_ble_eq_true rfl⟩ dX13_earnedAfter_18 (t := 21) rfl rfl ?_
    refine J_goto (tgt := 25) hX dX13_earnedAfter_21 (by decide) ?_
    replace hF := Option.some.inj hF
    obtain ⟨hF, hF2⟩ := Prod.mk.inj hF
    subst hF
    subst hF2
    exact J_iret hX hR hlk dX13_earnedAfter_25
abbrev rmX13_endOf : Room := { frames := 3, cells := 0, slots := 0, locals := 67 }
theorem miX13_endOf : MI yX13_endOf cX13_endOf 2 (some .int) 1 := ⟨q_2723, q_152, by decide +kernel, by decide +kernel, by decide +kernel, by decide +kernel⟩
theorem mvX13_endOf : MV yX13_endOf := ⟨q_2722, q_116⟩
def FX13_endOf (w : Wd) (p1 : Int32) : Option (Int32) :=
  bo1 (FX13_isOpen w p1) fun x2 =>
  if x2 = true then
    bo1 (FX13_of w p1 1) fun x5 =>
    bo1 (FX13_ofValley w x5 0) fun x8 =>
    bo1 (FX13_of w p1 3) fun x11 =>
    bo1 (FX13_of w p1 0) fun x14 =>
    bo1 (FX13_ofCustomer w x14 0) fun x17 =>
    if x17 < x8 * x11 then
      some 2
    else
      some 1
  else
    bo1 (FX13_of w p1 6) fun x20 =>
    some x20
set_option maxHeartbeats 4000000 in
set_option maxRecDepth 100000 in
theorem ctX13_endOf {G : GG} {l : Launch} (w : Wd) (p1 : Int32)  {rx : Int32} (hF : FX13_endOf w p1 = some rx) : CT G l yX13_endOf cX13_endOf 2 (some .int) rmX13_endOf 0 0 [.ref (adr G 15 0), .int p1] w (some (.int rx)) w := by
  refine CT.of miX13_endOf [(0, .ref (adr G 15 0)), (1, .int p1)] rfl (Nat.le_of_ble_eq_true rfl) ?_
  intro p e s m args below meth c hX hR hlk
  have hX : FX G RX13 cX13_endOf 2 p s m args c := hX
  unfold FX13_endOf at hF
  refine J_aload_n hX dX13_endOf_0 0 rfl (t := 1) rfl ?_
  refine J_iload_n hX dX13_endOf_1 1 rfl (t := 2) rfl ?_
  obtain ⟨x2, h1, hF⟩ := bo1_e hF
  have k3 := (ctX13_isOpen (G := G) (l := l) w p1 h1)
  refine J_callV hX [.int p1] [] [.int (bI x2)] k3 miX13_isOpen mvX13_isOpen cb10 kModel q_2264 ⟨rfl, rfl, Nat.le_of_ble_eq_true rfl, Nat.le_of_ble_eq_true rfl⟩ rfl rfl (Nat.le_of_ble_eq_true rfl) ⟨Nat.le_of_ble_eq_true rfl, Nat.le_of_ble_eq_true rfl⟩ dX13_endOf_2 (t := 5) rfl rfl ?_
  refine J_ifZ_ne (tgt := 16) hX dX13_endOf_5 (by decide) (t := 8) rfl (fun z => ?_) (fun z => ?_)
  · replace hF := it_t hF z
    refine J_aload_n hX dX13_endOf_16 0 rfl (t := 17) rfl ?_
    refine J_aload_n hX dX13_endOf_17 0 rfl (t := 18) rfl ?_
    refine J_iload_n hX dX13_endOf_18 1 rfl (t := 19) rfl ?_
    refine J_iconst (v := 1) hX dX13_endOf_19 (by decide) (t := 20) rfl ?_
    obtain ⟨x5, h4, hF⟩ := bo1_e hF
    have k6 := (ctX13_of (G := G) (l := l) w p1 1 h4)
    refine J_callV hX [.int p1, .int 1] [.ref (adr G 15 0)] [.int x5, .ref (adr G 15 0)] k6 miX13_of mvX13_of cb10 kModel q_2237 ⟨rfl, rfl, Nat.le_of_ble_eq_true rfl, Nat.le_of_ble_eq_true rfl⟩ rfl rfl (Nat.le_of_ble_eq_true rfl) ⟨Nat.le_of_ble_eq_true rfl, Nat.le_of_ble_eq_true rfl⟩ dX13_endOf_20 (t := 23) rfl rfl ?_
    refine J_iconst (v := 0) hX dX13_endOf_23 (by decide) (t := 24) rfl ?_
    obtain ⟨x8, h7, hF⟩ := bo1_e hF
    have k9 := (ctX13_ofValley (G := G) (l := l) w x5 0 h7)
    refine J_callV hX [.int x5, .int 0] [] [.int x8] k9 miX13_ofValley mvX13_ofValley cb10 kModel q_2225 ⟨rfl, rfl, Nat.le_of_ble_eq_true rfl, Nat.le_of_ble_eq_true rfl⟩ rfl rfl (Nat.le_of_ble_eq_true rfl) ⟨Nat.le_of_ble_eq_true rfl, Nat.le_of_ble_eq_true rfl⟩ dX13_endOf_24 (t := 27) rfl rfl ?_
    refine J_aload_n hX dX13_endOf_27 0 rfl (t := 28) rfl ?_
    refine J_iload_n hX dX13_endOf_28 1 rfl (t := 29) rfl ?_
    refine J_iconst (v := 3) hX dX13_endOf_29 (by decide) (t := 30) rfl ?_
    obtain ⟨x11, h10, hF⟩ := bo1_e hF
    have k12 := (ctX13_of (G := G) (l := l) w p1 3 h10)
    refine J_callV hX [.int p1, .int 3] [.int x8] [.int x11, .int x8] k12 miX13_of mvX13_of cb10 kModel q_2237 ⟨rfl, rfl, Nat.le_of_ble_eq_true rfl, Nat.le_of_ble_eq_true rfl⟩ rfl rfl (Nat.le_of_ble_eq_true rfl) ⟨Nat.le_of_ble_eq_true rfl, Nat.le_of_ble_eq_true rfl⟩ dX13_endOf_30 (t := 33) rfl rfl ?_
    refine J_imul hX dX13_endOf_33 (t := 34) rfl ?_
    refine J_aload_n hX dX13_endOf_34 0 rfl (t := 35) rfl ?_
    refine J_aload_n hX dX13_endOf_35 0 rfl (t := 36) rfl ?_
    refine J_iload_n hX dX13_endOf_36 1 rfl (t := 37) rfl ?_
    refine J_iconst (v := 0) hX dX13_endOf_37 (by decide) (t := 38) rfl ?_
    obtain ⟨x14, h13, hF⟩ := bo1_e hF
    have k15 := (ctX13_of (G := G) (l := l) w p1 0 h13)
    refine J_callV hX [.int p1, .int 0] [.ref (adr G 15 0), .int (x8 * x11)] [.int x14, .ref (adr G 15 0), .int (x8 * x11)] k15 miX13_of mvX13_of cb10 kModel q_2237 ⟨rfl, rfl, Nat.le_of_ble_eq_true rfl, Nat.le_of_ble_eq_true rfl⟩ rfl rfl (Nat.le_of_ble_eq_true rfl) ⟨Nat.le_of_ble_eq_true rfl, Nat.le_of_ble_eq_true rfl⟩ dX13_endOf_38 (t := 41) rfl rfl ?_
    refine J_iconst (v := 0) hX dX13_endOf_41 (by decide) (t := 42) rfl ?_
    obtain ⟨x17, h16, hF⟩ := bo1_e hF
    have k18 := (ctX13_ofCustomer (G := G) (l := l) w x14 0 h16)
    refine J_callV hX [.int x14, .int 0] [.int (x8 * x11)] [.int x17, .int (x8 * x11)] k18 miX13_ofCustomer mvX13_ofCustomer cb10 kModel q_2229 ⟨rfl, rfl, Nat.le_of_ble_eq_true rfl, Nat.le_of_ble_eq_true rfl⟩ rfl rfl (Nat.le_of_ble_eq_true rfl) ⟨Nat.le_of_ble_eq_true rfl, Nat.le_of_ble_eq_true rfl⟩ dX13_endOf_42 (t := 45) rfl rfl ?_
    refine J_icmp_gt (tgt := 52) hX dX13_endOf_45 (by decide) (t := 48) rfl (fun z => ?_) (fun z => ?_)
    · replace hF := it_t hF z
      refine J_iconst (v := 2) hX dX13_endOf_52 (by decide) (t := 53) rfl ?_
      replace hF := Option.some.inj hF
      subst hF
      exact J_iret hX hR hlk dX13_endOf_53
    · replace hF := it_f hF z
      refine J_iconst (v := 1) hX dX13_endOf_48 (by decide) (t := 49) rfl ?_
      refine J_goto (tgt := 53) hX dX13_endOf_49 (by decide) ?_
      replace hF := Option.some.inj hF
      subst hF
      exact J_iret hX hR hlk dX13_endOf_53
  · replace hF := ib_f hF z
    refine J_aload_n hX dX13_endOf_8 0 rfl (t := 9) rfl ?_
    refine J_iload_n hX dX13_endOf_9 1 rfl (t := 10) rfl ?_
    refine J_bipush (v := 6) hX dX13_endOf_10 (by decide) (t := 12) rfl ?_
    obtain ⟨x20, h19, hF⟩ := bo1_e hF
    have k21 := (ctX13_of (G := G) (l := l) w p1 6 h19)
    refine J_callV hX [.int p1, .int 6] [] [.int x20] k21 miX13_of mvX13_of cb10 kModel q_2237 ⟨rfl, rfl, Nat.le_of_ble_eq_true rfl, Nat.le_of_ble_eq_true rfl⟩ rfl rfl (Nat.le_of_ble_eq_true rfl) ⟨Nat.le_of_ble_eq_true rfl, Nat.le_of_ble_eq_true rfl⟩ dX13_endOf_12 (t := 15) rfl rfl ?_
    replace hF := Option.some.inj hF
    subst hF
    exact J_iret hX hR hlk dX13_endOf_15
abbrev rmX13_finalState : Room := { frames := 4, cells := 0, slots := 0, locals := 88 }
theorem miX13_finalState : MI yX13_finalState cX13_finalState 2 (some .int) 1 := ⟨q_2719, q_152, by decide +kernel, by decide +kernel, by decide +kernel, by decide +kernel⟩
theorem mvX13_finalState : MV yX13_finalState := ⟨q_2717, q_2718⟩
def FX13_finalState (w : Wd) (p1 : Int32) : Option (Int32 × Wd) :=
  bo1 (FX13_isShout0 w p1) fun x2 =>
  bnd2 (FX13_goes w x2) fun x5 w6 =>
  if x5 = true then
    bo1 (FX13_endOf w6 p1) fun x9 =>
    some (x9, w6)
  else
    some (0, w6)
set_option maxHeartbeats 4000000 in
set_option maxRecDepth 100000 in
theorem ctX13_finalState {G : GG} {l : Launch} (w : Wd) (p1 : Int32)  {rx : Int32} {rw : Wd} (hF : FX13_finalState w p1 = some (rx, rw)) : CT G l yX13_finalState cX13_finalState 2 (some .int) rmX13_finalState 0 0 [.ref (adr G 15 0), .int p1] w (some (.int rx)) rw := by
  refine CT.of miX13_finalState [(0, .ref (adr G 15 0)), (1, .int p1)] rfl (Nat.le_of_ble_eq_true rfl) ?_
  intro p e s m args below meth c hX hR hlk
  have hX : FX G RX13 cX13_finalState 2 p s m args c := hX
  unfold FX13_finalState at hF
  refine J_aload_n hX dX13_finalState_0 0 rfl (t := 1) rfl ?_
  refine J_aload_n hX dX13_finalState_1 0 rfl (t := 2) rfl ?_
  refine J_iload_n hX dX13_finalState_2 1 rfl (t := 3) rfl ?_
  obtain ⟨x2, h1, hF⟩ := bo1_e hF
  have k3 := (ctX13_isShout0 (G := G) (l := l) w p1 h1)
  refine J_callV hX [.int p1] [.ref (adr G 15 0)] [.int (bI x2), .ref (adr G 15 0)] k3 miX13_isShout0 mvX13_isShout0 cb10 kModel q_2260 ⟨rfl, rfl, Nat.le_of_ble_eq_true rfl, Nat.le_of_ble_eq_true rfl⟩ rfl rfl (Nat.le_of_ble_eq_true rfl) ⟨Nat.le_of_ble_eq_true rfl, Nat.le_of_ble_eq_true rfl⟩ dX13_finalState_3 (t := 6) rfl rfl ?_
  obtain ⟨x5, w6, h4, hF⟩ := bnd2_e hF
  have k7 := (ctX13_goes (G := G) (l := l) w x2 h4)
  refine J_callV hX [.int (bI x2)] [] [.int (bI x5)] k7 miX13_goes mvX13_goes cb10 kModel q_2078 ⟨rfl, rfl, Nat.le_of_ble_eq_true rfl, Nat.le_of_ble_eq_true rfl⟩ rfl rfl (Nat.le_of_ble_eq_true rfl) ⟨Nat.le_of_ble_eq_true rfl, Nat.le_of_ble_eq_true rfl⟩ dX13_finalState_6 (t := 9) rfl rfl ?_
  refine J_ifZ_eq (tgt := 20) hX dX13_finalState_9 (by decide) (t := 12) rfl (fun z => ?_) (fun z => ?_)
  · replace hF := ib_f hF z
    refine J_iconst (v := 0) hX dX13_finalState_20 (by decide) (t := 21) rfl ?_
    replace hF := Option.some.inj hF
    obtain ⟨hF, hF2⟩ := Prod.mk.inj hF
    subst hF
    subst hF2
    exact J_iret hX hR hlk dX13_finalState_21
  · replace hF := it_t hF z
    refine J_aload_n hX dX13_finalState_12 0 rfl (t := 13) rfl ?_
    refine J_iload_n hX dX13_finalState_13 1 rfl (t := 14) rfl ?_
    obtain ⟨x9, h8, hF⟩ := bo1_e hF
    have k10 := (ctX13_endOf (G := G) (l := l) w6 p1 h8)
    refine J_callV hX [.int p1] [] [.int x9] k10 miX13_endOf mvX13_endOf cb10 kModel q_2720 ⟨rfl, rfl, Nat.le_of_ble_eq_true rfl, Nat.le_of_ble_eq_true rfl⟩ rfl rfl (Nat.le_of_ble_eq_true rfl) ⟨Nat.le_of_ble_eq_true rfl, Nat.le_of_ble_eq_true rfl⟩ dX13_finalState_14 (t := 17) rfl rfl ?_
    refine J_goto (tgt := 21) hX dX13_finalState_17 (by decide) ?_
    replace hF := Option.some.inj hF
    obtain ⟨hF, hF2⟩ := Prod.mk.inj hF
    subst hF
    subst hF2
    exact J_iret hX hR hlk dX13_finalState_21
abbrev rmX13_without : Room := { frames := 0, cells := 0, slots := 0, locals := 0 }
theorem miX13_without : MI yX13_without cX13_without 1 (some .int) 1 := ⟨q_2734, q_152, by decide +kernel, by decide +kernel, by decide +kernel, by decide +kernel⟩
def FX13_without (p0 : Int32) : Int32 :=
  if 0 ≤ p0 then
    p0
  else
    -p0
set_option maxHeartbeats 4000000 in
set_option maxRecDepth 100000 in
theorem ctX13_without {G : GG} {l : Launch} {w : Wd} (p0 : Int32)  {rx : Int32} (hF : FX13_without p0 = rx) : CT G l yX13_without cX13_without 1 (some .int) rmX13_without 0 0 [.int p0] w (some (.int rx)) w := by
  refine CT.of miX13_without [(0, .int p0)] rfl (Nat.le_of_ble_eq_true rfl) ?_
  intro p e s m args below meth c hX hR hlk
  have hX : FX G RX13 cX13_without 1 p s m args c := hX
  unfold FX13_without at hF
  refine J_iload_n hX dX13_without_0 0 rfl (t := 1) rfl ?_
  refine J_if_ge (tgt := 9) hX dX13_without_1 (by decide) (t := 4) rfl (fun z => ?_) (fun z => ?_)
  · replace hF := it_t hF z
    refine J_iload_n hX dX13_without_9 0 rfl (t := 10) rfl ?_
    subst hF
    exact J_iret hX hR hlk dX13_without_10
  · replace hF := it_f hF z
    refine J_iload_n hX dX13_without_4 0 rfl (t := 5) rfl ?_
    refine J_ineg hX dX13_without_5 (t := 6) rfl ?_
    refine J_goto (tgt := 10) hX dX13_without_6 (by decide) ?_
    subst hF
    exact J_iret hX hR hlk dX13_without_10
abbrev rmX13_costGap : Room := { frames := 4, cells := 0, slots := 0, locals := 85 }
theorem miX13_costGap : MI yX13_costGap cX13_costGap 3 (some .int) 0 := ⟨q_2731, q_152, by decide +kernel, by decide +kernel, by decide +kernel, by decide +kernel⟩
theorem mvX13_costGap : MV yX13_costGap := ⟨q_2730, q_117⟩
def FX13_costGap_L4 (n : Nat) : Nat → Wd → Int32 → Int32 → Option (Int32)
  | 0 => fun _ _ _ => none
  | k + 1 => fun w l1 l2 =>
    gd (inb 2 390) <|
    if (w 15).1 2 2 ≤ l2 then
      gd (inb 4 390) <|
      gd (inb 5 390) <|
      bo1 (FX13_heldAll n w) fun x5 =>
      bnd (FX13_without (((l1 - ((w 15).1 2 4)) - ((w 15).1 2 5)) - x5)) fun x8 =>
      some x8
    else
      bo1 (FX13_of w l2 4) fun x11 =>
      bo1 (FX13_of w l2 3) fun x14 =>
      FX13_costGap_L4 n k w (l1 + (x11 * x14)) (l2 + 1)
set_option maxHeartbeats 4000000 in
set_option maxRecDepth 100000 in
theorem LX13_costGap_4 {G : GG} {l : Launch} {p : Program} {e : Env} {s : State} {m : MethodId} {args : Array Value} {below : List Frame} {meth : Method} {c : Code} (hX : FX G RX13 cX13_costGap 3 p s m args c) (hR : meth.sig.returnType = (some .int)) (hlk : meth.locks = false) {rx : Int32} (n : Nat) : ∀ (k : Nat) (w : Wd) (l1 : Int32) (l2 : Int32) , FX13_costGap_L4 n k w l1 l2 = some rx → J G p l e rmX13_costGap s m args below meth c 3 0 0 (MQ below (QV G (some (.int rx)) w) args s 0 0 (gA G)) (GH G w) 4 [(0, .ref (adr G 15 0)), (1, .int l1), (2, .int l2)] [] := by
  intro k
  induction k with
  | zero => intro w l1 l2  hF; cases hF
  | succ k ih =>
    intro w l1 l2  hF
    simp only [FX13_costGap_L4] at hF
    refine J_iload_n hX dX13_costGap_4 2 rfl (t := 5) rfl ?_
    refine J_aload_n hX dX13_costGap_5 0 rfl (t := 6) rfl ?_
    refine J_get hX cb10 kModel 13 (by decide) q_1980 rfl dX13_costGap_6 (t := 9) rfl ?_
    refine J_iconst (v := 2) hX dX13_costGap_9 (by decide) (t := 10) rfl ?_
    obtain ⟨g1, hF⟩ := gd_e hF
    refine J_iald hX (kInts (j := 2) (n := 390) (by decide) (by decide) rfl) g1 rfl dX13_costGap_10 (t := 11) rfl ?_
    refine J_icmp_ge (tgt := 36) hX dX13_costGap_11 (by decide) (t := 14) rfl (fun z => ?_) (fun z => ?_)
    · replace hF := it_t hF z
      refine J_iload_n hX dX13_costGap_36 1 rfl (t := 37) rfl ?_
      refine J_aload_n hX dX13_costGap_37 0 rfl (t := 38) rfl ?_
      refine J_get hX cb10 kModel 13 (by decide) q_1980 rfl dX13_costGap_38 (t := 41) rfl ?_
      refine J_iconst (v := 4) hX dX13_costGap_41 (by decide) (t := 42) rfl ?_
      obtain ⟨g2, hF⟩ := gd_e hF
      refine J_iald hX (kInts (j := 2) (n := 390) (by decide) (by decide) rfl) g2 rfl dX13_costGap_42 (t := 43) rfl ?_
      refine J_isub hX dX13_costGap_43 (t := 44) rfl ?_
      refine J_aload_n hX dX13_costGap_44 0 rfl (t := 45) rfl ?_
      refine J_get hX cb10 kModel 13 (by decide) q_1980 rfl dX13_costGap_45 (t := 48) rfl ?_
      refine J_iconst (v := 5) hX dX13_costGap_48 (by decide) (t := 49) rfl ?_
      obtain ⟨g3, hF⟩ := gd_e hF
      refine J_iald hX (kInts (j := 2) (n := 390) (by decide) (by decide) rfl) g3 rfl dX13_costGap_49 (t := 50) rfl ?_
      refine J_isub hX dX13_costGap_50 (t := 51) rfl ?_
      refine J_aload_n hX dX13_costGap_51 0 rfl (t := 52) rfl ?_
      obtain ⟨x5, h4, hF⟩ := bo1_e hF
      have k6 := (ctX13_heldAll (G := G) (l := l) w  n h4)
      refine J_callV hX [] [.int ((l1 - ((w 15).1 2 4)) - ((w 15).1 2 5))] [.int x5, .int ((l1 - ((w 15).1 2 4)) - ((w 15).1 2 5))] k6 miX13_heldAll mvX13_heldAll cb10 kModel q_2507 ⟨rfl, rfl, Nat.le_of_ble_eq_true rfl, Nat.le_of_ble_eq_true rfl⟩ rfl rfl (Nat.le_of_ble_eq_true rfl) ⟨Nat.le_of_ble_eq_true rfl, Nat.le_of_ble_eq_true rfl⟩ dX13_costGap_52 (t := 55) rfl rfl ?_
      refine J_isub hX dX13_costGap_55 (t := 56) rfl ?_
      obtain ⟨x8, h7, hF⟩ := bnd_e hF
      have k9 := (ctX13_without (l := l) (G := G) (w := w) (((l1 - ((w 15).1 2 4)) - ((w 15).1 2 5)) - x5) h7)
      refine J_callS hX [.int (((l1 - ((w 15).1 2 4)) - ((w 15).1 2 5)) - x5)] [] [.int x8] k9 miX13_without q_2733 q_2732 ⟨rfl, rfl, Nat.le_of_ble_eq_true rfl, Nat.le_of_ble_eq_true rfl⟩ rfl rfl (Nat.le_of_ble_eq_true rfl) ⟨Nat.le_of_ble_eq_true rfl, Nat.le_of_ble_eq_true rfl⟩ dX13_costGap_56 (t := 59) rfl rfl ?_
      replace hF := Option.some.inj hF
      subst hF
      exact J_iret hX hR hlk dX13_costGap_59
    · replace hF := it_f hF z
      refine J_iload_n hX dX13_costGap_14 1 rfl (t := 15) rfl ?_
      refine J_aload_n hX dX13_costGap_15 0 rfl (t := 16) rfl ?_
      refine J_iload_n hX dX13_costGap_16 2 rfl (t := 17) rfl ?_
      refine J_iconst (v := 4) hX dX13_costGap_17 (by decide) (t := 18) rfl ?_
      obtain ⟨x11, h10, hF⟩ := bo1_e hF
      have k12 := (ctX13_of (G := G) (l := l) w l2 4 h10)
      refine J_callV hX [.int l2, .int 4] [.int l1] [.int x11, .int l1] k12 miX13_of mvX13_of cb10 kModel q_2237 ⟨rfl, rfl, Nat.le_of_ble_eq_true rfl, Nat.le_of_ble_eq_true rfl⟩ rfl rfl (Nat.le_of_ble_eq_true rfl) ⟨Nat.le_of_ble_eq_true rfl, Nat.le_of_ble_eq_true rfl⟩ dX13_costGap_18 (t := 21) rfl rfl ?_
      refine J_aload_n hX dX13_costGap_21 0 rfl (t := 22) rfl ?_
      refine J_iload_n hX dX13_costGap_22 2 rfl (t := 23) rfl ?_
      refine J_iconst (v := 3) hX dX13_costGap_23 (by decide) (t := 24) rfl ?_
      obtain ⟨x14, h13, hF⟩ := bo1_e hF
      have k15 := (ctX13_of (G := G) (l := l) w l2 3 h13)
      refine J_callV hX [.int l2, .int 3] [.int x11, .int l1] [.int x14, .int x11, .int l1] k15 miX13_of mvX13_of cb10 kModel q_2237 ⟨rfl, rfl, Nat.le_of_ble_eq_true rfl, Nat.le_of_ble_eq_true rfl⟩ rfl rfl (Nat.le_of_ble_eq_true rfl) ⟨Nat.le_of_ble_eq_true rfl, Nat.le_of_ble_eq_true rfl⟩ dX13_costGap_24 (t := 27) rfl rfl ?_
      refine J_imul hX dX13_costGap_27 (t := 28) rfl ?_
      refine J_iadd hX dX13_costGap_28 (t := 29) rfl ?_
      refine J_istore_n (lc2 := [(1, .int (l1 + (x11 * x14))), (0, .ref (adr G 15 0)), (2, .int l2)]) hX dX13_costGap_29 rfl (Nat.le_of_ble_eq_true rfl) rfl (t := 30) rfl ?_
      refine J_iinc (v := l2 + 1) (lc2 := [(2, .int (l2 + 1)), (1, .int (l1 + (x11 * x14))), (0, .ref (adr G 15 0))]) hX dX13_costGap_30 2 rfl rfl (Nat.le_of_ble_eq_true rfl) rfl (t := 33) rfl ?_
      refine J_goto (tgt := 4) hX dX13_costGap_33 (by decide) ?_
      refine J_sub (lc2 := [(0, .ref (adr G 15 0)), (1, .int (l1 + (x11 * x14))), (2, .int (l2 + 1))]) [2, 1, 0] rfl ?_
      exact ih w (l1 + (x11 * x14)) (l2 + 1) hF
def FX13_costGap (n : Nat) (w : Wd)  : Option (Int32) :=
  FX13_costGap_L4 n n w 0 0
set_option maxHeartbeats 4000000 in
set_option maxRecDepth 100000 in
theorem ctX13_costGap {G : GG} {l : Launch} (w : Wd)   (n : Nat) {rx : Int32} (hF : FX13_costGap n w  = some rx) : CT G l yX13_costGap cX13_costGap 3 (some .int) rmX13_costGap 0 0 [.ref (adr G 15 0)] w (some (.int rx)) w := by
  refine CT.of miX13_costGap [(0, .ref (adr G 15 0))] rfl (Nat.le_of_ble_eq_true rfl) ?_
  intro p e s m args below meth c hX hR hlk
  have hX : FX G RX13 cX13_costGap 3 p s m args c := hX
  unfold FX13_costGap at hF
  refine J_iconst (v := 0) hX dX13_costGap_0 (by decide) (t := 1) rfl ?_
  refine J_istore_n (lc2 := [(1, .int 0), (0, .ref (adr G 15 0))]) hX dX13_costGap_1 rfl (Nat.le_of_ble_eq_true rfl) rfl (t := 2) rfl ?_
  refine J_iconst (v := 0) hX dX13_costGap_2 (by decide) (t := 3) rfl ?_
  refine J_istore_n (lc2 := [(2, .int 0), (1, .int 0), (0, .ref (adr G 15 0))]) hX dX13_costGap_3 rfl (Nat.le_of_ble_eq_true rfl) rfl (t := 4) rfl ?_
  refine J_sub (lc2 := [(0, .ref (adr G 15 0)), (1, .int 0), (2, .int 0)]) [2, 1, 0] rfl ?_
  exact LX13_costGap_4 hX hR hlk n n w 0 0 hF
abbrev rmX13_moneyGap : Room := { frames := 4, cells := 0, slots := 0, locals := 85 }
theorem miX13_moneyGap : MI yX13_moneyGap cX13_moneyGap 3 (some .int) 0 := ⟨q_2738, q_152, by decide +kernel, by decide +kernel, by decide +kernel, by decide +kernel⟩
theorem mvX13_moneyGap : MV yX13_moneyGap := ⟨q_2737, q_118⟩
def FX13_moneyGap_L4 (n : Nat) : Nat → Wd → Int32 → Int32 → Option (Int32)
  | 0 => fun _ _ _ => none
  | k + 1 => fun w l1 l2 =>
    gd (inb 1 390) <|
    if (w 15).1 2 1 ≤ l2 then
      gd (inb 7 390) <|
      gd (inb 4 390) <|
      bo1 (FX13_heldAll n w) fun x5 =>
      bnd (FX13_without (((((w 15).1 2 7) - l1) - ((w 15).1 2 4)) - x5)) fun x8 =>
      some x8
    else
      bo1 (FX13_ofCustomer w l2 1) fun x11 =>
      FX13_moneyGap_L4 n k w (l1 + x11) (l2 + 1)
set_option maxHeartbeats 4000000 in
set_option maxRecDepth 100000 in
theorem LX13_moneyGap_4 {G : GG} {l : Launch} {p : Program} {e : Env} {s : State} {m : MethodId} {args : Array Value} {below : List Frame} {meth : Method} {c : Code} (hX : FX G RX13 cX13_moneyGap 3 p s m args c) (hR : meth.sig.returnType = (some .int)) (hlk : meth.locks = false) {rx : Int32} (n : Nat) : ∀ (k : Nat) (w : Wd) (l1 : Int32) (l2 : Int32) , FX13_moneyGap_L4 n k w l1 l2 = some rx → J G p l e rmX13_moneyGap s m args below meth c 3 0 0 (MQ below (QV G (some (.int rx)) w) args s 0 0 (gA G)) (GH G w) 4 [(0, .ref (adr G 15 0)), (1, .int l1), (2, .int l2)] [] := by
  intro k
  induction k with
  | zero => intro w l1 l2  hF; cases hF
  | succ k ih =>
    intro w l1 l2  hF
    simp only [FX13_moneyGap_L4] at hF
    refine J_iload_n hX dX13_moneyGap_4 2 rfl (t := 5) rfl ?_
    refine J_aload_n hX dX13_moneyGap_5 0 rfl (t := 6) rfl ?_
    refine J_get hX cb10 kModel 13 (by decide) q_1980 rfl dX13_moneyGap_6 (t := 9) rfl ?_
    refine J_iconst (v := 1) hX dX13_moneyGap_9 (by decide) (t := 10) rfl ?_
    obtain ⟨g1, hF⟩ := gd_e hF
    refine J_iald hX (kInts (j := 2) (n := 390) (by decide) (by decide) rfl) g1 rfl dX13_moneyGap_10 (t := 11) rfl ?_
    refine J_icmp_ge (tgt := 29) hX dX13_moneyGap_11 (by decide) (t := 14) rfl (fun z => ?_) (fun z => ?_)
    · replace hF := it_t hF z
      refine J_aload_n hX dX13_moneyGap_29 0 rfl (t := 30) rfl ?_
      refine J_get hX cb10 kModel 13 (by decide) q_1980 rfl dX13_moneyGap_30 (t := 33) rfl ?_
      refine J_bipush (v := 7) hX dX13_moneyGap_33 (by decide) (t := 35) rfl ?_
      obtain ⟨g2, hF⟩ := gd_e hF
      refine J_iald hX (kInts (j := 2) (n := 390) (by decide) (by decide) rfl) g2 rfl dX13_moneyGap_35 (t := 36) rfl ?_
      refine J_iload_n hX dX13_moneyGap_36 1 rfl (t := 37) rfl ?_
      refine J_isub hX dX13_moneyGap_37 (t := 38) rfl ?_
      refine J_aload_n hX dX13_moneyGap_38 0 rfl (t := 39) rfl ?_
      refine J_get hX cb10 kModel 13 (by decide) q_1980 rfl dX13_moneyGap_39 (t := 42) rfl ?_
      refine J_iconst (v := 4) hX dX13_moneyGap_42 (by decide) (t := 43) rfl ?_
      obtain ⟨g3, hF⟩ := gd_e hF
      refine J_iald hX (kInts (j := 2) (n := 390) (by decide) (by decide) rfl) g3 rfl dX13_moneyGap_43 (t := 44) rfl ?_
      refine J_isub hX dX13_moneyGap_44 (t := 45) rfl ?_
      refine J_aload_n hX dX13_moneyGap_45 0 rfl (t := 46) rfl ?_
      obtain ⟨x5, h4, hF⟩ := bo1_e hF
      have k6 := (ctX13_heldAll (G := G) (l := l) w  n h4)
      refine J_callV hX [] [.int ((((w 15).1 2 7) - l1) - ((w 15).1 2 4))] [.int x5, .int ((((w 15).1 2 7) - l1) - ((w 15).1 2 4))] k6 miX13_heldAll mvX13_heldAll cb10 kModel q_2507 ⟨rfl, rfl, Nat.le_of_ble_eq_true rfl, Nat.le_of_ble_eq_true rfl⟩ rfl rfl (Nat.le_of_ble_eq_true rfl) ⟨Nat.le_of_ble_eq_true rfl, Nat.le_of_ble_eq_true rfl⟩ dX13_moneyGap_46 (t := 49) rfl rfl ?_
      refine J_isub hX dX13_moneyGap_49 (t := 50) rfl ?_
      obtain ⟨x8, h7, hF⟩ := bnd_e hF
      have k9 := (ctX13_without (l := l) (G := G) (w := w) (((((w 15).1 2 7) - l1) - ((w 15).1 2 4)) - x5) h7)
      refine J_callS hX [.int (((((w 15).1 2 7) - l1) - ((w 15).1 2 4)) - x5)] [] [.int x8] k9 miX13_without q_2733 q_2732 ⟨rfl, rfl, Nat.le_of_ble_eq_true rfl, Nat.le_of_ble_eq_true rfl⟩ rfl rfl (Nat.le_of_ble_eq_true rfl) ⟨Nat.le_of_ble_eq_true rfl, Nat.le_of_ble_eq_true rfl⟩ dX13_moneyGap_50 (t := 53) rfl rfl ?_
      replace hF := Option.some.inj hF
      subst hF
      exact J_iret hX hR hlk dX13_moneyGap_53
    · replace hF := it_f hF z
      refine J_iload_n hX dX13_moneyGap_14 1 rfl (t := 15) rfl ?_
      refine J_aload_n hX dX13_moneyGap_15 0 rfl (t := 16) rfl ?_
      refine J_iload_n hX dX13_moneyGap_16 2 rfl (t := 17) rfl ?_
      refine J_iconst (v := 1) hX dX13_moneyGap_17 (by decide) (t := 18) rfl ?_
      obtain ⟨x11, h10, hF⟩ := bo1_e hF
      have k12 := (ctX13_ofCustomer (G := G) (l := l) w l2 1 h10)
      refine J_callV hX [.int l2, .int 1] [.int l1] [.int x11, .int l1] k12 miX13_ofCustomer mvX13_ofCustomer cb10 kModel q_2229 ⟨rfl, rfl, Nat.le_of_ble_eq_true rfl, Nat.le_of_ble_eq_true rfl⟩ rfl rfl (Nat.le_of_ble_eq_true rfl) ⟨Nat.le_of_ble_eq_true rfl, Nat.le_of_ble_eq_true rfl⟩ dX13_moneyGap_18 (t := 21) rfl rfl ?_
      refine J_iadd hX dX13_moneyGap_21 (t := 22) rfl ?_
      refine J_istore_n (lc2 := [(1, .int (l1 + x11)), (0, .ref (adr G 15 0)), (2, .int l2)]) hX dX13_moneyGap_22 rfl (Nat.le_of_ble_eq_true rfl) rfl (t := 23) rfl ?_
      refine J_iinc (v := l2 + 1) (lc2 := [(2, .int (l2 + 1)), (1, .int (l1 + x11)), (0, .ref (adr G 15 0))]) hX dX13_moneyGap_23 2 rfl rfl (Nat.le_of_ble_eq_true rfl) rfl (t := 26) rfl ?_
      refine J_goto (tgt := 4) hX dX13_moneyGap_26 (by decide) ?_
      refine J_sub (lc2 := [(0, .ref (adr G 15 0)), (1, .int (l1 + x11)), (2, .int (l2 + 1))]) [2, 1, 0] rfl ?_
      exact ih w (l1 + x11) (l2 + 1) hF
def FX13_moneyGap (n : Nat) (w : Wd)  : Option (Int32) :=
  FX13_moneyGap_L4 n n w 0 0
set_option maxHeartbeats 4000000 in
set_option maxRecDepth 100000 in
theorem ctX13_moneyGap {G : GG} {l : Launch} (w : Wd)   (n : Nat) {rx : Int32} (hF : FX13_moneyGap n w  = some rx) : CT G l yX13_moneyGap cX13_moneyGap 3 (some .int) rmX13_moneyGap 0 0 [.ref (adr G 15 0)] w (some (.int rx)) w := by
  refine CT.of miX13_moneyGap [(0, .ref (adr G 15 0))] rfl (Nat.le_of_ble_eq_true rfl) ?_
  intro p e s m args below meth c hX hR hlk
  have hX : FX G RX13 cX13_moneyGap 3 p s m args c := hX
  unfold FX13_moneyGap at hF
  refine J_iconst (v := 0) hX dX13_moneyGap_0 (by decide) (t := 1) rfl ?_
  refine J_istore_n (lc2 := [(1, .int 0), (0, .ref (adr G 15 0))]) hX dX13_moneyGap_1 rfl (Nat.le_of_ble_eq_true rfl) rfl (t := 2) rfl ?_
  refine J_iconst (v := 0) hX dX13_moneyGap_2 (by decide) (t := 3) rfl ?_
  refine J_istore_n (lc2 := [(2, .int 0), (1, .int 0), (0, .ref (adr G 15 0))]) hX dX13_moneyGap_3 rfl (Nat.le_of_ble_eq_true rfl) rfl (t := 4) rfl ?_
  refine J_sub (lc2 := [(0, .ref (adr G 15 0)), (1, .int 0), (2, .int 0)]) [2, 1, 0] rfl ?_
  exact LX13_moneyGap_4 hX hR hlk n n w 0 0 hF
abbrev rmX13_unfinished : Room := { frames := 2, cells := 0, slots := 0, locals := 42 }
theorem miX13_unfinished : MI yX13_unfinished cX13_unfinished 3 (some .int) 0 := ⟨q_2742, q_152, by decide +kernel, by decide +kernel, by decide +kernel, by decide +kernel⟩
theorem mvX13_unfinished : MV yX13_unfinished := ⟨q_2741, q_119⟩
def FX13_unfinished_L4 (n : Nat) : Nat → Wd → Int32 → Int32 → Option (Int32)
  | 0 => fun _ _ _ => none
  | k + 1 => fun w l1 l2 =>
    gd (inb 2 390) <|
    if (w 15).1 2 2 ≤ l2 then
      some l1
    else
      bo1 (FX13_of w l2 6) fun x3 =>
      if x3 = 1 then
        bo1 (FX13_of w l2 7) fun x9 =>
        bo1 (FX13_of w l2 3) fun x12 =>
        if x12 ≤ x9 then
          bnd (FX13_truth false) fun x15 =>
          FX13_unfinished_L4 n k w (l1 + x15) (l2 + 1)
        else
          bnd (FX13_truth true) fun x18 =>
          FX13_unfinished_L4 n k w (l1 + x18) (l2 + 1)
      else
        bnd (FX13_truth false) fun x6 =>
        FX13_unfinished_L4 n k w (l1 + x6) (l2 + 1)
set_option maxHeartbeats 4000000 in
set_option maxRecDepth 100000 in
theorem LX13_unfinished_4 {G : GG} {l : Launch} {p : Program} {e : Env} {s : State} {m : MethodId} {args : Array Value} {below : List Frame} {meth : Method} {c : Code} (hX : FX G RX13 cX13_unfinished 3 p s m args c) (hR : meth.sig.returnType = (some .int)) (hlk : meth.locks = false) {rx : Int32} (n : Nat) : ∀ (k : Nat) (w : Wd) (l1 : Int32) (l2 : Int32) , FX13_unfinished_L4 n k w l1 l2 = some rx → J G p l e rmX13_unfinished s m args below meth c 3 0 0 (MQ below (QV G (some (.int rx)) w) args s 0 0 (gA G)) (GH G w) 4 [(0, .ref (adr G 15 0)), (1, .int l1), (2, .int l2)] [] := by
  intro k
  induction k with
  | zero => intro w l1 l2  hF; cases hF
  | succ k ih =>
    intro w l1 l2  hF
    simp only [FX13_unfinished_L4] at hF
    refine J_iload_n hX dX13_unfinished_4 2 rfl (t := 5) rfl ?_
    refine J_aload_n hX dX13_unfinished_5 0 rfl (t := 6) rfl ?_
    refine J_get hX cb10 kModel 13 (by decide) q_1980 rfl dX13_unfinished_6 (t := 9) rfl ?_
    refine J_iconst (v := 2) hX dX13_unfinished_9 (by decide) (t := 10) rfl ?_
    obtain ⟨g1, hF⟩ := gd_e hF
    refine J_iald hX (kInts (j := 2) (n := 390) (by decide) (by decide) rfl) g1 rfl dX13_unfinished_10 (t := 11) rfl ?_
    refine J_icmp_ge (tgt := 58) hX dX13_unfinished_11 (by decide) (t := 14) rfl (fun z => ?_) (fun z => ?_)
    · replace hF := it_t hF z
      refine J_iload_n hX dX13_unfinished_58 1 rfl (t := 59) rfl ?_
      replace hF := Option.some.inj hF
      subst hF
      exact J_iret hX hR hlk dX13_unfinished_59
    · replace hF := it_f hF z
      refine J_iload_n hX dX13_unfinished_14 1 rfl (t := 15) rfl ?_
      refine J_aload_n hX dX13_unfinished_15 0 rfl (t := 16) rfl ?_
      refine J_iload_n hX dX13_unfinished_16 2 rfl (t := 17) rfl ?_
      refine J_bipush (v := 6) hX dX13_unfinished_17 (by decide) (t := 19) rfl ?_
      obtain ⟨x3, h2, hF⟩ := bo1_e hF
      have k4 := (ctX13_of (G := G) (l := l) w l2 6 h2)
      refine J_callV hX [.int l2, .int 6] [.int l1] [.int x3, .int l1] k4 miX13_of mvX13_of cb10 kModel q_2237 ⟨rfl, rfl, Nat.le_of_ble_eq_true rfl, Nat.le_of_ble_eq_true rfl⟩ rfl rfl (Nat.le_of_ble_eq_true rfl) ⟨Nat.le_of_ble_eq_true rfl, Nat.le_of_ble_eq_true rfl⟩ dX13_unfinished_19 (t := 22) rfl rfl ?_
      refine J_iconst (v := 1) hX dX13_unfinished_22 (by decide) (t := 23) rfl ?_
      refine J_icmp_ne (tgt := 46) hX dX13_unfinished_23 (by decide) (t := 26) rfl (fun z => ?_) (fun z => ?_)
      · replace hF := it_f hF z
        refine J_iconst (v := 0) hX dX13_unfinished_46 (by decide) (t := 47) rfl ?_
        obtain ⟨x6, h5, hF⟩ := bnd_e hF
        have k7 := (ctX13_truth (l := l) (G := G) (w := w) false h5)
        refine J_callS hX [.int (bI false)] [.int l1] [.int x6, .int l1] k7 miX13_truth q_2083 q_2082 ⟨rfl, rfl, Nat.le_of_ble_eq_true rfl, Nat.le_of_ble_eq_true rfl⟩ rfl rfl (Nat.le_of_ble_eq_true rfl) ⟨Nat.le_of_ble_eq_true rfl, Nat.le_of_ble_eq_true rfl⟩ dX13_unfinished_47 (t := 50) rfl rfl ?_
        refine J_iadd hX dX13_unfinished_50 (t := 51) rfl ?_
        refine J_istore_n (lc2 := [(1, .int (l1 + x6)), (0, .ref (adr G 15 0)), (2, .int l2)]) hX dX13_unfinished_51 rfl (Nat.le_of_ble_eq_true rfl) rfl (t := 52) rfl ?_
        refine J_iinc (v := l2 + 1) (lc2 := [(2, .int (l2 + 1)), (1, .int (l1 + x6)), (0, .ref (adr G 15 0))]) hX dX13_unfinished_52 2 rfl rfl (Nat.le_of_ble_eq_true rfl) rfl (t := 55) rfl ?_
        refine J_goto (tgt := 4) hX dX13_unfinished_55 (by decide) ?_
        refine J_sub (lc2 := [(0, .ref (adr G 15 0)), (1, .int (l1 + x6)), (2, .int (l2 + 1))]) [2, 1, 0] rfl ?_
        exact ih w (l1 + x6) (l2 + 1) hF
      · replace hF := it_t hF z
        refine J_aload_n hX dX13_unfinished_26 0 rfl (t := 27) rfl ?_
        refine J_iload_n hX dX13_unfinished_27 2 rfl (t := 28) rfl ?_
        refine J_bipush (v := 7) hX dX13_unfinished_28 (by decide) (t := 30) rfl ?_
        obtain ⟨x9, h8, hF⟩ := bo1_e hF
        have k10 := (ctX13_of (G := G) (l := l) w l2 7 h8)
        refine J_callV hX [.int l2, .int 7] [.int l1] [.int x9, .int l1] k10 miX13_of mvX13_of cb10 kModel q_2237 ⟨rfl, rfl, Nat.le_of_ble_eq_true rfl, Nat.le_of_ble_eq_true rfl⟩ rfl rfl (Nat.le_of_ble_eq_true rfl) ⟨Nat.le_of_ble_eq_true rfl, Nat.le_of_ble_eq_true rfl⟩ dX13_unfinished_30 (t := 33) rfl rfl ?_
        refine J_aload_n hX dX13_unfinished_33 0 rfl (t := 34) rfl ?_
        refine J_iload_n hX dX13_unfinished_34 2 rfl (t := 35) rfl ?_
        refine J_iconst (v := 3) hX dX13_unfinished_35 (by decide) (t := 36) rfl ?_
        obtain ⟨x12, h11, hF⟩ := bo1_e hF
        have k13 := (ctX13_of (G := G) (l := l) w l2 3 h11)
        refine J_callV hX [.int l2, .int 3] [.int x9, .int l1] [.int x12, .int x9, .int l1] k13 miX13_of mvX13_of cb10 kModel q_2237 ⟨rfl, rfl, Nat.le_of_ble_eq_true rfl, Nat.le_of_ble_eq_true rfl⟩ rfl rfl (Nat.le_of_ble_eq_true rfl) ⟨Nat.le_of_ble_eq_true rfl, Nat.le_of_ble_eq_true rfl⟩ dX13_unfinished_36 (t := 39) rfl rfl ?_
        refine J_icmp_ge (tgt := 46) hX dX13_unfinished_39 (by decide) (t := 42) rfl (fun z => ?_) (fun z => ?_)
        · replace hF := it_t hF z
          refine J_iconst (v := 0) hX dX13_unfinished_46 (by decide) (t := 47) rfl ?_
          obtain ⟨x15, h14, hF⟩ := bnd_e hF
          have k16 := (ctX13_truth (l := l) (G := G) (w := w) false h14)
          refine J_callS hX [.int (bI false)] [.int l1] [.int x15, .int l1] k16 miX13_truth q_2083 q_2082 ⟨rfl, rfl, Nat.le_of_ble_eq_true rfl, Nat.le_of_ble_eq_true rfl⟩ rfl rfl (Nat.le_of_ble_eq_true rfl) ⟨Nat.le_of_ble_eq_true rfl, Nat.le_of_ble_eq_true rfl⟩ dX13_unfinished_47 (t := 50) rfl rfl ?_
          refine J_iadd hX dX13_unfinished_50 (t := 51) rfl ?_
          refine J_istore_n (lc2 := [(1, .int (l1 + x15)), (0, .ref (adr G 15 0)), (2, .int l2)]) hX dX13_unfinished_51 rfl (Nat.le_of_ble_eq_true rfl) rfl (t := 52) rfl ?_
          refine J_iinc (v := l2 + 1) (lc2 := [(2, .int (l2 + 1)), (1, .int (l1 + x15)), (0, .ref (adr G 15 0))]) hX dX13_unfinished_52 2 rfl rfl (Nat.le_of_ble_eq_true rfl) rfl (t := 55) rfl ?_
          refine J_goto (tgt := 4) hX dX13_unfinished_55 (by decide) ?_
          refine J_sub (lc2 := [(0, .ref (adr G 15 0)), (1, .int (l1 + x15)), (2, .int (l2 + 1))]) [2, 1, 0] rfl ?_
          exact ih w (l1 + x15) (l2 + 1) hF
        · replace hF := it_f hF z
          refine J_iconst (v := 1) hX dX13_unfinished_42 (by decide) (t := 43) rfl ?_
          refine J_goto (tgt := 47) hX dX13_unfinished_43 (by decide) ?_
          obtain ⟨x18, h17, hF⟩ := bnd_e hF
          have k19 := (ctX13_truth (l := l) (G := G) (w := w) true h17)
          refine J_callS hX [.int (bI true)] [.int l1] [.int x18, .int l1] k19 miX13_truth q_2083 q_2082 ⟨rfl, rfl, Nat.le_of_ble_eq_true rfl, Nat.le_of_ble_eq_true rfl⟩ rfl rfl (Nat.le_of_ble_eq_true rfl) ⟨Nat.le_of_ble_eq_true rfl, Nat.le_of_ble_eq_true rfl⟩ dX13_unfinished_47 (t := 50) rfl rfl ?_
          refine J_iadd hX dX13_unfinished_50 (t := 51) rfl ?_
          refine J_istore_n (lc2 := [(1, .int (l1 + x18)), (0, .ref (adr G 15 0)), (2, .int l2)]) hX dX13_unfinished_51 rfl (Nat.le_of_ble_eq_true rfl) rfl (t := 52) rfl ?_
          refine J_iinc (v := l2 + 1) (lc2 := [(2, .int (l2 + 1)), (1, .int (l1 + x18)), (0, .ref (adr G 15 0))]) hX dX13_unfinished_52 2 rfl rfl (Nat.le_of_ble_eq_true rfl) rfl (t := 55) rfl ?_
          refine J_goto (tgt := 4) hX dX13_unfinished_55 (by decide) ?_
          refine J_sub (lc2 := [(0, .ref (adr G 15 0)), (1, .int (l1 + x18)), (2, .int (l2 + 1))]) [2, 1, 0] rfl ?_
          exact ih w (l1 + x18) (l2 + 1) hF
def FX13_unfinished (n : Nat) (w : Wd)  : Option (Int32) :=
  FX13_unfinished_L4 n n w 0 0
set_option maxHeartbeats 4000000 in
set_option maxRecDepth 100000 in
theorem ctX13_unfinished {G : GG} {l : Launch} (w : Wd)   (n : Nat) {rx : Int32} (hF : FX13_unfinished n w  = some rx) : CT G l yX13_unfinished cX13_unfinished 3 (some .int) rmX13_unfinished 0 0 [.ref (adr G 15 0)] w (some (.int rx)) w := by
  refine CT.of miX13_unfinished [(0, .ref (adr G 15 0))] rfl (Nat.le_of_ble_eq_true rfl) ?_
  intro p e s m args below meth c hX hR hlk
  have hX : FX G RX13 cX13_unfinished 3 p s m args c := hX
  unfold FX13_unfinished at hF
  refine J_iconst (v := 0) hX dX13_unfinished_0 (by decide) (t := 1) rfl ?_
  refine J_istore_n (lc2 := [(1, .int 0), (0, .ref (adr G 15 0))]) hX dX13_unfinished_1 rfl (Nat.le_of_ble_eq_true rfl) rfl (t := 2) rfl ?_
  refine J_iconst (v := 0) hX dX13_unfinished_2 (by decide) (t := 3) rfl ?_
  refine J_istore_n (lc2 := [(2, .int 0), (1, .int 0), (0, .ref (adr G 15 0))]) hX dX13_unfinished_3 rfl (Nat.le_of_ble_eq_true rfl) rfl (t := 4) rfl ?_
  refine J_sub (lc2 := [(0, .ref (adr G 15 0)), (1, .int 0), (2, .int 0)]) [2, 1, 0] rfl ?_
  exact LX13_unfinished_4 hX hR hlk n n w 0 0 hF
abbrev rmX13_violations : Room := { frames := 5, cells := 0, slots := 0, locals := 107 }
theorem miX13_violations : MI yX13_violations cX13_violations 1 (some .int) 0 := ⟨q_2727, q_152, by decide +kernel, by decide +kernel, by decide +kernel, by decide +kernel⟩
theorem mvX13_violations : MV yX13_violations := ⟨q_2725, q_2726⟩
def FX13_violations (n : Nat) (w : Wd)  : Option (Int32 × Wd) :=
  bo1 (FX13_costGap n w) fun x2 =>
  bo1 (FX13_moneyGap n w) fun x5 =>
  bo1 (FX13_unfinished n w) fun x8 =>
  bnd2 (FX13_told w ((x2 + x5) + x8)) fun x11 w12 =>
  some (x11, w12)
set_option maxHeartbeats 4000000 in
set_option maxRecDepth 100000 in
theorem ctX13_violations {G : GG} {l : Launch} (w : Wd)   (n : Nat) {rx : Int32} {rw : Wd} (hF : FX13_violations n w  = some (rx, rw)) : CT G l yX13_violations cX13_violations 1 (some .int) rmX13_violations 0 0 [.ref (adr G 15 0)] w (some (.int rx)) rw := by
  refine CT.of miX13_violations [(0, .ref (adr G 15 0))] rfl (Nat.le_of_ble_eq_true rfl) ?_
  intro p e s m args below meth c hX hR hlk
  have hX : FX G RX13 cX13_violations 1 p s m args c := hX
  unfold FX13_violations at hF
  refine J_aload_n hX dX13_violations_0 0 rfl (t := 1) rfl ?_
  refine J_aload_n hX dX13_violations_1 0 rfl (t := 2) rfl ?_
  obtain ⟨x2, h1, hF⟩ := bo1_e hF
  have k3 := (ctX13_costGap (G := G) (l := l) w  n h1)
  refine J_callV hX [] [.ref (adr G 15 0)] [.int x2, .ref (adr G 15 0)] k3 miX13_costGap mvX13_costGap cb10 kModel q_2728 ⟨rfl, rfl, Nat.le_of_ble_eq_true rfl, Nat.le_of_ble_eq_true rfl⟩ rfl rfl (Nat.le_of_ble_eq_true rfl) ⟨Nat.le_of_ble_eq_true rfl, Nat.le_of_ble_eq_true rfl⟩ dX13_violations_2 (t := 5) rfl rfl ?_
  refine J_aload_n hX dX13_violations_5 0 rfl (t := 6) rfl ?_
  obtain ⟨x5, h4, hF⟩ := bo1_e hF
  have k6 := (ctX13_moneyGap (G := G) (l := l) w  n h4)
  refine J_callV hX [] [.int x2, .ref (adr G 15 0)] [.int x5, .int x2, .ref (adr G 15 0)] k6 miX13_moneyGap mvX13_moneyGap cb10 kModel q_2735 ⟨rfl, rfl, Nat.le_of_ble_eq_true rfl, Nat.le_of_ble_eq_true rfl⟩ rfl rfl (Nat.le_of_ble_eq_true rfl) ⟨Nat.le_of_ble_eq_true rfl, Nat.le_of_ble_eq_true rfl⟩ dX13_violations_6 (t := 9) rfl rfl ?_
  refine J_iadd hX dX13_violations_9 (t := 10) rfl ?_
  refine J_aload_n hX dX13_violations_10 0 rfl (t := 11) rfl ?_
  obtain ⟨x8, h7, hF⟩ := bo1_e hF
  have k9 := (ctX13_unfinished (G := G) (l := l) w  n h7)
  refine J_callV hX [] [.int (x2 + x5), .ref (adr G 15 0)] [.int x8, .int (x2 + x5), .ref (adr G 15 0)] k9 miX13_unfinished mvX13_unfinished cb10 kModel q_2739 ⟨rfl, rfl, Nat.le_of_ble_eq_true rfl, Nat.le_of_ble_eq_true rfl⟩ rfl rfl (Nat.le_of_ble_eq_true rfl) ⟨Nat.le_of_ble_eq_true rfl, Nat.le_of_ble_eq_true rfl⟩ dX13_violations_11 (t := 14) rfl rfl ?_
  refine J_iadd hX dX13_violations_14 (t := 15) rfl ?_
  obtain ⟨x11, w12, h10, hF⟩ := bnd2_e hF
  have k13 := (ctX13_told (G := G) (l := l) w ((x2 + x5) + x8) h10)
  refine J_callV hX [.int ((x2 + x5) + x8)] [] [.int x11] k13 miX13_told mvX13_told cb10 kModel q_2479 ⟨rfl, rfl, Nat.le_of_ble_eq_true rfl, Nat.le_of_ble_eq_true rfl⟩ rfl rfl (Nat.le_of_ble_eq_true rfl) ⟨Nat.le_of_ble_eq_true rfl, Nat.le_of_ble_eq_true rfl⟩ dX13_violations_15 (t := 18) rfl rfl ?_
  replace hF := Option.some.inj hF
  obtain ⟨hF, hF2⟩ := Prod.mk.inj hF
  subst hF
  subst hF2
  exact J_iret hX hR hlk dX13_violations_18
abbrev rmX13_returnsAll : Room := { frames := 2, cells := 0, slots := 0, locals := 42 }
theorem miX13_returnsAll : MI yX13_returnsAll cX13_returnsAll 3 (some .int) 0 := ⟨q_2754, q_152, by decide +kernel, by decide +kernel, by decide +kernel, by decide +kernel⟩
theorem mvX13_returnsAll : MV yX13_returnsAll := ⟨q_2753, q_120⟩
def FX13_returnsAll_L4 (n : Nat) : Nat → Wd → Int32 → Int32 → Option (Int32)
  | 0 => fun _ _ _ => none
  | k + 1 => fun w l1 l2 =>
    gd (inb 2 390) <|
    if (w 15).1 2 2 ≤ l2 then
      some l1
    else
      bo1 (FX13_of w l2 7) fun x3 =>
      FX13_returnsAll_L4 n k w (l1 + x3) (l2 + 1)
set_option maxHeartbeats 4000000 in
set_option maxRecDepth 100000 in
theorem LX13_returnsAll_4 {G : GG} {l : Launch} {p : Program} {e : Env} {s : State} {m : MethodId} {args : Array Value} {below : List Frame} {meth : Method} {c : Code} (hX : FX G RX13 cX13_returnsAll 3 p s m args c) (hR : meth.sig.returnType = (some .int)) (hlk : meth.locks = false) {rx : Int32} (n : Nat) : ∀ (k : Nat) (w : Wd) (l1 : Int32) (l2 : Int32) , FX13_returnsAll_L4 n k w l1 l2 = some rx → J G p l e rmX13_returnsAll s m args below meth c 3 0 0 (MQ below (QV G (some (.int rx)) w) args s 0 0 (gA G)) (GH G w) 4 [(0, .ref (adr G 15 0)), (1, .int l1), (2, .int l2)] [] := by
  intro k
  induction k with
  | zero => intro w l1 l2  hF; cases hF
  | succ k ih =>
    intro w l1 l2  hF
    simp only [FX13_returnsAll_L4] at hF
    refine J_iload_n hX dX13_returnsAll_4 2 rfl (t := 5) rfl ?_
    refine J_aload_n hX dX13_returnsAll_5 0 rfl (t := 6) rfl ?_
    refine J_get hX cb10 kModel 13 (by decide) q_1980 rfl dX13_returnsAll_6 (t := 9) rfl ?_
    refine J_iconst (v := 2) hX dX13_returnsAll_9 (by decide) (t := 10) rfl ?_
    obtain ⟨g1, hF⟩ := gd_e hF
    refine J_iald hX (kInts (j := 2) (n := 390) (by decide) (by decide) rfl) g1 rfl dX13_returnsAll_10 (t := 11) rfl ?_
    refine J_icmp_ge (tgt := 30) hX dX13_returnsAll_11 (by decide) (t := 14) rfl (fun z => ?_) (fun z => ?_)
    · replace hF := it_t hF z
      refine J_iload_n hX dX13_returnsAll_30 1 rfl (t := 31) rfl ?_
      replace hF := Option.some.inj hF
      subst hF
      exact J_iret hX hR hlk dX13_returnsAll_31
    · replace hF := it_f hF z
      refine J_iload_n hX dX13_returnsAll_14 1 rfl (t := 15) rfl ?_
      refine J_aload_n hX dX13_returnsAll_15 0 rfl (t := 16) rfl ?_
      refine J_iload_n hX dX13_returnsAll_16 2 rfl (t := 17) rfl ?_
      refine J_bipush (v := 7) hX dX13_returnsAll_17 (by decide) (t := 19) rfl ?_
      obtain ⟨x3, h2, hF⟩ := bo1_e hF
      have k4 := (ctX13_of (G := G) (l := l) w l2 7 h2)
      refine J_callV hX [.int l2, .int 7] [.int l1] [.int x3, .int l1] k4 miX13_of mvX13_of cb10 kModel q_2237 ⟨rfl, rfl, Nat.le_of_ble_eq_true rfl, Nat.le_of_ble_eq_true rfl⟩ rfl rfl (Nat.le_of_ble_eq_true rfl) ⟨Nat.le_of_ble_eq_true rfl, Nat.le_of_ble_eq_true rfl⟩ dX13_returnsAll_19 (t := 22) rfl rfl ?_
      refine J_iadd hX dX13_returnsAll_22 (t := 23) rfl ?_
      refine J_istore_n (lc2 := [(1, .int (l1 + x3)), (0, .ref (adr G 15 0)), (2, .int l2)]) hX dX13_returnsAll_23 rfl (Nat.le_of_ble_eq_true rfl) rfl (t := 24) rfl ?_
      refine J_iinc (v := l2 + 1) (lc2 := [(2, .int (l2 + 1)), (1, .int (l1 + x3)), (0, .ref (adr G 15 0))]) hX dX13_returnsAll_24 2 rfl rfl (Nat.le_of_ble_eq_true rfl) rfl (t := 27) rfl ?_
      refine J_goto (tgt := 4) hX dX13_returnsAll_27 (by decide) ?_
      refine J_sub (lc2 := [(0, .ref (adr G 15 0)), (1, .int (l1 + x3)), (2, .int (l2 + 1))]) [2, 1, 0] rfl ?_
      exact ih w (l1 + x3) (l2 + 1) hF
def FX13_returnsAll (n : Nat) (w : Wd)  : Option (Int32) :=
  FX13_returnsAll_L4 n n w 0 0
set_option maxHeartbeats 4000000 in
set_option maxRecDepth 100000 in
theorem ctX13_returnsAll {G : GG} {l : Launch} (w : Wd)   (n : Nat) {rx : Int32} (hF : FX13_returnsAll n w  = some rx) : CT G l yX13_returnsAll cX13_returnsAll 3 (some .int) rmX13_returnsAll 0 0 [.ref (adr G 15 0)] w (some (.int rx)) w := by
  refine CT.of miX13_returnsAll [(0, .ref (adr G 15 0))] rfl (Nat.le_of_ble_eq_true rfl) ?_
  intro p e s m args below meth c hX hR hlk
  have hX : FX G RX13 cX13_returnsAll 3 p s m args c := hX
  unfold FX13_returnsAll at hF
  refine J_iconst (v := 0) hX dX13_returnsAll_0 (by decide) (t := 1) rfl ?_
  refine J_istore_n (lc2 := [(1, .int 0), (0, .ref (adr G 15 0))]) hX dX13_returnsAll_1 rfl (Nat.le_of_ble_eq_true rfl) rfl (t := 2) rfl ?_
  refine J_iconst (v := 0) hX dX13_returnsAll_2 (by decide) (t := 3) rfl ?_
  refine J_istore_n (lc2 := [(2, .int 0), (1, .int 0), (0, .ref (adr G 15 0))]) hX dX13_returnsAll_3 rfl (Nat.le_of_ble_eq_true rfl) rfl (t := 4) rfl ?_
  refine J_sub (lc2 := [(0, .ref (adr G 15 0)), (1, .int 0), (2, .int 0)]) [2, 1, 0] rfl ?_
  exact LX13_returnsAll_4 hX hR hlk n n w 0 0 hF
abbrev rmX13_heardAll : Room := { frames := 2, cells := 0, slots := 0, locals := 42 }
theorem miX13_heardAll : MI yX13_heardAll cX13_heardAll 3 (some .int) 0 := ⟨q_2758, q_152, by decide +kernel, by decide +kernel, by decide +kernel, by decide +kernel⟩
theorem mvX13_heardAll : MV yX13_heardAll := ⟨q_2757, q_121⟩
def FX13_heardAll_L4 (n : Nat) : Nat → Wd → Int32 → Int32 → Option (Int32)
  | 0 => fun _ _ _ => none
  | k + 1 => fun w l1 l2 =>
    gd (inb 2 390) <|
    if (w 15).1 2 2 ≤ l2 then
      some l1
    else
      bo1 (FX13_of w l2 8) fun x3 =>
      bo1 (FX13_bits n x3) fun x6 =>
      FX13_heardAll_L4 n k w (l1 + x6) (l2 + 1)
set_option maxHeartbeats 4000000 in
set_option maxRecDepth 100000 in
theorem LX13_heardAll_4 {G : GG} {l : Launch} {p : Program} {e : Env} {s : State} {m : MethodId} {args : Array Value} {below : List Frame} {meth : Method} {c : Code} (hX : FX G RX13 cX13_heardAll 3 p s m args c) (hR : meth.sig.returnType = (some .int)) (hlk : meth.locks = false) {rx : Int32} (n : Nat) : ∀ (k : Nat) (w : Wd) (l1 : Int32) (l2 : Int32) , FX13_heardAll_L4 n k w l1 l2 = some rx → J G p l e rmX13_heardAll s m args below meth c 3 0 0 (MQ below (QV G (some (.int rx)) w) args s 0 0 (gA G)) (GH G w) 4 [(0, .ref (adr G 15 0)), (1, .int l1), (2, .int l2)] [] := by
  intro k
  induction k with
  | zero => intro w l1 l2  hF; cases hF
  | succ k ih =>
    intro w l1 l2  hF
    simp only [FX13_heardAll_L4] at hF
    refine J_iload_n hX dX13_heardAll_4 2 rfl (t := 5) rfl ?_
    refine J_aload_n hX dX13_heardAll_5 0 rfl (t := 6) rfl ?_
    refine J_get hX cb10 kModel 13 (by decide) q_1980 rfl dX13_heardAll_6 (t := 9) rfl ?_
    refine J_iconst (v := 2) hX dX13_heardAll_9 (by decide) (t := 10) rfl ?_
    obtain ⟨g1, hF⟩ := gd_e hF
    refine J_iald hX (kInts (j := 2) (n := 390) (by decide) (by decide) rfl) g1 rfl dX13_heardAll_10 (t := 11) rfl ?_
    refine J_icmp_ge (tgt := 33) hX dX13_heardAll_11 (by decide) (t := 14) rfl (fun z => ?_) (fun z => ?_)
    · replace hF := it_t hF z
      refine J_iload_n hX dX13_heardAll_33 1 rfl (t := 34) rfl ?_
      replace hF := Option.some.inj hF
      subst hF
      exact J_iret hX hR hlk dX13_heardAll_34
    · replace hF := it_f hF z
      refine J_iload_n hX dX13_heardAll_14 1 rfl (t := 15) rfl ?_
      refine J_aload_n hX dX13_heardAll_15 0 rfl (t := 16) rfl ?_
      refine J_iload_n hX dX13_heardAll_16 2 rfl (t := 17) rfl ?_
      refine J_bipush (v := 8) hX dX13_heardAll_17 (by decide) (t := 19) rfl ?_
      obtain ⟨x3, h2, hF⟩ := bo1_e hF
      have k4 := (ctX13_of (G := G) (l := l) w l2 8 h2)
      refine J_callV hX [.int l2, .int 8] [.int l1] [.int x3, .int l1] k4 miX13_of mvX13_of cb10 kModel q_2237 ⟨rfl, rfl, Nat.le_of_ble_eq_true rfl, Nat.le_of_ble_eq_true rfl⟩ rfl rfl (Nat.le_of_ble_eq_true rfl) ⟨Nat.le_of_ble_eq_true rfl, Nat.le_of_ble_eq_true rfl⟩ dX13_heardAll_19 (t := 22) rfl rfl ?_
      obtain ⟨x6, h5, hF⟩ := bo1_e hF
      have k7 := (ctX13_bits (l := l) (G := G) (w := w) x3 n h5)
      refine J_callS hX [.int x3] [.int l1] [.int x6, .int l1] k7 miX13_bits q_2571 q_2570 ⟨rfl, rfl, Nat.le_of_ble_eq_true rfl, Nat.le_of_ble_eq_true rfl⟩ rfl rfl (Nat.le_of_ble_eq_true rfl) ⟨Nat.le_of_ble_eq_true rfl, Nat.le_of_ble_eq_true rfl⟩ dX13_heardAll_22 (t := 25) rfl rfl ?_
      refine J_iadd hX dX13_heardAll_25 (t := 26) rfl ?_
      refine J_istore_n (lc2 := [(1, .int (l1 + x6)), (0, .ref (adr G 15 0)), (2, .int l2)]) hX dX13_heardAll_26 rfl (Nat.le_of_ble_eq_true rfl) rfl (t := 27) rfl ?_
      refine J_iinc (v := l2 + 1) (lc2 := [(2, .int (l2 + 1)), (1, .int (l1 + x6)), (0, .ref (adr G 15 0))]) hX dX13_heardAll_27 2 rfl rfl (Nat.le_of_ble_eq_true rfl) rfl (t := 30) rfl ?_
      refine J_goto (tgt := 4) hX dX13_heardAll_30 (by decide) ?_
      refine J_sub (lc2 := [(0, .ref (adr G 15 0)), (1, .int (l1 + x6)), (2, .int (l2 + 1))]) [2, 1, 0] rfl ?_
      exact ih w (l1 + x6) (l2 + 1) hF
def FX13_heardAll (n : Nat) (w : Wd)  : Option (Int32) :=
  FX13_heardAll_L4 n n w 0 0
set_option maxHeartbeats 4000000 in
set_option maxRecDepth 100000 in
theorem ctX13_heardAll {G : GG} {l : Launch} (w : Wd)   (n : Nat) {rx : Int32} (hF : FX13_heardAll n w  = some rx) : CT G l yX13_heardAll cX13_heardAll 3 (some .int) rmX13_heardAll 0 0 [.ref (adr G 15 0)] w (some (.int rx)) w := by
  refine CT.of miX13_heardAll [(0, .ref (adr G 15 0))] rfl (Nat.le_of_ble_eq_true rfl) ?_
  intro p e s m args below meth c hX hR hlk
  have hX : FX G RX13 cX13_heardAll 3 p s m args c := hX
  unfold FX13_heardAll at hF
  refine J_iconst (v := 0) hX dX13_heardAll_0 (by decide) (t := 1) rfl ?_
  refine J_istore_n (lc2 := [(1, .int 0), (0, .ref (adr G 15 0))]) hX dX13_heardAll_1 rfl (Nat.le_of_ble_eq_true rfl) rfl (t := 2) rfl ?_
  refine J_iconst (v := 0) hX dX13_heardAll_2 (by decide) (t := 3) rfl ?_
  refine J_istore_n (lc2 := [(2, .int 0), (1, .int 0), (0, .ref (adr G 15 0))]) hX dX13_heardAll_3 rfl (Nat.le_of_ble_eq_true rfl) rfl (t := 4) rfl ?_
  refine J_sub (lc2 := [(0, .ref (adr G 15 0)), (1, .int 0), (2, .int 0)]) [2, 1, 0] rfl ?_
  exact LX13_heardAll_4 hX hR hlk n n w 0 0 hF
abbrev rmX13_commandHere : Room := { frames := 1, cells := 0, slots := 0, locals := 22 }
theorem miX13_commandHere : MI yX13_commandHere cX13_commandHere 1 (some .int) 0 := ⟨q_2770, q_152, by decide +kernel, by decide +kernel, by decide +kernel, by decide +kernel⟩
theorem mvX13_commandHere : MV yX13_commandHere := ⟨q_2769, q_123⟩
def FX13_commandHere (w : Wd)  : Int32 :=
  bnd (FX13_isWord w 20201140) fun x2 =>
  if x2 = true then
    0
  else
    bnd (FX13_isWord w 6631) fun x5 =>
    if x5 = true then
      1
    else
      bnd (FX13_isWord w 17376357) fun x8 =>
      if x8 = true then
        2
      else
        bnd (FX13_isWord w 759180) fun x11 =>
        if x11 = true then
          3
        else
          bnd (FX13_isWord w 525939) fun x14 =>
          if x14 = true then
            4
          else
            bnd (FX13_isWord w 197989) fun x17 =>
            if x17 = true then
              5
            else
              bnd (FX13_isWord w 102173868) fun x20 =>
              if x20 = true then
                6
              else
                bnd (FX13_isWord w 609752116) fun x23 =>
                if x23 = true then
                  7
                else
                  (-1)
set_option maxHeartbeats 4000000 in
set_option maxRecDepth 100000 in
theorem ctX13_commandHere {G : GG} {l : Launch} (w : Wd)   {rx : Int32} (hF : FX13_commandHere w  = rx) : CT G l yX13_commandHere cX13_commandHere 1 (some .int) rmX13_commandHere 0 0 [.ref (adr G 15 0)] w (some (.int rx)) w := by
  refine CT.of miX13_commandHere [(0, .ref (adr G 15 0))] rfl (Nat.le_of_ble_eq_true rfl) ?_
  intro p e s m args below meth c hX hR hlk
  have hX : FX G RX13 cX13_commandHere 1 p s m args c := hX
  unfold FX13_commandHere at hF
  refine J_aload_n hX dX13_commandHere_0 0 rfl (t := 1) rfl ?_
  refine J_ldc2 hX dX13_commandHere_1 q_2437 (t := 4) rfl ?_
  obtain ⟨x2, h1, hF⟩ := bnd_e hF
  have k3 := (ctX13_isWord (G := G) (l := l) w 20201140 h1)
  refine J_callV hX [.long 20201140] [] [.int (bI x2)] k3 miX13_isWord mvX13_isWord cb10 kModel q_2391 ⟨rfl, rfl, Nat.le_of_ble_eq_true rfl, Nat.le_of_ble_eq_true rfl⟩ rfl rfl (Nat.le_of_ble_eq_true rfl) ⟨Nat.le_of_ble_eq_true rfl, Nat.le_of_ble_eq_true rfl⟩ dX13_commandHere_4 (t := 7) rfl rfl ?_
  refine J_ifZ_eq (tgt := 12) hX dX13_commandHere_7 (by decide) (t := 10) rfl (fun z => ?_) (fun z => ?_)
  · replace hF := ib_f hF z
    refine J_aload_n hX dX13_commandHere_12 0 rfl (t := 13) rfl ?_
    refine J_ldc2 hX dX13_commandHere_13 q_2446 (t := 16) rfl ?_
    obtain ⟨x5, h4, hF⟩ := bnd_e hF
    have k6 := (ctX13_isWord (G := G) (l := l) w 6631 h4)
    refine J_callV hX [.long 6631] [] [.int (bI x5)] k6 miX13_isWord mvX13_isWord cb10 kModel q_2391 ⟨rfl, rfl, Nat.le_of_ble_eq_true rfl, Nat.le_of_ble_eq_true rfl⟩ rfl rfl (Nat.le_of_ble_eq_true rfl) ⟨Nat.le_of_ble_eq_true rfl, Nat.le_of_ble_eq_true rfl⟩ dX13_commandHere_16 (t := 19) rfl rfl ?_
    refine J_ifZ_eq (tgt := 24) hX dX13_commandHere_19 (by decide) (t := 22) rfl (fun z => ?_) (fun z => ?_)
    · replace hF := ib_f hF z
      refine J_aload_n hX dX13_commandHere_24 0 rfl (t := 25) rfl ?_
      refine J_ldc2 hX dX13_commandHere_25 q_2451 (t := 28) rfl ?_
      obtain ⟨x8, h7, hF⟩ := bnd_e hF
      have k9 := (ctX13_isWord (G := G) (l := l) w 17376357 h7)
      refine J_callV hX [.long 17376357] [] [.int (bI x8)] k9 miX13_isWord mvX13_isWord cb10 kModel q_2391 ⟨rfl, rfl, Nat.le_of_ble_eq_true rfl, Nat.le_of_ble_eq_true rfl⟩ rfl rfl (Nat.le_of_ble_eq_true rfl) ⟨Nat.le_of_ble_eq_true rfl, Nat.le_of_ble_eq_true rfl⟩ dX13_commandHere_28 (t := 31) rfl rfl ?_
      refine J_ifZ_eq (tgt := 36) hX dX13_commandHere_31 (by decide) (t := 34) rfl (fun z => ?_) (fun z => ?_)
      · replace hF := ib_f hF z
        refine J_aload_n hX dX13_commandHere_36 0 rfl (t := 37) rfl ?_
        refine J_ldc2 hX dX13_commandHere_37 q_2452 (t := 40) rfl ?_
        obtain ⟨x11, h10, hF⟩ := bnd_e hF
        have k12 := (ctX13_isWord (G := G) (l := l) w 759180 h10)
        refine J_callV hX [.long 759180] [] [.int (bI x11)] k12 miX13_isWord mvX13_isWord cb10 kModel q_2391 ⟨rfl, rfl, Nat.le_of_ble_eq_true rfl, Nat.le_of_ble_eq_true rfl⟩ rfl rfl (Nat.le_of_ble_eq_true rfl) ⟨Nat.le_of_ble_eq_true rfl, Nat.le_of_ble_eq_true rfl⟩ dX13_commandHere_40 (t := 43) rfl rfl ?_
        refine J_ifZ_eq (tgt := 48) hX dX13_commandHere_43 (by decide) (t := 46) rfl (fun z => ?_) (fun z => ?_)
        · replace hF := ib_f hF z
          refine J_aload_n hX dX13_commandHere_48 0 rfl (t := 49) rfl ?_
          refine J_ldc2 hX dX13_commandHere_49 q_2457 (t := 52) rfl ?_
          obtain ⟨x14, h13, hF⟩ := bnd_e hF
          have k15 := (ctX13_isWord (G := G) (l := l) w 525939 h13)
          refine J_callV hX [.long 525939] [] [.int (bI x14)] k15 miX13_isWord mvX13_isWord cb10 kModel q_2391 ⟨rfl, rfl, Nat.le_of_ble_eq_true rfl, Nat.le_of_ble_eq_true rfl⟩ rfl rfl (Nat.le_of_ble_eq_true rfl) ⟨Nat.le_of_ble_eq_true rfl, Nat.le_of_ble_eq_true rfl⟩ dX13_commandHere_52 (t := 55) rfl rfl ?_
          refine J_ifZ_eq (tgt := 60) hX dX13_commandHere_55 (by decide) (t := 58) rfl (fun z => ?_) (fun z => ?_)
          · replace hF := ib_f hF z
            refine J_aload_n hX dX13_commandHere_60 0 rfl (t := 61) rfl ?_
            refine J_ldc2 hX dX13_commandHere_61 q_2462 (t := 64) rfl ?_
            obtain ⟨x17, h16, hF⟩ := bnd_e hF
            have k18 := (ctX13_isWord (G := G) (l := l) w 197989 h16)
            refine J_callV hX [.long 197989] [] [.int (bI x17)] k18 miX13_isWord mvX13_isWord cb10 kModel q_2391 ⟨rfl, rfl, Nat.le_of_ble_eq_true rfl, Nat.le_of_ble_eq_true rfl⟩ rfl rfl (Nat.le_of_ble_eq_true rfl) ⟨Nat.le_of_ble_eq_true rfl, Nat.le_of_ble_eq_true rfl⟩ dX13_commandHere_64 (t := 67) rfl rfl ?_
            refine J_ifZ_eq (tgt := 72) hX dX13_commandHere_67 (by decide) (t := 70) rfl (fun z => ?_) (fun z => ?_)
            · replace hF := ib_f hF z
              refine J_aload_n hX dX13_commandHere_72 0 rfl (t := 73) rfl ?_
              refine J_ldc2 hX dX13_commandHere_73 q_2771 (t := 76) rfl ?_
              obtain ⟨x20, h19, hF⟩ := bnd_e hF
              have k21 := (ctX13_isWord (G := G) (l := l) w 102173868 h19)
              refine J_callV hX [.long 102173868] [] [.int (bI x20)] k21 miX13_isWord mvX13_isWord cb10 kModel q_2391 ⟨rfl, rfl, Nat.le_of_ble_eq_true rfl, Nat.le_of_ble_eq_true rfl⟩ rfl rfl (Nat.le_of_ble_eq_true rfl) ⟨Nat.le_of_ble_eq_true rfl, Nat.le_of_ble_eq_true rfl⟩ dX13_commandHere_76 (t := 79) rfl rfl ?_
              refine J_ifZ_eq (tgt := 85) hX dX13_commandHere_79 (by decide) (t := 82) rfl (fun z => ?_) (fun z => ?_)
              · replace hF := ib_f hF z
                refine J_aload_n hX dX13_commandHere_85 0 rfl (t := 86) rfl ?_
                refine J_ldc2 hX dX13_commandHere_86 q_2772 (t := 89) rfl ?_
                obtain ⟨x23, h22, hF⟩ := bnd_e hF
                have k24 := (ctX13_isWord (G := G) (l := l) w 609752116 h22)
                refine J_callV hX [.long 609752116] [] [.int (bI x23)] k24 miX13_isWord mvX13_isWord cb10 kModel q_2391 ⟨rfl, rfl, Nat.le_of_ble_eq_true rfl, Nat.le_of_ble_eq_true rfl⟩ rfl rfl (Nat.le_of_ble_eq_true rfl) ⟨Nat.le_of_ble_eq_true rfl, Nat.le_of_ble_eq_true rfl⟩ dX13_commandHere_89 (t := 92) rfl rfl ?_
                refine J_ifZ_eq (tgt := 100) hX dX13_commandHere_92 (by decide) (t := 95) rfl (fun z => ?_) (fun z => ?_)
                · replace hF := ib_f hF z
                  refine J_iconst (v := (-1)) hX dX13_commandHere_100 (by decide) (t := 101) rfl ?_
                  subst hF
                  exact J_iret hX hR hlk dX13_commandHere_101
                · replace hF := it_t hF z
                  refine J_bipush (v := 7) hX dX13_commandHere_95 (by decide) (t := 97) rfl ?_
                  refine J_goto (tgt := 101) hX dX13_commandHere_97 (by decide) ?_
                  subst hF
                  exact J_iret hX hR hlk dX13_commandHere_101
              · replace hF := it_t hF z
                refine J_bipush (v := 6) hX dX13_commandHere_82 (by decide) (t := 84) rfl ?_
                subst hF
                exact J_iret hX hR hlk dX13_commandHere_84
            · replace hF := it_t hF z
              refine J_iconst (v := 5) hX dX13_commandHere_70 (by decide) (t := 71) rfl ?_
              subst hF
              exact J_iret hX hR hlk dX13_commandHere_71
          · replace hF := it_t hF z
            refine J_iconst (v := 4) hX dX13_commandHere_58 (by decide) (t := 59) rfl ?_
            subst hF
            exact J_iret hX hR hlk dX13_commandHere_59
        · replace hF := it_t hF z
          refine J_iconst (v := 3) hX dX13_commandHere_46 (by decide) (t := 47) rfl ?_
          subst hF
          exact J_iret hX hR hlk dX13_commandHere_47
      · replace hF := it_t hF z
        refine J_iconst (v := 2) hX dX13_commandHere_34 (by decide) (t := 35) rfl ?_
        subst hF
        exact J_iret hX hR hlk dX13_commandHere_35
    · replace hF := it_t hF z
      refine J_iconst (v := 1) hX dX13_commandHere_22 (by decide) (t := 23) rfl ?_
      subst hF
      exact J_iret hX hR hlk dX13_commandHere_23
  · replace hF := it_t hF z
    refine J_iconst (v := 0) hX dX13_commandHere_10 (by decide) (t := 11) rfl ?_
    subst hF
    exact J_iret hX hR hlk dX13_commandHere_11
abbrev rmX13_readsRest : Room := { frames := 4, cells := 0, slots := 0, locals := 92 }
theorem miX13_readsRest : MI yX13_readsRest cX13_readsRest 3 none 2 := ⟨q_2776, q_152, by decide +kernel, by decide +kernel, by decide +kernel, by decide +kernel⟩
theorem mvX13_readsRest : MV yX13_readsRest := ⟨q_2775, q_124⟩
def FX13_readsRest (n : Nat) (w : Wd) (p1 : Int32) (p2 : Int32) : Option (Wd) :=
  bnd (p2) fun s1 =>
  if s1 = 0 then
    bo2 (FX13_nameHere n w 1) fun x4 w5 =>
    gd (inb p1 60) <| bnd (sW w5 15 (sI (w5 15) 8 p1.toNatClampNeg x4)) fun w8 =>
    bo2 (FX13_nameHere n w8 0) fun x11 w12 =>
    gd (inb p1 60) <| bnd (sW w12 15 (sI (w12 15) 9 p1.toNatClampNeg x11)) fun w15 =>
    bo2 (FX13_more n w15 0 9999) fun x18 w19 =>
    gd (inb p1 60) <| bnd (sW w19 15 (sI (w19 15) 10 p1.toNatClampNeg x18)) fun w22 =>
    bo2 (FX13_more n w22 0 9999) fun x25 w26 =>
    gd (inb p1 60) <| bnd (sW w26 15 (sI (w26 15) 11 p1.toNatClampNeg x25)) fun w29 =>
    some w29
  else if s1 = 1 then
    bo2 (FX13_nameHere n w 0) fun x32 w33 =>
    gd (inb p1 60) <| bnd (sW w33 15 (sI (w33 15) 8 p1.toNatClampNeg x32)) fun w36 =>
    bo2 (FX13_more n w36 0 9999) fun x39 w40 =>
    gd (inb p1 60) <| bnd (sW w40 15 (sI (w40 15) 9 p1.toNatClampNeg x39)) fun w43 =>
    some w43
  else if s1 = 2 then
    bo2 (FX13_nameHere n w 0) fun x46 w47 =>
    gd (inb p1 60) <| bnd (sW w47 15 (sI (w47 15) 8 p1.toNatClampNeg x46)) fun w50 =>
    bo2 (FX13_more n w50 0 9999) fun x53 w54 =>
    gd (inb p1 60) <| bnd (sW w54 15 (sI (w54 15) 9 p1.toNatClampNeg x53)) fun w57 =>
    some w57
  else if s1 = 3 then
    bo2 (FX13_more n w 0 9999) fun x60 w61 =>
    gd (inb p1 60) <| bnd (sW w61 15 (sI (w61 15) 8 p1.toNatClampNeg x60)) fun w64 =>
    some w64
  else if s1 = 4 then
    bo2 (FX13_more n w 0 9999) fun x67 w68 =>
    gd (inb p1 60) <| bnd (sW w68 15 (sI (w68 15) 8 p1.toNatClampNeg x67)) fun w71 =>
    some w71
  else if s1 = 5 then
    bo2 (FX13_more n w 0 9999) fun x74 w75 =>
    gd (inb p1 60) <| bnd (sW w75 15 (sI (w75 15) 8 p1.toNatClampNeg x74)) fun w78 =>
    some w78
  else if s1 = 6 then
    bo2 (FX13_more n w 0 9999) fun x81 w82 =>
    gd (inb p1 60) <| bnd (sW w82 15 (sI (w82 15) 8 p1.toNatClampNeg x81)) fun w85 =>
    some w85
  else if s1 = 7 then
    bo2 (FX13_number n w 1 20) fun x88 w89 =>
    gd (inb p1 60) <| bnd (sW w89 15 (sI (w89 15) 8 p1.toNatClampNeg x88)) fun w92 =>
    bo1 (FX13_mustSign n w92 40) fun w95 =>
    some w95
  else 
    bo2 (FX13_more n w 0 9999) fun x98 w99 =>
    gd (inb p1 60) <| bnd (sW w99 15 (sI (w99 15) 8 p1.toNatClampNeg x98)) fun w102 =>
    some w102
set_option maxHeartbeats 4000000 in
set_option maxRecDepth 100000 in
theorem ctX13_readsRest {G : GG} {l : Launch} (w : Wd) (p1 : Int32) (p2 : Int32)  (n : Nat) {rw : Wd} (hF : FX13_readsRest n w p1 p2 = some rw) : CT G l yX13_readsRest cX13_readsRest 3 none rmX13_readsRest 0 0 [.ref (adr G 15 0), .int p1, .int p2] w (none) rw := by
  refine CT.of miX13_readsRest [(0, .ref (adr G 15 0)), (1, .int p1), (2, .int p2)] rfl (Nat.le_of_ble_eq_true rfl) ?_
  intro p e s m args below meth c hX hR hlk
  have hX : FX G RX13 cX13_readsRest 3 p s m args c := hX
  unfold FX13_readsRest at hF
  refine J_iload_n hX dX13_readsRest_0 2 rfl (t := 1) rfl ?_
  obtain ⟨s1, e2, hF⟩ := bnd_e hF
  refine J_val e2 ?_
  by_cases z0 : s1 = 0
  · replace hF := it_t hF z0
    refine J_tabIn (k := 0) (tgt := 48) hX dX13_readsRest_1 z0 (by decide) (by decide) rfl (by decide) ?_
    refine J_aload_n hX dX13_readsRest_48 0 rfl (t := 49) rfl ?_
    refine J_get hX cb10 kModel 22 (by decide) q_1989 rfl dX13_readsRest_49 (t := 52) rfl ?_
    refine J_iload_n hX dX13_readsRest_52 1 rfl (t := 53) rfl ?_
    refine J_aload_n hX dX13_readsRest_53 0 rfl (t := 54) rfl ?_
    refine J_iconst (v := 1) hX dX13_readsRest_54 (by decide) (t := 55) rfl ?_
    obtain ⟨x4, w5, h3, hF⟩ := bo2_e hF
    have k6 := (ctX13_nameHere (G := G) (l := l) w 1 n h3)
    refine J_callV hX [.int 1] [.int p1, .ref (adr G 15 8)] [.int x4, .int p1, .ref (adr G 15 8)] k6 miX13_nameHere mvX13_nameHere cb10 kModel q_2442 ⟨rfl, rfl, Nat.le_of_ble_eq_true rfl, Nat.le_of_ble_eq_true rfl⟩ rfl rfl (Nat.le_of_ble_eq_true rfl) ⟨Nat.le_of_ble_eq_true rfl, Nat.le_of_ble_eq_true rfl⟩ dX13_readsRest_55 (t := 58) rfl rfl ?_
    obtain ⟨g7, hF⟩ := gd_e hF
    obtain ⟨w8, e9, hF⟩ := bnd_e hF
    refine J_iast hX (kInts (j := 8) (n := 60) (by decide) (by decide) rfl) g7 rfl e9 dX13_readsRest_58 (t := 59) rfl ?_
    refine J_aload_n hX dX13_readsRest_59 0 rfl (t := 60) rfl ?_
    refine J_get hX cb10 kModel 23 (by decide) q_1990 rfl dX13_readsRest_60 (t := 63) rfl ?_
    refine J_iload_n hX dX13_readsRest_63 1 rfl (t := 64) rfl ?_
    refine J_aload_n hX dX13_readsRest_64 0 rfl (t := 65) rfl ?_
    refine J_iconst (v := 0) hX dX13_readsRest_65 (by decide) (t := 66) rfl ?_
    obtain ⟨x11, w12, h10, hF⟩ := bo2_e hF
    have k13 := (ctX13_nameHere (G := G) (l := l) w8 0 n h10)
    refine J_callV hX [.int 0] [.int p1, .ref (adr G 15 9)] [.int x11, .int p1, .ref (adr G 15 9)] k13 miX13_nameHere mvX13_nameHere cb10 kModel q_2442 ⟨rfl, rfl, Nat.le_of_ble_eq_true rfl, Nat.le_of_ble_eq_true rfl⟩ rfl rfl (Nat.le_of_ble_eq_true rfl) ⟨Nat.le_of_ble_eq_true rfl, Nat.le_of_ble_eq_true rfl⟩ dX13_readsRest_66 (t := 69) rfl rfl ?_
    obtain ⟨g14, hF⟩ := gd_e hF
    obtain ⟨w15, e16, hF⟩ := bnd_e hF
    refine J_iast hX (kInts (j := 9) (n := 60) (by decide) (by decide) rfl) g14 rfl e16 dX13_readsRest_69 (t := 70) rfl ?_
    refine J_aload_n hX dX13_readsRest_70 0 rfl (t := 71) rfl ?_
    refine J_get hX cb10 kModel 24 (by decide) q_1991 rfl dX13_readsRest_71 (t := 74) rfl ?_
    refine J_iload_n hX dX13_readsRest_74 1 rfl (t := 75) rfl ?_
    refine J_aload_n hX dX13_readsRest_75 0 rfl (t := 76) rfl ?_
    refine J_iconst (v := 0) hX dX13_readsRest_76 (by decide) (t := 77) rfl ?_
    refine J_sipush (v := 9999) hX dX13_readsRest_77 (by decide) (t := 80) rfl ?_
    obtain ⟨x18, w19, h17, hF⟩ := bo2_e hF
    have k20 := (ctX13_more (G := G) (l := l) w15 0 9999 n h17)
    refine J_callV hX [.int 0, .int 9999] [.int p1, .ref (adr G 15 10)] [.int x18, .int p1, .ref (adr G 15 10)] k20 miX13_more mvX13_more cb10 kModel q_2420 ⟨rfl, rfl, Nat.le_of_ble_eq_true rfl, Nat.le_of_ble_eq_true rfl⟩ rfl rfl (Nat.le_of_ble_eq_true rfl) ⟨Nat.le_of_ble_eq_true rfl, Nat.le_of_ble_eq_true rfl⟩ dX13_readsRest_80 (t := 83) rfl rfl ?_
    obtain ⟨g21, hF⟩ := gd_e hF
    obtain ⟨w22, e23, hF⟩ := bnd_e hF
    refine J_iast hX (kInts (j := 10) (n := 60) (by decide) (by decide) rfl) g21 rfl e23 dX13_readsRest_83 (t := 84) rfl ?_
    refine J_aload_n hX dX13_readsRest_84 0 rfl (t := 85) rfl ?_
    refine J_get hX cb10 kModel 25 (by decide) q_1992 rfl dX13_readsRest_85 (t := 88) rfl ?_
    refine J_iload_n hX dX13_readsRest_88 1 rfl (t := 89) rfl ?_
    refine J_aload_n hX dX13_readsRest_89 0 rfl (t := 90) rfl ?_
    refine J_iconst (v := 0) hX dX13_readsRest_90 (by decide) (t := 91) rfl ?_
    refine J_sipush (v := 9999) hX dX13_readsRest_91 (by decide) (t := 94) rfl ?_
    obtain ⟨x25, w26, h24, hF⟩ := bo2_e hF
    have k27 := (ctX13_more (G := G) (l := l) w22 0 9999 n h24)
    refine J_callV hX [.int 0, .int 9999] [.int p1, .ref (adr G 15 11)] [.int x25, .int p1, .ref (adr G 15 11)] k27 miX13_more mvX13_more cb10 kModel q_2420 ⟨rfl, rfl, Nat.le_of_ble_eq_true rfl, Nat.le_of_ble_eq_true rfl⟩ rfl rfl (Nat.le_of_ble_eq_true rfl) ⟨Nat.le_of_ble_eq_true rfl, Nat.le_of_ble_eq_true rfl⟩ dX13_readsRest_94 (t := 97) rfl rfl ?_
    obtain ⟨g28, hF⟩ := gd_e hF
    obtain ⟨w29, e30, hF⟩ := bnd_e hF
    refine J_iast hX (kInts (j := 11) (n := 60) (by decide) (by decide) rfl) g28 rfl e30 dX13_readsRest_97 (t := 98) rfl ?_
    refine J_goto (tgt := 165) hX dX13_readsRest_98 (by decide) ?_
    replace hF := Option.some.inj hF
    subst hF
    exact J_vret hX hR hlk dX13_readsRest_165
  · replace hF := it_f hF z0
    by_cases z1 : s1 = 1
    · replace hF := it_t hF z1
      refine J_tabIn (k := 1) (tgt := 101) hX dX13_readsRest_1 z1 (by decide) (by decide) rfl (by decide) ?_
      refine J_aload_n hX dX13_readsRest_101 0 rfl (t := 102) rfl ?_
      refine J_get hX cb10 kModel 22 (by decide) q_1989 rfl dX13_readsRest_102 (t := 105) rfl ?_
      refine J_iload_n hX dX13_readsRest_105 1 rfl (t := 106) rfl ?_
      refine J_aload_n hX dX13_readsRest_106 0 rfl (t := 107) rfl ?_
      refine J_iconst (v := 0) hX dX13_readsRest_107 (by decide) (t := 108) rfl ?_
      obtain ⟨x32, w33, h31, hF⟩ := bo2_e hF
      have k34 := (ctX13_nameHere (G := G) (l := l) w 0 n h31)
      refine J_callV hX [.int 0] [.int p1, .ref (adr G 15 8)] [.int x32, .int p1, .ref (adr G 15 8)] k34 miX13_nameHere mvX13_nameHere cb10 kModel q_2442 ⟨rfl, rfl, Nat.le_of_ble_eq_true rfl, Nat.le_of_ble_eq_true rfl⟩ rfl rfl (Nat.le_of_ble_eq_true rfl) ⟨Nat.le_of_ble_eq_true rfl, Nat.le_of_ble_eq_true rfl⟩ dX13_readsRest_108 (t := 111) rfl rfl ?_
      obtain ⟨g35, hF⟩ := gd_e hF
      obtain ⟨w36, e37, hF⟩ := bnd_e hF
      refine J_iast hX (kInts (j := 8) (n := 60) (by decide) (by decide) rfl) g35 rfl e37 dX13_readsRest_111 (t := 112) rfl ?_
      refine J_aload_n hX dX13_readsRest_112 0 rfl (t := 113) rfl ?_
      refine J_get hX cb10 kModel 23 (by decide) q_1990 rfl dX13_readsRest_113 (t := 116) rfl ?_
      refine J_iload_n hX dX13_readsRest_116 1 rfl (t := 117) rfl ?_
      refine J_aload_n hX dX13_readsRest_117 0 rfl (t := 118) rfl ?_
      refine J_iconst (v := 0) hX dX13_readsRest_118 (by decide) (t := 119) rfl ?_
      refine J_sipush (v := 9999) hX dX13_readsRest_119 (by decide) (t := 122) rfl ?_
      obtain ⟨x39, w40, h38, hF⟩ := bo2_e hF
      have k41 := (ctX13_more (G := G) (l := l) w36 0 9999 n h38)
      refine J_callV hX [.int 0, .int 9999] [.int p1, .ref (adr G 15 9)] [.int x39, .int p1, .ref (adr G 15 9)] k41 miX13_more mvX13_more cb10 kModel q_2420 ⟨rfl, rfl, Nat.le_of_ble_eq_true rfl, Nat.le_of_ble_eq_true rfl⟩ rfl rfl (Nat.le_of_ble_eq_true rfl) ⟨Nat.le_of_ble_eq_true rfl, Nat.le_of_ble_eq_true rfl⟩ dX13_readsRest_122 (t := 125) rfl rfl ?_
      obtain ⟨g42, hF⟩ := gd_e hF
      obtain ⟨w43, e44, hF⟩ := bnd_e hF
      refine J_iast hX (kInts (j := 9) (n := 60) (by decide) (by decide) rfl) g42 rfl e44 dX13_readsRest_125 (t := 126) rfl ?_
      refine J_goto (tgt := 165) hX dX13_readsRest_126 (by decide) ?_
      replace hF := Option.some.inj hF
      subst hF
      exact J_vret hX hR hlk dX13_readsRest_165
    · replace hF := it_f hF z1
      by_cases z2 : s1 = 2
      · replace hF := it_t hF z2
        refine J_tabIn (k := 2) (tgt := 101) hX dX13_readsRest_1 z2 (by decide) (by decide) rfl (by decide) ?_
        refine J_aload_n hX dX13_readsRest_101 0 rfl (t := 102) rfl ?_
        refine J_get hX cb10 kModel 22 (by decide) q_1989 rfl dX13_readsRest_102 (t := 105) rfl ?_
        refine J_iload_n hX dX13_readsRest_105 1 rfl (t := 106) rfl ?_
        refine J_aload_n hX dX13_readsRest_106 0 rfl (t := 107) rfl ?_
        refine J_iconst (v := 0) hX dX13_readsRest_107 (by decide) (t := 108) rfl ?_
        obtain ⟨x46, w47, h45, hF⟩ := bo2_e hF
        have k48 := (ctX13_nameHere (G := G) (l := l) w 0 n h45)
        refine J_callV hX [.int 0] [.int p1, .ref (adr G 15 8)] [.int x46, .int p1, .ref (adr G 15 8)] k48 miX13_nameHere mvX13_nameHere cb10 kModel q_2442 ⟨rfl, rfl, Nat.le_of_ble_eq_true rfl, Nat.le_of_ble_eq_true rfl⟩ rfl rfl (Nat.le_of_ble_eq_true rfl) ⟨Nat.le_of_ble_eq_true rfl, Nat.le_of_ble_eq_true rfl⟩ dX13_readsRest_108 (t := 111) rfl rfl ?_
        obtain ⟨g49, hF⟩ := gd_e hF
        obtain ⟨w50, e51, hF⟩ := bnd_e hF
        refine J_iast hX (kInts (j := 8) (n := 60) (by decide) (by decide) rfl) g49 rfl e51 dX13_readsRest_111 (t := 112) rfl ?_
        refine J_aload_n hX dX13_readsRest_112 0 rfl (t := 113) rfl ?_
        refine J_get hX cb10 kModel 23 (by decide) q_1990 rfl dX13_readsRest_113 (t := 116) rfl ?_
        refine J_iload_n hX dX13_readsRest_116 1 rfl (t := 117) rfl ?_
        refine J_aload_n hX dX13_readsRest_117 0 rfl (t := 118) rfl ?_
        refine J_iconst (v := 0) hX dX13_readsRest_118 (by decide) (t := 119) rfl ?_
        refine J_sipush (v := 9999) hX dX13_readsRest_119 (by decide) (t := 122) rfl ?_
        obtain ⟨x53, w54, h52, hF⟩ := bo2_e hF
        have k55 := (ctX13_more (G := G) (l := l) w50 0 9999 n h52)
        refine J_callV hX [.int 0, .int 9999] [.int p1, .ref (adr G 15 9)] [.int x53, .int p1, .ref (adr G 15 9)] k55 miX13_more mvX13_more cb10 kModel q_2420 ⟨rfl, rfl, Nat.le_of_ble_eq_true rfl, Nat.le_of_ble_eq_true rfl⟩ rfl rfl (Nat.le_of_ble_eq_true rfl) ⟨Nat.le_of_ble_eq_true rfl, Nat.le_of_ble_eq_true rfl⟩ dX13_readsRest_122 (t := 125) rfl rfl ?_
        obtain ⟨g56, hF⟩ := gd_e hF
        obtain ⟨w57, e58, hF⟩ := bnd_e hF
        refine J_iast hX (kInts (j := 9) (n := 60) (by decide) (by decide) rfl) g56 rfl e58 dX13_readsRest_125 (t := 126) rfl ?_
        refine J_goto (tgt := 165) hX dX13_readsRest_126 (by decide) ?_
        replace hF := Option.some.inj hF
        subst hF
        exact J_vret hX hR hlk dX13_readsRest_165
      · replace hF := it_f hF z2
        by_cases z3 : s1 = 3
        · replace hF := it_t hF z3
          refine J_tabIn (k := 3) (tgt := 151) hX dX13_readsRest_1 z3 (by decide) (by decide) rfl (by decide) ?_
          refine J_aload_n hX dX13_readsRest_151 0 rfl (t := 152) rfl ?_
          refine J_get hX cb10 kModel 22 (by decide) q_1989 rfl dX13_readsRest_152 (t := 155) rfl ?_
          refine J_iload_n hX dX13_readsRest_155 1 rfl (t := 156) rfl ?_
          refine J_aload_n hX dX13_readsRest_156 0 rfl (t := 157) rfl ?_
          refine J_iconst (v := 0) hX dX13_readsRest_157 (by decide) (t := 158) rfl ?_
          refine J_sipush (v := 9999) hX dX13_readsRest_158 (by decide) (t := 161) rfl ?_
          obtain ⟨x60, w61, h59, hF⟩ := bo2_e hF
          have k62 := (ctX13_more (G := G) (l := l) w 0 9999 n h59)
          refine J_callV hX [.int 0, .int 9999] [.int p1, .ref (adr G 15 8)] [.int x60, .int p1, .ref (adr G 15 8)] k62 miX13_more mvX13_more cb10 kModel q_2420 ⟨rfl, rfl, Nat.le_of_ble_eq_true rfl, Nat.le_of_ble_eq_true rfl⟩ rfl rfl (Nat.le_of_ble_eq_true rfl) ⟨Nat.le_of_ble_eq_true rfl, Nat.le_of_ble_eq_true rfl⟩ dX13_readsRest_161 (t := 164) rfl rfl ?_
          obtain ⟨g63, hF⟩ := gd_e hF
          obtain ⟨w64, e65, hF⟩ := bnd_e hF
          refine J_iast hX (kInts (j := 8) (n := 60) (by decide) (by decide) rfl) g63 rfl e65 dX13_readsRest_164 (t := 165) rfl ?_
          replace hF := Option.some.inj hF
          subst hF
          exact J_vret hX hR hlk dX13_readsRest_165
        · replace hF := it_f hF z3
          by_cases z4 : s1 = 4
          · replace hF := it_t hF z4
            refine J_tabIn (k := 4) (tgt := 151) hX dX13_readsRest_1 z4 (by decide) (by decide) rfl (by decide) ?_
            refine J_aload_n hX dX13_readsRest_151 0 rfl (t := 152) rfl ?_
            refine J_get hX cb10 kModel 22 (by decide) q_1989 rfl dX13_readsRest_152 (t := 155) rfl ?_
            refine J_iload_n hX dX13_readsRest_155 1 rfl (t := 156) rfl ?_
            refine J_aload_n hX dX13_readsRest_156 0 rfl (t := 157) rfl ?_
            refine J_iconst (v := 0) hX dX13_readsRest_157 (by decide) (t := 158) rfl ?_
            refine J_sipush (v := 9999) hX dX13_readsRest_158 (by decide) (t := 161) rfl ?_
            obtain ⟨x67, w68, h66, hF⟩ := bo2_e hF
            have k69 := (ctX13_more (G := G) (l := l) w 0 9999 n h66)
            refine J_callV hX [.int 0, .int 9999] [.int p1, .ref (adr G 15 8)] [.int x67, .int p1, .ref (adr G 15 8)] k69 miX13_more mvX13_more cb10 kModel q_2420 ⟨rfl, rfl, Nat.le_of_ble_eq_true rfl, Nat.le_of_ble_eq_true rfl⟩ rfl rfl (Nat.le_of_ble_eq_true rfl) ⟨Nat.le_of_ble_eq_true rfl, Nat.le_of_ble_eq_true rfl⟩ dX13_readsRest_161 (t := 164) rfl rfl ?_
            obtain ⟨g70, hF⟩ := gd_e hF
            obtain ⟨w71, e72, hF⟩ := bnd_e hF
            refine J_iast hX (kInts (j := 8) (n := 60) (by decide) (by decide) rfl) g70 rfl e72 dX13_readsRest_164 (t := 165) rfl ?_
            replace hF := Option.some.inj hF
            subst hF
            exact J_vret hX hR hlk dX13_readsRest_165
          · replace hF := it_f hF z4
            by_cases z5 : s1 = 5
            · replace hF := it_t hF z5
              refine J_tabIn (k := 5) (tgt := 151) hX dX13_readsRest_1 z5 (by decide) (by decide) rfl (by decide) ?_
              refine J_aload_n hX dX13_readsRest_151 0 rfl (t := 152) rfl ?_
              refine J_get hX cb10 kModel 22 (by decide) q_1989 rfl dX13_readsRest_152 (t := 155) rfl ?_
              refine J_iload_n hX dX13_readsRest_155 1 rfl (t := 156) rfl ?_
              refine J_aload_n hX dX13_readsRest_156 0 rfl (t := 157) rfl ?_
              refine J_iconst (v := 0) hX dX13_readsRest_157 (by decide) (t := 158) rfl ?_
              refine J_sipush (v := 9999) hX dX13_readsRest_158 (by decide) (t := 161) rfl ?_
              obtain ⟨x74, w75, h73, hF⟩ := bo2_e hF
              have k76 := (ctX13_more (G := G) (l := l) w 0 9999 n h73)
              refine J_callV hX [.int 0, .int 9999] [.int p1, .ref (adr G 15 8)] [.int x74, .int p1, .ref (adr G 15 8)] k76 miX13_more mvX13_more cb10 kModel q_2420 ⟨rfl, rfl, Nat.le_of_ble_eq_true rfl, Nat.le_of_ble_eq_true rfl⟩ rfl rfl (Nat.le_of_ble_eq_true rfl) ⟨Nat.le_of_ble_eq_true rfl, Nat.le_of_ble_eq_true rfl⟩ dX13_readsRest_161 (t := 164) rfl rfl ?_
              obtain ⟨g77, hF⟩ := gd_e hF
              obtain ⟨w78, e79, hF⟩ := bnd_e hF
              refine J_iast hX (kInts (j := 8) (n := 60) (by decide) (by decide) rfl) g77 rfl e79 dX13_readsRest_164 (t := 165) rfl ?_
              replace hF := Option.some.inj hF
              subst hF
              exact J_vret hX hR hlk dX13_readsRest_165
            · replace hF := it_f hF z5
              by_cases z6 : s1 = 6
              · replace hF := it_t hF z6
                refine J_tabIn (k := 6) (tgt := 151) hX dX13_readsRest_1 z6 (by decide) (by decide) rfl (by decide) ?_
                refine J_aload_n hX dX13_readsRest_151 0 rfl (t := 152) rfl ?_
                refine J_get hX cb10 kModel 22 (by decide) q_1989 rfl dX13_readsRest_152 (t := 155) rfl ?_
                refine J_iload_n hX dX13_readsRest_155 1 rfl (t := 156) rfl ?_
                refine J_aload_n hX dX13_readsRest_156 0 rfl (t := 157) rfl ?_
                refine J_iconst (v := 0) hX dX13_readsRest_157 (by decide) (t := 158) rfl ?_
                refine J_sipush (v := 9999) hX dX13_readsRest_158 (by decide) (t := 161) rfl ?_
                obtain ⟨x81, w82, h80, hF⟩ := bo2_e hF
                have k83 := (ctX13_more (G := G) (l := l) w 0 9999 n h80)
                refine J_callV hX [.int 0, .int 9999] [.int p1, .ref (adr G 15 8)] [.int x81, .int p1, .ref (adr G 15 8)] k83 miX13_more mvX13_more cb10 kModel q_2420 ⟨rfl, rfl, Nat.le_of_ble_eq_true rfl, Nat.le_of_ble_eq_true rfl⟩ rfl rfl (Nat.le_of_ble_eq_true rfl) ⟨Nat.le_of_ble_eq_true rfl, Nat.le_of_ble_eq_true rfl⟩ dX13_readsRest_161 (t := 164) rfl rfl ?_
                obtain ⟨g84, hF⟩ := gd_e hF
                obtain ⟨w85, e86, hF⟩ := bnd_e hF
                refine J_iast hX (kInts (j := 8) (n := 60) (by decide) (by decide) rfl) g84 rfl e86 dX13_readsRest_164 (t := 165) rfl ?_
                replace hF := Option.some.inj hF
                subst hF
                exact J_vret hX hR hlk dX13_readsRest_165
              · replace hF := it_f hF z6
                by_cases z7 : s1 = 7
                · replace hF := it_t hF z7
                  refine J_tabIn (k := 7) (tgt := 129) hX dX13_readsRest_1 z7 (by decide) (by decide) rfl (by decide) ?_
                  refine J_aload_n hX dX13_readsRest_129 0 rfl (t := 130) rfl ?_
                  refine J_get hX cb10 kModel 22 (by decide) q_1989 rfl dX13_readsRest_130 (t := 133) rfl ?_
                  refine J_iload_n hX dX13_readsRest_133 1 rfl (t := 134) rfl ?_
                  refine J_aload_n hX dX13_readsRest_134 0 rfl (t := 135) rfl ?_
                  refine J_iconst (v := 1) hX dX13_readsRest_135 (by decide) (t := 136) rfl ?_
                  refine J_bipush (v := 20) hX dX13_readsRest_136 (by decide) (t := 138) rfl ?_
                  obtain ⟨x88, w89, h87, hF⟩ := bo2_e hF
                  have k90 := (ctX13_number (G := G) (l := l) w 1 20 n h87)
                  refine J_callV hX [.int 1, .int 20] [.int p1, .ref (adr G 15 8)] [.int x88, .int p1, .ref (adr G 15 8)] k90 miX13_number mvX13_number cb10 kModel q_2424 ⟨rfl, rfl, Nat.le_of_ble_eq_true rfl, Nat.le_of_ble_eq_true rfl⟩ rfl rfl (Nat.le_of_ble_eq_true rfl) ⟨Nat.le_of_ble_eq_true rfl, Nat.le_of_ble_eq_true rfl⟩ dX13_readsRest_138 (t := 141) rfl rfl ?_
                  obtain ⟨g91, hF⟩ := gd_e hF
                  obtain ⟨w92, e93, hF⟩ := bnd_e hF
                  refine J_iast hX (kInts (j := 8) (n := 60) (by decide) (by decide) rfl) g91 rfl e93 dX13_readsRest_141 (t := 142) rfl ?_
                  refine J_aload_n hX dX13_readsRest_142 0 rfl (t := 143) rfl ?_
                  refine J_bipush (v := 40) hX dX13_readsRest_143 (by decide) (t := 145) rfl ?_
                  obtain ⟨w95, h94, hF⟩ := bo1_e hF
                  have k96 := (ctX13_mustSign (G := G) (l := l) w92 40 n h94)
                  refine J_callV hX [.int 40] [] [] k96 miX13_mustSign mvX13_mustSign cb10 kModel q_2399 ⟨rfl, rfl, Nat.le_of_ble_eq_true rfl, Nat.le_of_ble_eq_true rfl⟩ rfl rfl (Nat.le_of_ble_eq_true rfl) ⟨Nat.le_of_ble_eq_true rfl, Nat.le_of_ble_eq_true rfl⟩ dX13_readsRest_145 (t := 148) rfl rfl ?_
                  refine J_goto (tgt := 165) hX dX13_readsRest_148 (by decide) ?_
                  replace hF := Option.some.inj hF
                  subst hF
                  exact J_vret hX hR hlk dX13_readsRest_165
                · replace hF := it_f hF z7
                  refine J_tabOut (tgt := 151) hX dX13_readsRest_1 (tab_out8_0 z0 z1 z2 z3 z4 z5 z6 z7) (by decide) ?_
                  refine J_aload_n hX dX13_readsRest_151 0 rfl (t := 152) rfl ?_
                  refine J_get hX cb10 kModel 22 (by decide) q_1989 rfl dX13_readsRest_152 (t := 155) rfl ?_
                  refine J_iload_n hX dX13_readsRest_155 1 rfl (t := 156) rfl ?_
                  refine J_aload_n hX dX13_readsRest_156 0 rfl (t := 157) rfl ?_
                  refine J_iconst (v := 0) hX dX13_readsRest_157 (by decide) (t := 158) rfl ?_
                  refine J_sipush (v := 9999) hX dX13_readsRest_158 (by decide) (t := 161) rfl ?_
                  obtain ⟨x98, w99, h97, hF⟩ := bo2_e hF
                  have k100 := (ctX13_more (G := G) (l := l) w 0 9999 n h97)
                  refine J_callV hX [.int 0, .int 9999] [.int p1, .ref (adr G 15 8)] [.int x98, .int p1, .ref (adr G 15 8)] k100 miX13_more mvX13_more cb10 kModel q_2420 ⟨rfl, rfl, Nat.le_of_ble_eq_true rfl, Nat.le_of_ble_eq_true rfl⟩ rfl rfl (Nat.le_of_ble_eq_true rfl) ⟨Nat.le_of_ble_eq_true rfl, Nat.le_of_ble_eq_true rfl⟩ dX13_readsRest_161 (t := 164) rfl rfl ?_
                  obtain ⟨g101, hF⟩ := gd_e hF
                  obtain ⟨w102, e103, hF⟩ := bnd_e hF
                  refine J_iast hX (kInts (j := 8) (n := 60) (by decide) (by decide) rfl) g101 rfl e103 dX13_readsRest_164 (t := 165) rfl ?_
                  replace hF := Option.some.inj hF
                  subst hF
                  exact J_vret hX hR hlk dX13_readsRest_165
abbrev rmX13_command : Room := { frames := 5, cells := 0, slots := 0, locals := 114 }
theorem miX13_command : MI yX13_command cX13_command 3 none 0 := ⟨q_2766, q_152, by decide +kernel, by decide +kernel, by decide +kernel, by decide +kernel⟩
theorem mvX13_command : MV yX13_command := ⟨q_2765, q_122⟩
def FX13_command_B48 (n : Nat) (w : Wd) (l1 : Int32) : Option (Wd) :=
  bnd (FX13_isGood w) fun x5 =>
  if x5 = true then
    bnd (sW w 15 (sI (w 15) 0 29 (((w 15).1 0 29) + 1))) fun w7 =>
    bo1 (FX13_goOnRead n w7) fun w10 =>
    gd (inb ((w10 15).1 0 28) 60) <| bnd (sW w10 15 (sI (w10 15) 7 (((w10 15).1 0 28).toNatClampNeg) l1)) fun w13 =>
    bo1 (FX13_readsRest n w13 ((w10 15).1 0 28) l1) fun w16 =>
    bnd (FX13_isGood w16) fun x19 =>
    if x19 = true then
      bnd (sW w16 15 (sI (w16 15) 0 28 (((w16 15).1 0 28) + 1))) fun w21 =>
      if l1 = 7 then
        bnd (FX13_truth true) fun x29 =>
        bnd (sW w21 15 (sI (w21 15) 0 30 (((w21 15).1 0 30) + x29))) fun w31 =>
        some w31
      else
        bnd (FX13_truth false) fun x24 =>
        bnd (sW w21 15 (sI (w21 15) 0 30 (((w21 15).1 0 30) + x24))) fun w26 =>
        some w26
    else
      some w16
  else
    some w
set_option maxHeartbeats 4000000 in
set_option maxRecDepth 100000 in
theorem BX13_command_48 {G : GG} {l : Launch} {p : Program} {e : Env} {s : State} {m : MethodId} {args : Array Value} {below : List Frame} {meth : Method} {c : Code} (hX : FX G RX13 cX13_command 3 p s m args c) (hR : meth.sig.returnType = none) (hlk : meth.locks = false) {rw : Wd} (n : Nat) (w : Wd) (l1 : Int32)  (hF : FX13_command_B48 n w l1 = some rw) : J G p l e rmX13_command s m args below meth c 3 0 0 (MQ below (QV G (none) rw) args s 0 0 (gA G)) (GH G w) 48 [(0, .ref (adr G 15 0)), (1, .int l1)] [] := by
  unfold FX13_command_B48 at hF
  refine J_aload_n hX dX13_command_48 0 rfl (t := 49) rfl ?_
  obtain ⟨x5, h4, hF⟩ := bnd_e hF
  have k6 := (ctX13_isGood (G := G) (l := l) w  h4)
  refine J_callV hX [] [] [.int (bI x5)] k6 miX13_isGood mvX13_isGood cb10 kModel q_2387 ⟨rfl, rfl, Nat.le_of_ble_eq_true rfl, Nat.le_of_ble_eq_true rfl⟩ rfl rfl (Nat.le_of_ble_eq_true rfl) ⟨Nat.le_of_ble_eq_true rfl, Nat.le_of_ble_eq_true rfl⟩ dX13_command_49 (t := 52) rfl rfl ?_
  refine J_ifZ_ne (tgt := 56) hX dX13_command_52 (by decide) (t := 55) rfl (fun z => ?_) (fun z => ?_)
  · replace hF := it_t hF z
    refine J_aload_n hX dX13_command_56 0 rfl (t := 57) rfl ?_
    refine J_dup hX dX13_command_57 rfl (t := 58) rfl ?_
    refine J_get hX cb10 kModel 29 (by decide) q_1996 rfl dX13_command_58 (t := 61) rfl ?_
    refine J_iconst (v := 1) hX dX13_command_61 (by decide) (t := 62) rfl ?_
    refine J_iadd hX dX13_command_62 (t := 63) rfl ?_
    obtain ⟨w7, e8, hF⟩ := bnd_e hF
    refine J_puti hX cb10 kModel 29 (by decide) q_1996 rfl rfl e8 (fun _ _ => Nat.le_of_ble_eq_true rfl) (fun _ _ => rfl) dX13_command_63 (t := 66) rfl ?_
    refine J_aload_n hX dX13_command_66 0 rfl (t := 67) rfl ?_
    obtain ⟨w10, h9, hF⟩ := bo1_e hF
    have k11 := (ctX13_goOnRead (G := G) (l := l) w7  n h9)
    refine J_callV hX [] [] [] k11 miX13_goOnRead mvX13_goOnRead cb10 kModel q_2371 ⟨rfl, rfl, Nat.le_of_ble_eq_true rfl, Nat.le_of_ble_eq_true rfl⟩ rfl rfl (Nat.le_of_ble_eq_true rfl) ⟨Nat.le_of_ble_eq_true rfl, Nat.le_of_ble_eq_true rfl⟩ dX13_command_67 (t := 70) rfl rfl ?_
    refine J_aload_n hX dX13_command_70 0 rfl (t := 71) rfl ?_
    refine J_get hX cb10 kModel 28 (by decide) q_1995 rfl dX13_command_71 (t := 74) rfl ?_
    refine J_istore_n (lc2 := [(2, .int ((w10 15).1 0 28)), (0, .ref (adr G 15 0)), (1, .int l1)]) hX dX13_command_74 rfl (Nat.le_of_ble_eq_true rfl) rfl (t := 75) rfl ?_
    refine J_aload_n hX dX13_command_75 1 rfl (t := 76) rfl ?_
    refine J_get hX cb10 kModel 21 (by decide) q_1988 rfl dX13_command_76 (t := 79) rfl ?_
    refine J_iload_n hX dX13_command_79 0 rfl (t := 80) rfl ?_
    refine J_iload_n hX dX13_command_80 2 rfl (t := 81) rfl ?_
    obtain ⟨g12, hF⟩ := gd_e hF
    obtain ⟨w13, e14, hF⟩ := bnd_e hF
    refine J_iast hX (kInts (j := 7) (n := 60) (by decide) (by decide) rfl) g12 rfl e14 dX13_command_81 (t := 82) rfl ?_
    refine J_aload_n hX dX13_command_82 1 rfl (t := 83) rfl ?_
    refine J_iload_n hX dX13_command_83 0 rfl (t := 84) rfl ?_
    refine J_iload_n hX dX13_command_84 2 rfl (t := 85) rfl ?_
    obtain ⟨w16, h15, hF⟩ := bo1_e hF
    have k17 := (ctX13_readsRest (G := G) (l := l) w13 ((w10 15).1 0 28) l1 n h15)
    refine J_callV hX [.int ((w10 15).1 0 28), .int l1] [] [] k17 miX13_readsRest mvX13_readsRest cb10 kModel q_2773 ⟨rfl, rfl, Nat.le_of_ble_eq_true rfl, Nat.le_of_ble_eq_true rfl⟩ rfl rfl (Nat.le_of_ble_eq_true rfl) ⟨Nat.le_of_ble_eq_true rfl, Nat.le_of_ble_eq_true rfl⟩ dX13_command_85 (t := 88) rfl rfl ?_
    refine J_aload_n hX dX13_command_88 1 rfl (t := 89) rfl ?_
    obtain ⟨x19, h18, hF⟩ := bnd_e hF
    have k20 := (ctX13_isGood (G := G) (l := l) w16  h18)
    refine J_callV hX [] [] [.int (bI x19)] k20 miX13_isGood mvX13_isGood cb10 kModel q_2387 ⟨rfl, rfl, Nat.le_of_ble_eq_true rfl, Nat.le_of_ble_eq_true rfl⟩ rfl rfl (Nat.le_of_ble_eq_true rfl) ⟨Nat.le_of_ble_eq_true rfl, Nat.le_of_ble_eq_true rfl⟩ dX13_command_89 (t := 92) rfl rfl ?_
    refine J_ifZ_ne (tgt := 96) hX dX13_command_92 (by decide) (t := 95) rfl (fun z => ?_) (fun z => ?_)
    · replace hF := it_t hF z
      refine J_aload_n hX dX13_command_96 1 rfl (t := 97) rfl ?_
      refine J_dup hX dX13_command_97 rfl (t := 98) rfl ?_
      refine J_get hX cb10 kModel 28 (by decide) q_1995 rfl dX13_command_98 (t := 101) rfl ?_
      refine J_iconst (v := 1) hX dX13_command_101 (by decide) (t := 102) rfl ?_
      refine J_iadd hX dX13_command_102 (t := 103) rfl ?_
      obtain ⟨w21, e22, hF⟩ := bnd_e hF
      refine J_puti hX cb10 kModel 28 (by decide) q_1995 rfl rfl e22 (fun _ _ => Nat.le_of_ble_eq_true rfl) (fun _ _ => rfl) dX13_command_103 (t := 106) rfl ?_
      refine J_aload_n hX dX13_command_106 1 rfl (t := 107) rfl ?_
      refine J_dup hX dX13_command_107 rfl (t := 108) rfl ?_
      refine J_get hX cb10 kModel 30 (by decide) q_1997 rfl dX13_command_108 (t := 111) rfl ?_
      refine J_iload_n hX dX13_command_111 2 rfl (t := 112) rfl ?_
      refine J_bipush (v := 7) hX dX13_command_112 (by decide) (t := 114) rfl ?_
      refine J_icmp_ne (tgt := 121) hX dX13_command_114 (by decide) (t := 117) rfl (fun z => ?_) (fun z => ?_)
      · replace hF := it_f hF z
        refine J_iconst (v := 0) hX dX13_command_121 (by decide) (t := 122) rfl ?_
        obtain ⟨x24, h23, hF⟩ := bnd_e hF
        have k25 := (ctX13_truth (l := l) (G := G) (w := w21) false h23)
        refine J_callS hX [.int (bI false)] [.int ((w21 15).1 0 30), .ref (adr G 15 0)] [.int x24, .int ((w21 15).1 0 30), .ref (adr G 15 0)] k25 miX13_truth q_2083 q_2082 ⟨rfl, rfl, Nat.le_of_ble_eq_true rfl, Nat.le_of_ble_eq_true rfl⟩ rfl rfl (Nat.le_of_ble_eq_true rfl) ⟨Nat.le_of_ble_eq_true rfl, Nat.le_of_ble_eq_true rfl⟩ dX13_command_122 (t := 125) rfl rfl ?_
        refine J_iadd hX dX13_command_125 (t := 126) rfl ?_
        obtain ⟨w26, e27, hF⟩ := bnd_e hF
        refine J_puti hX cb10 kModel 30 (by decide) q_1997 rfl rfl e27 (fun _ _ => Nat.le_of_ble_eq_true rfl) (fun _ _ => rfl) dX13_command_126 (t := 129) rfl ?_
        replace hF := Option.some.inj hF
        subst hF
        exact J_vret hX hR hlk dX13_command_129
      · replace hF := it_t hF z
        refine J_iconst (v := 1) hX dX13_command_117 (by decide) (t := 118) rfl ?_
        refine J_goto (tgt := 122) hX dX13_command_118 (by decide) ?_
        obtain ⟨x29, h28, hF⟩ := bnd_e hF
        have k30 := (ctX13_truth (l := l) (G := G) (w := w21) true h28)
        refine J_callS hX [.int (bI true)] [.int ((w21 15).1 0 30), .ref (adr G 15 0)] [.int x29, .int ((w21 15).1 0 30), .ref (adr G 15 0)] k30 miX13_truth q_2083 q_2082 ⟨rfl, rfl, Nat.le_of_ble_eq_true rfl, Nat.le_of_ble_eq_true rfl⟩ rfl rfl (Nat.le_of_ble_eq_true rfl) ⟨Nat.le_of_ble_eq_true rfl, Nat.le_of_ble_eq_true rfl⟩ dX13_command_122 (t := 125) rfl rfl ?_
        refine J_iadd hX dX13_command_125 (t := 126) rfl ?_
        obtain ⟨w31, e32, hF⟩ := bnd_e hF
        refine J_puti hX cb10 kModel 30 (by decide) q_1997 rfl rfl e32 (fun _ _ => Nat.le_of_ble_eq_true rfl) (fun _ _ => rfl) dX13_command_126 (t := 129) rfl ?_
        replace hF := Option.some.inj hF
        subst hF
        exact J_vret hX hR hlk dX13_command_129
    · replace hF := ib_f hF z
      replace hF := Option.some.inj hF
      subst hF
      exact J_vret hX hR hlk dX13_command_95
  · replace hF := ib_f hF z
    replace hF := Option.some.inj hF
    subst hF
    exact J_vret hX hR hlk dX13_command_55
def FX13_command_B34 (n : Nat) (w : Wd) (l1 : Int32) : Option (Wd) :=
  if (w 15).1 0 29 = 30 then
    bnd (FX13_wrong w 5) fun w34 =>
    FX13_command_B48 n w34 l1
  else
    FX13_command_B48 n w l1
set_option maxHeartbeats 4000000 in
set_option maxRecDepth 100000 in
theorem BX13_command_34 {G : GG} {l : Launch} {p : Program} {e : Env} {s : State} {m : MethodId} {args : Array Value} {below : List Frame} {meth : Method} {c : Code} (hX : FX G RX13 cX13_command 3 p s m args c) (hR : meth.sig.returnType = none) (hlk : meth.locks = false) {rw : Wd} (n : Nat) (w : Wd) (l1 : Int32)  (hF : FX13_command_B34 n w l1 = some rw) : J G p l e rmX13_command s m args below meth c 3 0 0 (MQ below (QV G (none) rw) args s 0 0 (gA G)) (GH G w) 34 [(0, .ref (adr G 15 0)), (1, .int l1)] [] := by
  unfold FX13_command_B34 at hF
  refine J_aload_n hX dX13_command_34 0 rfl (t := 35) rfl ?_
  refine J_get hX cb10 kModel 29 (by decide) q_1996 rfl dX13_command_35 (t := 38) rfl ?_
  refine J_bipush (v := 30) hX dX13_command_38 (by decide) (t := 40) rfl ?_
  refine J_icmp_ne (tgt := 48) hX dX13_command_40 (by decide) (t := 43) rfl (fun z => ?_) (fun z => ?_)
  · replace hF := it_f hF z
    refine J_sub (lc2 := [(0, .ref (adr G 15 0)), (1, .int l1)]) [0, 1] rfl ?_
    exact BX13_command_48 hX hR hlk n w l1 hF
  · replace hF := it_t hF z
    refine J_aload_n hX dX13_command_43 0 rfl (t := 44) rfl ?_
    refine J_iconst (v := 5) hX dX13_command_44 (by decide) (t := 45) rfl ?_
    obtain ⟨w34, h33, hF⟩ := bnd_e hF
    have k35 := (ctX13_wrong (G := G) (l := l) w 5 h33)
    refine J_callV hX [.int 5] [] [] k35 miX13_wrong mvX13_wrong cb10 kModel q_2395 ⟨rfl, rfl, Nat.le_of_ble_eq_true rfl, Nat.le_of_ble_eq_true rfl⟩ rfl rfl (Nat.le_of_ble_eq_true rfl) ⟨Nat.le_of_ble_eq_true rfl, Nat.le_of_ble_eq_true rfl⟩ dX13_command_45 (t := 48) rfl rfl ?_
    refine J_sub (lc2 := [(0, .ref (adr G 15 0)), (1, .int l1)]) [0, 1] rfl ?_
    exact BX13_command_48 hX hR hlk n w34 l1 hF
def FX13_command_B15 (n : Nat) (w : Wd) (l1 : Int32) : Option (Wd) :=
  if l1 = 7 then
    if (w 15).1 0 30 = 2 then
      bnd (FX13_wrong w 3) fun w37 =>
      FX13_command_B34 n w37 l1
    else
      FX13_command_B34 n w l1
  else
    FX13_command_B34 n w l1
set_option maxHeartbeats 4000000 in
set_option maxRecDepth 100000 in
theorem BX13_command_15 {G : GG} {l : Launch} {p : Program} {e : Env} {s : State} {m : MethodId} {args : Array Value} {below : List Frame} {meth : Method} {c : Code} (hX : FX G RX13 cX13_command 3 p s m args c) (hR : meth.sig.returnType = none) (hlk : meth.locks = false) {rw : Wd} (n : Nat) (w : Wd) (l1 : Int32)  (hF : FX13_command_B15 n w l1 = some rw) : J G p l e rmX13_command s m args below meth c 3 0 0 (MQ below (QV G (none) rw) args s 0 0 (gA G)) (GH G w) 15 [(0, .ref (adr G 15 0)), (1, .int l1)] [] := by
  unfold FX13_command_B15 at hF
  refine J_iload_n hX dX13_command_15 1 rfl (t := 16) rfl ?_
  refine J_bipush (v := 7) hX dX13_command_16 (by decide) (t := 18) rfl ?_
  refine J_icmp_ne (tgt := 34) hX dX13_command_18 (by decide) (t := 21) rfl (fun z => ?_) (fun z => ?_)
  · replace hF := it_f hF z
    refine J_sub (lc2 := [(0, .ref (adr G 15 0)), (1, .int l1)]) [0, 1] rfl ?_
    exact BX13_command_34 hX hR hlk n w l1 hF
  · replace hF := it_t hF z
    refine J_aload_n hX dX13_command_21 0 rfl (t := 22) rfl ?_
    refine J_get hX cb10 kModel 30 (by decide) q_1997 rfl dX13_command_22 (t := 25) rfl ?_
    refine J_iconst (v := 2) hX dX13_command_25 (by decide) (t := 26) rfl ?_
    refine J_icmp_ne (tgt := 34) hX dX13_command_26 (by decide) (t := 29) rfl (fun z => ?_) (fun z => ?_)
    · replace hF := it_f hF z
      refine J_sub (lc2 := [(0, .ref (adr G 15 0)), (1, .int l1)]) [0, 1] rfl ?_
      exact BX13_command_34 hX hR hlk n w l1 hF
    · replace hF := it_t hF z
      refine J_aload_n hX dX13_command_29 0 rfl (t := 30) rfl ?_
      refine J_iconst (v := 3) hX dX13_command_30 (by decide) (t := 31) rfl ?_
      obtain ⟨w37, h36, hF⟩ := bnd_e hF
      have k38 := (ctX13_wrong (G := G) (l := l) w 3 h36)
      refine J_callV hX [.int 3] [] [] k38 miX13_wrong mvX13_wrong cb10 kModel q_2395 ⟨rfl, rfl, Nat.le_of_ble_eq_true rfl, Nat.le_of_ble_eq_true rfl⟩ rfl rfl (Nat.le_of_ble_eq_true rfl) ⟨Nat.le_of_ble_eq_true rfl, Nat.le_of_ble_eq_true rfl⟩ dX13_command_31 (t := 34) rfl rfl ?_
      refine J_sub (lc2 := [(0, .ref (adr G 15 0)), (1, .int l1)]) [0, 1] rfl ?_
      exact BX13_command_34 hX hR hlk n w37 l1 hF
def FX13_command (n : Nat) (w : Wd)  : Option (Wd) :=
  bnd (FX13_commandHere w) fun x2 =>
  if x2 = (-1) then
    bnd (FX13_wrong w 1) fun w40 =>
    FX13_command_B15 n w40 x2
  else
    FX13_command_B15 n w x2
set_option maxHeartbeats 4000000 in
set_option maxRecDepth 100000 in
theorem ctX13_command {G : GG} {l : Launch} (w : Wd)   (n : Nat) {rw : Wd} (hF : FX13_command n w  = some rw) : CT G l yX13_command cX13_command 3 none rmX13_command 0 0 [.ref (adr G 15 0)] w (none) rw := by
  refine CT.of miX13_command [(0, .ref (adr G 15 0))] rfl (Nat.le_of_ble_eq_true rfl) ?_
  intro p e s m args below meth c hX hR hlk
  have hX : FX G RX13 cX13_command 3 p s m args c := hX
  unfold FX13_command at hF
  refine J_aload_n hX dX13_command_0 0 rfl (t := 1) rfl ?_
  obtain ⟨x2, h1, hF⟩ := bnd_e hF
  have k3 := (ctX13_commandHere (G := G) (l := l) w  h1)
  refine J_callV hX [] [] [.int x2] k3 miX13_commandHere mvX13_commandHere cb10 kModel q_2767 ⟨rfl, rfl, Nat.le_of_ble_eq_true rfl, Nat.le_of_ble_eq_true rfl⟩ rfl rfl (Nat.le_of_ble_eq_true rfl) ⟨Nat.le_of_ble_eq_true rfl, Nat.le_of_ble_eq_true rfl⟩ dX13_command_1 (t := 4) rfl rfl ?_
  refine J_istore_n (lc2 := [(1, .int x2), (0, .ref (adr G 15 0))]) hX dX13_command_4 rfl (Nat.le_of_ble_eq_true rfl) rfl (t := 5) rfl ?_
  refine J_iload_n hX dX13_command_5 0 rfl (t := 6) rfl ?_
  refine J_iconst (v := (-1)) hX dX13_command_6 (by decide) (t := 7) rfl ?_
  refine J_icmp_ne (tgt := 15) hX dX13_command_7 (by decide) (t := 10) rfl (fun z => ?_) (fun z => ?_)
  · replace hF := it_f hF z
    refine J_sub (lc2 := [(0, .ref (adr G 15 0)), (1, .int x2)]) [1, 0] rfl ?_
    exact BX13_command_15 hX hR hlk n w x2 hF
  · replace hF := it_t hF z
    refine J_aload_n hX dX13_command_10 1 rfl (t := 11) rfl ?_
    refine J_iconst (v := 1) hX dX13_command_11 (by decide) (t := 12) rfl ?_
    obtain ⟨w40, h39, hF⟩ := bnd_e hF
    have k41 := (ctX13_wrong (G := G) (l := l) w 1 h39)
    refine J_callV hX [.int 1] [] [] k41 miX13_wrong mvX13_wrong cb10 kModel q_2395 ⟨rfl, rfl, Nat.le_of_ble_eq_true rfl, Nat.le_of_ble_eq_true rfl⟩ rfl rfl (Nat.le_of_ble_eq_true rfl) ⟨Nat.le_of_ble_eq_true rfl, Nat.le_of_ble_eq_true rfl⟩ dX13_command_12 (t := 15) rfl rfl ?_
    refine J_sub (lc2 := [(0, .ref (adr G 15 0)), (1, .int x2)]) [1, 0] rfl ?_
    exact BX13_command_15 hX hR hlk n w40 x2 hF
abbrev rmX13_closes : Room := { frames := 3, cells := 0, slots := 0, locals := 64 }
theorem miX13_closes : MI yX13_closes cX13_closes 1 none 0 := ⟨q_2780, q_152, by decide +kernel, by decide +kernel, by decide +kernel, by decide +kernel⟩
theorem mvX13_closes : MV yX13_closes := ⟨q_2779, q_125⟩
def FX13_closes_L0 (n : Nat) : Nat → Wd → Option (Wd)
  | 0 => fun _ => none
  | k + 1 => fun w  =>
    if (w 15).1 0 30 ≤ 0 then
      some w
    else
      bnd (FX13_isSign w 41) fun x2 =>
      if x2 = true then
        bnd (sW w 15 (sI (w 15) 0 30 (((w 15).1 0 30) - 1))) fun w4 =>
        gd (inb ((w4 15).1 0 28) 60) <| bnd (sW w4 15 (sI (w4 15) 7 (((w4 15).1 0 28).toNatClampNeg) 8)) fun w7 =>
        bnd (sW w7 15 (sI (w7 15) 0 28 (((w7 15).1 0 28) + 1))) fun w9 =>
        bo1 (FX13_goOnRead n w9) fun w12 =>
        bo1 (FX13_mustSign n w12 59) fun w15 =>
        FX13_closes_L0 n k w15 
      else
        some w
set_option maxHeartbeats 4000000 in
set_option maxRecDepth 100000 in
theorem LX13_closes_0 {G : GG} {l : Launch} {p : Program} {e : Env} {s : State} {m : MethodId} {args : Array Value} {below : List Frame} {meth : Method} {c : Code} (hX : FX G RX13 cX13_closes 1 p s m args c) (hR : meth.sig.returnType = none) (hlk : meth.locks = false) {rw : Wd} (n : Nat) : ∀ (k : Nat) (w : Wd)  , FX13_closes_L0 n k w  = some rw → J G p l e rmX13_closes s m args below meth c 1 0 0 (MQ below (QV G (none) rw) args s 0 0 (gA G)) (GH G w) 0 [(0, .ref (adr G 15 0))] [] := by
  intro k
  induction k with
  | zero => intro w   hF; cases hF
  | succ k ih =>
    intro w   hF
    simp only [FX13_closes_L0] at hF
    refine J_aload_n hX dX13_closes_0 0 rfl (t := 1) rfl ?_
    refine J_get hX cb10 kModel 30 (by decide) q_1997 rfl dX13_closes_1 (t := 4) rfl ?_
    refine J_if_le (tgt := 60) hX dX13_closes_4 (by decide) (t := 7) rfl (fun z => ?_) (fun z => ?_)
    · replace hF := it_t hF z
      replace hF := Option.some.inj hF
      subst hF
      exact J_vret hX hR hlk dX13_closes_60
    · replace hF := it_f hF z
      refine J_aload_n hX dX13_closes_7 0 rfl (t := 8) rfl ?_
      refine J_bipush (v := 41) hX dX13_closes_8 (by decide) (t := 10) rfl ?_
      obtain ⟨x2, h1, hF⟩ := bnd_e hF
      have k3 := (ctX13_isSign (G := G) (l := l) w 41 h1)
      refine J_callV hX [.int 41] [] [.int (bI x2)] k3 miX13_isSign mvX13_isSign cb10 kModel q_2403 ⟨rfl, rfl, Nat.le_of_ble_eq_true rfl, Nat.le_of_ble_eq_true rfl⟩ rfl rfl (Nat.le_of_ble_eq_true rfl) ⟨Nat.le_of_ble_eq_true rfl, Nat.le_of_ble_eq_true rfl⟩ dX13_closes_10 (t := 13) rfl rfl ?_
      refine J_ifZ_eq (tgt := 60) hX dX13_closes_13 (by decide) (t := 16) rfl (fun z => ?_) (fun z => ?_)
      · replace hF := ib_f hF z
        replace hF := Option.some.inj hF
        subst hF
        exact J_vret hX hR hlk dX13_closes_60
      · replace hF := it_t hF z
        refine J_aload_n hX dX13_closes_16 0 rfl (t := 17) rfl ?_
        refine J_dup hX dX13_closes_17 rfl (t := 18) rfl ?_
        refine J_get hX cb10 kModel 30 (by decide) q_1997 rfl dX13_closes_18 (t := 21) rfl ?_
        refine J_iconst (v := 1) hX dX13_closes_21 (by decide) (t := 22) rfl ?_
        refine J_isub hX dX13_closes_22 (t := 23) rfl ?_
        obtain ⟨w4, e5, hF⟩ := bnd_e hF
        refine J_puti hX cb10 kModel 30 (by decide) q_1997 rfl rfl e5 (fun _ _ => Nat.le_of_ble_eq_true rfl) (fun _ _ => rfl) dX13_closes_23 (t := 26) rfl ?_
        refine J_aload_n hX dX13_closes_26 0 rfl (t := 27) rfl ?_
        refine J_get hX cb10 kModel 21 (by decide) q_1988 rfl dX13_closes_27 (t := 30) rfl ?_
        refine J_aload_n hX dX13_closes_30 0 rfl (t := 31) rfl ?_
        refine J_get hX cb10 kModel 28 (by decide) q_1995 rfl dX13_closes_31 (t := 34) rfl ?_
        refine J_bipush (v := 8) hX dX13_closes_34 (by decide) (t := 36) rfl ?_
        obtain ⟨g6, hF⟩ := gd_e hF
        obtain ⟨w7, e8, hF⟩ := bnd_e hF
        refine J_iast hX (kInts (j := 7) (n := 60) (by decide) (by decide) rfl) g6 rfl e8 dX13_closes_36 (t := 37) rfl ?_
        refine J_aload_n hX dX13_closes_37 0 rfl (t := 38) rfl ?_
        refine J_dup hX dX13_closes_38 rfl (t := 39) rfl ?_
        refine J_get hX cb10 kModel 28 (by decide) q_1995 rfl dX13_closes_39 (t := 42) rfl ?_
        refine J_iconst (v := 1) hX dX13_closes_42 (by decide) (t := 43) rfl ?_
        refine J_iadd hX dX13_closes_43 (t := 44) rfl ?_
        obtain ⟨w9, e10, hF⟩ := bnd_e hF
        refine J_puti hX cb10 kModel 28 (by decide) q_1995 rfl rfl e10 (fun _ _ => Nat.le_of_ble_eq_true rfl) (fun _ _ => rfl) dX13_closes_44 (t := 47) rfl ?_
        refine J_aload_n hX dX13_closes_47 0 rfl (t := 48) rfl ?_
        obtain ⟨w12, h11, hF⟩ := bo1_e hF
        have k13 := (ctX13_goOnRead (G := G) (l := l) w9  n h11)
        refine J_callV hX [] [] [] k13 miX13_goOnRead mvX13_goOnRead cb10 kModel q_2371 ⟨rfl, rfl, Nat.le_of_ble_eq_true rfl, Nat.le_of_ble_eq_true rfl⟩ rfl rfl (Nat.le_of_ble_eq_true rfl) ⟨Nat.le_of_ble_eq_true rfl, Nat.le_of_ble_eq_true rfl⟩ dX13_closes_48 (t := 51) rfl rfl ?_
        refine J_aload_n hX dX13_closes_51 0 rfl (t := 52) rfl ?_
        refine J_bipush (v := 59) hX dX13_closes_52 (by decide) (t := 54) rfl ?_
        obtain ⟨w15, h14, hF⟩ := bo1_e hF
        have k16 := (ctX13_mustSign (G := G) (l := l) w12 59 n h14)
        refine J_callV hX [.int 59] [] [] k16 miX13_mustSign mvX13_mustSign cb10 kModel q_2399 ⟨rfl, rfl, Nat.le_of_ble_eq_true rfl, Nat.le_of_ble_eq_true rfl⟩ rfl rfl (Nat.le_of_ble_eq_true rfl) ⟨Nat.le_of_ble_eq_true rfl, Nat.le_of_ble_eq_true rfl⟩ dX13_closes_54 (t := 57) rfl rfl ?_
        refine J_goto (tgt := 0) hX dX13_closes_57 (by decide) ?_
        refine J_sub (lc2 := [(0, .ref (adr G 15 0))]) [0] rfl ?_
        exact ih w15  hF
def FX13_closes (n : Nat) (w : Wd)  : Option (Wd) :=
  FX13_closes_L0 n n w 
set_option maxHeartbeats 4000000 in
set_option maxRecDepth 100000 in
theorem ctX13_closes {G : GG} {l : Launch} (w : Wd)   (n : Nat) {rw : Wd} (hF : FX13_closes n w  = some rw) : CT G l yX13_closes cX13_closes 1 none rmX13_closes 0 0 [.ref (adr G 15 0)] w (none) rw := by
  refine CT.of miX13_closes [(0, .ref (adr G 15 0))] rfl (Nat.le_of_ble_eq_true rfl) ?_
  intro p e s m args below meth c hX hR hlk
  have hX : FX G RX13 cX13_closes 1 p s m args c := hX
  unfold FX13_closes at hF
  refine J_sub (lc2 := [(0, .ref (adr G 15 0))]) [0] rfl ?_
  exact LX13_closes_0 hX hR hlk n n w  hF
abbrev rmX13_may : Room := { frames := 4, cells := 0, slots := 0, locals := 88 }
theorem miX13_may : MI yX13_may cX13_may 3 (some .boolean) 1 := ⟨q_2792, q_152, by decide +kernel, by decide +kernel, by decide +kernel, by decide +kernel⟩
theorem mvX13_may : MV yX13_may := ⟨q_2791, q_128⟩
def FX13_may (n : Nat) (w : Wd) (p1 : Int32) : Option (Bool) :=
  gd (inb p1 60) <|
  gd (inb p1 60) <|
  bnd ((w 15).1 7 p1.toNatClampNeg) fun s3 =>
  if s3 = 0 then
    gd (inb p1 60) <|
    bnd (FX13_isLoud ((w 15).1 10 p1.toNatClampNeg)) fun x7 =>
    if x7 = true then
      gd (inb p1 60) <|
      bnd (FX13_areWalls ((w 15).1 11 p1.toNatClampNeg)) fun x11 =>
      if x11 = true then
        gd (inb p1 60) <|
        gd (inb p1 60) <|
        bo1 (FX13_refuses n w ((w 15).1 8 p1.toNatClampNeg) ((w 15).1 9 p1.toNatClampNeg) ((w 15).1 11 p1.toNatClampNeg)) fun x16 =>
        if x16 = 0 then
          some true
        else
          some false
      else
        some false
    else
      some false
  else if s3 = 1 then
    gd (inb p1 60) <|
    bnd (FX13_isFog ((w 15).1 9 p1.toNatClampNeg)) fun x20 =>
    some x20
  else if s3 = 2 then
    gd (inb p1 60) <|
    bnd (FX13_isPrice ((w 15).1 9 p1.toNatClampNeg)) fun x24 =>
    some x24
  else if s3 = 3 then
    bnd (FX13_isDepth ((w 15).1 8 p1.toNatClampNeg)) fun x27 =>
    some x27
  else if s3 = 4 then
    bnd (FX13_isPatience ((w 15).1 8 p1.toNatClampNeg)) fun x30 =>
    if x30 = true then
      bo1 (FX13_mayPass w ((w 15).1 8 p1.toNatClampNeg)) fun x33 =>
      if x33 = true then
        some true
      else
        some false
    else
      some false
  else 
    bo1 (FX13_isOpen w ((w 15).1 8 p1.toNatClampNeg)) fun x36 =>
    some x36
set_option maxHeartbeats 4000000 in
set_option maxRecDepth 100000 in
theorem ctX13_may {G : GG} {l : Launch} (w : Wd) (p1 : Int32)  (n : Nat) {rx : Bool} (hF : FX13_may n w p1 = some rx) : CT G l yX13_may cX13_may 3 (some .boolean) rmX13_may 0 0 [.ref (adr G 15 0), .int p1] w (some (.int (bI rx))) w := by
  refine CT.of miX13_may [(0, .ref (adr G 15 0)), (1, .int p1)] rfl (Nat.le_of_ble_eq_true rfl) ?_
  intro p e s m args below meth c hX hR hlk
  have hX : FX G RX13 cX13_may 3 p s m args c := hX
  unfold FX13_may at hF
  refine J_aload_n hX dX13_may_0 0 rfl (t := 1) rfl ?_
  refine J_get hX cb10 kModel 22 (by decide) q_1989 rfl dX13_may_1 (t := 4) rfl ?_
  refine J_iload_n hX dX13_may_4 1 rfl (t := 5) rfl ?_
  obtain ⟨g1, hF⟩ := gd_e hF
  refine J_iald hX (kInts (j := 8) (n := 60) (by decide) (by decide) rfl) g1 rfl dX13_may_5 (t := 6) rfl ?_
  refine J_istore_n (lc2 := [(2, .int ((w 15).1 8 p1.toNatClampNeg)), (0, .ref (adr G 15 0)), (1, .int p1)]) hX dX13_may_6 rfl (Nat.le_of_ble_eq_true rfl) rfl (t := 7) rfl ?_
  refine J_aload_n hX dX13_may_7 1 rfl (t := 8) rfl ?_
  refine J_get hX cb10 kModel 21 (by decide) q_1988 rfl dX13_may_8 (t := 11) rfl ?_
  refine J_iload_n hX dX13_may_11 2 rfl (t := 12) rfl ?_
  obtain ⟨g2, hF⟩ := gd_e hF
  refine J_iald hX (kInts (j := 7) (n := 60) (by decide) (by decide) rfl) g2 rfl dX13_may_12 (t := 13) rfl ?_
  obtain ⟨s3, e4, hF⟩ := bnd_e hF
  refine J_val e4 ?_
  by_cases z0 : s3 = 0
  · replace hF := it_t hF z0
    refine J_tabIn (k := 0) (tgt := 48) hX dX13_may_13 z0 (by decide) (by decide) rfl (by decide) ?_
    refine J_aload_n hX dX13_may_48 1 rfl (t := 49) rfl ?_
    refine J_get hX cb10 kModel 24 (by decide) q_1991 rfl dX13_may_49 (t := 52) rfl ?_
    refine J_iload_n hX dX13_may_52 2 rfl (t := 53) rfl ?_
    obtain ⟨g5, hF⟩ := gd_e hF
    refine J_iald hX (kInts (j := 10) (n := 60) (by decide) (by decide) rfl) g5 rfl dX13_may_53 (t := 54) rfl ?_
    obtain ⟨x7, h6, hF⟩ := bnd_e hF
    have k8 := (ctX13_isLoud (l := l) (G := G) (w := w) ((w 15).1 10 p1.toNatClampNeg) h6)
    refine J_callS hX [.int ((w 15).1 10 p1.toNatClampNeg)] [] [.int (bI x7)] k8 miX13_isLoud q_2218 q_2217 ⟨rfl, rfl, Nat.le_of_ble_eq_true rfl, Nat.le_of_ble_eq_true rfl⟩ rfl rfl (Nat.le_of_ble_eq_true rfl) ⟨Nat.le_of_ble_eq_true rfl, Nat.le_of_ble_eq_true rfl⟩ dX13_may_54 (t := 57) rfl rfl ?_
    refine J_ifZ_eq (tgt := 96) hX dX13_may_57 (by decide) (t := 60) rfl (fun z => ?_) (fun z => ?_)
    · replace hF := ib_f hF z
      refine J_iconst (v := 0) hX dX13_may_96 (by decide) (t := 97) rfl ?_
      replace hF := Option.some.inj hF
      subst hF
      exact J_zret (b := false) hX hR hlk dX13_may_97
    · replace hF := it_t hF z
      refine J_aload_n hX dX13_may_60 1 rfl (t := 61) rfl ?_
      refine J_get hX cb10 kModel 25 (by decide) q_1992 rfl dX13_may_61 (t := 64) rfl ?_
      refine J_iload_n hX dX13_may_64 2 rfl (t := 65) rfl ?_
      obtain ⟨g9, hF⟩ := gd_e hF
      refine J_iald hX (kInts (j := 11) (n := 60) (by decide) (by decide) rfl) g9 rfl dX13_may_65 (t := 66) rfl ?_
      obtain ⟨x11, h10, hF⟩ := bnd_e hF
      have k12 := (ctX13_areWalls (l := l) (G := G) (w := w) ((w 15).1 11 p1.toNatClampNeg) h10)
      refine J_callS hX [.int ((w 15).1 11 p1.toNatClampNeg)] [] [.int (bI x11)] k12 miX13_areWalls q_2136 q_2135 ⟨rfl, rfl, Nat.le_of_ble_eq_true rfl, Nat.le_of_ble_eq_true rfl⟩ rfl rfl (Nat.le_of_ble_eq_true rfl) ⟨Nat.le_of_ble_eq_true rfl, Nat.le_of_ble_eq_true rfl⟩ dX13_may_66 (t := 69) rfl rfl ?_
      refine J_ifZ_eq (tgt := 96) hX dX13_may_69 (by decide) (t := 72) rfl (fun z => ?_) (fun z => ?_)
      · replace hF := ib_f hF z
        refine J_iconst (v := 0) hX dX13_may_96 (by decide) (t := 97) rfl ?_
        replace hF := Option.some.inj hF
        subst hF
        exact J_zret (b := false) hX hR hlk dX13_may_97
      · replace hF := it_t hF z
        refine J_aload_n hX dX13_may_72 1 rfl (t := 73) rfl ?_
        refine J_iload_n hX dX13_may_73 0 rfl (t := 74) rfl ?_
        refine J_aload_n hX dX13_may_74 1 rfl (t := 75) rfl ?_
        refine J_get hX cb10 kModel 23 (by decide) q_1990 rfl dX13_may_75 (t := 78) rfl ?_
        refine J_iload_n hX dX13_may_78 2 rfl (t := 79) rfl ?_
        obtain ⟨g13, hF⟩ := gd_e hF
        refine J_iald hX (kInts (j := 9) (n := 60) (by decide) (by decide) rfl) g13 rfl dX13_may_79 (t := 80) rfl ?_
        refine J_aload_n hX dX13_may_80 1 rfl (t := 81) rfl ?_
        refine J_get hX cb10 kModel 25 (by decide) q_1992 rfl dX13_may_81 (t := 84) rfl ?_
        refine J_iload_n hX dX13_may_84 2 rfl (t := 85) rfl ?_
        obtain ⟨g14, hF⟩ := gd_e hF
        refine J_iald hX (kInts (j := 11) (n := 60) (by decide) (by decide) rfl) g14 rfl dX13_may_85 (t := 86) rfl ?_
        obtain ⟨x16, h15, hF⟩ := bo1_e hF
        have k17 := (ctX13_refuses (G := G) (l := l) w ((w 15).1 8 p1.toNatClampNeg) ((w 15).1 9 p1.toNatClampNeg) ((w 15).1 11 p1.toNatClampNeg) n h15)
        refine J_callV hX [.int ((w 15).1 8 p1.toNatClampNeg), .int ((w 15).1 9 p1.toNatClampNeg), .int ((w 15).1 11 p1.toNatClampNeg)] [] [.int x16] k17 miX13_refuses mvX13_refuses cb10 kModel q_2221 ⟨rfl, rfl, Nat.le_of_ble_eq_true rfl, Nat.le_of_ble_eq_true rfl⟩ rfl rfl (Nat.le_of_ble_eq_true rfl) ⟨Nat.le_of_ble_eq_true rfl, Nat.le_of_ble_eq_true rfl⟩ dX13_may_86 (t := 89) rfl rfl ?_
        refine J_if_ne (tgt := 96) hX dX13_may_89 (by decide) (t := 92) rfl (fun z => ?_) (fun z => ?_)
        · replace hF := it_f hF z
          refine J_iconst (v := 0) hX dX13_may_96 (by decide) (t := 97) rfl ?_
          replace hF := Option.some.inj hF
          subst hF
          exact J_zret (b := false) hX hR hlk dX13_may_97
        · replace hF := it_t hF z
          refine J_iconst (v := 1) hX dX13_may_92 (by decide) (t := 93) rfl ?_
          refine J_goto (tgt := 97) hX dX13_may_93 (by decide) ?_
          replace hF := Option.some.inj hF
          subst hF
          exact J_zret (b := true) hX hR hlk dX13_may_97
  · replace hF := it_f hF z0
    by_cases z1 : s3 = 1
    · replace hF := it_t hF z1
      refine J_tabIn (k := 1) (tgt := 98) hX dX13_may_13 z1 (by decide) (by decide) rfl (by decide) ?_
      refine J_aload_n hX dX13_may_98 1 rfl (t := 99) rfl ?_
      refine J_get hX cb10 kModel 23 (by decide) q_1990 rfl dX13_may_99 (t := 102) rfl ?_
      refine J_iload_n hX dX13_may_102 2 rfl (t := 103) rfl ?_
      obtain ⟨g18, hF⟩ := gd_e hF
      refine J_iald hX (kInts (j := 9) (n := 60) (by decide) (by decide) rfl) g18 rfl dX13_may_103 (t := 104) rfl ?_
      obtain ⟨x20, h19, hF⟩ := bnd_e hF
      have k21 := (ctX13_isFog (l := l) (G := G) (w := w) ((w 15).1 9 p1.toNatClampNeg) h19)
      refine J_callS hX [.int ((w 15).1 9 p1.toNatClampNeg)] [] [.int (bI x20)] k21 miX13_isFog q_2309 q_2308 ⟨rfl, rfl, Nat.le_of_ble_eq_true rfl, Nat.le_of_ble_eq_true rfl⟩ rfl rfl (Nat.le_of_ble_eq_true rfl) ⟨Nat.le_of_ble_eq_true rfl, Nat.le_of_ble_eq_true rfl⟩ dX13_may_104 (t := 107) rfl rfl ?_
      replace hF := Option.some.inj hF
      subst hF
      exact J_zret (b := x20) hX hR hlk dX13_may_107
    · replace hF := it_f hF z1
      by_cases z2 : s3 = 2
      · replace hF := it_t hF z2
        refine J_tabIn (k := 2) (tgt := 108) hX dX13_may_13 z2 (by decide) (by decide) rfl (by decide) ?_
        refine J_aload_n hX dX13_may_108 1 rfl (t := 109) rfl ?_
        refine J_get hX cb10 kModel 23 (by decide) q_1990 rfl dX13_may_109 (t := 112) rfl ?_
        refine J_iload_n hX dX13_may_112 2 rfl (t := 113) rfl ?_
        obtain ⟨g22, hF⟩ := gd_e hF
        refine J_iald hX (kInts (j := 9) (n := 60) (by decide) (by decide) rfl) g22 rfl dX13_may_113 (t := 114) rfl ?_
        obtain ⟨x24, h23, hF⟩ := bnd_e hF
        have k25 := (ctX13_isPrice (l := l) (G := G) (w := w) ((w 15).1 9 p1.toNatClampNeg) h23)
        refine J_callS hX [.int ((w 15).1 9 p1.toNatClampNeg)] [] [.int (bI x24)] k25 miX13_isPrice q_2140 q_2139 ⟨rfl, rfl, Nat.le_of_ble_eq_true rfl, Nat.le_of_ble_eq_true rfl⟩ rfl rfl (Nat.le_of_ble_eq_true rfl) ⟨Nat.le_of_ble_eq_true rfl, Nat.le_of_ble_eq_true rfl⟩ dX13_may_114 (t := 117) rfl rfl ?_
        replace hF := Option.some.inj hF
        subst hF
        exact J_zret (b := x24) hX hR hlk dX13_may_117
      · replace hF := it_f hF z2
        by_cases z3 : s3 = 3
        · replace hF := it_t hF z3
          refine J_tabIn (k := 3) (tgt := 118) hX dX13_may_13 z3 (by decide) (by decide) rfl (by decide) ?_
          refine J_iload_n hX dX13_may_118 0 rfl (t := 119) rfl ?_
          obtain ⟨x27, h26, hF⟩ := bnd_e hF
          have k28 := (ctX13_isDepth (l := l) (G := G) (w := w) ((w 15).1 8 p1.toNatClampNeg) h26)
          refine J_callS hX [.int ((w 15).1 8 p1.toNatClampNeg)] [] [.int (bI x27)] k28 miX13_isDepth q_2325 q_2324 ⟨rfl, rfl, Nat.le_of_ble_eq_true rfl, Nat.le_of_ble_eq_true rfl⟩ rfl rfl (Nat.le_of_ble_eq_true rfl) ⟨Nat.le_of_ble_eq_true rfl, Nat.le_of_ble_eq_true rfl⟩ dX13_may_119 (t := 122) rfl rfl ?_
          replace hF := Option.some.inj hF
          subst hF
          exact J_zret (b := x27) hX hR hlk dX13_may_122
        · replace hF := it_f hF z3
          by_cases z4 : s3 = 4
          · replace hF := it_t hF z4
            refine J_tabIn (k := 4) (tgt := 123) hX dX13_may_13 z4 (by decide) (by decide) rfl (by decide) ?_
            refine J_iload_n hX dX13_may_123 0 rfl (t := 124) rfl ?_
            obtain ⟨x30, h29, hF⟩ := bnd_e hF
            have k31 := (ctX13_isPatience (l := l) (G := G) (w := w) ((w 15).1 8 p1.toNatClampNeg) h29)
            refine J_callS hX [.int ((w 15).1 8 p1.toNatClampNeg)] [] [.int (bI x30)] k31 miX13_isPatience q_2194 q_2193 ⟨rfl, rfl, Nat.le_of_ble_eq_true rfl, Nat.le_of_ble_eq_true rfl⟩ rfl rfl (Nat.le_of_ble_eq_true rfl) ⟨Nat.le_of_ble_eq_true rfl, Nat.le_of_ble_eq_true rfl⟩ dX13_may_124 (t := 127) rfl rfl ?_
            refine J_ifZ_eq (tgt := 142) hX dX13_may_127 (by decide) (t := 130) rfl (fun z => ?_) (fun z => ?_)
            · replace hF := ib_f hF z
              refine J_iconst (v := 0) hX dX13_may_142 (by decide) (t := 143) rfl ?_
              replace hF := Option.some.inj hF
              subst hF
              exact J_zret (b := false) hX hR hlk dX13_may_143
            · replace hF := it_t hF z
              refine J_aload_n hX dX13_may_130 1 rfl (t := 131) rfl ?_
              refine J_iload_n hX dX13_may_131 0 rfl (t := 132) rfl ?_
              obtain ⟨x33, h32, hF⟩ := bo1_e hF
              have k34 := (ctX13_mayPass (G := G) (l := l) w ((w 15).1 8 p1.toNatClampNeg) h32)
              refine J_callV hX [.int ((w 15).1 8 p1.toNatClampNeg)] [] [.int (bI x33)] k34 miX13_mayPass mvX13_mayPass cb10 kModel q_2331 ⟨rfl, rfl, Nat.le_of_ble_eq_true rfl, Nat.le_of_ble_eq_true rfl⟩ rfl rfl (Nat.le_of_ble_eq_true rfl) ⟨Nat.le_of_ble_eq_true rfl, Nat.le_of_ble_eq_true rfl⟩ dX13_may_132 (t := 135) rfl rfl ?_
              refine J_ifZ_eq (tgt := 142) hX dX13_may_135 (by decide) (t := 138) rfl (fun z => ?_) (fun z => ?_)
              · replace hF := ib_f hF z
                refine J_iconst (v := 0) hX dX13_may_142 (by decide) (t := 143) rfl ?_
                replace hF := Option.some.inj hF
                subst hF
                exact J_zret (b := false) hX hR hlk dX13_may_143
              · replace hF := it_t hF z
                refine J_iconst (v := 1) hX dX13_may_138 (by decide) (t := 139) rfl ?_
                refine J_goto (tgt := 143) hX dX13_may_139 (by decide) ?_
                replace hF := Option.some.inj hF
                subst hF
                exact J_zret (b := true) hX hR hlk dX13_may_143
          · replace hF := it_f hF z4
            refine J_tabOut (tgt := 144) hX dX13_may_13 (tab_out5_0 z0 z1 z2 z3 z4) (by decide) ?_
            refine J_aload_n hX dX13_may_144 1 rfl (t := 145) rfl ?_
            refine J_iload_n hX dX13_may_145 0 rfl (t := 146) rfl ?_
            obtain ⟨x36, h35, hF⟩ := bo1_e hF
            have k37 := (ctX13_isOpen (G := G) (l := l) w ((w 15).1 8 p1.toNatClampNeg) h35)
            refine J_callV hX [.int ((w 15).1 8 p1.toNatClampNeg)] [] [.int (bI x36)] k37 miX13_isOpen mvX13_isOpen cb10 kModel q_2264 ⟨rfl, rfl, Nat.le_of_ble_eq_true rfl, Nat.le_of_ble_eq_true rfl⟩ rfl rfl (Nat.le_of_ble_eq_true rfl) ⟨Nat.le_of_ble_eq_true rfl, Nat.le_of_ble_eq_true rfl⟩ dX13_may_146 (t := 149) rfl rfl ?_
            replace hF := Option.some.inj hF
            subst hF
            exact J_zret (b := x36) hX hR hlk dX13_may_149
abbrev rmX13_does : Room := { frames := 8, cells := 0, slots := 0, locals := 175 }
theorem miX13_does : MI yX13_does cX13_does 3 (some .int) 1 := ⟨q_2796, q_152, by decide +kernel, by decide +kernel, by decide +kernel, by decide +kernel⟩
theorem mvX13_does : MV yX13_does := ⟨q_2795, q_129⟩
def FX13_does (n : Nat) (w : Wd) (p1 : Int32) : Option (Int32 × Wd) :=
  gd (inb p1 60) <|
  gd (inb p1 60) <|
  bnd ((w 15).1 7 p1.toNatClampNeg) fun s3 =>
  if s3 = 0 then
    gd (inb p1 60) <|
    gd (inb p1 60) <|
    gd (inb p1 60) <|
    bo2 (FX13_sells w ((w 15).1 8 p1.toNatClampNeg) ((w 15).1 9 p1.toNatClampNeg) ((w 15).1 10 p1.toNatClampNeg) ((w 15).1 11 p1.toNatClampNeg)) fun x9 w10 =>
    some (x9, w10)
  else if s3 = 1 then
    bnd (FX13_vly ((w 15).1 8 p1.toNatClampNeg)) fun x13 =>
    gd (inb p1 60) <|
    bo2 (FX13_sets w (x13 + 3) ((w 15).1 9 p1.toNatClampNeg)) fun x17 w18 =>
    some (x17, w18)
  else if s3 = 2 then
    bnd (FX13_vly ((w 15).1 8 p1.toNatClampNeg)) fun x21 =>
    gd (inb p1 60) <|
    bo2 (FX13_sets w (x21 + 2) ((w 15).1 9 p1.toNatClampNeg)) fun x25 w26 =>
    some (x25, w26)
  else if s3 = 3 then
    bo2 (FX13_sets w 6 ((w 15).1 8 p1.toNatClampNeg)) fun x29 w30 =>
    some (x29, w30)
  else if s3 = 4 then
    bo2 (FX13_passes n w ((w 15).1 8 p1.toNatClampNeg)) fun x33 w34 =>
    some (x33, w34)
  else if s3 = 5 then
    bo2 (FX13_fakes n w ((w 15).1 8 p1.toNatClampNeg)) fun x37 w38 =>
    some (x37, w38)
  else 
    bo2 (FX13_cancels w ((w 15).1 8 p1.toNatClampNeg)) fun x41 w42 =>
    some (x41, w42)
set_option maxHeartbeats 4000000 in
set_option maxRecDepth 100000 in
theorem ctX13_does {G : GG} {l : Launch} (w : Wd) (p1 : Int32)  (n : Nat) {rx : Int32} {rw : Wd} (hF : FX13_does n w p1 = some (rx, rw)) : CT G l yX13_does cX13_does 3 (some .int) rmX13_does 0 0 [.ref (adr G 15 0), .int p1] w (some (.int rx)) rw := by
  refine CT.of miX13_does [(0, .ref (adr G 15 0)), (1, .int p1)] rfl (Nat.le_of_ble_eq_true rfl) ?_
  intro p e s m args below meth c hX hR hlk
  have hX : FX G RX13 cX13_does 3 p s m args c := hX
  unfold FX13_does at hF
  refine J_aload_n hX dX13_does_0 0 rfl (t := 1) rfl ?_
  refine J_get hX cb10 kModel 22 (by decide) q_1989 rfl dX13_does_1 (t := 4) rfl ?_
  refine J_iload_n hX dX13_does_4 1 rfl (t := 5) rfl ?_
  obtain ⟨g1, hF⟩ := gd_e hF
  refine J_iald hX (kInts (j := 8) (n := 60) (by decide) (by decide) rfl) g1 rfl dX13_does_5 (t := 6) rfl ?_
  refine J_istore_n (lc2 := [(2, .int ((w 15).1 8 p1.toNatClampNeg)), (0, .ref (adr G 15 0)), (1, .int p1)]) hX dX13_does_6 rfl (Nat.le_of_ble_eq_true rfl) rfl (t := 7) rfl ?_
  refine J_aload_n hX dX13_does_7 1 rfl (t := 8) rfl ?_
  refine J_get hX cb10 kModel 21 (by decide) q_1988 rfl dX13_does_8 (t := 11) rfl ?_
  refine J_iload_n hX dX13_does_11 2 rfl (t := 12) rfl ?_
  obtain ⟨g2, hF⟩ := gd_e hF
  refine J_iald hX (kInts (j := 7) (n := 60) (by decide) (by decide) rfl) g2 rfl dX13_does_12 (t := 13) rfl ?_
  obtain ⟨s3, e4, hF⟩ := bnd_e hF
  refine J_val e4 ?_
  by_cases z0 : s3 = 0
  · replace hF := it_t hF z0
    refine J_tabIn (k := 0) (tgt := 52) hX dX13_does_13 z0 (by decide) (by decide) rfl (by decide) ?_
    refine J_aload_n hX dX13_does_52 1 rfl (t := 53) rfl ?_
    refine J_iload_n hX dX13_does_53 0 rfl (t := 54) rfl ?_
    refine J_aload_n hX dX13_does_54 1 rfl (t := 55) rfl ?_
    refine J_get hX cb10 kModel 23 (by decide) q_1990 rfl dX13_does_55 (t := 58) rfl ?_
    refine J_iload_n hX dX13_does_58 2 rfl (t := 59) rfl ?_
    obtain ⟨g5, hF⟩ := gd_e hF
    refine J_iald hX (kInts (j := 9) (n := 60) (by decide) (by decide) rfl) g5 rfl dX13_does_59 (t := 60) rfl ?_
    refine J_aload_n hX dX13_does_60 1 rfl (t := 61) rfl ?_
    refine J_get hX cb10 kModel 24 (by decide) q_1991 rfl dX13_does_61 (t := 64) rfl ?_
    refine J_iload_n hX dX13_does_64 2 rfl (t := 65) rfl ?_
    obtain ⟨g6, hF⟩ := gd_e hF
    refine J_iald hX (kInts (j := 10) (n := 60) (by decide) (by decide) rfl) g6 rfl dX13_does_65 (t := 66) rfl ?_
    refine J_aload_n hX dX13_does_66 1 rfl (t := 67) rfl ?_
    refine J_get hX cb10 kModel 25 (by decide) q_1992 rfl dX13_does_67 (t := 70) rfl ?_
    refine J_iload_n hX dX13_does_70 2 rfl (t := 71) rfl ?_
    obtain ⟨g7, hF⟩ := gd_e hF
    refine J_iald hX (kInts (j := 11) (n := 60) (by decide) (by decide) rfl) g7 rfl dX13_does_71 (t := 72) rfl ?_
    obtain ⟨x9, w10, h8, hF⟩ := bo2_e hF
    have k11 := (ctX13_sells (G := G) (l := l) w ((w 15).1 8 p1.toNatClampNeg) ((w 15).1 9 p1.toNatClampNeg) ((w 15).1 10 p1.toNatClampNeg) ((w 15).1 11 p1.toNatClampNeg) h8)
    refine J_callV hX [.int ((w 15).1 8 p1.toNatClampNeg), .int ((w 15).1 9 p1.toNatClampNeg), .int ((w 15).1 10 p1.toNatClampNeg), .int ((w 15).1 11 p1.toNatClampNeg)] [] [.int x9] k11 miX13_sells mvX13_sells cb10 kModel q_2252 ⟨rfl, rfl, Nat.le_of_ble_eq_true rfl, Nat.le_of_ble_eq_true rfl⟩ rfl rfl (Nat.le_of_ble_eq_true rfl) ⟨Nat.le_of_ble_eq_true rfl, Nat.le_of_ble_eq_true rfl⟩ dX13_does_72 (t := 75) rfl rfl ?_
    replace hF := Option.some.inj hF
    obtain ⟨hF, hF2⟩ := Prod.mk.inj hF
    subst hF
    subst hF2
    exact J_iret hX hR hlk dX13_does_75
  · replace hF := it_f hF z0
    by_cases z1 : s3 = 1
    · replace hF := it_t hF z1
      refine J_tabIn (k := 1) (tgt := 76) hX dX13_does_13 z1 (by decide) (by decide) rfl (by decide) ?_
      refine J_aload_n hX dX13_does_76 1 rfl (t := 77) rfl ?_
      refine J_iload_n hX dX13_does_77 0 rfl (t := 78) rfl ?_
      obtain ⟨x13, h12, hF⟩ := bnd_e hF
      have k14 := (ctX13_vly (l := l) (G := G) (w := w) ((w 15).1 8 p1.toNatClampNeg) h12)
      refine J_callS hX [.int ((w 15).1 8 p1.toNatClampNeg)] [.ref (adr G 15 0)] [.int x13, .ref (adr G 15 0)] k14 miX13_vly q_2155 q_2154 ⟨rfl, rfl, Nat.le_of_ble_eq_true rfl, Nat.le_of_ble_eq_true rfl⟩ rfl rfl (Nat.le_of_ble_eq_true rfl) ⟨Nat.le_of_ble_eq_true rfl, Nat.le_of_ble_eq_true rfl⟩ dX13_does_78 (t := 81) rfl rfl ?_
      refine J_iconst (v := 3) hX dX13_does_81 (by decide) (t := 82) rfl ?_
      refine J_iadd hX dX13_does_82 (t := 83) rfl ?_
      refine J_aload_n hX dX13_does_83 1 rfl (t := 84) rfl ?_
      refine J_get hX cb10 kModel 23 (by decide) q_1990 rfl dX13_does_84 (t := 87) rfl ?_
      refine J_iload_n hX dX13_does_87 2 rfl (t := 88) rfl ?_
      obtain ⟨g15, hF⟩ := gd_e hF
      refine J_iald hX (kInts (j := 9) (n := 60) (by decide) (by decide) rfl) g15 rfl dX13_does_88 (t := 89) rfl ?_
      obtain ⟨x17, w18, h16, hF⟩ := bo2_e hF
      have k19 := (ctX13_sets (G := G) (l := l) w (x13 + 3) ((w 15).1 9 p1.toNatClampNeg) h16)
      refine J_callV hX [.int (x13 + 3), .int ((w 15).1 9 p1.toNatClampNeg)] [] [.int x17] k19 miX13_sets mvX13_sets cb10 kModel q_2312 ⟨rfl, rfl, Nat.le_of_ble_eq_true rfl, Nat.le_of_ble_eq_true rfl⟩ rfl rfl (Nat.le_of_ble_eq_true rfl) ⟨Nat.le_of_ble_eq_true rfl, Nat.le_of_ble_eq_true rfl⟩ dX13_does_89 (t := 92) rfl rfl ?_
      replace hF := Option.some.inj hF
      obtain ⟨hF, hF2⟩ := Prod.mk.inj hF
      subst hF
      subst hF2
      exact J_iret hX hR hlk dX13_does_92
    · replace hF := it_f hF z1
      by_cases z2 : s3 = 2
      · replace hF := it_t hF z2
        refine J_tabIn (k := 2) (tgt := 93) hX dX13_does_13 z2 (by decide) (by decide) rfl (by decide) ?_
        refine J_aload_n hX dX13_does_93 1 rfl (t := 94) rfl ?_
        refine J_iload_n hX dX13_does_94 0 rfl (t := 95) rfl ?_
        obtain ⟨x21, h20, hF⟩ := bnd_e hF
        have k22 := (ctX13_vly (l := l) (G := G) (w := w) ((w 15).1 8 p1.toNatClampNeg) h20)
        refine J_callS hX [.int ((w 15).1 8 p1.toNatClampNeg)] [.ref (adr G 15 0)] [.int x21, .ref (adr G 15 0)] k22 miX13_vly q_2155 q_2154 ⟨rfl, rfl, Nat.le_of_ble_eq_true rfl, Nat.le_of_ble_eq_true rfl⟩ rfl rfl (Nat.le_of_ble_eq_true rfl) ⟨Nat.le_of_ble_eq_true rfl, Nat.le_of_ble_eq_true rfl⟩ dX13_does_95 (t := 98) rfl rfl ?_
        refine J_iconst (v := 2) hX dX13_does_98 (by decide) (t := 99) rfl ?_
        refine J_iadd hX dX13_does_99 (t := 100) rfl ?_
        refine J_aload_n hX dX13_does_100 1 rfl (t := 101) rfl ?_
        refine J_get hX cb10 kModel 23 (by decide) q_1990 rfl dX13_does_101 (t := 104) rfl ?_
        refine J_iload_n hX dX13_does_104 2 rfl (t := 105) rfl ?_
        obtain ⟨g23, hF⟩ := gd_e hF
        refine J_iald hX (kInts (j := 9) (n := 60) (by decide) (by decide) rfl) g23 rfl dX13_does_105 (t := 106) rfl ?_
        obtain ⟨x25, w26, h24, hF⟩ := bo2_e hF
        have k27 := (ctX13_sets (G := G) (l := l) w (x21 + 2) ((w 15).1 9 p1.toNatClampNeg) h24)
        refine J_callV hX [.int (x21 + 2), .int ((w 15).1 9 p1.toNatClampNeg)] [] [.int x25] k27 miX13_sets mvX13_sets cb10 kModel q_2312 ⟨rfl, rfl, Nat.le_of_ble_eq_true rfl, Nat.le_of_ble_eq_true rfl⟩ rfl rfl (Nat.le_of_ble_eq_true rfl) ⟨Nat.le_of_ble_eq_true rfl, Nat.le_of_ble_eq_true rfl⟩ dX13_does_106 (t := 109) rfl rfl ?_
        replace hF := Option.some.inj hF
        obtain ⟨hF, hF2⟩ := Prod.mk.inj hF
        subst hF
        subst hF2
        exact J_iret hX hR hlk dX13_does_109
      · replace hF := it_f hF z2
        by_cases z3 : s3 = 3
        · replace hF := it_t hF z3
          refine J_tabIn (k := 3) (tgt := 110) hX dX13_does_13 z3 (by decide) (by decide) rfl (by decide) ?_
          refine J_aload_n hX dX13_does_110 1 rfl (t := 111) rfl ?_
          refine J_bipush (v := 6) hX dX13_does_111 (by decide) (t := 113) rfl ?_
          refine J_iload_n hX dX13_does_113 0 rfl (t := 114) rfl ?_
          obtain ⟨x29, w30, h28, hF⟩ := bo2_e hF
          have k31 := (ctX13_sets (G := G) (l := l) w 6 ((w 15).1 8 p1.toNatClampNeg) h28)
          refine J_callV hX [.int 6, .int ((w 15).1 8 p1.toNatClampNeg)] [] [.int x29] k31 miX13_sets mvX13_sets cb10 kModel q_2312 ⟨rfl, rfl, Nat.le_of_ble_eq_true rfl, Nat.le_of_ble_eq_true rfl⟩ rfl rfl (Nat.le_of_ble_eq_true rfl) ⟨Nat.le_of_ble_eq_true rfl, Nat.le_of_ble_eq_true rfl⟩ dX13_does_114 (t := 117) rfl rfl ?_
          replace hF := Option.some.inj hF
          obtain ⟨hF, hF2⟩ := Prod.mk.inj hF
          subst hF
          subst hF2
          exact J_iret hX hR hlk dX13_does_117
        · replace hF := it_f hF z3
          by_cases z4 : s3 = 4
          · replace hF := it_t hF z4
            refine J_tabIn (k := 4) (tgt := 118) hX dX13_does_13 z4 (by decide) (by decide) rfl (by decide) ?_
            refine J_aload_n hX dX13_does_118 1 rfl (t := 119) rfl ?_
            refine J_iload_n hX dX13_does_119 0 rfl (t := 120) rfl ?_
            obtain ⟨x33, w34, h32, hF⟩ := bo2_e hF
            have k35 := (ctX13_passes (G := G) (l := l) w ((w 15).1 8 p1.toNatClampNeg) n h32)
            refine J_callV hX [.int ((w 15).1 8 p1.toNatClampNeg)] [] [.int x33] k35 miX13_passes mvX13_passes cb10 kModel q_2335 ⟨rfl, rfl, Nat.le_of_ble_eq_true rfl, Nat.le_of_ble_eq_true rfl⟩ rfl rfl (Nat.le_of_ble_eq_true rfl) ⟨Nat.le_of_ble_eq_true rfl, Nat.le_of_ble_eq_true rfl⟩ dX13_does_120 (t := 123) rfl rfl ?_
            replace hF := Option.some.inj hF
            obtain ⟨hF, hF2⟩ := Prod.mk.inj hF
            subst hF
            subst hF2
            exact J_iret hX hR hlk dX13_does_123
          · replace hF := it_f hF z4
            by_cases z5 : s3 = 5
            · replace hF := it_t hF z5
              refine J_tabIn (k := 5) (tgt := 124) hX dX13_does_13 z5 (by decide) (by decide) rfl (by decide) ?_
              refine J_aload_n hX dX13_does_124 1 rfl (t := 125) rfl ?_
              refine J_iload_n hX dX13_does_125 0 rfl (t := 126) rfl ?_
              obtain ⟨x37, w38, h36, hF⟩ := bo2_e hF
              have k39 := (ctX13_fakes (G := G) (l := l) w ((w 15).1 8 p1.toNatClampNeg) n h36)
              refine J_callV hX [.int ((w 15).1 8 p1.toNatClampNeg)] [] [.int x37] k39 miX13_fakes mvX13_fakes cb10 kModel q_2284 ⟨rfl, rfl, Nat.le_of_ble_eq_true rfl, Nat.le_of_ble_eq_true rfl⟩ rfl rfl (Nat.le_of_ble_eq_true rfl) ⟨Nat.le_of_ble_eq_true rfl, Nat.le_of_ble_eq_true rfl⟩ dX13_does_126 (t := 129) rfl rfl ?_
              replace hF := Option.some.inj hF
              obtain ⟨hF, hF2⟩ := Prod.mk.inj hF
              subst hF
              subst hF2
              exact J_iret hX hR hlk dX13_does_129
            · replace hF := it_f hF z5
              refine J_tabOut (tgt := 130) hX dX13_does_13 (tab_out6_0 z0 z1 z2 z3 z4 z5) (by decide) ?_
              refine J_aload_n hX dX13_does_130 1 rfl (t := 131) rfl ?_
              refine J_iload_n hX dX13_does_131 0 rfl (t := 132) rfl ?_
              obtain ⟨x41, w42, h40, hF⟩ := bo2_e hF
              have k43 := (ctX13_cancels (G := G) (l := l) w ((w 15).1 8 p1.toNatClampNeg) h40)
              refine J_callV hX [.int ((w 15).1 8 p1.toNatClampNeg)] [] [.int x41] k43 miX13_cancels mvX13_cancels cb10 kModel q_2268 ⟨rfl, rfl, Nat.le_of_ble_eq_true rfl, Nat.le_of_ble_eq_true rfl⟩ rfl rfl (Nat.le_of_ble_eq_true rfl) ⟨Nat.le_of_ble_eq_true rfl, Nat.le_of_ble_eq_true rfl⟩ dX13_does_132 (t := 135) rfl rfl ?_
              replace hF := Option.some.inj hF
              obtain ⟨hF, hF2⟩ := Prod.mk.inj hF
              subst hF
              subst hF2
              exact J_iret hX hR hlk dX13_does_135
abbrev rmX13_isDone : Room := { frames := 9, cells := 0, slots := 0, locals := 197 }
theorem miX13_isDone : MI yX13_isDone cX13_isDone 2 (some .boolean) 1 := ⟨q_2788, q_152, by decide +kernel, by decide +kernel, by decide +kernel, by decide +kernel⟩
theorem mvX13_isDone : MV yX13_isDone := ⟨q_2787, q_127⟩
def FX13_isDone (n : Nat) (w : Wd) (p1 : Int32) : Option (Bool × Wd) :=
  bo1 (FX13_may n w p1) fun x2 =>
  if x2 = true then
    bo2 (FX13_does n w p1) fun x5 w6 =>
    bnd (sW w6 15 (sI (w6 15) 0 31 x5)) fun w8 =>
    some (true, w8)
  else
    some (false, w)
set_option maxHeartbeats 4000000 in
set_option maxRecDepth 100000 in
theorem ctX13_isDone {G : GG} {l : Launch} (w : Wd) (p1 : Int32)  (n : Nat) {rx : Bool} {rw : Wd} (hF : FX13_isDone n w p1 = some (rx, rw)) : CT G l yX13_isDone cX13_isDone 2 (some .boolean) rmX13_isDone 0 0 [.ref (adr G 15 0), .int p1] w (some (.int (bI rx))) rw := by
  refine CT.of miX13_isDone [(0, .ref (adr G 15 0)), (1, .int p1)] rfl (Nat.le_of_ble_eq_true rfl) ?_
  intro p e s m args below meth c hX hR hlk
  have hX : FX G RX13 cX13_isDone 2 p s m args c := hX
  unfold FX13_isDone at hF
  refine J_aload_n hX dX13_isDone_0 0 rfl (t := 1) rfl ?_
  refine J_iload_n hX dX13_isDone_1 1 rfl (t := 2) rfl ?_
  obtain ⟨x2, h1, hF⟩ := bo1_e hF
  have k3 := (ctX13_may (G := G) (l := l) w p1 n h1)
  refine J_callV hX [.int p1] [] [.int (bI x2)] k3 miX13_may mvX13_may cb10 kModel q_2789 ⟨rfl, rfl, Nat.le_of_ble_eq_true rfl, Nat.le_of_ble_eq_true rfl⟩ rfl rfl (Nat.le_of_ble_eq_true rfl) ⟨Nat.le_of_ble_eq_true rfl, Nat.le_of_ble_eq_true rfl⟩ dX13_isDone_2 (t := 5) rfl rfl ?_
  refine J_ifZ_ne (tgt := 10) hX dX13_isDone_5 (by decide) (t := 8) rfl (fun z => ?_) (fun z => ?_)
  · replace hF := it_t hF z
    refine J_aload_n hX dX13_isDone_10 0 rfl (t := 11) rfl ?_
    refine J_aload_n hX dX13_isDone_11 0 rfl (t := 12) rfl ?_
    refine J_iload_n hX dX13_isDone_12 1 rfl (t := 13) rfl ?_
    obtain ⟨x5, w6, h4, hF⟩ := bo2_e hF
    have k7 := (ctX13_does (G := G) (l := l) w p1 n h4)
    refine J_callV hX [.int p1] [.ref (adr G 15 0)] [.int x5, .ref (adr G 15 0)] k7 miX13_does mvX13_does cb10 kModel q_2793 ⟨rfl, rfl, Nat.le_of_ble_eq_true rfl, Nat.le_of_ble_eq_true rfl⟩ rfl rfl (Nat.le_of_ble_eq_true rfl) ⟨Nat.le_of_ble_eq_true rfl, Nat.le_of_ble_eq_true rfl⟩ dX13_isDone_13 (t := 16) rfl rfl ?_
    obtain ⟨w8, e9, hF⟩ := bnd_e hF
    refine J_puti hX cb10 kModel 31 (by decide) q_1998 rfl rfl e9 (fun _ _ => Nat.le_of_ble_eq_true rfl) (fun _ _ => rfl) dX13_isDone_16 (t := 19) rfl ?_
    refine J_iconst (v := 1) hX dX13_isDone_19 (by decide) (t := 20) rfl ?_
    replace hF := Option.some.inj hF
    obtain ⟨hF, hF2⟩ := Prod.mk.inj hF
    subst hF
    subst hF2
    exact J_zret (b := true) hX hR hlk dX13_isDone_20
  · replace hF := ib_f hF z
    refine J_iconst (v := 0) hX dX13_isDone_8 (by decide) (t := 9) rfl ?_
    replace hF := Option.some.inj hF
    obtain ⟨hF, hF2⟩ := Prod.mk.inj hF
    subst hF
    subst hF2
    exact J_zret (b := false) hX hR hlk dX13_isDone_9
abbrev rmX13_doesAll : Room := { frames := 10, cells := 0, slots := 0, locals := 218 }
theorem miX13_doesAll : MI yX13_doesAll cX13_doesAll 6 (some .int) 0 := ⟨q_2784, q_152, by decide +kernel, by decide +kernel, by decide +kernel, by decide +kernel⟩
theorem mvX13_doesAll : MV yX13_doesAll := ⟨q_2783, q_126⟩
def FX13_doesAll_L9 (n : Nat) : Nat → Wd → Int32 → Int32 → Int32 → Bool → Option (Int32 × Wd)
  | 0 => fun _ _ _ _ _ => none
  | k + 1 => fun w l1 l2 l3 l4 =>
    if l4 = true then
      if (w 15).1 0 28 ≤ l3 then
        some (l1, w)
      else
        if 40 ≤ l1 then
          some (l1, w)
        else
          gd (inb l3 60) <|
          if (w 15).1 7 l3.toNatClampNeg = 7 then
            gd (inb l2 2) <| bnd (sW w 15 (sI (w 15) 12 l2.toNatClampNeg l3)) fun w23 =>
            gd (inb l3 60) <|
            gd (inb l2 2) <| bnd (sW w23 15 (sI (w23 15) 13 l2.toNatClampNeg ((w23 15).1 8 l3.toNatClampNeg))) fun w27 =>
            FX13_doesAll_L9 n k w27 l1 (l2 + 1) (l3 + 1) l4
          else
            gd (inb l3 60) <|
            if (w 15).1 7 l3.toNatClampNeg = 8 then
              gd (inb (l2 - 1) 2) <|
              gd (inb (l2 - 1) 2) <| bnd (sW w 15 (sI (w 15) 13 ((l2 - 1).toNatClampNeg) (((w 15).1 13 ((l2 - 1).toNatClampNeg)) - 1))) fun w12 =>
              gd (inb (l2 - 1) 2) <|
              if (w12 15).1 13 ((l2 - 1).toNatClampNeg) ≤ 0 then
                bnd (FX13_truth true) fun x16 =>
                FX13_doesAll_L9 n k w12 l1 (l2 - x16) (l3 + 1) l4
              else
                gd (inb (l2 - 1) 2) <|
                bnd (FX13_truth false) fun x20 =>
                FX13_doesAll_L9 n k w12 l1 (l2 - x20) (((w12 15).1 12 ((l2 - 1).toNatClampNeg)) + 1) l4
            else
              bo2 (FX13_isDone n w l3) fun x4 w5 =>
              bnd (FX13_truth x4) fun x8 =>
              FX13_doesAll_L9 n k w5 (l1 + x8) l2 (l3 + 1) x4
    else
      some (l1, w)
set_option maxHeartbeats 4000000 in
set_option maxRecDepth 100000 in
theorem LX13_doesAll_9 {G : GG} {l : Launch} {p : Program} {e : Env} {s : State} {m : MethodId} {args : Array Value} {below : List Frame} {meth : Method} {c : Code} (hX : FX G RX13 cX13_doesAll 6 p s m args c) (hR : meth.sig.returnType = (some .int)) (hlk : meth.locks = false) {rx : Int32} {rw : Wd} (n : Nat) : ∀ (k : Nat) (w : Wd) (l1 : Int32) (l2 : Int32) (l3 : Int32) (l4 : Bool) , FX13_doesAll_L9 n k w l1 l2 l3 l4 = some (rx, rw) → J G p l e rmX13_doesAll s m args below meth c 6 0 0 (MQ below (QV G (some (.int rx)) rw) args s 0 0 (gA G)) (GH G w) 9 [(0, .ref (adr G 15 0)), (1, .int l1), (2, .int l2), (3, .int l3), (4, .int (bI l4))] [] := by
  intro k
  induction k with
  | zero => intro w l1 l2 l3 l4  hF; cases hF
  | succ k ih =>
    intro w l1 l2 l3 l4  hF
    simp only [FX13_doesAll_L9] at hF
    refine J_iload hX dX13_doesAll_9 4 rfl (t := 11) rfl ?_
    refine J_ifZ_eq (tgt := 170) hX dX13_doesAll_11 (by decide) (t := 14) rfl (fun z => ?_) (fun z => ?_)
    · replace hF := ib_f hF z
      refine J_iload_n hX dX13_doesAll_170 1 rfl (t := 171) rfl ?_
      replace hF := Option.some.inj hF
      obtain ⟨hF, hF2⟩ := Prod.mk.inj hF
      subst hF
      subst hF2
      exact J_iret hX hR hlk dX13_doesAll_171
    · replace hF := it_t hF z
      refine J_iload_n hX dX13_doesAll_14 3 rfl (t := 15) rfl ?_
      refine J_aload_n hX dX13_doesAll_15 0 rfl (t := 16) rfl ?_
      refine J_get hX cb10 kModel 28 (by decide) q_1995 rfl dX13_doesAll_16 (t := 19) rfl ?_
      refine J_icmp_ge (tgt := 170) hX dX13_doesAll_19 (by decide) (t := 22) rfl (fun z => ?_) (fun z => ?_)
      · replace hF := it_t hF z
        refine J_iload_n hX dX13_doesAll_170 1 rfl (t := 171) rfl ?_
        replace hF := Option.some.inj hF
        obtain ⟨hF, hF2⟩ := Prod.mk.inj hF
        subst hF
        subst hF2
        exact J_iret hX hR hlk dX13_doesAll_171
      · replace hF := it_f hF z
        refine J_iload_n hX dX13_doesAll_22 1 rfl (t := 23) rfl ?_
        refine J_bipush (v := 40) hX dX13_doesAll_23 (by decide) (t := 25) rfl ?_
        refine J_icmp_ge (tgt := 170) hX dX13_doesAll_25 (by decide) (t := 28) rfl (fun z => ?_) (fun z => ?_)
        · replace hF := it_t hF z
          refine J_iload_n hX dX13_doesAll_170 1 rfl (t := 171) rfl ?_
          replace hF := Option.some.inj hF
          obtain ⟨hF, hF2⟩ := Prod.mk.inj hF
          subst hF
          subst hF2
          exact J_iret hX hR hlk dX13_doesAll_171
        · replace hF := it_f hF z
          refine J_aload_n hX dX13_doesAll_28 0 rfl (t := 29) rfl ?_
          refine J_get hX cb10 kModel 21 (by decide) q_1988 rfl dX13_doesAll_29 (t := 32) rfl ?_
          refine J_iload_n hX dX13_doesAll_32 3 rfl (t := 33) rfl ?_
          obtain ⟨g1, hF⟩ := gd_e hF
          refine J_iald hX (kInts (j := 7) (n := 60) (by decide) (by decide) rfl) g1 rfl dX13_doesAll_33 (t := 34) rfl ?_
          refine J_bipush (v := 7) hX dX13_doesAll_34 (by decide) (t := 36) rfl ?_
          refine J_icmp_ne (tgt := 67) hX dX13_doesAll_36 (by decide) (t := 39) rfl (fun z => ?_) (fun z => ?_)
          · replace hF := it_f hF z
            refine J_aload_n hX dX13_doesAll_67 0 rfl (t := 68) rfl ?_
            refine J_get hX cb10 kModel 21 (by decide) q_1988 rfl dX13_doesAll_68 (t := 71) rfl ?_
            refine J_iload_n hX dX13_doesAll_71 3 rfl (t := 72) rfl ?_
            obtain ⟨g2, hF⟩ := gd_e hF
            refine J_iald hX (kInts (j := 7) (n := 60) (by decide) (by decide) rfl) g2 rfl dX13_doesAll_72 (t := 73) rfl ?_
            refine J_bipush (v := 8) hX dX13_doesAll_73 (by decide) (t := 75) rfl ?_
            refine J_icmp_ne (tgt := 149) hX dX13_doesAll_75 (by decide) (t := 78) rfl (fun z => ?_) (fun z => ?_)
            · replace hF := it_f hF z
              refine J_aload_n hX dX13_doesAll_149 0 rfl (t := 150) rfl ?_
              refine J_iload_n hX dX13_doesAll_150 3 rfl (t := 151) rfl ?_
              obtain ⟨x4, w5, h3, hF⟩ := bo2_e hF
              have k6 := (ctX13_isDone (G := G) (l := l) w l3 n h3)
              refine J_callV hX [.int l3] [] [.int (bI x4)] k6 miX13_isDone mvX13_isDone cb10 kModel q_2785 ⟨rfl, rfl, Nat.le_of_ble_eq_true rfl, Nat.le_of_ble_eq_true rfl⟩ rfl rfl (Nat.le_of_ble_eq_true rfl) ⟨Nat.le_of_ble_eq_true rfl, Nat.le_of_ble_eq_true rfl⟩ dX13_doesAll_151 (t := 154) rfl rfl ?_
              refine J_istore (lc2 := [(4, .int (bI x4)), (0, .ref (adr G 15 0)), (1, .int l1), (2, .int l2), (3, .int l3)]) hX dX13_doesAll_154 (Nat.le_of_ble_eq_true rfl) rfl (t := 156) rfl ?_
              refine J_iload_n hX dX13_doesAll_156 2 rfl (t := 157) rfl ?_
              refine J_iload hX dX13_doesAll_157 0 rfl (t := 159) rfl ?_
              obtain ⟨x8, h7, hF⟩ := bnd_e hF
              have k9 := (ctX13_truth (l := l) (G := G) (w := w5) x4 h7)
              refine J_callS hX [.int (bI x4)] [.int l1] [.int x8, .int l1] k9 miX13_truth q_2083 q_2082 ⟨rfl, rfl, Nat.le_of_ble_eq_true rfl, Nat.le_of_ble_eq_true rfl⟩ rfl rfl (Nat.le_of_ble_eq_true rfl) ⟨Nat.le_of_ble_eq_true rfl, Nat.le_of_ble_eq_true rfl⟩ dX13_doesAll_159 (t := 162) rfl rfl ?_
              refine J_iadd hX dX13_doesAll_162 (t := 163) rfl ?_
              refine J_istore_n (lc2 := [(1, .int (l1 + x8)), (4, .int (bI x4)), (0, .ref (adr G 15 0)), (2, .int l2), (3, .int l3)]) hX dX13_doesAll_163 rfl (Nat.le_of_ble_eq_true rfl) rfl (t := 164) rfl ?_
              refine J_iinc (v := l3 + 1) (lc2 := [(3, .int (l3 + 1)), (1, .int (l1 + x8)), (4, .int (bI x4)), (0, .ref (adr G 15 0)), (2, .int l2)]) hX dX13_doesAll_164 4 rfl rfl (Nat.le_of_ble_eq_true rfl) rfl (t := 167) rfl ?_
              refine J_goto (tgt := 9) hX dX13_doesAll_167 (by decide) ?_
              refine J_sub (lc2 := [(0, .ref (adr G 15 0)), (1, .int (l1 + x8)), (2, .int l2), (3, .int (l3 + 1)), (4, .int (bI x4))]) [3, 1, 4, 0, 2] rfl ?_
              exact ih w5 (l1 + x8) l2 (l3 + 1) x4 hF
            · replace hF := it_t hF z
              refine J_aload_n hX dX13_doesAll_78 0 rfl (t := 79) rfl ?_
              refine J_get hX cb10 kModel 27 (by decide) q_1994 rfl dX13_doesAll_79 (t := 82) rfl ?_
              refine J_iload_n hX dX13_doesAll_82 2 rfl (t := 83) rfl ?_
              refine J_iconst (v := 1) hX dX13_doesAll_83 (by decide) (t := 84) rfl ?_
              refine J_isub hX dX13_doesAll_84 (t := 85) rfl ?_
              refine J_dup2 hX dX13_doesAll_85 rfl rfl (t := 86) rfl ?_
              obtain ⟨g10, hF⟩ := gd_e hF
              refine J_iald hX (kInts (j := 13) (n := 2) (by decide) (by decide) rfl) g10 rfl dX13_doesAll_86 (t := 87) rfl ?_
              refine J_iconst (v := 1) hX dX13_doesAll_87 (by decide) (t := 88) rfl ?_
              refine J_isub hX dX13_doesAll_88 (t := 89) rfl ?_
              obtain ⟨g11, hF⟩ := gd_e hF
              obtain ⟨w12, e13, hF⟩ := bnd_e hF
              refine J_iast hX (kInts (j := 13) (n := 2) (by decide) (by decide) rfl) g11 rfl e13 dX13_doesAll_89 (t := 90) rfl ?_
              refine J_aload_n hX dX13_doesAll_90 0 rfl (t := 91) rfl ?_
              refine J_get hX cb10 kModel 27 (by decide) q_1994 rfl dX13_doesAll_91 (t := 94) rfl ?_
              refine J_iload_n hX dX13_doesAll_94 2 rfl (t := 95) rfl ?_
              refine J_iconst (v := 1) hX dX13_doesAll_95 (by decide) (t := 96) rfl ?_
              refine J_isub hX dX13_doesAll_96 (t := 97) rfl ?_
              obtain ⟨g14, hF⟩ := gd_e hF
              refine J_iald hX (kInts (j := 13) (n := 2) (by decide) (by decide) rfl) g14 rfl dX13_doesAll_97 (t := 98) rfl ?_
              refine J_if_le (tgt := 105) hX dX13_doesAll_98 (by decide) (t := 101) rfl (fun z => ?_) (fun z => ?_)
              · replace hF := it_t hF z
                refine J_iconst (v := 0) hX dX13_doesAll_105 (by decide) (t := 106) rfl ?_
                refine J_istore (lc2 := [(5, .int 0), (0, .ref (adr G 15 0)), (1, .int l1), (2, .int l2), (3, .int l3), (4, .int (bI l4))]) hX dX13_doesAll_106 (Nat.le_of_ble_eq_true rfl) rfl (t := 108) rfl ?_
                refine J_iload hX dX13_doesAll_108 0 rfl (t := 110) rfl ?_
                refine J_if_eq (tgt := 126) hX dX13_doesAll_110 (by decide) (t := 113) rfl (fun z => ?_) (fun z => ?_)
                · refine J_iload_n hX dX13_doesAll_126 4 rfl (t := 127) rfl ?_
                  refine J_iconst (v := 1) hX dX13_doesAll_127 (by decide) (t := 128) rfl ?_
                  refine J_iadd hX dX13_doesAll_128 (t := 129) rfl ?_
                  refine J_istore_n (lc2 := [(3, .int (l3 + 1)), (5, .int 0), (0, .ref (adr G 15 0)), (1, .int l1), (2, .int l2), (4, .int (bI l4))]) hX dX13_doesAll_129 rfl (Nat.le_of_ble_eq_true rfl) rfl (t := 130) rfl ?_
                  refine J_iload_n hX dX13_doesAll_130 4 rfl (t := 131) rfl ?_
                  refine J_iload hX dX13_doesAll_131 1 rfl (t := 133) rfl ?_
                  refine J_if_ne (tgt := 140) hX dX13_doesAll_133 (by decide) (t := 136) rfl (fun z => ?_) (fun z => ?_)
                  · exact absurd z (by decide)
                  · refine J_iconst (v := 1) hX dX13_doesAll_136 (by decide) (t := 137) rfl ?_
                    refine J_goto (tgt := 141) hX dX13_doesAll_137 (by decide) ?_
                    obtain ⟨x16, h15, hF⟩ := bnd_e hF
                    have k17 := (ctX13_truth (l := l) (G := G) (w := w12) true h15)
                    refine J_callS hX [.int (bI true)] [.int l2] [.int x16, .int l2] k17 miX13_truth q_2083 q_2082 ⟨rfl, rfl, Nat.le_of_ble_eq_true rfl, Nat.le_of_ble_eq_true rfl⟩ rfl rfl (Nat.le_of_ble_eq_true rfl) ⟨Nat.le_of_ble_eq_true rfl, Nat.le_of_ble_eq_true rfl⟩ dX13_doesAll_141 (t := 144) rfl rfl ?_
                    refine J_isub hX dX13_doesAll_144 (t := 145) rfl ?_
                    refine J_istore_n (lc2 := [(2, .int (l2 - x16)), (3, .int (l3 + 1)), (5, .int 0), (0, .ref (adr G 15 0)), (1, .int l1), (4, .int (bI l4))]) hX dX13_doesAll_145 rfl (Nat.le_of_ble_eq_true rfl) rfl (t := 146) rfl ?_
                    refine J_goto (tgt := 9) hX dX13_doesAll_146 (by decide) ?_
                    refine J_sub (lc2 := [(0, .ref (adr G 15 0)), (1, .int l1), (2, .int (l2 - x16)), (3, .int (l3 + 1)), (4, .int (bI l4))]) [3, 4, 0, 1, 5] rfl ?_
                    exact ih w12 l1 (l2 - x16) (l3 + 1) l4 hF
                · exact absurd z (by decide)
              · replace hF := it_f hF z
                refine J_iconst (v := 1) hX dX13_doesAll_101 (by decide) (t := 102) rfl ?_
                refine J_goto (tgt := 106) hX dX13_doesAll_102 (by decide) ?_
                refine J_istore (lc2 := [(5, .int 1), (0, .ref (adr G 15 0)), (1, .int l1), (2, .int l2), (3, .int l3), (4, .int (bI l4))]) hX dX13_doesAll_106 (Nat.le_of_ble_eq_true rfl) rfl (t := 108) rfl ?_
                refine J_iload hX dX13_doesAll_108 0 rfl (t := 110) rfl ?_
                refine J_if_eq (tgt := 126) hX dX13_doesAll_110 (by decide) (t := 113) rfl (fun z => ?_) (fun z => ?_)
                · exact absurd z (by decide)
                · refine J_aload_n hX dX13_doesAll_113 1 rfl (t := 114) rfl ?_
                  refine J_get hX cb10 kModel 26 (by decide) q_1993 rfl dX13_doesAll_114 (t := 117) rfl ?_
                  refine J_iload_n hX dX13_doesAll_117 3 rfl (t := 118) rfl ?_
                  refine J_iconst (v := 1) hX dX13_doesAll_118 (by decide) (t := 119) rfl ?_
                  refine J_isub hX dX13_doesAll_119 (t := 120) rfl ?_
                  obtain ⟨g18, hF⟩ := gd_e hF
                  refine J_iald hX (kInts (j := 12) (n := 2) (by decide) (by decide) rfl) g18 rfl dX13_doesAll_120 (t := 121) rfl ?_
                  refine J_iconst (v := 1) hX dX13_doesAll_121 (by decide) (t := 122) rfl ?_
                  refine J_iadd hX dX13_doesAll_122 (t := 123) rfl ?_
                  refine J_goto (tgt := 129) hX dX13_doesAll_123 (by decide) ?_
                  refine J_istore_n (lc2 := [(3, .int (((w12 15).1 12 ((l2 - 1).toNatClampNeg)) + 1)), (5, .int 1), (0, .ref (adr G 15 0)), (1, .int l1), (2, .int l2), (4, .int (bI l4))]) hX dX13_doesAll_129 rfl (Nat.le_of_ble_eq_true rfl) rfl (t := 130) rfl ?_
                  refine J_iload_n hX dX13_doesAll_130 4 rfl (t := 131) rfl ?_
                  refine J_iload hX dX13_doesAll_131 1 rfl (t := 133) rfl ?_
                  refine J_if_ne (tgt := 140) hX dX13_doesAll_133 (by decide) (t := 136) rfl (fun z => ?_) (fun z => ?_)
                  · refine J_iconst (v := 0) hX dX13_doesAll_140 (by decide) (t := 141) rfl ?_
                    obtain ⟨x20, h19, hF⟩ := bnd_e hF
                    have k21 := (ctX13_truth (l := l) (G := G) (w := w12) false h19)
                    refine J_callS hX [.int (bI false)] [.int l2] [.int x20, .int l2] k21 miX13_truth q_2083 q_2082 ⟨rfl, rfl, Nat.le_of_ble_eq_true rfl, Nat.le_of_ble_eq_true rfl⟩ rfl rfl (Nat.le_of_ble_eq_true rfl) ⟨Nat.le_of_ble_eq_true rfl, Nat.le_of_ble_eq_true rfl⟩ dX13_doesAll_141 (t := 144) rfl rfl ?_
                    refine J_isub hX dX13_doesAll_144 (t := 145) rfl ?_
                    refine J_istore_n (lc2 := [(2, .int (l2 - x20)), (3, .int (((w12 15).1 12 ((l2 - 1).toNatClampNeg)) + 1)), (5, .int 1), (0, .ref (adr G 15 0)), (1, .int l1), (4, .int (bI l4))]) hX dX13_doesAll_145 rfl (Nat.le_of_ble_eq_true rfl) rfl (t := 146) rfl ?_
                    refine J_goto (tgt := 9) hX dX13_doesAll_146 (by decide) ?_
                    refine J_sub (lc2 := [(0, .ref (adr G 15 0)), (1, .int l1), (2, .int (l2 - x20)), (3, .int (((w12 15).1 12 ((l2 - 1).toNatClampNeg)) + 1)), (4, .int (bI l4))]) [3, 4, 0, 1, 5] rfl ?_
                    exact ih w12 l1 (l2 - x20) (((w12 15).1 12 ((l2 - 1).toNatClampNeg)) + 1) l4 hF
                  · exact absurd z (by decide)
          · replace hF := it_t hF z
            refine J_aload_n hX dX13_doesAll_39 0 rfl (t := 40) rfl ?_
            refine J_get hX cb10 kModel 26 (by decide) q_1993 rfl dX13_doesAll_40 (t := 43) rfl ?_
            refine J_iload_n hX dX13_doesAll_43 2 rfl (t := 44) rfl ?_
            refine J_iload_n hX dX13_doesAll_44 3 rfl (t := 45) rfl ?_
            obtain ⟨g22, hF⟩ := gd_e hF
            obtain ⟨w23, e24, hF⟩ := bnd_e hF
            refine J_iast hX (kInts (j := 12) (n := 2) (by decide) (by decide) rfl) g22 rfl e24 dX13_doesAll_45 (t := 46) rfl ?_
            refine J_aload_n hX dX13_doesAll_46 0 rfl (t := 47) rfl ?_
            refine J_get hX cb10 kModel 27 (by decide) q_1994 rfl dX13_doesAll_47 (t := 50) rfl ?_
            refine J_iload_n hX dX13_doesAll_50 2 rfl (t := 51) rfl ?_
            refine J_aload_n hX dX13_doesAll_51 0 rfl (t := 52) rfl ?_
            refine J_get hX cb10 kModel 22 (by decide) q_1989 rfl dX13_doesAll_52 (t := 55) rfl ?_
            refine J_iload_n hX dX13_doesAll_55 3 rfl (t := 56) rfl ?_
            obtain ⟨g25, hF⟩ := gd_e hF
            refine J_iald hX (kInts (j := 8) (n := 60) (by decide) (by decide) rfl) g25 rfl dX13_doesAll_56 (t := 57) rfl ?_
            obtain ⟨g26, hF⟩ := gd_e hF
            obtain ⟨w27, e28, hF⟩ := bnd_e hF
            refine J_iast hX (kInts (j := 13) (n := 2) (by decide) (by decide) rfl) g26 rfl e28 dX13_doesAll_57 (t := 58) rfl ?_
            refine J_iinc (v := l2 + 1) (lc2 := [(2, .int (l2 + 1)), (0, .ref (adr G 15 0)), (1, .int l1), (3, .int l3), (4, .int (bI l4))]) hX dX13_doesAll_58 2 rfl rfl (Nat.le_of_ble_eq_true rfl) rfl (t := 61) rfl ?_
            refine J_iinc (v := l3 + 1) (lc2 := [(3, .int (l3 + 1)), (2, .int (l2 + 1)), (0, .ref (adr G 15 0)), (1, .int l1), (4, .int (bI l4))]) hX dX13_doesAll_61 3 rfl rfl (Nat.le_of_ble_eq_true rfl) rfl (t := 64) rfl ?_
            refine J_goto (tgt := 9) hX dX13_doesAll_64 (by decide) ?_
            refine J_sub (lc2 := [(0, .ref (adr G 15 0)), (1, .int l1), (2, .int (l2 + 1)), (3, .int (l3 + 1)), (4, .int (bI l4))]) [2, 3, 1, 0, 4] rfl ?_
            exact ih w27 l1 (l2 + 1) (l3 + 1) l4 hF
def FX13_doesAll (n : Nat) (w : Wd)  : Option (Int32 × Wd) :=
  FX13_doesAll_L9 n n w 0 0 0 true
set_option maxHeartbeats 4000000 in
set_option maxRecDepth 100000 in
theorem ctX13_doesAll {G : GG} {l : Launch} (w : Wd)   (n : Nat) {rx : Int32} {rw : Wd} (hF : FX13_doesAll n w  = some (rx, rw)) : CT G l yX13_doesAll cX13_doesAll 6 (some .int) rmX13_doesAll 0 0 [.ref (adr G 15 0)] w (some (.int rx)) rw := by
  refine CT.of miX13_doesAll [(0, .ref (adr G 15 0))] rfl (Nat.le_of_ble_eq_true rfl) ?_
  intro p e s m args below meth c hX hR hlk
  have hX : FX G RX13 cX13_doesAll 6 p s m args c := hX
  unfold FX13_doesAll at hF
  refine J_iconst (v := 0) hX dX13_doesAll_0 (by decide) (t := 1) rfl ?_
  refine J_istore_n (lc2 := [(1, .int 0), (0, .ref (adr G 15 0))]) hX dX13_doesAll_1 rfl (Nat.le_of_ble_eq_true rfl) rfl (t := 2) rfl ?_
  refine J_iconst (v := 0) hX dX13_doesAll_2 (by decide) (t := 3) rfl ?_
  refine J_istore_n (lc2 := [(2, .int 0), (1, .int 0), (0, .ref (adr G 15 0))]) hX dX13_doesAll_3 rfl (Nat.le_of_ble_eq_true rfl) rfl (t := 4) rfl ?_
  refine J_iconst (v := 0) hX dX13_doesAll_4 (by decide) (t := 5) rfl ?_
  refine J_istore_n (lc2 := [(3, .int 0), (2, .int 0), (1, .int 0), (0, .ref (adr G 15 0))]) hX dX13_doesAll_5 rfl (Nat.le_of_ble_eq_true rfl) rfl (t := 6) rfl ?_
  refine J_iconst (v := 1) hX dX13_doesAll_6 (by decide) (t := 7) rfl ?_
  refine J_istore (lc2 := [(4, .int 1), (3, .int 0), (2, .int 0), (1, .int 0), (0, .ref (adr G 15 0))]) hX dX13_doesAll_7 (Nat.le_of_ble_eq_true rfl) rfl (t := 9) rfl ?_
  refine J_sub (lc2 := [(0, .ref (adr G 15 0)), (1, .int 0), (2, .int 0), (3, .int 0), (4, .int 1)]) [4, 3, 2, 1, 0] rfl ?_
  exact LX13_doesAll_9 hX hR hlk n n w 0 0 0 true hF
abbrev rmX13_runScript : Room := { frames := 11, cells := 0, slots := 0, locals := 243 }
theorem miX13_runScript : MI yX13_runScript cX13_runScript 2 (some .int) 0 := ⟨q_2762, q_152, by decide +kernel, by decide +kernel, by decide +kernel, by decide +kernel⟩
theorem mvX13_runScript : MV yX13_runScript := ⟨q_2760, q_2761⟩
def FX13_runScript_B82 (n : Nat) (w : Wd)  : Option (Int32 × Wd) :=
  bnd2 (FX13_endsText w) fun x17 w18 =>
  if x17 = true then
    bo1 (FX13_laysAside n w18) fun w21 =>
    bo2 (FX13_doesAll n w21) fun x24 w25 =>
    bo1 (FX13_keeps n w25) fun w28 =>
    some (x24, w28)
  else
    some (0, w18)
set_option maxHeartbeats 4000000 in
set_option maxRecDepth 100000 in
theorem BX13_runScript_82 {G : GG} {l : Launch} {p : Program} {e : Env} {s : State} {m : MethodId} {args : Array Value} {below : List Frame} {meth : Method} {c : Code} (hX : FX G RX13 cX13_runScript 2 p s m args c) (hR : meth.sig.returnType = (some .int)) (hlk : meth.locks = false) {rx : Int32} {rw : Wd} (n : Nat) (w : Wd)   (hF : FX13_runScript_B82 n w  = some (rx, rw)) : J G p l e rmX13_runScript s m args below meth c 2 0 0 (MQ below (QV G (some (.int rx)) rw) args s 0 0 (gA G)) (GH G w) 82 [(0, .ref (adr G 15 0))] [] := by
  unfold FX13_runScript_B82 at hF
  refine J_aload_n hX dX13_runScript_82 0 rfl (t := 83) rfl ?_
  obtain ⟨x17, w18, h16, hF⟩ := bnd2_e hF
  have k19 := (ctX13_endsText (G := G) (l := l) w  h16)
  refine J_callV hX [] [] [.int (bI x17)] k19 miX13_endsText mvX13_endsText cb10 kModel q_2467 ⟨rfl, rfl, Nat.le_of_ble_eq_true rfl, Nat.le_of_ble_eq_true rfl⟩ rfl rfl (Nat.le_of_ble_eq_true rfl) ⟨Nat.le_of_ble_eq_true rfl, Nat.le_of_ble_eq_true rfl⟩ dX13_runScript_83 (t := 86) rfl rfl ?_
  refine J_ifZ_ne (tgt := 91) hX dX13_runScript_86 (by decide) (t := 89) rfl (fun z => ?_) (fun z => ?_)
  · replace hF := it_t hF z
    refine J_aload_n hX dX13_runScript_91 0 rfl (t := 92) rfl ?_
    obtain ⟨w21, h20, hF⟩ := bo1_e hF
    have k22 := (ctX13_laysAside (G := G) (l := l) w18  n h20)
    refine J_callV hX [] [] [] k22 miX13_laysAside mvX13_laysAside cb10 kModel q_2168 ⟨rfl, rfl, Nat.le_of_ble_eq_true rfl, Nat.le_of_ble_eq_true rfl⟩ rfl rfl (Nat.le_of_ble_eq_true rfl) ⟨Nat.le_of_ble_eq_true rfl, Nat.le_of_ble_eq_true rfl⟩ dX13_runScript_92 (t := 95) rfl rfl ?_
    refine J_aload_n hX dX13_runScript_95 0 rfl (t := 96) rfl ?_
    obtain ⟨x24, w25, h23, hF⟩ := bo2_e hF
    have k26 := (ctX13_doesAll (G := G) (l := l) w21  n h23)
    refine J_callV hX [] [] [.int x24] k26 miX13_doesAll mvX13_doesAll cb10 kModel q_2781 ⟨rfl, rfl, Nat.le_of_ble_eq_true rfl, Nat.le_of_ble_eq_true rfl⟩ rfl rfl (Nat.le_of_ble_eq_true rfl) ⟨Nat.le_of_ble_eq_true rfl, Nat.le_of_ble_eq_true rfl⟩ dX13_runScript_96 (t := 99) rfl rfl ?_
    refine J_istore_n (lc2 := [(1, .int x24), (0, .ref (adr G 15 0))]) hX dX13_runScript_99 rfl (Nat.le_of_ble_eq_true rfl) rfl (t := 100) rfl ?_
    refine J_aload_n hX dX13_runScript_100 1 rfl (t := 101) rfl ?_
    obtain ⟨w28, h27, hF⟩ := bo1_e hF
    have k29 := (ctX13_keeps (G := G) (l := l) w25  n h27)
    refine J_callV hX [] [] [] k29 miX13_keeps mvX13_keeps cb10 kModel q_2185 ⟨rfl, rfl, Nat.le_of_ble_eq_true rfl, Nat.le_of_ble_eq_true rfl⟩ rfl rfl (Nat.le_of_ble_eq_true rfl) ⟨Nat.le_of_ble_eq_true rfl, Nat.le_of_ble_eq_true rfl⟩ dX13_runScript_101 (t := 104) rfl rfl ?_
    refine J_iload_n hX dX13_runScript_104 0 rfl (t := 105) rfl ?_
    replace hF := Option.some.inj hF
    obtain ⟨hF, hF2⟩ := Prod.mk.inj hF
    subst hF
    subst hF2
    exact J_iret hX hR hlk dX13_runScript_105
  · replace hF := ib_f hF z
    refine J_iconst (v := 0) hX dX13_runScript_89 (by decide) (t := 90) rfl ?_
    replace hF := Option.some.inj hF
    obtain ⟨hF, hF2⟩ := Prod.mk.inj hF
    subst hF
    subst hF2
    exact J_iret hX hR hlk dX13_runScript_90
def FX13_runScript_B63 (n : Nat) (w : Wd)  : Option (Int32 × Wd) :=
  bnd (FX13_isGood w) fun x14 =>
  if x14 = true then
    if (w 15).1 0 30 ≤ 0 then
      FX13_runScript_B82 n w
    else
      bnd (FX13_wrong w 1) fun w31 =>
      FX13_runScript_B82 n w31
  else
    FX13_runScript_B82 n w
set_option maxHeartbeats 4000000 in
set_option maxRecDepth 100000 in
theorem BX13_runScript_63 {G : GG} {l : Launch} {p : Program} {e : Env} {s : State} {m : MethodId} {args : Array Value} {below : List Frame} {meth : Method} {c : Code} (hX : FX G RX13 cX13_runScript 2 p s m args c) (hR : meth.sig.returnType = (some .int)) (hlk : meth.locks = false) {rx : Int32} {rw : Wd} (n : Nat) (w : Wd)   (hF : FX13_runScript_B63 n w  = some (rx, rw)) : J G p l e rmX13_runScript s m args below meth c 2 0 0 (MQ below (QV G (some (.int rx)) rw) args s 0 0 (gA G)) (GH G w) 63 [(0, .ref (adr G 15 0))] [] := by
  unfold FX13_runScript_B63 at hF
  refine J_aload_n hX dX13_runScript_63 0 rfl (t := 64) rfl ?_
  obtain ⟨x14, h13, hF⟩ := bnd_e hF
  have k15 := (ctX13_isGood (G := G) (l := l) w  h13)
  refine J_callV hX [] [] [.int (bI x14)] k15 miX13_isGood mvX13_isGood cb10 kModel q_2387 ⟨rfl, rfl, Nat.le_of_ble_eq_true rfl, Nat.le_of_ble_eq_true rfl⟩ rfl rfl (Nat.le_of_ble_eq_true rfl) ⟨Nat.le_of_ble_eq_true rfl, Nat.le_of_ble_eq_true rfl⟩ dX13_runScript_64 (t := 67) rfl rfl ?_
  refine J_ifZ_eq (tgt := 82) hX dX13_runScript_67 (by decide) (t := 70) rfl (fun z => ?_) (fun z => ?_)
  · replace hF := ib_f hF z
    refine J_sub (lc2 := [(0, .ref (adr G 15 0))]) [0] rfl ?_
    exact BX13_runScript_82 hX hR hlk n w  hF
  · replace hF := it_t hF z
    refine J_aload_n hX dX13_runScript_70 0 rfl (t := 71) rfl ?_
    refine J_get hX cb10 kModel 30 (by decide) q_1997 rfl dX13_runScript_71 (t := 74) rfl ?_
    refine J_if_le (tgt := 82) hX dX13_runScript_74 (by decide) (t := 77) rfl (fun z => ?_) (fun z => ?_)
    · replace hF := it_t hF z
      refine J_sub (lc2 := [(0, .ref (adr G 15 0))]) [0] rfl ?_
      exact BX13_runScript_82 hX hR hlk n w  hF
    · replace hF := it_f hF z
      refine J_aload_n hX dX13_runScript_77 0 rfl (t := 78) rfl ?_
      refine J_iconst (v := 1) hX dX13_runScript_78 (by decide) (t := 79) rfl ?_
      obtain ⟨w31, h30, hF⟩ := bnd_e hF
      have k32 := (ctX13_wrong (G := G) (l := l) w 1 h30)
      refine J_callV hX [.int 1] [] [] k32 miX13_wrong mvX13_wrong cb10 kModel q_2395 ⟨rfl, rfl, Nat.le_of_ble_eq_true rfl, Nat.le_of_ble_eq_true rfl⟩ rfl rfl (Nat.le_of_ble_eq_true rfl) ⟨Nat.le_of_ble_eq_true rfl, Nat.le_of_ble_eq_true rfl⟩ dX13_runScript_79 (t := 82) rfl rfl ?_
      refine J_sub (lc2 := [(0, .ref (adr G 15 0))]) [0] rfl ?_
      exact BX13_runScript_82 hX hR hlk n w31  hF
def FX13_runScript_L19 (n : Nat) : Nat → Wd → Option (Int32 × Wd)
  | 0 => fun _ => none
  | k + 1 => fun w  =>
    bnd (FX13_isGood w) fun x11 =>
    if x11 = true then
      if (w 15).1 0 6 = 0 then
        FX13_runScript_B63 n w
      else
        bo1 (FX13_command n w) fun w34 =>
        if (w34 15).1 0 30 = (w 15).1 0 30 then
          bo1 (FX13_mustSign n w34 59) fun w40 =>
          bo1 (FX13_closes n w40) fun w43 =>
          FX13_runScript_L19 n k w43 
        else
          bo1 (FX13_closes n w34) fun w37 =>
          FX13_runScript_L19 n k w37 
    else
      FX13_runScript_B63 n w
set_option maxHeartbeats 4000000 in
set_option maxRecDepth 100000 in
theorem LX13_runScript_19 {G : GG} {l : Launch} {p : Program} {e : Env} {s : State} {m : MethodId} {args : Array Value} {below : List Frame} {meth : Method} {c : Code} (hX : FX G RX13 cX13_runScript 2 p s m args c) (hR : meth.sig.returnType = (some .int)) (hlk : meth.locks = false) {rx : Int32} {rw : Wd} (n : Nat) : ∀ (k : Nat) (w : Wd)  , FX13_runScript_L19 n k w  = some (rx, rw) → J G p l e rmX13_runScript s m args below meth c 2 0 0 (MQ below (QV G (some (.int rx)) rw) args s 0 0 (gA G)) (GH G w) 19 [(0, .ref (adr G 15 0))] [] := by
  intro k
  induction k with
  | zero => intro w   hF; cases hF
  | succ k ih =>
    intro w   hF
    simp only [FX13_runScript_L19] at hF
    refine J_aload_n hX dX13_runScript_19 0 rfl (t := 20) rfl ?_
    obtain ⟨x11, h10, hF⟩ := bnd_e hF
    have k12 := (ctX13_isGood (G := G) (l := l) w  h10)
    refine J_callV hX [] [] [.int (bI x11)] k12 miX13_isGood mvX13_isGood cb10 kModel q_2387 ⟨rfl, rfl, Nat.le_of_ble_eq_true rfl, Nat.le_of_ble_eq_true rfl⟩ rfl rfl (Nat.le_of_ble_eq_true rfl) ⟨Nat.le_of_ble_eq_true rfl, Nat.le_of_ble_eq_true rfl⟩ dX13_runScript_20 (t := 23) rfl rfl ?_
    refine J_ifZ_eq (tgt := 63) hX dX13_runScript_23 (by decide) (t := 26) rfl (fun z => ?_) (fun z => ?_)
    · replace hF := ib_f hF z
      refine J_sub (lc2 := [(0, .ref (adr G 15 0))]) [0] rfl ?_
      exact BX13_runScript_63 hX hR hlk n w  hF
    · replace hF := it_t hF z
      refine J_aload_n hX dX13_runScript_26 0 rfl (t := 27) rfl ?_
      refine J_get hX cb10 kModel 6 (by decide) q_1973 rfl dX13_runScript_27 (t := 30) rfl ?_
      refine J_if_eq (tgt := 63) hX dX13_runScript_30 (by decide) (t := 33) rfl (fun z => ?_) (fun z => ?_)
      · replace hF := it_t hF z
        refine J_sub (lc2 := [(0, .ref (adr G 15 0))]) [0] rfl ?_
        exact BX13_runScript_63 hX hR hlk n w  hF
      · replace hF := it_f hF z
        refine J_aload_n hX dX13_runScript_33 0 rfl (t := 34) rfl ?_
        refine J_get hX cb10 kModel 30 (by decide) q_1997 rfl dX13_runScript_34 (t := 37) rfl ?_
        refine J_istore_n (lc2 := [(1, .int ((w 15).1 0 30)), (0, .ref (adr G 15 0))]) hX dX13_runScript_37 rfl (Nat.le_of_ble_eq_true rfl) rfl (t := 38) rfl ?_
        refine J_aload_n hX dX13_runScript_38 1 rfl (t := 39) rfl ?_
        obtain ⟨w34, h33, hF⟩ := bo1_e hF
        have k35 := (ctX13_command (G := G) (l := l) w  n h33)
        refine J_callV hX [] [] [] k35 miX13_command mvX13_command cb10 kModel q_2763 ⟨rfl, rfl, Nat.le_of_ble_eq_true rfl, Nat.le_of_ble_eq_true rfl⟩ rfl rfl (Nat.le_of_ble_eq_true rfl) ⟨Nat.le_of_ble_eq_true rfl, Nat.le_of_ble_eq_true rfl⟩ dX13_runScript_39 (t := 42) rfl rfl ?_
        refine J_aload_n hX dX13_runScript_42 1 rfl (t := 43) rfl ?_
        refine J_get hX cb10 kModel 30 (by decide) q_1997 rfl dX13_runScript_43 (t := 46) rfl ?_
        refine J_iload_n hX dX13_runScript_46 0 rfl (t := 47) rfl ?_
        refine J_icmp_ne (tgt := 56) hX dX13_runScript_47 (by decide) (t := 50) rfl (fun z => ?_) (fun z => ?_)
        · replace hF := it_f hF z
          refine J_aload_n hX dX13_runScript_56 1 rfl (t := 57) rfl ?_
          obtain ⟨w37, h36, hF⟩ := bo1_e hF
          have k38 := (ctX13_closes (G := G) (l := l) w34  n h36)
          refine J_callV hX [] [] [] k38 miX13_closes mvX13_closes cb10 kModel q_2777 ⟨rfl, rfl, Nat.le_of_ble_eq_true rfl, Nat.le_of_ble_eq_true rfl⟩ rfl rfl (Nat.le_of_ble_eq_true rfl) ⟨Nat.le_of_ble_eq_true rfl, Nat.le_of_ble_eq_true rfl⟩ dX13_runScript_57 (t := 60) rfl rfl ?_
          refine J_goto (tgt := 19) hX dX13_runScript_60 (by decide) ?_
          refine J_sub (lc2 := [(0, .ref (adr G 15 0))]) [1] rfl ?_
          exact ih w37  hF
        · replace hF := it_t hF z
          refine J_aload_n hX dX13_runScript_50 1 rfl (t := 51) rfl ?_
          refine J_bipush (v := 59) hX dX13_runScript_51 (by decide) (t := 53) rfl ?_
          obtain ⟨w40, h39, hF⟩ := bo1_e hF
          have k41 := (ctX13_mustSign (G := G) (l := l) w34 59 n h39)
          refine J_callV hX [.int 59] [] [] k41 miX13_mustSign mvX13_mustSign cb10 kModel q_2399 ⟨rfl, rfl, Nat.le_of_ble_eq_true rfl, Nat.le_of_ble_eq_true rfl⟩ rfl rfl (Nat.le_of_ble_eq_true rfl) ⟨Nat.le_of_ble_eq_true rfl, Nat.le_of_ble_eq_true rfl⟩ dX13_runScript_53 (t := 56) rfl rfl ?_
          refine J_aload_n hX dX13_runScript_56 1 rfl (t := 57) rfl ?_
          obtain ⟨w43, h42, hF⟩ := bo1_e hF
          have k44 := (ctX13_closes (G := G) (l := l) w40  n h42)
          refine J_callV hX [] [] [] k44 miX13_closes mvX13_closes cb10 kModel q_2777 ⟨rfl, rfl, Nat.le_of_ble_eq_true rfl, Nat.le_of_ble_eq_true rfl⟩ rfl rfl (Nat.le_of_ble_eq_true rfl) ⟨Nat.le_of_ble_eq_true rfl, Nat.le_of_ble_eq_true rfl⟩ dX13_runScript_57 (t := 60) rfl rfl ?_
          refine J_goto (tgt := 19) hX dX13_runScript_60 (by decide) ?_
          refine J_sub (lc2 := [(0, .ref (adr G 15 0))]) [1] rfl ?_
          exact ih w43  hF
def FX13_runScript (n : Nat) (w : Wd)  : Option (Int32 × Wd) :=
  bo1 (FX13_beginsText n w) fun w2 =>
  bnd (sW w2 15 (sI (w2 15) 0 28 0)) fun w4 =>
  bnd (sW w4 15 (sI (w4 15) 0 29 0)) fun w6 =>
  bnd (sW w6 15 (sI (w6 15) 0 30 0)) fun w8 =>
  FX13_runScript_L19 n n w8 
set_option maxHeartbeats 4000000 in
set_option maxRecDepth 100000 in
theorem ctX13_runScript {G : GG} {l : Launch} (w : Wd)   (n : Nat) {rx : Int32} {rw : Wd} (hF : FX13_runScript n w  = some (rx, rw)) : CT G l yX13_runScript cX13_runScript 2 (some .int) rmX13_runScript 0 0 [.ref (adr G 15 0)] w (some (.int rx)) rw := by
  refine CT.of miX13_runScript [(0, .ref (adr G 15 0))] rfl (Nat.le_of_ble_eq_true rfl) ?_
  intro p e s m args below meth c hX hR hlk
  have hX : FX G RX13 cX13_runScript 2 p s m args c := hX
  unfold FX13_runScript at hF
  refine J_aload_n hX dX13_runScript_0 0 rfl (t := 1) rfl ?_
  obtain ⟨w2, h1, hF⟩ := bo1_e hF
  have k3 := (ctX13_beginsText (G := G) (l := l) w  n h1)
  refine J_callV hX [] [] [] k3 miX13_beginsText mvX13_beginsText cb10 kModel q_2367 ⟨rfl, rfl, Nat.le_of_ble_eq_true rfl, Nat.le_of_ble_eq_true rfl⟩ rfl rfl (Nat.le_of_ble_eq_true rfl) ⟨Nat.le_of_ble_eq_true rfl, Nat.le_of_ble_eq_true rfl⟩ dX13_runScript_1 (t := 4) rfl rfl ?_
  refine J_aload_n hX dX13_runScript_4 0 rfl (t := 5) rfl ?_
  refine J_iconst (v := 0) hX dX13_runScript_5 (by decide) (t := 6) rfl ?_
  obtain ⟨w4, e5, hF⟩ := bnd_e hF
  refine J_puti hX cb10 kModel 28 (by decide) q_1995 rfl rfl e5 (fun _ _ => Nat.le_of_ble_eq_true rfl) (fun _ _ => rfl) dX13_runScript_6 (t := 9) rfl ?_
  refine J_aload_n hX dX13_runScript_9 0 rfl (t := 10) rfl ?_
  refine J_iconst (v := 0) hX dX13_runScript_10 (by decide) (t := 11) rfl ?_
  obtain ⟨w6, e7, hF⟩ := bnd_e hF
  refine J_puti hX cb10 kModel 29 (by decide) q_1996 rfl rfl e7 (fun _ _ => Nat.le_of_ble_eq_true rfl) (fun _ _ => rfl) dX13_runScript_11 (t := 14) rfl ?_
  refine J_aload_n hX dX13_runScript_14 0 rfl (t := 15) rfl ?_
  refine J_iconst (v := 0) hX dX13_runScript_15 (by decide) (t := 16) rfl ?_
  obtain ⟨w8, e9, hF⟩ := bnd_e hF
  refine J_puti hX cb10 kModel 30 (by decide) q_1997 rfl rfl e9 (fun _ _ => Nat.le_of_ble_eq_true rfl) (fun _ _ => rfl) dX13_runScript_16 (t := 19) rfl ?_
  refine J_sub (lc2 := [(0, .ref (adr G 15 0))]) [0] rfl ?_
  exact LX13_runScript_19 hX hR hlk n n w8  hF
abbrev rmX13_tell : Room := { frames := 0, cells := 0, slots := 0, locals := 0 }
theorem miX13_tell : MI yX13_tell cX13_tell 2 none 1 := ⟨q_2812, q_152, by decide +kernel, by decide +kernel, by decide +kernel, by decide +kernel⟩
theorem mvX13_tell : MV yX13_tell := ⟨q_2811, q_132⟩
def FX13_tell (w : Wd) (p1 : Int32) : Option (Wd) :=
  gd (inb ((w 15).1 0 33) 60) <| bnd (sW w 15 (sI (w 15) 14 (((w 15).1 0 33).toNatClampNeg) p1)) fun w2 =>
  bnd (sW w2 15 (sI (w2 15) 0 33 (((w2 15).1 0 33) + 1))) fun w4 =>
  some w4
set_option maxHeartbeats 4000000 in
set_option maxRecDepth 100000 in
theorem ctX13_tell {G : GG} {l : Launch} (w : Wd) (p1 : Int32)  {rw : Wd} (hF : FX13_tell w p1 = some rw) : CT G l yX13_tell cX13_tell 2 none rmX13_tell 0 0 [.ref (adr G 15 0), .int p1] w (none) rw := by
  refine CT.of miX13_tell [(0, .ref (adr G 15 0)), (1, .int p1)] rfl (Nat.le_of_ble_eq_true rfl) ?_
  intro p e s m args below meth c hX hR hlk
  have hX : FX G RX13 cX13_tell 2 p s m args c := hX
  unfold FX13_tell at hF
  refine J_aload_n hX dX13_tell_0 0 rfl (t := 1) rfl ?_
  refine J_get hX cb10 kModel 32 (by decide) q_1999 rfl dX13_tell_1 (t := 4) rfl ?_
  refine J_aload_n hX dX13_tell_4 0 rfl (t := 5) rfl ?_
  refine J_get hX cb10 kModel 33 (by decide) q_2000 rfl dX13_tell_5 (t := 8) rfl ?_
  refine J_iload_n hX dX13_tell_8 1 rfl (t := 9) rfl ?_
  obtain ⟨g1, hF⟩ := gd_e hF
  obtain ⟨w2, e3, hF⟩ := bnd_e hF
  refine J_iast hX (kInts (j := 14) (n := 60) (by decide) (by decide) rfl) g1 rfl e3 dX13_tell_9 (t := 10) rfl ?_
  refine J_aload_n hX dX13_tell_10 0 rfl (t := 11) rfl ?_
  refine J_dup hX dX13_tell_11 rfl (t := 12) rfl ?_
  refine J_get hX cb10 kModel 33 (by decide) q_2000 rfl dX13_tell_12 (t := 15) rfl ?_
  refine J_iconst (v := 1) hX dX13_tell_15 (by decide) (t := 16) rfl ?_
  refine J_iadd hX dX13_tell_16 (t := 17) rfl ?_
  obtain ⟨w4, e5, hF⟩ := bnd_e hF
  refine J_puti hX cb10 kModel 33 (by decide) q_2000 rfl rfl e5 (fun _ _ => Nat.le_of_ble_eq_true rfl) (fun _ _ => rfl) dX13_tell_17 (t := 20) rfl ?_
  replace hF := Option.some.inj hF
  subst hF
  exact J_vret hX hR hlk dX13_tell_20
abbrev rmX13_tellName : Room := { frames := 2, cells := 0, slots := 0, locals := 48 }
theorem miX13_tellName : MI yX13_tellName cX13_tellName 4 none 1 := ⟨q_2808, q_152, by decide +kernel, by decide +kernel, by decide +kernel, by decide +kernel⟩
theorem mvX13_tellName : MV yX13_tellName := ⟨q_2807, q_131⟩
def FX13_tellName_L2 (n : Nat) : Nat → Wd → Int64 → Int32 → Option (Wd)
  | 0 => fun _ _ _ => none
  | k + 1 => fun w l1 l3 =>
    bo1 (FX13_lengthOf n l1) fun x2 =>
    if x2 ≤ l3 then
      some w
    else
      bo1 (FX13_letterAt n l1 l3) fun x5 =>
      bo1 (FX13_tell w x5) fun w8 =>
      FX13_tellName_L2 n k w8 l1 (l3 + 1)
set_option maxHeartbeats 4000000 in
set_option maxRecDepth 100000 in
theorem LX13_tellName_2 {G : GG} {l : Launch} {p : Program} {e : Env} {s : State} {m : MethodId} {args : Array Value} {below : List Frame} {meth : Method} {c : Code} (hX : FX G RX13 cX13_tellName 4 p s m args c) (hR : meth.sig.returnType = none) (hlk : meth.locks = false) {rw : Wd} (n : Nat) : ∀ (k : Nat) (w : Wd) (l1 : Int64) (l3 : Int32) , FX13_tellName_L2 n k w l1 l3 = some rw → J G p l e rmX13_tellName s m args below meth c 4 0 0 (MQ below (QV G (none) rw) args s 0 0 (gA G)) (GH G w) 2 [(0, .ref (adr G 15 0)), (1, .long l1), (3, .int l3)] [] := by
  intro k
  induction k with
  | zero => intro w l1 l3  hF; cases hF
  | succ k ih =>
    intro w l1 l3  hF
    simp only [FX13_tellName_L2] at hF
    refine J_iload_n hX dX13_tellName_2 2 rfl (t := 3) rfl ?_
    refine J_lload_n hX dX13_tellName_3 1 rfl (t := 4) rfl ?_
    obtain ⟨x2, h1, hF⟩ := bo1_e hF
    have k3 := (ctX13_lengthOf (l := l) (G := G) (w := w) l1 n h1)
    refine J_callS hX [.long l1] [.int l3] [.int x2, .int l3] k3 miX13_lengthOf q_2527 q_2526 ⟨rfl, rfl, Nat.le_of_ble_eq_true rfl, Nat.le_of_ble_eq_true rfl⟩ rfl rfl (Nat.le_of_ble_eq_true rfl) ⟨Nat.le_of_ble_eq_true rfl, Nat.le_of_ble_eq_true rfl⟩ dX13_tellName_4 (t := 7) rfl rfl ?_
    refine J_icmp_ge (tgt := 25) hX dX13_tellName_7 (by decide) (t := 10) rfl (fun z => ?_) (fun z => ?_)
    · replace hF := it_t hF z
      replace hF := Option.some.inj hF
      subst hF
      exact J_vret hX hR hlk dX13_tellName_25
    · replace hF := it_f hF z
      refine J_aload_n hX dX13_tellName_10 0 rfl (t := 11) rfl ?_
      refine J_lload_n hX dX13_tellName_11 1 rfl (t := 12) rfl ?_
      refine J_iload_n hX dX13_tellName_12 2 rfl (t := 13) rfl ?_
      obtain ⟨x5, h4, hF⟩ := bo1_e hF
      have k6 := (ctX13_letterAt (l := l) (G := G) (w := w) l1 l3 n h4)
      refine J_callS hX [.long l1, .int l3] [.ref (adr G 15 0)] [.int x5, .ref (adr G 15 0)] k6 miX13_letterAt q_2524 q_2523 ⟨rfl, rfl, Nat.le_of_ble_eq_true rfl, Nat.le_of_ble_eq_true rfl⟩ rfl rfl (Nat.le_of_ble_eq_true rfl) ⟨Nat.le_of_ble_eq_true rfl, Nat.le_of_ble_eq_true rfl⟩ dX13_tellName_13 (t := 16) rfl rfl ?_
      obtain ⟨w8, h7, hF⟩ := bo1_e hF
      have k9 := (ctX13_tell (G := G) (l := l) w x5 h7)
      refine J_callV hX [.int x5] [] [] k9 miX13_tell mvX13_tell cb10 kModel q_2809 ⟨rfl, rfl, Nat.le_of_ble_eq_true rfl, Nat.le_of_ble_eq_true rfl⟩ rfl rfl (Nat.le_of_ble_eq_true rfl) ⟨Nat.le_of_ble_eq_true rfl, Nat.le_of_ble_eq_true rfl⟩ dX13_tellName_16 (t := 19) rfl rfl ?_
      refine J_iinc (v := l3 + 1) (lc2 := [(3, .int (l3 + 1)), (0, .ref (adr G 15 0)), (1, .long l1)]) hX dX13_tellName_19 2 rfl rfl (Nat.le_of_ble_eq_true rfl) rfl (t := 22) rfl ?_
      refine J_goto (tgt := 2) hX dX13_tellName_22 (by decide) ?_
      refine J_sub (lc2 := [(0, .ref (adr G 15 0)), (1, .long l1), (3, .int (l3 + 1))]) [1, 2, 0] rfl ?_
      exact ih w8 l1 (l3 + 1) hF
def FX13_tellName (n : Nat) (w : Wd) (p1 : Int64) : Option (Wd) :=
  FX13_tellName_L2 n n w p1 0
set_option maxHeartbeats 4000000 in
set_option maxRecDepth 100000 in
theorem ctX13_tellName {G : GG} {l : Launch} (w : Wd) (p1 : Int64)  (n : Nat) {rw : Wd} (hF : FX13_tellName n w p1 = some rw) : CT G l yX13_tellName cX13_tellName 4 none rmX13_tellName 0 0 [.ref (adr G 15 0), .long p1] w (none) rw := by
  refine CT.of miX13_tellName [(0, .ref (adr G 15 0)), (1, .long p1)] rfl (Nat.le_of_ble_eq_true rfl) ?_
  intro p e s m args below meth c hX hR hlk
  have hX : FX G RX13 cX13_tellName 4 p s m args c := hX
  unfold FX13_tellName at hF
  refine J_iconst (v := 0) hX dX13_tellName_0 (by decide) (t := 1) rfl ?_
  refine J_istore_n (lc2 := [(3, .int 0), (0, .ref (adr G 15 0)), (1, .long p1)]) hX dX13_tellName_1 rfl (Nat.le_of_ble_eq_true rfl) rfl (t := 2) rfl ?_
  refine J_sub (lc2 := [(0, .ref (adr G 15 0)), (1, .long p1), (3, .int 0)]) [1, 2, 0] rfl ?_
  exact LX13_tellName_2 hX hR hlk n n w p1 0 hF
abbrev rmX13_tellNumber : Room := { frames := 1, cells := 0, slots := 0, locals := 21 }
theorem miX13_tellNumber : MI yX13_tellNumber cX13_tellNumber 2 none 1 := ⟨q_2823, q_152, by decide +kernel, by decide +kernel, by decide +kernel, by decide +kernel⟩
theorem mvX13_tellNumber : MV yX13_tellNumber := ⟨q_2822, q_134⟩
def FX13_tellNumber (w : Wd) (p1 : Int32) : Option (Wd) :=
  if p1 ≤ 99 then
    if p1 ≤ 9 then
      bo1 (FX13_tell w (48 + (p1 - p1 / 10 * 10))) fun w2 =>
      some w2
    else
      bo1 (FX13_tell w (48 + ((p1 / 10) - (p1 / 10) / 10 * 10))) fun w5 =>
      bo1 (FX13_tell w5 (48 + (p1 - p1 / 10 * 10))) fun w8 =>
      some w8
  else
    bo1 (FX13_tell w (48 + (p1 / 100))) fun w11 =>
    if p1 ≤ 9 then
      bo1 (FX13_tell w11 (48 + (p1 - p1 / 10 * 10))) fun w14 =>
      some w14
    else
      bo1 (FX13_tell w11 (48 + ((p1 / 10) - (p1 / 10) / 10 * 10))) fun w17 =>
      bo1 (FX13_tell w17 (48 + (p1 - p1 / 10 * 10))) fun w20 =>
      some w20
set_option maxHeartbeats 4000000 in
set_option maxRecDepth 100000 in
theorem ctX13_tellNumber {G : GG} {l : Launch} (w : Wd) (p1 : Int32)  {rw : Wd} (hF : FX13_tellNumber w p1 = some rw) : CT G l yX13_tellNumber cX13_tellNumber 2 none rmX13_tellNumber 0 0 [.ref (adr G 15 0), .int p1] w (none) rw := by
  refine CT.of miX13_tellNumber [(0, .ref (adr G 15 0)), (1, .int p1)] rfl (Nat.le_of_ble_eq_true rfl) ?_
  intro p e s m args below meth c hX hR hlk
  have hX : FX G RX13 cX13_tellNumber 2 p s m args c := hX
  unfold FX13_tellNumber at hF
  refine J_iload_n hX dX13_tellNumber_0 1 rfl (t := 1) rfl ?_
  refine J_bipush (v := 99) hX dX13_tellNumber_1 (by decide) (t := 3) rfl ?_
  refine J_icmp_le (tgt := 17) hX dX13_tellNumber_3 (by decide) (t := 6) rfl (fun z => ?_) (fun z => ?_)
  · replace hF := it_t hF z
    refine J_iload_n hX dX13_tellNumber_17 1 rfl (t := 18) rfl ?_
    refine J_bipush (v := 9) hX dX13_tellNumber_18 (by decide) (t := 20) rfl ?_
    refine J_icmp_le (tgt := 37) hX dX13_tellNumber_20 (by decide) (t := 23) rfl (fun z => ?_) (fun z => ?_)
    · replace hF := it_t hF z
      refine J_aload_n hX dX13_tellNumber_37 0 rfl (t := 38) rfl ?_
      refine J_bipush (v := 48) hX dX13_tellNumber_38 (by decide) (t := 40) rfl ?_
      refine J_iload_n hX dX13_tellNumber_40 1 rfl (t := 41) rfl ?_
      refine J_bipush (v := 10) hX dX13_tellNumber_41 (by decide) (t := 43) rfl ?_
      refine J_irem hX dX13_tellNumber_43 (by decide) (t := 44) rfl ?_
      refine J_iadd hX dX13_tellNumber_44 (t := 45) rfl ?_
      obtain ⟨w2, h1, hF⟩ := bo1_e hF
      have k3 := (ctX13_tell (G := G) (l := l) w (48 + (p1 - p1 / 10 * 10)) h1)
      refine J_callV hX [.int (48 + (p1 - p1 / 10 * 10))] [] [] k3 miX13_tell mvX13_tell cb10 kModel q_2809 ⟨rfl, rfl, Nat.le_of_ble_eq_true rfl, Nat.le_of_ble_eq_true rfl⟩ rfl rfl (Nat.le_of_ble_eq_true rfl) ⟨Nat.le_of_ble_eq_true rfl, Nat.le_of_ble_eq_true rfl⟩ dX13_tellNumber_45 (t := 48) rfl rfl ?_
      replace hF := Option.some.inj hF
      subst hF
      exact J_vret hX hR hlk dX13_tellNumber_48
    · replace hF := it_f hF z
      refine J_aload_n hX dX13_tellNumber_23 0 rfl (t := 24) rfl ?_
      refine J_bipush (v := 48) hX dX13_tellNumber_24 (by decide) (t := 26) rfl ?_
      refine J_iload_n hX dX13_tellNumber_26 1 rfl (t := 27) rfl ?_
      refine J_bipush (v := 10) hX dX13_tellNumber_27 (by decide) (t := 29) rfl ?_
      refine J_idiv hX dX13_tellNumber_29 (by decide) (t := 30) rfl ?_
      refine J_bipush (v := 10) hX dX13_tellNumber_30 (by decide) (t := 32) rfl ?_
      refine J_irem hX dX13_tellNumber_32 (by decide) (t := 33) rfl ?_
      refine J_iadd hX dX13_tellNumber_33 (t := 34) rfl ?_
      obtain ⟨w5, h4, hF⟩ := bo1_e hF
      have k6 := (ctX13_tell (G := G) (l := l) w (48 + ((p1 / 10) - (p1 / 10) / 10 * 10)) h4)
      refine J_callV hX [.int (48 + ((p1 / 10) - (p1 / 10) / 10 * 10))] [] [] k6 miX13_tell mvX13_tell cb10 kModel q_2809 ⟨rfl, rfl, Nat.le_of_ble_eq_true rfl, Nat.le_of_ble_eq_true rfl⟩ rfl rfl (Nat.le_of_ble_eq_true rfl) ⟨Nat.le_of_ble_eq_true rfl, Nat.le_of_ble_eq_true rfl⟩ dX13_tellNumber_34 (t := 37) rfl rfl ?_
      refine J_aload_n hX dX13_tellNumber_37 0 rfl (t := 38) rfl ?_
      refine J_bipush (v := 48) hX dX13_tellNumber_38 (by decide) (t := 40) rfl ?_
      refine J_iload_n hX dX13_tellNumber_40 1 rfl (t := 41) rfl ?_
      refine J_bipush (v := 10) hX dX13_tellNumber_41 (by decide) (t := 43) rfl ?_
      refine J_irem hX dX13_tellNumber_43 (by decide) (t := 44) rfl ?_
      refine J_iadd hX dX13_tellNumber_44 (t := 45) rfl ?_
      obtain ⟨w8, h7, hF⟩ := bo1_e hF
      have k9 := (ctX13_tell (G := G) (l := l) w5 (48 + (p1 - p1 / 10 * 10)) h7)
      refine J_callV hX [.int (48 + (p1 - p1 / 10 * 10))] [] [] k9 miX13_tell mvX13_tell cb10 kModel q_2809 ⟨rfl, rfl, Nat.le_of_ble_eq_true rfl, Nat.le_of_ble_eq_true rfl⟩ rfl rfl (Nat.le_of_ble_eq_true rfl) ⟨Nat.le_of_ble_eq_true rfl, Nat.le_of_ble_eq_true rfl⟩ dX13_tellNumber_45 (t := 48) rfl rfl ?_
      replace hF := Option.some.inj hF
      subst hF
      exact J_vret hX hR hlk dX13_tellNumber_48
  · replace hF := it_f hF z
    refine J_aload_n hX dX13_tellNumber_6 0 rfl (t := 7) rfl ?_
    refine J_bipush (v := 48) hX dX13_tellNumber_7 (by decide) (t := 9) rfl ?_
    refine J_iload_n hX dX13_tellNumber_9 1 rfl (t := 10) rfl ?_
    refine J_bipush (v := 100) hX dX13_tellNumber_10 (by decide) (t := 12) rfl ?_
    refine J_idiv hX dX13_tellNumber_12 (by decide) (t := 13) rfl ?_
    refine J_iadd hX dX13_tellNumber_13 (t := 14) rfl ?_
    obtain ⟨w11, h10, hF⟩ := bo1_e hF
    have k12 := (ctX13_tell (G := G) (l := l) w (48 + (p1 / 100)) h10)
    refine J_callV hX [.int (48 + (p1 / 100))] [] [] k12 miX13_tell mvX13_tell cb10 kModel q_2809 ⟨rfl, rfl, Nat.le_of_ble_eq_true rfl, Nat.le_of_ble_eq_true rfl⟩ rfl rfl (Nat.le_of_ble_eq_true rfl) ⟨Nat.le_of_ble_eq_true rfl, Nat.le_of_ble_eq_true rfl⟩ dX13_tellNumber_14 (t := 17) rfl rfl ?_
    refine J_iload_n hX dX13_tellNumber_17 1 rfl (t := 18) rfl ?_
    refine J_bipush (v := 9) hX dX13_tellNumber_18 (by decide) (t := 20) rfl ?_
    refine J_icmp_le (tgt := 37) hX dX13_tellNumber_20 (by decide) (t := 23) rfl (fun z => ?_) (fun z => ?_)
    · replace hF := it_t hF z
      refine J_aload_n hX dX13_tellNumber_37 0 rfl (t := 38) rfl ?_
      refine J_bipush (v := 48) hX dX13_tellNumber_38 (by decide) (t := 40) rfl ?_
      refine J_iload_n hX dX13_tellNumber_40 1 rfl (t := 41) rfl ?_
      refine J_bipush (v := 10) hX dX13_tellNumber_41 (by decide) (t := 43) rfl ?_
      refine J_irem hX dX13_tellNumber_43 (by decide) (t := 44) rfl ?_
      refine J_iadd hX dX13_tellNumber_44 (t := 45) rfl ?_
      obtain ⟨w14, h13, hF⟩ := bo1_e hF
      have k15 := (ctX13_tell (G := G) (l := l) w11 (48 + (p1 - p1 / 10 * 10)) h13)
      refine J_callV hX [.int (48 + (p1 - p1 / 10 * 10))] [] [] k15 miX13_tell mvX13_tell cb10 kModel q_2809 ⟨rfl, rfl, Nat.le_of_ble_eq_true rfl, Nat.le_of_ble_eq_true rfl⟩ rfl rfl (Nat.le_of_ble_eq_true rfl) ⟨Nat.le_of_ble_eq_true rfl, Nat.le_of_ble_eq_true rfl⟩ dX13_tellNumber_45 (t := 48) rfl rfl ?_
      replace hF := Option.some.inj hF
      subst hF
      exact J_vret hX hR hlk dX13_tellNumber_48
    · replace hF := it_f hF z
      refine J_aload_n hX dX13_tellNumber_23 0 rfl (t := 24) rfl ?_
      refine J_bipush (v := 48) hX dX13_tellNumber_24 (by decide) (t := 26) rfl ?_
      refine J_iload_n hX dX13_tellNumber_26 1 rfl (t := 27) rfl ?_
      refine J_bipush (v := 10) hX dX13_tellNumber_27 (by decide) (t := 29) rfl ?_
      refine J_idiv hX dX13_tellNumber_29 (by decide) (t := 30) rfl ?_
      refine J_bipush (v := 10) hX dX13_tellNumber_30 (by decide) (t := 32) rfl ?_
      refine J_irem hX dX13_tellNumber_32 (by decide) (t := 33) rfl ?_
      refine J_iadd hX dX13_tellNumber_33 (t := 34) rfl ?_
      obtain ⟨w17, h16, hF⟩ := bo1_e hF
      have k18 := (ctX13_tell (G := G) (l := l) w11 (48 + ((p1 / 10) - (p1 / 10) / 10 * 10)) h16)
      refine J_callV hX [.int (48 + ((p1 / 10) - (p1 / 10) / 10 * 10))] [] [] k18 miX13_tell mvX13_tell cb10 kModel q_2809 ⟨rfl, rfl, Nat.le_of_ble_eq_true rfl, Nat.le_of_ble_eq_true rfl⟩ rfl rfl (Nat.le_of_ble_eq_true rfl) ⟨Nat.le_of_ble_eq_true rfl, Nat.le_of_ble_eq_true rfl⟩ dX13_tellNumber_34 (t := 37) rfl rfl ?_
      refine J_aload_n hX dX13_tellNumber_37 0 rfl (t := 38) rfl ?_
      refine J_bipush (v := 48) hX dX13_tellNumber_38 (by decide) (t := 40) rfl ?_
      refine J_iload_n hX dX13_tellNumber_40 1 rfl (t := 41) rfl ?_
      refine J_bipush (v := 10) hX dX13_tellNumber_41 (by decide) (t := 43) rfl ?_
      refine J_irem hX dX13_tellNumber_43 (by decide) (t := 44) rfl ?_
      refine J_iadd hX dX13_tellNumber_44 (t := 45) rfl ?_
      obtain ⟨w20, h19, hF⟩ := bo1_e hF
      have k21 := (ctX13_tell (G := G) (l := l) w17 (48 + (p1 - p1 / 10 * 10)) h19)
      refine J_callV hX [.int (48 + (p1 - p1 / 10 * 10))] [] [] k21 miX13_tell mvX13_tell cb10 kModel q_2809 ⟨rfl, rfl, Nat.le_of_ble_eq_true rfl, Nat.le_of_ble_eq_true rfl⟩ rfl rfl (Nat.le_of_ble_eq_true rfl) ⟨Nat.le_of_ble_eq_true rfl, Nat.le_of_ble_eq_true rfl⟩ dX13_tellNumber_45 (t := 48) rfl rfl ?_
      replace hF := Option.some.inj hF
      subst hF
      exact J_vret hX hR hlk dX13_tellNumber_48
abbrev rmX13_markOf : Room := { frames := 2, cells := 0, slots := 0, locals := 42 }
theorem miX13_markOf : MI yX13_markOf cX13_markOf 3 (some .int) 2 := ⟨q_2816, q_152, by decide +kernel, by decide +kernel, by decide +kernel, by decide +kernel⟩
theorem mvX13_markOf : MV yX13_markOf := ⟨q_2815, q_133⟩
def FX13_markOf (w : Wd) (p1 : Int32) (p2 : Int32) : Option (Int32) :=
  bo1 (FX13_of w p1 7) fun x2 =>
  if p2 < x2 then
    bo1 (FX13_of w p1 8) fun x5 =>
    bnd (FX13_has x5 p2) fun x8 =>
    if x8 = true then
      some 104
    else
      some 108
  else
    some 46
set_option maxHeartbeats 4000000 in
set_option maxRecDepth 100000 in
theorem ctX13_markOf {G : GG} {l : Launch} (w : Wd) (p1 : Int32) (p2 : Int32)  {rx : Int32} (hF : FX13_markOf w p1 p2 = some rx) : CT G l yX13_markOf cX13_markOf 3 (some .int) rmX13_markOf 0 0 [.ref (adr G 15 0), .int p1, .int p2] w (some (.int rx)) w := by
  refine CT.of miX13_markOf [(0, .ref (adr G 15 0)), (1, .int p1), (2, .int p2)] rfl (Nat.le_of_ble_eq_true rfl) ?_
  intro p e s m args below meth c hX hR hlk
  have hX : FX G RX13 cX13_markOf 3 p s m args c := hX
  unfold FX13_markOf at hF
  refine J_iload_n hX dX13_markOf_0 2 rfl (t := 1) rfl ?_
  refine J_aload_n hX dX13_markOf_1 0 rfl (t := 2) rfl ?_
  refine J_iload_n hX dX13_markOf_2 1 rfl (t := 3) rfl ?_
  refine J_bipush (v := 7) hX dX13_markOf_3 (by decide) (t := 5) rfl ?_
  obtain ⟨x2, h1, hF⟩ := bo1_e hF
  have k3 := (ctX13_of (G := G) (l := l) w p1 7 h1)
  refine J_callV hX [.int p1, .int 7] [.int p2] [.int x2, .int p2] k3 miX13_of mvX13_of cb10 kModel q_2237 ⟨rfl, rfl, Nat.le_of_ble_eq_true rfl, Nat.le_of_ble_eq_true rfl⟩ rfl rfl (Nat.le_of_ble_eq_true rfl) ⟨Nat.le_of_ble_eq_true rfl, Nat.le_of_ble_eq_true rfl⟩ dX13_markOf_5 (t := 8) rfl rfl ?_
  refine J_icmp_lt (tgt := 14) hX dX13_markOf_8 (by decide) (t := 11) rfl (fun z => ?_) (fun z => ?_)
  · replace hF := it_t hF z
    refine J_aload_n hX dX13_markOf_14 0 rfl (t := 15) rfl ?_
    refine J_iload_n hX dX13_markOf_15 1 rfl (t := 16) rfl ?_
    refine J_bipush (v := 8) hX dX13_markOf_16 (by decide) (t := 18) rfl ?_
    obtain ⟨x5, h4, hF⟩ := bo1_e hF
    have k6 := (ctX13_of (G := G) (l := l) w p1 8 h4)
    refine J_callV hX [.int p1, .int 8] [] [.int x5] k6 miX13_of mvX13_of cb10 kModel q_2237 ⟨rfl, rfl, Nat.le_of_ble_eq_true rfl, Nat.le_of_ble_eq_true rfl⟩ rfl rfl (Nat.le_of_ble_eq_true rfl) ⟨Nat.le_of_ble_eq_true rfl, Nat.le_of_ble_eq_true rfl⟩ dX13_markOf_18 (t := 21) rfl rfl ?_
    refine J_iload_n hX dX13_markOf_21 2 rfl (t := 22) rfl ?_
    obtain ⟨x8, h7, hF⟩ := bnd_e hF
    have k9 := (ctX13_has (l := l) (G := G) (w := w) x5 p2 h7)
    refine J_callS hX [.int x5, .int p2] [] [.int (bI x8)] k9 miX13_has q_2818 q_2817 ⟨rfl, rfl, Nat.le_of_ble_eq_true rfl, Nat.le_of_ble_eq_true rfl⟩ rfl rfl (Nat.le_of_ble_eq_true rfl) ⟨Nat.le_of_ble_eq_true rfl, Nat.le_of_ble_eq_true rfl⟩ dX13_markOf_22 (t := 25) rfl rfl ?_
    refine J_ifZ_eq (tgt := 33) hX dX13_markOf_25 (by decide) (t := 28) rfl (fun z => ?_) (fun z => ?_)
    · replace hF := ib_f hF z
      refine J_bipush (v := 108) hX dX13_markOf_33 (by decide) (t := 35) rfl ?_
      replace hF := Option.some.inj hF
      subst hF
      exact J_iret hX hR hlk dX13_markOf_35
    · replace hF := it_t hF z
      refine J_bipush (v := 104) hX dX13_markOf_28 (by decide) (t := 30) rfl ?_
      refine J_goto (tgt := 35) hX dX13_markOf_30 (by decide) ?_
      replace hF := Option.some.inj hF
      subst hF
      exact J_iret hX hR hlk dX13_markOf_35
  · replace hF := it_f hF z
    refine J_bipush (v := 46) hX dX13_markOf_11 (by decide) (t := 13) rfl ?_
    replace hF := Option.some.inj hF
    subst hF
    exact J_iret hX hR hlk dX13_markOf_13
abbrev rmX13_tellReceipt : Room := { frames := 3, cells := 0, slots := 0, locals := 71 }
theorem miX13_tellReceipt : MI yX13_tellReceipt cX13_tellReceipt 3 none 1 := ⟨q_2804, q_152, by decide +kernel, by decide +kernel, by decide +kernel, by decide +kernel⟩
theorem mvX13_tellReceipt : MV yX13_tellReceipt := ⟨q_2803, q_130⟩
def FX13_tellReceipt_L55 (n : Nat) : Nat → Wd → Int32 → Int32 → Option (Wd)
  | 0 => fun _ _ _ => none
  | k + 1 => fun w l1 l2 =>
    bo1 (FX13_of w l1 3) fun x34 =>
    if x34 ≤ l2 then
      bo1 (FX13_tell w 32) fun w37 =>
      bo1 (FX13_receiptOf n w37 l1) fun x40 =>
      bo1 (FX13_tellNumber w37 x40) fun w43 =>
      bo1 (FX13_tell w43 10) fun w46 =>
      some w46
    else
      bo1 (FX13_markOf w l1 l2) fun x49 =>
      bo1 (FX13_tell w x49) fun w52 =>
      FX13_tellReceipt_L55 n k w52 l1 (l2 + 1)
set_option maxHeartbeats 4000000 in
set_option maxRecDepth 100000 in
theorem LX13_tellReceipt_55 {G : GG} {l : Launch} {p : Program} {e : Env} {s : State} {m : MethodId} {args : Array Value} {below : List Frame} {meth : Method} {c : Code} (hX : FX G RX13 cX13_tellReceipt 3 p s m args c) (hR : meth.sig.returnType = none) (hlk : meth.locks = false) {rw : Wd} (n : Nat) : ∀ (k : Nat) (w : Wd) (l1 : Int32) (l2 : Int32) , FX13_tellReceipt_L55 n k w l1 l2 = some rw → J G p l e rmX13_tellReceipt s m args below meth c 3 0 0 (MQ below (QV G (none) rw) args s 0 0 (gA G)) (GH G w) 55 [(0, .ref (adr G 15 0)), (1, .int l1), (2, .int l2)] [] := by
  intro k
  induction k with
  | zero => intro w l1 l2  hF; cases hF
  | succ k ih =>
    intro w l1 l2  hF
    simp only [FX13_tellReceipt_L55] at hF
    refine J_iload_n hX dX13_tellReceipt_55 2 rfl (t := 56) rfl ?_
    refine J_aload_n hX dX13_tellReceipt_56 0 rfl (t := 57) rfl ?_
    refine J_iload_n hX dX13_tellReceipt_57 1 rfl (t := 58) rfl ?_
    refine J_iconst (v := 3) hX dX13_tellReceipt_58 (by decide) (t := 59) rfl ?_
    obtain ⟨x34, h33, hF⟩ := bo1_e hF
    have k35 := (ctX13_of (G := G) (l := l) w l1 3 h33)
    refine J_callV hX [.int l1, .int 3] [.int l2] [.int x34, .int l2] k35 miX13_of mvX13_of cb10 kModel q_2237 ⟨rfl, rfl, Nat.le_of_ble_eq_true rfl, Nat.le_of_ble_eq_true rfl⟩ rfl rfl (Nat.le_of_ble_eq_true rfl) ⟨Nat.le_of_ble_eq_true rfl, Nat.le_of_ble_eq_true rfl⟩ dX13_tellReceipt_59 (t := 62) rfl rfl ?_
    refine J_icmp_ge (tgt := 81) hX dX13_tellReceipt_62 (by decide) (t := 65) rfl (fun z => ?_) (fun z => ?_)
    · replace hF := it_t hF z
      refine J_aload_n hX dX13_tellReceipt_81 0 rfl (t := 82) rfl ?_
      refine J_bipush (v := 32) hX dX13_tellReceipt_82 (by decide) (t := 84) rfl ?_
      obtain ⟨w37, h36, hF⟩ := bo1_e hF
      have k38 := (ctX13_tell (G := G) (l := l) w 32 h36)
      refine J_callV hX [.int 32] [] [] k38 miX13_tell mvX13_tell cb10 kModel q_2809 ⟨rfl, rfl, Nat.le_of_ble_eq_true rfl, Nat.le_of_ble_eq_true rfl⟩ rfl rfl (Nat.le_of_ble_eq_true rfl) ⟨Nat.le_of_ble_eq_true rfl, Nat.le_of_ble_eq_true rfl⟩ dX13_tellReceipt_84 (t := 87) rfl rfl ?_
      refine J_aload_n hX dX13_tellReceipt_87 0 rfl (t := 88) rfl ?_
      refine J_aload_n hX dX13_tellReceipt_88 0 rfl (t := 89) rfl ?_
      refine J_iload_n hX dX13_tellReceipt_89 1 rfl (t := 90) rfl ?_
      obtain ⟨x40, h39, hF⟩ := bo1_e hF
      have k41 := (ctX13_receiptOf (G := G) (l := l) w37 l1 n h39)
      refine J_callV hX [.int l1] [.ref (adr G 15 0)] [.int x40, .ref (adr G 15 0)] k41 miX13_receiptOf mvX13_receiptOf cb10 kModel q_2566 ⟨rfl, rfl, Nat.le_of_ble_eq_true rfl, Nat.le_of_ble_eq_true rfl⟩ rfl rfl (Nat.le_of_ble_eq_true rfl) ⟨Nat.le_of_ble_eq_true rfl, Nat.le_of_ble_eq_true rfl⟩ dX13_tellReceipt_90 (t := 93) rfl rfl ?_
      obtain ⟨w43, h42, hF⟩ := bo1_e hF
      have k44 := (ctX13_tellNumber (G := G) (l := l) w37 x40 h42)
      refine J_callV hX [.int x40] [] [] k44 miX13_tellNumber mvX13_tellNumber cb10 kModel q_2820 ⟨rfl, rfl, Nat.le_of_ble_eq_true rfl, Nat.le_of_ble_eq_true rfl⟩ rfl rfl (Nat.le_of_ble_eq_true rfl) ⟨Nat.le_of_ble_eq_true rfl, Nat.le_of_ble_eq_true rfl⟩ dX13_tellReceipt_93 (t := 96) rfl rfl ?_
      refine J_aload_n hX dX13_tellReceipt_96 0 rfl (t := 97) rfl ?_
      refine J_bipush (v := 10) hX dX13_tellReceipt_97 (by decide) (t := 99) rfl ?_
      obtain ⟨w46, h45, hF⟩ := bo1_e hF
      have k47 := (ctX13_tell (G := G) (l := l) w43 10 h45)
      refine J_callV hX [.int 10] [] [] k47 miX13_tell mvX13_tell cb10 kModel q_2809 ⟨rfl, rfl, Nat.le_of_ble_eq_true rfl, Nat.le_of_ble_eq_true rfl⟩ rfl rfl (Nat.le_of_ble_eq_true rfl) ⟨Nat.le_of_ble_eq_true rfl, Nat.le_of_ble_eq_true rfl⟩ dX13_tellReceipt_99 (t := 102) rfl rfl ?_
      replace hF := Option.some.inj hF
      subst hF
      exact J_vret hX hR hlk dX13_tellReceipt_102
    · replace hF := it_f hF z
      refine J_aload_n hX dX13_tellReceipt_65 0 rfl (t := 66) rfl ?_
      refine J_aload_n hX dX13_tellReceipt_66 0 rfl (t := 67) rfl ?_
      refine J_iload_n hX dX13_tellReceipt_67 1 rfl (t := 68) rfl ?_
      refine J_iload_n hX dX13_tellReceipt_68 2 rfl (t := 69) rfl ?_
      obtain ⟨x49, h48, hF⟩ := bo1_e hF
      have k50 := (ctX13_markOf (G := G) (l := l) w l1 l2 h48)
      refine J_callV hX [.int l1, .int l2] [.ref (adr G 15 0)] [.int x49, .ref (adr G 15 0)] k50 miX13_markOf mvX13_markOf cb10 kModel q_2813 ⟨rfl, rfl, Nat.le_of_ble_eq_true rfl, Nat.le_of_ble_eq_true rfl⟩ rfl rfl (Nat.le_of_ble_eq_true rfl) ⟨Nat.le_of_ble_eq_true rfl, Nat.le_of_ble_eq_true rfl⟩ dX13_tellReceipt_69 (t := 72) rfl rfl ?_
      obtain ⟨w52, h51, hF⟩ := bo1_e hF
      have k53 := (ctX13_tell (G := G) (l := l) w x49 h51)
      refine J_callV hX [.int x49] [] [] k53 miX13_tell mvX13_tell cb10 kModel q_2809 ⟨rfl, rfl, Nat.le_of_ble_eq_true rfl, Nat.le_of_ble_eq_true rfl⟩ rfl rfl (Nat.le_of_ble_eq_true rfl) ⟨Nat.le_of_ble_eq_true rfl, Nat.le_of_ble_eq_true rfl⟩ dX13_tellReceipt_72 (t := 75) rfl rfl ?_
      refine J_iinc (v := l2 + 1) (lc2 := [(2, .int (l2 + 1)), (0, .ref (adr G 15 0)), (1, .int l1)]) hX dX13_tellReceipt_75 2 rfl rfl (Nat.le_of_ble_eq_true rfl) rfl (t := 78) rfl ?_
      refine J_goto (tgt := 55) hX dX13_tellReceipt_78 (by decide) ?_
      refine J_sub (lc2 := [(0, .ref (adr G 15 0)), (1, .int l1), (2, .int (l2 + 1))]) [1, 2, 0] rfl ?_
      exact ih w52 l1 (l2 + 1) hF
def FX13_tellReceipt (n : Nat) (w : Wd) (p1 : Int32) : Option (Wd) :=
  bnd (sW w 15 (sI (w 15) 0 33 0)) fun w1 =>
  bo1 (FX13_of w1 p1 0) fun x4 =>
  bnd (FX13_nme 1 x4) fun x7 =>
  bo1 (FX13_nameAt w1 x7) fun x10 =>
  bo1 (FX13_tellName n w1 x10) fun w13 =>
  bo1 (FX13_tell w13 64) fun w16 =>
  bo1 (FX13_of w16 p1 1) fun x19 =>
  bnd (FX13_nme 0 x19) fun x22 =>
  bo1 (FX13_nameAt w16 x22) fun x25 =>
  bo1 (FX13_tellName n w16 x25) fun w28 =>
  bo1 (FX13_tell w28 32) fun w31 =>
  FX13_tellReceipt_L55 n n w31 p1 0
set_option maxHeartbeats 4000000 in
set_option maxRecDepth 100000 in
theorem ctX13_tellReceipt {G : GG} {l : Launch} (w : Wd) (p1 : Int32)  (n : Nat) {rw : Wd} (hF : FX13_tellReceipt n w p1 = some rw) : CT G l yX13_tellReceipt cX13_tellReceipt 3 none rmX13_tellReceipt 0 0 [.ref (adr G 15 0), .int p1] w (none) rw := by
  refine CT.of miX13_tellReceipt [(0, .ref (adr G 15 0)), (1, .int p1)] rfl (Nat.le_of_ble_eq_true rfl) ?_
  intro p e s m args below meth c hX hR hlk
  have hX : FX G RX13 cX13_tellReceipt 3 p s m args c := hX
  unfold FX13_tellReceipt at hF
  refine J_aload_n hX dX13_tellReceipt_0 0 rfl (t := 1) rfl ?_
  refine J_iconst (v := 0) hX dX13_tellReceipt_1 (by decide) (t := 2) rfl ?_
  obtain ⟨w1, e2, hF⟩ := bnd_e hF
  refine J_puti hX cb10 kModel 33 (by decide) q_2000 rfl rfl e2 (fun _ _ => Nat.le_of_ble_eq_true rfl) (fun _ _ => rfl) dX13_tellReceipt_2 (t := 5) rfl ?_
  refine J_aload_n hX dX13_tellReceipt_5 0 rfl (t := 6) rfl ?_
  refine J_aload_n hX dX13_tellReceipt_6 0 rfl (t := 7) rfl ?_
  refine J_iconst (v := 1) hX dX13_tellReceipt_7 (by decide) (t := 8) rfl ?_
  refine J_aload_n hX dX13_tellReceipt_8 0 rfl (t := 9) rfl ?_
  refine J_iload_n hX dX13_tellReceipt_9 1 rfl (t := 10) rfl ?_
  refine J_iconst (v := 0) hX dX13_tellReceipt_10 (by decide) (t := 11) rfl ?_
  obtain ⟨x4, h3, hF⟩ := bo1_e hF
  have k5 := (ctX13_of (G := G) (l := l) w1 p1 0 h3)
  refine J_callV hX [.int p1, .int 0] [.int 1, .ref (adr G 15 0), .ref (adr G 15 0)] [.int x4, .int 1, .ref (adr G 15 0), .ref (adr G 15 0)] k5 miX13_of mvX13_of cb10 kModel q_2237 ⟨rfl, rfl, Nat.le_of_ble_eq_true rfl, Nat.le_of_ble_eq_true rfl⟩ rfl rfl (Nat.le_of_ble_eq_true rfl) ⟨Nat.le_of_ble_eq_true rfl, Nat.le_of_ble_eq_true rfl⟩ dX13_tellReceipt_11 (t := 14) rfl rfl ?_
  obtain ⟨x7, h6, hF⟩ := bnd_e hF
  have k8 := (ctX13_nme (l := l) (G := G) (w := w1) 1 x4 h6)
  refine J_callS hX [.int 1, .int x4] [.ref (adr G 15 0), .ref (adr G 15 0)] [.int x7, .ref (adr G 15 0), .ref (adr G 15 0)] k8 miX13_nme q_2152 q_2151 ⟨rfl, rfl, Nat.le_of_ble_eq_true rfl, Nat.le_of_ble_eq_true rfl⟩ rfl rfl (Nat.le_of_ble_eq_true rfl) ⟨Nat.le_of_ble_eq_true rfl, Nat.le_of_ble_eq_true rfl⟩ dX13_tellReceipt_14 (t := 17) rfl rfl ?_
  obtain ⟨x10, h9, hF⟩ := bo1_e hF
  have k11 := (ctX13_nameAt (G := G) (l := l) w1 x7 h9)
  refine J_callV hX [.int x7] [.ref (adr G 15 0)] [.long x10, .ref (adr G 15 0)] k11 miX13_nameAt mvX13_nameAt cb10 kModel q_2160 ⟨rfl, rfl, Nat.le_of_ble_eq_true rfl, Nat.le_of_ble_eq_true rfl⟩ rfl rfl (Nat.le_of_ble_eq_true rfl) ⟨Nat.le_of_ble_eq_true rfl, Nat.le_of_ble_eq_true rfl⟩ dX13_tellReceipt_17 (t := 20) rfl rfl ?_
  obtain ⟨w13, h12, hF⟩ := bo1_e hF
  have k14 := (ctX13_tellName (G := G) (l := l) w1 x10 n h12)
  refine J_callV hX [.long x10] [] [] k14 miX13_tellName mvX13_tellName cb10 kModel q_2805 ⟨rfl, rfl, Nat.le_of_ble_eq_true rfl, Nat.le_of_ble_eq_true rfl⟩ rfl rfl (Nat.le_of_ble_eq_true rfl) ⟨Nat.le_of_ble_eq_true rfl, Nat.le_of_ble_eq_true rfl⟩ dX13_tellReceipt_20 (t := 23) rfl rfl ?_
  refine J_aload_n hX dX13_tellReceipt_23 0 rfl (t := 24) rfl ?_
  refine J_bipush (v := 64) hX dX13_tellReceipt_24 (by decide) (t := 26) rfl ?_
  obtain ⟨w16, h15, hF⟩ := bo1_e hF
  have k17 := (ctX13_tell (G := G) (l := l) w13 64 h15)
  refine J_callV hX [.int 64] [] [] k17 miX13_tell mvX13_tell cb10 kModel q_2809 ⟨rfl, rfl, Nat.le_of_ble_eq_true rfl, Nat.le_of_ble_eq_true rfl⟩ rfl rfl (Nat.le_of_ble_eq_true rfl) ⟨Nat.le_of_ble_eq_true rfl, Nat.le_of_ble_eq_true rfl⟩ dX13_tellReceipt_26 (t := 29) rfl rfl ?_
  refine J_aload_n hX dX13_tellReceipt_29 0 rfl (t := 30) rfl ?_
  refine J_aload_n hX dX13_tellReceipt_30 0 rfl (t := 31) rfl ?_
  refine J_iconst (v := 0) hX dX13_tellReceipt_31 (by decide) (t := 32) rfl ?_
  refine J_aload_n hX dX13_tellReceipt_32 0 rfl (t := 33) rfl ?_
  refine J_iload_n hX dX13_tellReceipt_33 1 rfl (t := 34) rfl ?_
  refine J_iconst (v := 1) hX dX13_tellReceipt_34 (by decide) (t := 35) rfl ?_
  obtain ⟨x19, h18, hF⟩ := bo1_e hF
  have k20 := (ctX13_of (G := G) (l := l) w16 p1 1 h18)
  refine J_callV hX [.int p1, .int 1] [.int 0, .ref (adr G 15 0), .ref (adr G 15 0)] [.int x19, .int 0, .ref (adr G 15 0), .ref (adr G 15 0)] k20 miX13_of mvX13_of cb10 kModel q_2237 ⟨rfl, rfl, Nat.le_of_ble_eq_true rfl, Nat.le_of_ble_eq_true rfl⟩ rfl rfl (Nat.le_of_ble_eq_true rfl) ⟨Nat.le_of_ble_eq_true rfl, Nat.le_of_ble_eq_true rfl⟩ dX13_tellReceipt_35 (t := 38) rfl rfl ?_
  obtain ⟨x22, h21, hF⟩ := bnd_e hF
  have k23 := (ctX13_nme (l := l) (G := G) (w := w16) 0 x19 h21)
  refine J_callS hX [.int 0, .int x19] [.ref (adr G 15 0), .ref (adr G 15 0)] [.int x22, .ref (adr G 15 0), .ref (adr G 15 0)] k23 miX13_nme q_2152 q_2151 ⟨rfl, rfl, Nat.le_of_ble_eq_true rfl, Nat.le_of_ble_eq_true rfl⟩ rfl rfl (Nat.le_of_ble_eq_true rfl) ⟨Nat.le_of_ble_eq_true rfl, Nat.le_of_ble_eq_true rfl⟩ dX13_tellReceipt_38 (t := 41) rfl rfl ?_
  obtain ⟨x25, h24, hF⟩ := bo1_e hF
  have k26 := (ctX13_nameAt (G := G) (l := l) w16 x22 h24)
  refine J_callV hX [.int x22] [.ref (adr G 15 0)] [.long x25, .ref (adr G 15 0)] k26 miX13_nameAt mvX13_nameAt cb10 kModel q_2160 ⟨rfl, rfl, Nat.le_of_ble_eq_true rfl, Nat.le_of_ble_eq_true rfl⟩ rfl rfl (Nat.le_of_ble_eq_true rfl) ⟨Nat.le_of_ble_eq_true rfl, Nat.le_of_ble_eq_true rfl⟩ dX13_tellReceipt_41 (t := 44) rfl rfl ?_
  obtain ⟨w28, h27, hF⟩ := bo1_e hF
  have k29 := (ctX13_tellName (G := G) (l := l) w16 x25 n h27)
  refine J_callV hX [.long x25] [] [] k29 miX13_tellName mvX13_tellName cb10 kModel q_2805 ⟨rfl, rfl, Nat.le_of_ble_eq_true rfl, Nat.le_of_ble_eq_true rfl⟩ rfl rfl (Nat.le_of_ble_eq_true rfl) ⟨Nat.le_of_ble_eq_true rfl, Nat.le_of_ble_eq_true rfl⟩ dX13_tellReceipt_44 (t := 47) rfl rfl ?_
  refine J_aload_n hX dX13_tellReceipt_47 0 rfl (t := 48) rfl ?_
  refine J_bipush (v := 32) hX dX13_tellReceipt_48 (by decide) (t := 50) rfl ?_
  obtain ⟨w31, h30, hF⟩ := bo1_e hF
  have k32 := (ctX13_tell (G := G) (l := l) w28 32 h30)
  refine J_callV hX [.int 32] [] [] k32 miX13_tell mvX13_tell cb10 kModel q_2809 ⟨rfl, rfl, Nat.le_of_ble_eq_true rfl, Nat.le_of_ble_eq_true rfl⟩ rfl rfl (Nat.le_of_ble_eq_true rfl) ⟨Nat.le_of_ble_eq_true rfl, Nat.le_of_ble_eq_true rfl⟩ dX13_tellReceipt_50 (t := 53) rfl rfl ?_
  refine J_iconst (v := 0) hX dX13_tellReceipt_53 (by decide) (t := 54) rfl ?_
  refine J_istore_n (lc2 := [(2, .int 0), (0, .ref (adr G 15 0)), (1, .int p1)]) hX dX13_tellReceipt_54 rfl (Nat.le_of_ble_eq_true rfl) rfl (t := 55) rfl ?_
  refine J_sub (lc2 := [(0, .ref (adr G 15 0)), (1, .int p1), (2, .int 0)]) [1, 2, 0] rfl ?_
  exact LX13_tellReceipt_55 hX hR hlk n n w31 p1 0 hF
abbrev rmX13_printReceipt : Room := { frames := 4, cells := 0, slots := 0, locals := 93 }
theorem miX13_printReceipt : MI yX13_printReceipt cX13_printReceipt 2 (some .int) 1 := ⟨q_2800, q_152, by decide +kernel, by decide +kernel, by decide +kernel, by decide +kernel⟩
theorem mvX13_printReceipt : MV yX13_printReceipt := ⟨q_2798, q_2799⟩
def FX13_printReceipt (n : Nat) (w : Wd) (p1 : Int32) : Option (Int32 × Wd) :=
  bo1 (FX13_isShout0 w p1) fun x2 =>
  bnd2 (FX13_goes w x2) fun x5 w6 =>
  if x5 = true then
    bo1 (FX13_tellReceipt n w6 p1) fun w9 =>
    some ((w9 15).1 0 33, w9)
  else
    some (0, w6)
set_option maxHeartbeats 4000000 in
set_option maxRecDepth 100000 in
theorem ctX13_printReceipt {G : GG} {l : Launch} (w : Wd) (p1 : Int32)  (n : Nat) {rx : Int32} {rw : Wd} (hF : FX13_printReceipt n w p1 = some (rx, rw)) : CT G l yX13_printReceipt cX13_printReceipt 2 (some .int) rmX13_printReceipt 0 0 [.ref (adr G 15 0), .int p1] w (some (.int rx)) rw := by
  refine CT.of miX13_printReceipt [(0, .ref (adr G 15 0)), (1, .int p1)] rfl (Nat.le_of_ble_eq_true rfl) ?_
  intro p e s m args below meth c hX hR hlk
  have hX : FX G RX13 cX13_printReceipt 2 p s m args c := hX
  unfold FX13_printReceipt at hF
  refine J_aload_n hX dX13_printReceipt_0 0 rfl (t := 1) rfl ?_
  refine J_aload_n hX dX13_printReceipt_1 0 rfl (t := 2) rfl ?_
  refine J_iload_n hX dX13_printReceipt_2 1 rfl (t := 3) rfl ?_
  obtain ⟨x2, h1, hF⟩ := bo1_e hF
  have k3 := (ctX13_isShout0 (G := G) (l := l) w p1 h1)
  refine J_callV hX [.int p1] [.ref (adr G 15 0)] [.int (bI x2), .ref (adr G 15 0)] k3 miX13_isShout0 mvX13_isShout0 cb10 kModel q_2260 ⟨rfl, rfl, Nat.le_of_ble_eq_true rfl, Nat.le_of_ble_eq_true rfl⟩ rfl rfl (Nat.le_of_ble_eq_true rfl) ⟨Nat.le_of_ble_eq_true rfl, Nat.le_of_ble_eq_true rfl⟩ dX13_printReceipt_3 (t := 6) rfl rfl ?_
  obtain ⟨x5, w6, h4, hF⟩ := bnd2_e hF
  have k7 := (ctX13_goes (G := G) (l := l) w x2 h4)
  refine J_callV hX [.int (bI x2)] [] [.int (bI x5)] k7 miX13_goes mvX13_goes cb10 kModel q_2078 ⟨rfl, rfl, Nat.le_of_ble_eq_true rfl, Nat.le_of_ble_eq_true rfl⟩ rfl rfl (Nat.le_of_ble_eq_true rfl) ⟨Nat.le_of_ble_eq_true rfl, Nat.le_of_ble_eq_true rfl⟩ dX13_printReceipt_6 (t := 9) rfl rfl ?_
  refine J_ifZ_ne (tgt := 14) hX dX13_printReceipt_9 (by decide) (t := 12) rfl (fun z => ?_) (fun z => ?_)
  · replace hF := it_t hF z
    refine J_aload_n hX dX13_printReceipt_14 0 rfl (t := 15) rfl ?_
    refine J_iload_n hX dX13_printReceipt_15 1 rfl (t := 16) rfl ?_
    obtain ⟨w9, h8, hF⟩ := bo1_e hF
    have k10 := (ctX13_tellReceipt (G := G) (l := l) w6 p1 n h8)
    refine J_callV hX [.int p1] [] [] k10 miX13_tellReceipt mvX13_tellReceipt cb10 kModel q_2801 ⟨rfl, rfl, Nat.le_of_ble_eq_true rfl, Nat.le_of_ble_eq_true rfl⟩ rfl rfl (Nat.le_of_ble_eq_true rfl) ⟨Nat.le_of_ble_eq_true rfl, Nat.le_of_ble_eq_true rfl⟩ dX13_printReceipt_16 (t := 19) rfl rfl ?_
    refine J_aload_n hX dX13_printReceipt_19 0 rfl (t := 20) rfl ?_
    refine J_get hX cb10 kModel 33 (by decide) q_2000 rfl dX13_printReceipt_20 (t := 23) rfl ?_
    replace hF := Option.some.inj hF
    obtain ⟨hF, hF2⟩ := Prod.mk.inj hF
    subst hF
    subst hF2
    exact J_iret hX hR hlk dX13_printReceipt_23
  · replace hF := ib_f hF z
    refine J_iconst (v := 0) hX dX13_printReceipt_12 (by decide) (t := 13) rfl ?_
    replace hF := Option.some.inj hF
    obtain ⟨hF, hF2⟩ := Prod.mk.inj hF
    subst hF
    subst hF2
    exact J_iret hX hR hlk dX13_printReceipt_13
abbrev rmX13_outputByte : Room := { frames := 2, cells := 0, slots := 0, locals := 41 }
theorem miX13_outputByte : MI yX13_outputByte cX13_outputByte 2 (some .int) 1 := ⟨q_2827, q_152, by decide +kernel, by decide +kernel, by decide +kernel, by decide +kernel⟩
theorem mvX13_outputByte : MV yX13_outputByte := ⟨q_2825, q_2826⟩
def FX13_outputByte (w : Wd) (p1 : Int32) : Option (Int32 × Wd) :=
  bnd (FX13_isIn p1.toInt64 0 ((((w 15).1 0 33) - 1).toInt64)) fun x2 =>
  bnd2 (FX13_goes w x2) fun x5 w6 =>
  if x5 = true then
    gd (inb p1 60) <|
    some ((w6 15).1 14 p1.toNatClampNeg, w6)
  else
    some (0, w6)
set_option maxHeartbeats 4000000 in
set_option maxRecDepth 100000 in
theorem ctX13_outputByte {G : GG} {l : Launch} (w : Wd) (p1 : Int32)  {rx : Int32} {rw : Wd} (hF : FX13_outputByte w p1 = some (rx, rw)) : CT G l yX13_outputByte cX13_outputByte 2 (some .int) rmX13_outputByte 0 0 [.ref (adr G 15 0), .int p1] w (some (.int rx)) rw := by
  refine CT.of miX13_outputByte [(0, .ref (adr G 15 0)), (1, .int p1)] rfl (Nat.le_of_ble_eq_true rfl) ?_
  intro p e s m args below meth c hX hR hlk
  have hX : FX G RX13 cX13_outputByte 2 p s m args c := hX
  unfold FX13_outputByte at hF
  refine J_aload_n hX dX13_outputByte_0 0 rfl (t := 1) rfl ?_
  refine J_iload_n hX dX13_outputByte_1 1 rfl (t := 2) rfl ?_
  refine J_i2l hX dX13_outputByte_2 (t := 3) rfl ?_
  refine J_lconst (v := 0) hX dX13_outputByte_3 (by decide) (t := 4) rfl ?_
  refine J_aload_n hX dX13_outputByte_4 0 rfl (t := 5) rfl ?_
  refine J_get hX cb10 kModel 33 (by decide) q_2000 rfl dX13_outputByte_5 (t := 8) rfl ?_
  refine J_iconst (v := 1) hX dX13_outputByte_8 (by decide) (t := 9) rfl ?_
  refine J_isub hX dX13_outputByte_9 (t := 10) rfl ?_
  refine J_i2l hX dX13_outputByte_10 (t := 11) rfl ?_
  obtain ⟨x2, h1, hF⟩ := bnd_e hF
  have k3 := (ctX13_isIn (l := l) (G := G) (w := w) p1.toInt64 0 ((((w 15).1 0 33) - 1).toInt64) h1)
  refine J_callS hX [.long p1.toInt64, .long 0, .long ((((w 15).1 0 33) - 1).toInt64)] [.ref (adr G 15 0)] [.int (bI x2), .ref (adr G 15 0)] k3 miX13_isIn q_2094 q_2093 ⟨rfl, rfl, Nat.le_of_ble_eq_true rfl, Nat.le_of_ble_eq_true rfl⟩ rfl rfl (Nat.le_of_ble_eq_true rfl) ⟨Nat.le_of_ble_eq_true rfl, Nat.le_of_ble_eq_true rfl⟩ dX13_outputByte_11 (t := 14) rfl rfl ?_
  obtain ⟨x5, w6, h4, hF⟩ := bnd2_e hF
  have k7 := (ctX13_goes (G := G) (l := l) w x2 h4)
  refine J_callV hX [.int (bI x2)] [] [.int (bI x5)] k7 miX13_goes mvX13_goes cb10 kModel q_2078 ⟨rfl, rfl, Nat.le_of_ble_eq_true rfl, Nat.le_of_ble_eq_true rfl⟩ rfl rfl (Nat.le_of_ble_eq_true rfl) ⟨Nat.le_of_ble_eq_true rfl, Nat.le_of_ble_eq_true rfl⟩ dX13_outputByte_14 (t := 17) rfl rfl ?_
  refine J_ifZ_eq (tgt := 29) hX dX13_outputByte_17 (by decide) (t := 20) rfl (fun z => ?_) (fun z => ?_)
  · replace hF := ib_f hF z
    refine J_iconst (v := 0) hX dX13_outputByte_29 (by decide) (t := 30) rfl ?_
    replace hF := Option.some.inj hF
    obtain ⟨hF, hF2⟩ := Prod.mk.inj hF
    subst hF
    subst hF2
    exact J_iret hX hR hlk dX13_outputByte_30
  · replace hF := it_t hF z
    refine J_aload_n hX dX13_outputByte_20 0 rfl (t := 21) rfl ?_
    refine J_get hX cb10 kModel 32 (by decide) q_1999 rfl dX13_outputByte_21 (t := 24) rfl ?_
    refine J_iload_n hX dX13_outputByte_24 1 rfl (t := 25) rfl ?_
    obtain ⟨g8, hF⟩ := gd_e hF
    refine J_iald hX (kInts (j := 14) (n := 60) (by decide) (by decide) rfl) g8 rfl dX13_outputByte_25 (t := 26) rfl ?_
    refine J_goto (tgt := 30) hX dX13_outputByte_26 (by decide) ?_
    replace hF := Option.some.inj hF
    obtain ⟨hF, hF2⟩ := Prod.mk.inj hF
    subst hF
    subst hF2
    exact J_iret hX hR hlk dX13_outputByte_30
