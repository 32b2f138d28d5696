theorem p_1069 : Cond.static yL_pick ∈ WALL := WALL_in (List.mem_append_right _ (List.mem_append_right _ (List.mem_append_right _ (List.mem_append_right _ (List.mem_append_right _ (List.mem_append_left _ (List.mem_of_getElem? (i := 85) rfl))))))) rfl
theorem p_1447 : Cond.code yL_acts cL_acts 10 (some .boolean) ∈ WALL := WALL_in (List.mem_append_right _ (List.mem_append_right _ (List.mem_append_right _ (List.mem_append_right _ (List.mem_append_right _ (List.mem_append_right _ (List.mem_append_left _ (List.mem_of_getElem? (i := 223) rfl)))))))) rfl
theorem p_1448 : Cond.methodLink RL 199 yL_pick ∈ WALL := WALL_in (List.mem_append_right _ (List.mem_append_right _ (List.mem_append_right _ (List.mem_append_right _ (List.mem_append_right _ (List.mem_append_right _ (List.mem_append_left _ (List.mem_of_getElem? (i := 224) rfl)))))))) rfl
theorem p_1449 : Cond.constant RL 203 1000000 ∈ WALL := WALL_in (List.mem_append_right _ (List.mem_append_right _ (List.mem_append_right _ (List.mem_append_right _ (List.mem_append_right _ (List.mem_append_right _ (List.mem_append_left _ (List.mem_of_getElem? (i := 225) rfl)))))))) rfl
theorem p_1450 : Cond.methodLink RL 204 yL_adds ∈ WALL := WALL_in (List.mem_append_right _ (List.mem_append_right _ (List.mem_append_right _ (List.mem_append_right _ (List.mem_append_right _ (List.mem_append_right _ (List.mem_append_left _ (List.mem_of_getElem? (i := 226) rfl)))))))) rfl
theorem p_1451 : Cond.static yL_adds ∈ WALL := WALL_in (List.mem_append_right _ (List.mem_append_right _ (List.mem_append_right _ (List.mem_append_right _ (List.mem_append_right _ (List.mem_append_right _ (List.mem_append_left _ (List.mem_of_getElem? (i := 227) rfl)))))))) rfl
theorem p_1528 : Cond.methodLink RL 208 yX13_refusal ∈ WALL := WALL_in (List.mem_append_right _ (List.mem_append_right _ (List.mem_append_right _ (List.mem_append_right _ (List.mem_append_right _ (List.mem_append_right _ (List.mem_append_right _ (List.mem_of_getElem? (i := 64) rfl)))))))) rfl
theorem p_1529 : Cond.methodLink RL 211 yX12_shout ∈ WALL := WALL_in (List.mem_append_right _ (List.mem_append_right _ (List.mem_append_right _ (List.mem_append_right _ (List.mem_append_right _ (List.mem_append_right _ (List.mem_append_right _ (List.mem_of_getElem? (i := 65) rfl)))))))) rfl
theorem p_1541 : Cond.methodLink RL 214 yX13_sell ∈ WALL := WALL_in (List.mem_append_right _ (List.mem_append_right _ (List.mem_append_right _ (List.mem_append_right _ (List.mem_append_right _ (List.mem_append_right _ (List.mem_append_right _ (List.mem_of_getElem? (i := 77) rfl)))))))) rfl
theorem p_1542 : Cond.methodLink RL 217 yL_openOne ∈ WALL := WALL_in (List.mem_append_right _ (List.mem_append_right _ (List.mem_append_right _ (List.mem_append_right _ (List.mem_append_right _ (List.mem_append_right _ (List.mem_append_right _ (List.mem_of_getElem? (i := 78) rfl)))))))) rfl
theorem p_1543 : Cond.static yL_openOne ∈ WALL := WALL_in (List.mem_append_right _ (List.mem_append_right _ (List.mem_append_right _ (List.mem_append_right _ (List.mem_append_right _ (List.mem_append_right _ (List.mem_append_right _ (List.mem_of_getElem? (i := 79) rfl)))))))) rfl
theorem p_1545 : Cond.methodLink RL 221 yX12_fake ∈ WALL := WALL_in (List.mem_append_right _ (List.mem_append_right _ (List.mem_append_right _ (List.mem_append_right _ (List.mem_append_right _ (List.mem_append_right _ (List.mem_append_right _ (List.mem_of_getElem? (i := 81) rfl)))))))) rfl
theorem p_1551 : Cond.methodLink RL 224 yX13_fake ∈ WALL := WALL_in (List.mem_append_right _ (List.mem_append_right _ (List.mem_append_right _ (List.mem_append_right _ (List.mem_append_right _ (List.mem_append_right _ (List.mem_append_right _ (List.mem_of_getElem? (i := 87) rfl)))))))) rfl
theorem p_1555 : Cond.methodLink RL 225 yX12_cancel ∈ WALL := WALL_in (List.mem_append_right _ (List.mem_append_right _ (List.mem_append_right _ (List.mem_append_right _ (List.mem_append_right _ (List.mem_append_right _ (List.mem_append_right _ (List.mem_of_getElem? (i := 91) rfl)))))))) rfl
theorem p_1560 : Cond.methodLink RL 228 yX13_cancel ∈ WALL := WALL_in (List.mem_append_right _ (List.mem_append_right _ (List.mem_append_right _ (List.mem_append_right _ (List.mem_append_right _ (List.mem_append_right _ (List.mem_append_right _ (List.mem_of_getElem? (i := 96) rfl)))))))) rfl
theorem p_1561 : Cond.methodLink RL 229 yX12_setFog ∈ WALL := WALL_in (List.mem_append_right _ (List.mem_append_right _ (List.mem_append_right _ (List.mem_append_right _ (List.mem_append_right _ (List.mem_append_right _ (List.mem_append_right _ (List.mem_of_getElem? (i := 97) rfl)))))))) rfl
theorem p_1570 : Cond.methodLink RL 232 yX12_setPrice ∈ WALL := WALL_in (List.mem_append_right _ (List.mem_append_right _ (List.mem_append_right _ (List.mem_append_right _ (List.mem_append_right _ (List.mem_append_right _ (List.mem_append_right _ (List.mem_of_getElem? (i := 106) rfl)))))))) rfl
theorem p_1579 : Cond.methodLink RL 235 yX12_setWell ∈ WALL := WALL_in (List.mem_append_right _ (List.mem_append_right _ (List.mem_append_right _ (List.mem_append_right _ (List.mem_append_right _ (List.mem_append_right _ (List.mem_append_right _ (List.mem_of_getElem? (i := 115) rfl)))))))) rfl
/-! THE LAW: one change on both sides -/
abbrev rmL_acts : Room := { frames := 10, cells := 8, slots := 3200, locals := 502 }
theorem miL_acts : MI yL_acts cL_acts 10 (some .boolean) 4 := ⟨p_1447, p_24, by decide +kernel, by decide +kernel, by decide +kernel, by decide +kernel⟩
noncomputable def FQ_acts_B45 (n : Nat) (N : Nat) (f : Nat → Int32) (z : Wd × MM) (l5 : Int32) : Option (Bool × (Wd × MM)) :=
  if z.2.1 0 0 = 0 then
    bo2 (FQ_adds n z (2 * l5)) fun x12 z13 =>
    some (x12, z13)
  else
    if z.2.1 0 1 = 0 then
      bo2 (FQ_adds n z ((2 * l5) + 1)) fun x9 z10 =>
      some (x9, z10)
    else
      bo2 (FQ_adds n z l5) fun x6 z7 =>
      some (x6, z7)
set_option maxHeartbeats 4000000 in
set_option maxRecDepth 100000 in
theorem BQ_acts_45 {G : GG} {l : Launch} {n1 : Nat} {X : Heap → Prop} (hL : LOK G n1 X) {p : Program} {e : Env} {s : State} {m : MethodId} {args : Array Value} {below : List Frame} {meth : Method} {c : Code} (hX : FX G RL cL_acts 10 p s m args c) (hR : meth.sig.returnType = (some .boolean)) (hlk : meth.locks = false) {rx : Bool} {rw : Wd × MM} (n : Nat) (z : Wd × MM) (l5 : Int32)  (hF : FQ_acts_B45 n (gN G) (gX G) z l5 = some (rx, rw)) : J G p l e rmL_acts s m args below meth c 10 0 0 (MQ below (QP G (fun v9 H => v9 = some (.int (bI rx)) ∧ LH G n1 X rw H)) args s 8 3200 (gA G)) (LH G n1 X z) 45 [(0, .ref (aC n1)), (1, .ref (adW G 0)), (5, .int l5)] [] := by
  unfold FQ_acts_B45 at hF
  refine J_aload_n hX dL_acts_45 0 rfl (t := 46) rfl ?_
  refine J_aload_n hX dL_acts_46 1 rfl (t := 47) rfl ?_
  refine J_aload_n hX dL_acts_47 1 rfl (t := 48) rfl ?_
  refine J_wGet hX 0 (by decide) p_1021 rfl dL_acts_48 (t := 51) rfl ?_
  refine J_if_ne (tgt := 61) hX dL_acts_51 (by decide) (t := 54) rfl (fun zc => ?_) (fun zc => ?_)
  · replace hF := it_f hF zc
    refine J_aload_n hX dL_acts_61 1 rfl (t := 62) rfl ?_
    refine J_wGet hX 1 (by decide) p_1022 rfl dL_acts_62 (t := 65) rfl ?_
    refine J_if_ne (tgt := 77) hX dL_acts_65 (by decide) (t := 68) rfl (fun zc => ?_) (fun zc => ?_)
    · replace hF := it_f hF zc
      refine J_iload hX dL_acts_77 2 rfl (t := 79) rfl ?_
      obtain ⟨x6, z7, h5, hF⟩ := bo2_e hF
      refine J_lS hX [.ref (aC n1), .ref (adW G 0), .int l5] [] [.int (bI x6)] (ctQ_adds hL z l5 n h5) miL_adds p_1451 p_1450 ⟨rfl, rfl, Nat.le_of_ble_eq_true rfl, Nat.le_of_ble_eq_true rfl⟩ rfl rfl (Nat.le_of_ble_eq_true rfl) ⟨Nat.le_of_ble_eq_true rfl, Nat.le_of_ble_eq_true rfl⟩ dL_acts_79 (t := 82) rfl rfl ?_
      replace hF := Option.some.inj hF
      obtain ⟨hF, hF2⟩ := Prod.mk.inj hF
      subst hF
      subst hF2
      exact J_zretP (b := x6) hX hR hlk (fun H h => ⟨rfl, h⟩) dL_acts_82
    · replace hF := it_t hF zc
      refine J_iconst (v := 2) hX dL_acts_68 (by decide) (t := 69) rfl ?_
      refine J_iload hX dL_acts_69 2 rfl (t := 71) rfl ?_
      refine J_imul hX dL_acts_71 (t := 72) rfl ?_
      refine J_iconst (v := 1) hX dL_acts_72 (by decide) (t := 73) rfl ?_
      refine J_iadd hX dL_acts_73 (t := 74) rfl ?_
      refine J_goto (tgt := 79) hX dL_acts_74 (by decide) ?_
      obtain ⟨x9, z10, h8, hF⟩ := bo2_e hF
      refine J_lS hX [.ref (aC n1), .ref (adW G 0), .int ((2 * l5) + 1)] [] [.int (bI x9)] (ctQ_adds hL z ((2 * l5) + 1) n h8) miL_adds p_1451 p_1450 ⟨rfl, rfl, Nat.le_of_ble_eq_true rfl, Nat.le_of_ble_eq_true rfl⟩ rfl rfl (Nat.le_of_ble_eq_true rfl) ⟨Nat.le_of_ble_eq_true rfl, Nat.le_of_ble_eq_true rfl⟩ dL_acts_79 (t := 82) rfl rfl ?_
      replace hF := Option.some.inj hF
      obtain ⟨hF, hF2⟩ := Prod.mk.inj hF
      subst hF
      subst hF2
      exact J_zretP (b := x9) hX hR hlk (fun H h => ⟨rfl, h⟩) dL_acts_82
  · replace hF := it_t hF zc
    refine J_iconst (v := 2) hX dL_acts_54 (by decide) (t := 55) rfl ?_
    refine J_iload hX dL_acts_55 2 rfl (t := 57) rfl ?_
    refine J_imul hX dL_acts_57 (t := 58) rfl ?_
    refine J_goto (tgt := 79) hX dL_acts_58 (by decide) ?_
    obtain ⟨x12, z13, h11, hF⟩ := bo2_e hF
    refine J_lS hX [.ref (aC n1), .ref (adW G 0), .int (2 * l5)] [] [.int (bI x12)] (ctQ_adds hL z (2 * l5) n h11) miL_adds p_1451 p_1450 ⟨rfl, rfl, Nat.le_of_ble_eq_true rfl, Nat.le_of_ble_eq_true rfl⟩ rfl rfl (Nat.le_of_ble_eq_true rfl) ⟨Nat.le_of_ble_eq_true rfl, Nat.le_of_ble_eq_true rfl⟩ dL_acts_79 (t := 82) rfl rfl ?_
    replace hF := Option.some.inj hF
    obtain ⟨hF, hF2⟩ := Prod.mk.inj hF
    subst hF
    subst hF2
    exact J_zretP (b := x12) hX hR hlk (fun H h => ⟨rfl, h⟩) dL_acts_82
noncomputable def FQ_acts_B314 (n : Nat) (N : Nat) (f : Nat → Int32) (z : Wd × MM) (l4 : Int32) (l5 : Int32) (l7 : Int32) : Option (Bool × (Wd × MM)) :=
  if l4 = 21 then
    gd (inb l7 8) <|
    gd (inb l7 8) <|
    bnd ((z.1, sI z.2 (2 + l7.toNatClampNeg) 3 ((l5 / 100) - (l5 / 100) / 10 * 10))) fun z52 =>
    bx2 (FX12_setFog n z52.1 l7 ((l5 / 100) - (l5 / 100) / 10 * 10)) fun x55 w56 =>
    gh (FLc_55 n z52.1 l7 ((l5 / 100) - (l5 / 100) / 10 * 10) 0 0 0) w56 fun w57 =>
    bnd ((w57, z52.2)) fun z59 =>
    if x55 = z.2.1 (2 + l7.toNatClampNeg) 3 then
      some (true, z59)
    else
      some (false, z59)
  else
    if l4 = 22 then
      gd (inb l7 8) <|
      gd (inb l7 8) <|
      bnd ((z.1, sI z.2 (2 + l7.toNatClampNeg) 2 (1 + ((l5 / 100) - (l5 / 100) / 30 * 30)))) fun z41 =>
      bx2 (FX12_setPrice n z41.1 l7 (1 + ((l5 / 100) - (l5 / 100) / 30 * 30))) fun x44 w45 =>
      gh (FLc_56 n z41.1 l7 (1 + ((l5 / 100) - (l5 / 100) / 30 * 30)) 0 0 0) w45 fun w46 =>
      bnd ((w46, z41.2)) fun z48 =>
      if x44 = z.2.1 (2 + l7.toNatClampNeg) 2 then
        some (true, z48)
      else
        some (false, z48)
    else
      if l4 = 23 then
        bnd ((z.1, sI z.2 0 6 ((l5 / 100) - (l5 / 100) / 4 * 4))) fun z30 =>
        bx2 (FX12_setWell n z30.1 ((l5 / 100) - (l5 / 100) / 4 * 4)) fun x33 w34 =>
        gh (FLc_57 n z30.1 ((l5 / 100) - (l5 / 100) / 4 * 4) 0 0 0 0) w34 fun w35 =>
        bnd ((w35, z30.2)) fun z37 =>
        if x33 = z.2.1 0 6 then
          some (true, z37)
        else
          some (false, z37)
      else
        bx2 (FX12_pass n z.1 (1 + (l5 - l5 / 4 * 4))) fun x19 w20 =>
        gh (FLc_58 n z.1 (1 + (l5 - l5 / 4 * 4)) 0 0 0 0) w20 fun w21 =>
        bnd ((w21, z.2)) fun z23 =>
        bo2 (FW_pass n z23.2 (1 + (l5 - l5 / 4 * 4))) fun x26 M27 =>
        bnd ((z23.1, M27)) fun z28 =>
        if x19 = x26 then
          some (true, z28)
        else
          some (false, z28)
set_option maxHeartbeats 4000000 in
set_option maxRecDepth 100000 in
theorem BQ_acts_314 {G : GG} {l : Launch} {n1 : Nat} {X : Heap → Prop} (hL : LOK G n1 X) {p : Program} {e : Env} {s : State} {m : MethodId} {args : Array Value} {below : List Frame} {meth : Method} {c : Code} (hX : FX G RL cL_acts 10 p s m args c) (hR : meth.sig.returnType = (some .boolean)) (hlk : meth.locks = false) {rx : Bool} {rw : Wd × MM} (n : Nat) (z : Wd × MM) (l4 : Int32) (l5 : Int32) (l7 : Int32)  (hF : FQ_acts_B314 n (gN G) (gX G) z l4 l5 l7 = some (rx, rw)) : J G p l e rmL_acts s m args below meth c 10 0 0 (MQ below (QP G (fun v9 H => v9 = some (.int (bI rx)) ∧ LH G n1 X rw H)) args s 8 3200 (gA G)) (LH G n1 X z) 314 [(0, .ref (aC n1)), (1, .ref (adW G 0)), (4, .int l4), (5, .int l5), (7, .int l7)] [] := by
  unfold FQ_acts_B314 at hF
  refine J_iload hX dL_acts_314 2 rfl (t := 316) rfl ?_
  refine J_bipush (v := 21) hX dL_acts_316 (by decide) (t := 318) rfl ?_
  refine J_icmp_ne (tgt := 374) hX dL_acts_318 (by decide) (t := 321) rfl (fun zc => ?_) (fun zc => ?_)
  · replace hF := it_f hF zc
    refine J_iload hX dL_acts_374 2 rfl (t := 376) rfl ?_
    refine J_bipush (v := 22) hX dL_acts_376 (by decide) (t := 378) rfl ?_
    refine J_icmp_ne (tgt := 438) hX dL_acts_378 (by decide) (t := 381) rfl (fun zc => ?_) (fun zc => ?_)
    · replace hF := it_f hF zc
      refine J_iload hX dL_acts_438 2 rfl (t := 440) rfl ?_
      refine J_bipush (v := 23) hX dL_acts_440 (by decide) (t := 442) rfl ?_
      refine J_icmp_ne (tgt := 484) hX dL_acts_442 (by decide) (t := 445) rfl (fun zc => ?_) (fun zc => ?_)
      · replace hF := it_f hF zc
        refine J_aload_n hX dL_acts_484 0 rfl (t := 485) rfl ?_
        refine J_iconst (v := 1) hX dL_acts_485 (by decide) (t := 486) rfl ?_
        refine J_iload hX dL_acts_486 3 rfl (t := 488) rfl ?_
        refine J_iconst (v := 4) hX dL_acts_488 (by decide) (t := 489) rfl ?_
        refine J_irem hX dL_acts_489 (by decide) (t := 490) rfl ?_
        refine J_iadd hX dL_acts_490 (t := 491) rfl ?_
        obtain ⟨x19, w20, h18, hF⟩ := bx2_e hF
        obtain ⟨w21, a22, hF⟩ := gh_e hF
        obtain ⟨z23, e24, hF⟩ := bnd_e hF
        refine J_lCg hX hL a22 [.int (1 + (l5 - l5 / 4 * 4))] [] [.int x19] (fun zz => ctX12_pass (G := GCz G n1 zz) (l := l) z.1 (1 + (l5 - l5 / 4 * 4)) n h18) e24 miX12_pass mvX12_pass cb9 p_970 ⟨rfl, rfl, Nat.le_of_ble_eq_true rfl, Nat.le_of_ble_eq_true rfl⟩ rfl rfl (Nat.le_of_ble_eq_true rfl) ⟨Nat.le_of_ble_eq_true rfl, Nat.le_of_ble_eq_true rfl⟩ dL_acts_491 (t := 494) rfl rfl ?_
        refine J_aload_n hX dL_acts_494 1 rfl (t := 495) rfl ?_
        refine J_iconst (v := 1) hX dL_acts_495 (by decide) (t := 496) rfl ?_
        refine J_iload hX dL_acts_496 3 rfl (t := 498) rfl ?_
        refine J_iconst (v := 4) hX dL_acts_498 (by decide) (t := 499) rfl ?_
        refine J_irem hX dL_acts_499 (by decide) (t := 500) rfl ?_
        refine J_iadd hX dL_acts_500 (t := 501) rfl ?_
        obtain ⟨x26, M27, h25, hF⟩ := bo2_e hF
        obtain ⟨z28, e29, hF⟩ := bnd_e hF
        refine J_lW hX hL [.int (1 + (l5 - l5 / 4 * 4))] [.int x19] [.int x26, .int x19] (fun zz => ctW_pass (G := upK G (gn G) (KwA G) zz) (l := l) z23.2 (1 + (l5 - l5 / 4 * 4)) n h25) e29 miX13_pass mvX13_pass cb10 p_1519 ⟨rfl, rfl, Nat.le_of_ble_eq_true rfl, Nat.le_of_ble_eq_true rfl⟩ rfl rfl (Nat.le_of_ble_eq_true rfl) ⟨Nat.le_of_ble_eq_true rfl, Nat.le_of_ble_eq_true rfl⟩ dL_acts_501 (t := 504) rfl rfl ?_
        refine J_icmp_ne (tgt := 511) hX dL_acts_504 (by decide) (t := 507) rfl (fun zc => ?_) (fun zc => ?_)
        · replace hF := it_f hF zc
          refine J_iconst (v := 0) hX dL_acts_511 (by decide) (t := 512) rfl ?_
          replace hF := Option.some.inj hF
          obtain ⟨hF, hF2⟩ := Prod.mk.inj hF
          subst hF
          subst hF2
          refine J_wid (k := 8) (n := 3200) (Nat.le_of_ble_eq_true rfl) (Nat.le_of_ble_eq_true rfl) ?_
          exact J_zretP (b := false) hX hR hlk (fun H h => ⟨rfl, h⟩) dL_acts_512
        · replace hF := it_t hF zc
          refine J_iconst (v := 1) hX dL_acts_507 (by decide) (t := 508) rfl ?_
          refine J_goto (tgt := 512) hX dL_acts_508 (by decide) ?_
          replace hF := Option.some.inj hF
          obtain ⟨hF, hF2⟩ := Prod.mk.inj hF
          subst hF
          subst hF2
          refine J_wid (k := 8) (n := 3200) (Nat.le_of_ble_eq_true rfl) (Nat.le_of_ble_eq_true rfl) ?_
          exact J_zretP (b := true) hX hR hlk (fun H h => ⟨rfl, h⟩) dL_acts_512
      · replace hF := it_t hF zc
        refine J_aload_n hX dL_acts_445 1 rfl (t := 446) rfl ?_
        refine J_wGet hX 6 (by decide) p_1032 rfl dL_acts_446 (t := 449) rfl ?_
        refine J_istore (lc2 := [(9, .int (z.2.1 0 6)), (0, .ref (aC n1)), (1, .ref (adW G 0)), (4, .int l4), (5, .int l5), (7, .int l7)]) hX dL_acts_449 (Nat.le_of_ble_eq_true rfl) rfl (t := 451) rfl ?_
        refine J_aload_n hX dL_acts_451 2 rfl (t := 452) rfl ?_
        refine J_iload hX dL_acts_452 4 rfl (t := 454) rfl ?_
        refine J_bipush (v := 100) hX dL_acts_454 (by decide) (t := 456) rfl ?_
        refine J_idiv hX dL_acts_456 (by decide) (t := 457) rfl ?_
        refine J_iconst (v := 4) hX dL_acts_457 (by decide) (t := 458) rfl ?_
        refine J_irem hX dL_acts_458 (by decide) (t := 459) rfl ?_
        obtain ⟨z30, e31, hF⟩ := bnd_e hF
        refine J_lPut hX hL 6 (by decide) p_1032 rfl rfl e31 rfl dL_acts_459 (t := 462) rfl ?_
        refine J_aload_n hX dL_acts_462 1 rfl (t := 463) rfl ?_
        refine J_iload hX dL_acts_463 4 rfl (t := 465) rfl ?_
        refine J_bipush (v := 100) hX dL_acts_465 (by decide) (t := 467) rfl ?_
        refine J_idiv hX dL_acts_467 (by decide) (t := 468) rfl ?_
        refine J_iconst (v := 4) hX dL_acts_468 (by decide) (t := 469) rfl ?_
        refine J_irem hX dL_acts_469 (by decide) (t := 470) rfl ?_
        obtain ⟨x33, w34, h32, hF⟩ := bx2_e hF
        obtain ⟨w35, a36, hF⟩ := gh_e hF
        obtain ⟨z37, e38, hF⟩ := bnd_e hF
        refine J_lCg hX hL a36 [.int ((l5 / 100) - (l5 / 100) / 4 * 4)] [] [.int x33] (fun zz => ctX12_setWell (G := GCz G n1 zz) (l := l) z30.1 ((l5 / 100) - (l5 / 100) / 4 * 4) n h32) e38 miX12_setWell mvX12_setWell cb9 p_1579 ⟨rfl, rfl, Nat.le_of_ble_eq_true rfl, Nat.le_of_ble_eq_true rfl⟩ rfl rfl (Nat.le_of_ble_eq_true rfl) ⟨Nat.le_of_ble_eq_true rfl, Nat.le_of_ble_eq_true rfl⟩ dL_acts_470 (t := 473) rfl rfl ?_
        refine J_iload hX dL_acts_473 0 rfl (t := 475) rfl ?_
        refine J_icmp_ne (tgt := 482) hX dL_acts_475 (by decide) (t := 478) rfl (fun zc => ?_) (fun zc => ?_)
        · replace hF := it_f hF zc
          refine J_iconst (v := 0) hX dL_acts_482 (by decide) (t := 483) rfl ?_
          replace hF := Option.some.inj hF
          obtain ⟨hF, hF2⟩ := Prod.mk.inj hF
          subst hF
          subst hF2
          refine J_wid (k := 8) (n := 3200) (Nat.le_of_ble_eq_true rfl) (Nat.le_of_ble_eq_true rfl) ?_
          exact J_zretP (b := false) hX hR hlk (fun H h => ⟨rfl, h⟩) dL_acts_483
        · replace hF := it_t hF zc
          refine J_iconst (v := 1) hX dL_acts_478 (by decide) (t := 479) rfl ?_
          refine J_goto (tgt := 483) hX dL_acts_479 (by decide) ?_
          replace hF := Option.some.inj hF
          obtain ⟨hF, hF2⟩ := Prod.mk.inj hF
          subst hF
          subst hF2
          refine J_wid (k := 8) (n := 3200) (Nat.le_of_ble_eq_true rfl) (Nat.le_of_ble_eq_true rfl) ?_
          exact J_zretP (b := true) hX hR hlk (fun H h => ⟨rfl, h⟩) dL_acts_483
    · replace hF := it_t hF zc
      refine J_aload_n hX dL_acts_381 1 rfl (t := 382) rfl ?_
      refine J_wGet hX 8 (by decide) p_1036 rfl dL_acts_382 (t := 385) rfl ?_
      refine J_iload hX dL_acts_385 4 rfl (t := 387) rfl ?_
      obtain ⟨g39, hF⟩ := gd_e hF
      refine J_wAv hX g39 dL_acts_387 (t := 388) rfl ?_
      refine J_iconst (v := 2) hX dL_acts_388 (by decide) (t := 389) rfl ?_
      refine J_wAld (n := 6) hX (kWv (inbR g39)) (by decide) rfl dL_acts_389 (t := 390) rfl ?_
      refine J_istore (lc2 := [(9, .int (z.2.1 (2 + l7.toNatClampNeg) 2)), (0, .ref (aC n1)), (1, .ref (adW G 0)), (4, .int l4), (5, .int l5), (7, .int l7)]) hX dL_acts_390 (Nat.le_of_ble_eq_true rfl) rfl (t := 392) rfl ?_
      refine J_aload_n hX dL_acts_392 2 rfl (t := 393) rfl ?_
      refine J_wGet hX 8 (by decide) p_1036 rfl dL_acts_393 (t := 396) rfl ?_
      refine J_iload hX dL_acts_396 5 rfl (t := 398) rfl ?_
      obtain ⟨g40, hF⟩ := gd_e hF
      refine J_wAv hX g40 dL_acts_398 (t := 399) rfl ?_
      refine J_iconst (v := 2) hX dL_acts_399 (by decide) (t := 400) rfl ?_
      refine J_iconst (v := 1) hX dL_acts_400 (by decide) (t := 401) rfl ?_
      refine J_iload hX dL_acts_401 4 rfl (t := 403) rfl ?_
      refine J_bipush (v := 100) hX dL_acts_403 (by decide) (t := 405) rfl ?_
      refine J_idiv hX dL_acts_405 (by decide) (t := 406) rfl ?_
      refine J_bipush (v := 30) hX dL_acts_406 (by decide) (t := 408) rfl ?_
      refine J_irem hX dL_acts_408 (by decide) (t := 409) rfl ?_
      refine J_iadd hX dL_acts_409 (t := 410) rfl ?_
      obtain ⟨z41, e42, hF⟩ := bnd_e hF
      refine J_lAst (n := 6) hX hL (kWv (inbR g40)) (by decide) rfl e42 dL_acts_410 (t := 411) rfl ?_
      refine J_aload_n hX dL_acts_411 1 rfl (t := 412) rfl ?_
      refine J_iload hX dL_acts_412 5 rfl (t := 414) rfl ?_
      refine J_iconst (v := 1) hX dL_acts_414 (by decide) (t := 415) rfl ?_
      refine J_iload hX dL_acts_415 4 rfl (t := 417) rfl ?_
      refine J_bipush (v := 100) hX dL_acts_417 (by decide) (t := 419) rfl ?_
      refine J_idiv hX dL_acts_419 (by decide) (t := 420) rfl ?_
      refine J_bipush (v := 30) hX dL_acts_420 (by decide) (t := 422) rfl ?_
      refine J_irem hX dL_acts_422 (by decide) (t := 423) rfl ?_
      refine J_iadd hX dL_acts_423 (t := 424) rfl ?_
      obtain ⟨x44, w45, h43, hF⟩ := bx2_e hF
      obtain ⟨w46, a47, hF⟩ := gh_e hF
      obtain ⟨z48, e49, hF⟩ := bnd_e hF
      refine J_lCg hX hL a47 [.int l7, .int (1 + ((l5 / 100) - (l5 / 100) / 30 * 30))] [] [.int x44] (fun zz => ctX12_setPrice (G := GCz G n1 zz) (l := l) z41.1 l7 (1 + ((l5 / 100) - (l5 / 100) / 30 * 30)) n h43) e49 miX12_setPrice mvX12_setPrice cb9 p_1570 ⟨rfl, rfl, Nat.le_of_ble_eq_true rfl, Nat.le_of_ble_eq_true rfl⟩ rfl rfl (Nat.le_of_ble_eq_true rfl) ⟨Nat.le_of_ble_eq_true rfl, Nat.le_of_ble_eq_true rfl⟩ dL_acts_424 (t := 427) rfl rfl ?_
      refine J_iload hX dL_acts_427 0 rfl (t := 429) rfl ?_
      refine J_icmp_ne (tgt := 436) hX dL_acts_429 (by decide) (t := 432) rfl (fun zc => ?_) (fun zc => ?_)
      · replace hF := it_f hF zc
        refine J_iconst (v := 0) hX dL_acts_436 (by decide) (t := 437) rfl ?_
        replace hF := Option.some.inj hF
        obtain ⟨hF, hF2⟩ := Prod.mk.inj hF
        subst hF
        subst hF2
        refine J_wid (k := 8) (n := 3200) (Nat.le_of_ble_eq_true rfl) (Nat.le_of_ble_eq_true rfl) ?_
        exact J_zretP (b := false) hX hR hlk (fun H h => ⟨rfl, h⟩) dL_acts_437
      · replace hF := it_t hF zc
        refine J_iconst (v := 1) hX dL_acts_432 (by decide) (t := 433) rfl ?_
        refine J_goto (tgt := 437) hX dL_acts_433 (by decide) ?_
        replace hF := Option.some.inj hF
        obtain ⟨hF, hF2⟩ := Prod.mk.inj hF
        subst hF
        subst hF2
        refine J_wid (k := 8) (n := 3200) (Nat.le_of_ble_eq_true rfl) (Nat.le_of_ble_eq_true rfl) ?_
        exact J_zretP (b := true) hX hR hlk (fun H h => ⟨rfl, h⟩) dL_acts_437
  · replace hF := it_t hF zc
    refine J_aload_n hX dL_acts_321 1 rfl (t := 322) rfl ?_
    refine J_wGet hX 8 (by decide) p_1036 rfl dL_acts_322 (t := 325) rfl ?_
    refine J_iload hX dL_acts_325 4 rfl (t := 327) rfl ?_
    obtain ⟨g50, hF⟩ := gd_e hF
    refine J_wAv hX g50 dL_acts_327 (t := 328) rfl ?_
    refine J_iconst (v := 3) hX dL_acts_328 (by decide) (t := 329) rfl ?_
    refine J_wAld (n := 6) hX (kWv (inbR g50)) (by decide) rfl dL_acts_329 (t := 330) rfl ?_
    refine J_istore (lc2 := [(9, .int (z.2.1 (2 + l7.toNatClampNeg) 3)), (0, .ref (aC n1)), (1, .ref (adW G 0)), (4, .int l4), (5, .int l5), (7, .int l7)]) hX dL_acts_330 (Nat.le_of_ble_eq_true rfl) rfl (t := 332) rfl ?_
    refine J_aload_n hX dL_acts_332 2 rfl (t := 333) rfl ?_
    refine J_wGet hX 8 (by decide) p_1036 rfl dL_acts_333 (t := 336) rfl ?_
    refine J_iload hX dL_acts_336 5 rfl (t := 338) rfl ?_
    obtain ⟨g51, hF⟩ := gd_e hF
    refine J_wAv hX g51 dL_acts_338 (t := 339) rfl ?_
    refine J_iconst (v := 3) hX dL_acts_339 (by decide) (t := 340) rfl ?_
    refine J_iload hX dL_acts_340 4 rfl (t := 342) rfl ?_
    refine J_bipush (v := 100) hX dL_acts_342 (by decide) (t := 344) rfl ?_
    refine J_idiv hX dL_acts_344 (by decide) (t := 345) rfl ?_
    refine J_bipush (v := 10) hX dL_acts_345 (by decide) (t := 347) rfl ?_
    refine J_irem hX dL_acts_347 (by decide) (t := 348) rfl ?_
    obtain ⟨z52, e53, hF⟩ := bnd_e hF
    refine J_lAst (n := 6) hX hL (kWv (inbR g51)) (by decide) rfl e53 dL_acts_348 (t := 349) rfl ?_
    refine J_aload_n hX dL_acts_349 1 rfl (t := 350) rfl ?_
    refine J_iload hX dL_acts_350 5 rfl (t := 352) rfl ?_
    refine J_iload hX dL_acts_352 4 rfl (t := 354) rfl ?_
    refine J_bipush (v := 100) hX dL_acts_354 (by decide) (t := 356) rfl ?_
    refine J_idiv hX dL_acts_356 (by decide) (t := 357) rfl ?_
    refine J_bipush (v := 10) hX dL_acts_357 (by decide) (t := 359) rfl ?_
    refine J_irem hX dL_acts_359 (by decide) (t := 360) rfl ?_
    obtain ⟨x55, w56, h54, hF⟩ := bx2_e hF
    obtain ⟨w57, a58, hF⟩ := gh_e hF
    obtain ⟨z59, e60, hF⟩ := bnd_e hF
    refine J_lCg hX hL a58 [.int l7, .int ((l5 / 100) - (l5 / 100) / 10 * 10)] [] [.int x55] (fun zz => ctX12_setFog (G := GCz G n1 zz) (l := l) z52.1 l7 ((l5 / 100) - (l5 / 100) / 10 * 10) n h54) e60 miX12_setFog mvX12_setFog cb9 p_1561 ⟨rfl, rfl, Nat.le_of_ble_eq_true rfl, Nat.le_of_ble_eq_true rfl⟩ rfl rfl (Nat.le_of_ble_eq_true rfl) ⟨Nat.le_of_ble_eq_true rfl, Nat.le_of_ble_eq_true rfl⟩ dL_acts_360 (t := 363) rfl rfl ?_
    refine J_iload hX dL_acts_363 0 rfl (t := 365) rfl ?_
    refine J_icmp_ne (tgt := 372) hX dL_acts_365 (by decide) (t := 368) rfl (fun zc => ?_) (fun zc => ?_)
    · replace hF := it_f hF zc
      refine J_iconst (v := 0) hX dL_acts_372 (by decide) (t := 373) rfl ?_
      replace hF := Option.some.inj hF
      obtain ⟨hF, hF2⟩ := Prod.mk.inj hF
      subst hF
      subst hF2
      refine J_wid (k := 8) (n := 3200) (Nat.le_of_ble_eq_true rfl) (Nat.le_of_ble_eq_true rfl) ?_
      exact J_zretP (b := false) hX hR hlk (fun H h => ⟨rfl, h⟩) dL_acts_373
    · replace hF := it_t hF zc
      refine J_iconst (v := 1) hX dL_acts_368 (by decide) (t := 369) rfl ?_
      refine J_goto (tgt := 373) hX dL_acts_369 (by decide) ?_
      replace hF := Option.some.inj hF
      obtain ⟨hF, hF2⟩ := Prod.mk.inj hF
      subst hF
      subst hF2
      refine J_wid (k := 8) (n := 3200) (Nat.le_of_ble_eq_true rfl) (Nat.le_of_ble_eq_true rfl) ?_
      exact J_zretP (b := true) hX hR hlk (fun H h => ⟨rfl, h⟩) dL_acts_373
noncomputable def FQ_acts_B281 (n : Nat) (N : Nat) (f : Nat → Int32) (z : Wd × MM) (l4 : Int32) (l5 : Int32) (l7 : Int32) (l8 : Int32) : Option (Bool × (Wd × MM)) :=
  if l4 = 20 then
    if l8 < 0 then
      FQ_acts_B314 n N f z l4 l5 l7
    else
      bx2 (FX12_cancel n z.1 l8) fun x62 w63 =>
      gh (FLc_53 n z.1 l8 0 0 0 0) w63 fun w64 =>
      bnd ((w64, z.2)) fun z66 =>
      bo2 (FW_cancel z66.2 l8) fun x69 M70 =>
      bnd ((z66.1, M70)) fun z71 =>
      if x62 = x69 then
        some (true, z71)
      else
        some (false, z71)
  else
    FQ_acts_B314 n N f z l4 l5 l7
set_option maxHeartbeats 4000000 in
set_option maxRecDepth 100000 in
theorem BQ_acts_281 {G : GG} {l : Launch} {n1 : Nat} {X : Heap → Prop} (hL : LOK G n1 X) {p : Program} {e : Env} {s : State} {m : MethodId} {args : Array Value} {below : List Frame} {meth : Method} {c : Code} (hX : FX G RL cL_acts 10 p s m args c) (hR : meth.sig.returnType = (some .boolean)) (hlk : meth.locks = false) {rx : Bool} {rw : Wd × MM} (n : Nat) (z : Wd × MM) (l4 : Int32) (l5 : Int32) (l7 : Int32) (l8 : Int32)  (hF : FQ_acts_B281 n (gN G) (gX G) z l4 l5 l7 l8 = some (rx, rw)) : J G p l e rmL_acts s m args below meth c 10 0 0 (MQ below (QP G (fun v9 H => v9 = some (.int (bI rx)) ∧ LH G n1 X rw H)) args s 8 3200 (gA G)) (LH G n1 X z) 281 [(0, .ref (aC n1)), (1, .ref (adW G 0)), (4, .int l4), (5, .int l5), (7, .int l7), (8, .int l8)] [] := by
  unfold FQ_acts_B281 at hF
  refine J_iload hX dL_acts_281 2 rfl (t := 283) rfl ?_
  refine J_bipush (v := 20) hX dL_acts_283 (by decide) (t := 285) rfl ?_
  refine J_icmp_ne (tgt := 314) hX dL_acts_285 (by decide) (t := 288) rfl (fun zc => ?_) (fun zc => ?_)
  · replace hF := it_f hF zc
    refine J_sub (lc2 := [(0, .ref (aC n1)), (1, .ref (adW G 0)), (4, .int l4), (5, .int l5), (7, .int l7)]) [0, 1, 2, 3, 4] rfl ?_
    exact BQ_acts_314 hL hX hR hlk n z l4 l5 l7 hF
  · replace hF := it_t hF zc
    refine J_iload hX dL_acts_288 5 rfl (t := 290) rfl ?_
    refine J_if_lt (tgt := 314) hX dL_acts_290 (by decide) (t := 293) rfl (fun zc => ?_) (fun zc => ?_)
    · replace hF := it_t hF zc
      refine J_sub (lc2 := [(0, .ref (aC n1)), (1, .ref (adW G 0)), (4, .int l4), (5, .int l5), (7, .int l7)]) [0, 1, 2, 3, 4] rfl ?_
      exact BQ_acts_314 hL hX hR hlk n z l4 l5 l7 hF
    · replace hF := it_f hF zc
      refine J_aload_n hX dL_acts_293 0 rfl (t := 294) rfl ?_
      refine J_iload hX dL_acts_294 5 rfl (t := 296) rfl ?_
      obtain ⟨x62, w63, h61, hF⟩ := bx2_e hF
      obtain ⟨w64, a65, hF⟩ := gh_e hF
      obtain ⟨z66, e67, hF⟩ := bnd_e hF
      refine J_lCg hX hL a65 [.int l8] [] [.int x62] (fun zz => ctX12_cancel (G := GCz G n1 zz) (l := l) z.1 l8 n h61) e67 miX12_cancel mvX12_cancel cb9 p_1555 ⟨rfl, rfl, Nat.le_of_ble_eq_true rfl, Nat.le_of_ble_eq_true rfl⟩ rfl rfl (Nat.le_of_ble_eq_true rfl) ⟨Nat.le_of_ble_eq_true rfl, Nat.le_of_ble_eq_true rfl⟩ dL_acts_296 (t := 299) rfl rfl ?_
      refine J_aload_n hX dL_acts_299 1 rfl (t := 300) rfl ?_
      refine J_iload hX dL_acts_300 5 rfl (t := 302) rfl ?_
      obtain ⟨x69, M70, h68, hF⟩ := bo2_e hF
      obtain ⟨z71, e72, hF⟩ := bnd_e hF
      refine J_lW hX hL [.int l8] [.int x62] [.int x69, .int x62] (fun zz => ctW_cancel (G := upK G (gn G) (KwA G) zz) (l := l) z66.2 l8 h68) e72 miX13_cancel mvX13_cancel cb10 p_1560 ⟨rfl, rfl, Nat.le_of_ble_eq_true rfl, Nat.le_of_ble_eq_true rfl⟩ rfl rfl (Nat.le_of_ble_eq_true rfl) ⟨Nat.le_of_ble_eq_true rfl, Nat.le_of_ble_eq_true rfl⟩ dL_acts_302 (t := 305) rfl rfl ?_
      refine J_icmp_ne (tgt := 312) hX dL_acts_305 (by decide) (t := 308) rfl (fun zc => ?_) (fun zc => ?_)
      · replace hF := it_f hF zc
        refine J_iconst (v := 0) hX dL_acts_312 (by decide) (t := 313) rfl ?_
        replace hF := Option.some.inj hF
        obtain ⟨hF, hF2⟩ := Prod.mk.inj hF
        subst hF
        subst hF2
        refine J_wid (k := 8) (n := 3200) (Nat.le_of_ble_eq_true rfl) (Nat.le_of_ble_eq_true rfl) ?_
        exact J_zretP (b := false) hX hR hlk (fun H h => ⟨rfl, h⟩) dL_acts_313
      · replace hF := it_t hF zc
        refine J_iconst (v := 1) hX dL_acts_308 (by decide) (t := 309) rfl ?_
        refine J_goto (tgt := 313) hX dL_acts_309 (by decide) ?_
        replace hF := Option.some.inj hF
        obtain ⟨hF, hF2⟩ := Prod.mk.inj hF
        subst hF
        subst hF2
        refine J_wid (k := 8) (n := 3200) (Nat.le_of_ble_eq_true rfl) (Nat.le_of_ble_eq_true rfl) ?_
        exact J_zretP (b := true) hX hR hlk (fun H h => ⟨rfl, h⟩) dL_acts_313
noncomputable def FQ_acts (n : Nat) (N : Nat) (f : Nat → Int32) (z : Wd × MM) (p3 : Int32) : Option (Bool × (Wd × MM)) :=
  bo1 (FQ_pick N f (300 + p3) 26) fun x2 =>
  bo1 (FQ_pick N f (360 + p3) 1000000) fun x4 =>
  if z.2.1 0 0 = 0 then
    FQ_acts_B45 n N f z x4
  else
    if z.2.1 0 1 = 0 then
      FQ_acts_B45 n N f z x4
    else
      if x2 = 0 then
        FQ_acts_B45 n N f z x4
      else
        gd (!decide ((z.2.1 0 1) = 0)) <|
        gd (!decide ((z.2.1 0 0) = 0)) <|
        if 9 ≤ x2 then
          if 17 ≤ x2 then
            bo1 (FQ_openOne n z x4) fun x17 =>
            if 20 ≤ x2 then
              FQ_acts_B281 n N f z x2 x4 ((x4 / 8) - (x4 / 8) / (z.2.1 0 0) * (z.2.1 0 0)) x17
            else
              if x17 < 0 then
                FQ_acts_B281 n N f z x2 x4 ((x4 / 8) - (x4 / 8) / (z.2.1 0 0) * (z.2.1 0 0)) x17
              else
                bx2 (FX12_fake n z.1 x17) fun x74 w75 =>
                gh (FLc_54 n z.1 x17 0 0 0 0) w75 fun w76 =>
                bnd ((w76, z.2)) fun z78 =>
                bo2 (FW_fake n z78.2 x17) fun x81 M82 =>
                bnd ((z78.1, M82)) fun z83 =>
                if x74 = x81 then
                  some (true, z83)
                else
                  some (false, z83)
          else
            bx2 (FX12_pass n z.1 (1 + (x4 - x4 / 25 * 25))) fun x86 w87 =>
            gh (FLc_58 n z.1 (1 + (x4 - x4 / 25 * 25)) 0 0 0 0) w87 fun w88 =>
            bnd ((w88, z.2)) fun z90 =>
            bo2 (FW_pass n z90.2 (1 + (x4 - x4 / 25 * 25))) fun x93 M94 =>
            bnd ((z90.1, M94)) fun z95 =>
            if x86 = x93 then
              some (true, z95)
            else
              some (false, z95)
        else
          bo1 (FW_refusal n z.2 (x4 - x4 / (z.2.1 0 1) * (z.2.1 0 1)) ((x4 / 8) - (x4 / 8) / (z.2.1 0 0) * (z.2.1 0 0)) (1 + ((x4 / 64) - (x4 / 64) / 4 * 4))) fun x98 =>
          if x98 = 0 then
            bx2 (FX12_shout n z.1 (x4 - x4 / (z.2.1 0 1) * (z.2.1 0 1)) ((x4 / 8) - (x4 / 8) / (z.2.1 0 0) * (z.2.1 0 0)) (1 + ((x4 / 256) - (x4 / 256) / 20 * 20)) (1 + ((x4 / 64) - (x4 / 64) / 4 * 4))) fun x112 w113 =>
            gh (FLc_52 n z.1 (x4 - x4 / (z.2.1 0 1) * (z.2.1 0 1)) ((x4 / 8) - (x4 / 8) / (z.2.1 0 0) * (z.2.1 0 0)) (1 + ((x4 / 256) - (x4 / 256) / 20 * 20)) (1 + ((x4 / 64) - (x4 / 64) / 4 * 4)) 0) w113 fun w114 =>
            bnd ((w114, z.2)) fun z116 =>
            bo2 (FW_sell z116.2 (x4 - x4 / (z.2.1 0 1) * (z.2.1 0 1)) ((x4 / 8) - (x4 / 8) / (z.2.1 0 0) * (z.2.1 0 0)) (1 + ((x4 / 256) - (x4 / 256) / 20 * 20)) (1 + ((x4 / 64) - (x4 / 64) / 4 * 4))) fun x119 M120 =>
            bnd ((z116.1, M120)) fun z121 =>
            if x112 = x119 then
              some (true, z121)
            else
              some (false, z121)
          else
            bx2 (FX12_pass n z.1 1) fun x100 w101 =>
            gh (FLc_58 n z.1 1 0 0 0 0) w101 fun w102 =>
            bnd ((w102, z.2)) fun z104 =>
            bo2 (FW_pass n z104.2 1) fun x107 M108 =>
            bnd ((z104.1, M108)) fun z109 =>
            if x100 = x107 then
              some (true, z109)
            else
              some (false, z109)
set_option maxHeartbeats 4000000 in
set_option maxRecDepth 100000 in
theorem ctQ_acts {G : GG} {l : Launch} {n1 : Nat} {X : Heap → Prop} (hL : LOK G n1 X) (z : Wd × MM) (p3 : Int32)  (n : Nat) {rx : Bool} {rw : Wd × MM} (hF : FQ_acts n (gN G) (gX G) z p3 = some (rx, rw)) : CTP G l yL_acts cL_acts 10 (some .boolean) rmL_acts 8 3200 [.ref (aC n1), .ref (adW G 0), .ref (ga G 90), .int p3] (LH G n1 X z) (fun v9 H => v9 = some (.int (bI rx)) ∧ LH G n1 X rw H) := by
  refine CTP.of miL_acts [(0, .ref (aC n1)), (1, .ref (adW G 0)), (2, .ref (ga G 90)), (3, .int p3)] rfl (Nat.le_of_ble_eq_true rfl) ?_
  intro p e s m args below meth c hX hR hlk
  have hX : FX G RL cL_acts 10 p s m args c := hX
  unfold FQ_acts at hF
  refine J_aload_n hX dL_acts_0 2 rfl (t := 1) rfl ?_
  refine J_sipush (v := 300) hX dL_acts_1 (by decide) (t := 4) rfl ?_
  refine J_iload_n hX dL_acts_4 3 rfl (t := 5) rfl ?_
  refine J_iadd hX dL_acts_5 (t := 6) rfl ?_
  refine J_bipush (v := 26) hX dL_acts_6 (by decide) (t := 8) rfl ?_
  obtain ⟨x2, h1, hF⟩ := bo1_e hF
  refine J_callSP hX [.ref (ga G 90), .int (300 + p3), .int 26] [] (ctQ_pick (G := G) (l := l) (300 + p3) 26 h1) miL_pick p_1069 p_1448 ⟨rfl, rfl, Nat.le_of_ble_eq_true rfl, Nat.le_of_ble_eq_true rfl⟩ rfl rfl (Nat.le_of_ble_eq_true rfl) ⟨Nat.le_of_ble_eq_true rfl, Nat.le_of_ble_eq_true rfl⟩ dL_acts_8 (t := 11) rfl (fun v => J_pure fun hv => ?_)
  subst hv
  refine J_istore (lc2 := [(4, .int x2), (0, .ref (aC n1)), (1, .ref (adW G 0)), (2, .ref (ga G 90)), (3, .int p3)]) hX dL_acts_11 (Nat.le_of_ble_eq_true rfl) rfl (t := 13) rfl ?_
  refine J_aload_n hX dL_acts_13 3 rfl (t := 14) rfl ?_
  refine J_sipush (v := 360) hX dL_acts_14 (by decide) (t := 17) rfl ?_
  refine J_iload_n hX dL_acts_17 4 rfl (t := 18) rfl ?_
  refine J_iadd hX dL_acts_18 (t := 19) rfl ?_
  refine J_ldc hX dL_acts_19 p_1449 (t := 21) rfl ?_
  obtain ⟨x4, h3, hF⟩ := bo1_e hF
  refine J_callSP hX [.ref (ga G 90), .int (360 + p3), .int 1000000] [] (ctQ_pick (G := G) (l := l) (360 + p3) 1000000 h3) miL_pick p_1069 p_1448 ⟨rfl, rfl, Nat.le_of_ble_eq_true rfl, Nat.le_of_ble_eq_true rfl⟩ rfl rfl (Nat.le_of_ble_eq_true rfl) ⟨Nat.le_of_ble_eq_true rfl, Nat.le_of_ble_eq_true rfl⟩ dL_acts_21 (t := 24) rfl (fun v => J_pure fun hv => ?_)
  subst hv
  refine J_istore (lc2 := [(5, .int x4), (4, .int x2), (0, .ref (aC n1)), (1, .ref (adW G 0)), (2, .ref (ga G 90)), (3, .int p3)]) hX dL_acts_24 (Nat.le_of_ble_eq_true rfl) rfl (t := 26) rfl ?_
  refine J_aload_n hX dL_acts_26 3 rfl (t := 27) rfl ?_
  refine J_wGet hX 0 (by decide) p_1021 rfl dL_acts_27 (t := 30) rfl ?_
  refine J_if_eq (tgt := 45) hX dL_acts_30 (by decide) (t := 33) rfl (fun zc => ?_) (fun zc => ?_)
  · replace hF := it_t hF zc
    refine J_sub (lc2 := [(0, .ref (aC n1)), (1, .ref (adW G 0)), (5, .int x4)]) [2, 3, 0] rfl ?_
    exact BQ_acts_45 hL hX hR hlk n z x4 hF
  · replace hF := it_f hF zc
    refine J_aload_n hX dL_acts_33 3 rfl (t := 34) rfl ?_
    refine J_wGet hX 1 (by decide) p_1022 rfl dL_acts_34 (t := 37) rfl ?_
    refine J_if_eq (tgt := 45) hX dL_acts_37 (by decide) (t := 40) rfl (fun zc => ?_) (fun zc => ?_)
    · replace hF := it_t hF zc
      refine J_sub (lc2 := [(0, .ref (aC n1)), (1, .ref (adW G 0)), (5, .int x4)]) [2, 3, 0] rfl ?_
      exact BQ_acts_45 hL hX hR hlk n z x4 hF
    · replace hF := it_f hF zc
      refine J_iload hX dL_acts_40 1 rfl (t := 42) rfl ?_
      refine J_if_ne (tgt := 83) hX dL_acts_42 (by decide) (t := 45) rfl (fun zc => ?_) (fun zc => ?_)
      · replace hF := it_f hF zc
        refine J_iload hX dL_acts_83 0 rfl (t := 85) rfl ?_
        refine J_aload_n hX dL_acts_85 3 rfl (t := 86) rfl ?_
        refine J_wGet hX 1 (by decide) p_1022 rfl dL_acts_86 (t := 89) rfl ?_
        obtain ⟨g14, hF⟩ := gd_e hF
        refine J_irem hX dL_acts_89 (ne_e g14) (t := 90) rfl ?_
        refine J_istore (lc2 := [(6, .int (x4 - x4 / (z.2.1 0 1) * (z.2.1 0 1))), (5, .int x4), (4, .int x2), (0, .ref (aC n1)), (1, .ref (adW G 0)), (2, .ref (ga G 90)), (3, .int p3)]) hX dL_acts_90 (Nat.le_of_ble_eq_true rfl) rfl (t := 92) rfl ?_
        refine J_iload hX dL_acts_92 1 rfl (t := 94) rfl ?_
        refine J_bipush (v := 8) hX dL_acts_94 (by decide) (t := 96) rfl ?_
        refine J_idiv hX dL_acts_96 (by decide) (t := 97) rfl ?_
        refine J_aload_n hX dL_acts_97 4 rfl (t := 98) rfl ?_
        refine J_wGet hX 0 (by decide) p_1021 rfl dL_acts_98 (t := 101) rfl ?_
        obtain ⟨g15, hF⟩ := gd_e hF
        refine J_irem hX dL_acts_101 (ne_e g15) (t := 102) rfl ?_
        refine J_istore (lc2 := [(7, .int ((x4 / 8) - (x4 / 8) / (z.2.1 0 0) * (z.2.1 0 0))), (6, .int (x4 - x4 / (z.2.1 0 1) * (z.2.1 0 1))), (5, .int x4), (4, .int x2), (0, .ref (aC n1)), (1, .ref (adW G 0)), (2, .ref (ga G 90)), (3, .int p3)]) hX dL_acts_102 (Nat.le_of_ble_eq_true rfl) rfl (t := 104) rfl ?_
        refine J_iload hX dL_acts_104 3 rfl (t := 106) rfl ?_
        refine J_bipush (v := 9) hX dL_acts_106 (by decide) (t := 108) rfl ?_
        refine J_icmp_ge (tgt := 202) hX dL_acts_108 (by decide) (t := 111) rfl (fun zc => ?_) (fun zc => ?_)
        · replace hF := it_t hF zc
          refine J_iload hX dL_acts_202 3 rfl (t := 204) rfl ?_
          refine J_bipush (v := 17) hX dL_acts_204 (by decide) (t := 206) rfl ?_
          refine J_icmp_ge (tgt := 240) hX dL_acts_206 (by decide) (t := 209) rfl (fun zc => ?_) (fun zc => ?_)
          · replace hF := it_t hF zc
            refine J_aload_n hX dL_acts_240 5 rfl (t := 241) rfl ?_
            refine J_iload hX dL_acts_241 2 rfl (t := 243) rfl ?_
            obtain ⟨x17, h16, hF⟩ := bo1_e hF
            refine J_lS hX [.ref (adW G 0), .int x4] [] [.int x17] (ctQ_openOne hL z x4 n h16) miL_openOne p_1543 p_1542 ⟨rfl, rfl, Nat.le_of_ble_eq_true rfl, Nat.le_of_ble_eq_true rfl⟩ rfl rfl (Nat.le_of_ble_eq_true rfl) ⟨Nat.le_of_ble_eq_true rfl, Nat.le_of_ble_eq_true rfl⟩ dL_acts_243 (t := 246) rfl rfl ?_
            refine J_istore (lc2 := [(8, .int x17), (7, .int ((x4 / 8) - (x4 / 8) / (z.2.1 0 0) * (z.2.1 0 0))), (6, .int (x4 - x4 / (z.2.1 0 1) * (z.2.1 0 1))), (5, .int x4), (4, .int x2), (0, .ref (aC n1)), (1, .ref (adW G 0)), (2, .ref (ga G 90)), (3, .int p3)]) hX dL_acts_246 (Nat.le_of_ble_eq_true rfl) rfl (t := 248) rfl ?_
            refine J_iload hX dL_acts_248 4 rfl (t := 250) rfl ?_
            refine J_bipush (v := 20) hX dL_acts_250 (by decide) (t := 252) rfl ?_
            refine J_icmp_ge (tgt := 281) hX dL_acts_252 (by decide) (t := 255) rfl (fun zc => ?_) (fun zc => ?_)
            · replace hF := it_t hF zc
              refine J_sub (lc2 := [(0, .ref (aC n1)), (1, .ref (adW G 0)), (4, .int x2), (5, .int x4), (7, .int ((x4 / 8) - (x4 / 8) / (z.2.1 0 0) * (z.2.1 0 0))), (8, .int x17)]) [5, 6, 4, 3, 1, 0] rfl ?_
              exact BQ_acts_281 hL hX hR hlk n z x2 x4 ((x4 / 8) - (x4 / 8) / (z.2.1 0 0) * (z.2.1 0 0)) x17 hF
            · replace hF := it_f hF zc
              refine J_iload hX dL_acts_255 0 rfl (t := 257) rfl ?_
              refine J_if_lt (tgt := 281) hX dL_acts_257 (by decide) (t := 260) rfl (fun zc => ?_) (fun zc => ?_)
              · replace hF := it_t hF zc
                refine J_sub (lc2 := [(0, .ref (aC n1)), (1, .ref (adW G 0)), (4, .int x2), (5, .int x4), (7, .int ((x4 / 8) - (x4 / 8) / (z.2.1 0 0) * (z.2.1 0 0))), (8, .int x17)]) [5, 6, 4, 3, 1, 0] rfl ?_
                exact BQ_acts_281 hL hX hR hlk n z x2 x4 ((x4 / 8) - (x4 / 8) / (z.2.1 0 0) * (z.2.1 0 0)) x17 hF
              · replace hF := it_f hF zc
                refine J_aload_n hX dL_acts_260 5 rfl (t := 261) rfl ?_
                refine J_iload hX dL_acts_261 0 rfl (t := 263) rfl ?_
                obtain ⟨x74, w75, h73, hF⟩ := bx2_e hF
                obtain ⟨w76, a77, hF⟩ := gh_e hF
                obtain ⟨z78, e79, hF⟩ := bnd_e hF
                refine J_lCg hX hL a77 [.int x17] [] [.int x74] (fun zz => ctX12_fake (G := GCz G n1 zz) (l := l) z.1 x17 n h73) e79 miX12_fake mvX12_fake cb9 p_1545 ⟨rfl, rfl, Nat.le_of_ble_eq_true rfl, Nat.le_of_ble_eq_true rfl⟩ rfl rfl (Nat.le_of_ble_eq_true rfl) ⟨Nat.le_of_ble_eq_true rfl, Nat.le_of_ble_eq_true rfl⟩ dL_acts_263 (t := 266) rfl rfl ?_
                refine J_aload_n hX dL_acts_266 6 rfl (t := 267) rfl ?_
                refine J_iload hX dL_acts_267 0 rfl (t := 269) rfl ?_
                obtain ⟨x81, M82, h80, hF⟩ := bo2_e hF
                obtain ⟨z83, e84, hF⟩ := bnd_e hF
                refine J_lW hX hL [.int x17] [.int x74] [.int x81, .int x74] (fun zz => ctW_fake (G := upK G (gn G) (KwA G) zz) (l := l) z78.2 x17 n h80) e84 miX13_fake mvX13_fake cb10 p_1551 ⟨rfl, rfl, Nat.le_of_ble_eq_true rfl, Nat.le_of_ble_eq_true rfl⟩ rfl rfl (Nat.le_of_ble_eq_true rfl) ⟨Nat.le_of_ble_eq_true rfl, Nat.le_of_ble_eq_true rfl⟩ dL_acts_269 (t := 272) rfl rfl ?_
                refine J_icmp_ne (tgt := 279) hX dL_acts_272 (by decide) (t := 275) rfl (fun zc => ?_) (fun zc => ?_)
                · replace hF := it_f hF zc
                  refine J_iconst (v := 0) hX dL_acts_279 (by decide) (t := 280) rfl ?_
                  replace hF := Option.some.inj hF
                  obtain ⟨hF, hF2⟩ := Prod.mk.inj hF
                  subst hF
                  subst hF2
                  refine J_wid (k := 8) (n := 3200) (Nat.le_of_ble_eq_true rfl) (Nat.le_of_ble_eq_true rfl) ?_
                  exact J_zretP (b := false) hX hR hlk (fun H h => ⟨rfl, h⟩) dL_acts_280
                · replace hF := it_t hF zc
                  refine J_iconst (v := 1) hX dL_acts_275 (by decide) (t := 276) rfl ?_
                  refine J_goto (tgt := 280) hX dL_acts_276 (by decide) ?_
                  replace hF := Option.some.inj hF
                  obtain ⟨hF, hF2⟩ := Prod.mk.inj hF
                  subst hF
                  subst hF2
                  refine J_wid (k := 8) (n := 3200) (Nat.le_of_ble_eq_true rfl) (Nat.le_of_ble_eq_true rfl) ?_
                  exact J_zretP (b := true) hX hR hlk (fun H h => ⟨rfl, h⟩) dL_acts_280
          · replace hF := it_f hF zc
            refine J_aload_n hX dL_acts_209 4 rfl (t := 210) rfl ?_
            refine J_iconst (v := 1) hX dL_acts_210 (by decide) (t := 211) rfl ?_
            refine J_iload hX dL_acts_211 2 rfl (t := 213) rfl ?_
            refine J_bipush (v := 25) hX dL_acts_213 (by decide) (t := 215) rfl ?_
            refine J_irem hX dL_acts_215 (by decide) (t := 216) rfl ?_
            refine J_iadd hX dL_acts_216 (t := 217) rfl ?_
            obtain ⟨x86, w87, h85, hF⟩ := bx2_e hF
            obtain ⟨w88, a89, hF⟩ := gh_e hF
            obtain ⟨z90, e91, hF⟩ := bnd_e hF
            refine J_lCg hX hL a89 [.int (1 + (x4 - x4 / 25 * 25))] [] [.int x86] (fun zz => ctX12_pass (G := GCz G n1 zz) (l := l) z.1 (1 + (x4 - x4 / 25 * 25)) n h85) e91 miX12_pass mvX12_pass cb9 p_970 ⟨rfl, rfl, Nat.le_of_ble_eq_true rfl, Nat.le_of_ble_eq_true rfl⟩ rfl rfl (Nat.le_of_ble_eq_true rfl) ⟨Nat.le_of_ble_eq_true rfl, Nat.le_of_ble_eq_true rfl⟩ dL_acts_217 (t := 220) rfl rfl ?_
            refine J_aload_n hX dL_acts_220 5 rfl (t := 221) rfl ?_
            refine J_iconst (v := 1) hX dL_acts_221 (by decide) (t := 222) rfl ?_
            refine J_iload hX dL_acts_222 2 rfl (t := 224) rfl ?_
            refine J_bipush (v := 25) hX dL_acts_224 (by decide) (t := 226) rfl ?_
            refine J_irem hX dL_acts_226 (by decide) (t := 227) rfl ?_
            refine J_iadd hX dL_acts_227 (t := 228) rfl ?_
            obtain ⟨x93, M94, h92, hF⟩ := bo2_e hF
            obtain ⟨z95, e96, hF⟩ := bnd_e hF
            refine J_lW hX hL [.int (1 + (x4 - x4 / 25 * 25))] [.int x86] [.int x93, .int x86] (fun zz => ctW_pass (G := upK G (gn G) (KwA G) zz) (l := l) z90.2 (1 + (x4 - x4 / 25 * 25)) n h92) e96 miX13_pass mvX13_pass cb10 p_1519 ⟨rfl, rfl, Nat.le_of_ble_eq_true rfl, Nat.le_of_ble_eq_true rfl⟩ rfl rfl (Nat.le_of_ble_eq_true rfl) ⟨Nat.le_of_ble_eq_true rfl, Nat.le_of_ble_eq_true rfl⟩ dL_acts_228 (t := 231) rfl rfl ?_
            refine J_icmp_ne (tgt := 238) hX dL_acts_231 (by decide) (t := 234) rfl (fun zc => ?_) (fun zc => ?_)
            · replace hF := it_f hF zc
              refine J_iconst (v := 0) hX dL_acts_238 (by decide) (t := 239) rfl ?_
              replace hF := Option.some.inj hF
              obtain ⟨hF, hF2⟩ := Prod.mk.inj hF
              subst hF
              subst hF2
              refine J_wid (k := 8) (n := 3200) (Nat.le_of_ble_eq_true rfl) (Nat.le_of_ble_eq_true rfl) ?_
              exact J_zretP (b := false) hX hR hlk (fun H h => ⟨rfl, h⟩) dL_acts_239
            · replace hF := it_t hF zc
              refine J_iconst (v := 1) hX dL_acts_234 (by decide) (t := 235) rfl ?_
              refine J_goto (tgt := 239) hX dL_acts_235 (by decide) ?_
              replace hF := Option.some.inj hF
              obtain ⟨hF, hF2⟩ := Prod.mk.inj hF
              subst hF
              subst hF2
              refine J_wid (k := 8) (n := 3200) (Nat.le_of_ble_eq_true rfl) (Nat.le_of_ble_eq_true rfl) ?_
              exact J_zretP (b := true) hX hR hlk (fun H h => ⟨rfl, h⟩) dL_acts_239
        · replace hF := it_f hF zc
          refine J_iconst (v := 1) hX dL_acts_111 (by decide) (t := 112) rfl ?_
          refine J_iload hX dL_acts_112 2 rfl (t := 114) rfl ?_
          refine J_bipush (v := 64) hX dL_acts_114 (by decide) (t := 116) rfl ?_
          refine J_idiv hX dL_acts_116 (by decide) (t := 117) rfl ?_
          refine J_iconst (v := 4) hX dL_acts_117 (by decide) (t := 118) rfl ?_
          refine J_irem hX dL_acts_118 (by decide) (t := 119) rfl ?_
          refine J_iadd hX dL_acts_119 (t := 120) rfl ?_
          refine J_istore (lc2 := [(8, .int (1 + ((x4 / 64) - (x4 / 64) / 4 * 4))), (7, .int ((x4 / 8) - (x4 / 8) / (z.2.1 0 0) * (z.2.1 0 0))), (6, .int (x4 - x4 / (z.2.1 0 1) * (z.2.1 0 1))), (5, .int x4), (4, .int x2), (0, .ref (aC n1)), (1, .ref (adW G 0)), (2, .ref (ga G 90)), (3, .int p3)]) hX dL_acts_120 (Nat.le_of_ble_eq_true rfl) rfl (t := 122) rfl ?_
          refine J_iconst (v := 1) hX dL_acts_122 (by decide) (t := 123) rfl ?_
          refine J_iload hX dL_acts_123 3 rfl (t := 125) rfl ?_
          refine J_sipush (v := 256) hX dL_acts_125 (by decide) (t := 128) rfl ?_
          refine J_idiv hX dL_acts_128 (by decide) (t := 129) rfl ?_
          refine J_bipush (v := 20) hX dL_acts_129 (by decide) (t := 131) rfl ?_
          refine J_irem hX dL_acts_131 (by decide) (t := 132) rfl ?_
          refine J_iadd hX dL_acts_132 (t := 133) rfl ?_
          refine J_istore (lc2 := [(9, .int (1 + ((x4 / 256) - (x4 / 256) / 20 * 20))), (8, .int (1 + ((x4 / 64) - (x4 / 64) / 4 * 4))), (7, .int ((x4 / 8) - (x4 / 8) / (z.2.1 0 0) * (z.2.1 0 0))), (6, .int (x4 - x4 / (z.2.1 0 1) * (z.2.1 0 1))), (5, .int x4), (4, .int x2), (0, .ref (aC n1)), (1, .ref (adW G 0)), (2, .ref (ga G 90)), (3, .int p3)]) hX dL_acts_133 (Nat.le_of_ble_eq_true rfl) rfl (t := 135) rfl ?_
          refine J_aload_n hX dL_acts_135 7 rfl (t := 136) rfl ?_
          refine J_iload hX dL_acts_136 3 rfl (t := 138) rfl ?_
          refine J_iload hX dL_acts_138 2 rfl (t := 140) rfl ?_
          refine J_iload hX dL_acts_140 1 rfl (t := 142) rfl ?_
          obtain ⟨x98, h97, hF⟩ := bo1_e hF
          refine J_lW hX hL [.int (x4 - x4 / (z.2.1 0 1) * (z.2.1 0 1)), .int ((x4 / 8) - (x4 / 8) / (z.2.1 0 0) * (z.2.1 0 0)), .int (1 + ((x4 / 64) - (x4 / 64) / 4 * 4))] [] [.int x98] (fun zz => ctW_refusal (G := upK G (gn G) (KwA G) zz) (l := l) z.2 (x4 - x4 / (z.2.1 0 1) * (z.2.1 0 1)) ((x4 / 8) - (x4 / 8) / (z.2.1 0 0) * (z.2.1 0 0)) (1 + ((x4 / 64) - (x4 / 64) / 4 * 4)) n h97) rfl miX13_refusal mvX13_refusal cb10 p_1528 ⟨rfl, rfl, Nat.le_of_ble_eq_true rfl, Nat.le_of_ble_eq_true rfl⟩ rfl rfl (Nat.le_of_ble_eq_true rfl) ⟨Nat.le_of_ble_eq_true rfl, Nat.le_of_ble_eq_true rfl⟩ dL_acts_142 (t := 145) rfl rfl ?_
          refine J_if_ne (tgt := 183) hX dL_acts_145 (by decide) (t := 148) rfl (fun zc => ?_) (fun zc => ?_)
          · replace hF := it_f hF zc
            refine J_aload_n hX dL_acts_183 6 rfl (t := 184) rfl ?_
            refine J_iconst (v := 1) hX dL_acts_184 (by decide) (t := 185) rfl ?_
            obtain ⟨x100, w101, h99, hF⟩ := bx2_e hF
            obtain ⟨w102, a103, hF⟩ := gh_e hF
            obtain ⟨z104, e105, hF⟩ := bnd_e hF
            refine J_lCg hX hL a103 [.int 1] [] [.int x100] (fun zz => ctX12_pass (G := GCz G n1 zz) (l := l) z.1 1 n h99) e105 miX12_pass mvX12_pass cb9 p_970 ⟨rfl, rfl, Nat.le_of_ble_eq_true rfl, Nat.le_of_ble_eq_true rfl⟩ rfl rfl (Nat.le_of_ble_eq_true rfl) ⟨Nat.le_of_ble_eq_true rfl, Nat.le_of_ble_eq_true rfl⟩ dL_acts_185 (t := 188) rfl rfl ?_
            refine J_aload_n hX dL_acts_188 7 rfl (t := 189) rfl ?_
            refine J_iconst (v := 1) hX dL_acts_189 (by decide) (t := 190) rfl ?_
            obtain ⟨x107, M108, h106, hF⟩ := bo2_e hF
            obtain ⟨z109, e110, hF⟩ := bnd_e hF
            refine J_lW hX hL [.int 1] [.int x100] [.int x107, .int x100] (fun zz => ctW_pass (G := upK G (gn G) (KwA G) zz) (l := l) z104.2 1 n h106) e110 miX13_pass mvX13_pass cb10 p_1519 ⟨rfl, rfl, Nat.le_of_ble_eq_true rfl, Nat.le_of_ble_eq_true rfl⟩ rfl rfl (Nat.le_of_ble_eq_true rfl) ⟨Nat.le_of_ble_eq_true rfl, Nat.le_of_ble_eq_true rfl⟩ dL_acts_190 (t := 193) rfl rfl ?_
            refine J_icmp_ne (tgt := 200) hX dL_acts_193 (by decide) (t := 196) rfl (fun zc => ?_) (fun zc => ?_)
            · replace hF := it_f hF zc
              refine J_iconst (v := 0) hX dL_acts_200 (by decide) (t := 201) rfl ?_
              replace hF := Option.some.inj hF
              obtain ⟨hF, hF2⟩ := Prod.mk.inj hF
              subst hF
              subst hF2
              refine J_wid (k := 8) (n := 3200) (Nat.le_of_ble_eq_true rfl) (Nat.le_of_ble_eq_true rfl) ?_
              exact J_zretP (b := false) hX hR hlk (fun H h => ⟨rfl, h⟩) dL_acts_201
            · replace hF := it_t hF zc
              refine J_iconst (v := 1) hX dL_acts_196 (by decide) (t := 197) rfl ?_
              refine J_goto (tgt := 201) hX dL_acts_197 (by decide) ?_
              replace hF := Option.some.inj hF
              obtain ⟨hF, hF2⟩ := Prod.mk.inj hF
              subst hF
              subst hF2
              refine J_wid (k := 8) (n := 3200) (Nat.le_of_ble_eq_true rfl) (Nat.le_of_ble_eq_true rfl) ?_
              exact J_zretP (b := true) hX hR hlk (fun H h => ⟨rfl, h⟩) dL_acts_201
          · replace hF := it_t hF zc
            refine J_aload_n hX dL_acts_148 6 rfl (t := 149) rfl ?_
            refine J_iload hX dL_acts_149 3 rfl (t := 151) rfl ?_
            refine J_iload hX dL_acts_151 2 rfl (t := 153) rfl ?_
            refine J_iload hX dL_acts_153 0 rfl (t := 155) rfl ?_
            refine J_iload hX dL_acts_155 1 rfl (t := 157) rfl ?_
            obtain ⟨x112, w113, h111, hF⟩ := bx2_e hF
            obtain ⟨w114, a115, hF⟩ := gh_e hF
            obtain ⟨z116, e117, hF⟩ := bnd_e hF
            refine J_lCg hX hL a115 [.int (x4 - x4 / (z.2.1 0 1) * (z.2.1 0 1)), .int ((x4 / 8) - (x4 / 8) / (z.2.1 0 0) * (z.2.1 0 0)), .int (1 + ((x4 / 256) - (x4 / 256) / 20 * 20)), .int (1 + ((x4 / 64) - (x4 / 64) / 4 * 4))] [] [.int x112] (fun zz => ctX12_shout (G := GCz G n1 zz) (l := l) z.1 (x4 - x4 / (z.2.1 0 1) * (z.2.1 0 1)) ((x4 / 8) - (x4 / 8) / (z.2.1 0 0) * (z.2.1 0 0)) (1 + ((x4 / 256) - (x4 / 256) / 20 * 20)) (1 + ((x4 / 64) - (x4 / 64) / 4 * 4)) n h111) e117 miX12_shout mvX12_shout cb9 p_1529 ⟨rfl, rfl, Nat.le_of_ble_eq_true rfl, Nat.le_of_ble_eq_true rfl⟩ rfl rfl (Nat.le_of_ble_eq_true rfl) ⟨Nat.le_of_ble_eq_true rfl, Nat.le_of_ble_eq_true rfl⟩ dL_acts_157 (t := 160) rfl rfl ?_
            refine J_aload_n hX dL_acts_160 7 rfl (t := 161) rfl ?_
            refine J_iload hX dL_acts_161 3 rfl (t := 163) rfl ?_
            refine J_iload hX dL_acts_163 2 rfl (t := 165) rfl ?_
            refine J_iload hX dL_acts_165 0 rfl (t := 167) rfl ?_
            refine J_iload hX dL_acts_167 1 rfl (t := 169) rfl ?_
            obtain ⟨x119, M120, h118, hF⟩ := bo2_e hF
            obtain ⟨z121, e122, hF⟩ := bnd_e hF
            refine J_lW hX hL [.int (x4 - x4 / (z.2.1 0 1) * (z.2.1 0 1)), .int ((x4 / 8) - (x4 / 8) / (z.2.1 0 0) * (z.2.1 0 0)), .int (1 + ((x4 / 256) - (x4 / 256) / 20 * 20)), .int (1 + ((x4 / 64) - (x4 / 64) / 4 * 4))] [.int x112] [.int x119, .int x112] (fun zz => ctW_sell (G := upK G (gn G) (KwA G) zz) (l := l) z116.2 (x4 - x4 / (z.2.1 0 1) * (z.2.1 0 1)) ((x4 / 8) - (x4 / 8) / (z.2.1 0 0) * (z.2.1 0 0)) (1 + ((x4 / 256) - (x4 / 256) / 20 * 20)) (1 + ((x4 / 64) - (x4 / 64) / 4 * 4)) h118) e122 miX13_sell mvX13_sell cb10 p_1541 ⟨rfl, rfl, Nat.le_of_ble_eq_true rfl, Nat.le_of_ble_eq_true rfl⟩ rfl rfl (Nat.le_of_ble_eq_true rfl) ⟨Nat.le_of_ble_eq_true rfl, Nat.le_of_ble_eq_true rfl⟩ dL_acts_169 (t := 172) rfl rfl ?_
            refine J_icmp_ne (tgt := 179) hX dL_acts_172 (by decide) (t := 175) rfl (fun zc => ?_) (fun zc => ?_)
            · replace hF := it_f hF zc
              refine J_iconst (v := 0) hX dL_acts_179 (by decide) (t := 180) rfl ?_
              refine J_goto (tgt := 201) hX dL_acts_180 (by decide) ?_
              replace hF := Option.some.inj hF
              obtain ⟨hF, hF2⟩ := Prod.mk.inj hF
              subst hF
              subst hF2
              refine J_wid (k := 8) (n := 3200) (Nat.le_of_ble_eq_true rfl) (Nat.le_of_ble_eq_true rfl) ?_
              exact J_zretP (b := false) hX hR hlk (fun H h => ⟨rfl, h⟩) dL_acts_201
            · replace hF := it_t hF zc
              refine J_iconst (v := 1) hX dL_acts_175 (by decide) (t := 176) rfl ?_
              refine J_goto (tgt := 201) hX dL_acts_176 (by decide) ?_
              replace hF := Option.some.inj hF
              obtain ⟨hF, hF2⟩ := Prod.mk.inj hF
              subst hF
              subst hF2
              refine J_wid (k := 8) (n := 3200) (Nat.le_of_ble_eq_true rfl) (Nat.le_of_ble_eq_true rfl) ?_
              exact J_zretP (b := true) hX hR hlk (fun H h => ⟨rfl, h⟩) dL_acts_201
      · replace hF := it_t hF zc
        refine J_sub (lc2 := [(0, .ref (aC n1)), (1, .ref (adW G 0)), (5, .int x4)]) [2, 3, 0] rfl ?_
        exact BQ_acts_45 hL hX hR hlk n z x4 hF
