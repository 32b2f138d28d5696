theorem p_24 : Cond.initialized RL ∈ WALL := WALL_in (List.mem_append_right _ (List.mem_append_left _ (List.mem_of_getElem? (i := 0) rfl))) rfl
theorem p_772 : Cond.static yJ9_min_7cf53 ∈ WALL := WALL_in (List.mem_append_right _ (List.mem_append_right _ (List.mem_append_right _ (List.mem_append_right _ (List.mem_append_left _ (List.mem_of_getElem? (i := 28) rfl)))))) rfl
theorem p_773 : Cond.code yJ9_min_7cf53 cJ9_min_7cf53 2 (some .int) ∈ WALL := WALL_in (List.mem_append_right _ (List.mem_append_right _ (List.mem_append_right _ (List.mem_append_right _ (List.mem_append_left _ (List.mem_of_getElem? (i := 29) rfl)))))) rfl
theorem p_912 : Cond.methodLink RL 57 yX12_time ∈ WALL := WALL_in (List.mem_append_right _ (List.mem_append_right _ (List.mem_append_right _ (List.mem_append_right _ (List.mem_append_left _ (List.mem_of_getElem? (i := 168) rfl)))))) rfl
theorem p_916 : Cond.methodLink RL 72 yX12_held ∈ WALL := WALL_in (List.mem_append_right _ (List.mem_append_right _ (List.mem_append_right _ (List.mem_append_right _ (List.mem_append_left _ (List.mem_of_getElem? (i := 172) rfl)))))) rfl
theorem p_920 : Cond.methodLink RL 249 yX12_openShouts ∈ WALL := WALL_in (List.mem_append_right _ (List.mem_append_right _ (List.mem_append_right _ (List.mem_append_right _ (List.mem_append_left _ (List.mem_of_getElem? (i := 176) rfl)))))) rfl
theorem p_928 : Cond.methodLink RL 137 yX12_shoutState ∈ WALL := WALL_in (List.mem_append_right _ (List.mem_append_right _ (List.mem_append_right _ (List.mem_append_right _ (List.mem_append_left _ (List.mem_of_getElem? (i := 184) rfl)))))) rfl
theorem p_956 : Cond.methodLink RL 252 yX12_nextEvent ∈ WALL := WALL_in (List.mem_append_right _ (List.mem_append_right _ (List.mem_append_right _ (List.mem_append_right _ (List.mem_append_left _ (List.mem_of_getElem? (i := 212) rfl)))))) rfl
theorem p_961 : Cond.methodLink RL 241 yX12_finalState ∈ WALL := WALL_in (List.mem_append_right _ (List.mem_append_right _ (List.mem_append_right _ (List.mem_append_right _ (List.mem_append_left _ (List.mem_of_getElem? (i := 217) rfl)))))) rfl
theorem p_1021 : Cond.fieldLink RL 39 RX13 "valleys" "I" ∈ WALL := WALL_in (List.mem_append_right _ (List.mem_append_right _ (List.mem_append_right _ (List.mem_append_right _ (List.mem_append_right _ (List.mem_append_left _ (List.mem_of_getElem? (i := 37) rfl))))))) rfl
theorem p_1022 : Cond.fieldLink RL 48 RX13 "customers" "I" ∈ WALL := WALL_in (List.mem_append_right _ (List.mem_append_right _ (List.mem_append_right _ (List.mem_append_right _ (List.mem_append_right _ (List.mem_append_left _ (List.mem_of_getElem? (i := 38) rfl))))))) rfl
theorem p_1024 : Cond.fieldLink RL 54 RX13 "shouts" "I" ∈ WALL := WALL_in (List.mem_append_right _ (List.mem_append_right _ (List.mem_append_right _ (List.mem_append_right _ (List.mem_append_right _ (List.mem_append_left _ (List.mem_of_getElem? (i := 40) rfl))))))) rfl
theorem p_1026 : Cond.fieldLink RL 60 RX13 "time" "I" ∈ WALL := WALL_in (List.mem_append_right _ (List.mem_append_right _ (List.mem_append_right _ (List.mem_append_right _ (List.mem_append_right _ (List.mem_append_left _ (List.mem_of_getElem? (i := 42) rfl))))))) rfl
theorem p_1028 : Cond.fieldLink RL 65 RX13 "earned" "I" ∈ WALL := WALL_in (List.mem_append_right _ (List.mem_append_right _ (List.mem_append_right _ (List.mem_append_right _ (List.mem_append_right _ (List.mem_append_left _ (List.mem_of_getElem? (i := 44) rfl))))))) rfl
theorem p_1030 : Cond.fieldLink RL 70 RX13 "refunded" "I" ∈ WALL := WALL_in (List.mem_append_right _ (List.mem_append_right _ (List.mem_append_right _ (List.mem_append_right _ (List.mem_append_right _ (List.mem_append_left _ (List.mem_of_getElem? (i := 46) rfl))))))) rfl
theorem p_1032 : Cond.fieldLink RL 80 RX13 "well" "I" ∈ WALL := WALL_in (List.mem_append_right _ (List.mem_append_right _ (List.mem_append_right _ (List.mem_append_right _ (List.mem_append_right _ (List.mem_append_left _ (List.mem_of_getElem? (i := 48) rfl))))))) rfl
theorem p_1036 : Cond.fieldLink RL 83 RX13 "valley" "[[I" ∈ WALL := WALL_in (List.mem_append_right _ (List.mem_append_right _ (List.mem_append_right _ (List.mem_append_right _ (List.mem_append_right _ (List.mem_append_left _ (List.mem_of_getElem? (i := 52) rfl))))))) rfl
theorem p_1038 : Cond.fieldLink RL 106 RX13 "customer" "[[I" ∈ WALL := WALL_in (List.mem_append_right _ (List.mem_append_right _ (List.mem_append_right _ (List.mem_append_right _ (List.mem_append_right _ (List.mem_append_left _ (List.mem_of_getElem? (i := 54) rfl))))))) rfl
theorem p_1040 : Cond.fieldLink RL 128 RX13 "shout" "[[I" ∈ WALL := WALL_in (List.mem_append_right _ (List.mem_append_right _ (List.mem_append_right _ (List.mem_append_right _ (List.mem_append_right _ (List.mem_append_left _ (List.mem_of_getElem? (i := 56) rfl))))))) rfl
theorem p_1070 : Cond.code yL_pick cL_pick 3 (some .int) ∈ WALL := WALL_in (List.mem_append_right _ (List.mem_append_right _ (List.mem_append_right _ (List.mem_append_right _ (List.mem_append_right _ (List.mem_append_left _ (List.mem_of_getElem? (i := 86) rfl))))))) rfl
theorem p_1071 : Cond.methodLink RL 9 yL_cell ∈ WALL := WALL_in (List.mem_append_right _ (List.mem_append_right _ (List.mem_append_right _ (List.mem_append_right _ (List.mem_append_right _ (List.mem_append_left _ (List.mem_of_getElem? (i := 87) rfl))))))) rfl
theorem p_1072 : Cond.static yL_cell ∈ WALL := WALL_in (List.mem_append_right _ (List.mem_append_right _ (List.mem_append_right _ (List.mem_append_right _ (List.mem_append_right _ (List.mem_append_left _ (List.mem_of_getElem? (i := 88) rfl))))))) rfl
theorem p_1073 : Cond.code yL_cell cL_cell 2 (some .int) ∈ WALL := WALL_in (List.mem_append_right _ (List.mem_append_right _ (List.mem_append_right _ (List.mem_append_right _ (List.mem_append_right _ (List.mem_append_left _ (List.mem_of_getElem? (i := 89) rfl))))))) rfl
theorem p_1074 : Cond.constant RL 7 1664525 ∈ WALL := WALL_in (List.mem_append_right _ (List.mem_append_right _ (List.mem_append_right _ (List.mem_append_right _ (List.mem_append_right _ (List.mem_append_left _ (List.mem_of_getElem? (i := 90) rfl))))))) rfl
theorem p_1075 : Cond.constant RL 8 50097 ∈ WALL := WALL_in (List.mem_append_right _ (List.mem_append_right _ (List.mem_append_right _ (List.mem_append_right _ (List.mem_append_right _ (List.mem_append_left _ (List.mem_of_getElem? (i := 91) rfl))))))) rfl
theorem p_1076 : Cond.constant RL 15 2147483647 ∈ WALL := WALL_in (List.mem_append_right _ (List.mem_append_right _ (List.mem_append_right _ (List.mem_append_right _ (List.mem_append_right _ (List.mem_append_left _ (List.mem_of_getElem? (i := 92) rfl))))))) rfl
theorem p_1311 : Cond.code yL_alike cL_alike 4 (some .boolean) ∈ WALL := WALL_in (List.mem_append_right _ (List.mem_append_right _ (List.mem_append_right _ (List.mem_append_right _ (List.mem_append_right _ (List.mem_append_right _ (List.mem_append_left _ (List.mem_of_getElem? (i := 87) rfl)))))))) rfl
theorem p_1312 : Cond.methodLink RL 36 yX12_valleyCount ∈ WALL := WALL_in (List.mem_append_right _ (List.mem_append_right _ (List.mem_append_right _ (List.mem_append_right _ (List.mem_append_right _ (List.mem_append_right _ (List.mem_append_left _ (List.mem_of_getElem? (i := 88) rfl)))))))) rfl
theorem p_1316 : Cond.methodLink RL 45 yX12_customerCount ∈ WALL := WALL_in (List.mem_append_right _ (List.mem_append_right _ (List.mem_append_right _ (List.mem_append_right _ (List.mem_append_right _ (List.mem_append_right _ (List.mem_append_left _ (List.mem_of_getElem? (i := 92) rfl)))))))) rfl
theorem p_1320 : Cond.methodLink RL 51 yX12_shoutCount ∈ WALL := WALL_in (List.mem_append_right _ (List.mem_append_right _ (List.mem_append_right _ (List.mem_append_right _ (List.mem_append_right _ (List.mem_append_right _ (List.mem_append_left _ (List.mem_of_getElem? (i := 96) rfl)))))))) rfl
theorem p_1324 : Cond.methodLink RL 62 yX12_earned ∈ WALL := WALL_in (List.mem_append_right _ (List.mem_append_right _ (List.mem_append_right _ (List.mem_append_right _ (List.mem_append_right _ (List.mem_append_right _ (List.mem_append_left _ (List.mem_of_getElem? (i := 100) rfl)))))))) rfl
theorem p_1328 : Cond.methodLink RL 67 yX12_refunded ∈ WALL := WALL_in (List.mem_append_right _ (List.mem_append_right _ (List.mem_append_right _ (List.mem_append_right _ (List.mem_append_right _ (List.mem_append_right _ (List.mem_append_left _ (List.mem_of_getElem? (i := 104) rfl)))))))) rfl
theorem p_1332 : Cond.methodLink RL 75 yX13_held ∈ WALL := WALL_in (List.mem_append_right _ (List.mem_append_right _ (List.mem_append_right _ (List.mem_append_right _ (List.mem_append_right _ (List.mem_append_right _ (List.mem_append_left _ (List.mem_of_getElem? (i := 108) rfl)))))))) rfl
theorem p_1336 : Cond.methodLink RL 77 yX12_wellDepth ∈ WALL := WALL_in (List.mem_append_right _ (List.mem_append_right _ (List.mem_append_right _ (List.mem_append_right _ (List.mem_append_right _ (List.mem_append_right _ (List.mem_append_left _ (List.mem_of_getElem? (i := 112) rfl)))))))) rfl
theorem p_1340 : Cond.methodLink RL 87 yX12_width ∈ WALL := WALL_in (List.mem_append_right _ (List.mem_append_right _ (List.mem_append_right _ (List.mem_append_right _ (List.mem_append_right _ (List.mem_append_right _ (List.mem_append_left _ (List.mem_of_getElem? (i := 116) rfl)))))))) rfl
theorem p_1352 : Cond.methodLink RL 90 yX12_walls ∈ WALL := WALL_in (List.mem_append_right _ (List.mem_append_right _ (List.mem_append_right _ (List.mem_append_right _ (List.mem_append_right _ (List.mem_append_right _ (List.mem_append_left _ (List.mem_of_getElem? (i := 128) rfl)))))))) rfl
theorem p_1356 : Cond.methodLink RL 93 yX12_price ∈ WALL := WALL_in (List.mem_append_right _ (List.mem_append_right _ (List.mem_append_right _ (List.mem_append_right _ (List.mem_append_right _ (List.mem_append_right _ (List.mem_append_left _ (List.mem_of_getElem? (i := 132) rfl)))))))) rfl
theorem p_1360 : Cond.methodLink RL 96 yX12_rating ∈ WALL := WALL_in (List.mem_append_right _ (List.mem_append_right _ (List.mem_append_right _ (List.mem_append_right _ (List.mem_append_right _ (List.mem_append_right _ (List.mem_append_left _ (List.mem_of_getElem? (i := 136) rfl)))))))) rfl
theorem p_1364 : Cond.methodLink RL 99 yX12_echoesLost ∈ WALL := WALL_in (List.mem_append_right _ (List.mem_append_right _ (List.mem_append_right _ (List.mem_append_right _ (List.mem_append_right _ (List.mem_append_right _ (List.mem_append_left _ (List.mem_of_getElem? (i := 140) rfl)))))))) rfl
theorem p_1368 : Cond.methodLink RL 102 yX12_valleyByte ∈ WALL := WALL_in (List.mem_append_right _ (List.mem_append_right _ (List.mem_append_right _ (List.mem_append_right _ (List.mem_append_right _ (List.mem_append_right _ (List.mem_append_left _ (List.mem_of_getElem? (i := 144) rfl)))))))) rfl
theorem p_1373 : Cond.methodLink RL 109 yX12_patience ∈ WALL := WALL_in (List.mem_append_right _ (List.mem_append_right _ (List.mem_append_right _ (List.mem_append_right _ (List.mem_append_right _ (List.mem_append_right _ (List.mem_append_left _ (List.mem_of_getElem? (i := 149) rfl)))))))) rfl
theorem p_1385 : Cond.methodLink RL 112 yX12_money ∈ WALL := WALL_in (List.mem_append_right _ (List.mem_append_right _ (List.mem_append_right _ (List.mem_append_right _ (List.mem_append_right _ (List.mem_append_right _ (List.mem_append_left _ (List.mem_of_getElem? (i := 161) rfl)))))))) rfl
theorem p_1389 : Cond.methodLink RL 115 yX12_suspicion ∈ WALL := WALL_in (List.mem_append_right _ (List.mem_append_right _ (List.mem_append_right _ (List.mem_append_right _ (List.mem_append_right _ (List.mem_append_right _ (List.mem_append_left _ (List.mem_of_getElem? (i := 165) rfl)))))))) rfl
theorem p_1393 : Cond.methodLink RL 118 yX12_echoesHeard ∈ WALL := WALL_in (List.mem_append_right _ (List.mem_append_right _ (List.mem_append_right _ (List.mem_append_right _ (List.mem_append_right _ (List.mem_append_right _ (List.mem_append_left _ (List.mem_of_getElem? (i := 169) rfl)))))))) rfl
theorem p_1397 : Cond.methodLink RL 121 yX12_isAngry ∈ WALL := WALL_in (List.mem_append_right _ (List.mem_append_right _ (List.mem_append_right _ (List.mem_append_right _ (List.mem_append_right _ (List.mem_append_right _ (List.mem_append_left _ (List.mem_of_getElem? (i := 173) rfl)))))))) rfl
theorem p_1402 : Cond.methodLink RL 125 yX12_heldFor ∈ WALL := WALL_in (List.mem_append_right _ (List.mem_append_right _ (List.mem_append_right _ (List.mem_append_right _ (List.mem_append_right _ (List.mem_append_right _ (List.mem_append_left _ (List.mem_of_getElem? (i := 178) rfl)))))))) rfl
theorem p_1406 : Cond.methodLink RL 131 yX12_shoutCustomer ∈ WALL := WALL_in (List.mem_append_right _ (List.mem_append_right _ (List.mem_append_right _ (List.mem_append_right _ (List.mem_append_right _ (List.mem_append_right _ (List.mem_append_left _ (List.mem_of_getElem? (i := 182) rfl)))))))) rfl
theorem p_1410 : Cond.methodLink RL 134 yX12_shoutValley ∈ WALL := WALL_in (List.mem_append_right _ (List.mem_append_right _ (List.mem_append_right _ (List.mem_append_right _ (List.mem_append_right _ (List.mem_append_right _ (List.mem_append_left _ (List.mem_of_getElem? (i := 186) rfl)))))))) rfl
theorem p_1414 : Cond.methodLink RL 140 yX12_returns ∈ WALL := WALL_in (List.mem_append_right _ (List.mem_append_right _ (List.mem_append_right _ (List.mem_append_right _ (List.mem_append_right _ (List.mem_append_right _ (List.mem_append_left _ (List.mem_of_getElem? (i := 190) rfl)))))))) rfl
theorem p_1418 : Cond.methodLink RL 143 yX12_receipt ∈ WALL := WALL_in (List.mem_append_right _ (List.mem_append_right _ (List.mem_append_right _ (List.mem_append_right _ (List.mem_append_right _ (List.mem_append_right _ (List.mem_append_left _ (List.mem_of_getElem? (i := 194) rfl)))))))) rfl
theorem p_1427 : Cond.static yJ6_bitCount_0f7a4 ∈ WALL := WALL_in (List.mem_append_right _ (List.mem_append_right _ (List.mem_append_right _ (List.mem_append_right _ (List.mem_append_right _ (List.mem_append_right _ (List.mem_append_left _ (List.mem_of_getElem? (i := 203) rfl)))))))) rfl
theorem p_1432 : Cond.methodLink RL 146 yJ6_bitCount_0f7a4 ∈ WALL := WALL_in (List.mem_append_right _ (List.mem_append_right _ (List.mem_append_right _ (List.mem_append_right _ (List.mem_append_right _ (List.mem_append_right _ (List.mem_append_left _ (List.mem_of_getElem? (i := 208) rfl)))))))) rfl
theorem p_1433 : Cond.methodLink RL 151 yX12_nextReturn ∈ WALL := WALL_in (List.mem_append_right _ (List.mem_append_right _ (List.mem_append_right _ (List.mem_append_right _ (List.mem_append_right _ (List.mem_append_right _ (List.mem_append_left _ (List.mem_of_getElem? (i := 209) rfl)))))))) rfl
theorem p_1439 : Cond.methodLink RL 154 yX13_due ∈ WALL := WALL_in (List.mem_append_right _ (List.mem_append_right _ (List.mem_append_right _ (List.mem_append_right _ (List.mem_append_right _ (List.mem_append_right _ (List.mem_append_left _ (List.mem_of_getElem? (i := 215) rfl)))))))) rfl
theorem p_1440 : Cond.methodLink RL 158 yX12_patienceEnds ∈ WALL := WALL_in (List.mem_append_right _ (List.mem_append_right _ (List.mem_append_right _ (List.mem_append_right _ (List.mem_append_right _ (List.mem_append_right _ (List.mem_append_left _ (List.mem_of_getElem? (i := 216) rfl)))))))) rfl
theorem p_1444 : Cond.methodLink RL 161 yX13_end ∈ WALL := WALL_in (List.mem_append_right _ (List.mem_append_right _ (List.mem_append_right _ (List.mem_append_right _ (List.mem_append_right _ (List.mem_append_right _ (List.mem_append_left _ (List.mem_of_getElem? (i := 220) rfl)))))))) rfl
theorem p_1544 : Cond.code yL_openOne cL_openOne 3 (some .int) ∈ WALL := WALL_in (List.mem_append_right _ (List.mem_append_right _ (List.mem_append_right _ (List.mem_append_right _ (List.mem_append_right _ (List.mem_append_right _ (List.mem_append_right _ (List.mem_of_getElem? (i := 80) rfl)))))))) rfl
theorem p_1590 : Cond.code yL_holds cL_holds 7 (some .boolean) ∈ WALL := WALL_in (List.mem_append_right _ (List.mem_append_right _ (List.mem_append_right _ (List.mem_append_right _ (List.mem_append_right _ (List.mem_append_right _ (List.mem_append_right _ (List.mem_of_getElem? (i := 126) rfl)))))))) rfl
theorem p_1591 : Cond.methodLink RL 238 yX12_violations ∈ WALL := WALL_in (List.mem_append_right _ (List.mem_append_right _ (List.mem_append_right _ (List.mem_append_right _ (List.mem_append_right _ (List.mem_append_right _ (List.mem_append_right _ (List.mem_of_getElem? (i := 127) rfl)))))))) rfl
theorem p_1602 : Cond.methodLink RL 244 yJ9_min_7cf53 ∈ WALL := WALL_in (List.mem_append_right _ (List.mem_append_right _ (List.mem_append_right _ (List.mem_append_right _ (List.mem_append_right _ (List.mem_append_right _ (List.mem_append_right _ (List.mem_of_getElem? (i := 138) rfl)))))))) rfl
/-! THE LAW's OWN METHODS by program: cell, pick, openOne, holds, alike -/
abbrev rmL_cell : Room := { frames := 0, cells := 0, slots := 0, locals := 0 }
theorem miL_cell : MI yL_cell cL_cell 2 (some .int) 2 := ⟨p_1073, p_24, by decide +kernel, by decide +kernel, by decide +kernel, by decide +kernel⟩
def FQ_cell (N : Nat) (f : Nat → Int32) (p1 : Int32) : Option Int32 :=
  if nI N ≤ p1 then
    some ((1664525 * p1) + 50097)
  else
    gd (inb p1 N) <|
    some (f p1.toNatClampNeg)
set_option maxHeartbeats 4000000 in
set_option maxRecDepth 100000 in
theorem ctQ_cell {G : GG} {l : Launch} {I : Heap → Prop} (p1 : Int32)  {rx : Int32} (hF : FQ_cell (gN G) (gX G) p1 = some rx) : CTP G l yL_cell cL_cell 2 (some .int) rmL_cell 0 0 [.ref (ga G 90), .int p1] I (fun v9 H => v9 = some (.int rx) ∧ I H) := by
  refine CTP.of miL_cell [(0, .ref (ga G 90)), (1, .int p1)] rfl (Nat.le_of_ble_eq_true rfl) ?_
  intro p e s m args below meth c hX hR hlk
  have hX : FX G RL cL_cell 2 p s m args c := hX
  unfold FQ_cell at hF
  refine J_iload_n hX dL_cell_0 1 rfl (t := 1) rfl ?_
  refine J_aload_n hX dL_cell_1 0 rfl (t := 2) rfl ?_
  refine J_sclen hX dL_cell_2 (t := 3) rfl ?_
  refine J_icmp_ge (tgt := 12) hX dL_cell_3 (by decide) (t := 6) rfl (fun zc => ?_) (fun zc => ?_)
  · replace hF := it_t hF zc
    refine J_ldc hX dL_cell_12 p_1074 (t := 14) rfl ?_
    refine J_iload_n hX dL_cell_14 1 rfl (t := 15) rfl ?_
    refine J_imul hX dL_cell_15 (t := 16) rfl ?_
    refine J_ldc hX dL_cell_16 p_1075 (t := 18) rfl ?_
    refine J_iadd hX dL_cell_18 (t := 19) rfl ?_
    replace hF := Option.some.inj hF
    subst hF
    exact J_iretP hX hR hlk (fun H h => ⟨rfl, h⟩) dL_cell_19
  · replace hF := it_f hF zc
    refine J_aload_n hX dL_cell_6 0 rfl (t := 7) rfl ?_
    refine J_iload_n hX dL_cell_7 1 rfl (t := 8) rfl ?_
    obtain ⟨g1, hF⟩ := gd_e hF
    refine J_scald hX g1 dL_cell_8 (t := 9) rfl ?_
    refine J_goto (tgt := 19) hX dL_cell_9 (by decide) ?_
    replace hF := Option.some.inj hF
    subst hF
    exact J_iretP hX hR hlk (fun H h => ⟨rfl, h⟩) dL_cell_19
abbrev rmL_pick : Room := { frames := 1, cells := 0, slots := 0, locals := 21 }
theorem miL_pick : MI yL_pick cL_pick 3 (some .int) 3 := ⟨p_1070, p_24, by decide +kernel, by decide +kernel, by decide +kernel, by decide +kernel⟩
def FQ_pick (N : Nat) (f : Nat → Int32) (p1 : Int32) (p2 : Int32) : Option Int32 :=
  bo1 (FQ_cell N f p1) fun x2 =>
  gd (!decide (p2 = 0)) <|
  some ((x2 &&& 2147483647) - (x2 &&& 2147483647) / p2 * p2)
set_option maxHeartbeats 4000000 in
set_option maxRecDepth 100000 in
theorem ctQ_pick {G : GG} {l : Launch} {I : Heap → Prop} (p1 : Int32) (p2 : Int32)  {rx : Int32} (hF : FQ_pick (gN G) (gX G) p1 p2 = some rx) : CTP G l yL_pick cL_pick 3 (some .int) rmL_pick 0 0 [.ref (ga G 90), .int p1, .int p2] I (fun v9 H => v9 = some (.int rx) ∧ I H) := by
  refine CTP.of miL_pick [(0, .ref (ga G 90)), (1, .int p1), (2, .int p2)] rfl (Nat.le_of_ble_eq_true rfl) ?_
  intro p e s m args below meth c hX hR hlk
  have hX : FX G RL cL_pick 3 p s m args c := hX
  unfold FQ_pick at hF
  refine J_aload_n hX dL_pick_0 0 rfl (t := 1) rfl ?_
  refine J_iload_n hX dL_pick_1 1 rfl (t := 2) rfl ?_
  obtain ⟨x2, h1, hF⟩ := bo1_e hF
  refine J_callSP hX [.ref (ga G 90), .int p1] [] (ctQ_cell (G := G) (l := l) p1 h1) miL_cell p_1072 p_1071 ⟨rfl, rfl, Nat.le_of_ble_eq_true rfl, Nat.le_of_ble_eq_true rfl⟩ rfl rfl (Nat.le_of_ble_eq_true rfl) ⟨Nat.le_of_ble_eq_true rfl, Nat.le_of_ble_eq_true rfl⟩ dL_pick_2 (t := 5) rfl (fun v => J_pure fun hv => ?_)
  subst hv
  refine J_ldc hX dL_pick_5 p_1076 (t := 7) rfl ?_
  refine J_iand hX dL_pick_7 (t := 8) rfl ?_
  refine J_iload_n hX dL_pick_8 2 rfl (t := 9) rfl ?_
  obtain ⟨g3, hF⟩ := gd_e hF
  refine J_irem hX dL_pick_9 (ne_e g3) (t := 10) rfl ?_
  replace hF := Option.some.inj hF
  subst hF
  exact J_iretP hX hR hlk (fun H h => ⟨rfl, h⟩) dL_pick_10
abbrev rmL_openOne : Room := { frames := 0, cells := 0, slots := 0, locals := 0 }
theorem miL_openOne : MI yL_openOne cL_openOne 3 (some .int) 2 := ⟨p_1544, p_24, by decide +kernel, by decide +kernel, by decide +kernel, by decide +kernel⟩
noncomputable def FQ_openOne_L2 (n : Nat) : Nat → (Wd × MM) → Int32 → Int32 → Option Int32
  | 0 => fun _ _ _ => none
  | k + 1 => fun z l1 l2 =>
    let rc2 := FQ_openOne_L2 n k
    if z.2.1 0 2 ≤ l2 then
      some (-1)
    else
      gd (!decide ((z.2.1 0 2) = 0)) <|
      gd (inb ((l1 + l2) - (l1 + l2) / (z.2.1 0 2) * (z.2.1 0 2)) 30) <|
      if z.2.1 (20 + ((l1 + l2) - (l1 + l2) / (z.2.1 0 2) * (z.2.1 0 2)).toNatClampNeg) 6 = 0 then
        gd (!decide ((z.2.1 0 2) = 0)) <|
        some ((l1 + l2) - (l1 + l2) / (z.2.1 0 2) * (z.2.1 0 2))
      else
        rc2 z l1 (l2 + 1)
set_option maxHeartbeats 4000000 in
set_option maxRecDepth 100000 in
theorem LQ_openOne_2 {G : GG} {l : Launch} {n1 : Nat} {X : Heap → Prop} (hL : LOK G n1 X) {p : Program} {e : Env} {s : State} {m : MethodId} {args : Array Value} {below : List Frame} {meth : Method} {c : Code} (hX : FX G RL cL_openOne 3 p s m args c) (hR : meth.sig.returnType = (some .int)) (hlk : meth.locks = false) {rx : Int32} (n : Nat) : ∀ (k : Nat) (z : Wd × MM) (l1 : Int32) (l2 : Int32) , FQ_openOne_L2 n k z l1 l2 = some rx → J G p l e rmL_openOne s m args below meth c 3 0 0 (MQ below (QP G (fun v9 H => v9 = some (.int rx) ∧ LH G n1 X z H)) args s 0 0 (gA G)) (LH G n1 X z) 2 [(0, .ref (adW G 0)), (1, .int l1), (2, .int l2)] [] := by
  intro k
  induction k with
  | zero => intro z l1 l2  hF; cases hF
  | succ k ih =>
    intro z l1 l2  hF
    simp only [FQ_openOne_L2] at hF
    generalize hrcd : FQ_openOne_L2 n k = rc2 at hF ih
    have hrc2 := ih
    refine J_iload_n hX dL_openOne_2 2 rfl (t := 3) rfl ?_
    refine J_aload_n hX dL_openOne_3 0 rfl (t := 4) rfl ?_
    refine J_wGet hX 2 (by decide) p_1024 rfl dL_openOne_4 (t := 7) rfl ?_
    refine J_icmp_ge (tgt := 44) hX dL_openOne_7 (by decide) (t := 10) rfl (fun zc => ?_) (fun zc => ?_)
    · replace hF := it_t hF zc
      refine J_iconst (v := (-1)) hX dL_openOne_44 (by decide) (t := 45) rfl ?_
      replace hF := Option.some.inj hF
      subst hF
      exact J_iretP hX hR hlk (fun H h => ⟨rfl, h⟩) dL_openOne_45
    · replace hF := it_f hF zc
      refine J_aload_n hX dL_openOne_10 0 rfl (t := 11) rfl ?_
      refine J_wGet hX 10 (by decide) p_1040 rfl dL_openOne_11 (t := 14) rfl ?_
      refine J_iload_n hX dL_openOne_14 1 rfl (t := 15) rfl ?_
      refine J_iload_n hX dL_openOne_15 2 rfl (t := 16) rfl ?_
      refine J_iadd hX dL_openOne_16 (t := 17) rfl ?_
      refine J_aload_n hX dL_openOne_17 0 rfl (t := 18) rfl ?_
      refine J_wGet hX 2 (by decide) p_1024 rfl dL_openOne_18 (t := 21) rfl ?_
      obtain ⟨g1, hF⟩ := gd_e hF
      refine J_irem hX dL_openOne_21 (ne_e g1) (t := 22) rfl ?_
      obtain ⟨g2, hF⟩ := gd_e hF
      refine J_wAs hX g2 dL_openOne_22 (t := 23) rfl ?_
      refine J_bipush (v := 6) hX dL_openOne_23 (by decide) (t := 25) rfl ?_
      refine J_wAld (n := 9) hX (kWs (inbR g2)) (by decide) rfl dL_openOne_25 (t := 26) rfl ?_
      refine J_if_ne (tgt := 38) hX dL_openOne_26 (by decide) (t := 29) rfl (fun zc => ?_) (fun zc => ?_)
      · replace hF := it_f hF zc
        refine J_iinc (v := l2 + 1) (lc2 := [(2, .int (l2 + 1)), (0, .ref (adW G 0)), (1, .int l1)]) hX dL_openOne_38 2 rfl rfl (Nat.le_of_ble_eq_true rfl) rfl (t := 41) rfl ?_
        refine J_goto (tgt := 2) hX dL_openOne_41 (by decide) ?_
        refine J_sub (lc2 := [(0, .ref (adW G 0)), (1, .int l1), (2, .int (l2 + 1))]) [1, 2, 0] rfl ?_
        exact hrc2 z l1 (l2 + 1) hF
      · replace hF := it_t hF zc
        refine J_iload_n hX dL_openOne_29 1 rfl (t := 30) rfl ?_
        refine J_iload_n hX dL_openOne_30 2 rfl (t := 31) rfl ?_
        refine J_iadd hX dL_openOne_31 (t := 32) rfl ?_
        refine J_aload_n hX dL_openOne_32 0 rfl (t := 33) rfl ?_
        refine J_wGet hX 2 (by decide) p_1024 rfl dL_openOne_33 (t := 36) rfl ?_
        obtain ⟨g3, hF⟩ := gd_e hF
        refine J_irem hX dL_openOne_36 (ne_e g3) (t := 37) rfl ?_
        replace hF := Option.some.inj hF
        subst hF
        exact J_iretP hX hR hlk (fun H h => ⟨rfl, h⟩) dL_openOne_37
noncomputable def FQ_openOne (n : Nat) (z : Wd × MM) (p1 : Int32) : Option Int32 :=
  FQ_openOne_L2 n n z p1 0
set_option maxHeartbeats 4000000 in
set_option maxRecDepth 100000 in
theorem ctQ_openOne {G : GG} {l : Launch} {n1 : Nat} {X : Heap → Prop} (hL : LOK G n1 X) (z : Wd × MM) (p1 : Int32)  (n : Nat) {rx : Int32} (hF : FQ_openOne n z p1 = some rx) : CTP G l yL_openOne cL_openOne 3 (some .int) rmL_openOne 0 0 [.ref (adW G 0), .int p1] (LH G n1 X z) (fun v9 H => v9 = some (.int rx) ∧ LH G n1 X z H) := by
  refine CTP.of miL_openOne [(0, .ref (adW G 0)), (1, .int p1)] rfl (Nat.le_of_ble_eq_true rfl) ?_
  intro p e s m args below meth c hX hR hlk
  have hX : FX G RL cL_openOne 3 p s m args c := hX
  unfold FQ_openOne at hF
  refine J_iconst (v := 0) hX dL_openOne_0 (by decide) (t := 1) rfl ?_
  refine J_istore_n (lc2 := [(2, .int 0), (0, .ref (adW G 0)), (1, .int p1)]) hX dL_openOne_1 rfl (Nat.le_of_ble_eq_true rfl) rfl (t := 2) rfl ?_
  refine J_sub (lc2 := [(0, .ref (adW G 0)), (1, .int p1), (2, .int 0)]) [1, 2, 0] rfl ?_
  exact LQ_openOne_2 hL hX hR hlk n n z p1 0 hF
abbrev rmL_holds : Room := { frames := 9, cells := 0, slots := 0, locals := 153 }
theorem miL_holds : MI yL_holds cL_holds 7 (some .boolean) 1 := ⟨p_1590, p_24, by decide +kernel, by decide +kernel, by decide +kernel, by decide +kernel⟩
noncomputable def FQ_holds_B194 (n : Nat) (rc146 : (Wd × MM) → Int32 → Int32 → Int32 → Int32 → Int32 → Option Bool) (rc21 : (Wd × MM) → Int32 → Int32 → Int32 → Int32 → Int32 → Option Bool) (z : Wd × MM) (l1 : Int32) (l2 : Int32) (l3 : Int32) (l4 : Int32) (l5 : Int32) (y0 : Bool) (y1 : Bool) : Option Bool :=
  if bI y1 = bI y0 then
    rc146 z l1 l2 l3 l4 (l5 + 1)
  else
    some false
set_option maxHeartbeats 4000000 in
set_option maxRecDepth 100000 in
theorem BQ_holds_194 {G : GG} {l : Launch} {n1 : Nat} {X : Heap → Prop} (hL : LOK G n1 X) {p : Program} {e : Env} {s : State} {m : MethodId} {args : Array Value} {below : List Frame} {meth : Method} {c : Code} (hX : FX G RL cL_holds 7 p s m args c) (hR : meth.sig.returnType = (some .boolean)) (hlk : meth.locks = false) {rx : Bool} (n : Nat) (rc146 : (Wd × MM) → Int32 → Int32 → Int32 → Int32 → Int32 → Option Bool) (hrc146 : ∀ (z : Wd × MM) (l1 : Int32) (l2 : Int32) (l3 : Int32) (l4 : Int32) (l5 : Int32) , rc146 z l1 l2 l3 l4 l5 = some rx → J G p l e rmL_holds s m args below meth c 7 0 0 (MQ below (QP G (fun v9 H => v9 = some (.int (bI rx)) ∧ LH G n1 X z H)) args s 0 0 (gA G)) (LH G n1 X z) 146 [(0, .ref (aC n1)), (1, .int l1), (2, .int l2), (3, .int l3), (4, .int l4), (5, .int l5)] []) (rc21 : (Wd × MM) → Int32 → Int32 → Int32 → Int32 → Int32 → Option Bool) (hrc21 : ∀ (z : Wd × MM) (l1 : Int32) (l2 : Int32) (l3 : Int32) (l4 : Int32) (l5 : Int32) , rc21 z l1 l2 l3 l4 l5 = some rx → J G p l e rmL_holds s m args below meth c 7 0 0 (MQ below (QP G (fun v9 H => v9 = some (.int (bI rx)) ∧ LH G n1 X z H)) args s 0 0 (gA G)) (LH G n1 X z) 21 [(0, .ref (aC n1)), (1, .int l1), (2, .int l2), (3, .int l3), (4, .int l4), (5, .int l5)] []) (z : Wd × MM) (l1 : Int32) (l2 : Int32) (l3 : Int32) (l4 : Int32) (l5 : Int32) (y0 : Bool) (y1 : Bool)  (hF : FQ_holds_B194 n rc146 rc21 z l1 l2 l3 l4 l5 y0 y1 = some rx) : J G p l e rmL_holds s m args below meth c 7 0 0 (MQ below (QP G (fun v9 H => v9 = some (.int (bI rx)) ∧ LH G n1 X z H)) args s 0 0 (gA G)) (LH G n1 X z) 194 [(0, .ref (aC n1)), (1, .int l1), (2, .int l2), (3, .int l3), (4, .int l4), (5, .int l5)] [.int (bI y0), .int (bI y1)] := by
  unfold FQ_holds_B194 at hF
  refine J_icmp_eq (tgt := 199) hX dL_holds_194 (by decide) (t := 197) rfl (fun zc => ?_) (fun zc => ?_)
  · replace hF := it_t hF zc
    refine J_iinc (v := l5 + 1) (lc2 := [(5, .int (l5 + 1)), (0, .ref (aC n1)), (1, .int l1), (2, .int l2), (3, .int l3), (4, .int l4)]) hX dL_holds_199 5 rfl rfl (Nat.le_of_ble_eq_true rfl) rfl (t := 202) rfl ?_
    refine J_goto (tgt := 146) hX dL_holds_202 (by decide) ?_
    refine J_sub (lc2 := [(0, .ref (aC n1)), (1, .int l1), (2, .int l2), (3, .int l3), (4, .int l4), (5, .int (l5 + 1))]) [1, 2, 3, 4, 5, 0] rfl ?_
    exact hrc146 z l1 l2 l3 l4 (l5 + 1) hF
  · replace hF := it_f hF zc
    refine J_iconst (v := 0) hX dL_holds_197 (by decide) (t := 198) rfl ?_
    replace hF := Option.some.inj hF
    subst hF
    exact J_zretP (b := false) hX hR hlk (fun H h => ⟨rfl, h⟩) dL_holds_198
noncomputable def FQ_holds_L146 (n : Nat) (rc21 : (Wd × MM) → Int32 → Int32 → Int32 → Int32 → Int32 → Option Bool) : Nat → (Wd × MM) → Int32 → Int32 → Int32 → Int32 → Int32 → Option Bool
  | 0 => fun _ _ _ _ _ _ => none
  | k + 1 => fun z l1 l2 l3 l4 l5 =>
    let rc146 := FQ_holds_L146 n rc21 k
    bnd (FX12_customerCount z.1) fun x6 =>
    if x6 ≤ l5 then
      bo1 (FX12_openShouts n z.1) fun x8 =>
      if l1 = x8 then
        bnd (FX12_held z.1) fun x10 =>
        if l2 = x10 then
          bnd (FX12_earned z.1) fun x12 =>
          if l3 = x12 then
            bo1 (FX12_nextEvent n z.1) fun x14 =>
            if l4 = x14 then
              some true
            else
              some false
          else
            some false
        else
          some false
      else
        some false
    else
      bx1 (FX12_heldFor z.1 l5) fun x16 =>
      bx1 (FX12_money z.1 l5) fun x18 =>
      if x18 < 0 then
        some false
      else
        bx1 (FX12_isAngry z.1 l5) fun x20 =>
        bx1 (FX12_suspicion z.1 l5) fun x22 =>
        if x22 ≤ 2 then
          FQ_holds_B194 n rc146 rc21 z l1 (l2 + x16) l3 l4 l5 false x20
        else
          FQ_holds_B194 n rc146 rc21 z l1 (l2 + x16) l3 l4 l5 true x20
set_option maxHeartbeats 4000000 in
set_option maxRecDepth 100000 in
theorem LQ_holds_146 {G : GG} {l : Launch} {n1 : Nat} {X : Heap → Prop} (hL : LOK G n1 X) {p : Program} {e : Env} {s : State} {m : MethodId} {args : Array Value} {below : List Frame} {meth : Method} {c : Code} (hX : FX G RL cL_holds 7 p s m args c) (hR : meth.sig.returnType = (some .boolean)) (hlk : meth.locks = false) {rx : Bool} (n : Nat) (rc21 : (Wd × MM) → Int32 → Int32 → Int32 → Int32 → Int32 → Option Bool) (hrc21 : ∀ (z : Wd × MM) (l1 : Int32) (l2 : Int32) (l3 : Int32) (l4 : Int32) (l5 : Int32) , rc21 z l1 l2 l3 l4 l5 = some rx → J G p l e rmL_holds s m args below meth c 7 0 0 (MQ below (QP G (fun v9 H => v9 = some (.int (bI rx)) ∧ LH G n1 X z H)) args s 0 0 (gA G)) (LH G n1 X z) 21 [(0, .ref (aC n1)), (1, .int l1), (2, .int l2), (3, .int l3), (4, .int l4), (5, .int l5)] []) : ∀ (k : Nat) (z : Wd × MM) (l1 : Int32) (l2 : Int32) (l3 : Int32) (l4 : Int32) (l5 : Int32) , FQ_holds_L146 n rc21 k z l1 l2 l3 l4 l5 = some rx → J G p l e rmL_holds s m args below meth c 7 0 0 (MQ below (QP G (fun v9 H => v9 = some (.int (bI rx)) ∧ LH G n1 X z H)) args s 0 0 (gA G)) (LH G n1 X z) 146 [(0, .ref (aC n1)), (1, .int l1), (2, .int l2), (3, .int l3), (4, .int l4), (5, .int l5)] [] := by
  intro k
  induction k with
  | zero => intro z l1 l2 l3 l4 l5  hF; cases hF
  | succ k ih =>
    intro z l1 l2 l3 l4 l5  hF
    simp only [FQ_holds_L146] at hF
    generalize hrcd : FQ_holds_L146 n rc21 k = rc146 at hF ih
    have hrc146 := ih
    refine J_iload hX dL_holds_146 5 rfl (t := 148) rfl ?_
    refine J_aload_n hX dL_holds_148 0 rfl (t := 149) rfl ?_
    obtain ⟨x6, h5, hF⟩ := bnd_e hF
    refine J_lC hX hL [] [.int l5] [.int x6, .int l5] (fun zz => ctX12_customerCount (G := GCz G n1 zz) (l := l) z.1  h5) rfl miX12_customerCount mvX12_customerCount cb9 p_1316 ⟨rfl, rfl, Nat.le_of_ble_eq_true rfl, Nat.le_of_ble_eq_true rfl⟩ rfl rfl (Nat.le_of_ble_eq_true rfl) ⟨Nat.le_of_ble_eq_true rfl, Nat.le_of_ble_eq_true rfl⟩ dL_holds_149 (t := 152) rfl rfl ?_
    refine J_icmp_ge (tgt := 205) hX dL_holds_152 (by decide) (t := 155) rfl (fun zc => ?_) (fun zc => ?_)
    · replace hF := it_t hF zc
      refine J_iload_n hX dL_holds_205 1 rfl (t := 206) rfl ?_
      refine J_aload_n hX dL_holds_206 0 rfl (t := 207) rfl ?_
      obtain ⟨x8, h7, hF⟩ := bo1_e hF
      refine J_lC hX hL [] [.int l1] [.int x8, .int l1] (fun zz => ctX12_openShouts (G := GCz G n1 zz) (l := l) z.1  n h7) rfl miX12_openShouts mvX12_openShouts cb9 p_920 ⟨rfl, rfl, Nat.le_of_ble_eq_true rfl, Nat.le_of_ble_eq_true rfl⟩ rfl rfl (Nat.le_of_ble_eq_true rfl) ⟨Nat.le_of_ble_eq_true rfl, Nat.le_of_ble_eq_true rfl⟩ dL_holds_207 (t := 210) rfl rfl ?_
      refine J_icmp_ne (tgt := 242) hX dL_holds_210 (by decide) (t := 213) rfl (fun zc => ?_) (fun zc => ?_)
      · replace hF := it_f hF zc
        refine J_iconst (v := 0) hX dL_holds_242 (by decide) (t := 243) rfl ?_
        replace hF := Option.some.inj hF
        subst hF
        exact J_zretP (b := false) hX hR hlk (fun H h => ⟨rfl, h⟩) dL_holds_243
      · replace hF := it_t hF zc
        refine J_iload_n hX dL_holds_213 2 rfl (t := 214) rfl ?_
        refine J_aload_n hX dL_holds_214 0 rfl (t := 215) rfl ?_
        obtain ⟨x10, h9, hF⟩ := bnd_e hF
        refine J_lC hX hL [] [.int l2] [.int x10, .int l2] (fun zz => ctX12_held (G := GCz G n1 zz) (l := l) z.1  h9) rfl miX12_held mvX12_held cb9 p_916 ⟨rfl, rfl, Nat.le_of_ble_eq_true rfl, Nat.le_of_ble_eq_true rfl⟩ rfl rfl (Nat.le_of_ble_eq_true rfl) ⟨Nat.le_of_ble_eq_true rfl, Nat.le_of_ble_eq_true rfl⟩ dL_holds_215 (t := 218) rfl rfl ?_
        refine J_icmp_ne (tgt := 242) hX dL_holds_218 (by decide) (t := 221) rfl (fun zc => ?_) (fun zc => ?_)
        · replace hF := it_f hF zc
          refine J_iconst (v := 0) hX dL_holds_242 (by decide) (t := 243) rfl ?_
          replace hF := Option.some.inj hF
          subst hF
          exact J_zretP (b := false) hX hR hlk (fun H h => ⟨rfl, h⟩) dL_holds_243
        · replace hF := it_t hF zc
          refine J_iload_n hX dL_holds_221 3 rfl (t := 222) rfl ?_
          refine J_aload_n hX dL_holds_222 0 rfl (t := 223) rfl ?_
          obtain ⟨x12, h11, hF⟩ := bnd_e hF
          refine J_lC hX hL [] [.int l3] [.int x12, .int l3] (fun zz => ctX12_earned (G := GCz G n1 zz) (l := l) z.1  h11) rfl miX12_earned mvX12_earned cb9 p_1324 ⟨rfl, rfl, Nat.le_of_ble_eq_true rfl, Nat.le_of_ble_eq_true rfl⟩ rfl rfl (Nat.le_of_ble_eq_true rfl) ⟨Nat.le_of_ble_eq_true rfl, Nat.le_of_ble_eq_true rfl⟩ dL_holds_223 (t := 226) rfl rfl ?_
          refine J_icmp_ne (tgt := 242) hX dL_holds_226 (by decide) (t := 229) rfl (fun zc => ?_) (fun zc => ?_)
          · replace hF := it_f hF zc
            refine J_iconst (v := 0) hX dL_holds_242 (by decide) (t := 243) rfl ?_
            replace hF := Option.some.inj hF
            subst hF
            exact J_zretP (b := false) hX hR hlk (fun H h => ⟨rfl, h⟩) dL_holds_243
          · replace hF := it_t hF zc
            refine J_iload hX dL_holds_229 4 rfl (t := 231) rfl ?_
            refine J_aload_n hX dL_holds_231 0 rfl (t := 232) rfl ?_
            obtain ⟨x14, h13, hF⟩ := bo1_e hF
            refine J_lC hX hL [] [.int l4] [.int x14, .int l4] (fun zz => ctX12_nextEvent (G := GCz G n1 zz) (l := l) z.1  n h13) rfl miX12_nextEvent mvX12_nextEvent cb9 p_956 ⟨rfl, rfl, Nat.le_of_ble_eq_true rfl, Nat.le_of_ble_eq_true rfl⟩ rfl rfl (Nat.le_of_ble_eq_true rfl) ⟨Nat.le_of_ble_eq_true rfl, Nat.le_of_ble_eq_true rfl⟩ dL_holds_232 (t := 235) rfl rfl ?_
            refine J_icmp_ne (tgt := 242) hX dL_holds_235 (by decide) (t := 238) rfl (fun zc => ?_) (fun zc => ?_)
            · replace hF := it_f hF zc
              refine J_iconst (v := 0) hX dL_holds_242 (by decide) (t := 243) rfl ?_
              replace hF := Option.some.inj hF
              subst hF
              exact J_zretP (b := false) hX hR hlk (fun H h => ⟨rfl, h⟩) dL_holds_243
            · replace hF := it_t hF zc
              refine J_iconst (v := 1) hX dL_holds_238 (by decide) (t := 239) rfl ?_
              refine J_goto (tgt := 243) hX dL_holds_239 (by decide) ?_
              replace hF := Option.some.inj hF
              subst hF
              exact J_zretP (b := true) hX hR hlk (fun H h => ⟨rfl, h⟩) dL_holds_243
    · replace hF := it_f hF zc
      refine J_iload_n hX dL_holds_155 2 rfl (t := 156) rfl ?_
      refine J_aload_n hX dL_holds_156 0 rfl (t := 157) rfl ?_
      refine J_iload hX dL_holds_157 5 rfl (t := 159) rfl ?_
      obtain ⟨x16, h15, hF⟩ := bx1_e hF
      refine J_lC hX hL [.int l5] [.int l2] [.int x16, .int l2] (fun zz => ctX12_heldFor (G := GCz G n1 zz) (l := l) z.1 l5 h15) rfl miX12_heldFor mvX12_heldFor cb9 p_1402 ⟨rfl, rfl, Nat.le_of_ble_eq_true rfl, Nat.le_of_ble_eq_true rfl⟩ rfl rfl (Nat.le_of_ble_eq_true rfl) ⟨Nat.le_of_ble_eq_true rfl, Nat.le_of_ble_eq_true rfl⟩ dL_holds_159 (t := 162) rfl rfl ?_
      refine J_iadd hX dL_holds_162 (t := 163) rfl ?_
      refine J_istore_n (lc2 := [(2, .int (l2 + x16)), (0, .ref (aC n1)), (1, .int l1), (3, .int l3), (4, .int l4), (5, .int l5)]) hX dL_holds_163 rfl (Nat.le_of_ble_eq_true rfl) rfl (t := 164) rfl ?_
      refine J_aload_n hX dL_holds_164 1 rfl (t := 165) rfl ?_
      refine J_iload hX dL_holds_165 5 rfl (t := 167) rfl ?_
      obtain ⟨x18, h17, hF⟩ := bx1_e hF
      refine J_lC hX hL [.int l5] [] [.int x18] (fun zz => ctX12_money (G := GCz G n1 zz) (l := l) z.1 l5 h17) rfl miX12_money mvX12_money cb9 p_1385 ⟨rfl, rfl, Nat.le_of_ble_eq_true rfl, Nat.le_of_ble_eq_true rfl⟩ rfl rfl (Nat.le_of_ble_eq_true rfl) ⟨Nat.le_of_ble_eq_true rfl, Nat.le_of_ble_eq_true rfl⟩ dL_holds_167 (t := 170) rfl rfl ?_
      refine J_if_lt (tgt := 197) hX dL_holds_170 (by decide) (t := 173) rfl (fun zc => ?_) (fun zc => ?_)
      · replace hF := it_t hF zc
        refine J_iconst (v := 0) hX dL_holds_197 (by decide) (t := 198) rfl ?_
        replace hF := Option.some.inj hF
        subst hF
        exact J_zretP (b := false) hX hR hlk (fun H h => ⟨rfl, h⟩) dL_holds_198
      · replace hF := it_f hF zc
        refine J_aload_n hX dL_holds_173 1 rfl (t := 174) rfl ?_
        refine J_iload hX dL_holds_174 5 rfl (t := 176) rfl ?_
        obtain ⟨x20, h19, hF⟩ := bx1_e hF
        refine J_lC hX hL [.int l5] [] [.int (bI x20)] (fun zz => ctX12_isAngry (G := GCz G n1 zz) (l := l) z.1 l5 h19) rfl miX12_isAngry mvX12_isAngry cb9 p_1397 ⟨rfl, rfl, Nat.le_of_ble_eq_true rfl, Nat.le_of_ble_eq_true rfl⟩ rfl rfl (Nat.le_of_ble_eq_true rfl) ⟨Nat.le_of_ble_eq_true rfl, Nat.le_of_ble_eq_true rfl⟩ dL_holds_176 (t := 179) rfl rfl ?_
        refine J_aload_n hX dL_holds_179 1 rfl (t := 180) rfl ?_
        refine J_iload hX dL_holds_180 5 rfl (t := 182) rfl ?_
        obtain ⟨x22, h21, hF⟩ := bx1_e hF
        refine J_lC hX hL [.int l5] [.int (bI x20)] [.int x22, .int (bI x20)] (fun zz => ctX12_suspicion (G := GCz G n1 zz) (l := l) z.1 l5 h21) rfl miX12_suspicion mvX12_suspicion cb9 p_1389 ⟨rfl, rfl, Nat.le_of_ble_eq_true rfl, Nat.le_of_ble_eq_true rfl⟩ rfl rfl (Nat.le_of_ble_eq_true rfl) ⟨Nat.le_of_ble_eq_true rfl, Nat.le_of_ble_eq_true rfl⟩ dL_holds_182 (t := 185) rfl rfl ?_
        refine J_iconst (v := 2) hX dL_holds_185 (by decide) (t := 186) rfl ?_
        refine J_icmp_le (tgt := 193) hX dL_holds_186 (by decide) (t := 189) rfl (fun zc => ?_) (fun zc => ?_)
        · replace hF := it_t hF zc
          refine J_iconst (v := 0) hX dL_holds_193 (by decide) (t := 194) rfl ?_
          refine J_sub (lc2 := [(0, .ref (aC n1)), (1, .int l1), (2, .int (l2 + x16)), (3, .int l3), (4, .int l4), (5, .int l5)]) [1, 2, 0, 3, 4, 5] rfl ?_
          exact BQ_holds_194 hL hX hR hlk n rc146 hrc146 rc21 hrc21 z l1 (l2 + x16) l3 l4 l5 false x20 hF
        · replace hF := it_f hF zc
          refine J_iconst (v := 1) hX dL_holds_189 (by decide) (t := 190) rfl ?_
          refine J_goto (tgt := 194) hX dL_holds_190 (by decide) ?_
          refine J_sub (lc2 := [(0, .ref (aC n1)), (1, .int l1), (2, .int (l2 + x16)), (3, .int l3), (4, .int l4), (5, .int l5)]) [1, 2, 0, 3, 4, 5] rfl ?_
          exact BQ_holds_194 hL hX hR hlk n rc146 hrc146 rc21 hrc21 z l1 (l2 + x16) l3 l4 l5 true x20 hF
noncomputable def FQ_holds_B137 (n : Nat) (rc21 : (Wd × MM) → Int32 → Int32 → Int32 → Int32 → Int32 → Option Bool) (z : Wd × MM) (l1 : Int32) (l2 : Int32) (l3 : Int32) (l4 : Int32) (l5 : Int32) : Option Bool :=
  rc21 z l1 l2 l3 l4 (l5 + 1)
set_option maxHeartbeats 4000000 in
set_option maxRecDepth 100000 in
theorem BQ_holds_137 {G : GG} {l : Launch} {n1 : Nat} {X : Heap → Prop} (hL : LOK G n1 X) {p : Program} {e : Env} {s : State} {m : MethodId} {args : Array Value} {below : List Frame} {meth : Method} {c : Code} (hX : FX G RL cL_holds 7 p s m args c) (hR : meth.sig.returnType = (some .boolean)) (hlk : meth.locks = false) {rx : Bool} (n : Nat) (rc21 : (Wd × MM) → Int32 → Int32 → Int32 → Int32 → Int32 → Option Bool) (hrc21 : ∀ (z : Wd × MM) (l1 : Int32) (l2 : Int32) (l3 : Int32) (l4 : Int32) (l5 : Int32) , rc21 z l1 l2 l3 l4 l5 = some rx → J G p l e rmL_holds s m args below meth c 7 0 0 (MQ below (QP G (fun v9 H => v9 = some (.int (bI rx)) ∧ LH G n1 X z H)) args s 0 0 (gA G)) (LH G n1 X z) 21 [(0, .ref (aC n1)), (1, .int l1), (2, .int l2), (3, .int l3), (4, .int l4), (5, .int l5)] []) (z : Wd × MM) (l1 : Int32) (l2 : Int32) (l3 : Int32) (l4 : Int32) (l5 : Int32)  (hF : FQ_holds_B137 n rc21 z l1 l2 l3 l4 l5 = some rx) : J G p l e rmL_holds s m args below meth c 7 0 0 (MQ below (QP G (fun v9 H => v9 = some (.int (bI rx)) ∧ LH G n1 X z H)) args s 0 0 (gA G)) (LH G n1 X z) 137 [(0, .ref (aC n1)), (1, .int l1), (2, .int l2), (3, .int l3), (4, .int l4), (5, .int l5)] [] := by
  unfold FQ_holds_B137 at hF
  refine J_iinc (v := l5 + 1) (lc2 := [(5, .int (l5 + 1)), (0, .ref (aC n1)), (1, .int l1), (2, .int l2), (3, .int l3), (4, .int l4)]) hX dL_holds_137 5 rfl rfl (Nat.le_of_ble_eq_true rfl) rfl (t := 140) rfl ?_
  refine J_goto (tgt := 21) hX dL_holds_140 (by decide) ?_
  refine J_sub (lc2 := [(0, .ref (aC n1)), (1, .int l1), (2, .int l2), (3, .int l3), (4, .int l4), (5, .int (l5 + 1))]) [1, 2, 3, 4, 5, 0] rfl ?_
  exact hrc21 z l1 l2 l3 l4 (l5 + 1) hF
noncomputable def FQ_holds_B102 (n : Nat) (rc21 : (Wd × MM) → Int32 → Int32 → Int32 → Int32 → Int32 → Option Bool) (z : Wd × MM) (l1 : Int32) (l2 : Int32) (l3 : Int32) (l5 : Int32) (l6 : Int32) (y0 : Int32) : Option Bool :=
  bnd (FX12_time z.1) fun x32 =>
  if l6 ≤ x32 then
    some false
  else
    bx1 (FX12_shoutCustomer z.1 l5) fun x34 =>
    bx1 (FX12_isAngry z.1 x34) fun x36 =>
    if x36 = true then
      some false
    else
      bx1 (FX12_finalState z.1 l5) fun x38 =>
      if x38 = 0 then
        some false
      else
        FQ_holds_B137 n rc21 z l1 l2 l3 y0 l5
set_option maxHeartbeats 4000000 in
set_option maxRecDepth 100000 in
theorem BQ_holds_102 {G : GG} {l : Launch} {n1 : Nat} {X : Heap → Prop} (hL : LOK G n1 X) {p : Program} {e : Env} {s : State} {m : MethodId} {args : Array Value} {below : List Frame} {meth : Method} {c : Code} (hX : FX G RL cL_holds 7 p s m args c) (hR : meth.sig.returnType = (some .boolean)) (hlk : meth.locks = false) {rx : Bool} (n : Nat) (rc21 : (Wd × MM) → Int32 → Int32 → Int32 → Int32 → Int32 → Option Bool) (hrc21 : ∀ (z : Wd × MM) (l1 : Int32) (l2 : Int32) (l3 : Int32) (l4 : Int32) (l5 : Int32) , rc21 z l1 l2 l3 l4 l5 = some rx → J G p l e rmL_holds s m args below meth c 7 0 0 (MQ below (QP G (fun v9 H => v9 = some (.int (bI rx)) ∧ LH G n1 X z H)) args s 0 0 (gA G)) (LH G n1 X z) 21 [(0, .ref (aC n1)), (1, .int l1), (2, .int l2), (3, .int l3), (4, .int l4), (5, .int l5)] []) (z : Wd × MM) (l1 : Int32) (l2 : Int32) (l3 : Int32) (l5 : Int32) (l6 : Int32) (y0 : Int32)  (hF : FQ_holds_B102 n rc21 z l1 l2 l3 l5 l6 y0 = some rx) : J G p l e rmL_holds s m args below meth c 7 0 0 (MQ below (QP G (fun v9 H => v9 = some (.int (bI rx)) ∧ LH G n1 X z H)) args s 0 0 (gA G)) (LH G n1 X z) 102 [(0, .ref (aC n1)), (1, .int l1), (2, .int l2), (3, .int l3), (5, .int l5), (6, .int l6)] [.int y0] := by
  unfold FQ_holds_B102 at hF
  refine J_istore (lc2 := [(4, .int y0), (0, .ref (aC n1)), (1, .int l1), (2, .int l2), (3, .int l3), (5, .int l5), (6, .int l6)]) hX dL_holds_102 (Nat.le_of_ble_eq_true rfl) rfl (t := 104) rfl ?_
  refine J_iload hX dL_holds_104 6 rfl (t := 106) rfl ?_
  refine J_aload_n hX dL_holds_106 1 rfl (t := 107) rfl ?_
  obtain ⟨x32, h31, hF⟩ := bnd_e hF
  refine J_lC hX hL [] [.int l6] [.int x32, .int l6] (fun zz => ctX12_time (G := GCz G n1 zz) (l := l) z.1  h31) rfl miX12_time mvX12_time cb9 p_912 ⟨rfl, rfl, Nat.le_of_ble_eq_true rfl, Nat.le_of_ble_eq_true rfl⟩ rfl rfl (Nat.le_of_ble_eq_true rfl) ⟨Nat.le_of_ble_eq_true rfl, Nat.le_of_ble_eq_true rfl⟩ dL_holds_107 (t := 110) rfl rfl ?_
  refine J_icmp_le (tgt := 135) hX dL_holds_110 (by decide) (t := 113) rfl (fun zc => ?_) (fun zc => ?_)
  · replace hF := it_t hF zc
    refine J_iconst (v := 0) hX dL_holds_135 (by decide) (t := 136) rfl ?_
    replace hF := Option.some.inj hF
    subst hF
    exact J_zretP (b := false) hX hR hlk (fun H h => ⟨rfl, h⟩) dL_holds_136
  · replace hF := it_f hF zc
    refine J_aload_n hX dL_holds_113 1 rfl (t := 114) rfl ?_
    refine J_aload_n hX dL_holds_114 1 rfl (t := 115) rfl ?_
    refine J_iload hX dL_holds_115 5 rfl (t := 117) rfl ?_
    obtain ⟨x34, h33, hF⟩ := bx1_e hF
    refine J_lC hX hL [.int l5] [.ref (aC n1)] [.int x34, .ref (aC n1)] (fun zz => ctX12_shoutCustomer (G := GCz G n1 zz) (l := l) z.1 l5 h33) rfl miX12_shoutCustomer mvX12_shoutCustomer cb9 p_1406 ⟨rfl, rfl, Nat.le_of_ble_eq_true rfl, Nat.le_of_ble_eq_true rfl⟩ rfl rfl (Nat.le_of_ble_eq_true rfl) ⟨Nat.le_of_ble_eq_true rfl, Nat.le_of_ble_eq_true rfl⟩ dL_holds_117 (t := 120) rfl rfl ?_
    obtain ⟨x36, h35, hF⟩ := bx1_e hF
    refine J_lC hX hL [.int x34] [] [.int (bI x36)] (fun zz => ctX12_isAngry (G := GCz G n1 zz) (l := l) z.1 x34 h35) rfl miX12_isAngry mvX12_isAngry cb9 p_1397 ⟨rfl, rfl, Nat.le_of_ble_eq_true rfl, Nat.le_of_ble_eq_true rfl⟩ rfl rfl (Nat.le_of_ble_eq_true rfl) ⟨Nat.le_of_ble_eq_true rfl, Nat.le_of_ble_eq_true rfl⟩ dL_holds_120 (t := 123) rfl rfl ?_
    refine J_ifZ_ne (tgt := 135) hX dL_holds_123 (by decide) (t := 126) rfl (fun zc => ?_) (fun zc => ?_)
    · replace hF := it_t hF zc
      refine J_iconst (v := 0) hX dL_holds_135 (by decide) (t := 136) rfl ?_
      replace hF := Option.some.inj hF
      subst hF
      exact J_zretP (b := false) hX hR hlk (fun H h => ⟨rfl, h⟩) dL_holds_136
    · replace hF := ib_f hF zc
      refine J_aload_n hX dL_holds_126 1 rfl (t := 127) rfl ?_
      refine J_iload hX dL_holds_127 5 rfl (t := 129) rfl ?_
      obtain ⟨x38, h37, hF⟩ := bx1_e hF
      refine J_lC hX hL [.int l5] [] [.int x38] (fun zz => ctX12_finalState (G := GCz G n1 zz) (l := l) z.1 l5 h37) rfl miX12_finalState mvX12_finalState cb9 p_961 ⟨rfl, rfl, Nat.le_of_ble_eq_true rfl, Nat.le_of_ble_eq_true rfl⟩ rfl rfl (Nat.le_of_ble_eq_true rfl) ⟨Nat.le_of_ble_eq_true rfl, Nat.le_of_ble_eq_true rfl⟩ dL_holds_129 (t := 132) rfl rfl ?_
      refine J_if_ne (tgt := 137) hX dL_holds_132 (by decide) (t := 135) rfl (fun zc => ?_) (fun zc => ?_)
      · replace hF := it_f hF zc
        refine J_sub (lc2 := [(0, .ref (aC n1)), (1, .int l1), (2, .int l2), (3, .int l3), (4, .int y0), (5, .int l5)]) [1, 2, 3, 4, 0, 5] rfl ?_
        exact BQ_holds_137 hL hX hR hlk n rc21 hrc21 z l1 l2 l3 y0 l5 hF
      · replace hF := it_t hF zc
        refine J_iconst (v := 0) hX dL_holds_135 (by decide) (t := 136) rfl ?_
        replace hF := Option.some.inj hF
        subst hF
        exact J_zretP (b := false) hX hR hlk (fun H h => ⟨rfl, h⟩) dL_holds_136
noncomputable def FQ_holds_L21 (n : Nat) : Nat → (Wd × MM) → Int32 → Int32 → Int32 → Int32 → Int32 → Option Bool
  | 0 => fun _ _ _ _ _ _ => none
  | k + 1 => fun z l1 l2 l3 l4 l5 =>
    let rc21 := FQ_holds_L21 n k
    bnd (FX12_shoutCount z.1) fun x4 =>
    if x4 ≤ l5 then
      FQ_holds_L146 n rc21 n z l1 l2 l3 l4 0
    else
      bx1 (FX12_receipt z.1 l5) fun x24 =>
      bx1 (FX12_shoutState z.1 l5) fun x26 =>
      if x26 = 0 then
        bx1 (FX12_nextReturn z.1 l5) fun x28 =>
        bx1 (FX12_patienceEnds z.1 l5) fun x30 =>
        if 0 ≤ l4 then
          FQ_holds_B102 n rc21 z (l1 + 1) l2 (l3 + x24) l5 (if x30 < x28 then x30 else x28) (if (if x30 < x28 then x30 else x28) < l4 then (if x30 < x28 then x30 else x28) else l4)
        else
          FQ_holds_B102 n rc21 z (l1 + 1) l2 (l3 + x24) l5 (if x30 < x28 then x30 else x28) (if x30 < x28 then x30 else x28)
      else
        bx1 (FX12_finalState z.1 l5) fun x40 =>
        bx1 (FX12_shoutState z.1 l5) fun x42 =>
        if x40 = x42 then
          FQ_holds_B137 n rc21 z l1 l2 (l3 + x24) l4 l5
        else
          some false
set_option maxHeartbeats 4000000 in
set_option maxRecDepth 100000 in
theorem LQ_holds_21 {G : GG} {l : Launch} {n1 : Nat} {X : Heap → Prop} (hL : LOK G n1 X) {p : Program} {e : Env} {s : State} {m : MethodId} {args : Array Value} {below : List Frame} {meth : Method} {c : Code} (hX : FX G RL cL_holds 7 p s m args c) (hR : meth.sig.returnType = (some .boolean)) (hlk : meth.locks = false) {rx : Bool} (n : Nat) : ∀ (k : Nat) (z : Wd × MM) (l1 : Int32) (l2 : Int32) (l3 : Int32) (l4 : Int32) (l5 : Int32) , FQ_holds_L21 n k z l1 l2 l3 l4 l5 = some rx → J G p l e rmL_holds s m args below meth c 7 0 0 (MQ below (QP G (fun v9 H => v9 = some (.int (bI rx)) ∧ LH G n1 X z H)) args s 0 0 (gA G)) (LH G n1 X z) 21 [(0, .ref (aC n1)), (1, .int l1), (2, .int l2), (3, .int l3), (4, .int l4), (5, .int l5)] [] := by
  intro k
  induction k with
  | zero => intro z l1 l2 l3 l4 l5  hF; cases hF
  | succ k ih =>
    intro z l1 l2 l3 l4 l5  hF
    simp only [FQ_holds_L21] at hF
    generalize hrcd : FQ_holds_L21 n k = rc21 at hF ih
    have hrc21 := ih
    refine J_iload hX dL_holds_21 5 rfl (t := 23) rfl ?_
    refine J_aload_n hX dL_holds_23 0 rfl (t := 24) rfl ?_
    obtain ⟨x4, h3, hF⟩ := bnd_e hF
    refine J_lC hX hL [] [.int l5] [.int x4, .int l5] (fun zz => ctX12_shoutCount (G := GCz G n1 zz) (l := l) z.1  h3) rfl miX12_shoutCount mvX12_shoutCount cb9 p_1320 ⟨rfl, rfl, Nat.le_of_ble_eq_true rfl, Nat.le_of_ble_eq_true rfl⟩ rfl rfl (Nat.le_of_ble_eq_true rfl) ⟨Nat.le_of_ble_eq_true rfl, Nat.le_of_ble_eq_true rfl⟩ dL_holds_24 (t := 27) rfl rfl ?_
    refine J_icmp_ge (tgt := 143) hX dL_holds_27 (by decide) (t := 30) rfl (fun zc => ?_) (fun zc => ?_)
    · replace hF := it_t hF zc
      refine J_iconst (v := 0) hX dL_holds_143 (by decide) (t := 144) rfl ?_
      refine J_istore (lc2 := [(5, .int 0), (0, .ref (aC n1)), (1, .int l1), (2, .int l2), (3, .int l3), (4, .int l4)]) hX dL_holds_144 (Nat.le_of_ble_eq_true rfl) rfl (t := 146) rfl ?_
      refine J_sub (lc2 := [(0, .ref (aC n1)), (1, .int l1), (2, .int l2), (3, .int l3), (4, .int l4), (5, .int 0)]) [1, 2, 3, 4, 5, 0] rfl ?_
      exact LQ_holds_146 hL hX hR hlk n rc21 hrc21 n z l1 l2 l3 l4 0 hF
    · replace hF := it_f hF zc
      refine J_iload_n hX dL_holds_30 3 rfl (t := 31) rfl ?_
      refine J_aload_n hX dL_holds_31 0 rfl (t := 32) rfl ?_
      refine J_iload hX dL_holds_32 5 rfl (t := 34) rfl ?_
      obtain ⟨x24, h23, hF⟩ := bx1_e hF
      refine J_lC hX hL [.int l5] [.int l3] [.int x24, .int l3] (fun zz => ctX12_receipt (G := GCz G n1 zz) (l := l) z.1 l5 h23) rfl miX12_receipt mvX12_receipt cb9 p_1418 ⟨rfl, rfl, Nat.le_of_ble_eq_true rfl, Nat.le_of_ble_eq_true rfl⟩ rfl rfl (Nat.le_of_ble_eq_true rfl) ⟨Nat.le_of_ble_eq_true rfl, Nat.le_of_ble_eq_true rfl⟩ dL_holds_34 (t := 37) rfl rfl ?_
      refine J_iadd hX dL_holds_37 (t := 38) rfl ?_
      refine J_istore_n (lc2 := [(3, .int (l3 + x24)), (0, .ref (aC n1)), (1, .int l1), (2, .int l2), (4, .int l4), (5, .int l5)]) hX dL_holds_38 rfl (Nat.le_of_ble_eq_true rfl) rfl (t := 39) rfl ?_
      refine J_aload_n hX dL_holds_39 1 rfl (t := 40) rfl ?_
      refine J_iload hX dL_holds_40 5 rfl (t := 42) rfl ?_
      obtain ⟨x26, h25, hF⟩ := bx1_e hF
      refine J_lC hX hL [.int l5] [] [.int x26] (fun zz => ctX12_shoutState (G := GCz G n1 zz) (l := l) z.1 l5 h25) rfl miX12_shoutState mvX12_shoutState cb9 p_928 ⟨rfl, rfl, Nat.le_of_ble_eq_true rfl, Nat.le_of_ble_eq_true rfl⟩ rfl rfl (Nat.le_of_ble_eq_true rfl) ⟨Nat.le_of_ble_eq_true rfl, Nat.le_of_ble_eq_true rfl⟩ dL_holds_42 (t := 45) rfl rfl ?_
      refine J_if_eq (tgt := 65) hX dL_holds_45 (by decide) (t := 48) rfl (fun zc => ?_) (fun zc => ?_)
      · replace hF := it_t hF zc
        refine J_iinc (v := l1 + 1) (lc2 := [(1, .int (l1 + 1)), (3, .int (l3 + x24)), (0, .ref (aC n1)), (2, .int l2), (4, .int l4), (5, .int l5)]) hX dL_holds_65 2 rfl rfl (Nat.le_of_ble_eq_true rfl) rfl (t := 68) rfl ?_
        refine J_aload_n hX dL_holds_68 2 rfl (t := 69) rfl ?_
        refine J_iload hX dL_holds_69 5 rfl (t := 71) rfl ?_
        obtain ⟨x28, h27, hF⟩ := bx1_e hF
        refine J_lC hX hL [.int l5] [] [.int x28] (fun zz => ctX12_nextReturn (G := GCz G n1 zz) (l := l) z.1 l5 h27) rfl miX12_nextReturn mvX12_nextReturn cb9 p_1433 ⟨rfl, rfl, Nat.le_of_ble_eq_true rfl, Nat.le_of_ble_eq_true rfl⟩ rfl rfl (Nat.le_of_ble_eq_true rfl) ⟨Nat.le_of_ble_eq_true rfl, Nat.le_of_ble_eq_true rfl⟩ dL_holds_71 (t := 74) rfl rfl ?_
        refine J_aload_n hX dL_holds_74 2 rfl (t := 75) rfl ?_
        refine J_iload hX dL_holds_75 5 rfl (t := 77) rfl ?_
        obtain ⟨x30, h29, hF⟩ := bx1_e hF
        refine J_lC hX hL [.int l5] [.int x28] [.int x30, .int x28] (fun zz => ctX12_patienceEnds (G := GCz G n1 zz) (l := l) z.1 l5 h29) rfl miX12_patienceEnds mvX12_patienceEnds cb9 p_1440 ⟨rfl, rfl, Nat.le_of_ble_eq_true rfl, Nat.le_of_ble_eq_true rfl⟩ rfl rfl (Nat.le_of_ble_eq_true rfl) ⟨Nat.le_of_ble_eq_true rfl, Nat.le_of_ble_eq_true rfl⟩ dL_holds_77 (t := 80) rfl rfl ?_
        refine J_min hX ⟨p_1602, p_772, p_31, p_773⟩ ⟨Nat.le_of_ble_eq_true rfl, Nat.le_of_ble_eq_true rfl, Nat.le_of_ble_eq_true rfl, Nat.le_of_ble_eq_true rfl⟩ dL_holds_80 (t := 83) rfl ?_
        refine J_istore (lc2 := [(6, .int (if x30 < x28 then x30 else x28)), (1, .int (l1 + 1)), (3, .int (l3 + x24)), (0, .ref (aC n1)), (2, .int l2), (4, .int l4), (5, .int l5)]) hX dL_holds_83 (Nat.le_of_ble_eq_true rfl) rfl (t := 85) rfl ?_
        refine J_iload hX dL_holds_85 5 rfl (t := 87) rfl ?_
        refine J_if_ge (tgt := 95) hX dL_holds_87 (by decide) (t := 90) rfl (fun zc => ?_) (fun zc => ?_)
        · replace hF := it_t hF zc
          refine J_iload hX dL_holds_95 5 rfl (t := 97) rfl ?_
          refine J_iload hX dL_holds_97 0 rfl (t := 99) rfl ?_
          refine J_min hX ⟨p_1602, p_772, p_31, p_773⟩ ⟨Nat.le_of_ble_eq_true rfl, Nat.le_of_ble_eq_true rfl, Nat.le_of_ble_eq_true rfl, Nat.le_of_ble_eq_true rfl⟩ dL_holds_99 (t := 102) rfl ?_
          refine J_sub (lc2 := [(0, .ref (aC n1)), (1, .int (l1 + 1)), (2, .int l2), (3, .int (l3 + x24)), (5, .int l5), (6, .int (if x30 < x28 then x30 else x28))]) [3, 1, 4, 2, 6, 0] rfl ?_
          exact BQ_holds_102 hL hX hR hlk n rc21 hrc21 z (l1 + 1) l2 (l3 + x24) l5 (if x30 < x28 then x30 else x28) (if (if x30 < x28 then x30 else x28) < l4 then (if x30 < x28 then x30 else x28) else l4) hF
        · replace hF := it_f hF zc
          refine J_iload hX dL_holds_90 0 rfl (t := 92) rfl ?_
          refine J_goto (tgt := 102) hX dL_holds_92 (by decide) ?_
          refine J_sub (lc2 := [(0, .ref (aC n1)), (1, .int (l1 + 1)), (2, .int l2), (3, .int (l3 + x24)), (5, .int l5), (6, .int (if x30 < x28 then x30 else x28))]) [3, 1, 4, 2, 6, 0] rfl ?_
          exact BQ_holds_102 hL hX hR hlk n rc21 hrc21 z (l1 + 1) l2 (l3 + x24) l5 (if x30 < x28 then x30 else x28) (if x30 < x28 then x30 else x28) hF
      · replace hF := it_f hF zc
        refine J_aload_n hX dL_holds_48 1 rfl (t := 49) rfl ?_
        refine J_iload hX dL_holds_49 5 rfl (t := 51) rfl ?_
        obtain ⟨x40, h39, hF⟩ := bx1_e hF
        refine J_lC hX hL [.int l5] [] [.int x40] (fun zz => ctX12_finalState (G := GCz G n1 zz) (l := l) z.1 l5 h39) rfl miX12_finalState mvX12_finalState cb9 p_961 ⟨rfl, rfl, Nat.le_of_ble_eq_true rfl, Nat.le_of_ble_eq_true rfl⟩ rfl rfl (Nat.le_of_ble_eq_true rfl) ⟨Nat.le_of_ble_eq_true rfl, Nat.le_of_ble_eq_true rfl⟩ dL_holds_51 (t := 54) rfl rfl ?_
        refine J_aload_n hX dL_holds_54 1 rfl (t := 55) rfl ?_
        refine J_iload hX dL_holds_55 5 rfl (t := 57) rfl ?_
        obtain ⟨x42, h41, hF⟩ := bx1_e hF
        refine J_lC hX hL [.int l5] [.int x40] [.int x42, .int x40] (fun zz => ctX12_shoutState (G := GCz G n1 zz) (l := l) z.1 l5 h41) rfl miX12_shoutState mvX12_shoutState cb9 p_928 ⟨rfl, rfl, Nat.le_of_ble_eq_true rfl, Nat.le_of_ble_eq_true rfl⟩ rfl rfl (Nat.le_of_ble_eq_true rfl) ⟨Nat.le_of_ble_eq_true rfl, Nat.le_of_ble_eq_true rfl⟩ dL_holds_57 (t := 60) rfl rfl ?_
        refine J_icmp_eq (tgt := 137) hX dL_holds_60 (by decide) (t := 63) rfl (fun zc => ?_) (fun zc => ?_)
        · replace hF := it_t hF zc
          refine J_sub (lc2 := [(0, .ref (aC n1)), (1, .int l1), (2, .int l2), (3, .int (l3 + x24)), (4, .int l4), (5, .int l5)]) [1, 2, 3, 0, 4, 5] rfl ?_
          exact BQ_holds_137 hL hX hR hlk n rc21 hrc21 z l1 l2 (l3 + x24) l4 l5 hF
        · replace hF := it_f hF zc
          refine J_iconst (v := 0) hX dL_holds_63 (by decide) (t := 64) rfl ?_
          replace hF := Option.some.inj hF
          subst hF
          exact J_zretP (b := false) hX hR hlk (fun H h => ⟨rfl, h⟩) dL_holds_64
noncomputable def FQ_holds (n : Nat) (z : Wd × MM)  : Option Bool :=
  bo1 (FX12_violations n z.1) fun x2 =>
  if x2 = 0 then
    FQ_holds_L21 n n z 0 0 0 (-1) 0
  else
    some false
set_option maxHeartbeats 4000000 in
set_option maxRecDepth 100000 in
theorem ctQ_holds {G : GG} {l : Launch} {n1 : Nat} {X : Heap → Prop} (hL : LOK G n1 X) (z : Wd × MM)   (n : Nat) {rx : Bool} (hF : FQ_holds n z  = some rx) : CTP G l yL_holds cL_holds 7 (some .boolean) rmL_holds 0 0 [.ref (aC n1)] (LH G n1 X z) (fun v9 H => v9 = some (.int (bI rx)) ∧ LH G n1 X z H) := by
  refine CTP.of miL_holds [(0, .ref (aC n1))] rfl (Nat.le_of_ble_eq_true rfl) ?_
  intro p e s m args below meth c hX hR hlk
  have hX : FX G RL cL_holds 7 p s m args c := hX
  unfold FQ_holds at hF
  refine J_aload_n hX dL_holds_0 0 rfl (t := 1) rfl ?_
  obtain ⟨x2, h1, hF⟩ := bo1_e hF
  refine J_lC hX hL [] [] [.int x2] (fun zz => ctX12_violations (G := GCz G n1 zz) (l := l) z.1  n h1) rfl miX12_violations mvX12_violations cb9 p_1591 ⟨rfl, rfl, Nat.le_of_ble_eq_true rfl, Nat.le_of_ble_eq_true rfl⟩ rfl rfl (Nat.le_of_ble_eq_true rfl) ⟨Nat.le_of_ble_eq_true rfl, Nat.le_of_ble_eq_true rfl⟩ dL_holds_1 (t := 4) rfl rfl ?_
  refine J_if_eq (tgt := 9) hX dL_holds_4 (by decide) (t := 7) rfl (fun zc => ?_) (fun zc => ?_)
  · replace hF := it_t hF zc
    refine J_iconst (v := 0) hX dL_holds_9 (by decide) (t := 10) rfl ?_
    refine J_istore_n (lc2 := [(1, .int 0), (0, .ref (aC n1))]) hX dL_holds_10 rfl (Nat.le_of_ble_eq_true rfl) rfl (t := 11) rfl ?_
    refine J_iconst (v := 0) hX dL_holds_11 (by decide) (t := 12) rfl ?_
    refine J_istore_n (lc2 := [(2, .int 0), (1, .int 0), (0, .ref (aC n1))]) hX dL_holds_12 rfl (Nat.le_of_ble_eq_true rfl) rfl (t := 13) rfl ?_
    refine J_iconst (v := 0) hX dL_holds_13 (by decide) (t := 14) rfl ?_
    refine J_istore_n (lc2 := [(3, .int 0), (2, .int 0), (1, .int 0), (0, .ref (aC n1))]) hX dL_holds_14 rfl (Nat.le_of_ble_eq_true rfl) rfl (t := 15) rfl ?_
    refine J_iconst (v := (-1)) hX dL_holds_15 (by decide) (t := 16) rfl ?_
    refine J_istore (lc2 := [(4, .int (-1)), (3, .int 0), (2, .int 0), (1, .int 0), (0, .ref (aC n1))]) hX dL_holds_16 (Nat.le_of_ble_eq_true rfl) rfl (t := 18) rfl ?_
    refine J_iconst (v := 0) hX dL_holds_18 (by decide) (t := 19) rfl ?_
    refine J_istore (lc2 := [(5, .int 0), (4, .int (-1)), (3, .int 0), (2, .int 0), (1, .int 0), (0, .ref (aC n1))]) hX dL_holds_19 (Nat.le_of_ble_eq_true rfl) rfl (t := 21) rfl ?_
    refine J_sub (lc2 := [(0, .ref (aC n1)), (1, .int 0), (2, .int 0), (3, .int 0), (4, .int (-1)), (5, .int 0)]) [5, 4, 3, 2, 1, 0] rfl ?_
    exact LQ_holds_21 hL hX hR hlk n n z 0 0 0 (-1) 0 hF
  · replace hF := it_f hF zc
    refine J_iconst (v := 0) hX dL_holds_7 (by decide) (t := 8) rfl ?_
    replace hF := Option.some.inj hF
    subst hF
    exact J_zretP (b := false) hX hR hlk (fun H h => ⟨rfl, h⟩) dL_holds_8
abbrev rmL_alike : Room := { frames := 9, cells := 0, slots := 0, locals := 153 }
theorem miL_alike : MI yL_alike cL_alike 4 (some .boolean) 2 := ⟨p_1311, p_24, by decide +kernel, by decide +kernel, by decide +kernel, by decide +kernel⟩
noncomputable def FQ_alike_B389 (n : Nat) (rc288 : (Wd × MM) → Int32 → Option Bool) (rc186 : (Wd × MM) → Int32 → Option Bool) (rc93 : (Wd × MM) → Int32 → Option Bool) (z : Wd × MM) (l2 : Int32) (l3 : Nat) (y0 : Int32) (y1 : Int32) : Option Bool :=
  if y1 = y0 then
    bx1 (FX12_patienceEnds z.1 l2) fun x35 =>
    bo1 (FW_end z.2 l3) fun x37 =>
    if x35 = x37 then
      rc288 z (l2 + 1)
    else
      some false
  else
    some false
set_option maxHeartbeats 4000000 in
set_option maxRecDepth 100000 in
theorem BQ_alike_389 {G : GG} {l : Launch} {n1 : Nat} {X : Heap → Prop} (hL : LOK G n1 X) {p : Program} {e : Env} {s : State} {m : MethodId} {args : Array Value} {below : List Frame} {meth : Method} {c : Code} (hX : FX G RL cL_alike 4 p s m args c) (hR : meth.sig.returnType = (some .boolean)) (hlk : meth.locks = false) {rx : Bool} (n : Nat) (rc288 : (Wd × MM) → Int32 → Option Bool) (hrc288 : ∀ (z : Wd × MM) (l2 : Int32) , rc288 z l2 = some rx → J G p l e rmL_alike s m args below meth c 4 0 0 (MQ below (QP G (fun v9 H => v9 = some (.int (bI rx)) ∧ LH G n1 X z H)) args s 0 0 (gA G)) (LH G n1 X z) 288 [(0, .ref (aC n1)), (1, .ref (adW G 0)), (2, .int l2)] []) (rc186 : (Wd × MM) → Int32 → Option Bool) (hrc186 : ∀ (z : Wd × MM) (l2 : Int32) , rc186 z l2 = some rx → J G p l e rmL_alike s m args below meth c 4 0 0 (MQ below (QP G (fun v9 H => v9 = some (.int (bI rx)) ∧ LH G n1 X z H)) args s 0 0 (gA G)) (LH G n1 X z) 186 [(0, .ref (aC n1)), (1, .ref (adW G 0)), (2, .int l2)] []) (rc93 : (Wd × MM) → Int32 → Option Bool) (hrc93 : ∀ (z : Wd × MM) (l2 : Int32) , rc93 z l2 = some rx → J G p l e rmL_alike s m args below meth c 4 0 0 (MQ below (QP G (fun v9 H => v9 = some (.int (bI rx)) ∧ LH G n1 X z H)) args s 0 0 (gA G)) (LH G n1 X z) 93 [(0, .ref (aC n1)), (1, .ref (adW G 0)), (2, .int l2)] []) (z : Wd × MM) (l2 : Int32) (l3 : Nat) (y0 : Int32) (y1 : Int32) (hl3 : 20 ≤ l3 ∧ l3 < 50) (hF : FQ_alike_B389 n rc288 rc186 rc93 z l2 l3 y0 y1 = some rx) : J G p l e rmL_alike s m args below meth c 4 0 0 (MQ below (QP G (fun v9 H => v9 = some (.int (bI rx)) ∧ LH G n1 X z H)) args s 0 0 (gA G)) (LH G n1 X z) 389 [(0, .ref (aC n1)), (1, .ref (adW G 0)), (2, .int l2), (3, .ref (adW G l3))] [.int y0, .int y1] := by
  unfold FQ_alike_B389 at hF
  refine J_icmp_ne (tgt := 405) hX dL_alike_389 (by decide) (t := 392) rfl (fun zc => ?_) (fun zc => ?_)
  · replace hF := it_f hF zc
    refine J_iconst (v := 0) hX dL_alike_405 (by decide) (t := 406) rfl ?_
    replace hF := Option.some.inj hF
    subst hF
    exact J_zretP (b := false) hX hR hlk (fun H h => ⟨rfl, h⟩) dL_alike_406
  · replace hF := it_t hF zc
    refine J_aload_n hX dL_alike_392 0 rfl (t := 393) rfl ?_
    refine J_iload_n hX dL_alike_393 2 rfl (t := 394) rfl ?_
    obtain ⟨x35, h34, hF⟩ := bx1_e hF
    refine J_lC hX hL [.int l2] [] [.int x35] (fun zz => ctX12_patienceEnds (G := GCz G n1 zz) (l := l) z.1 l2 h34) rfl miX12_patienceEnds mvX12_patienceEnds cb9 p_1440 ⟨rfl, rfl, Nat.le_of_ble_eq_true rfl, Nat.le_of_ble_eq_true rfl⟩ rfl rfl (Nat.le_of_ble_eq_true rfl) ⟨Nat.le_of_ble_eq_true rfl, Nat.le_of_ble_eq_true rfl⟩ dL_alike_394 (t := 397) rfl rfl ?_
    refine J_aload_n hX dL_alike_397 1 rfl (t := 398) rfl ?_
    refine J_aload_n hX dL_alike_398 3 rfl (t := 399) rfl ?_
    obtain ⟨x37, h36, hF⟩ := bo1_e hF
    refine J_lW hX hL [.ref (adW G l3)] [.int x35] [.int x37, .int x35] (fun zz => ctW_end (G := upK G (gn G) (KwA G) zz) (l := l) z.2 l3 hl3 h36) rfl miX13_end mvX13_end cb10 p_1444 ⟨rfl, rfl, Nat.le_of_ble_eq_true rfl, Nat.le_of_ble_eq_true rfl⟩ rfl rfl (Nat.le_of_ble_eq_true rfl) ⟨Nat.le_of_ble_eq_true rfl, Nat.le_of_ble_eq_true rfl⟩ dL_alike_399 (t := 402) rfl rfl ?_
    refine J_icmp_eq (tgt := 407) hX dL_alike_402 (by decide) (t := 405) rfl (fun zc => ?_) (fun zc => ?_)
    · replace hF := it_t hF zc
      refine J_iinc (v := l2 + 1) (lc2 := [(2, .int (l2 + 1)), (0, .ref (aC n1)), (1, .ref (adW G 0)), (3, .ref (adW G l3))]) hX dL_alike_407 2 rfl rfl (Nat.le_of_ble_eq_true rfl) rfl (t := 410) rfl ?_
      refine J_goto (tgt := 288) hX dL_alike_410 (by decide) ?_
      refine J_sub (lc2 := [(0, .ref (aC n1)), (1, .ref (adW G 0)), (2, .int (l2 + 1))]) [1, 2, 0] rfl ?_
      exact hrc288 z (l2 + 1) hF
    · replace hF := it_f hF zc
      refine J_iconst (v := 0) hX dL_alike_405 (by decide) (t := 406) rfl ?_
      replace hF := Option.some.inj hF
      subst hF
      exact J_zretP (b := false) hX hR hlk (fun H h => ⟨rfl, h⟩) dL_alike_406
noncomputable def FQ_alike_L288 (n : Nat) (rc186 : (Wd × MM) → Int32 → Option Bool) (rc93 : (Wd × MM) → Int32 → Option Bool) : Nat → (Wd × MM) → Int32 → Option Bool
  | 0 => fun _ _ => none
  | k + 1 => fun z l2 =>
    let rc288 := FQ_alike_L288 n rc186 rc93 k
    if z.2.1 0 2 ≤ l2 then
      some true
    else
      gd (inb l2 30) <|
      bx1 (FX12_shoutCustomer z.1 l2) fun x21 =>
      if x21 = z.2.1 (20 + l2.toNatClampNeg) 0 then
        bx1 (FX12_shoutValley z.1 l2) fun x23 =>
        if x23 = z.2.1 (20 + l2.toNatClampNeg) 1 then
          bx1 (FX12_shoutState z.1 l2) fun x25 =>
          if x25 = z.2.1 (20 + l2.toNatClampNeg) 6 then
            bx1 (FX12_returns z.1 l2) fun x27 =>
            if x27 = z.2.1 (20 + l2.toNatClampNeg) 7 then
              bx1 (FX12_receipt z.1 l2) fun x29 =>
              bnd (FJ6_bitCount_0f7a4 (z.2.1 (20 + l2.toNatClampNeg) 8)) fun x30 =>
              if x29 = (z.2.1 (20 + l2.toNatClampNeg) 4) * x30 then
                bx1 (FX12_nextReturn z.1 l2) fun x33 =>
                if z.2.1 (20 + l2.toNatClampNeg) 6 = 0 then
                  bo1 (FW_due z.2 (20 + l2.toNatClampNeg)) fun x39 =>
                  FQ_alike_B389 n rc288 rc186 rc93 z l2 (20 + l2.toNatClampNeg) x39 x33
                else
                  FQ_alike_B389 n rc288 rc186 rc93 z l2 (20 + l2.toNatClampNeg) (-1) x33
              else
                some false
            else
              some false
          else
            some false
        else
          some false
      else
        some false
set_option maxHeartbeats 4000000 in
set_option maxRecDepth 100000 in
theorem LQ_alike_288 {G : GG} {l : Launch} {n1 : Nat} {X : Heap → Prop} (hL : LOK G n1 X) {p : Program} {e : Env} {s : State} {m : MethodId} {args : Array Value} {below : List Frame} {meth : Method} {c : Code} (hX : FX G RL cL_alike 4 p s m args c) (hR : meth.sig.returnType = (some .boolean)) (hlk : meth.locks = false) {rx : Bool} (n : Nat) (rc186 : (Wd × MM) → Int32 → Option Bool) (hrc186 : ∀ (z : Wd × MM) (l2 : Int32) , rc186 z l2 = some rx → J G p l e rmL_alike s m args below meth c 4 0 0 (MQ below (QP G (fun v9 H => v9 = some (.int (bI rx)) ∧ LH G n1 X z H)) args s 0 0 (gA G)) (LH G n1 X z) 186 [(0, .ref (aC n1)), (1, .ref (adW G 0)), (2, .int l2)] []) (rc93 : (Wd × MM) → Int32 → Option Bool) (hrc93 : ∀ (z : Wd × MM) (l2 : Int32) , rc93 z l2 = some rx → J G p l e rmL_alike s m args below meth c 4 0 0 (MQ below (QP G (fun v9 H => v9 = some (.int (bI rx)) ∧ LH G n1 X z H)) args s 0 0 (gA G)) (LH G n1 X z) 93 [(0, .ref (aC n1)), (1, .ref (adW G 0)), (2, .int l2)] []) : ∀ (k : Nat) (z : Wd × MM) (l2 : Int32) , FQ_alike_L288 n rc186 rc93 k z l2 = some rx → J G p l e rmL_alike s m args below meth c 4 0 0 (MQ below (QP G (fun v9 H => v9 = some (.int (bI rx)) ∧ LH G n1 X z H)) args s 0 0 (gA G)) (LH G n1 X z) 288 [(0, .ref (aC n1)), (1, .ref (adW G 0)), (2, .int l2)] [] := by
  intro k
  induction k with
  | zero => intro z l2  hF; cases hF
  | succ k ih =>
    intro z l2  hF
    simp only [FQ_alike_L288] at hF
    generalize hrcd : FQ_alike_L288 n rc186 rc93 k = rc288 at hF ih
    have hrc288 := ih
    refine J_iload_n hX dL_alike_288 2 rfl (t := 289) rfl ?_
    refine J_aload_n hX dL_alike_289 1 rfl (t := 290) rfl ?_
    refine J_wGet hX 2 (by decide) p_1024 rfl dL_alike_290 (t := 293) rfl ?_
    refine J_icmp_ge (tgt := 413) hX dL_alike_293 (by decide) (t := 296) rfl (fun zc => ?_) (fun zc => ?_)
    · replace hF := it_t hF zc
      refine J_iconst (v := 1) hX dL_alike_413 (by decide) (t := 414) rfl ?_
      replace hF := Option.some.inj hF
      subst hF
      exact J_zretP (b := true) hX hR hlk (fun H h => ⟨rfl, h⟩) dL_alike_414
    · replace hF := it_f hF zc
      refine J_aload_n hX dL_alike_296 1 rfl (t := 297) rfl ?_
      refine J_wGet hX 10 (by decide) p_1040 rfl dL_alike_297 (t := 300) rfl ?_
      refine J_iload_n hX dL_alike_300 2 rfl (t := 301) rfl ?_
      obtain ⟨g19, hF⟩ := gd_e hF
      refine J_wAs hX g19 dL_alike_301 (t := 302) rfl ?_
      refine J_astore_n (lc2 := [(3, .ref (adW G (20 + l2.toNatClampNeg))), (0, .ref (aC n1)), (1, .ref (adW G 0)), (2, .int l2)]) hX dL_alike_302 rfl (Nat.le_of_ble_eq_true rfl) rfl (t := 303) rfl ?_
      refine J_aload_n hX dL_alike_303 1 rfl (t := 304) rfl ?_
      refine J_iload_n hX dL_alike_304 3 rfl (t := 305) rfl ?_
      obtain ⟨x21, h20, hF⟩ := bx1_e hF
      refine J_lC hX hL [.int l2] [] [.int x21] (fun zz => ctX12_shoutCustomer (G := GCz G n1 zz) (l := l) z.1 l2 h20) rfl miX12_shoutCustomer mvX12_shoutCustomer cb9 p_1406 ⟨rfl, rfl, Nat.le_of_ble_eq_true rfl, Nat.le_of_ble_eq_true rfl⟩ rfl rfl (Nat.le_of_ble_eq_true rfl) ⟨Nat.le_of_ble_eq_true rfl, Nat.le_of_ble_eq_true rfl⟩ dL_alike_305 (t := 308) rfl rfl ?_
      refine J_aload_n hX dL_alike_308 0 rfl (t := 309) rfl ?_
      refine J_iconst (v := 0) hX dL_alike_309 (by decide) (t := 310) rfl ?_
      refine J_wAld (n := 9) hX (kWs (inbR g19)) (by decide) rfl dL_alike_310 (t := 311) rfl ?_
      refine J_icmp_ne (tgt := 405) hX dL_alike_311 (by decide) (t := 314) rfl (fun zc => ?_) (fun zc => ?_)
      · replace hF := it_f hF zc
        refine J_iconst (v := 0) hX dL_alike_405 (by decide) (t := 406) rfl ?_
        replace hF := Option.some.inj hF
        subst hF
        exact J_zretP (b := false) hX hR hlk (fun H h => ⟨rfl, h⟩) dL_alike_406
      · replace hF := it_t hF zc
        refine J_aload_n hX dL_alike_314 1 rfl (t := 315) rfl ?_
        refine J_iload_n hX dL_alike_315 3 rfl (t := 316) rfl ?_
        obtain ⟨x23, h22, hF⟩ := bx1_e hF
        refine J_lC hX hL [.int l2] [] [.int x23] (fun zz => ctX12_shoutValley (G := GCz G n1 zz) (l := l) z.1 l2 h22) rfl miX12_shoutValley mvX12_shoutValley cb9 p_1410 ⟨rfl, rfl, Nat.le_of_ble_eq_true rfl, Nat.le_of_ble_eq_true rfl⟩ rfl rfl (Nat.le_of_ble_eq_true rfl) ⟨Nat.le_of_ble_eq_true rfl, Nat.le_of_ble_eq_true rfl⟩ dL_alike_316 (t := 319) rfl rfl ?_
        refine J_aload_n hX dL_alike_319 0 rfl (t := 320) rfl ?_
        refine J_iconst (v := 1) hX dL_alike_320 (by decide) (t := 321) rfl ?_
        refine J_wAld (n := 9) hX (kWs (inbR g19)) (by decide) rfl dL_alike_321 (t := 322) rfl ?_
        refine J_icmp_ne (tgt := 405) hX dL_alike_322 (by decide) (t := 325) rfl (fun zc => ?_) (fun zc => ?_)
        · replace hF := it_f hF zc
          refine J_iconst (v := 0) hX dL_alike_405 (by decide) (t := 406) rfl ?_
          replace hF := Option.some.inj hF
          subst hF
          exact J_zretP (b := false) hX hR hlk (fun H h => ⟨rfl, h⟩) dL_alike_406
        · replace hF := it_t hF zc
          refine J_aload_n hX dL_alike_325 1 rfl (t := 326) rfl ?_
          refine J_iload_n hX dL_alike_326 3 rfl (t := 327) rfl ?_
          obtain ⟨x25, h24, hF⟩ := bx1_e hF
          refine J_lC hX hL [.int l2] [] [.int x25] (fun zz => ctX12_shoutState (G := GCz G n1 zz) (l := l) z.1 l2 h24) rfl miX12_shoutState mvX12_shoutState cb9 p_928 ⟨rfl, rfl, Nat.le_of_ble_eq_true rfl, Nat.le_of_ble_eq_true rfl⟩ rfl rfl (Nat.le_of_ble_eq_true rfl) ⟨Nat.le_of_ble_eq_true rfl, Nat.le_of_ble_eq_true rfl⟩ dL_alike_327 (t := 330) rfl rfl ?_
          refine J_aload_n hX dL_alike_330 0 rfl (t := 331) rfl ?_
          refine J_bipush (v := 6) hX dL_alike_331 (by decide) (t := 333) rfl ?_
          refine J_wAld (n := 9) hX (kWs (inbR g19)) (by decide) rfl dL_alike_333 (t := 334) rfl ?_
          refine J_icmp_ne (tgt := 405) hX dL_alike_334 (by decide) (t := 337) rfl (fun zc => ?_) (fun zc => ?_)
          · replace hF := it_f hF zc
            refine J_iconst (v := 0) hX dL_alike_405 (by decide) (t := 406) rfl ?_
            replace hF := Option.some.inj hF
            subst hF
            exact J_zretP (b := false) hX hR hlk (fun H h => ⟨rfl, h⟩) dL_alike_406
          · replace hF := it_t hF zc
            refine J_aload_n hX dL_alike_337 1 rfl (t := 338) rfl ?_
            refine J_iload_n hX dL_alike_338 3 rfl (t := 339) rfl ?_
            obtain ⟨x27, h26, hF⟩ := bx1_e hF
            refine J_lC hX hL [.int l2] [] [.int x27] (fun zz => ctX12_returns (G := GCz G n1 zz) (l := l) z.1 l2 h26) rfl miX12_returns mvX12_returns cb9 p_1414 ⟨rfl, rfl, Nat.le_of_ble_eq_true rfl, Nat.le_of_ble_eq_true rfl⟩ rfl rfl (Nat.le_of_ble_eq_true rfl) ⟨Nat.le_of_ble_eq_true rfl, Nat.le_of_ble_eq_true rfl⟩ dL_alike_339 (t := 342) rfl rfl ?_
            refine J_aload_n hX dL_alike_342 0 rfl (t := 343) rfl ?_
            refine J_bipush (v := 7) hX dL_alike_343 (by decide) (t := 345) rfl ?_
            refine J_wAld (n := 9) hX (kWs (inbR g19)) (by decide) rfl dL_alike_345 (t := 346) rfl ?_
            refine J_icmp_ne (tgt := 405) hX dL_alike_346 (by decide) (t := 349) rfl (fun zc => ?_) (fun zc => ?_)
            · replace hF := it_f hF zc
              refine J_iconst (v := 0) hX dL_alike_405 (by decide) (t := 406) rfl ?_
              replace hF := Option.some.inj hF
              subst hF
              exact J_zretP (b := false) hX hR hlk (fun H h => ⟨rfl, h⟩) dL_alike_406
            · replace hF := it_t hF zc
              refine J_aload_n hX dL_alike_349 1 rfl (t := 350) rfl ?_
              refine J_iload_n hX dL_alike_350 3 rfl (t := 351) rfl ?_
              obtain ⟨x29, h28, hF⟩ := bx1_e hF
              refine J_lC hX hL [.int l2] [] [.int x29] (fun zz => ctX12_receipt (G := GCz G n1 zz) (l := l) z.1 l2 h28) rfl miX12_receipt mvX12_receipt cb9 p_1418 ⟨rfl, rfl, Nat.le_of_ble_eq_true rfl, Nat.le_of_ble_eq_true rfl⟩ rfl rfl (Nat.le_of_ble_eq_true rfl) ⟨Nat.le_of_ble_eq_true rfl, Nat.le_of_ble_eq_true rfl⟩ dL_alike_351 (t := 354) rfl rfl ?_
              refine J_aload_n hX dL_alike_354 0 rfl (t := 355) rfl ?_
              refine J_iconst (v := 4) hX dL_alike_355 (by decide) (t := 356) rfl ?_
              refine J_wAld (n := 9) hX (kWs (inbR g19)) (by decide) rfl dL_alike_356 (t := 357) rfl ?_
              refine J_aload_n hX dL_alike_357 0 rfl (t := 358) rfl ?_
              refine J_bipush (v := 8) hX dL_alike_358 (by decide) (t := 360) rfl ?_
              refine J_wAld (n := 9) hX (kWs (inbR g19)) (by decide) rfl dL_alike_360 (t := 361) rfl ?_
              obtain ⟨x30, h31, hF⟩ := bnd_e hF
              refine J_callSP hX [.int (z.2.1 (20 + l2.toNatClampNeg) 8)] [.int (z.2.1 (20 + l2.toNatClampNeg) 4), .int x29] (cpJ6_bitCount (G := G) (l := l) (z.2.1 (20 + l2.toNatClampNeg) 8) h31) miJ6_bitCount_0f7a4 p_1427 p_1432 ⟨rfl, rfl, Nat.le_of_ble_eq_true rfl, Nat.le_of_ble_eq_true rfl⟩ rfl rfl (Nat.le_of_ble_eq_true rfl) ⟨Nat.le_of_ble_eq_true rfl, Nat.le_of_ble_eq_true rfl⟩ dL_alike_361 (t := 364) rfl (fun v => J_pure fun hv => ?_)
              subst hv
              refine J_imul hX dL_alike_364 (t := 365) rfl ?_
              refine J_icmp_ne (tgt := 405) hX dL_alike_365 (by decide) (t := 368) rfl (fun zc => ?_) (fun zc => ?_)
              · replace hF := it_f hF zc
                refine J_iconst (v := 0) hX dL_alike_405 (by decide) (t := 406) rfl ?_
                replace hF := Option.some.inj hF
                subst hF
                exact J_zretP (b := false) hX hR hlk (fun H h => ⟨rfl, h⟩) dL_alike_406
              · replace hF := it_t hF zc
                refine J_aload_n hX dL_alike_368 1 rfl (t := 369) rfl ?_
                refine J_iload_n hX dL_alike_369 3 rfl (t := 370) rfl ?_
                obtain ⟨x33, h32, hF⟩ := bx1_e hF
                refine J_lC hX hL [.int l2] [] [.int x33] (fun zz => ctX12_nextReturn (G := GCz G n1 zz) (l := l) z.1 l2 h32) rfl miX12_nextReturn mvX12_nextReturn cb9 p_1433 ⟨rfl, rfl, Nat.le_of_ble_eq_true rfl, Nat.le_of_ble_eq_true rfl⟩ rfl rfl (Nat.le_of_ble_eq_true rfl) ⟨Nat.le_of_ble_eq_true rfl, Nat.le_of_ble_eq_true rfl⟩ dL_alike_370 (t := 373) rfl rfl ?_
                refine J_aload_n hX dL_alike_373 0 rfl (t := 374) rfl ?_
                refine J_bipush (v := 6) hX dL_alike_374 (by decide) (t := 376) rfl ?_
                refine J_wAld (n := 9) hX (kWs (inbR g19)) (by decide) rfl dL_alike_376 (t := 377) rfl ?_
                refine J_if_ne (tgt := 388) hX dL_alike_377 (by decide) (t := 380) rfl (fun zc => ?_) (fun zc => ?_)
                · replace hF := it_f hF zc
                  refine J_iconst (v := (-1)) hX dL_alike_388 (by decide) (t := 389) rfl ?_
                  refine J_sub (lc2 := [(0, .ref (aC n1)), (1, .ref (adW G 0)), (2, .int l2), (3, .ref (adW G (20 + l2.toNatClampNeg)))]) [1, 2, 3, 0] rfl ?_
                  exact BQ_alike_389 hL hX hR hlk n rc288 hrc288 rc186 hrc186 rc93 hrc93 z l2 (20 + l2.toNatClampNeg) (-1) x33 (inbR g19) hF
                · replace hF := it_t hF zc
                  refine J_aload_n hX dL_alike_380 2 rfl (t := 381) rfl ?_
                  refine J_aload_n hX dL_alike_381 0 rfl (t := 382) rfl ?_
                  obtain ⟨x39, h38, hF⟩ := bo1_e hF
                  refine J_lW hX hL [.ref (adW G (20 + l2.toNatClampNeg))] [.int x33] [.int x39, .int x33] (fun zz => ctW_due (G := upK G (gn G) (KwA G) zz) (l := l) z.2 (20 + l2.toNatClampNeg) (inbR g19) h38) rfl miX13_due mvX13_due cb10 p_1439 ⟨rfl, rfl, Nat.le_of_ble_eq_true rfl, Nat.le_of_ble_eq_true rfl⟩ rfl rfl (Nat.le_of_ble_eq_true rfl) ⟨Nat.le_of_ble_eq_true rfl, Nat.le_of_ble_eq_true rfl⟩ dL_alike_382 (t := 385) rfl rfl ?_
                  refine J_goto (tgt := 389) hX dL_alike_385 (by decide) ?_
                  refine J_sub (lc2 := [(0, .ref (aC n1)), (1, .ref (adW G 0)), (2, .int l2), (3, .ref (adW G (20 + l2.toNatClampNeg)))]) [1, 2, 3, 0] rfl ?_
                  exact BQ_alike_389 hL hX hR hlk n rc288 hrc288 rc186 hrc186 rc93 hrc93 z l2 (20 + l2.toNatClampNeg) x39 x33 (inbR g19) hF
noncomputable def FQ_alike_B262 (n : Nat) (rc186 : (Wd × MM) → Int32 → Option Bool) (rc93 : (Wd × MM) → Int32 → Option Bool) (z : Wd × MM) (l2 : Int32) (y0 : Bool) (y1 : Bool) : Option Bool :=
  if bI y1 = bI y0 then
    bx1 (FX12_heldFor z.1 l2) fun x52 =>
    bo1 (FW_held n z.2 l2) fun x54 =>
    if x52 = x54 then
      rc186 z (l2 + 1)
    else
      some false
  else
    some false
set_option maxHeartbeats 4000000 in
set_option maxRecDepth 100000 in
theorem BQ_alike_262 {G : GG} {l : Launch} {n1 : Nat} {X : Heap → Prop} (hL : LOK G n1 X) {p : Program} {e : Env} {s : State} {m : MethodId} {args : Array Value} {below : List Frame} {meth : Method} {c : Code} (hX : FX G RL cL_alike 4 p s m args c) (hR : meth.sig.returnType = (some .boolean)) (hlk : meth.locks = false) {rx : Bool} (n : Nat) (rc186 : (Wd × MM) → Int32 → Option Bool) (hrc186 : ∀ (z : Wd × MM) (l2 : Int32) , rc186 z l2 = some rx → J G p l e rmL_alike s m args below meth c 4 0 0 (MQ below (QP G (fun v9 H => v9 = some (.int (bI rx)) ∧ LH G n1 X z H)) args s 0 0 (gA G)) (LH G n1 X z) 186 [(0, .ref (aC n1)), (1, .ref (adW G 0)), (2, .int l2)] []) (rc93 : (Wd × MM) → Int32 → Option Bool) (hrc93 : ∀ (z : Wd × MM) (l2 : Int32) , rc93 z l2 = some rx → J G p l e rmL_alike s m args below meth c 4 0 0 (MQ below (QP G (fun v9 H => v9 = some (.int (bI rx)) ∧ LH G n1 X z H)) args s 0 0 (gA G)) (LH G n1 X z) 93 [(0, .ref (aC n1)), (1, .ref (adW G 0)), (2, .int l2)] []) (z : Wd × MM) (l2 : Int32) (y0 : Bool) (y1 : Bool)  (hF : FQ_alike_B262 n rc186 rc93 z l2 y0 y1 = some rx) : J G p l e rmL_alike s m args below meth c 4 0 0 (MQ below (QP G (fun v9 H => v9 = some (.int (bI rx)) ∧ LH G n1 X z H)) args s 0 0 (gA G)) (LH G n1 X z) 262 [(0, .ref (aC n1)), (1, .ref (adW G 0)), (2, .int l2)] [.int (bI y0), .int (bI y1)] := by
  unfold FQ_alike_B262 at hF
  refine J_icmp_ne (tgt := 278) hX dL_alike_262 (by decide) (t := 265) rfl (fun zc => ?_) (fun zc => ?_)
  · replace hF := it_f hF zc
    refine J_iconst (v := 0) hX dL_alike_278 (by decide) (t := 279) rfl ?_
    replace hF := Option.some.inj hF
    subst hF
    exact J_zretP (b := false) hX hR hlk (fun H h => ⟨rfl, h⟩) dL_alike_279
  · replace hF := it_t hF zc
    refine J_aload_n hX dL_alike_265 0 rfl (t := 266) rfl ?_
    refine J_iload_n hX dL_alike_266 2 rfl (t := 267) rfl ?_
    obtain ⟨x52, h51, hF⟩ := bx1_e hF
    refine J_lC hX hL [.int l2] [] [.int x52] (fun zz => ctX12_heldFor (G := GCz G n1 zz) (l := l) z.1 l2 h51) rfl miX12_heldFor mvX12_heldFor cb9 p_1402 ⟨rfl, rfl, Nat.le_of_ble_eq_true rfl, Nat.le_of_ble_eq_true rfl⟩ rfl rfl (Nat.le_of_ble_eq_true rfl) ⟨Nat.le_of_ble_eq_true rfl, Nat.le_of_ble_eq_true rfl⟩ dL_alike_267 (t := 270) rfl rfl ?_
    refine J_aload_n hX dL_alike_270 1 rfl (t := 271) rfl ?_
    refine J_iload_n hX dL_alike_271 2 rfl (t := 272) rfl ?_
    obtain ⟨x54, h53, hF⟩ := bo1_e hF
    refine J_lW hX hL [.int l2] [.int x52] [.int x54, .int x52] (fun zz => ctW_held (G := upK G (gn G) (KwA G) zz) (l := l) z.2 l2 n h53) rfl miX13_held mvX13_held cb10 p_1332 ⟨rfl, rfl, Nat.le_of_ble_eq_true rfl, Nat.le_of_ble_eq_true rfl⟩ rfl rfl (Nat.le_of_ble_eq_true rfl) ⟨Nat.le_of_ble_eq_true rfl, Nat.le_of_ble_eq_true rfl⟩ dL_alike_272 (t := 275) rfl rfl ?_
    refine J_icmp_eq (tgt := 280) hX dL_alike_275 (by decide) (t := 278) rfl (fun zc => ?_) (fun zc => ?_)
    · replace hF := it_t hF zc
      refine J_iinc (v := l2 + 1) (lc2 := [(2, .int (l2 + 1)), (0, .ref (aC n1)), (1, .ref (adW G 0))]) hX dL_alike_280 2 rfl rfl (Nat.le_of_ble_eq_true rfl) rfl (t := 283) rfl ?_
      refine J_goto (tgt := 186) hX dL_alike_283 (by decide) ?_
      refine J_sub (lc2 := [(0, .ref (aC n1)), (1, .ref (adW G 0)), (2, .int (l2 + 1))]) [1, 2, 0] rfl ?_
      exact hrc186 z (l2 + 1) hF
    · replace hF := it_f hF zc
      refine J_iconst (v := 0) hX dL_alike_278 (by decide) (t := 279) rfl ?_
      replace hF := Option.some.inj hF
      subst hF
      exact J_zretP (b := false) hX hR hlk (fun H h => ⟨rfl, h⟩) dL_alike_279
noncomputable def FQ_alike_L186 (n : Nat) (rc93 : (Wd × MM) → Int32 → Option Bool) : Nat → (Wd × MM) → Int32 → Option Bool
  | 0 => fun _ _ => none
  | k + 1 => fun z l2 =>
    let rc186 := FQ_alike_L186 n rc93 k
    if z.2.1 0 1 ≤ l2 then
      FQ_alike_L288 n rc186 rc93 n z 0
    else
      gd (inb l2 8) <|
      bx1 (FX12_patience z.1 l2) fun x42 =>
      if x42 = z.2.1 (11 + l2.toNatClampNeg) 0 then
        bx1 (FX12_money z.1 l2) fun x44 =>
        if x44 = z.2.1 (11 + l2.toNatClampNeg) 1 then
          bx1 (FX12_suspicion z.1 l2) fun x46 =>
          if x46 = z.2.1 (11 + l2.toNatClampNeg) 2 then
            bx1 (FX12_echoesHeard z.1 l2) fun x48 =>
            if x48 = z.2.1 (11 + l2.toNatClampNeg) 3 then
              bx1 (FX12_isAngry z.1 l2) fun x50 =>
              if z.2.1 (11 + l2.toNatClampNeg) 2 ≤ 2 then
                FQ_alike_B262 n rc186 rc93 z l2 false x50
              else
                FQ_alike_B262 n rc186 rc93 z l2 true x50
            else
              some false
          else
            some false
        else
          some false
      else
        some false
set_option maxHeartbeats 4000000 in
set_option maxRecDepth 100000 in
theorem LQ_alike_186 {G : GG} {l : Launch} {n1 : Nat} {X : Heap → Prop} (hL : LOK G n1 X) {p : Program} {e : Env} {s : State} {m : MethodId} {args : Array Value} {below : List Frame} {meth : Method} {c : Code} (hX : FX G RL cL_alike 4 p s m args c) (hR : meth.sig.returnType = (some .boolean)) (hlk : meth.locks = false) {rx : Bool} (n : Nat) (rc93 : (Wd × MM) → Int32 → Option Bool) (hrc93 : ∀ (z : Wd × MM) (l2 : Int32) , rc93 z l2 = some rx → J G p l e rmL_alike s m args below meth c 4 0 0 (MQ below (QP G (fun v9 H => v9 = some (.int (bI rx)) ∧ LH G n1 X z H)) args s 0 0 (gA G)) (LH G n1 X z) 93 [(0, .ref (aC n1)), (1, .ref (adW G 0)), (2, .int l2)] []) : ∀ (k : Nat) (z : Wd × MM) (l2 : Int32) , FQ_alike_L186 n rc93 k z l2 = some rx → J G p l e rmL_alike s m args below meth c 4 0 0 (MQ below (QP G (fun v9 H => v9 = some (.int (bI rx)) ∧ LH G n1 X z H)) args s 0 0 (gA G)) (LH G n1 X z) 186 [(0, .ref (aC n1)), (1, .ref (adW G 0)), (2, .int l2)] [] := by
  intro k
  induction k with
  | zero => intro z l2  hF; cases hF
  | succ k ih =>
    intro z l2  hF
    simp only [FQ_alike_L186] at hF
    generalize hrcd : FQ_alike_L186 n rc93 k = rc186 at hF ih
    have hrc186 := ih
    refine J_iload_n hX dL_alike_186 2 rfl (t := 187) rfl ?_
    refine J_aload_n hX dL_alike_187 1 rfl (t := 188) rfl ?_
    refine J_wGet hX 1 (by decide) p_1022 rfl dL_alike_188 (t := 191) rfl ?_
    refine J_icmp_ge (tgt := 286) hX dL_alike_191 (by decide) (t := 194) rfl (fun zc => ?_) (fun zc => ?_)
    · replace hF := it_t hF zc
      refine J_iconst (v := 0) hX dL_alike_286 (by decide) (t := 287) rfl ?_
      refine J_istore_n (lc2 := [(2, .int 0), (0, .ref (aC n1)), (1, .ref (adW G 0))]) hX dL_alike_287 rfl (Nat.le_of_ble_eq_true rfl) rfl (t := 288) rfl ?_
      refine J_sub (lc2 := [(0, .ref (aC n1)), (1, .ref (adW G 0)), (2, .int 0)]) [1, 2, 0] rfl ?_
      exact LQ_alike_288 hL hX hR hlk n rc186 hrc186 rc93 hrc93 n z 0 hF
    · replace hF := it_f hF zc
      refine J_aload_n hX dL_alike_194 1 rfl (t := 195) rfl ?_
      refine J_wGet hX 9 (by decide) p_1038 rfl dL_alike_195 (t := 198) rfl ?_
      refine J_iload_n hX dL_alike_198 2 rfl (t := 199) rfl ?_
      obtain ⟨g40, hF⟩ := gd_e hF
      refine J_wAc hX g40 dL_alike_199 (t := 200) rfl ?_
      refine J_astore_n (lc2 := [(3, .ref (adW G (11 + l2.toNatClampNeg))), (0, .ref (aC n1)), (1, .ref (adW G 0)), (2, .int l2)]) hX dL_alike_200 rfl (Nat.le_of_ble_eq_true rfl) rfl (t := 201) rfl ?_
      refine J_aload_n hX dL_alike_201 1 rfl (t := 202) rfl ?_
      refine J_iload_n hX dL_alike_202 3 rfl (t := 203) rfl ?_
      obtain ⟨x42, h41, hF⟩ := bx1_e hF
      refine J_lC hX hL [.int l2] [] [.int x42] (fun zz => ctX12_patience (G := GCz G n1 zz) (l := l) z.1 l2 h41) rfl miX12_patience mvX12_patience cb9 p_1373 ⟨rfl, rfl, Nat.le_of_ble_eq_true rfl, Nat.le_of_ble_eq_true rfl⟩ rfl rfl (Nat.le_of_ble_eq_true rfl) ⟨Nat.le_of_ble_eq_true rfl, Nat.le_of_ble_eq_true rfl⟩ dL_alike_203 (t := 206) rfl rfl ?_
      refine J_aload_n hX dL_alike_206 0 rfl (t := 207) rfl ?_
      refine J_iconst (v := 0) hX dL_alike_207 (by decide) (t := 208) rfl ?_
      refine J_wAld (n := 4) hX (kWc (inbR g40)) (by decide) rfl dL_alike_208 (t := 209) rfl ?_
      refine J_icmp_ne (tgt := 278) hX dL_alike_209 (by decide) (t := 212) rfl (fun zc => ?_) (fun zc => ?_)
      · replace hF := it_f hF zc
        refine J_iconst (v := 0) hX dL_alike_278 (by decide) (t := 279) rfl ?_
        replace hF := Option.some.inj hF
        subst hF
        exact J_zretP (b := false) hX hR hlk (fun H h => ⟨rfl, h⟩) dL_alike_279
      · replace hF := it_t hF zc
        refine J_aload_n hX dL_alike_212 1 rfl (t := 213) rfl ?_
        refine J_iload_n hX dL_alike_213 3 rfl (t := 214) rfl ?_
        obtain ⟨x44, h43, hF⟩ := bx1_e hF
        refine J_lC hX hL [.int l2] [] [.int x44] (fun zz => ctX12_money (G := GCz G n1 zz) (l := l) z.1 l2 h43) rfl miX12_money mvX12_money cb9 p_1385 ⟨rfl, rfl, Nat.le_of_ble_eq_true rfl, Nat.le_of_ble_eq_true rfl⟩ rfl rfl (Nat.le_of_ble_eq_true rfl) ⟨Nat.le_of_ble_eq_true rfl, Nat.le_of_ble_eq_true rfl⟩ dL_alike_214 (t := 217) rfl rfl ?_
        refine J_aload_n hX dL_alike_217 0 rfl (t := 218) rfl ?_
        refine J_iconst (v := 1) hX dL_alike_218 (by decide) (t := 219) rfl ?_
        refine J_wAld (n := 4) hX (kWc (inbR g40)) (by decide) rfl dL_alike_219 (t := 220) rfl ?_
        refine J_icmp_ne (tgt := 278) hX dL_alike_220 (by decide) (t := 223) rfl (fun zc => ?_) (fun zc => ?_)
        · replace hF := it_f hF zc
          refine J_iconst (v := 0) hX dL_alike_278 (by decide) (t := 279) rfl ?_
          replace hF := Option.some.inj hF
          subst hF
          exact J_zretP (b := false) hX hR hlk (fun H h => ⟨rfl, h⟩) dL_alike_279
        · replace hF := it_t hF zc
          refine J_aload_n hX dL_alike_223 1 rfl (t := 224) rfl ?_
          refine J_iload_n hX dL_alike_224 3 rfl (t := 225) rfl ?_
          obtain ⟨x46, h45, hF⟩ := bx1_e hF
          refine J_lC hX hL [.int l2] [] [.int x46] (fun zz => ctX12_suspicion (G := GCz G n1 zz) (l := l) z.1 l2 h45) rfl miX12_suspicion mvX12_suspicion cb9 p_1389 ⟨rfl, rfl, Nat.le_of_ble_eq_true rfl, Nat.le_of_ble_eq_true rfl⟩ rfl rfl (Nat.le_of_ble_eq_true rfl) ⟨Nat.le_of_ble_eq_true rfl, Nat.le_of_ble_eq_true rfl⟩ dL_alike_225 (t := 228) rfl rfl ?_
          refine J_aload_n hX dL_alike_228 0 rfl (t := 229) rfl ?_
          refine J_iconst (v := 2) hX dL_alike_229 (by decide) (t := 230) rfl ?_
          refine J_wAld (n := 4) hX (kWc (inbR g40)) (by decide) rfl dL_alike_230 (t := 231) rfl ?_
          refine J_icmp_ne (tgt := 278) hX dL_alike_231 (by decide) (t := 234) rfl (fun zc => ?_) (fun zc => ?_)
          · replace hF := it_f hF zc
            refine J_iconst (v := 0) hX dL_alike_278 (by decide) (t := 279) rfl ?_
            replace hF := Option.some.inj hF
            subst hF
            exact J_zretP (b := false) hX hR hlk (fun H h => ⟨rfl, h⟩) dL_alike_279
          · replace hF := it_t hF zc
            refine J_aload_n hX dL_alike_234 1 rfl (t := 235) rfl ?_
            refine J_iload_n hX dL_alike_235 3 rfl (t := 236) rfl ?_
            obtain ⟨x48, h47, hF⟩ := bx1_e hF
            refine J_lC hX hL [.int l2] [] [.int x48] (fun zz => ctX12_echoesHeard (G := GCz G n1 zz) (l := l) z.1 l2 h47) rfl miX12_echoesHeard mvX12_echoesHeard cb9 p_1393 ⟨rfl, rfl, Nat.le_of_ble_eq_true rfl, Nat.le_of_ble_eq_true rfl⟩ rfl rfl (Nat.le_of_ble_eq_true rfl) ⟨Nat.le_of_ble_eq_true rfl, Nat.le_of_ble_eq_true rfl⟩ dL_alike_236 (t := 239) rfl rfl ?_
            refine J_aload_n hX dL_alike_239 0 rfl (t := 240) rfl ?_
            refine J_iconst (v := 3) hX dL_alike_240 (by decide) (t := 241) rfl ?_
            refine J_wAld (n := 4) hX (kWc (inbR g40)) (by decide) rfl dL_alike_241 (t := 242) rfl ?_
            refine J_icmp_ne (tgt := 278) hX dL_alike_242 (by decide) (t := 245) rfl (fun zc => ?_) (fun zc => ?_)
            · replace hF := it_f hF zc
              refine J_iconst (v := 0) hX dL_alike_278 (by decide) (t := 279) rfl ?_
              replace hF := Option.some.inj hF
              subst hF
              exact J_zretP (b := false) hX hR hlk (fun H h => ⟨rfl, h⟩) dL_alike_279
            · replace hF := it_t hF zc
              refine J_aload_n hX dL_alike_245 1 rfl (t := 246) rfl ?_
              refine J_iload_n hX dL_alike_246 3 rfl (t := 247) rfl ?_
              obtain ⟨x50, h49, hF⟩ := bx1_e hF
              refine J_lC hX hL [.int l2] [] [.int (bI x50)] (fun zz => ctX12_isAngry (G := GCz G n1 zz) (l := l) z.1 l2 h49) rfl miX12_isAngry mvX12_isAngry cb9 p_1397 ⟨rfl, rfl, Nat.le_of_ble_eq_true rfl, Nat.le_of_ble_eq_true rfl⟩ rfl rfl (Nat.le_of_ble_eq_true rfl) ⟨Nat.le_of_ble_eq_true rfl, Nat.le_of_ble_eq_true rfl⟩ dL_alike_247 (t := 250) rfl rfl ?_
              refine J_aload_n hX dL_alike_250 0 rfl (t := 251) rfl ?_
              refine J_iconst (v := 2) hX dL_alike_251 (by decide) (t := 252) rfl ?_
              refine J_wAld (n := 4) hX (kWc (inbR g40)) (by decide) rfl dL_alike_252 (t := 253) rfl ?_
              refine J_iconst (v := 2) hX dL_alike_253 (by decide) (t := 254) rfl ?_
              refine J_icmp_le (tgt := 261) hX dL_alike_254 (by decide) (t := 257) rfl (fun zc => ?_) (fun zc => ?_)
              · replace hF := it_t hF zc
                refine J_iconst (v := 0) hX dL_alike_261 (by decide) (t := 262) rfl ?_
                refine J_sub (lc2 := [(0, .ref (aC n1)), (1, .ref (adW G 0)), (2, .int l2)]) [1, 2, 3] rfl ?_
                exact BQ_alike_262 hL hX hR hlk n rc186 hrc186 rc93 hrc93 z l2 false x50 hF
              · replace hF := it_f hF zc
                refine J_iconst (v := 1) hX dL_alike_257 (by decide) (t := 258) rfl ?_
                refine J_goto (tgt := 262) hX dL_alike_258 (by decide) ?_
                refine J_sub (lc2 := [(0, .ref (aC n1)), (1, .ref (adW G 0)), (2, .int l2)]) [1, 2, 3] rfl ?_
                exact BQ_alike_262 hL hX hR hlk n rc186 hrc186 rc93 hrc93 z l2 true x50 hF
noncomputable def FQ_alike_L93 (n : Nat) : Nat → (Wd × MM) → Int32 → Option Bool
  | 0 => fun _ _ => none
  | k + 1 => fun z l2 =>
    let rc93 := FQ_alike_L93 n k
    if z.2.1 0 0 ≤ l2 then
      FQ_alike_L186 n rc93 n z 0
    else
      gd (inb l2 8) <|
      bx1 (FX12_width z.1 l2) fun x57 =>
      if x57 = z.2.1 (2 + l2.toNatClampNeg) 0 then
        bx1 (FX12_walls z.1 l2) fun x59 =>
        if x59 = z.2.1 (2 + l2.toNatClampNeg) 1 then
          bx1 (FX12_price z.1 l2) fun x61 =>
          if x61 = z.2.1 (2 + l2.toNatClampNeg) 2 then
            bx1 (FX12_rating z.1 l2) fun x63 =>
            if x63 = z.2.1 (2 + l2.toNatClampNeg) 4 then
              bx1 (FX12_echoesLost z.1 l2) fun x65 =>
              if x65 = z.2.1 (2 + l2.toNatClampNeg) 5 then
                bx1 (FX12_valleyByte z.1 l2 1) fun x67 =>
                if x67 = 97 + l2 then
                  rc93 z (l2 + 1)
                else
                  some false
              else
                some false
            else
              some false
          else
            some false
        else
          some false
      else
        some false
set_option maxHeartbeats 4000000 in
set_option maxRecDepth 100000 in
theorem LQ_alike_93 {G : GG} {l : Launch} {n1 : Nat} {X : Heap → Prop} (hL : LOK G n1 X) {p : Program} {e : Env} {s : State} {m : MethodId} {args : Array Value} {below : List Frame} {meth : Method} {c : Code} (hX : FX G RL cL_alike 4 p s m args c) (hR : meth.sig.returnType = (some .boolean)) (hlk : meth.locks = false) {rx : Bool} (n : Nat) : ∀ (k : Nat) (z : Wd × MM) (l2 : Int32) , FQ_alike_L93 n k z l2 = some rx → J G p l e rmL_alike s m args below meth c 4 0 0 (MQ below (QP G (fun v9 H => v9 = some (.int (bI rx)) ∧ LH G n1 X z H)) args s 0 0 (gA G)) (LH G n1 X z) 93 [(0, .ref (aC n1)), (1, .ref (adW G 0)), (2, .int l2)] [] := by
  intro k
  induction k with
  | zero => intro z l2  hF; cases hF
  | succ k ih =>
    intro z l2  hF
    simp only [FQ_alike_L93] at hF
    generalize hrcd : FQ_alike_L93 n k = rc93 at hF ih
    have hrc93 := ih
    refine J_iload_n hX dL_alike_93 2 rfl (t := 94) rfl ?_
    refine J_aload_n hX dL_alike_94 1 rfl (t := 95) rfl ?_
    refine J_wGet hX 0 (by decide) p_1021 rfl dL_alike_95 (t := 98) rfl ?_
    refine J_icmp_ge (tgt := 184) hX dL_alike_98 (by decide) (t := 101) rfl (fun zc => ?_) (fun zc => ?_)
    · replace hF := it_t hF zc
      refine J_iconst (v := 0) hX dL_alike_184 (by decide) (t := 185) rfl ?_
      refine J_istore_n (lc2 := [(2, .int 0), (0, .ref (aC n1)), (1, .ref (adW G 0))]) hX dL_alike_185 rfl (Nat.le_of_ble_eq_true rfl) rfl (t := 186) rfl ?_
      refine J_sub (lc2 := [(0, .ref (aC n1)), (1, .ref (adW G 0)), (2, .int 0)]) [1, 2, 0] rfl ?_
      exact LQ_alike_186 hL hX hR hlk n rc93 hrc93 n z 0 hF
    · replace hF := it_f hF zc
      refine J_aload_n hX dL_alike_101 1 rfl (t := 102) rfl ?_
      refine J_wGet hX 8 (by decide) p_1036 rfl dL_alike_102 (t := 105) rfl ?_
      refine J_iload_n hX dL_alike_105 2 rfl (t := 106) rfl ?_
      obtain ⟨g55, hF⟩ := gd_e hF
      refine J_wAv hX g55 dL_alike_106 (t := 107) rfl ?_
      refine J_astore_n (lc2 := [(3, .ref (adW G (2 + l2.toNatClampNeg))), (0, .ref (aC n1)), (1, .ref (adW G 0)), (2, .int l2)]) hX dL_alike_107 rfl (Nat.le_of_ble_eq_true rfl) rfl (t := 108) rfl ?_
      refine J_aload_n hX dL_alike_108 1 rfl (t := 109) rfl ?_
      refine J_iload_n hX dL_alike_109 3 rfl (t := 110) rfl ?_
      obtain ⟨x57, h56, hF⟩ := bx1_e hF
      refine J_lC hX hL [.int l2] [] [.int x57] (fun zz => ctX12_width (G := GCz G n1 zz) (l := l) z.1 l2 h56) rfl miX12_width mvX12_width cb9 p_1340 ⟨rfl, rfl, Nat.le_of_ble_eq_true rfl, Nat.le_of_ble_eq_true rfl⟩ rfl rfl (Nat.le_of_ble_eq_true rfl) ⟨Nat.le_of_ble_eq_true rfl, Nat.le_of_ble_eq_true rfl⟩ dL_alike_110 (t := 113) rfl rfl ?_
      refine J_aload_n hX dL_alike_113 0 rfl (t := 114) rfl ?_
      refine J_iconst (v := 0) hX dL_alike_114 (by decide) (t := 115) rfl ?_
      refine J_wAld (n := 6) hX (kWv (inbR g55)) (by decide) rfl dL_alike_115 (t := 116) rfl ?_
      refine J_icmp_ne (tgt := 176) hX dL_alike_116 (by decide) (t := 119) rfl (fun zc => ?_) (fun zc => ?_)
      · replace hF := it_f hF zc
        refine J_iconst (v := 0) hX dL_alike_176 (by decide) (t := 177) rfl ?_
        replace hF := Option.some.inj hF
        subst hF
        exact J_zretP (b := false) hX hR hlk (fun H h => ⟨rfl, h⟩) dL_alike_177
      · replace hF := it_t hF zc
        refine J_aload_n hX dL_alike_119 1 rfl (t := 120) rfl ?_
        refine J_iload_n hX dL_alike_120 3 rfl (t := 121) rfl ?_
        obtain ⟨x59, h58, hF⟩ := bx1_e hF
        refine J_lC hX hL [.int l2] [] [.int x59] (fun zz => ctX12_walls (G := GCz G n1 zz) (l := l) z.1 l2 h58) rfl miX12_walls mvX12_walls cb9 p_1352 ⟨rfl, rfl, Nat.le_of_ble_eq_true rfl, Nat.le_of_ble_eq_true rfl⟩ rfl rfl (Nat.le_of_ble_eq_true rfl) ⟨Nat.le_of_ble_eq_true rfl, Nat.le_of_ble_eq_true rfl⟩ dL_alike_121 (t := 124) rfl rfl ?_
        refine J_aload_n hX dL_alike_124 0 rfl (t := 125) rfl ?_
        refine J_iconst (v := 1) hX dL_alike_125 (by decide) (t := 126) rfl ?_
        refine J_wAld (n := 6) hX (kWv (inbR g55)) (by decide) rfl dL_alike_126 (t := 127) rfl ?_
        refine J_icmp_ne (tgt := 176) hX dL_alike_127 (by decide) (t := 130) rfl (fun zc => ?_) (fun zc => ?_)
        · replace hF := it_f hF zc
          refine J_iconst (v := 0) hX dL_alike_176 (by decide) (t := 177) rfl ?_
          replace hF := Option.some.inj hF
          subst hF
          exact J_zretP (b := false) hX hR hlk (fun H h => ⟨rfl, h⟩) dL_alike_177
        · replace hF := it_t hF zc
          refine J_aload_n hX dL_alike_130 1 rfl (t := 131) rfl ?_
          refine J_iload_n hX dL_alike_131 3 rfl (t := 132) rfl ?_
          obtain ⟨x61, h60, hF⟩ := bx1_e hF
          refine J_lC hX hL [.int l2] [] [.int x61] (fun zz => ctX12_price (G := GCz G n1 zz) (l := l) z.1 l2 h60) rfl miX12_price mvX12_price cb9 p_1356 ⟨rfl, rfl, Nat.le_of_ble_eq_true rfl, Nat.le_of_ble_eq_true rfl⟩ rfl rfl (Nat.le_of_ble_eq_true rfl) ⟨Nat.le_of_ble_eq_true rfl, Nat.le_of_ble_eq_true rfl⟩ dL_alike_132 (t := 135) rfl rfl ?_
          refine J_aload_n hX dL_alike_135 0 rfl (t := 136) rfl ?_
          refine J_iconst (v := 2) hX dL_alike_136 (by decide) (t := 137) rfl ?_
          refine J_wAld (n := 6) hX (kWv (inbR g55)) (by decide) rfl dL_alike_137 (t := 138) rfl ?_
          refine J_icmp_ne (tgt := 176) hX dL_alike_138 (by decide) (t := 141) rfl (fun zc => ?_) (fun zc => ?_)
          · replace hF := it_f hF zc
            refine J_iconst (v := 0) hX dL_alike_176 (by decide) (t := 177) rfl ?_
            replace hF := Option.some.inj hF
            subst hF
            exact J_zretP (b := false) hX hR hlk (fun H h => ⟨rfl, h⟩) dL_alike_177
          · replace hF := it_t hF zc
            refine J_aload_n hX dL_alike_141 1 rfl (t := 142) rfl ?_
            refine J_iload_n hX dL_alike_142 3 rfl (t := 143) rfl ?_
            obtain ⟨x63, h62, hF⟩ := bx1_e hF
            refine J_lC hX hL [.int l2] [] [.int x63] (fun zz => ctX12_rating (G := GCz G n1 zz) (l := l) z.1 l2 h62) rfl miX12_rating mvX12_rating cb9 p_1360 ⟨rfl, rfl, Nat.le_of_ble_eq_true rfl, Nat.le_of_ble_eq_true rfl⟩ rfl rfl (Nat.le_of_ble_eq_true rfl) ⟨Nat.le_of_ble_eq_true rfl, Nat.le_of_ble_eq_true rfl⟩ dL_alike_143 (t := 146) rfl rfl ?_
            refine J_aload_n hX dL_alike_146 0 rfl (t := 147) rfl ?_
            refine J_iconst (v := 4) hX dL_alike_147 (by decide) (t := 148) rfl ?_
            refine J_wAld (n := 6) hX (kWv (inbR g55)) (by decide) rfl dL_alike_148 (t := 149) rfl ?_
            refine J_icmp_ne (tgt := 176) hX dL_alike_149 (by decide) (t := 152) rfl (fun zc => ?_) (fun zc => ?_)
            · replace hF := it_f hF zc
              refine J_iconst (v := 0) hX dL_alike_176 (by decide) (t := 177) rfl ?_
              replace hF := Option.some.inj hF
              subst hF
              exact J_zretP (b := false) hX hR hlk (fun H h => ⟨rfl, h⟩) dL_alike_177
            · replace hF := it_t hF zc
              refine J_aload_n hX dL_alike_152 1 rfl (t := 153) rfl ?_
              refine J_iload_n hX dL_alike_153 3 rfl (t := 154) rfl ?_
              obtain ⟨x65, h64, hF⟩ := bx1_e hF
              refine J_lC hX hL [.int l2] [] [.int x65] (fun zz => ctX12_echoesLost (G := GCz G n1 zz) (l := l) z.1 l2 h64) rfl miX12_echoesLost mvX12_echoesLost cb9 p_1364 ⟨rfl, rfl, Nat.le_of_ble_eq_true rfl, Nat.le_of_ble_eq_true rfl⟩ rfl rfl (Nat.le_of_ble_eq_true rfl) ⟨Nat.le_of_ble_eq_true rfl, Nat.le_of_ble_eq_true rfl⟩ dL_alike_154 (t := 157) rfl rfl ?_
              refine J_aload_n hX dL_alike_157 0 rfl (t := 158) rfl ?_
              refine J_iconst (v := 5) hX dL_alike_158 (by decide) (t := 159) rfl ?_
              refine J_wAld (n := 6) hX (kWv (inbR g55)) (by decide) rfl dL_alike_159 (t := 160) rfl ?_
              refine J_icmp_ne (tgt := 176) hX dL_alike_160 (by decide) (t := 163) rfl (fun zc => ?_) (fun zc => ?_)
              · replace hF := it_f hF zc
                refine J_iconst (v := 0) hX dL_alike_176 (by decide) (t := 177) rfl ?_
                replace hF := Option.some.inj hF
                subst hF
                exact J_zretP (b := false) hX hR hlk (fun H h => ⟨rfl, h⟩) dL_alike_177
              · replace hF := it_t hF zc
                refine J_aload_n hX dL_alike_163 1 rfl (t := 164) rfl ?_
                refine J_iload_n hX dL_alike_164 3 rfl (t := 165) rfl ?_
                refine J_iconst (v := 1) hX dL_alike_165 (by decide) (t := 166) rfl ?_
                obtain ⟨x67, h66, hF⟩ := bx1_e hF
                refine J_lC hX hL [.int l2, .int 1] [] [.int x67] (fun zz => ctX12_valleyByte (G := GCz G n1 zz) (l := l) z.1 l2 1 h66) rfl miX12_valleyByte mvX12_valleyByte cb9 p_1368 ⟨rfl, rfl, Nat.le_of_ble_eq_true rfl, Nat.le_of_ble_eq_true rfl⟩ rfl rfl (Nat.le_of_ble_eq_true rfl) ⟨Nat.le_of_ble_eq_true rfl, Nat.le_of_ble_eq_true rfl⟩ dL_alike_166 (t := 169) rfl rfl ?_
                refine J_bipush (v := 97) hX dL_alike_169 (by decide) (t := 171) rfl ?_
                refine J_iload_n hX dL_alike_171 3 rfl (t := 172) rfl ?_
                refine J_iadd hX dL_alike_172 (t := 173) rfl ?_
                refine J_icmp_eq (tgt := 178) hX dL_alike_173 (by decide) (t := 176) rfl (fun zc => ?_) (fun zc => ?_)
                · replace hF := it_t hF zc
                  refine J_iinc (v := l2 + 1) (lc2 := [(2, .int (l2 + 1)), (3, .ref (adW G (2 + l2.toNatClampNeg))), (0, .ref (aC n1)), (1, .ref (adW G 0))]) hX dL_alike_178 3 rfl rfl (Nat.le_of_ble_eq_true rfl) rfl (t := 181) rfl ?_
                  refine J_goto (tgt := 93) hX dL_alike_181 (by decide) ?_
                  refine J_sub (lc2 := [(0, .ref (aC n1)), (1, .ref (adW G 0)), (2, .int (l2 + 1))]) [2, 3, 0] rfl ?_
                  exact hrc93 z (l2 + 1) hF
                · replace hF := it_f hF zc
                  refine J_iconst (v := 0) hX dL_alike_176 (by decide) (t := 177) rfl ?_
                  replace hF := Option.some.inj hF
                  subst hF
                  exact J_zretP (b := false) hX hR hlk (fun H h => ⟨rfl, h⟩) dL_alike_177
noncomputable def FQ_alike (n : Nat) (z : Wd × MM)  : Option Bool :=
  bnd (FX12_valleyCount z.1) fun x2 =>
  if x2 = z.2.1 0 0 then
    bnd (FX12_customerCount z.1) fun x4 =>
    if x4 = z.2.1 0 1 then
      bnd (FX12_shoutCount z.1) fun x6 =>
      if x6 = z.2.1 0 2 then
        bnd (FX12_time z.1) fun x8 =>
        if x8 = z.2.1 0 3 then
          bnd (FX12_earned z.1) fun x10 =>
          if x10 = z.2.1 0 4 then
            bnd (FX12_refunded z.1) fun x12 =>
            if x12 = z.2.1 0 5 then
              bnd (FX12_held z.1) fun x14 =>
              bo1 (FW_held n z.2 (-1)) fun x16 =>
              if x14 = x16 then
                bnd (FX12_wellDepth z.1) fun x18 =>
                if x18 = z.2.1 0 6 then
                  FQ_alike_L93 n n z 0
                else
                  some false
              else
                some false
            else
              some false
          else
            some false
        else
          some false
      else
        some false
    else
      some false
  else
    some false
set_option maxHeartbeats 4000000 in
set_option maxRecDepth 100000 in
theorem ctQ_alike {G : GG} {l : Launch} {n1 : Nat} {X : Heap → Prop} (hL : LOK G n1 X) (z : Wd × MM)   (n : Nat) {rx : Bool} (hF : FQ_alike n z  = some rx) : CTP G l yL_alike cL_alike 4 (some .boolean) rmL_alike 0 0 [.ref (aC n1), .ref (adW G 0)] (LH G n1 X z) (fun v9 H => v9 = some (.int (bI rx)) ∧ LH G n1 X z H) := by
  refine CTP.of miL_alike [(0, .ref (aC n1)), (1, .ref (adW G 0))] rfl (Nat.le_of_ble_eq_true rfl) ?_
  intro p e s m args below meth c hX hR hlk
  have hX : FX G RL cL_alike 4 p s m args c := hX
  unfold FQ_alike at hF
  refine J_aload_n hX dL_alike_0 0 rfl (t := 1) rfl ?_
  obtain ⟨x2, h1, hF⟩ := bnd_e hF
  refine J_lC hX hL [] [] [.int x2] (fun zz => ctX12_valleyCount (G := GCz G n1 zz) (l := l) z.1  h1) rfl miX12_valleyCount mvX12_valleyCount cb9 p_1312 ⟨rfl, rfl, Nat.le_of_ble_eq_true rfl, Nat.le_of_ble_eq_true rfl⟩ rfl rfl (Nat.le_of_ble_eq_true rfl) ⟨Nat.le_of_ble_eq_true rfl, Nat.le_of_ble_eq_true rfl⟩ dL_alike_1 (t := 4) rfl rfl ?_
  refine J_aload_n hX dL_alike_4 1 rfl (t := 5) rfl ?_
  refine J_wGet hX 0 (by decide) p_1021 rfl dL_alike_5 (t := 8) rfl ?_
  refine J_icmp_ne (tgt := 89) hX dL_alike_8 (by decide) (t := 11) rfl (fun zc => ?_) (fun zc => ?_)
  · replace hF := it_f hF zc
    refine J_iconst (v := 0) hX dL_alike_89 (by decide) (t := 90) rfl ?_
    replace hF := Option.some.inj hF
    subst hF
    exact J_zretP (b := false) hX hR hlk (fun H h => ⟨rfl, h⟩) dL_alike_90
  · replace hF := it_t hF zc
    refine J_aload_n hX dL_alike_11 0 rfl (t := 12) rfl ?_
    obtain ⟨x4, h3, hF⟩ := bnd_e hF
    refine J_lC hX hL [] [] [.int x4] (fun zz => ctX12_customerCount (G := GCz G n1 zz) (l := l) z.1  h3) rfl miX12_customerCount mvX12_customerCount cb9 p_1316 ⟨rfl, rfl, Nat.le_of_ble_eq_true rfl, Nat.le_of_ble_eq_true rfl⟩ rfl rfl (Nat.le_of_ble_eq_true rfl) ⟨Nat.le_of_ble_eq_true rfl, Nat.le_of_ble_eq_true rfl⟩ dL_alike_12 (t := 15) rfl rfl ?_
    refine J_aload_n hX dL_alike_15 1 rfl (t := 16) rfl ?_
    refine J_wGet hX 1 (by decide) p_1022 rfl dL_alike_16 (t := 19) rfl ?_
    refine J_icmp_ne (tgt := 89) hX dL_alike_19 (by decide) (t := 22) rfl (fun zc => ?_) (fun zc => ?_)
    · replace hF := it_f hF zc
      refine J_iconst (v := 0) hX dL_alike_89 (by decide) (t := 90) rfl ?_
      replace hF := Option.some.inj hF
      subst hF
      exact J_zretP (b := false) hX hR hlk (fun H h => ⟨rfl, h⟩) dL_alike_90
    · replace hF := it_t hF zc
      refine J_aload_n hX dL_alike_22 0 rfl (t := 23) rfl ?_
      obtain ⟨x6, h5, hF⟩ := bnd_e hF
      refine J_lC hX hL [] [] [.int x6] (fun zz => ctX12_shoutCount (G := GCz G n1 zz) (l := l) z.1  h5) rfl miX12_shoutCount mvX12_shoutCount cb9 p_1320 ⟨rfl, rfl, Nat.le_of_ble_eq_true rfl, Nat.le_of_ble_eq_true rfl⟩ rfl rfl (Nat.le_of_ble_eq_true rfl) ⟨Nat.le_of_ble_eq_true rfl, Nat.le_of_ble_eq_true rfl⟩ dL_alike_23 (t := 26) rfl rfl ?_
      refine J_aload_n hX dL_alike_26 1 rfl (t := 27) rfl ?_
      refine J_wGet hX 2 (by decide) p_1024 rfl dL_alike_27 (t := 30) rfl ?_
      refine J_icmp_ne (tgt := 89) hX dL_alike_30 (by decide) (t := 33) rfl (fun zc => ?_) (fun zc => ?_)
      · replace hF := it_f hF zc
        refine J_iconst (v := 0) hX dL_alike_89 (by decide) (t := 90) rfl ?_
        replace hF := Option.some.inj hF
        subst hF
        exact J_zretP (b := false) hX hR hlk (fun H h => ⟨rfl, h⟩) dL_alike_90
      · replace hF := it_t hF zc
        refine J_aload_n hX dL_alike_33 0 rfl (t := 34) rfl ?_
        obtain ⟨x8, h7, hF⟩ := bnd_e hF
        refine J_lC hX hL [] [] [.int x8] (fun zz => ctX12_time (G := GCz G n1 zz) (l := l) z.1  h7) rfl miX12_time mvX12_time cb9 p_912 ⟨rfl, rfl, Nat.le_of_ble_eq_true rfl, Nat.le_of_ble_eq_true rfl⟩ rfl rfl (Nat.le_of_ble_eq_true rfl) ⟨Nat.le_of_ble_eq_true rfl, Nat.le_of_ble_eq_true rfl⟩ dL_alike_34 (t := 37) rfl rfl ?_
        refine J_aload_n hX dL_alike_37 1 rfl (t := 38) rfl ?_
        refine J_wGet hX 3 (by decide) p_1026 rfl dL_alike_38 (t := 41) rfl ?_
        refine J_icmp_ne (tgt := 89) hX dL_alike_41 (by decide) (t := 44) rfl (fun zc => ?_) (fun zc => ?_)
        · replace hF := it_f hF zc
          refine J_iconst (v := 0) hX dL_alike_89 (by decide) (t := 90) rfl ?_
          replace hF := Option.some.inj hF
          subst hF
          exact J_zretP (b := false) hX hR hlk (fun H h => ⟨rfl, h⟩) dL_alike_90
        · replace hF := it_t hF zc
          refine J_aload_n hX dL_alike_44 0 rfl (t := 45) rfl ?_
          obtain ⟨x10, h9, hF⟩ := bnd_e hF
          refine J_lC hX hL [] [] [.int x10] (fun zz => ctX12_earned (G := GCz G n1 zz) (l := l) z.1  h9) rfl miX12_earned mvX12_earned cb9 p_1324 ⟨rfl, rfl, Nat.le_of_ble_eq_true rfl, Nat.le_of_ble_eq_true rfl⟩ rfl rfl (Nat.le_of_ble_eq_true rfl) ⟨Nat.le_of_ble_eq_true rfl, Nat.le_of_ble_eq_true rfl⟩ dL_alike_45 (t := 48) rfl rfl ?_
          refine J_aload_n hX dL_alike_48 1 rfl (t := 49) rfl ?_
          refine J_wGet hX 4 (by decide) p_1028 rfl dL_alike_49 (t := 52) rfl ?_
          refine J_icmp_ne (tgt := 89) hX dL_alike_52 (by decide) (t := 55) rfl (fun zc => ?_) (fun zc => ?_)
          · replace hF := it_f hF zc
            refine J_iconst (v := 0) hX dL_alike_89 (by decide) (t := 90) rfl ?_
            replace hF := Option.some.inj hF
            subst hF
            exact J_zretP (b := false) hX hR hlk (fun H h => ⟨rfl, h⟩) dL_alike_90
          · replace hF := it_t hF zc
            refine J_aload_n hX dL_alike_55 0 rfl (t := 56) rfl ?_
            obtain ⟨x12, h11, hF⟩ := bnd_e hF
            refine J_lC hX hL [] [] [.int x12] (fun zz => ctX12_refunded (G := GCz G n1 zz) (l := l) z.1  h11) rfl miX12_refunded mvX12_refunded cb9 p_1328 ⟨rfl, rfl, Nat.le_of_ble_eq_true rfl, Nat.le_of_ble_eq_true rfl⟩ rfl rfl (Nat.le_of_ble_eq_true rfl) ⟨Nat.le_of_ble_eq_true rfl, Nat.le_of_ble_eq_true rfl⟩ dL_alike_56 (t := 59) rfl rfl ?_
            refine J_aload_n hX dL_alike_59 1 rfl (t := 60) rfl ?_
            refine J_wGet hX 5 (by decide) p_1030 rfl dL_alike_60 (t := 63) rfl ?_
            refine J_icmp_ne (tgt := 89) hX dL_alike_63 (by decide) (t := 66) rfl (fun zc => ?_) (fun zc => ?_)
            · replace hF := it_f hF zc
              refine J_iconst (v := 0) hX dL_alike_89 (by decide) (t := 90) rfl ?_
              replace hF := Option.some.inj hF
              subst hF
              exact J_zretP (b := false) hX hR hlk (fun H h => ⟨rfl, h⟩) dL_alike_90
            · replace hF := it_t hF zc
              refine J_aload_n hX dL_alike_66 0 rfl (t := 67) rfl ?_
              obtain ⟨x14, h13, hF⟩ := bnd_e hF
              refine J_lC hX hL [] [] [.int x14] (fun zz => ctX12_held (G := GCz G n1 zz) (l := l) z.1  h13) rfl miX12_held mvX12_held cb9 p_916 ⟨rfl, rfl, Nat.le_of_ble_eq_true rfl, Nat.le_of_ble_eq_true rfl⟩ rfl rfl (Nat.le_of_ble_eq_true rfl) ⟨Nat.le_of_ble_eq_true rfl, Nat.le_of_ble_eq_true rfl⟩ dL_alike_67 (t := 70) rfl rfl ?_
              refine J_aload_n hX dL_alike_70 1 rfl (t := 71) rfl ?_
              refine J_iconst (v := (-1)) hX dL_alike_71 (by decide) (t := 72) rfl ?_
              obtain ⟨x16, h15, hF⟩ := bo1_e hF
              refine J_lW hX hL [.int (-1)] [.int x14] [.int x16, .int x14] (fun zz => ctW_held (G := upK G (gn G) (KwA G) zz) (l := l) z.2 (-1) n h15) rfl miX13_held mvX13_held cb10 p_1332 ⟨rfl, rfl, Nat.le_of_ble_eq_true rfl, Nat.le_of_ble_eq_true rfl⟩ rfl rfl (Nat.le_of_ble_eq_true rfl) ⟨Nat.le_of_ble_eq_true rfl, Nat.le_of_ble_eq_true rfl⟩ dL_alike_72 (t := 75) rfl rfl ?_
              refine J_icmp_ne (tgt := 89) hX dL_alike_75 (by decide) (t := 78) rfl (fun zc => ?_) (fun zc => ?_)
              · replace hF := it_f hF zc
                refine J_iconst (v := 0) hX dL_alike_89 (by decide) (t := 90) rfl ?_
                replace hF := Option.some.inj hF
                subst hF
                exact J_zretP (b := false) hX hR hlk (fun H h => ⟨rfl, h⟩) dL_alike_90
              · replace hF := it_t hF zc
                refine J_aload_n hX dL_alike_78 0 rfl (t := 79) rfl ?_
                obtain ⟨x18, h17, hF⟩ := bnd_e hF
                refine J_lC hX hL [] [] [.int x18] (fun zz => ctX12_wellDepth (G := GCz G n1 zz) (l := l) z.1  h17) rfl miX12_wellDepth mvX12_wellDepth cb9 p_1336 ⟨rfl, rfl, Nat.le_of_ble_eq_true rfl, Nat.le_of_ble_eq_true rfl⟩ rfl rfl (Nat.le_of_ble_eq_true rfl) ⟨Nat.le_of_ble_eq_true rfl, Nat.le_of_ble_eq_true rfl⟩ dL_alike_79 (t := 82) rfl rfl ?_
                refine J_aload_n hX dL_alike_82 1 rfl (t := 83) rfl ?_
                refine J_wGet hX 6 (by decide) p_1032 rfl dL_alike_83 (t := 86) rfl ?_
                refine J_icmp_eq (tgt := 91) hX dL_alike_86 (by decide) (t := 89) rfl (fun zc => ?_) (fun zc => ?_)
                · replace hF := it_t hF zc
                  refine J_iconst (v := 0) hX dL_alike_91 (by decide) (t := 92) rfl ?_
                  refine J_istore_n (lc2 := [(2, .int 0), (0, .ref (aC n1)), (1, .ref (adW G 0))]) hX dL_alike_92 rfl (Nat.le_of_ble_eq_true rfl) rfl (t := 93) rfl ?_
                  refine J_sub (lc2 := [(0, .ref (aC n1)), (1, .ref (adW G 0)), (2, .int 0)]) [1, 2, 0] rfl ?_
                  exact LQ_alike_93 hL hX hR hlk n n z 0 hF
                · replace hF := it_f hF zc
                  refine J_iconst (v := 0) hX dL_alike_89 (by decide) (t := 90) rfl ?_
                  replace hF := Option.some.inj hF
                  subst hF
                  exact J_zretP (b := false) hX hR hlk (fun H h => ⟨rfl, h⟩) dL_alike_90
