def FX1_faultIn (n : Nat) (w : Wd) (r0 : Nat) (j0 : Nat) (r1 : Nat) : Option (Nat) :=
  gd (decide (((w r0).1 j0 0).toNatClampNeg < 12)) <|
  gd (inb (nI (((w r0).1 j0 0).toNatClampNeg)) 12) <|
  bnd (swMap.getD ((nI (((w r0).1 j0 0).toNatClampNeg)).toNatClampNeg) 0) fun s3 =>
  if s3 = 1 then
    bo1 (FX6_faultOfSale n (w r1) ((w r0).1 j0 2) ((w r0).1 j0 3) ((w r0).1 j0 4) ((w r0).1 j0 5)) fun x6 =>
    some x6
  else if s3 = 2 then
    bnd (FX6_faultOfFog (w r1) ((w r0).1 j0 3) ((w r0).1 j0 4)) fun x9 =>
    some x9
  else if s3 = 3 then
    bnd (FX6_faultOfPrice (w r1) ((w r0).1 j0 3) ((w r0).1 j0 4)) fun x12 =>
    some x12
  else if s3 = 4 then
    bnd (FX6_faultOfDepth (w r1) ((w r0).1 j0 4)) fun x15 =>
    some x15
  else if s3 = 5 then
    bnd (FX6_faultOfPassing (w r1) ((w r0).1 j0 4)) fun x18 =>
    some x18
  else 
    bo1 (FX6_faultOfOpen (w r1) ((w r0).1 j0 4)) fun x21 =>
    some x21
abbrev rmX1_applyTo : Room := { frames := 4, cells := 0, slots := 0, locals := 200 }
theorem miX1_applyTo : MI yX1_applyTo cX1_applyTo 2 none 1 := ⟨q_1135, q_143, by decide +kernel, by decide +kernel, by decide +kernel, by decide +kernel⟩
theorem mvX1_applyTo : MV yX1_applyTo := ⟨q_1133, q_1134⟩
def FX1_applyTo (n : Nat) (w : Wd) (r0 : Nat) (j0 : Nat) (r1 : Nat) : Option (Wd) :=
  gd (decide (((w r0).1 j0 0).toNatClampNeg < 12)) <|
  gd (inb (nI (((w r0).1 j0 0).toNatClampNeg)) 12) <|
  bnd (swMap.getD ((nI (((w r0).1 j0 0).toNatClampNeg)).toNatClampNeg) 0) fun s3 =>
  if s3 = 1 then
    bo2 (FX6_sell (w r1) ((w r0).1 j0 2) ((w r0).1 j0 3) ((w r0).1 j0 4) ((w r0).1 j0 5)) fun x6 M7 =>
    bnd (sW w r1 M7) fun w9 =>
    some w9
  else if s3 = 2 then
    bo2 (FX6_changeFog (w r1) ((w r0).1 j0 3) ((w r0).1 j0 4)) fun x12 M13 =>
    bnd (sW w r1 M13) fun w15 =>
    some w15
  else if s3 = 3 then
    bo2 (FX6_changePrice (w r1) ((w r0).1 j0 3) ((w r0).1 j0 4)) fun x18 M19 =>
    bnd (sW w r1 M19) fun w21 =>
    some w21
  else if s3 = 4 then
    bnd2 (FX6_changeDepth (w r1) ((w r0).1 j0 4)) fun x24 M25 =>
    bnd (sW w r1 M25) fun w27 =>
    some w27
  else if s3 = 5 then
    bo2 (FX6_letPass n (w r1) ((w r0).1 j0 4)) fun x30 M31 =>
    bnd (sW w r1 M31) fun w33 =>
    some w33
  else if s3 = 6 then
    bo2 (FX6_openValley (w r1) ((w r0).2 j0 1) ((w r0).1 j0 4) ((w r0).1 j0 5) ((w r0).1 j0 6)) fun x36 M37 =>
    bnd (sW w r1 M37) fun w39 =>
    some w39
  else if s3 = 7 then
    bo2 (FX6_welcome (w r1) ((w r0).2 j0 1) ((w r0).1 j0 4) ((w r0).1 j0 5)) fun x42 M43 =>
    bnd (sW w r1 M43) fun w45 =>
    some w45
  else if s3 = 8 then
    bo2 (FX6_fakeNext n (w r1) ((w r0).1 j0 4)) fun x48 M49 =>
    bnd (sW w r1 M49) fun w51 =>
    some w51
  else 
    bo2 (FX6_callOff (w r1) ((w r0).1 j0 4)) fun x54 M55 =>
    bnd (sW w r1 M55) fun w57 =>
    some w57
set_option maxHeartbeats 4000000 in
set_option maxRecDepth 100000 in
theorem ctX1_applyTo {G : GG} {l : Launch} (w : Wd) (r0 : Nat) (j0 : Nat) (r1 : Nat) (hc0 : isChg r0 j0) (hr1 : 1 ≤ r1 ∧ r1 ≤ 9) (n : Nat) {rw : Wd} (hF : FX1_applyTo n w r0 j0 r1 = some rw) : CT G l yX1_applyTo cX1_applyTo 2 none rmX1_applyTo 0 0 [.ref (adr G r0 j0), .ref (adr G r1 0)] w (none) rw := by
  refine CT.of miX1_applyTo [(0, .ref (adr G r0 j0)), (1, .ref (adr G r1 0))] rfl (Nat.le_of_ble_eq_true rfl) ?_
  intro p e s m args below meth c hX hR hlk
  have hX : FX G RX1 cX1_applyTo 2 p s m args c := hX
  unfold FX1_applyTo at hF
  refine J_gsS hX q_1136 dX1_applyTo_0 (t := 3) rfl ?_
  refine J_aload_n hX dX1_applyTo_3 0 rfl (t := 4) rfl ?_
  obtain ⟨g1, hF⟩ := gd_e hF
  refine J_get hX cb0 (kChange hc0) 0 (by decide) q_441 rfl dX1_applyTo_4 (t := 7) rfl ?_
  refine J_ord hX (of_decide_eq_true g1) q_1137 ⟨Nat.le_of_ble_eq_true rfl, Nat.le_of_ble_eq_true rfl, Nat.le_of_ble_eq_true rfl, Nat.le_of_ble_eq_true rfl⟩ (Nat.le_of_ble_eq_true rfl) dX1_applyTo_7 (t := 10) rfl ?_
  obtain ⟨g2, hF⟩ := gd_e hF
  refine J_swald hX g2 dX1_applyTo_10 (t := 11) rfl ?_
  obtain ⟨s3, e4, hF⟩ := bnd_e hF
  refine J_val e4 ?_
  by_cases z1 : s3 = 1
  · replace hF := it_t hF z1
    refine J_tabIn (k := 1) (tgt := 100) hX dX1_applyTo_11 z1 (by decide) (by decide) rfl (by decide) ?_
    refine J_aload_n hX dX1_applyTo_100 1 rfl (t := 101) rfl ?_
    refine J_aload_n hX dX1_applyTo_101 0 rfl (t := 102) rfl ?_
    refine J_get hX cb0 (kChange hc0) 2 (by decide) q_446 rfl dX1_applyTo_102 (t := 105) rfl ?_
    refine J_aload_n hX dX1_applyTo_105 0 rfl (t := 106) rfl ?_
    refine J_get hX cb0 (kChange hc0) 3 (by decide) q_449 rfl dX1_applyTo_106 (t := 109) rfl ?_
    refine J_aload_n hX dX1_applyTo_109 0 rfl (t := 110) rfl ?_
    refine J_get hX cb0 (kChange hc0) 4 (by decide) q_452 rfl dX1_applyTo_110 (t := 113) rfl ?_
    refine J_aload_n hX dX1_applyTo_113 0 rfl (t := 114) rfl ?_
    refine J_get hX cb0 (kChange hc0) 5 (by decide) q_455 rfl dX1_applyTo_114 (t := 117) rfl ?_
    obtain ⟨x6, M7, h5, hF⟩ := bo2_e hF
    have k8 := (CT.self (ctX6_sell (G := G) (l := l) w r1 hr1 (w r1) ((w r0).1 j0 2) ((w r0).1 j0 3) ((w r0).1 j0 4) ((w r0).1 j0 5) h5))
    obtain ⟨w9, e10, hF⟩ := bnd_e hF
    rw [e10] at k8
    refine J_callV hX [.int ((w r0).1 j0 2), .int ((w r0).1 j0 3), .int ((w r0).1 j0 4), .int ((w r0).1 j0 5)] [] [.int x6] k8 miX6_sell mvX6_sell cb4 (kMarket hr1) q_1146 ⟨rfl, rfl, Nat.le_of_ble_eq_true rfl, Nat.le_of_ble_eq_true rfl⟩ rfl rfl (Nat.le_of_ble_eq_true rfl) ⟨Nat.le_of_ble_eq_true rfl, Nat.le_of_ble_eq_true rfl⟩ dX1_applyTo_117 (t := 120) rfl rfl ?_
    refine J_pop hX dX1_applyTo_120 rfl (t := 121) rfl ?_
    refine J_goto (tgt := 201) hX dX1_applyTo_121 (by decide) ?_
    replace hF := Option.some.inj hF
    subst hF
    exact J_vret hX hR hlk dX1_applyTo_201
  · replace hF := it_f hF z1
    by_cases z2 : s3 = 2
    · replace hF := it_t hF z2
      refine J_tabIn (k := 2) (tgt := 124) hX dX1_applyTo_11 z2 (by decide) (by decide) rfl (by decide) ?_
      refine J_aload_n hX dX1_applyTo_124 1 rfl (t := 125) rfl ?_
      refine J_aload_n hX dX1_applyTo_125 0 rfl (t := 126) rfl ?_
      refine J_get hX cb0 (kChange hc0) 3 (by decide) q_449 rfl dX1_applyTo_126 (t := 129) rfl ?_
      refine J_aload_n hX dX1_applyTo_129 0 rfl (t := 130) rfl ?_
      refine J_get hX cb0 (kChange hc0) 4 (by decide) q_452 rfl dX1_applyTo_130 (t := 133) rfl ?_
      obtain ⟨x12, M13, h11, hF⟩ := bo2_e hF
      have k14 := (CT.self (ctX6_changeFog (G := G) (l := l) w r1 hr1 (w r1) ((w r0).1 j0 3) ((w r0).1 j0 4) h11))
      obtain ⟨w15, e16, hF⟩ := bnd_e hF
      rw [e16] at k14
      refine J_callV hX [.int ((w r0).1 j0 3), .int ((w r0).1 j0 4)] [] [.int x12] k14 miX6_changeFog mvX6_changeFog cb4 (kMarket hr1) q_1150 ⟨rfl, rfl, Nat.le_of_ble_eq_true rfl, Nat.le_of_ble_eq_true rfl⟩ rfl rfl (Nat.le_of_ble_eq_true rfl) ⟨Nat.le_of_ble_eq_true rfl, Nat.le_of_ble_eq_true rfl⟩ dX1_applyTo_133 (t := 136) rfl rfl ?_
      refine J_pop hX dX1_applyTo_136 rfl (t := 137) rfl ?_
      refine J_goto (tgt := 201) hX dX1_applyTo_137 (by decide) ?_
      replace hF := Option.some.inj hF
      subst hF
      exact J_vret hX hR hlk dX1_applyTo_201
    · replace hF := it_f hF z2
      by_cases z3 : s3 = 3
      · replace hF := it_t hF z3
        refine J_tabIn (k := 3) (tgt := 140) hX dX1_applyTo_11 z3 (by decide) (by decide) rfl (by decide) ?_
        refine J_aload_n hX dX1_applyTo_140 1 rfl (t := 141) rfl ?_
        refine J_aload_n hX dX1_applyTo_141 0 rfl (t := 142) rfl ?_
        refine J_get hX cb0 (kChange hc0) 3 (by decide) q_449 rfl dX1_applyTo_142 (t := 145) rfl ?_
        refine J_aload_n hX dX1_applyTo_145 0 rfl (t := 146) rfl ?_
        refine J_get hX cb0 (kChange hc0) 4 (by decide) q_452 rfl dX1_applyTo_146 (t := 149) rfl ?_
        obtain ⟨x18, M19, h17, hF⟩ := bo2_e hF
        have k20 := (CT.self (ctX6_changePrice (G := G) (l := l) w r1 hr1 (w r1) ((w r0).1 j0 3) ((w r0).1 j0 4) h17))
        obtain ⟨w21, e22, hF⟩ := bnd_e hF
        rw [e22] at k20
        refine J_callV hX [.int ((w r0).1 j0 3), .int ((w r0).1 j0 4)] [] [.int x18] k20 miX6_changePrice mvX6_changePrice cb4 (kMarket hr1) q_1154 ⟨rfl, rfl, Nat.le_of_ble_eq_true rfl, Nat.le_of_ble_eq_true rfl⟩ rfl rfl (Nat.le_of_ble_eq_true rfl) ⟨Nat.le_of_ble_eq_true rfl, Nat.le_of_ble_eq_true rfl⟩ dX1_applyTo_149 (t := 152) rfl rfl ?_
        refine J_pop hX dX1_applyTo_152 rfl (t := 153) rfl ?_
        refine J_goto (tgt := 201) hX dX1_applyTo_153 (by decide) ?_
        replace hF := Option.some.inj hF
        subst hF
        exact J_vret hX hR hlk dX1_applyTo_201
      · replace hF := it_f hF z3
        by_cases z4 : s3 = 4
        · replace hF := it_t hF z4
          refine J_tabIn (k := 4) (tgt := 156) hX dX1_applyTo_11 z4 (by decide) (by decide) rfl (by decide) ?_
          refine J_aload_n hX dX1_applyTo_156 1 rfl (t := 157) rfl ?_
          refine J_aload_n hX dX1_applyTo_157 0 rfl (t := 158) rfl ?_
          refine J_get hX cb0 (kChange hc0) 4 (by decide) q_452 rfl dX1_applyTo_158 (t := 161) rfl ?_
          obtain ⟨x24, M25, h23, hF⟩ := bnd2_e hF
          have k26 := (CT.self (ctX6_changeDepth (G := G) (l := l) w r1 hr1 (w r1) ((w r0).1 j0 4) h23))
          obtain ⟨w27, e28, hF⟩ := bnd_e hF
          rw [e28] at k26
          refine J_callV hX [.int ((w r0).1 j0 4)] [] [.int x24] k26 miX6_changeDepth mvX6_changeDepth cb4 (kMarket hr1) q_1158 ⟨rfl, rfl, Nat.le_of_ble_eq_true rfl, Nat.le_of_ble_eq_true rfl⟩ rfl rfl (Nat.le_of_ble_eq_true rfl) ⟨Nat.le_of_ble_eq_true rfl, Nat.le_of_ble_eq_true rfl⟩ dX1_applyTo_161 (t := 164) rfl rfl ?_
          refine J_pop hX dX1_applyTo_164 rfl (t := 165) rfl ?_
          refine J_goto (tgt := 201) hX dX1_applyTo_165 (by decide) ?_
          replace hF := Option.some.inj hF
          subst hF
          exact J_vret hX hR hlk dX1_applyTo_201
        · replace hF := it_f hF z4
          by_cases z5 : s3 = 5
          · replace hF := it_t hF z5
            refine J_tabIn (k := 5) (tgt := 168) hX dX1_applyTo_11 z5 (by decide) (by decide) rfl (by decide) ?_
            refine J_aload_n hX dX1_applyTo_168 1 rfl (t := 169) rfl ?_
            refine J_aload_n hX dX1_applyTo_169 0 rfl (t := 170) rfl ?_
            refine J_get hX cb0 (kChange hc0) 4 (by decide) q_452 rfl dX1_applyTo_170 (t := 173) rfl ?_
            obtain ⟨x30, M31, h29, hF⟩ := bo2_e hF
            have k32 := (CT.self (ctX6_letPass (G := G) (l := l) w r1 hr1 (w r1) ((w r0).1 j0 4) n h29))
            obtain ⟨w33, e34, hF⟩ := bnd_e hF
            rw [e34] at k32
            refine J_callV hX [.int ((w r0).1 j0 4)] [] [.int x30] k32 miX6_letPass mvX6_letPass cb4 (kMarket hr1) q_1162 ⟨rfl, rfl, Nat.le_of_ble_eq_true rfl, Nat.le_of_ble_eq_true rfl⟩ rfl rfl (Nat.le_of_ble_eq_true rfl) ⟨Nat.le_of_ble_eq_true rfl, Nat.le_of_ble_eq_true rfl⟩ dX1_applyTo_173 (t := 176) rfl rfl ?_
            refine J_pop hX dX1_applyTo_176 rfl (t := 177) rfl ?_
            refine J_goto (tgt := 201) hX dX1_applyTo_177 (by decide) ?_
            replace hF := Option.some.inj hF
            subst hF
            exact J_vret hX hR hlk dX1_applyTo_201
          · replace hF := it_f hF z5
            by_cases z6 : s3 = 6
            · replace hF := it_t hF z6
              refine J_tabIn (k := 6) (tgt := 56) hX dX1_applyTo_11 z6 (by decide) (by decide) rfl (by decide) ?_
              refine J_aload_n hX dX1_applyTo_56 1 rfl (t := 57) rfl ?_
              refine J_aload_n hX dX1_applyTo_57 0 rfl (t := 58) rfl ?_
              refine J_get hX cb0 (kChange hc0) 1 (by decide) q_444 rfl dX1_applyTo_58 (t := 61) rfl ?_
              refine J_aload_n hX dX1_applyTo_61 0 rfl (t := 62) rfl ?_
              refine J_get hX cb0 (kChange hc0) 4 (by decide) q_452 rfl dX1_applyTo_62 (t := 65) rfl ?_
              refine J_aload_n hX dX1_applyTo_65 0 rfl (t := 66) rfl ?_
              refine J_get hX cb0 (kChange hc0) 5 (by decide) q_455 rfl dX1_applyTo_66 (t := 69) rfl ?_
              refine J_aload_n hX dX1_applyTo_69 0 rfl (t := 70) rfl ?_
              refine J_get hX cb0 (kChange hc0) 6 (by decide) q_458 rfl dX1_applyTo_70 (t := 73) rfl ?_
              obtain ⟨x36, M37, h35, hF⟩ := bo2_e hF
              have k38 := (CT.self (ctX6_openValley (G := G) (l := l) w r1 hr1 (w r1) ((w r0).2 j0 1) ((w r0).1 j0 4) ((w r0).1 j0 5) ((w r0).1 j0 6) h35))
              obtain ⟨w39, e40, hF⟩ := bnd_e hF
              rw [e40] at k38
              refine J_callV hX [.long ((w r0).2 j0 1), .int ((w r0).1 j0 4), .int ((w r0).1 j0 5), .int ((w r0).1 j0 6)] [] [.int x36] k38 miX6_openValley mvX6_openValley cb4 (kMarket hr1) q_1138 ⟨rfl, rfl, Nat.le_of_ble_eq_true rfl, Nat.le_of_ble_eq_true rfl⟩ rfl rfl (Nat.le_of_ble_eq_true rfl) ⟨Nat.le_of_ble_eq_true rfl, Nat.le_of_ble_eq_true rfl⟩ dX1_applyTo_73 (t := 76) rfl rfl ?_
              refine J_pop hX dX1_applyTo_76 rfl (t := 77) rfl ?_
              refine J_goto (tgt := 201) hX dX1_applyTo_77 (by decide) ?_
              replace hF := Option.some.inj hF
              subst hF
              exact J_vret hX hR hlk dX1_applyTo_201
            · replace hF := it_f hF z6
              by_cases z7 : s3 = 7
              · replace hF := it_t hF z7
                refine J_tabIn (k := 7) (tgt := 80) hX dX1_applyTo_11 z7 (by decide) (by decide) rfl (by decide) ?_
                refine J_aload_n hX dX1_applyTo_80 1 rfl (t := 81) rfl ?_
                refine J_aload_n hX dX1_applyTo_81 0 rfl (t := 82) rfl ?_
                refine J_get hX cb0 (kChange hc0) 1 (by decide) q_444 rfl dX1_applyTo_82 (t := 85) rfl ?_
                refine J_aload_n hX dX1_applyTo_85 0 rfl (t := 86) rfl ?_
                refine J_get hX cb0 (kChange hc0) 4 (by decide) q_452 rfl dX1_applyTo_86 (t := 89) rfl ?_
                refine J_aload_n hX dX1_applyTo_89 0 rfl (t := 90) rfl ?_
                refine J_get hX cb0 (kChange hc0) 5 (by decide) q_455 rfl dX1_applyTo_90 (t := 93) rfl ?_
                obtain ⟨x42, M43, h41, hF⟩ := bo2_e hF
                have k44 := (CT.self (ctX6_welcome (G := G) (l := l) w r1 hr1 (w r1) ((w r0).2 j0 1) ((w r0).1 j0 4) ((w r0).1 j0 5) h41))
                obtain ⟨w45, e46, hF⟩ := bnd_e hF
                rw [e46] at k44
                refine J_callV hX [.long ((w r0).2 j0 1), .int ((w r0).1 j0 4), .int ((w r0).1 j0 5)] [] [.int x42] k44 miX6_welcome mvX6_welcome cb4 (kMarket hr1) q_1142 ⟨rfl, rfl, Nat.le_of_ble_eq_true rfl, Nat.le_of_ble_eq_true rfl⟩ rfl rfl (Nat.le_of_ble_eq_true rfl) ⟨Nat.le_of_ble_eq_true rfl, Nat.le_of_ble_eq_true rfl⟩ dX1_applyTo_93 (t := 96) rfl rfl ?_
                refine J_pop hX dX1_applyTo_96 rfl (t := 97) rfl ?_
                refine J_goto (tgt := 201) hX dX1_applyTo_97 (by decide) ?_
                replace hF := Option.some.inj hF
                subst hF
                exact J_vret hX hR hlk dX1_applyTo_201
              · replace hF := it_f hF z7
                by_cases z8 : s3 = 8
                · replace hF := it_t hF z8
                  refine J_tabIn (k := 8) (tgt := 180) hX dX1_applyTo_11 z8 (by decide) (by decide) rfl (by decide) ?_
                  refine J_aload_n hX dX1_applyTo_180 1 rfl (t := 181) rfl ?_
                  refine J_aload_n hX dX1_applyTo_181 0 rfl (t := 182) rfl ?_
                  refine J_get hX cb0 (kChange hc0) 4 (by decide) q_452 rfl dX1_applyTo_182 (t := 185) rfl ?_
                  obtain ⟨x48, M49, h47, hF⟩ := bo2_e hF
                  have k50 := (CT.self (ctX6_fakeNext (G := G) (l := l) w r1 hr1 (w r1) ((w r0).1 j0 4) n h47))
                  obtain ⟨w51, e52, hF⟩ := bnd_e hF
                  rw [e52] at k50
                  refine J_callV hX [.int ((w r0).1 j0 4)] [] [.int x48] k50 miX6_fakeNext mvX6_fakeNext cb4 (kMarket hr1) q_1206 ⟨rfl, rfl, Nat.le_of_ble_eq_true rfl, Nat.le_of_ble_eq_true rfl⟩ rfl rfl (Nat.le_of_ble_eq_true rfl) ⟨Nat.le_of_ble_eq_true rfl, Nat.le_of_ble_eq_true rfl⟩ dX1_applyTo_185 (t := 188) rfl rfl ?_
                  refine J_pop hX dX1_applyTo_188 rfl (t := 189) rfl ?_
                  refine J_goto (tgt := 201) hX dX1_applyTo_189 (by decide) ?_
                  replace hF := Option.some.inj hF
                  subst hF
                  exact J_vret hX hR hlk dX1_applyTo_201
                · replace hF := it_f hF z8
                  refine J_tabOut (tgt := 192) hX dX1_applyTo_11 (tab_out8_1 z1 z2 z3 z4 z5 z6 z7 z8) (by decide) ?_
                  refine J_aload_n hX dX1_applyTo_192 1 rfl (t := 193) rfl ?_
                  refine J_aload_n hX dX1_applyTo_193 0 rfl (t := 194) rfl ?_
                  refine J_get hX cb0 (kChange hc0) 4 (by decide) q_452 rfl dX1_applyTo_194 (t := 197) rfl ?_
                  obtain ⟨x54, M55, h53, hF⟩ := bo2_e hF
                  have k56 := (CT.self (ctX6_callOff (G := G) (l := l) w r1 hr1 (w r1) ((w r0).1 j0 4) h53))
                  obtain ⟨w57, e58, hF⟩ := bnd_e hF
                  rw [e58] at k56
                  refine J_callV hX [.int ((w r0).1 j0 4)] [] [.int x54] k56 miX6_callOff mvX6_callOff cb4 (kMarket hr1) q_1214 ⟨rfl, rfl, Nat.le_of_ble_eq_true rfl, Nat.le_of_ble_eq_true rfl⟩ rfl rfl (Nat.le_of_ble_eq_true rfl) ⟨Nat.le_of_ble_eq_true rfl, Nat.le_of_ble_eq_true rfl⟩ dX1_applyTo_197 (t := 200) rfl rfl ?_
                  refine J_pop hX dX1_applyTo_200 rfl (t := 201) rfl ?_
                  replace hF := Option.some.inj hF
                  subst hF
                  exact J_vret hX hR hlk dX1_applyTo_201
abbrev rmX11_isSpelled : Room := { frames := 4, cells := 0, slots := 0, locals := 200 }
theorem miX11_isSpelled : MI yX11_isSpelled cX11_isSpelled 5 (some .boolean) 1 := ⟨q_942, q_145, by decide +kernel, by decide +kernel, by decide +kernel, by decide +kernel⟩
theorem mvX11_isSpelled : MV yX11_isSpelled := ⟨q_940, q_941⟩
def FX11_isSpelled_L24 (n : Nat) : Nat → Wd → Nat → Int64 → Bool → Int32 → Option (Bool)
  | 0 => fun _ _ _ _ _ => none
  | k + 1 => fun w l0 l1 l3 l4 =>
    if nI (enLen.getD l0 0) ≤ l4 then
      some l3
    else
      if l3 = true then
        bnd (FX12_letterOf l1 l4) fun x5 =>
        gd (inb l4 (enLen.getD l0 0)) <|
        if x5 = enC l0 l4.toNatClampNeg then
          FX11_isSpelled_L24 n k w l0 l1 true (l4 + 1)
        else
          FX11_isSpelled_L24 n k w l0 l1 false (l4 + 1)
      else
        FX11_isSpelled_L24 n k w l0 l1 false (l4 + 1)
set_option maxHeartbeats 4000000 in
set_option maxRecDepth 100000 in
theorem LX11_isSpelled_24 {G : GG} {l : Launch} {p : Program} {e : Env} {s : State} {m : MethodId} {args : Array Value} {below : List Frame} {meth : Method} {c : Code} (hX : FX G RX11 cX11_isSpelled 5 p s m args c) (hR : meth.sig.returnType = (some .boolean)) (hlk : meth.locks = false) {rx : Bool} (n : Nat) : ∀ (k : Nat) (w : Wd) (l0 : Nat) (l1 : Int64) (l3 : Bool) (l4 : Int32) (hl0 : l0 < 12), FX11_isSpelled_L24 n k w l0 l1 l3 l4 = some rx → J G p l e rmX11_isSpelled s m args below meth c 5 0 0 (MQ below (QV G (some (.int (bI rx))) w) args s 0 0 (gA G)) (GH G w) 24 [(0, .ref (ga G l0)), (1, .long l1), (3, .int (bI l3)), (4, .int l4)] [] := by
  intro k
  induction k with
  | zero => intro w l0 l1 l3 l4 hl0 hF; cases hF
  | succ k ih =>
    intro w l0 l1 l3 l4 hl0 hF
    simp only [FX11_isSpelled_L24] at hF
    refine J_iload hX dX11_isSpelled_24 3 rfl (t := 26) rfl ?_
    refine J_aload_n hX dX11_isSpelled_26 0 rfl (t := 27) rfl ?_
    refine J_getVS hX hl0 q_2843 dX11_isSpelled_27 (t := 30) rfl ?_
    refine J_callO hX [] [.int l4] [.int (nI (enLen.getD l0 0)), .int l4] (ct_len hl0) miJ0_length_8abf5 mvJ0_length_8abf5 (hX.st hl0).1 q_943 ⟨rfl, rfl, Nat.le_of_ble_eq_true rfl, Nat.le_of_ble_eq_true rfl⟩ rfl rfl (Nat.le_of_ble_eq_true rfl) ⟨Nat.le_of_ble_eq_true rfl, Nat.le_of_ble_eq_true rfl⟩ dX11_isSpelled_30 (t := 33) rfl rfl ?_
    refine J_icmp_ge (tgt := 70) hX dX11_isSpelled_33 (by decide) (t := 36) rfl (fun z => ?_) (fun z => ?_)
    · replace hF := it_t hF z
      refine J_iload_n hX dX11_isSpelled_70 2 rfl (t := 71) rfl ?_
      replace hF := Option.some.inj hF
      subst hF
      exact J_zret (b := l3) hX hR hlk dX11_isSpelled_71
    · replace hF := it_f hF z
      refine J_iload_n hX dX11_isSpelled_36 2 rfl (t := 37) rfl ?_
      refine J_ifZ_eq (tgt := 62) hX dX11_isSpelled_37 (by decide) (t := 40) rfl (fun z => ?_) (fun z => ?_)
      · replace hF := ib_f hF z
        refine J_iconst (v := 0) hX dX11_isSpelled_62 (by decide) (t := 63) rfl ?_
        refine J_istore_n (lc2 := [(3, .int 0), (0, .ref (ga G l0)), (1, .long l1), (4, .int l4)]) hX dX11_isSpelled_63 rfl (Nat.le_of_ble_eq_true rfl) rfl (t := 64) rfl ?_
        refine J_iinc (v := l4 + 1) (lc2 := [(4, .int (l4 + 1)), (3, .int 0), (0, .ref (ga G l0)), (1, .long l1)]) hX dX11_isSpelled_64 3 rfl rfl (Nat.le_of_ble_eq_true rfl) rfl (t := 67) rfl ?_
        refine J_goto (tgt := 24) hX dX11_isSpelled_67 (by decide) ?_
        refine J_sub (lc2 := [(0, .ref (ga G l0)), (1, .long l1), (3, .int 0), (4, .int (l4 + 1))]) [2, 3, 1, 0] rfl ?_
        exact ih w l0 l1 false (l4 + 1) hl0 hF
      · replace hF := it_t hF z
        refine J_lload_n hX dX11_isSpelled_40 1 rfl (t := 41) rfl ?_
        refine J_iload hX dX11_isSpelled_41 3 rfl (t := 43) rfl ?_
        obtain ⟨x5, h4, hF⟩ := bnd_e hF
        have k6 := (ctX12_letterOf (l := l) (G := G) (w := w) l1 l4 h4)
        refine J_callSN hX [.long l1, .int l4] [] [.int x5] k6 miX12_letterOf q_953 (by simp [nestL]) ⟨rfl, rfl, Nat.le_of_ble_eq_true rfl, Nat.le_of_ble_eq_true rfl⟩ rfl rfl (Nat.le_of_ble_eq_true rfl) ⟨Nat.le_of_ble_eq_true rfl, Nat.le_of_ble_eq_true rfl⟩ dX11_isSpelled_43 (t := 46) rfl rfl ?_
        refine J_aload_n hX dX11_isSpelled_46 0 rfl (t := 47) rfl ?_
        refine J_getVS hX hl0 q_2843 dX11_isSpelled_47 (t := 50) rfl ?_
        refine J_iload hX dX11_isSpelled_50 3 rfl (t := 52) rfl ?_
        obtain ⟨g7, hF⟩ := gd_e hF
        refine J_callO hX [.int l4] [.int x5] [.int (enC l0 l4.toNatClampNeg), .int x5] (ct_chr hl0 g7) miJ0_charAt_5068e mvJ0_charAt_5068e (hX.st hl0).1 q_955 ⟨rfl, rfl, Nat.le_of_ble_eq_true rfl, Nat.le_of_ble_eq_true rfl⟩ rfl rfl (Nat.le_of_ble_eq_true rfl) ⟨Nat.le_of_ble_eq_true rfl, Nat.le_of_ble_eq_true rfl⟩ dX11_isSpelled_52 (t := 55) rfl rfl ?_
        refine J_icmp_ne (tgt := 62) hX dX11_isSpelled_55 (by decide) (t := 58) rfl (fun z => ?_) (fun z => ?_)
        · replace hF := it_f hF z
          refine J_iconst (v := 0) hX dX11_isSpelled_62 (by decide) (t := 63) rfl ?_
          refine J_istore_n (lc2 := [(3, .int 0), (0, .ref (ga G l0)), (1, .long l1), (4, .int l4)]) hX dX11_isSpelled_63 rfl (Nat.le_of_ble_eq_true rfl) rfl (t := 64) rfl ?_
          refine J_iinc (v := l4 + 1) (lc2 := [(4, .int (l4 + 1)), (3, .int 0), (0, .ref (ga G l0)), (1, .long l1)]) hX dX11_isSpelled_64 3 rfl rfl (Nat.le_of_ble_eq_true rfl) rfl (t := 67) rfl ?_
          refine J_goto (tgt := 24) hX dX11_isSpelled_67 (by decide) ?_
          refine J_sub (lc2 := [(0, .ref (ga G l0)), (1, .long l1), (3, .int 0), (4, .int (l4 + 1))]) [2, 3, 1, 0] rfl ?_
          exact ih w l0 l1 false (l4 + 1) hl0 hF
        · replace hF := it_t hF z
          refine J_iconst (v := 1) hX dX11_isSpelled_58 (by decide) (t := 59) rfl ?_
          refine J_goto (tgt := 63) hX dX11_isSpelled_59 (by decide) ?_
          refine J_istore_n (lc2 := [(3, .int 1), (0, .ref (ga G l0)), (1, .long l1), (4, .int l4)]) hX dX11_isSpelled_63 rfl (Nat.le_of_ble_eq_true rfl) rfl (t := 64) rfl ?_
          refine J_iinc (v := l4 + 1) (lc2 := [(4, .int (l4 + 1)), (3, .int 1), (0, .ref (ga G l0)), (1, .long l1)]) hX dX11_isSpelled_64 3 rfl rfl (Nat.le_of_ble_eq_true rfl) rfl (t := 67) rfl ?_
          refine J_goto (tgt := 24) hX dX11_isSpelled_67 (by decide) ?_
          refine J_sub (lc2 := [(0, .ref (ga G l0)), (1, .long l1), (3, .int 1), (4, .int (l4 + 1))]) [2, 3, 1, 0] rfl ?_
          exact ih w l0 l1 true (l4 + 1) hl0 hF
def FX11_isSpelled (n : Nat) (w : Wd) (f0 : Nat) (p1 : Int64) : Option (Bool) :=
  bnd (FX12_letterOf p1 (nI (enLen.getD f0 0))) fun x2 =>
  if x2 = (-1) then
    FX11_isSpelled_L24 n n w f0 p1 true 0
  else
    FX11_isSpelled_L24 n n w f0 p1 false 0
set_option maxHeartbeats 4000000 in
set_option maxRecDepth 100000 in
theorem ctX11_isSpelled {G : GG} {l : Launch} (w : Wd) (f0 : Nat) (p1 : Int64) (hf0 : f0 < 12) (n : Nat) {rx : Bool} (hF : FX11_isSpelled n w f0 p1 = some rx) : CT G l yX11_isSpelled cX11_isSpelled 5 (some .boolean) rmX11_isSpelled 0 0 [.ref (ga G f0), .long p1] w (some (.int (bI rx))) w := by
  refine CT.of miX11_isSpelled [(0, .ref (ga G f0)), (1, .long p1)] rfl (Nat.le_of_ble_eq_true rfl) ?_
  intro p e s m args below meth c hX hR hlk
  have hX : FX G RX11 cX11_isSpelled 5 p s m args c := hX
  unfold FX11_isSpelled at hF
  refine J_lload_n hX dX11_isSpelled_0 1 rfl (t := 1) rfl ?_
  refine J_aload_n hX dX11_isSpelled_1 0 rfl (t := 2) rfl ?_
  refine J_getVS hX hf0 q_2843 dX11_isSpelled_2 (t := 5) rfl ?_
  refine J_callO hX [] [.long p1] [.int (nI (enLen.getD f0 0)), .long p1] (ct_len hf0) miJ0_length_8abf5 mvJ0_length_8abf5 (hX.st hf0).1 q_943 ⟨rfl, rfl, Nat.le_of_ble_eq_true rfl, Nat.le_of_ble_eq_true rfl⟩ rfl rfl (Nat.le_of_ble_eq_true rfl) ⟨Nat.le_of_ble_eq_true rfl, Nat.le_of_ble_eq_true rfl⟩ dX11_isSpelled_5 (t := 8) rfl rfl ?_
  obtain ⟨x2, h1, hF⟩ := bnd_e hF
  have k3 := (ctX12_letterOf (l := l) (G := G) (w := w) p1 (nI (enLen.getD f0 0)) h1)
  refine J_callSN hX [.long p1, .int (nI (enLen.getD f0 0))] [] [.int x2] k3 miX12_letterOf q_953 (by simp [nestL]) ⟨rfl, rfl, Nat.le_of_ble_eq_true rfl, Nat.le_of_ble_eq_true rfl⟩ rfl rfl (Nat.le_of_ble_eq_true rfl) ⟨Nat.le_of_ble_eq_true rfl, Nat.le_of_ble_eq_true rfl⟩ dX11_isSpelled_8 (t := 11) rfl rfl ?_
  refine J_iconst (v := (-1)) hX dX11_isSpelled_11 (by decide) (t := 12) rfl ?_
  refine J_icmp_ne (tgt := 19) hX dX11_isSpelled_12 (by decide) (t := 15) rfl (fun z => ?_) (fun z => ?_)
  · replace hF := it_f hF z
    refine J_iconst (v := 0) hX dX11_isSpelled_19 (by decide) (t := 20) rfl ?_
    refine J_istore_n (lc2 := [(3, .int 0), (0, .ref (ga G f0)), (1, .long p1)]) hX dX11_isSpelled_20 rfl (Nat.le_of_ble_eq_true rfl) rfl (t := 21) rfl ?_
    refine J_iconst (v := 0) hX dX11_isSpelled_21 (by decide) (t := 22) rfl ?_
    refine J_istore (lc2 := [(4, .int 0), (3, .int 0), (0, .ref (ga G f0)), (1, .long p1)]) hX dX11_isSpelled_22 (Nat.le_of_ble_eq_true rfl) rfl (t := 24) rfl ?_
    refine J_sub (lc2 := [(0, .ref (ga G f0)), (1, .long p1), (3, .int 0), (4, .int 0)]) [2, 3, 1, 0] rfl ?_
    exact LX11_isSpelled_24 hX hR hlk n n w f0 p1 false 0 hf0 hF
  · replace hF := it_t hF z
    refine J_iconst (v := 1) hX dX11_isSpelled_15 (by decide) (t := 16) rfl ?_
    refine J_goto (tgt := 20) hX dX11_isSpelled_16 (by decide) ?_
    refine J_istore_n (lc2 := [(3, .int 1), (0, .ref (ga G f0)), (1, .long p1)]) hX dX11_isSpelled_20 rfl (Nat.le_of_ble_eq_true rfl) rfl (t := 21) rfl ?_
    refine J_iconst (v := 0) hX dX11_isSpelled_21 (by decide) (t := 22) rfl ?_
    refine J_istore (lc2 := [(4, .int 0), (3, .int 1), (0, .ref (ga G f0)), (1, .long p1)]) hX dX11_isSpelled_22 (Nat.le_of_ble_eq_true rfl) rfl (t := 24) rfl ?_
    refine J_sub (lc2 := [(0, .ref (ga G f0)), (1, .long p1), (3, .int 1), (4, .int 0)]) [2, 3, 1, 0] rfl ?_
    exact LX11_isSpelled_24 hX hR hlk n n w f0 p1 true 0 hf0 hF
abbrev rmX9_verb : Room := { frames := 5, cells := 0, slots := 0, locals := 224 }
theorem miX9_verb : MI yX9_verb cX9_verb 5 (some (.object RX11)) 0 := ⟨q_936, q_137, by decide +kernel, by decide +kernel, by decide +kernel, by decide +kernel⟩
theorem mvX9_verb : MV yX9_verb := ⟨q_934, q_935⟩
def FX9_verb_L9 (n : Nat) : Nat → Wd → Int32 → Int32 → Option (Nat)
  | 0 => fun _ _ _ => none
  | k + 1 => fun w l2 l3 =>
    if l2 ≤ l3 then
      some 0
    else
      gd (inb l3 12) <|
      gd (inb ((w 10).1 0 5) 601) <|
      if (w 10).1 2 (((w 10).1 0 5).toNatClampNeg) = 1 then
        gd (inb ((w 10).1 0 5) 601) <|
        bo1 (FX11_isSpelled n w l3.toNatClampNeg ((w 10).2 4 (((w 10).1 0 5).toNatClampNeg))) fun x5 =>
        if x5 = true then
          some l3.toNatClampNeg
        else
          FX9_verb_L9 n k w l2 (l3 + 1)
      else
        FX9_verb_L9 n k w l2 (l3 + 1)
set_option maxHeartbeats 4000000 in
set_option maxRecDepth 100000 in
theorem LX9_verb_9 {G : GG} {l : Launch} {p : Program} {e : Env} {s : State} {m : MethodId} {args : Array Value} {below : List Frame} {meth : Method} {c : Code} (hX : FX G RX9 cX9_verb 5 p s m args c) (hR : meth.sig.returnType = (some (.object RX11))) (hlk : meth.locks = false) {rx : Nat} (n : Nat) : ∀ (k : Nat) (w : Wd) (l2 : Int32) (l3 : Int32) , FX9_verb_L9 n k w l2 l3 = some rx → J G p l e rmX9_verb s m args below meth c 5 0 0 (MQ below (QV G (some (.ref (ga G rx))) w) args s 0 0 (gA G)) (GH G w) 9 [(0, .ref (adr G 10 0)), (1, .ref (ga G 40)), (2, .int l2), (3, .int l3)] [] := by
  intro k
  induction k with
  | zero => intro w l2 l3  hF; cases hF
  | succ k ih =>
    intro w l2 l3  hF
    simp only [FX9_verb_L9] at hF
    refine J_iload_n hX dX9_verb_9 3 rfl (t := 10) rfl ?_
    refine J_iload_n hX dX9_verb_10 2 rfl (t := 11) rfl ?_
    refine J_icmp_ge (tgt := 58) hX dX9_verb_11 (by decide) (t := 14) rfl (fun z => ?_) (fun z => ?_)
    · replace hF := it_t hF z
      refine J_gsV hX 0 (by decide) q_993 dX9_verb_58 (t := 61) rfl ?_
      replace hF := Option.some.inj hF
      subst hF
      exact J_aret hX hR hlk dX9_verb_61
    · replace hF := it_f hF z
      refine J_aload_n hX dX9_verb_14 1 rfl (t := 15) rfl ?_
      refine J_iload_n hX dX9_verb_15 3 rfl (t := 16) rfl ?_
      obtain ⟨g1, hF⟩ := gd_e hF
      refine J_vbald hX g1 dX9_verb_16 (t := 17) rfl ?_
      refine J_astore (lc2 := [(4, .ref (ga G l3.toNatClampNeg)), (0, .ref (adr G 10 0)), (1, .ref (ga G 40)), (2, .int l2), (3, .int l3)]) hX dX9_verb_17 (Nat.le_of_ble_eq_true rfl) rfl (t := 19) rfl ?_
      refine J_aload_n hX dX9_verb_19 1 rfl (t := 20) rfl ?_
      refine J_get hX cb7 kText 1 (by decide) q_185 rfl dX9_verb_20 (t := 23) rfl ?_
      refine J_aload_n hX dX9_verb_23 1 rfl (t := 24) rfl ?_
      refine J_get hX cb7 kText 5 (by decide) q_189 rfl dX9_verb_24 (t := 27) rfl ?_
      obtain ⟨g2, hF⟩ := gd_e hF
      refine J_iald hX kKinds g2 rfl dX9_verb_27 (t := 28) rfl ?_
      refine J_iconst (v := 1) hX dX9_verb_28 (by decide) (t := 29) rfl ?_
      refine J_icmp_ne (tgt := 52) hX dX9_verb_29 (by decide) (t := 32) rfl (fun z => ?_) (fun z => ?_)
      · replace hF := it_f hF z
        refine J_iinc (v := l3 + 1) (lc2 := [(3, .int (l3 + 1)), (4, .ref (ga G l3.toNatClampNeg)), (0, .ref (adr G 10 0)), (1, .ref (ga G 40)), (2, .int l2)]) hX dX9_verb_52 4 rfl rfl (Nat.le_of_ble_eq_true rfl) rfl (t := 55) rfl ?_
        refine J_goto (tgt := 9) hX dX9_verb_55 (by decide) ?_
        refine J_sub (lc2 := [(0, .ref (adr G 10 0)), (1, .ref (ga G 40)), (2, .int l2), (3, .int (l3 + 1))]) [2, 3, 4, 0] rfl ?_
        exact ih w l2 (l3 + 1) hF
      · replace hF := it_t hF z
        refine J_aload hX dX9_verb_32 0 rfl (t := 34) rfl ?_
        refine J_aload_n hX dX9_verb_34 1 rfl (t := 35) rfl ?_
        refine J_get hX cb7 kText 3 (by decide) q_187 rfl dX9_verb_35 (t := 38) rfl ?_
        refine J_aload_n hX dX9_verb_38 1 rfl (t := 39) rfl ?_
        refine J_get hX cb7 kText 5 (by decide) q_189 rfl dX9_verb_39 (t := 42) rfl ?_
        obtain ⟨g3, hF⟩ := gd_e hF
        refine J_lald hX kValues g3 rfl dX9_verb_42 (t := 43) rfl ?_
        obtain ⟨x5, h4, hF⟩ := bo1_e hF
        have k6 := (ctX11_isSpelled (G := G) (l := l) w l3.toNatClampNeg ((w 10).2 4 (((w 10).1 0 5).toNatClampNeg)) (inb_lt g1) n h4)
        refine J_callO hX [.long ((w 10).2 4 (((w 10).1 0 5).toNatClampNeg))] [] [.int (bI x5)] k6 miX11_isSpelled mvX11_isSpelled (hX.2.2.2.2.2.2.1.1.1 _ (inb_lt g1)).2.1 q_939 ⟨rfl, rfl, Nat.le_of_ble_eq_true rfl, Nat.le_of_ble_eq_true rfl⟩ rfl rfl (Nat.le_of_ble_eq_true rfl) ⟨Nat.le_of_ble_eq_true rfl, Nat.le_of_ble_eq_true rfl⟩ dX9_verb_43 (t := 46) rfl rfl ?_
        refine J_ifZ_eq (tgt := 52) hX dX9_verb_46 (by decide) (t := 49) rfl (fun z => ?_) (fun z => ?_)
        · replace hF := ib_f hF z
          refine J_iinc (v := l3 + 1) (lc2 := [(3, .int (l3 + 1)), (4, .ref (ga G l3.toNatClampNeg)), (0, .ref (adr G 10 0)), (1, .ref (ga G 40)), (2, .int l2)]) hX dX9_verb_52 4 rfl rfl (Nat.le_of_ble_eq_true rfl) rfl (t := 55) rfl ?_
          refine J_goto (tgt := 9) hX dX9_verb_55 (by decide) ?_
          refine J_sub (lc2 := [(0, .ref (adr G 10 0)), (1, .ref (ga G 40)), (2, .int l2), (3, .int (l3 + 1))]) [2, 3, 4, 0] rfl ?_
          exact ih w l2 (l3 + 1) hF
        · replace hF := it_t hF z
          refine J_aload hX dX9_verb_49 0 rfl (t := 51) rfl ?_
          replace hF := Option.some.inj hF
          subst hF
          exact J_aret hX hR hlk dX9_verb_51
def FX9_verb (n : Nat) (w : Wd)  : Option (Nat) :=
  FX9_verb_L9 n n w 12 0
set_option maxHeartbeats 4000000 in
set_option maxRecDepth 100000 in
theorem ctX9_verb {G : GG} {l : Launch} (w : Wd)   (n : Nat) {rx : Nat} (hF : FX9_verb n w  = some rx) : CT G l yX9_verb cX9_verb 5 (some (.object RX11)) rmX9_verb 0 0 [.ref (adr G 10 0)] w (some (.ref (ga G rx))) w := by
  refine CT.of miX9_verb [(0, .ref (adr G 10 0))] rfl (Nat.le_of_ble_eq_true rfl) ?_
  intro p e s m args below meth c hX hR hlk
  have hX : FX G RX9 cX9_verb 5 p s m args c := hX
  unfold FX9_verb at hF
  refine J_gsVB hX ⟨rfl, rfl⟩ dX9_verb_0 (t := 3) rfl ?_
  refine J_astore_n (lc2 := [(1, .ref (ga G 40)), (0, .ref (adr G 10 0))]) hX dX9_verb_3 rfl (Nat.le_of_ble_eq_true rfl) rfl (t := 4) rfl ?_
  refine J_aload_n hX dX9_verb_4 0 rfl (t := 5) rfl ?_
  refine J_tlen hX hX.2.2.2.2.2.2.1.2.2.2.2.2.1 rfl dX9_verb_5 (t := 6) rfl ?_
  refine J_istore_n (lc2 := [(2, .int 12), (1, .ref (ga G 40)), (0, .ref (adr G 10 0))]) hX dX9_verb_6 rfl (Nat.le_of_ble_eq_true rfl) rfl (t := 7) rfl ?_
  refine J_iconst (v := 0) hX dX9_verb_7 (by decide) (t := 8) rfl ?_
  refine J_istore_n (lc2 := [(3, .int 0), (2, .int 12), (1, .ref (ga G 40)), (0, .ref (adr G 10 0))]) hX dX9_verb_8 rfl (Nat.le_of_ble_eq_true rfl) rfl (t := 9) rfl ?_
  refine J_sub (lc2 := [(0, .ref (adr G 10 0)), (1, .ref (ga G 40)), (2, .int 12), (3, .int 0)]) [3, 2, 1, 0] rfl ?_
  exact LX9_verb_9 hX hR hlk n n w 12 0 hF
abbrev rmX3_readStatement : Room := { frames := 6, cells := 0, slots := 0, locals := 248 }
theorem miX3_readStatement : MI yX3_readStatement cX3_readStatement 3 none 2 := ⟨q_1025, q_142, by decide +kernel, by decide +kernel, by decide +kernel, by decide +kernel⟩
theorem mvX3_readStatement : MV yX3_readStatement := ⟨q_1024, q_7⟩
def FX3_readStatement_B94 (n : Nat) (w : Wd) (l2 : Nat) (y0 : Bool) : Option (Wd) :=
  bo1 (FX9_failIf w y0 5) fun w17 =>
  bnd (FX9_skip w17) fun w20 =>
  gd (decide (((w20 11).1 1 0).toNatClampNeg < 12)) <|
  gd (inb (nI (((w20 11).1 1 0).toNatClampNeg)) 12) <|
  bnd (swMap.getD ((nI (((w20 11).1 1 0).toNatClampNeg)).toNatClampNeg) 0) fun s24 =>
  if s24 = 1 then
    bo1 (FX3_readShout n w20 l2) fun w27 =>
    some w27
  else if s24 = 2 then
    bo2 (FX9_takeValley n w20 l2) fun x30 w31 =>
    bnd (sW w31 11 (sI (w31 11) 1 3 x30)) fun w33 =>
    bo2 (FX9_takeNumber w33 0 9) fun x36 w37 =>
    bnd (sW w37 11 (sI (w37 11) 1 4 x36)) fun w39 =>
    some w39
  else if s24 = 3 then
    bo2 (FX9_takeValley n w20 l2) fun x42 w43 =>
    bnd (sW w43 11 (sI (w43 11) 1 3 x42)) fun w45 =>
    bo2 (FX9_takeNumber w45 1 99) fun x48 w49 =>
    bnd (sW w49 11 (sI (w49 11) 1 4 x48)) fun w51 =>
    some w51
  else if s24 = 4 then
    bo2 (FX9_takeNumber w20 0 20) fun x54 w55 =>
    bnd (sW w55 11 (sI (w55 11) 1 4 x54)) fun w57 =>
    some w57
  else if s24 = 5 then
    bo1 (FX3_readPass w20 l2) fun w60 =>
    some w60
  else if s24 = 6 then
    bo1 (FX3_readValley n w20 l2) fun w63 =>
    some w63
  else if s24 = 7 then
    bo1 (FX3_readCustomer n w20 l2) fun w66 =>
    some w66
  else if s24 = 8 then
    bo1 (FX3_readFake w20 l2) fun w69 =>
    some w69
  else 
    some w20
set_option maxHeartbeats 4000000 in
set_option maxRecDepth 100000 in
theorem BX3_readStatement_94 {G : GG} {l : Launch} {p : Program} {e : Env} {s : State} {m : MethodId} {args : Array Value} {below : List Frame} {meth : Method} {c : Code} (hX : FX G RX3 cX3_readStatement 3 p s m args c) (hR : meth.sig.returnType = none) (hlk : meth.locks = false) {rw : Wd} (n : Nat) (w : Wd) (l2 : Nat) (y0 : Bool) (hl2 : 1 ≤ l2 ∧ l2 ≤ 9) (hF : FX3_readStatement_B94 n w l2 y0 = some rw) : J G p l e rmX3_readStatement s m args below meth c 3 0 0 (MQ below (QV G (none) rw) args s 0 0 (gA G)) (GH G w) 94 [(0, .ref (adr G 11 0)), (1, .ref (adr G 10 0)), (2, .ref (adr G l2 0))] [.int (bI y0), .ref (adr G 10 0)] := by
  unfold FX3_readStatement_B94 at hF
  refine J_iconst (v := 5) hX dX3_readStatement_94 (by decide) (t := 95) rfl ?_
  obtain ⟨w17, h16, hF⟩ := bo1_e hF
  have k18 := (ctX9_failIf (G := G) (l := l) w y0 5 h16)
  refine J_callV hX [.int (bI y0), .int 5] [] [] k18 miX9_failIf mvX9_failIf cb7 kText q_996 ⟨rfl, rfl, Nat.le_of_ble_eq_true rfl, Nat.le_of_ble_eq_true rfl⟩ rfl rfl (Nat.le_of_ble_eq_true rfl) ⟨Nat.le_of_ble_eq_true rfl, Nat.le_of_ble_eq_true rfl⟩ dX3_readStatement_95 (t := 98) rfl rfl ?_
  refine J_aload_n hX dX3_readStatement_98 1 rfl (t := 99) rfl ?_
  obtain ⟨w20, h19, hF⟩ := bnd_e hF
  have k21 := (ctX9_skip (G := G) (l := l) w17  h19)
  refine J_callV hX [] [] [] k21 miX9_skip mvX9_skip cb7 kText q_1000 ⟨rfl, rfl, Nat.le_of_ble_eq_true rfl, Nat.le_of_ble_eq_true rfl⟩ rfl rfl (Nat.le_of_ble_eq_true rfl) ⟨Nat.le_of_ble_eq_true rfl, Nat.le_of_ble_eq_true rfl⟩ dX3_readStatement_99 (t := 102) rfl rfl ?_
  refine J_gsS hX q_1030 dX3_readStatement_102 (t := 105) rfl ?_
  refine J_aload_n hX dX3_readStatement_105 0 rfl (t := 106) rfl ?_
  refine J_get hX cb2 kDescription 0 (by decide) q_475 rfl dX3_readStatement_106 (t := 109) rfl ?_
  obtain ⟨g22, hF⟩ := gd_e hF
  refine J_get hX cb0 kChange0 0 (by decide) q_442 rfl dX3_readStatement_109 (t := 112) rfl ?_
  refine J_ord hX (of_decide_eq_true g22) q_1032 ⟨Nat.le_of_ble_eq_true rfl, Nat.le_of_ble_eq_true rfl, Nat.le_of_ble_eq_true rfl, Nat.le_of_ble_eq_true rfl⟩ (Nat.le_of_ble_eq_true rfl) dX3_readStatement_112 (t := 115) rfl ?_
  obtain ⟨g23, hF⟩ := gd_e hF
  refine J_swald hX g23 dX3_readStatement_115 (t := 116) rfl ?_
  obtain ⟨s24, e25, hF⟩ := bnd_e hF
  refine J_val e25 ?_
  by_cases z1 : s24 = 1
  · replace hF := it_t hF z1
    refine J_tabIn (k := 1) (tgt := 182) hX dX3_readStatement_116 z1 (by decide) (by decide) rfl (by decide) ?_
    refine J_aload_n hX dX3_readStatement_182 0 rfl (t := 183) rfl ?_
    refine J_aload_n hX dX3_readStatement_183 1 rfl (t := 184) rfl ?_
    refine J_aload_n hX dX3_readStatement_184 2 rfl (t := 185) rfl ?_
    obtain ⟨w27, h26, hF⟩ := bo1_e hF
    have k28 := (ctX3_readShout (G := G) (l := l) w20 l2 hl2 n h26)
    refine J_callV hX [.ref (adr G 10 0), .ref (adr G l2 0)] [] [] k28 miX3_readShout mvX3_readShout cb2 kDescription q_1069 ⟨rfl, rfl, Nat.le_of_ble_eq_true rfl, Nat.le_of_ble_eq_true rfl⟩ rfl rfl (Nat.le_of_ble_eq_true rfl) ⟨Nat.le_of_ble_eq_true rfl, Nat.le_of_ble_eq_true rfl⟩ dX3_readStatement_185 (t := 188) rfl rfl ?_
    refine J_goto (tgt := 284) hX dX3_readStatement_188 (by decide) ?_
    replace hF := Option.some.inj hF
    subst hF
    exact J_vret hX hR hlk dX3_readStatement_284
  · replace hF := it_f hF z1
    by_cases z2 : s24 = 2
    · replace hF := it_t hF z2
      refine J_tabIn (k := 2) (tgt := 191) hX dX3_readStatement_116 z2 (by decide) (by decide) rfl (by decide) ?_
      refine J_aload_n hX dX3_readStatement_191 0 rfl (t := 192) rfl ?_
      refine J_get hX cb2 kDescription 0 (by decide) q_475 rfl dX3_readStatement_192 (t := 195) rfl ?_
      refine J_aload_n hX dX3_readStatement_195 1 rfl (t := 196) rfl ?_
      refine J_aload_n hX dX3_readStatement_196 2 rfl (t := 197) rfl ?_
      obtain ⟨x30, w31, h29, hF⟩ := bo2_e hF
      have k32 := (ctX9_takeValley (G := G) (l := l) w20 l2 hl2 n h29)
      refine J_callV hX [.ref (adr G l2 0)] [.ref (adr G 11 1)] [.int x30, .ref (adr G 11 1)] k32 miX9_takeValley mvX9_takeValley cb7 kText q_1082 ⟨rfl, rfl, Nat.le_of_ble_eq_true rfl, Nat.le_of_ble_eq_true rfl⟩ rfl rfl (Nat.le_of_ble_eq_true rfl) ⟨Nat.le_of_ble_eq_true rfl, Nat.le_of_ble_eq_true rfl⟩ dX3_readStatement_197 (t := 200) rfl rfl ?_
      obtain ⟨w33, e34, hF⟩ := bnd_e hF
      refine J_puti hX cb0 kChange0 3 (by decide) q_450 rfl rfl e34 (fun _ _ => Nat.le_of_ble_eq_true rfl) (fun _ _ => rfl) dX3_readStatement_200 (t := 203) rfl ?_
      refine J_aload_n hX dX3_readStatement_203 0 rfl (t := 204) rfl ?_
      refine J_get hX cb2 kDescription 0 (by decide) q_475 rfl dX3_readStatement_204 (t := 207) rfl ?_
      refine J_aload_n hX dX3_readStatement_207 1 rfl (t := 208) rfl ?_
      refine J_iconst (v := 0) hX dX3_readStatement_208 (by decide) (t := 209) rfl ?_
      refine J_bipush (v := 9) hX dX3_readStatement_209 (by decide) (t := 211) rfl ?_
      obtain ⟨x36, w37, h35, hF⟩ := bo2_e hF
      have k38 := (ctX9_takeNumber (G := G) (l := l) w33 0 9 h35)
      refine J_callV hX [.int 0, .int 9] [.ref (adr G 11 1)] [.int x36, .ref (adr G 11 1)] k38 miX9_takeNumber mvX9_takeNumber cb7 kText q_1052 ⟨rfl, rfl, Nat.le_of_ble_eq_true rfl, Nat.le_of_ble_eq_true rfl⟩ rfl rfl (Nat.le_of_ble_eq_true rfl) ⟨Nat.le_of_ble_eq_true rfl, Nat.le_of_ble_eq_true rfl⟩ dX3_readStatement_211 (t := 214) rfl rfl ?_
      obtain ⟨w39, e40, hF⟩ := bnd_e hF
      refine J_puti hX cb0 kChange0 4 (by decide) q_453 rfl rfl e40 (fun _ _ => Nat.le_of_ble_eq_true rfl) (fun _ _ => rfl) dX3_readStatement_214 (t := 217) rfl ?_
      refine J_goto (tgt := 284) hX dX3_readStatement_217 (by decide) ?_
      replace hF := Option.some.inj hF
      subst hF
      exact J_vret hX hR hlk dX3_readStatement_284
    · replace hF := it_f hF z2
      by_cases z3 : s24 = 3
      · replace hF := it_t hF z3
        refine J_tabIn (k := 3) (tgt := 220) hX dX3_readStatement_116 z3 (by decide) (by decide) rfl (by decide) ?_
        refine J_aload_n hX dX3_readStatement_220 0 rfl (t := 221) rfl ?_
        refine J_get hX cb2 kDescription 0 (by decide) q_475 rfl dX3_readStatement_221 (t := 224) rfl ?_
        refine J_aload_n hX dX3_readStatement_224 1 rfl (t := 225) rfl ?_
        refine J_aload_n hX dX3_readStatement_225 2 rfl (t := 226) rfl ?_
        obtain ⟨x42, w43, h41, hF⟩ := bo2_e hF
        have k44 := (ctX9_takeValley (G := G) (l := l) w20 l2 hl2 n h41)
        refine J_callV hX [.ref (adr G l2 0)] [.ref (adr G 11 1)] [.int x42, .ref (adr G 11 1)] k44 miX9_takeValley mvX9_takeValley cb7 kText q_1082 ⟨rfl, rfl, Nat.le_of_ble_eq_true rfl, Nat.le_of_ble_eq_true rfl⟩ rfl rfl (Nat.le_of_ble_eq_true rfl) ⟨Nat.le_of_ble_eq_true rfl, Nat.le_of_ble_eq_true rfl⟩ dX3_readStatement_226 (t := 229) rfl rfl ?_
        obtain ⟨w45, e46, hF⟩ := bnd_e hF
        refine J_puti hX cb0 kChange0 3 (by decide) q_450 rfl rfl e46 (fun _ _ => Nat.le_of_ble_eq_true rfl) (fun _ _ => rfl) dX3_readStatement_229 (t := 232) rfl ?_
        refine J_aload_n hX dX3_readStatement_232 0 rfl (t := 233) rfl ?_
        refine J_get hX cb2 kDescription 0 (by decide) q_475 rfl dX3_readStatement_233 (t := 236) rfl ?_
        refine J_aload_n hX dX3_readStatement_236 1 rfl (t := 237) rfl ?_
        refine J_iconst (v := 1) hX dX3_readStatement_237 (by decide) (t := 238) rfl ?_
        refine J_bipush (v := 99) hX dX3_readStatement_238 (by decide) (t := 240) rfl ?_
        obtain ⟨x48, w49, h47, hF⟩ := bo2_e hF
        have k50 := (ctX9_takeNumber (G := G) (l := l) w45 1 99 h47)
        refine J_callV hX [.int 1, .int 99] [.ref (adr G 11 1)] [.int x48, .ref (adr G 11 1)] k50 miX9_takeNumber mvX9_takeNumber cb7 kText q_1052 ⟨rfl, rfl, Nat.le_of_ble_eq_true rfl, Nat.le_of_ble_eq_true rfl⟩ rfl rfl (Nat.le_of_ble_eq_true rfl) ⟨Nat.le_of_ble_eq_true rfl, Nat.le_of_ble_eq_true rfl⟩ dX3_readStatement_240 (t := 243) rfl rfl ?_
        obtain ⟨w51, e52, hF⟩ := bnd_e hF
        refine J_puti hX cb0 kChange0 4 (by decide) q_453 rfl rfl e52 (fun _ _ => Nat.le_of_ble_eq_true rfl) (fun _ _ => rfl) dX3_readStatement_243 (t := 246) rfl ?_
        refine J_goto (tgt := 284) hX dX3_readStatement_246 (by decide) ?_
        replace hF := Option.some.inj hF
        subst hF
        exact J_vret hX hR hlk dX3_readStatement_284
      · replace hF := it_f hF z3
        by_cases z4 : s24 = 4
        · replace hF := it_t hF z4
          refine J_tabIn (k := 4) (tgt := 249) hX dX3_readStatement_116 z4 (by decide) (by decide) rfl (by decide) ?_
          refine J_aload_n hX dX3_readStatement_249 0 rfl (t := 250) rfl ?_
          refine J_get hX cb2 kDescription 0 (by decide) q_475 rfl dX3_readStatement_250 (t := 253) rfl ?_
          refine J_aload_n hX dX3_readStatement_253 1 rfl (t := 254) rfl ?_
          refine J_iconst (v := 0) hX dX3_readStatement_254 (by decide) (t := 255) rfl ?_
          refine J_bipush (v := 20) hX dX3_readStatement_255 (by decide) (t := 257) rfl ?_
          obtain ⟨x54, w55, h53, hF⟩ := bo2_e hF
          have k56 := (ctX9_takeNumber (G := G) (l := l) w20 0 20 h53)
          refine J_callV hX [.int 0, .int 20] [.ref (adr G 11 1)] [.int x54, .ref (adr G 11 1)] k56 miX9_takeNumber mvX9_takeNumber cb7 kText q_1052 ⟨rfl, rfl, Nat.le_of_ble_eq_true rfl, Nat.le_of_ble_eq_true rfl⟩ rfl rfl (Nat.le_of_ble_eq_true rfl) ⟨Nat.le_of_ble_eq_true rfl, Nat.le_of_ble_eq_true rfl⟩ dX3_readStatement_257 (t := 260) rfl rfl ?_
          obtain ⟨w57, e58, hF⟩ := bnd_e hF
          refine J_puti hX cb0 kChange0 4 (by decide) q_453 rfl rfl e58 (fun _ _ => Nat.le_of_ble_eq_true rfl) (fun _ _ => rfl) dX3_readStatement_260 (t := 263) rfl ?_
          refine J_goto (tgt := 284) hX dX3_readStatement_263 (by decide) ?_
          replace hF := Option.some.inj hF
          subst hF
          exact J_vret hX hR hlk dX3_readStatement_284
        · replace hF := it_f hF z4
          by_cases z5 : s24 = 5
          · replace hF := it_t hF z5
            refine J_tabIn (k := 5) (tgt := 266) hX dX3_readStatement_116 z5 (by decide) (by decide) rfl (by decide) ?_
            refine J_aload_n hX dX3_readStatement_266 0 rfl (t := 267) rfl ?_
            refine J_aload_n hX dX3_readStatement_267 1 rfl (t := 268) rfl ?_
            refine J_aload_n hX dX3_readStatement_268 2 rfl (t := 269) rfl ?_
            obtain ⟨w60, h59, hF⟩ := bo1_e hF
            have k61 := (ctX3_readPass (G := G) (l := l) w20 l2 hl2 h59)
            refine J_callV hX [.ref (adr G 10 0), .ref (adr G l2 0)] [] [] k61 miX3_readPass mvX3_readPass cb2 kDescription q_1100 ⟨rfl, rfl, Nat.le_of_ble_eq_true rfl, Nat.le_of_ble_eq_true rfl⟩ rfl rfl (Nat.le_of_ble_eq_true rfl) ⟨Nat.le_of_ble_eq_true rfl, Nat.le_of_ble_eq_true rfl⟩ dX3_readStatement_269 (t := 272) rfl rfl ?_
            refine J_goto (tgt := 284) hX dX3_readStatement_272 (by decide) ?_
            replace hF := Option.some.inj hF
            subst hF
            exact J_vret hX hR hlk dX3_readStatement_284
          · replace hF := it_f hF z5
            by_cases z6 : s24 = 6
            · replace hF := it_t hF z6
              refine J_tabIn (k := 6) (tgt := 164) hX dX3_readStatement_116 z6 (by decide) (by decide) rfl (by decide) ?_
              refine J_aload_n hX dX3_readStatement_164 0 rfl (t := 165) rfl ?_
              refine J_aload_n hX dX3_readStatement_165 1 rfl (t := 166) rfl ?_
              refine J_aload_n hX dX3_readStatement_166 2 rfl (t := 167) rfl ?_
              obtain ⟨w63, h62, hF⟩ := bo1_e hF
              have k64 := (ctX3_readValley (G := G) (l := l) w20 l2 hl2 n h62)
              refine J_callV hX [.ref (adr G 10 0), .ref (adr G l2 0)] [] [] k64 miX3_readValley mvX3_readValley cb2 kDescription q_1038 ⟨rfl, rfl, Nat.le_of_ble_eq_true rfl, Nat.le_of_ble_eq_true rfl⟩ rfl rfl (Nat.le_of_ble_eq_true rfl) ⟨Nat.le_of_ble_eq_true rfl, Nat.le_of_ble_eq_true rfl⟩ dX3_readStatement_167 (t := 170) rfl rfl ?_
              refine J_goto (tgt := 284) hX dX3_readStatement_170 (by decide) ?_
              replace hF := Option.some.inj hF
              subst hF
              exact J_vret hX hR hlk dX3_readStatement_284
            · replace hF := it_f hF z6
              by_cases z7 : s24 = 7
              · replace hF := it_t hF z7
                refine J_tabIn (k := 7) (tgt := 173) hX dX3_readStatement_116 z7 (by decide) (by decide) rfl (by decide) ?_
                refine J_aload_n hX dX3_readStatement_173 0 rfl (t := 174) rfl ?_
                refine J_aload_n hX dX3_readStatement_174 1 rfl (t := 175) rfl ?_
                refine J_aload_n hX dX3_readStatement_175 2 rfl (t := 176) rfl ?_
                obtain ⟨w66, h65, hF⟩ := bo1_e hF
                have k67 := (ctX3_readCustomer (G := G) (l := l) w20 l2 hl2 n h65)
                refine J_callV hX [.ref (adr G 10 0), .ref (adr G l2 0)] [] [] k67 miX3_readCustomer mvX3_readCustomer cb2 kDescription q_1064 ⟨rfl, rfl, Nat.le_of_ble_eq_true rfl, Nat.le_of_ble_eq_true rfl⟩ rfl rfl (Nat.le_of_ble_eq_true rfl) ⟨Nat.le_of_ble_eq_true rfl, Nat.le_of_ble_eq_true rfl⟩ dX3_readStatement_176 (t := 179) rfl rfl ?_
                refine J_goto (tgt := 284) hX dX3_readStatement_179 (by decide) ?_
                replace hF := Option.some.inj hF
                subst hF
                exact J_vret hX hR hlk dX3_readStatement_284
              · replace hF := it_f hF z7
                by_cases z8 : s24 = 8
                · replace hF := it_t hF z8
                  refine J_tabIn (k := 8) (tgt := 275) hX dX3_readStatement_116 z8 (by decide) (by decide) rfl (by decide) ?_
                  refine J_aload_n hX dX3_readStatement_275 0 rfl (t := 276) rfl ?_
                  refine J_aload_n hX dX3_readStatement_276 1 rfl (t := 277) rfl ?_
                  refine J_aload_n hX dX3_readStatement_277 2 rfl (t := 278) rfl ?_
                  obtain ⟨w69, h68, hF⟩ := bo1_e hF
                  have k70 := (ctX3_readFake (G := G) (l := l) w20 l2 hl2 h68)
                  refine J_callV hX [.ref (adr G 10 0), .ref (adr G l2 0)] [] [] k70 miX3_readFake mvX3_readFake cb2 kDescription q_1118 ⟨rfl, rfl, Nat.le_of_ble_eq_true rfl, Nat.le_of_ble_eq_true rfl⟩ rfl rfl (Nat.le_of_ble_eq_true rfl) ⟨Nat.le_of_ble_eq_true rfl, Nat.le_of_ble_eq_true rfl⟩ dX3_readStatement_278 (t := 281) rfl rfl ?_
                  refine J_goto (tgt := 284) hX dX3_readStatement_281 (by decide) ?_
                  replace hF := Option.some.inj hF
                  subst hF
                  exact J_vret hX hR hlk dX3_readStatement_284
                · replace hF := it_f hF z8
                  refine J_tabOut (tgt := 284) hX dX3_readStatement_116 (tab_out8_1 z1 z2 z3 z4 z5 z6 z7 z8) (by decide) ?_
                  replace hF := Option.some.inj hF
                  subst hF
                  exact J_vret hX hR hlk dX3_readStatement_284
def FX3_readStatement_B93 (n : Nat) (w : Wd) (l2 : Nat) : Option (Wd) :=
  FX3_readStatement_B94 n w l2 false
set_option maxHeartbeats 4000000 in
set_option maxRecDepth 100000 in
theorem BX3_readStatement_93 {G : GG} {l : Launch} {p : Program} {e : Env} {s : State} {m : MethodId} {args : Array Value} {below : List Frame} {meth : Method} {c : Code} (hX : FX G RX3 cX3_readStatement 3 p s m args c) (hR : meth.sig.returnType = none) (hlk : meth.locks = false) {rw : Wd} (n : Nat) (w : Wd) (l2 : Nat) (hl2 : 1 ≤ l2 ∧ l2 ≤ 9) (hF : FX3_readStatement_B93 n w l2 = some rw) : J G p l e rmX3_readStatement s m args below meth c 3 0 0 (MQ below (QV G (none) rw) args s 0 0 (gA G)) (GH G w) 93 [(0, .ref (adr G 11 0)), (1, .ref (adr G 10 0)), (2, .ref (adr G l2 0))] [.ref (adr G 10 0)] := by
  unfold FX3_readStatement_B93 at hF
  refine J_iconst (v := 0) hX dX3_readStatement_93 (by decide) (t := 94) rfl ?_
  refine J_sub (lc2 := [(0, .ref (adr G 11 0)), (1, .ref (adr G 10 0)), (2, .ref (adr G l2 0))]) [0, 1, 2] rfl ?_
  exact BX3_readStatement_94 hX hR hlk n w l2 false hl2 hF
def FX3_readStatement_B62 (n : Nat) (w : Wd) (l2 : Nat) (y0 : Bool) : Option (Wd) :=
  bo1 (FX9_failIf w y0 5) fun w13 =>
  gd (decide (((w13 11).1 1 0).toNatClampNeg < 12)) <|
  if ((w13 11).1 1 0).toNatClampNeg = 3 then
    if (w13 l2).1 0 4 < 8 then
      FX3_readStatement_B93 n w13 l2
    else
      FX3_readStatement_B94 n w13 l2 true
  else
    FX3_readStatement_B93 n w13 l2
set_option maxHeartbeats 4000000 in
set_option maxRecDepth 100000 in
theorem BX3_readStatement_62 {G : GG} {l : Launch} {p : Program} {e : Env} {s : State} {m : MethodId} {args : Array Value} {below : List Frame} {meth : Method} {c : Code} (hX : FX G RX3 cX3_readStatement 3 p s m args c) (hR : meth.sig.returnType = none) (hlk : meth.locks = false) {rw : Wd} (n : Nat) (w : Wd) (l2 : Nat) (y0 : Bool) (hl2 : 1 ≤ l2 ∧ l2 ≤ 9) (hF : FX3_readStatement_B62 n w l2 y0 = some rw) : J G p l e rmX3_readStatement s m args below meth c 3 0 0 (MQ below (QV G (none) rw) args s 0 0 (gA G)) (GH G w) 62 [(0, .ref (adr G 11 0)), (1, .ref (adr G 10 0)), (2, .ref (adr G l2 0))] [.int (bI y0), .ref (adr G 10 0)] := by
  unfold FX3_readStatement_B62 at hF
  refine J_iconst (v := 5) hX dX3_readStatement_62 (by decide) (t := 63) rfl ?_
  obtain ⟨w13, h12, hF⟩ := bo1_e hF
  have k14 := (ctX9_failIf (G := G) (l := l) w y0 5 h12)
  refine J_callV hX [.int (bI y0), .int 5] [] [] k14 miX9_failIf mvX9_failIf cb7 kText q_996 ⟨rfl, rfl, Nat.le_of_ble_eq_true rfl, Nat.le_of_ble_eq_true rfl⟩ rfl rfl (Nat.le_of_ble_eq_true rfl) ⟨Nat.le_of_ble_eq_true rfl, Nat.le_of_ble_eq_true rfl⟩ dX3_readStatement_63 (t := 66) rfl rfl ?_
  refine J_aload_n hX dX3_readStatement_66 1 rfl (t := 67) rfl ?_
  refine J_aload_n hX dX3_readStatement_67 0 rfl (t := 68) rfl ?_
  refine J_get hX cb2 kDescription 0 (by decide) q_475 rfl dX3_readStatement_68 (t := 71) rfl ?_
  obtain ⟨g15, hF⟩ := gd_e hF
  refine J_get hX cb0 kChange0 0 (by decide) q_442 rfl dX3_readStatement_71 (t := 74) rfl ?_
  refine J_gsV hX 3 (by decide) q_1028 dX3_readStatement_74 (t := 77) rfl ?_
  refine J_acmp_ne (tgt := 93) hX dX3_readStatement_77 (by decide) (t := 80) rfl (fun z => ?_) (fun z => ?_)
  · replace hF := it_f hF (fun k => z (by rw [k]))
    refine J_sub (lc2 := [(0, .ref (adr G 11 0)), (1, .ref (adr G 10 0)), (2, .ref (adr G l2 0))]) [0, 1, 2] rfl ?_
    exact BX3_readStatement_93 hX hR hlk n w13 l2 hl2 hF
  · replace hF := it_t hF (hX.verbNe (of_decide_eq_true g15) (by decide) z)
    refine J_aload_n hX dX3_readStatement_80 2 rfl (t := 81) rfl ?_
    refine J_get hX cb4 (kMarket hl2) 4 (by decide) q_381 rfl dX3_readStatement_81 (t := 84) rfl ?_
    refine J_bipush (v := 8) hX dX3_readStatement_84 (by decide) (t := 86) rfl ?_
    refine J_icmp_lt (tgt := 93) hX dX3_readStatement_86 (by decide) (t := 89) rfl (fun z => ?_) (fun z => ?_)
    · replace hF := it_t hF z
      refine J_sub (lc2 := [(0, .ref (adr G 11 0)), (1, .ref (adr G 10 0)), (2, .ref (adr G l2 0))]) [0, 1, 2] rfl ?_
      exact BX3_readStatement_93 hX hR hlk n w13 l2 hl2 hF
    · replace hF := it_f hF z
      refine J_iconst (v := 1) hX dX3_readStatement_89 (by decide) (t := 90) rfl ?_
      refine J_goto (tgt := 94) hX dX3_readStatement_90 (by decide) ?_
      refine J_sub (lc2 := [(0, .ref (adr G 11 0)), (1, .ref (adr G 10 0)), (2, .ref (adr G l2 0))]) [0, 1, 2] rfl ?_
      exact BX3_readStatement_94 hX hR hlk n w13 l2 true hl2 hF
def FX3_readStatement_B61 (n : Nat) (w : Wd) (l2 : Nat) : Option (Wd) :=
  FX3_readStatement_B62 n w l2 false
set_option maxHeartbeats 4000000 in
set_option maxRecDepth 100000 in
theorem BX3_readStatement_61 {G : GG} {l : Launch} {p : Program} {e : Env} {s : State} {m : MethodId} {args : Array Value} {below : List Frame} {meth : Method} {c : Code} (hX : FX G RX3 cX3_readStatement 3 p s m args c) (hR : meth.sig.returnType = none) (hlk : meth.locks = false) {rw : Wd} (n : Nat) (w : Wd) (l2 : Nat) (hl2 : 1 ≤ l2 ∧ l2 ≤ 9) (hF : FX3_readStatement_B61 n w l2 = some rw) : J G p l e rmX3_readStatement s m args below meth c 3 0 0 (MQ below (QV G (none) rw) args s 0 0 (gA G)) (GH G w) 61 [(0, .ref (adr G 11 0)), (1, .ref (adr G 10 0)), (2, .ref (adr G l2 0))] [.ref (adr G 10 0)] := by
  unfold FX3_readStatement_B61 at hF
  refine J_iconst (v := 0) hX dX3_readStatement_61 (by decide) (t := 62) rfl ?_
  refine J_sub (lc2 := [(0, .ref (adr G 11 0)), (1, .ref (adr G 10 0)), (2, .ref (adr G l2 0))]) [0, 1, 2] rfl ?_
  exact BX3_readStatement_62 hX hR hlk n w l2 false hl2 hF
def FX3_readStatement_B30 (n : Nat) (w : Wd) (l2 : Nat) (y0 : Bool) : Option (Wd) :=
  bo1 (FX9_failIf w y0 1) fun w9 =>
  gd (decide (((w9 11).1 1 0).toNatClampNeg < 12)) <|
  if ((w9 11).1 1 0).toNatClampNeg = 2 then
    if (w9 l2).1 0 3 < 8 then
      FX3_readStatement_B61 n w9 l2
    else
      FX3_readStatement_B62 n w9 l2 true
  else
    FX3_readStatement_B61 n w9 l2
set_option maxHeartbeats 4000000 in
set_option maxRecDepth 100000 in
theorem BX3_readStatement_30 {G : GG} {l : Launch} {p : Program} {e : Env} {s : State} {m : MethodId} {args : Array Value} {below : List Frame} {meth : Method} {c : Code} (hX : FX G RX3 cX3_readStatement 3 p s m args c) (hR : meth.sig.returnType = none) (hlk : meth.locks = false) {rw : Wd} (n : Nat) (w : Wd) (l2 : Nat) (y0 : Bool) (hl2 : 1 ≤ l2 ∧ l2 ≤ 9) (hF : FX3_readStatement_B30 n w l2 y0 = some rw) : J G p l e rmX3_readStatement s m args below meth c 3 0 0 (MQ below (QV G (none) rw) args s 0 0 (gA G)) (GH G w) 30 [(0, .ref (adr G 11 0)), (1, .ref (adr G 10 0)), (2, .ref (adr G l2 0))] [.int (bI y0), .ref (adr G 10 0)] := by
  unfold FX3_readStatement_B30 at hF
  refine J_iconst (v := 1) hX dX3_readStatement_30 (by decide) (t := 31) rfl ?_
  obtain ⟨w9, h8, hF⟩ := bo1_e hF
  have k10 := (ctX9_failIf (G := G) (l := l) w y0 1 h8)
  refine J_callV hX [.int (bI y0), .int 1] [] [] k10 miX9_failIf mvX9_failIf cb7 kText q_996 ⟨rfl, rfl, Nat.le_of_ble_eq_true rfl, Nat.le_of_ble_eq_true rfl⟩ rfl rfl (Nat.le_of_ble_eq_true rfl) ⟨Nat.le_of_ble_eq_true rfl, Nat.le_of_ble_eq_true rfl⟩ dX3_readStatement_31 (t := 34) rfl rfl ?_
  refine J_aload_n hX dX3_readStatement_34 1 rfl (t := 35) rfl ?_
  refine J_aload_n hX dX3_readStatement_35 0 rfl (t := 36) rfl ?_
  refine J_get hX cb2 kDescription 0 (by decide) q_475 rfl dX3_readStatement_36 (t := 39) rfl ?_
  obtain ⟨g11, hF⟩ := gd_e hF
  refine J_get hX cb0 kChange0 0 (by decide) q_442 rfl dX3_readStatement_39 (t := 42) rfl ?_
  refine J_gsV hX 2 (by decide) q_1026 dX3_readStatement_42 (t := 45) rfl ?_
  refine J_acmp_ne (tgt := 61) hX dX3_readStatement_45 (by decide) (t := 48) rfl (fun z => ?_) (fun z => ?_)
  · replace hF := it_f hF (fun k => z (by rw [k]))
    refine J_sub (lc2 := [(0, .ref (adr G 11 0)), (1, .ref (adr G 10 0)), (2, .ref (adr G l2 0))]) [0, 1, 2] rfl ?_
    exact BX3_readStatement_61 hX hR hlk n w9 l2 hl2 hF
  · replace hF := it_t hF (hX.verbNe (of_decide_eq_true g11) (by decide) z)
    refine J_aload_n hX dX3_readStatement_48 2 rfl (t := 49) rfl ?_
    refine J_get hX cb4 (kMarket hl2) 3 (by decide) q_378 rfl dX3_readStatement_49 (t := 52) rfl ?_
    refine J_bipush (v := 8) hX dX3_readStatement_52 (by decide) (t := 54) rfl ?_
    refine J_icmp_lt (tgt := 61) hX dX3_readStatement_54 (by decide) (t := 57) rfl (fun z => ?_) (fun z => ?_)
    · replace hF := it_t hF z
      refine J_sub (lc2 := [(0, .ref (adr G 11 0)), (1, .ref (adr G 10 0)), (2, .ref (adr G l2 0))]) [0, 1, 2] rfl ?_
      exact BX3_readStatement_61 hX hR hlk n w9 l2 hl2 hF
    · replace hF := it_f hF z
      refine J_iconst (v := 1) hX dX3_readStatement_57 (by decide) (t := 58) rfl ?_
      refine J_goto (tgt := 62) hX dX3_readStatement_58 (by decide) ?_
      refine J_sub (lc2 := [(0, .ref (adr G 11 0)), (1, .ref (adr G 10 0)), (2, .ref (adr G l2 0))]) [0, 1, 2] rfl ?_
      exact BX3_readStatement_62 hX hR hlk n w9 l2 true hl2 hF
def FX3_readStatement (n : Nat) (w : Wd) (r2 : Nat) : Option (Wd) :=
  bo1 (FX9_verb n w) fun x2 =>
  gd (decide (x2 < 12)) <|
  bnd (sW w 11 (sI (w 11) 1 0 (nI x2))) fun w5 =>
  gd (decide (((w5 11).1 1 0).toNatClampNeg < 12)) <|
  if (enD (((w5 11).1 1 0).toNatClampNeg)) = true then
    FX3_readStatement_B30 n w5 r2 false
  else
    FX3_readStatement_B30 n w5 r2 true
set_option maxHeartbeats 4000000 in
set_option maxRecDepth 100000 in
theorem ctX3_readStatement {G : GG} {l : Launch} (w : Wd) (r2 : Nat) (hr2 : 1 ≤ r2 ∧ r2 ≤ 9) (n : Nat) {rw : Wd} (hF : FX3_readStatement n w r2 = some rw) : CT G l yX3_readStatement cX3_readStatement 3 none rmX3_readStatement 0 0 [.ref (adr G 11 0), .ref (adr G 10 0), .ref (adr G r2 0)] w (none) rw := by
  refine CT.of miX3_readStatement [(0, .ref (adr G 11 0)), (1, .ref (adr G 10 0)), (2, .ref (adr G r2 0))] rfl (Nat.le_of_ble_eq_true rfl) ?_
  intro p e s m args below meth c hX hR hlk
  have hX : FX G RX3 cX3_readStatement 3 p s m args c := hX
  unfold FX3_readStatement at hF
  refine J_aload_n hX dX3_readStatement_0 0 rfl (t := 1) rfl ?_
  refine J_get hX cb2 kDescription 0 (by decide) q_475 rfl dX3_readStatement_1 (t := 4) rfl ?_
  refine J_aload_n hX dX3_readStatement_4 1 rfl (t := 5) rfl ?_
  obtain ⟨x2, h1, hF⟩ := bo1_e hF
  have k3 := (ctX9_verb (G := G) (l := l) w  n h1)
  refine J_callV hX [] [.ref (adr G 11 1)] [.ref (ga G x2), .ref (adr G 11 1)] k3 miX9_verb mvX9_verb cb7 kText q_933 ⟨rfl, rfl, Nat.le_of_ble_eq_true rfl, Nat.le_of_ble_eq_true rfl⟩ rfl rfl (Nat.le_of_ble_eq_true rfl) ⟨Nat.le_of_ble_eq_true rfl, Nat.le_of_ble_eq_true rfl⟩ dX3_readStatement_5 (t := 8) rfl rfl ?_
  obtain ⟨g4, hF⟩ := gd_e hF
  obtain ⟨w5, e6, hF⟩ := bnd_e hF
  refine J_putE hX kChange0 q_442 (of_decide_eq_true g4) e6 dX3_readStatement_8 (t := 11) rfl ?_
  refine J_aload_n hX dX3_readStatement_11 1 rfl (t := 12) rfl ?_
  refine J_aload_n hX dX3_readStatement_12 0 rfl (t := 13) rfl ?_
  refine J_get hX cb2 kDescription 0 (by decide) q_475 rfl dX3_readStatement_13 (t := 16) rfl ?_
  obtain ⟨g7, hF⟩ := gd_e hF
  refine J_get hX cb0 kChange0 0 (by decide) q_442 rfl dX3_readStatement_16 (t := 19) rfl ?_
  refine J_getVI hX (of_decide_eq_true g7) ("EchoMarket$Verb", "inDescriptions", "Z", [0, 0, 1, 1, 1, 1, 1, 1, 1, 1, 0, 0]) (List.mem_cons_of_mem _ List.mem_cons_self) q_2844 (enD_e _ (of_decide_eq_true g7)) dX3_readStatement_19 (t := 22) rfl ?_
  refine J_ifZ_ne (tgt := 29) hX dX3_readStatement_22 (by decide) (t := 25) rfl (fun z => ?_) (fun z => ?_)
  · replace hF := it_t hF z
    refine J_iconst (v := 0) hX dX3_readStatement_29 (by decide) (t := 30) rfl ?_
    refine J_sub (lc2 := [(0, .ref (adr G 11 0)), (1, .ref (adr G 10 0)), (2, .ref (adr G r2 0))]) [0, 1, 2] rfl ?_
    exact BX3_readStatement_30 hX hR hlk n w5 r2 false hr2 hF
  · replace hF := ib_f hF z
    refine J_iconst (v := 1) hX dX3_readStatement_25 (by decide) (t := 26) rfl ?_
    refine J_goto (tgt := 30) hX dX3_readStatement_26 (by decide) ?_
    refine J_sub (lc2 := [(0, .ref (adr G 11 0)), (1, .ref (adr G 10 0)), (2, .ref (adr G r2 0))]) [0, 1, 2] rfl ?_
    exact BX3_readStatement_30 hX hR hlk n w5 r2 true hr2 hF
abbrev rmX3_read : Room := { frames := 7, cells := 0, slots := 0, locals := 270 }
theorem miX3_read : MI yX3_read cX3_read 4 (some .boolean) 2 := ⟨q_903, q_142, by decide +kernel, by decide +kernel, by decide +kernel, by decide +kernel⟩
theorem mvX3_read : MV yX3_read := ⟨q_901, q_902⟩
def FX3_read_B87 (n : Nat) (w : Wd)  : Option (Bool × Wd) :=
  bnd (FX9_hasFailed w) fun x23 =>
  if x23 = true then
    some (false, w)
  else
    some (true, w)
set_option maxHeartbeats 4000000 in
set_option maxRecDepth 100000 in
theorem BX3_read_87 {G : GG} {l : Launch} {p : Program} {e : Env} {s : State} {m : MethodId} {args : Array Value} {below : List Frame} {meth : Method} {c : Code} (hX : FX G RX3 cX3_read 4 p s m args c) (hR : meth.sig.returnType = (some .boolean)) (hlk : meth.locks = false) {rx : Bool} {rw : Wd} (n : Nat) (w : Wd)   (hF : FX3_read_B87 n w  = some (rx, rw)) : J G p l e rmX3_read s m args below meth c 4 0 0 (MQ below (QV G (some (.int (bI rx))) rw) args s 0 0 (gA G)) (GH G w) 87 [(1, .ref (adr G 10 0))] [] := by
  unfold FX3_read_B87 at hF
  refine J_aload_n hX dX3_read_87 0 rfl (t := 88) rfl ?_
  obtain ⟨x23, h22, hF⟩ := bnd_e hF
  have k24 := (ctX9_hasFailed (G := G) (l := l) w  h22)
  refine J_callV hX [] [] [.int (bI x23)] k24 miX9_hasFailed mvX9_hasFailed cb7 kText q_1088 ⟨rfl, rfl, Nat.le_of_ble_eq_true rfl, Nat.le_of_ble_eq_true rfl⟩ rfl rfl (Nat.le_of_ble_eq_true rfl) ⟨Nat.le_of_ble_eq_true rfl, Nat.le_of_ble_eq_true rfl⟩ dX3_read_88 (t := 91) rfl rfl ?_
  refine J_ifZ_ne (tgt := 98) hX dX3_read_91 (by decide) (t := 94) rfl (fun z => ?_) (fun z => ?_)
  · replace hF := it_t hF z
    refine J_iconst (v := 0) hX dX3_read_98 (by decide) (t := 99) rfl ?_
    replace hF := Option.some.inj hF
    obtain ⟨hF, hF2⟩ := Prod.mk.inj hF
    subst hF
    subst hF2
    exact J_zret (b := false) hX hR hlk dX3_read_99
  · replace hF := ib_f hF z
    refine J_iconst (v := 1) hX dX3_read_94 (by decide) (t := 95) rfl ?_
    refine J_goto (tgt := 99) hX dX3_read_95 (by decide) ?_
    replace hF := Option.some.inj hF
    obtain ⟨hF, hF2⟩ := Prod.mk.inj hF
    subst hF
    subst hF2
    exact J_zret (b := true) hX hR hlk dX3_read_99
def FX3_read_L40 (n : Nat) : Nat → Wd → Nat → Int32 → Option (Bool × Wd)
  | 0 => fun _ _ _ => none
  | k + 1 => fun w l2 l3 =>
    if 600 ≤ l3 then
      FX3_read_B87 n w
    else
      bo1 (FX9_hasMore w) fun x26 =>
      if x26 = true then
        bo1 (FX3_readStatement n w l2) fun w29 =>
        bo1 (FX9_takeSign w29 59) fun w32 =>
        bnd (FX9_hasFailed w32) fun x35 =>
        if x35 = true then
          FX3_read_L40 n k w32 l2 (l3 + 1)
        else
          bo1 (FX1_applyTo n w32 11 1 l2) fun w38 =>
          FX3_read_L40 n k w38 l2 (l3 + 1)
      else
        FX3_read_B87 n w
set_option maxHeartbeats 4000000 in
set_option maxRecDepth 100000 in
theorem LX3_read_40 {G : GG} {l : Launch} {p : Program} {e : Env} {s : State} {m : MethodId} {args : Array Value} {below : List Frame} {meth : Method} {c : Code} (hX : FX G RX3 cX3_read 4 p s m args c) (hR : meth.sig.returnType = (some .boolean)) (hlk : meth.locks = false) {rx : Bool} {rw : Wd} (n : Nat) : ∀ (k : Nat) (w : Wd) (l2 : Nat) (l3 : Int32) (hl2 : 1 ≤ l2 ∧ l2 ≤ 9), FX3_read_L40 n k w l2 l3 = some (rx, rw) → J G p l e rmX3_read s m args below meth c 4 0 0 (MQ below (QV G (some (.int (bI rx))) rw) args s 0 0 (gA G)) (GH G w) 40 [(0, .ref (adr G 11 0)), (1, .ref (adr G 10 0)), (2, .ref (adr G l2 0)), (3, .int l3)] [] := by
  intro k
  induction k with
  | zero => intro w l2 l3 hl2 hF; cases hF
  | succ k ih =>
    intro w l2 l3 hl2 hF
    simp only [FX3_read_L40] at hF
    refine J_iload_n hX dX3_read_40 3 rfl (t := 41) rfl ?_
    refine J_sipush (v := 600) hX dX3_read_41 (by decide) (t := 44) rfl ?_
    refine J_icmp_ge (tgt := 87) hX dX3_read_44 (by decide) (t := 47) rfl (fun z => ?_) (fun z => ?_)
    · replace hF := it_t hF z
      refine J_sub (lc2 := [(1, .ref (adr G 10 0))]) [1] rfl ?_
      exact BX3_read_87 hX hR hlk n w  hF
    · replace hF := it_f hF z
      refine J_aload_n hX dX3_read_47 1 rfl (t := 48) rfl ?_
      obtain ⟨x26, h25, hF⟩ := bo1_e hF
      have k27 := (ctX9_hasMore (G := G) (l := l) w  h25)
      refine J_callV hX [] [] [.int (bI x26)] k27 miX9_hasMore mvX9_hasMore cb7 kText q_1018 ⟨rfl, rfl, Nat.le_of_ble_eq_true rfl, Nat.le_of_ble_eq_true rfl⟩ rfl rfl (Nat.le_of_ble_eq_true rfl) ⟨Nat.le_of_ble_eq_true rfl, Nat.le_of_ble_eq_true rfl⟩ dX3_read_48 (t := 51) rfl rfl ?_
      refine J_ifZ_eq (tgt := 87) hX dX3_read_51 (by decide) (t := 54) rfl (fun z => ?_) (fun z => ?_)
      · replace hF := ib_f hF z
        refine J_sub (lc2 := [(1, .ref (adr G 10 0))]) [1] rfl ?_
        exact BX3_read_87 hX hR hlk n w  hF
      · replace hF := it_t hF z
        refine J_aload_n hX dX3_read_54 0 rfl (t := 55) rfl ?_
        refine J_aload_n hX dX3_read_55 1 rfl (t := 56) rfl ?_
        refine J_aload_n hX dX3_read_56 2 rfl (t := 57) rfl ?_
        obtain ⟨w29, h28, hF⟩ := bo1_e hF
        have k30 := (ctX3_readStatement (G := G) (l := l) w l2 hl2 n h28)
        refine J_callV hX [.ref (adr G 10 0), .ref (adr G l2 0)] [] [] k30 miX3_readStatement mvX3_readStatement cb2 kDescription q_1022 ⟨rfl, rfl, Nat.le_of_ble_eq_true rfl, Nat.le_of_ble_eq_true rfl⟩ rfl rfl (Nat.le_of_ble_eq_true rfl) ⟨Nat.le_of_ble_eq_true rfl, Nat.le_of_ble_eq_true rfl⟩ dX3_read_57 (t := 60) rfl rfl ?_
        refine J_aload_n hX dX3_read_60 1 rfl (t := 61) rfl ?_
        refine J_bipush (v := 59) hX dX3_read_61 (by decide) (t := 63) rfl ?_
        obtain ⟨w32, h31, hF⟩ := bo1_e hF
        have k33 := (ctX9_takeSign (G := G) (l := l) w29 59 h31)
        refine J_callV hX [.int 59] [] [] k33 miX9_takeSign mvX9_takeSign cb7 kText q_1004 ⟨rfl, rfl, Nat.le_of_ble_eq_true rfl, Nat.le_of_ble_eq_true rfl⟩ rfl rfl (Nat.le_of_ble_eq_true rfl) ⟨Nat.le_of_ble_eq_true rfl, Nat.le_of_ble_eq_true rfl⟩ dX3_read_63 (t := 66) rfl rfl ?_
        refine J_aload_n hX dX3_read_66 1 rfl (t := 67) rfl ?_
        obtain ⟨x35, h34, hF⟩ := bnd_e hF
        have k36 := (ctX9_hasFailed (G := G) (l := l) w32  h34)
        refine J_callV hX [] [] [.int (bI x35)] k36 miX9_hasFailed mvX9_hasFailed cb7 kText q_1088 ⟨rfl, rfl, Nat.le_of_ble_eq_true rfl, Nat.le_of_ble_eq_true rfl⟩ rfl rfl (Nat.le_of_ble_eq_true rfl) ⟨Nat.le_of_ble_eq_true rfl, Nat.le_of_ble_eq_true rfl⟩ dX3_read_67 (t := 70) rfl rfl ?_
        refine J_ifZ_ne (tgt := 81) hX dX3_read_70 (by decide) (t := 73) rfl (fun z => ?_) (fun z => ?_)
        · replace hF := it_t hF z
          refine J_iinc (v := l3 + 1) (lc2 := [(3, .int (l3 + 1)), (0, .ref (adr G 11 0)), (1, .ref (adr G 10 0)), (2, .ref (adr G l2 0))]) hX dX3_read_81 3 rfl rfl (Nat.le_of_ble_eq_true rfl) rfl (t := 84) rfl ?_
          refine J_goto (tgt := 40) hX dX3_read_84 (by decide) ?_
          refine J_sub (lc2 := [(0, .ref (adr G 11 0)), (1, .ref (adr G 10 0)), (2, .ref (adr G l2 0)), (3, .int (l3 + 1))]) [1, 2, 3, 0] rfl ?_
          exact ih w32 l2 (l3 + 1) hl2 hF
        · replace hF := ib_f hF z
          refine J_aload_n hX dX3_read_73 0 rfl (t := 74) rfl ?_
          refine J_get hX cb2 kDescription 0 (by decide) q_475 rfl dX3_read_74 (t := 77) rfl ?_
          refine J_aload_n hX dX3_read_77 2 rfl (t := 78) rfl ?_
          obtain ⟨w38, h37, hF⟩ := bo1_e hF
          have k39 := (ctX1_applyTo (G := G) (l := l) w32 11 1 l2 (Or.inl ⟨rfl, rfl⟩) hl2 n h37)
          refine J_callV hX [.ref (adr G l2 0)] [] [] k39 miX1_applyTo mvX1_applyTo cb0 kChange0 q_1132 ⟨rfl, rfl, Nat.le_of_ble_eq_true rfl, Nat.le_of_ble_eq_true rfl⟩ rfl rfl (Nat.le_of_ble_eq_true rfl) ⟨Nat.le_of_ble_eq_true rfl, Nat.le_of_ble_eq_true rfl⟩ dX3_read_78 (t := 81) rfl rfl ?_
          refine J_iinc (v := l3 + 1) (lc2 := [(3, .int (l3 + 1)), (0, .ref (adr G 11 0)), (1, .ref (adr G 10 0)), (2, .ref (adr G l2 0))]) hX dX3_read_81 3 rfl rfl (Nat.le_of_ble_eq_true rfl) rfl (t := 84) rfl ?_
          refine J_goto (tgt := 40) hX dX3_read_84 (by decide) ?_
          refine J_sub (lc2 := [(0, .ref (adr G 11 0)), (1, .ref (adr G 10 0)), (2, .ref (adr G l2 0)), (3, .int (l3 + 1))]) [1, 2, 3, 0] rfl ?_
          exact ih w38 l2 (l3 + 1) hl2 hF
def FX3_read_B24 (n : Nat) (w : Wd) (l2 : Nat) (y0 : Bool) : Option (Bool × Wd) :=
  bo1 (FX9_failIf w y0 1) fun w14 =>
  bnd (FX9_skip w14) fun w17 =>
  bo1 (FX9_takeSign w17 59) fun w20 =>
  FX3_read_L40 n n w20 l2 0
set_option maxHeartbeats 4000000 in
set_option maxRecDepth 100000 in
theorem BX3_read_24 {G : GG} {l : Launch} {p : Program} {e : Env} {s : State} {m : MethodId} {args : Array Value} {below : List Frame} {meth : Method} {c : Code} (hX : FX G RX3 cX3_read 4 p s m args c) (hR : meth.sig.returnType = (some .boolean)) (hlk : meth.locks = false) {rx : Bool} {rw : Wd} (n : Nat) (w : Wd) (l2 : Nat) (y0 : Bool) (hl2 : 1 ≤ l2 ∧ l2 ≤ 9) (hF : FX3_read_B24 n w l2 y0 = some (rx, rw)) : J G p l e rmX3_read s m args below meth c 4 0 0 (MQ below (QV G (some (.int (bI rx))) rw) args s 0 0 (gA G)) (GH G w) 24 [(0, .ref (adr G 11 0)), (1, .ref (adr G 10 0)), (2, .ref (adr G l2 0))] [.int (bI y0), .ref (adr G 10 0)] := by
  unfold FX3_read_B24 at hF
  refine J_iconst (v := 1) hX dX3_read_24 (by decide) (t := 25) rfl ?_
  obtain ⟨w14, h13, hF⟩ := bo1_e hF
  have k15 := (ctX9_failIf (G := G) (l := l) w y0 1 h13)
  refine J_callV hX [.int (bI y0), .int 1] [] [] k15 miX9_failIf mvX9_failIf cb7 kText q_996 ⟨rfl, rfl, Nat.le_of_ble_eq_true rfl, Nat.le_of_ble_eq_true rfl⟩ rfl rfl (Nat.le_of_ble_eq_true rfl) ⟨Nat.le_of_ble_eq_true rfl, Nat.le_of_ble_eq_true rfl⟩ dX3_read_25 (t := 28) rfl rfl ?_
  refine J_aload_n hX dX3_read_28 1 rfl (t := 29) rfl ?_
  obtain ⟨w17, h16, hF⟩ := bnd_e hF
  have k18 := (ctX9_skip (G := G) (l := l) w14  h16)
  refine J_callV hX [] [] [] k18 miX9_skip mvX9_skip cb7 kText q_1000 ⟨rfl, rfl, Nat.le_of_ble_eq_true rfl, Nat.le_of_ble_eq_true rfl⟩ rfl rfl (Nat.le_of_ble_eq_true rfl) ⟨Nat.le_of_ble_eq_true rfl, Nat.le_of_ble_eq_true rfl⟩ dX3_read_29 (t := 32) rfl rfl ?_
  refine J_aload_n hX dX3_read_32 1 rfl (t := 33) rfl ?_
  refine J_bipush (v := 59) hX dX3_read_33 (by decide) (t := 35) rfl ?_
  obtain ⟨w20, h19, hF⟩ := bo1_e hF
  have k21 := (ctX9_takeSign (G := G) (l := l) w17 59 h19)
  refine J_callV hX [.int 59] [] [] k21 miX9_takeSign mvX9_takeSign cb7 kText q_1004 ⟨rfl, rfl, Nat.le_of_ble_eq_true rfl, Nat.le_of_ble_eq_true rfl⟩ rfl rfl (Nat.le_of_ble_eq_true rfl) ⟨Nat.le_of_ble_eq_true rfl, Nat.le_of_ble_eq_true rfl⟩ dX3_read_35 (t := 38) rfl rfl ?_
  refine J_iconst (v := 0) hX dX3_read_38 (by decide) (t := 39) rfl ?_
  refine J_istore_n (lc2 := [(3, .int 0), (0, .ref (adr G 11 0)), (1, .ref (adr G 10 0)), (2, .ref (adr G l2 0))]) hX dX3_read_39 rfl (Nat.le_of_ble_eq_true rfl) rfl (t := 40) rfl ?_
  refine J_sub (lc2 := [(0, .ref (adr G 11 0)), (1, .ref (adr G 10 0)), (2, .ref (adr G l2 0)), (3, .int 0)]) [1, 2, 3, 0] rfl ?_
  exact LX3_read_40 hX hR hlk n n w20 l2 0 hl2 hF
def FX3_read (n : Nat) (w : Wd) (r2 : Nat) : Option (Bool × Wd) :=
  bnd (FX6_clear (w r2)) fun M2 =>
  bnd (sW w r2 M2) fun w4 =>
  bo1 (FX9_open n w4) fun w7 =>
  bo1 (FX9_verb n w7) fun x10 =>
  gd (decide (x10 < 12)) <|
  if x10 = 1 then
    FX3_read_B24 n w7 r2 false
  else
    FX3_read_B24 n w7 r2 true
set_option maxHeartbeats 4000000 in
set_option maxRecDepth 100000 in
theorem ctX3_read {G : GG} {l : Launch} (w : Wd) (r2 : Nat) (hr2 : 1 ≤ r2 ∧ r2 ≤ 9) (n : Nat) {rx : Bool} {rw : Wd} (hF : FX3_read n w r2 = some (rx, rw)) : CT G l yX3_read cX3_read 4 (some .boolean) rmX3_read 0 0 [.ref (adr G 11 0), .ref (adr G 10 0), .ref (adr G r2 0)] w (some (.int (bI rx))) rw := by
  refine CT.of miX3_read [(0, .ref (adr G 11 0)), (1, .ref (adr G 10 0)), (2, .ref (adr G r2 0))] rfl (Nat.le_of_ble_eq_true rfl) ?_
  intro p e s m args below meth c hX hR hlk
  have hX : FX G RX3 cX3_read 4 p s m args c := hX
  unfold FX3_read at hF
  refine J_aload_n hX dX3_read_0 2 rfl (t := 1) rfl ?_
  obtain ⟨M2, h1, hF⟩ := bnd_e hF
  have k3 := (CT.self (ctX6_clear (G := G) (l := l) w r2 hr2 (w r2)  h1))
  obtain ⟨w4, e5, hF⟩ := bnd_e hF
  rw [e5] at k3
  refine J_callV hX [] [] [] k3 miX6_clear mvX6_clear cb4 (kMarket hr2) q_904 ⟨rfl, rfl, Nat.le_of_ble_eq_true rfl, Nat.le_of_ble_eq_true rfl⟩ rfl rfl (Nat.le_of_ble_eq_true rfl) ⟨Nat.le_of_ble_eq_true rfl, Nat.le_of_ble_eq_true rfl⟩ dX3_read_1 (t := 4) rfl rfl ?_
  refine J_aload_n hX dX3_read_4 1 rfl (t := 5) rfl ?_
  obtain ⟨w7, h6, hF⟩ := bo1_e hF
  have k8 := (ctX9_open (G := G) (l := l) w4  n h6)
  refine J_callV hX [] [] [] k8 miX9_open mvX9_open cb7 kText q_908 ⟨rfl, rfl, Nat.le_of_ble_eq_true rfl, Nat.le_of_ble_eq_true rfl⟩ rfl rfl (Nat.le_of_ble_eq_true rfl) ⟨Nat.le_of_ble_eq_true rfl, Nat.le_of_ble_eq_true rfl⟩ dX3_read_5 (t := 8) rfl rfl ?_
  refine J_aload_n hX dX3_read_8 1 rfl (t := 9) rfl ?_
  refine J_aload_n hX dX3_read_9 1 rfl (t := 10) rfl ?_
  obtain ⟨x10, h9, hF⟩ := bo1_e hF
  have k11 := (ctX9_verb (G := G) (l := l) w7  n h9)
  refine J_callV hX [] [.ref (adr G 10 0)] [.ref (ga G x10), .ref (adr G 10 0)] k11 miX9_verb mvX9_verb cb7 kText q_933 ⟨rfl, rfl, Nat.le_of_ble_eq_true rfl, Nat.le_of_ble_eq_true rfl⟩ rfl rfl (Nat.le_of_ble_eq_true rfl) ⟨Nat.le_of_ble_eq_true rfl, Nat.le_of_ble_eq_true rfl⟩ dX3_read_10 (t := 13) rfl rfl ?_
  obtain ⟨g12, hF⟩ := gd_e hF
  refine J_gsV hX 1 (by decide) q_994 dX3_read_13 (t := 16) rfl ?_
  refine J_acmp_eq (tgt := 23) hX dX3_read_16 (by decide) (t := 19) rfl (fun z => ?_) (fun z => ?_)
  · replace hF := it_t hF (hX.verbNe (of_decide_eq_true g12) (by decide) z)
    refine J_iconst (v := 0) hX dX3_read_23 (by decide) (t := 24) rfl ?_
    refine J_sub (lc2 := [(0, .ref (adr G 11 0)), (1, .ref (adr G 10 0)), (2, .ref (adr G r2 0))]) [0, 1, 2] rfl ?_
    exact BX3_read_24 hX hR hlk n w7 r2 false hr2 hF
  · replace hF := it_f hF (fun k => z (by rw [k]))
    refine J_iconst (v := 1) hX dX3_read_19 (by decide) (t := 20) rfl ?_
    refine J_goto (tgt := 24) hX dX3_read_20 (by decide) ?_
    refine J_sub (lc2 := [(0, .ref (adr G 11 0)), (1, .ref (adr G 10 0)), (2, .ref (adr G r2 0))]) [0, 1, 2] rfl ?_
    exact BX3_read_24 hX hR hlk n w7 r2 true hr2 hF
def FX7_endRepeat_L51 (n : Nat) (rc27 : Wd → Int32 → Int32 → Option (Wd)) : Nat → Wd → Int32 → Int32 → Int32 → Option (Wd)
  | 0 => fun _ _ _ _ => none
  | k + 1 => fun w l2 l3 l4 =>
    if l2 ≤ l4 then
      rc27 w l2 (l3 + 1)
    else
      gd (inb l4 40) <|
      bo1 (FX7_appendToPlan w ((w 12).1 2 l4.toNatClampNeg)) fun w13 =>
      FX7_endRepeat_L51 n rc27 k w13 l2 l3 (l4 + 1)
def FX7_endRepeat_L27 (n : Nat) : Nat → Wd → Int32 → Int32 → Option (Wd)
  | 0 => fun _ _ _ => none
  | k + 1 => fun w l2 l3 =>
    gd (inb ((w 12).1 0 6) 2) <|
    if (w 12).1 4 (((w 12).1 0 6).toNatClampNeg) ≤ l3 then
      some w
    else
      gd (inb ((w 12).1 0 6) 2) <|
      FX7_endRepeat_L51 n (FX7_endRepeat_L27 n k) n w l2 l3 ((w 12).1 3 (((w 12).1 0 6).toNatClampNeg))
def FX7_endRepeat (n : Nat) (w : Wd)  : Option (Wd) :=
  bnd (FX9_skip w) fun w2 =>
  bo1 (FX9_takeSign w2 59) fun w5 =>
  bnd (sW w5 12 (sI (w5 12) 0 6 (((w5 12).1 0 6) - 1))) fun w7 =>
  FX7_endRepeat_L27 n n w7 ((w7 12).1 0 5) 1
def FX7_readCommand_B62 (n : Nat) (w : Wd) (l2 : Nat) (l3 : Nat) (y0 : Bool) : Option (Wd) :=
  bo1 (FX9_failIf w y0 5) fun w12 =>
  bnd (FX9_skip w12) fun w15 =>
  bnd (FX9_hasFailed w15) fun x18 =>
  if x18 = true then
    some w15
  else
    bnd (sW w15 12 (sI (w15 12) 0 4 (((w15 12).1 0 4) + 1))) fun w20 =>
    if l3 = 11 then
      bo1 (FX7_beginRepeat w20) fun w33 =>
      some w33
    else
      gd (inb ((w15 12).1 0 4) 30) <|
      bnd (sW w20 12 (sI (w20 12) (5 + ((w15 12).1 0 4).toNatClampNeg) 0 (nI l3))) fun w23 =>
      gd (inb ((w15 12).1 0 4) 30) <|
      bo1 (FX7_readChange n w23 l2 12 (5 + ((w15 12).1 0 4).toNatClampNeg)) fun w27 =>
      bo1 (FX7_appendToPlan w27 ((w15 12).1 0 4)) fun w30 =>
      some w30
def FX7_readCommand_B43 (n : Nat) (w : Wd) (l2 : Nat) (l3 : Nat) (y0 : Bool) : Option (Wd) :=
  bo1 (FX9_failIf w y0 3) fun w9 =>
  if (w9 12).1 0 4 < 30 then
    FX7_readCommand_B62 n w9 l2 l3 false
  else
    FX7_readCommand_B62 n w9 l2 l3 true
def FX7_readCommand_B42 (n : Nat) (w : Wd) (l2 : Nat) (l3 : Nat) : Option (Wd) :=
  FX7_readCommand_B43 n w l2 l3 false
def FX7_readCommand_B18 (n : Nat) (w : Wd) (l2 : Nat) (l3 : Nat) (y0 : Bool) : Option (Wd) :=
  bo1 (FX9_failIf w y0 1) fun w6 =>
  if l3 = 11 then
    if (w6 12).1 0 6 < 2 then
      FX7_readCommand_B42 n w6 l2 l3
    else
      FX7_readCommand_B43 n w6 l2 l3 true
  else
    FX7_readCommand_B42 n w6 l2 l3
def FX7_readCommand (n : Nat) (w : Wd) (r2 : Nat) : Option (Wd) :=
  bo1 (FX9_verb n w) fun x2 =>
  gd (decide (x2 < 12)) <|
  if (enS x2) = true then
    FX7_readCommand_B18 n w r2 x2 false
  else
    FX7_readCommand_B18 n w r2 x2 true
def FX7_read_B84 (n : Nat) (w : Wd) (y0 : Bool) : Option (Bool × Wd) :=
  bo1 (FX9_failIf w y0 1) fun w11 =>
  bnd (FX9_hasFailed w11) fun x14 =>
  if x14 = true then
    some (false, w11)
  else
    some (true, w11)
def FX7_read_B71 (n : Nat) (w : Wd)  : Option (Bool × Wd) :=
  if (w 12).1 0 6 ≤ 0 then
    FX7_read_B84 n w false
  else
    FX7_read_B84 n w true
def FX7_read_L21 (n : Nat) : Nat → Wd → Nat → Int32 → Option (Bool × Wd)
  | 0 => fun _ _ _ => none
  | k + 1 => fun w l2 l3 =>
    if 600 ≤ l3 then
      FX7_read_B71 n w
    else
      bo1 (FX9_hasMore w) fun x17 =>
      if x17 = true then
        if (w 12).1 0 6 ≤ 0 then
          bo1 (FX7_readCommand n w l2) fun w20 =>
          FX7_read_L21 n k w20 l2 (l3 + 1)
        else
          bo1 (FX9_isSign w 41) fun x23 =>
          if x23 = true then
            bo1 (FX7_endRepeat n w) fun w29 =>
            FX7_read_L21 n k w29 l2 (l3 + 1)
          else
            bo1 (FX7_readCommand n w l2) fun w26 =>
            FX7_read_L21 n k w26 l2 (l3 + 1)
      else
        FX7_read_B71 n w
def FX7_read (n : Nat) (w : Wd) (r2 : Nat) : Option (Bool × Wd) :=
  bnd (sW w 12 (sI (w 12) 0 4 0)) fun w1 =>
  bnd (sW w1 12 (sI (w1 12) 0 5 0)) fun w3 =>
  bnd (sW w3 12 (sI (w3 12) 0 6 0)) fun w5 =>
  bo1 (FX9_open n w5) fun w8 =>
  FX7_read_L21 n n w8 r2 0
def FX7_execute_L2 (n : Nat) : Nat → Wd → Nat → Int32 → Option (Int32 × Wd)
  | 0 => fun _ _ _ => none
  | k + 1 => fun w l1 l2 =>
    if (w 12).1 0 5 ≤ l2 then
      some ((w 12).1 0 5, w)
    else
      gd (inb l2 40) <|
      gd (inb ((w 12).1 2 l2.toNatClampNeg) 30) <|
      bo1 (FX1_faultIn n w 12 (5 + ((w 12).1 2 l2.toNatClampNeg).toNatClampNeg) l1) fun x4 =>
      gd (decide (x4 < 4)) <|
      if x4 = 0 then
        bo1 (FX1_applyTo n w 12 (5 + ((w 12).1 2 l2.toNatClampNeg).toNatClampNeg) l1) fun w8 =>
        FX7_execute_L2 n k w8 l1 (l2 + 1)
      else
        some (l2, w)
def FX7_execute (n : Nat) (w : Wd) (r1 : Nat) : Option (Int32 × Wd) :=
  FX7_execute_L2 n n w r1 0
