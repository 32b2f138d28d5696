abbrev rmX2_copyFrom : Room := { frames := 0, cells := 0, slots := 0, locals := 0 }
theorem miX2_copyFrom : MI yX2_copyFrom cX2_copyFrom 2 none 1 := ⟨q_776, q_140, by decide +kernel, by decide +kernel, by decide +kernel, by decide +kernel⟩
theorem mvX2_copyFrom : MV yX2_copyFrom := ⟨q_774, q_775⟩
def FX2_copyFrom (M MB : MM) (j0 : Nat) (j1 : Nat) : MM :=
  bnd (sL M j0 0 (MB.2 j1 0)) fun M1 =>
  bnd (sI M1 j0 1 (MB.1 j1 1)) fun M3 =>
  bnd (sI M3 j0 2 (MB.1 j1 2)) fun M5 =>
  bnd (sI M5 j0 3 (MB.1 j1 3)) fun M7 =>
  bnd (sI M7 j0 4 (MB.1 j1 4)) fun M9 =>
  bnd (sI M9 j0 5 (MB.1 j1 5)) fun M11 =>
  bnd (sI M11 j0 6 (MB.1 j1 6)) fun M13 =>
  M13
set_option maxHeartbeats 4000000 in
set_option maxRecDepth 100000 in
theorem ctX2_copyFrom {G : GG} {l : Launch} (w : Wd) (r : Nat) (hr : 1 ≤ r ∧ r ≤ 9) (M : MM) (r1 : Nat) (hr1 : 1 ≤ r1 ∧ r1 ≤ 9) (MB : MM) (hne : r1 ≠ r) (hw2 : w r1 = MB) (j0 : Nat) (j1 : Nat) (hj0 : 12 ≤ j0 ∧ j0 < 20) (hj1 : 12 ≤ j1 ∧ j1 < 20) {rw : MM} (hF : FX2_copyFrom M MB j0 j1 = rw) : CT G l yX2_copyFrom cX2_copyFrom 2 none rmX2_copyFrom 0 0 [.ref (adr G r j0), .ref (adr G r1 j1)] (sW w r M) (none) (sW w r rw) := by
  refine CT.of miX2_copyFrom [(0, .ref (adr G r j0)), (1, .ref (adr G r1 j1))] rfl (Nat.le_of_ble_eq_true rfl) ?_
  intro p e s m args below meth c hX hR hlk
  have hX : FX G RX2 cX2_copyFrom 2 p s m args c := hX
  unfold FX2_copyFrom at hF
  refine J_aload_n hX dX2_copyFrom_0 0 rfl (t := 1) rfl ?_
  refine J_aload_n hX dX2_copyFrom_1 1 rfl (t := 2) rfl ?_
  refine JC_get hX hne hw2 cb1 (kCustomer hr1 hj1) 0 (by decide) q_280 rfl dX2_copyFrom_2 (t := 5) rfl ?_
  obtain ⟨M1, e2, hF⟩ := bnd_e hF
  refine JM_putl hX cb1 (kCustomer hr hj0) 0 (by decide) q_280 rfl rfl e2 (fun _ _ => Nat.le_of_ble_eq_true rfl) (fun _ _ => rfl) dX2_copyFrom_5 (t := 8) rfl ?_
  refine J_aload_n hX dX2_copyFrom_8 0 rfl (t := 9) rfl ?_
  refine J_aload_n hX dX2_copyFrom_9 1 rfl (t := 10) rfl ?_
  refine JC_get hX hne hw2 cb1 (kCustomer hr1 hj1) 1 (by decide) q_283 rfl dX2_copyFrom_10 (t := 13) rfl ?_
  obtain ⟨M3, e4, hF⟩ := bnd_e hF
  refine JM_puti hX cb1 (kCustomer hr hj0) 1 (by decide) q_283 rfl rfl e4 (fun _ _ => Nat.le_of_ble_eq_true rfl) (fun _ _ => rfl) dX2_copyFrom_13 (t := 16) rfl ?_
  refine J_aload_n hX dX2_copyFrom_16 0 rfl (t := 17) rfl ?_
  refine J_aload_n hX dX2_copyFrom_17 1 rfl (t := 18) rfl ?_
  refine JC_get hX hne hw2 cb1 (kCustomer hr1 hj1) 2 (by decide) q_286 rfl dX2_copyFrom_18 (t := 21) rfl ?_
  obtain ⟨M5, e6, hF⟩ := bnd_e hF
  refine JM_puti hX cb1 (kCustomer hr hj0) 2 (by decide) q_286 rfl rfl e6 (fun _ _ => Nat.le_of_ble_eq_true rfl) (fun _ _ => rfl) dX2_copyFrom_21 (t := 24) rfl ?_
  refine J_aload_n hX dX2_copyFrom_24 0 rfl (t := 25) rfl ?_
  refine J_aload_n hX dX2_copyFrom_25 1 rfl (t := 26) rfl ?_
  refine JC_get hX hne hw2 cb1 (kCustomer hr1 hj1) 3 (by decide) q_288 rfl dX2_copyFrom_26 (t := 29) rfl ?_
  obtain ⟨M7, e8, hF⟩ := bnd_e hF
  refine JM_puti hX cb1 (kCustomer hr hj0) 3 (by decide) q_288 rfl rfl e8 (fun _ _ => Nat.le_of_ble_eq_true rfl) (fun _ _ => rfl) dX2_copyFrom_29 (t := 32) rfl ?_
  refine J_aload_n hX dX2_copyFrom_32 0 rfl (t := 33) rfl ?_
  refine J_aload_n hX dX2_copyFrom_33 1 rfl (t := 34) rfl ?_
  refine JC_get hX hne hw2 cb1 (kCustomer hr1 hj1) 4 (by decide) q_291 rfl dX2_copyFrom_34 (t := 37) rfl ?_
  obtain ⟨M9, e10, hF⟩ := bnd_e hF
  refine JM_puti hX cb1 (kCustomer hr hj0) 4 (by decide) q_291 rfl rfl e10 (fun _ _ => Nat.le_of_ble_eq_true rfl) (fun _ _ => rfl) dX2_copyFrom_37 (t := 40) rfl ?_
  refine J_aload_n hX dX2_copyFrom_40 0 rfl (t := 41) rfl ?_
  refine J_aload_n hX dX2_copyFrom_41 1 rfl (t := 42) rfl ?_
  refine JC_get hX hne hw2 cb1 (kCustomer hr1 hj1) 5 (by decide) q_294 rfl dX2_copyFrom_42 (t := 45) rfl ?_
  obtain ⟨M11, e12, hF⟩ := bnd_e hF
  refine JM_puti hX cb1 (kCustomer hr hj0) 5 (by decide) q_294 rfl rfl e12 (fun _ _ => Nat.le_of_ble_eq_true rfl) (fun _ _ => rfl) dX2_copyFrom_45 (t := 48) rfl ?_
  refine J_aload_n hX dX2_copyFrom_48 0 rfl (t := 49) rfl ?_
  refine J_aload_n hX dX2_copyFrom_49 1 rfl (t := 50) rfl ?_
  refine JC_get hX hne hw2 cb1 (kCustomer hr1 hj1) 6 (by decide) q_297 rfl dX2_copyFrom_50 (t := 53) rfl ?_
  obtain ⟨M13, e14, hF⟩ := bnd_e hF
  refine JM_puti hX cb1 (kCustomer hr hj0) 6 (by decide) q_297 rfl rfl e14 (fun _ _ => Nat.le_of_ble_eq_true rfl) (fun _ _ => rfl) dX2_copyFrom_53 (t := 56) rfl ?_
  subst hF
  exact J_vret hX hR hlk dX2_copyFrom_56
abbrev rmX10_copyFrom : Room := { frames := 0, cells := 0, slots := 0, locals := 0 }
theorem miX10_copyFrom : MI yX10_copyFrom cX10_copyFrom 2 none 1 := ⟨q_772, q_139, by decide +kernel, by decide +kernel, by decide +kernel, by decide +kernel⟩
theorem mvX10_copyFrom : MV yX10_copyFrom := ⟨q_770, q_771⟩
def FX10_copyFrom (M MB : MM) (j0 : Nat) (j1 : Nat) : MM :=
  bnd (sL M j0 0 (MB.2 j1 0)) fun M1 =>
  bnd (sI M1 j0 1 (MB.1 j1 1)) fun M3 =>
  bnd (sI M3 j0 2 (MB.1 j1 2)) fun M5 =>
  bnd (sI M5 j0 3 (MB.1 j1 3)) fun M7 =>
  bnd (sI M7 j0 4 (MB.1 j1 4)) fun M9 =>
  bnd (sI M9 j0 5 (MB.1 j1 5)) fun M11 =>
  bnd (sI M11 j0 6 (MB.1 j1 6)) fun M13 =>
  bnd (sI M13 j0 7 (MB.1 j1 7)) fun M15 =>
  M15
set_option maxHeartbeats 4000000 in
set_option maxRecDepth 100000 in
theorem ctX10_copyFrom {G : GG} {l : Launch} (w : Wd) (r : Nat) (hr : 1 ≤ r ∧ r ≤ 9) (M : MM) (r1 : Nat) (hr1 : 1 ≤ r1 ∧ r1 ≤ 9) (MB : MM) (hne : r1 ≠ r) (hw2 : w r1 = MB) (j0 : Nat) (j1 : Nat) (hj0 : 4 ≤ j0 ∧ j0 < 12) (hj1 : 4 ≤ j1 ∧ j1 < 12) {rw : MM} (hF : FX10_copyFrom M MB j0 j1 = rw) : CT G l yX10_copyFrom cX10_copyFrom 2 none rmX10_copyFrom 0 0 [.ref (adr G r j0), .ref (adr G r1 j1)] (sW w r M) (none) (sW w r rw) := by
  refine CT.of miX10_copyFrom [(0, .ref (adr G r j0)), (1, .ref (adr G r1 j1))] rfl (Nat.le_of_ble_eq_true rfl) ?_
  intro p e s m args below meth c hX hR hlk
  have hX : FX G RX10 cX10_copyFrom 2 p s m args c := hX
  unfold FX10_copyFrom at hF
  refine J_aload_n hX dX10_copyFrom_0 0 rfl (t := 1) rfl ?_
  refine J_aload_n hX dX10_copyFrom_1 1 rfl (t := 2) rfl ?_
  refine JC_get hX hne hw2 cb8 (kValley hr1 hj1) 0 (by decide) q_235 rfl dX10_copyFrom_2 (t := 5) rfl ?_
  obtain ⟨M1, e2, hF⟩ := bnd_e hF
  refine JM_putl hX cb8 (kValley hr hj0) 0 (by decide) q_235 rfl rfl e2 (fun _ _ => Nat.le_of_ble_eq_true rfl) (fun _ _ => rfl) dX10_copyFrom_5 (t := 8) rfl ?_
  refine J_aload_n hX dX10_copyFrom_8 0 rfl (t := 9) rfl ?_
  refine J_aload_n hX dX10_copyFrom_9 1 rfl (t := 10) rfl ?_
  refine JC_get hX hne hw2 cb8 (kValley hr1 hj1) 1 (by decide) q_238 rfl dX10_copyFrom_10 (t := 13) rfl ?_
  obtain ⟨M3, e4, hF⟩ := bnd_e hF
  refine JM_puti hX cb8 (kValley hr hj0) 1 (by decide) q_238 rfl rfl e4 (fun _ _ => Nat.le_of_ble_eq_true rfl) (fun _ _ => rfl) dX10_copyFrom_13 (t := 16) rfl ?_
  refine J_aload_n hX dX10_copyFrom_16 0 rfl (t := 17) rfl ?_
  refine J_aload_n hX dX10_copyFrom_17 1 rfl (t := 18) rfl ?_
  refine JC_get hX hne hw2 cb8 (kValley hr1 hj1) 2 (by decide) q_241 rfl dX10_copyFrom_18 (t := 21) rfl ?_
  obtain ⟨M5, e6, hF⟩ := bnd_e hF
  refine JM_puti hX cb8 (kValley hr hj0) 2 (by decide) q_241 rfl rfl e6 (fun _ _ => Nat.le_of_ble_eq_true rfl) (fun _ _ => rfl) dX10_copyFrom_21 (t := 24) rfl ?_
  refine J_aload_n hX dX10_copyFrom_24 0 rfl (t := 25) rfl ?_
  refine J_aload_n hX dX10_copyFrom_25 1 rfl (t := 26) rfl ?_
  refine JC_get hX hne hw2 cb8 (kValley hr1 hj1) 3 (by decide) q_244 rfl dX10_copyFrom_26 (t := 29) rfl ?_
  obtain ⟨M7, e8, hF⟩ := bnd_e hF
  refine JM_puti hX cb8 (kValley hr hj0) 3 (by decide) q_244 rfl rfl e8 (fun _ _ => Nat.le_of_ble_eq_true rfl) (fun _ _ => rfl) dX10_copyFrom_29 (t := 32) rfl ?_
  refine J_aload_n hX dX10_copyFrom_32 0 rfl (t := 33) rfl ?_
  refine J_aload_n hX dX10_copyFrom_33 1 rfl (t := 34) rfl ?_
  refine JC_get hX hne hw2 cb8 (kValley hr1 hj1) 4 (by decide) q_247 rfl dX10_copyFrom_34 (t := 37) rfl ?_
  obtain ⟨M9, e10, hF⟩ := bnd_e hF
  refine JM_puti hX cb8 (kValley hr hj0) 4 (by decide) q_247 rfl rfl e10 (fun _ _ => Nat.le_of_ble_eq_true rfl) (fun _ _ => rfl) dX10_copyFrom_37 (t := 40) rfl ?_
  refine J_aload_n hX dX10_copyFrom_40 0 rfl (t := 41) rfl ?_
  refine J_aload_n hX dX10_copyFrom_41 1 rfl (t := 42) rfl ?_
  refine JC_get hX hne hw2 cb8 (kValley hr1 hj1) 5 (by decide) q_249 rfl dX10_copyFrom_42 (t := 45) rfl ?_
  obtain ⟨M11, e12, hF⟩ := bnd_e hF
  refine JM_puti hX cb8 (kValley hr hj0) 5 (by decide) q_249 rfl rfl e12 (fun _ _ => Nat.le_of_ble_eq_true rfl) (fun _ _ => rfl) dX10_copyFrom_45 (t := 48) rfl ?_
  refine J_aload_n hX dX10_copyFrom_48 0 rfl (t := 49) rfl ?_
  refine J_aload_n hX dX10_copyFrom_49 1 rfl (t := 50) rfl ?_
  refine JC_get hX hne hw2 cb8 (kValley hr1 hj1) 6 (by decide) q_252 rfl dX10_copyFrom_50 (t := 53) rfl ?_
  obtain ⟨M13, e14, hF⟩ := bnd_e hF
  refine JM_puti hX cb8 (kValley hr hj0) 6 (by decide) q_252 rfl rfl e14 (fun _ _ => Nat.le_of_ble_eq_true rfl) (fun _ _ => rfl) dX10_copyFrom_53 (t := 56) rfl ?_
  refine J_aload_n hX dX10_copyFrom_56 0 rfl (t := 57) rfl ?_
  refine J_aload_n hX dX10_copyFrom_57 1 rfl (t := 58) rfl ?_
  refine JC_get hX hne hw2 cb8 (kValley hr1 hj1) 7 (by decide) q_255 rfl dX10_copyFrom_58 (t := 61) rfl ?_
  obtain ⟨M15, e16, hF⟩ := bnd_e hF
  refine JM_puti hX cb8 (kValley hr hj0) 7 (by decide) q_255 rfl rfl e16 (fun _ _ => Nat.le_of_ble_eq_true rfl) (fun _ _ => rfl) dX10_copyFrom_61 (t := 64) rfl ?_
  subst hF
  exact J_vret hX hR hlk dX10_copyFrom_64
abbrev rmX8_copyFrom : Room := { frames := 0, cells := 0, slots := 0, locals := 0 }
theorem miX8_copyFrom : MI yX8_copyFrom cX8_copyFrom 2 none 1 := ⟨q_780, q_141, by decide +kernel, by decide +kernel, by decide +kernel, by decide +kernel⟩
theorem mvX8_copyFrom : MV yX8_copyFrom := ⟨q_778, q_779⟩
def FX8_copyFrom (M MB : MM) (j0 : Nat) (j1 : Nat) : MM :=
  bnd (sI M j0 0 (MB.1 j1 0)) fun M1 =>
  bnd (sI M1 j0 1 (MB.1 j1 1)) fun M3 =>
  bnd (sI M3 j0 2 (MB.1 j1 2)) fun M5 =>
  bnd (sI M5 j0 3 (MB.1 j1 3)) fun M7 =>
  bnd (sI M7 j0 4 (MB.1 j1 4)) fun M9 =>
  bnd (sI M9 j0 5 (MB.1 j1 5)) fun M11 =>
  bnd (sI M11 j0 6 (MB.1 j1 6)) fun M13 =>
  bnd (sI M13 j0 7 (MB.1 j1 7)) fun M15 =>
  bnd (sI M15 j0 8 (MB.1 j1 8)) fun M17 =>
  bnd (sI M17 j0 9 (MB.1 j1 9)) fun M19 =>
  bnd (sI M19 j0 10 (MB.1 j1 10)) fun M21 =>
  M21
set_option maxHeartbeats 4000000 in
set_option maxRecDepth 100000 in
theorem ctX8_copyFrom {G : GG} {l : Launch} (w : Wd) (r : Nat) (hr : 1 ≤ r ∧ r ≤ 9) (M : MM) (r1 : Nat) (hr1 : 1 ≤ r1 ∧ r1 ≤ 9) (MB : MM) (hne : r1 ≠ r) (hw2 : w r1 = MB) (j0 : Nat) (j1 : Nat) (hj0 : 20 ≤ j0 ∧ j0 < 50) (hj1 : 20 ≤ j1 ∧ j1 < 50) {rw : MM} (hF : FX8_copyFrom M MB j0 j1 = rw) : CT G l yX8_copyFrom cX8_copyFrom 2 none rmX8_copyFrom 0 0 [.ref (adr G r j0), .ref (adr G r1 j1)] (sW w r M) (none) (sW w r rw) := by
  refine CT.of miX8_copyFrom [(0, .ref (adr G r j0)), (1, .ref (adr G r1 j1))] rfl (Nat.le_of_ble_eq_true rfl) ?_
  intro p e s m args below meth c hX hR hlk
  have hX : FX G RX8 cX8_copyFrom 2 p s m args c := hX
  unfold FX8_copyFrom at hF
  refine J_aload_n hX dX8_copyFrom_0 0 rfl (t := 1) rfl ?_
  refine J_aload_n hX dX8_copyFrom_1 1 rfl (t := 2) rfl ?_
  refine JC_get hX hne hw2 cb6 (kShout hr1 hj1) 0 (by decide) q_320 rfl dX8_copyFrom_2 (t := 5) rfl ?_
  obtain ⟨M1, e2, hF⟩ := bnd_e hF
  refine JM_puti hX cb6 (kShout hr hj0) 0 (by decide) q_320 rfl rfl e2 (fun _ _ => Nat.le_of_ble_eq_true rfl) (fun _ _ => rfl) dX8_copyFrom_5 (t := 8) rfl ?_
  refine J_aload_n hX dX8_copyFrom_8 0 rfl (t := 9) rfl ?_
  refine J_aload_n hX dX8_copyFrom_9 1 rfl (t := 10) rfl ?_
  refine JC_get hX hne hw2 cb6 (kShout hr1 hj1) 1 (by decide) q_323 rfl dX8_copyFrom_10 (t := 13) rfl ?_
  obtain ⟨M3, e4, hF⟩ := bnd_e hF
  refine JM_puti hX cb6 (kShout hr hj0) 1 (by decide) q_323 rfl rfl e4 (fun _ _ => Nat.le_of_ble_eq_true rfl) (fun _ _ => rfl) dX8_copyFrom_13 (t := 16) rfl ?_
  refine J_aload_n hX dX8_copyFrom_16 0 rfl (t := 17) rfl ?_
  refine J_aload_n hX dX8_copyFrom_17 1 rfl (t := 18) rfl ?_
  refine JC_get hX hne hw2 cb6 (kShout hr1 hj1) 2 (by decide) q_326 rfl dX8_copyFrom_18 (t := 21) rfl ?_
  obtain ⟨M5, e6, hF⟩ := bnd_e hF
  refine JM_puti hX cb6 (kShout hr hj0) 2 (by decide) q_326 rfl rfl e6 (fun _ _ => Nat.le_of_ble_eq_true rfl) (fun _ _ => rfl) dX8_copyFrom_21 (t := 24) rfl ?_
  refine J_aload_n hX dX8_copyFrom_24 0 rfl (t := 25) rfl ?_
  refine J_aload_n hX dX8_copyFrom_25 1 rfl (t := 26) rfl ?_
  refine JC_get hX hne hw2 cb6 (kShout hr1 hj1) 3 (by decide) q_328 rfl dX8_copyFrom_26 (t := 29) rfl ?_
  obtain ⟨M7, e8, hF⟩ := bnd_e hF
  refine JM_puti hX cb6 (kShout hr hj0) 3 (by decide) q_328 rfl rfl e8 (fun _ _ => Nat.le_of_ble_eq_true rfl) (fun _ _ => rfl) dX8_copyFrom_29 (t := 32) rfl ?_
  refine J_aload_n hX dX8_copyFrom_32 0 rfl (t := 33) rfl ?_
  refine J_aload_n hX dX8_copyFrom_33 1 rfl (t := 34) rfl ?_
  refine JC_get hX hne hw2 cb6 (kShout hr1 hj1) 4 (by decide) q_331 rfl dX8_copyFrom_34 (t := 37) rfl ?_
  obtain ⟨M9, e10, hF⟩ := bnd_e hF
  refine JM_puti hX cb6 (kShout hr hj0) 4 (by decide) q_331 rfl rfl e10 (fun _ _ => Nat.le_of_ble_eq_true rfl) (fun _ _ => rfl) dX8_copyFrom_37 (t := 40) rfl ?_
  refine J_aload_n hX dX8_copyFrom_40 0 rfl (t := 41) rfl ?_
  refine J_aload_n hX dX8_copyFrom_41 1 rfl (t := 42) rfl ?_
  refine JC_get hX hne hw2 cb6 (kShout hr1 hj1) 5 (by decide) q_333 rfl dX8_copyFrom_42 (t := 45) rfl ?_
  obtain ⟨M11, e12, hF⟩ := bnd_e hF
  refine JM_puti hX cb6 (kShout hr hj0) 5 (by decide) q_333 rfl rfl e12 (fun _ _ => Nat.le_of_ble_eq_true rfl) (fun _ _ => rfl) dX8_copyFrom_45 (t := 48) rfl ?_
  refine J_aload_n hX dX8_copyFrom_48 0 rfl (t := 49) rfl ?_
  refine J_aload_n hX dX8_copyFrom_49 1 rfl (t := 50) rfl ?_
  refine JC_get hX hne hw2 cb6 (kShout hr1 hj1) 6 (by decide) q_335 rfl dX8_copyFrom_50 (t := 53) rfl ?_
  obtain ⟨M13, e14, hF⟩ := bnd_e hF
  refine JM_puti hX cb6 (kShout hr hj0) 6 (by decide) q_335 rfl rfl e14 (fun _ _ => Nat.le_of_ble_eq_true rfl) (fun _ _ => rfl) dX8_copyFrom_53 (t := 56) rfl ?_
  refine J_aload_n hX dX8_copyFrom_56 0 rfl (t := 57) rfl ?_
  refine J_aload_n hX dX8_copyFrom_57 1 rfl (t := 58) rfl ?_
  refine JC_get hX hne hw2 cb6 (kShout hr1 hj1) 7 (by decide) q_337 rfl dX8_copyFrom_58 (t := 61) rfl ?_
  obtain ⟨M15, e16, hF⟩ := bnd_e hF
  refine JM_puti hX cb6 (kShout hr hj0) 7 (by decide) q_337 rfl rfl e16 (fun _ _ => Nat.le_of_ble_eq_true rfl) (fun _ _ => rfl) dX8_copyFrom_61 (t := 64) rfl ?_
  refine J_aload_n hX dX8_copyFrom_64 0 rfl (t := 65) rfl ?_
  refine J_aload_n hX dX8_copyFrom_65 1 rfl (t := 66) rfl ?_
  refine JC_get hX hne hw2 cb6 (kShout hr1 hj1) 8 (by decide) q_340 rfl dX8_copyFrom_66 (t := 69) rfl ?_
  obtain ⟨M17, e18, hF⟩ := bnd_e hF
  refine JM_puti hX cb6 (kShout hr hj0) 8 (by decide) q_340 rfl rfl e18 (fun _ _ => Nat.le_of_ble_eq_true rfl) (fun _ _ => rfl) dX8_copyFrom_69 (t := 72) rfl ?_
  refine J_aload_n hX dX8_copyFrom_72 0 rfl (t := 73) rfl ?_
  refine J_aload_n hX dX8_copyFrom_73 1 rfl (t := 74) rfl ?_
  refine JC_get hX hne hw2 cb6 (kShout hr1 hj1) 9 (by decide) q_343 rfl dX8_copyFrom_74 (t := 77) rfl ?_
  obtain ⟨M19, e20, hF⟩ := bnd_e hF
  refine JM_puti hX cb6 (kShout hr hj0) 9 (by decide) q_343 rfl rfl e20 (fun _ _ => Nat.le_of_ble_eq_true rfl) (fun _ _ => rfl) dX8_copyFrom_77 (t := 80) rfl ?_
  refine J_aload_n hX dX8_copyFrom_80 0 rfl (t := 81) rfl ?_
  refine J_aload_n hX dX8_copyFrom_81 1 rfl (t := 82) rfl ?_
  refine JC_get hX hne hw2 cb6 (kShout hr1 hj1) 10 (by decide) q_346 rfl dX8_copyFrom_82 (t := 85) rfl ?_
  obtain ⟨M21, e22, hF⟩ := bnd_e hF
  refine JM_puti hX cb6 (kShout hr hj0) 10 (by decide) q_346 rfl rfl e22 (fun _ _ => Nat.le_of_ble_eq_true rfl) (fun _ _ => rfl) dX8_copyFrom_85 (t := 88) rfl ?_
  subst hF
  exact J_vret hX hR hlk dX8_copyFrom_88
abbrev rmX6_copyFrom : Room := { frames := 1, cells := 0, slots := 0, locals := 21 }
theorem miX6_copyFrom : MI yX6_copyFrom cX6_copyFrom 3 none 1 := ⟨q_768, q_138, by decide +kernel, by decide +kernel, by decide +kernel, by decide +kernel⟩
theorem mvX6_copyFrom : MV yX6_copyFrom := ⟨q_766, q_767⟩
def FX6_copyFrom_L144 (n : Nat) (MB : MM) : Nat → MM → Int32 → Option (MM)
  | 0 => fun _ _ => none
  | k + 1 => fun M l2 =>
    if M.1 0 5 ≤ l2 then
      some M
    else
      gd (inb l2 30) <|
      gd (inb l2 30) <|
      bnd (FX8_copyFrom M MB (20 + l2.toNatClampNeg) (20 + l2.toNatClampNeg)) fun M24 =>
      FX6_copyFrom_L144 n MB k M24 (l2 + 1)
set_option maxHeartbeats 4000000 in
set_option maxRecDepth 100000 in
theorem LX6_copyFrom_144 {G : GG} {l : Launch} (w : Wd) (r : Nat) (hr : 1 ≤ r ∧ r ≤ 9) (r1 : Nat) (hr1 : 1 ≤ r1 ∧ r1 ≤ 9) (MB : MM) (hne : r1 ≠ r) (hw2 : w r1 = MB) {p : Program} {e : Env} {s : State} {m : MethodId} {args : Array Value} {below : List Frame} {meth : Method} {c : Code} (hX : FX G RX6 cX6_copyFrom 3 p s m args c) (hR : meth.sig.returnType = none) (hlk : meth.locks = false) {rw : MM} (n : Nat) : ∀ (k : Nat) (M : MM) (l2 : Int32) , FX6_copyFrom_L144 n MB k M l2 = some rw → J G p l e rmX6_copyFrom s m args below meth c 3 0 0 (MQ below (QV G (none) (sW w r rw)) args s 0 0 (gA G)) (GH G (sW w r M)) 144 [(0, .ref (adr G r 0)), (1, .ref (adr G r1 0)), (2, .int l2)] [] := by
  intro k
  induction k with
  | zero => intro M l2  hF; cases hF
  | succ k ih =>
    intro M l2  hF
    simp only [FX6_copyFrom_L144] at hF
    refine J_iload_n hX dX6_copyFrom_144 2 rfl (t := 145) rfl ?_
    refine J_aload_n hX dX6_copyFrom_145 0 rfl (t := 146) rfl ?_
    refine JM_get hX cb4 (kMarket hr) 5 (by decide) q_383 rfl dX6_copyFrom_146 (t := 149) rfl ?_
    refine J_icmp_ge (tgt := 173) hX dX6_copyFrom_149 (by decide) (t := 152) rfl (fun z => ?_) (fun z => ?_)
    · replace hF := it_t hF z
      replace hF := Option.some.inj hF
      subst hF
      exact J_vret hX hR hlk dX6_copyFrom_173
    · replace hF := it_f hF z
      refine J_aload_n hX dX6_copyFrom_152 0 rfl (t := 153) rfl ?_
      refine JM_get hX cb4 (kMarket hr) 2 (by decide) q_375 rfl dX6_copyFrom_153 (t := 156) rfl ?_
      refine J_iload_n hX dX6_copyFrom_156 2 rfl (t := 157) rfl ?_
      obtain ⟨g21, hF⟩ := gd_e hF
      refine J_aald (k := 5) hX (kShouts hr) rfl g21 dX6_copyFrom_157 (t := 158) rfl ?_
      refine J_aload_n hX dX6_copyFrom_158 1 rfl (t := 159) rfl ?_
      refine JC_get hX hne hw2 cb4 (kMarket hr1) 2 (by decide) q_375 rfl dX6_copyFrom_159 (t := 162) rfl ?_
      refine J_iload_n hX dX6_copyFrom_162 2 rfl (t := 163) rfl ?_
      obtain ⟨g22, hF⟩ := gd_e hF
      refine J_aald (k := 5) hX (kShouts hr1) rfl g22 dX6_copyFrom_163 (t := 164) rfl ?_
      obtain ⟨M24, h23, hF⟩ := bnd_e hF
      have k25 := (ctX8_copyFrom (G := G) (l := l) w r hr M r1 hr1 MB hne hw2 (20 + l2.toNatClampNeg) (20 + l2.toNatClampNeg) ⟨Nat.le_add_right 20 _, Nat.add_lt_add_left (inb_lt g21) 20⟩ ⟨Nat.le_add_right 20 _, Nat.add_lt_add_left (inb_lt g22) 20⟩ h23)
      refine J_callV hX [.ref (adr G r1 (20 + l2.toNatClampNeg))] [] [] k25 miX8_copyFrom mvX8_copyFrom cb6 (kShout hr ⟨Nat.le_add_right 20 _, Nat.add_lt_add_left (inb_lt g21) 20⟩) q_777 ⟨rfl, rfl, Nat.le_of_ble_eq_true rfl, Nat.le_of_ble_eq_true rfl⟩ rfl rfl (Nat.le_of_ble_eq_true rfl) ⟨Nat.le_of_ble_eq_true rfl, Nat.le_of_ble_eq_true rfl⟩ dX6_copyFrom_164 (t := 167) rfl rfl ?_
      refine J_iinc (v := l2 + 1) (lc2 := [(2, .int (l2 + 1)), (0, .ref (adr G r 0)), (1, .ref (adr G r1 0))]) hX dX6_copyFrom_167 2 rfl rfl (Nat.le_of_ble_eq_true rfl) rfl (t := 170) rfl ?_
      refine J_goto (tgt := 144) hX dX6_copyFrom_170 (by decide) ?_
      refine J_sub (lc2 := [(0, .ref (adr G r 0)), (1, .ref (adr G r1 0)), (2, .int (l2 + 1))]) [1, 2, 0] rfl ?_
      exact ih M24 (l2 + 1) hF
def FX6_copyFrom_L113 (n : Nat) (MB : MM) : Nat → MM → Int32 → Option (MM)
  | 0 => fun _ _ => none
  | k + 1 => fun M l2 =>
    if M.1 0 4 ≤ l2 then
      FX6_copyFrom_L144 n MB n M 0
    else
      gd (inb l2 8) <|
      gd (inb l2 8) <|
      bnd (FX2_copyFrom M MB (12 + l2.toNatClampNeg) (12 + l2.toNatClampNeg)) fun M29 =>
      FX6_copyFrom_L113 n MB k M29 (l2 + 1)
set_option maxHeartbeats 4000000 in
set_option maxRecDepth 100000 in
theorem LX6_copyFrom_113 {G : GG} {l : Launch} (w : Wd) (r : Nat) (hr : 1 ≤ r ∧ r ≤ 9) (r1 : Nat) (hr1 : 1 ≤ r1 ∧ r1 ≤ 9) (MB : MM) (hne : r1 ≠ r) (hw2 : w r1 = MB) {p : Program} {e : Env} {s : State} {m : MethodId} {args : Array Value} {below : List Frame} {meth : Method} {c : Code} (hX : FX G RX6 cX6_copyFrom 3 p s m args c) (hR : meth.sig.returnType = none) (hlk : meth.locks = false) {rw : MM} (n : Nat) : ∀ (k : Nat) (M : MM) (l2 : Int32) , FX6_copyFrom_L113 n MB k M l2 = some rw → J G p l e rmX6_copyFrom s m args below meth c 3 0 0 (MQ below (QV G (none) (sW w r rw)) args s 0 0 (gA G)) (GH G (sW w r M)) 113 [(0, .ref (adr G r 0)), (1, .ref (adr G r1 0)), (2, .int l2)] [] := by
  intro k
  induction k with
  | zero => intro M l2  hF; cases hF
  | succ k ih =>
    intro M l2  hF
    simp only [FX6_copyFrom_L113] at hF
    refine J_iload_n hX dX6_copyFrom_113 2 rfl (t := 114) rfl ?_
    refine J_aload_n hX dX6_copyFrom_114 0 rfl (t := 115) rfl ?_
    refine JM_get hX cb4 (kMarket hr) 4 (by decide) q_380 rfl dX6_copyFrom_115 (t := 118) rfl ?_
    refine J_icmp_ge (tgt := 142) hX dX6_copyFrom_118 (by decide) (t := 121) rfl (fun z => ?_) (fun z => ?_)
    · replace hF := it_t hF z
      refine J_iconst (v := 0) hX dX6_copyFrom_142 (by decide) (t := 143) rfl ?_
      refine J_istore_n (lc2 := [(2, .int 0), (0, .ref (adr G r 0)), (1, .ref (adr G r1 0))]) hX dX6_copyFrom_143 rfl (Nat.le_of_ble_eq_true rfl) rfl (t := 144) rfl ?_
      refine J_sub (lc2 := [(0, .ref (adr G r 0)), (1, .ref (adr G r1 0)), (2, .int 0)]) [1, 2, 0] rfl ?_
      exact LX6_copyFrom_144 w r hr r1 hr1 MB hne hw2 hX hR hlk n n M 0 hF
    · replace hF := it_f hF z
      refine J_aload_n hX dX6_copyFrom_121 0 rfl (t := 122) rfl ?_
      refine JM_get hX cb4 (kMarket hr) 1 (by decide) q_373 rfl dX6_copyFrom_122 (t := 125) rfl ?_
      refine J_iload_n hX dX6_copyFrom_125 2 rfl (t := 126) rfl ?_
      obtain ⟨g26, hF⟩ := gd_e hF
      refine J_aald (k := 4) hX (kCustomers hr) rfl g26 dX6_copyFrom_126 (t := 127) rfl ?_
      refine J_aload_n hX dX6_copyFrom_127 1 rfl (t := 128) rfl ?_
      refine JC_get hX hne hw2 cb4 (kMarket hr1) 1 (by decide) q_373 rfl dX6_copyFrom_128 (t := 131) rfl ?_
      refine J_iload_n hX dX6_copyFrom_131 2 rfl (t := 132) rfl ?_
      obtain ⟨g27, hF⟩ := gd_e hF
      refine J_aald (k := 4) hX (kCustomers hr1) rfl g27 dX6_copyFrom_132 (t := 133) rfl ?_
      obtain ⟨M29, h28, hF⟩ := bnd_e hF
      have k30 := (ctX2_copyFrom (G := G) (l := l) w r hr M r1 hr1 MB hne hw2 (12 + l2.toNatClampNeg) (12 + l2.toNatClampNeg) ⟨Nat.le_add_right 12 _, Nat.add_lt_add_left (inb_lt g26) 12⟩ ⟨Nat.le_add_right 12 _, Nat.add_lt_add_left (inb_lt g27) 12⟩ h28)
      refine J_callV hX [.ref (adr G r1 (12 + l2.toNatClampNeg))] [] [] k30 miX2_copyFrom mvX2_copyFrom cb1 (kCustomer hr ⟨Nat.le_add_right 12 _, Nat.add_lt_add_left (inb_lt g26) 12⟩) q_773 ⟨rfl, rfl, Nat.le_of_ble_eq_true rfl, Nat.le_of_ble_eq_true rfl⟩ rfl rfl (Nat.le_of_ble_eq_true rfl) ⟨Nat.le_of_ble_eq_true rfl, Nat.le_of_ble_eq_true rfl⟩ dX6_copyFrom_133 (t := 136) rfl rfl ?_
      refine J_iinc (v := l2 + 1) (lc2 := [(2, .int (l2 + 1)), (0, .ref (adr G r 0)), (1, .ref (adr G r1 0))]) hX dX6_copyFrom_136 2 rfl rfl (Nat.le_of_ble_eq_true rfl) rfl (t := 139) rfl ?_
      refine J_goto (tgt := 113) hX dX6_copyFrom_139 (by decide) ?_
      refine J_sub (lc2 := [(0, .ref (adr G r 0)), (1, .ref (adr G r1 0)), (2, .int (l2 + 1))]) [1, 2, 0] rfl ?_
      exact ih M29 (l2 + 1) hF
def FX6_copyFrom_L82 (n : Nat) (MB : MM) : Nat → MM → Int32 → Option (MM)
  | 0 => fun _ _ => none
  | k + 1 => fun M l2 =>
    if M.1 0 3 ≤ l2 then
      FX6_copyFrom_L113 n MB n M 0
    else
      gd (inb l2 8) <|
      gd (inb l2 8) <|
      bnd (FX10_copyFrom M MB (4 + l2.toNatClampNeg) (4 + l2.toNatClampNeg)) fun M34 =>
      FX6_copyFrom_L82 n MB k M34 (l2 + 1)
set_option maxHeartbeats 4000000 in
set_option maxRecDepth 100000 in
theorem LX6_copyFrom_82 {G : GG} {l : Launch} (w : Wd) (r : Nat) (hr : 1 ≤ r ∧ r ≤ 9) (r1 : Nat) (hr1 : 1 ≤ r1 ∧ r1 ≤ 9) (MB : MM) (hne : r1 ≠ r) (hw2 : w r1 = MB) {p : Program} {e : Env} {s : State} {m : MethodId} {args : Array Value} {below : List Frame} {meth : Method} {c : Code} (hX : FX G RX6 cX6_copyFrom 3 p s m args c) (hR : meth.sig.returnType = none) (hlk : meth.locks = false) {rw : MM} (n : Nat) : ∀ (k : Nat) (M : MM) (l2 : Int32) , FX6_copyFrom_L82 n MB k M l2 = some rw → J G p l e rmX6_copyFrom s m args below meth c 3 0 0 (MQ below (QV G (none) (sW w r rw)) args s 0 0 (gA G)) (GH G (sW w r M)) 82 [(0, .ref (adr G r 0)), (1, .ref (adr G r1 0)), (2, .int l2)] [] := by
  intro k
  induction k with
  | zero => intro M l2  hF; cases hF
  | succ k ih =>
    intro M l2  hF
    simp only [FX6_copyFrom_L82] at hF
    refine J_iload_n hX dX6_copyFrom_82 2 rfl (t := 83) rfl ?_
    refine J_aload_n hX dX6_copyFrom_83 0 rfl (t := 84) rfl ?_
    refine JM_get hX cb4 (kMarket hr) 3 (by decide) q_377 rfl dX6_copyFrom_84 (t := 87) rfl ?_
    refine J_icmp_ge (tgt := 111) hX dX6_copyFrom_87 (by decide) (t := 90) rfl (fun z => ?_) (fun z => ?_)
    · replace hF := it_t hF z
      refine J_iconst (v := 0) hX dX6_copyFrom_111 (by decide) (t := 112) rfl ?_
      refine J_istore_n (lc2 := [(2, .int 0), (0, .ref (adr G r 0)), (1, .ref (adr G r1 0))]) hX dX6_copyFrom_112 rfl (Nat.le_of_ble_eq_true rfl) rfl (t := 113) rfl ?_
      refine J_sub (lc2 := [(0, .ref (adr G r 0)), (1, .ref (adr G r1 0)), (2, .int 0)]) [1, 2, 0] rfl ?_
      exact LX6_copyFrom_113 w r hr r1 hr1 MB hne hw2 hX hR hlk n n M 0 hF
    · replace hF := it_f hF z
      refine J_aload_n hX dX6_copyFrom_90 0 rfl (t := 91) rfl ?_
      refine JM_get hX cb4 (kMarket hr) 0 (by decide) q_371 rfl dX6_copyFrom_91 (t := 94) rfl ?_
      refine J_iload_n hX dX6_copyFrom_94 2 rfl (t := 95) rfl ?_
      obtain ⟨g31, hF⟩ := gd_e hF
      refine J_aald (k := 3) hX (kValleys hr) rfl g31 dX6_copyFrom_95 (t := 96) rfl ?_
      refine J_aload_n hX dX6_copyFrom_96 1 rfl (t := 97) rfl ?_
      refine JC_get hX hne hw2 cb4 (kMarket hr1) 0 (by decide) q_371 rfl dX6_copyFrom_97 (t := 100) rfl ?_
      refine J_iload_n hX dX6_copyFrom_100 2 rfl (t := 101) rfl ?_
      obtain ⟨g32, hF⟩ := gd_e hF
      refine J_aald (k := 3) hX (kValleys hr1) rfl g32 dX6_copyFrom_101 (t := 102) rfl ?_
      obtain ⟨M34, h33, hF⟩ := bnd_e hF
      have k35 := (ctX10_copyFrom (G := G) (l := l) w r hr M r1 hr1 MB hne hw2 (4 + l2.toNatClampNeg) (4 + l2.toNatClampNeg) ⟨Nat.le_add_right 4 _, Nat.add_lt_add_left (inb_lt g31) 4⟩ ⟨Nat.le_add_right 4 _, Nat.add_lt_add_left (inb_lt g32) 4⟩ h33)
      refine J_callV hX [.ref (adr G r1 (4 + l2.toNatClampNeg))] [] [] k35 miX10_copyFrom mvX10_copyFrom cb8 (kValley hr ⟨Nat.le_add_right 4 _, Nat.add_lt_add_left (inb_lt g31) 4⟩) q_769 ⟨rfl, rfl, Nat.le_of_ble_eq_true rfl, Nat.le_of_ble_eq_true rfl⟩ rfl rfl (Nat.le_of_ble_eq_true rfl) ⟨Nat.le_of_ble_eq_true rfl, Nat.le_of_ble_eq_true rfl⟩ dX6_copyFrom_102 (t := 105) rfl rfl ?_
      refine J_iinc (v := l2 + 1) (lc2 := [(2, .int (l2 + 1)), (0, .ref (adr G r 0)), (1, .ref (adr G r1 0))]) hX dX6_copyFrom_105 2 rfl rfl (Nat.le_of_ble_eq_true rfl) rfl (t := 108) rfl ?_
      refine J_goto (tgt := 82) hX dX6_copyFrom_108 (by decide) ?_
      refine J_sub (lc2 := [(0, .ref (adr G r 0)), (1, .ref (adr G r1 0)), (2, .int (l2 + 1))]) [1, 2, 0] rfl ?_
      exact ih M34 (l2 + 1) hF
def FX6_copyFrom (n : Nat) (M MB : MM)  : Option (MM) :=
  bnd (sI M 0 3 (MB.1 0 3)) fun M1 =>
  bnd (sI M1 0 4 (MB.1 0 4)) fun M3 =>
  bnd (sI M3 0 5 (MB.1 0 5)) fun M5 =>
  bnd (sI M5 0 6 (MB.1 0 6)) fun M7 =>
  bnd (sI M7 0 7 (MB.1 0 7)) fun M9 =>
  bnd (sI M9 0 8 (MB.1 0 8)) fun M11 =>
  bnd (sI M11 0 9 (MB.1 0 9)) fun M13 =>
  bnd (sI M13 0 10 (MB.1 0 10)) fun M15 =>
  bnd (sI M15 0 11 (MB.1 0 11)) fun M17 =>
  bnd (sI M17 0 12 (MB.1 0 12)) fun M19 =>
  FX6_copyFrom_L82 n MB n M19 0
set_option maxHeartbeats 4000000 in
set_option maxRecDepth 100000 in
theorem ctX6_copyFrom {G : GG} {l : Launch} (w : Wd) (r : Nat) (hr : 1 ≤ r ∧ r ≤ 9) (M : MM) (r1 : Nat) (hr1 : 1 ≤ r1 ∧ r1 ≤ 9) (MB : MM) (hne : r1 ≠ r) (hw2 : w r1 = MB)   (n : Nat) {rw : MM} (hF : FX6_copyFrom n M MB  = some rw) : CT G l yX6_copyFrom cX6_copyFrom 3 none rmX6_copyFrom 0 0 [.ref (adr G r 0), .ref (adr G r1 0)] (sW w r M) (none) (sW w r rw) := by
  refine CT.of miX6_copyFrom [(0, .ref (adr G r 0)), (1, .ref (adr G r1 0))] rfl (Nat.le_of_ble_eq_true rfl) ?_
  intro p e s m args below meth c hX hR hlk
  have hX : FX G RX6 cX6_copyFrom 3 p s m args c := hX
  unfold FX6_copyFrom at hF
  refine J_aload_n hX dX6_copyFrom_0 0 rfl (t := 1) rfl ?_
  refine J_aload_n hX dX6_copyFrom_1 1 rfl (t := 2) rfl ?_
  refine JC_get hX hne hw2 cb4 (kMarket hr1) 3 (by decide) q_377 rfl dX6_copyFrom_2 (t := 5) rfl ?_
  obtain ⟨M1, e2, hF⟩ := bnd_e hF
  refine JM_puti hX cb4 (kMarket hr) 3 (by decide) q_377 rfl rfl e2 (fun _ _ => Nat.le_of_ble_eq_true rfl) (fun _ _ => rfl) dX6_copyFrom_5 (t := 8) rfl ?_
  refine J_aload_n hX dX6_copyFrom_8 0 rfl (t := 9) rfl ?_
  refine J_aload_n hX dX6_copyFrom_9 1 rfl (t := 10) rfl ?_
  refine JC_get hX hne hw2 cb4 (kMarket hr1) 4 (by decide) q_380 rfl dX6_copyFrom_10 (t := 13) rfl ?_
  obtain ⟨M3, e4, hF⟩ := bnd_e hF
  refine JM_puti hX cb4 (kMarket hr) 4 (by decide) q_380 rfl rfl e4 (fun _ _ => Nat.le_of_ble_eq_true rfl) (fun _ _ => rfl) dX6_copyFrom_13 (t := 16) rfl ?_
  refine J_aload_n hX dX6_copyFrom_16 0 rfl (t := 17) rfl ?_
  refine J_aload_n hX dX6_copyFrom_17 1 rfl (t := 18) rfl ?_
  refine JC_get hX hne hw2 cb4 (kMarket hr1) 5 (by decide) q_383 rfl dX6_copyFrom_18 (t := 21) rfl ?_
  obtain ⟨M5, e6, hF⟩ := bnd_e hF
  refine JM_puti hX cb4 (kMarket hr) 5 (by decide) q_383 rfl rfl e6 (fun _ _ => Nat.le_of_ble_eq_true rfl) (fun _ _ => rfl) dX6_copyFrom_21 (t := 24) rfl ?_
  refine J_aload_n hX dX6_copyFrom_24 0 rfl (t := 25) rfl ?_
  refine J_aload_n hX dX6_copyFrom_25 1 rfl (t := 26) rfl ?_
  refine JC_get hX hne hw2 cb4 (kMarket hr1) 6 (by decide) q_386 rfl dX6_copyFrom_26 (t := 29) rfl ?_
  obtain ⟨M7, e8, hF⟩ := bnd_e hF
  refine JM_puti hX cb4 (kMarket hr) 6 (by decide) q_386 rfl rfl e8 (fun _ _ => Nat.le_of_ble_eq_true rfl) (fun _ _ => rfl) dX6_copyFrom_29 (t := 32) rfl ?_
  refine J_aload_n hX dX6_copyFrom_32 0 rfl (t := 33) rfl ?_
  refine J_aload_n hX dX6_copyFrom_33 1 rfl (t := 34) rfl ?_
  refine JC_get hX hne hw2 cb4 (kMarket hr1) 7 (by decide) q_388 rfl dX6_copyFrom_34 (t := 37) rfl ?_
  obtain ⟨M9, e10, hF⟩ := bnd_e hF
  refine JM_puti hX cb4 (kMarket hr) 7 (by decide) q_388 rfl rfl e10 (fun _ _ => Nat.le_of_ble_eq_true rfl) (fun _ _ => rfl) dX6_copyFrom_37 (t := 40) rfl ?_
  refine J_aload_n hX dX6_copyFrom_40 0 rfl (t := 41) rfl ?_
  refine J_aload_n hX dX6_copyFrom_41 1 rfl (t := 42) rfl ?_
  refine JC_get hX hne hw2 cb4 (kMarket hr1) 8 (by decide) q_390 rfl dX6_copyFrom_42 (t := 45) rfl ?_
  obtain ⟨M11, e12, hF⟩ := bnd_e hF
  refine JM_puti hX cb4 (kMarket hr) 8 (by decide) q_390 rfl rfl e12 (fun _ _ => Nat.le_of_ble_eq_true rfl) (fun _ _ => rfl) dX6_copyFrom_45 (t := 48) rfl ?_
  refine J_aload_n hX dX6_copyFrom_48 0 rfl (t := 49) rfl ?_
  refine J_aload_n hX dX6_copyFrom_49 1 rfl (t := 50) rfl ?_
  refine JC_get hX hne hw2 cb4 (kMarket hr1) 9 (by decide) q_392 rfl dX6_copyFrom_50 (t := 53) rfl ?_
  obtain ⟨M13, e14, hF⟩ := bnd_e hF
  refine JM_puti hX cb4 (kMarket hr) 9 (by decide) q_392 rfl rfl e14 (fun _ _ => Nat.le_of_ble_eq_true rfl) (fun _ _ => rfl) dX6_copyFrom_53 (t := 56) rfl ?_
  refine J_aload_n hX dX6_copyFrom_56 0 rfl (t := 57) rfl ?_
  refine J_aload_n hX dX6_copyFrom_57 1 rfl (t := 58) rfl ?_
  refine JC_get hX hne hw2 cb4 (kMarket hr1) 10 (by decide) q_394 rfl dX6_copyFrom_58 (t := 61) rfl ?_
  obtain ⟨M15, e16, hF⟩ := bnd_e hF
  refine JM_puti hX cb4 (kMarket hr) 10 (by decide) q_394 rfl rfl e16 (fun _ _ => Nat.le_of_ble_eq_true rfl) (fun _ _ => rfl) dX6_copyFrom_61 (t := 64) rfl ?_
  refine J_aload_n hX dX6_copyFrom_64 0 rfl (t := 65) rfl ?_
  refine J_aload_n hX dX6_copyFrom_65 1 rfl (t := 66) rfl ?_
  refine JC_get hX hne hw2 cb4 (kMarket hr1) 11 (by decide) q_396 rfl dX6_copyFrom_66 (t := 69) rfl ?_
  obtain ⟨M17, e18, hF⟩ := bnd_e hF
  refine JM_puti hX cb4 (kMarket hr) 11 (by decide) q_396 rfl rfl e18 (fun _ _ => Nat.le_of_ble_eq_true rfl) (fun _ _ => rfl) dX6_copyFrom_69 (t := 72) rfl ?_
  refine J_aload_n hX dX6_copyFrom_72 0 rfl (t := 73) rfl ?_
  refine J_aload_n hX dX6_copyFrom_73 1 rfl (t := 74) rfl ?_
  refine JC_get hX hne hw2 cb4 (kMarket hr1) 12 (by decide) q_398 rfl dX6_copyFrom_74 (t := 77) rfl ?_
  obtain ⟨M19, e20, hF⟩ := bnd_e hF
  refine JM_puti hX cb4 (kMarket hr) 12 (by decide) q_398 rfl rfl e20 (fun _ _ => Nat.le_of_ble_eq_true rfl) (fun _ _ => rfl) dX6_copyFrom_77 (t := 80) rfl ?_
  refine J_iconst (v := 0) hX dX6_copyFrom_80 (by decide) (t := 81) rfl ?_
  refine J_istore_n (lc2 := [(2, .int 0), (0, .ref (adr G r 0)), (1, .ref (adr G r1 0))]) hX dX6_copyFrom_81 rfl (Nat.le_of_ble_eq_true rfl) rfl (t := 82) rfl ?_
  refine J_sub (lc2 := [(0, .ref (adr G r 0)), (1, .ref (adr G r1 0)), (2, .int 0)]) [1, 2, 0] rfl ?_
  exact LX6_copyFrom_82 w r hr r1 hr1 MB hne hw2 hX hR hlk n n M19 0 hF

