abbrev rmX5_remember : Room := { frames := 2, cells := 0, slots := 0, locals := 43 }
theorem miX5_remember : MI yX5_remember cX5_remember 2 none 1 := ⟨q_1272, q_147, by decide +kernel, by decide +kernel, by decide +kernel, by decide +kernel⟩
theorem mvX5_remember : MV yX5_remember := ⟨q_1270, q_1271⟩
def FX5_remember (n : Nat) (w : Wd) (r1 : Nat) : Option (Wd) :=
  gd (inb ((w 13).1 0 1) 6) <|
  gd (decide (r1 ≠ 4 + ((w 13).1 0 1).toNatClampNeg)) <|
  bo1 (FX6_copyFrom n (w (4 + ((w 13).1 0 1).toNatClampNeg)) (w r1)) fun M4 =>
  bnd (sW w (4 + ((w 13).1 0 1).toNatClampNeg) M4) fun w6 =>
  bnd (sW w6 13 (sI (w6 13) 0 1 ((((w6 13).1 0 1) + 1) - (((w6 13).1 0 1) + 1) / 6 * 6))) fun w8 =>
  bnd (sW w8 13 (sI (w8 13) 0 2 (if 6 < (((w8 13).1 0 2) + 1) then 6 else (((w8 13).1 0 2) + 1)))) fun w10 =>
  some w10
set_option maxHeartbeats 4000000 in
set_option maxRecDepth 100000 in
theorem ctX5_remember {G : GG} {l : Launch} (w : Wd) (r1 : Nat) (hr1 : 1 ≤ r1 ∧ r1 ≤ 9) (n : Nat) {rw : Wd} (hF : FX5_remember n w r1 = some rw) : CT G l yX5_remember cX5_remember 2 none rmX5_remember 0 0 [.ref (adr G 13 0), .ref (adr G r1 0)] w (none) rw := by
  refine CT.of miX5_remember [(0, .ref (adr G 13 0)), (1, .ref (adr G r1 0))] rfl (Nat.le_of_ble_eq_true rfl) ?_
  intro p e s m args below meth c hX hR hlk
  have hX : FX G RX5 cX5_remember 2 p s m args c := hX
  unfold FX5_remember at hF
  refine J_aload_n hX dX5_remember_0 0 rfl (t := 1) rfl ?_
  refine J_get hX cb3 kHistory 0 (by decide) q_519 rfl dX5_remember_1 (t := 4) rfl ?_
  refine J_aload_n hX dX5_remember_4 0 rfl (t := 5) rfl ?_
  refine J_get hX cb3 kHistory 1 (by decide) q_520 rfl dX5_remember_5 (t := 8) rfl ?_
  obtain ⟨g1, hF⟩ := gd_e hF
  refine J_aald (k := 6) hX kRows rfl g1 dX5_remember_8 (t := 9) rfl ?_
  refine J_aload_n hX dX5_remember_9 1 rfl (t := 10) rfl ?_
  obtain ⟨g3, hF⟩ := gd_e hF
  obtain ⟨M4, h2, hF⟩ := bo1_e hF
  have k5 := (CT.self (ctX6_copyFrom (G := G) (l := l) w (4 + ((w 13).1 0 1).toNatClampNeg) ⟨(by have h9 := inb_lt g1; omega), (by have h9 := inb_lt g1; omega)⟩ (w (4 + ((w 13).1 0 1).toNatClampNeg)) r1 hr1 (w r1) (of_decide_eq_true g3) rfl  n h2))
  obtain ⟨w6, e7, hF⟩ := bnd_e hF
  rw [e7] at k5
  refine J_callV hX [.ref (adr G r1 0)] [] [] k5 miX6_copyFrom mvX6_copyFrom cb4 (kMarket ⟨(by have h9 := inb_lt g1; omega), (by have h9 := inb_lt g1; omega)⟩) q_1273 ⟨rfl, rfl, Nat.le_of_ble_eq_true rfl, Nat.le_of_ble_eq_true rfl⟩ rfl rfl (Nat.le_of_ble_eq_true rfl) ⟨Nat.le_of_ble_eq_true rfl, Nat.le_of_ble_eq_true rfl⟩ dX5_remember_10 (t := 13) rfl rfl ?_
  refine J_aload_n hX dX5_remember_13 0 rfl (t := 14) rfl ?_
  refine J_aload_n hX dX5_remember_14 0 rfl (t := 15) rfl ?_
  refine J_get hX cb3 kHistory 1 (by decide) q_520 rfl dX5_remember_15 (t := 18) rfl ?_
  refine J_iconst (v := 1) hX dX5_remember_18 (by decide) (t := 19) rfl ?_
  refine J_iadd hX dX5_remember_19 (t := 20) rfl ?_
  refine J_bipush (v := 6) hX dX5_remember_20 (by decide) (t := 22) rfl ?_
  refine J_irem hX dX5_remember_22 (by decide) (t := 23) rfl ?_
  obtain ⟨w8, e9, hF⟩ := bnd_e hF
  refine J_puti hX cb3 kHistory 1 (by decide) q_520 rfl rfl e9 (fun _ _ => Nat.le_of_ble_eq_true rfl) (fun _ _ => rfl) dX5_remember_23 (t := 26) rfl ?_
  refine J_aload_n hX dX5_remember_26 0 rfl (t := 27) rfl ?_
  refine J_aload_n hX dX5_remember_27 0 rfl (t := 28) rfl ?_
  refine J_get hX cb3 kHistory 2 (by decide) q_521 rfl dX5_remember_28 (t := 31) rfl ?_
  refine J_iconst (v := 1) hX dX5_remember_31 (by decide) (t := 32) rfl ?_
  refine J_iadd hX dX5_remember_32 (t := 33) rfl ?_
  refine J_bipush (v := 6) hX dX5_remember_33 (by decide) (t := 35) rfl ?_
  refine J_min hX ⟨q_1274, q_732, q_162, q_733⟩ ⟨Nat.le_of_ble_eq_true rfl, Nat.le_of_ble_eq_true rfl, Nat.le_of_ble_eq_true rfl, Nat.le_of_ble_eq_true rfl⟩ dX5_remember_35 (t := 38) rfl ?_
  obtain ⟨w10, e11, hF⟩ := bnd_e hF
  refine J_puti hX cb3 kHistory 2 (by decide) q_521 rfl rfl e11 (fun _ _ => Nat.le_of_ble_eq_true rfl) (fun _ _ => rfl) dX5_remember_38 (t := 41) rfl ?_
  replace hF := Option.some.inj hF
  subst hF
  exact J_vret hX hR hlk dX5_remember_41
def FX5_takeBack (n : Nat) (w : Wd) (r1 : Nat) : Option (Int32 × Wd) :=
  if (w 13).1 0 2 ≤ 0 then
    some ((w 13).1 0 2, w)
  else
    bnd (sW w 13 (sI (w 13) 0 1 (((((w 13).1 0 1) + 6) - 1) - ((((w 13).1 0 1) + 6) - 1) / 6 * 6))) fun w1 =>
    gd (inb ((w1 13).1 0 1) 6) <|
    gd (decide (4 + ((w1 13).1 0 1).toNatClampNeg ≠ r1)) <|
    bo1 (FX6_copyFrom n (w1 r1) (w1 (4 + ((w1 13).1 0 1).toNatClampNeg))) fun M6 =>
    bnd (sW w1 r1 M6) fun w8 =>
    bnd (sW w8 13 (sI (w8 13) 0 2 (((w8 13).1 0 2) - 1))) fun w10 =>
    some ((w10 13).1 0 2, w10)
abbrev rmX5_forget : Room := { frames := 0, cells := 0, slots := 0, locals := 0 }
theorem miX5_forget : MI yX5_forget cX5_forget 1 none 0 := ⟨q_1218, q_147, by decide +kernel, by decide +kernel, by decide +kernel, by decide +kernel⟩
theorem mvX5_forget : MV yX5_forget := ⟨q_1216, q_1217⟩
def FX5_forget (w : Wd)  : Wd :=
  bnd (sW w 13 (sI (w 13) 0 2 0)) fun w1 =>
  w1
set_option maxHeartbeats 4000000 in
set_option maxRecDepth 100000 in
theorem ctX5_forget {G : GG} {l : Launch} (w : Wd)   {rw : Wd} (hF : FX5_forget w  = rw) : CT G l yX5_forget cX5_forget 1 none rmX5_forget 0 0 [.ref (adr G 13 0)] w (none) rw := by
  refine CT.of miX5_forget [(0, .ref (adr G 13 0))] rfl (Nat.le_of_ble_eq_true rfl) ?_
  intro p e s m args below meth c hX hR hlk
  have hX : FX G RX5 cX5_forget 1 p s m args c := hX
  unfold FX5_forget at hF
  refine J_aload_n hX dX5_forget_0 0 rfl (t := 1) rfl ?_
  refine J_iconst (v := 0) hX dX5_forget_1 (by decide) (t := 2) rfl ?_
  obtain ⟨w1, e2, hF⟩ := bnd_e hF
  refine J_puti hX cb3 kHistory 2 (by decide) q_521 rfl rfl e2 (fun _ _ => Nat.le_of_ble_eq_true rfl) (fun _ _ => rfl) dX5_forget_2 (t := 5) rfl ?_
  subst hF
  exact J_vret hX hR hlk dX5_forget_5

