abbrev rmX12_feed : Room := { frames := 7, cells := 0, slots := 0, locals := 110 }
theorem miX12_feed : MI yX12_feed cX12_feed 6 (some .int) 5 := ⟨q_788, q_136, by decide +kernel, by decide +kernel, by decide +kernel, by decide +kernel⟩
theorem mvX12_feed : MV yX12_feed := ⟨q_786, q_787⟩
def FX12_feed (n : Nat) (w : Wd) (p1 : Int32) (p2 : Int32) (p3 : Int32) (p4 : Int32) (p5 : Int32) : Option (Except (String × Wd) (Int32 × Wd)) :=
  if 600 < ((w 10).1 0 6) + 20 then
    xo (xw w (FX12_demandState false)) fun _ =>
    bo1 (FX9_append n w p1) fun w3 =>
    bo1 (FX9_append n w3 p2) fun w6 =>
    bo1 (FX9_append n w6 p3) fun w9 =>
    bo1 (FX9_append n w9 p4) fun w12 =>
    bo1 (FX9_append n w12 p5) fun w15 =>
    some (.ok ((w15 10).1 0 6, w15))
  else
    xo (xw w (FX12_demandState true)) fun _ =>
    bo1 (FX9_append n w p1) fun w19 =>
    bo1 (FX9_append n w19 p2) fun w22 =>
    bo1 (FX9_append n w22 p3) fun w25 =>
    bo1 (FX9_append n w25 p4) fun w28 =>
    bo1 (FX9_append n w28 p5) fun w31 =>
    some (.ok ((w31 10).1 0 6, w31))
set_option maxHeartbeats 4000000 in
set_option maxRecDepth 100000 in
theorem ctX12_feed {G : GG} {l : Launch} (w : Wd) (p1 : Int32) (p2 : Int32) (p3 : Int32) (p4 : Int32) (p5 : Int32)  (n : Nat) {rx : Int32} {rw : Wd} (hF : FX12_feed n w p1 p2 p3 p4 p5 = some (.ok (rx, rw))) : CT G l yX12_feed cX12_feed 6 (some .int) rmX12_feed 0 0 [.ref (adr G 0 0), .int p1, .int p2, .int p3, .int p4, .int p5] w (some (.int rx)) rw := by
  refine CT.of miX12_feed [(0, .ref (adr G 0 0)), (1, .int p1), (2, .int p2), (3, .int p3), (4, .int p4), (5, .int p5)] rfl (Nat.le_of_ble_eq_true rfl) ?_
  intro p e s m args below meth c hX hR hlk
  have hX : FX G RX12 cX12_feed 6 p s m args c := hX
  unfold FX12_feed at hF
  refine J_aload_n hX dX12_feed_0 0 rfl (t := 1) rfl ?_
  refine J_get hX cb9 kEcho 0 (by decide) q_562 rfl dX12_feed_1 (t := 4) rfl ?_
  refine J_get hX cb7 kText 6 (by decide) q_190 rfl dX12_feed_4 (t := 7) rfl ?_
  refine J_bipush (v := 20) hX dX12_feed_7 (by decide) (t := 9) rfl ?_
  refine J_iadd hX dX12_feed_9 (t := 10) rfl ?_
  refine J_sipush (v := 600) hX dX12_feed_10 (by decide) (t := 13) rfl ?_
  refine J_icmp_gt (tgt := 20) hX dX12_feed_13 (by decide) (t := 16) rfl (fun z => ?_) (fun z => ?_)
  · replace hF := it_t hF z
    refine J_iconst (v := 0) hX dX12_feed_20 (by decide) (t := 21) rfl ?_
    obtain ⟨xu, h1, hF⟩ := xow_ok hF
    refine J_callS hX [.int (bI false)] [] [] (ctX12_demandState (G := G) (l := l) (w := w) false h1) miX12_demandState q_790 q_789 ⟨rfl, rfl, Nat.le_of_ble_eq_true rfl, Nat.le_of_ble_eq_true rfl⟩ rfl rfl (Nat.le_of_ble_eq_true rfl) ⟨Nat.le_of_ble_eq_true rfl, Nat.le_of_ble_eq_true rfl⟩ dX12_feed_21 (t := 24) rfl rfl ?_
    refine J_aload_n hX dX12_feed_24 0 rfl (t := 25) rfl ?_
    refine J_get hX cb9 kEcho 0 (by decide) q_562 rfl dX12_feed_25 (t := 28) rfl ?_
    refine J_iload_n hX dX12_feed_28 1 rfl (t := 29) rfl ?_
    obtain ⟨w3, h2, hF⟩ := bo1_e hF
    have k4 := (ctX9_append (G := G) (l := l) w p1 n h2)
    refine J_callV hX [.int p1] [] [] k4 miX9_append mvX9_append cb7 kText q_861 ⟨rfl, rfl, Nat.le_of_ble_eq_true rfl, Nat.le_of_ble_eq_true rfl⟩ rfl rfl (Nat.le_of_ble_eq_true rfl) ⟨Nat.le_of_ble_eq_true rfl, Nat.le_of_ble_eq_true rfl⟩ dX12_feed_29 (t := 32) rfl rfl ?_
    refine J_aload_n hX dX12_feed_32 0 rfl (t := 33) rfl ?_
    refine J_get hX cb9 kEcho 0 (by decide) q_562 rfl dX12_feed_33 (t := 36) rfl ?_
    refine J_iload_n hX dX12_feed_36 2 rfl (t := 37) rfl ?_
    obtain ⟨w6, h5, hF⟩ := bo1_e hF
    have k7 := (ctX9_append (G := G) (l := l) w3 p2 n h5)
    refine J_callV hX [.int p2] [] [] k7 miX9_append mvX9_append cb7 kText q_861 ⟨rfl, rfl, Nat.le_of_ble_eq_true rfl, Nat.le_of_ble_eq_true rfl⟩ rfl rfl (Nat.le_of_ble_eq_true rfl) ⟨Nat.le_of_ble_eq_true rfl, Nat.le_of_ble_eq_true rfl⟩ dX12_feed_37 (t := 40) rfl rfl ?_
    refine J_aload_n hX dX12_feed_40 0 rfl (t := 41) rfl ?_
    refine J_get hX cb9 kEcho 0 (by decide) q_562 rfl dX12_feed_41 (t := 44) rfl ?_
    refine J_iload_n hX dX12_feed_44 3 rfl (t := 45) rfl ?_
    obtain ⟨w9, h8, hF⟩ := bo1_e hF
    have k10 := (ctX9_append (G := G) (l := l) w6 p3 n h8)
    refine J_callV hX [.int p3] [] [] k10 miX9_append mvX9_append cb7 kText q_861 ⟨rfl, rfl, Nat.le_of_ble_eq_true rfl, Nat.le_of_ble_eq_true rfl⟩ rfl rfl (Nat.le_of_ble_eq_true rfl) ⟨Nat.le_of_ble_eq_true rfl, Nat.le_of_ble_eq_true rfl⟩ dX12_feed_45 (t := 48) rfl rfl ?_
    refine J_aload_n hX dX12_feed_48 0 rfl (t := 49) rfl ?_
    refine J_get hX cb9 kEcho 0 (by decide) q_562 rfl dX12_feed_49 (t := 52) rfl ?_
    refine J_iload hX dX12_feed_52 4 rfl (t := 54) rfl ?_
    obtain ⟨w12, h11, hF⟩ := bo1_e hF
    have k13 := (ctX9_append (G := G) (l := l) w9 p4 n h11)
    refine J_callV hX [.int p4] [] [] k13 miX9_append mvX9_append cb7 kText q_861 ⟨rfl, rfl, Nat.le_of_ble_eq_true rfl, Nat.le_of_ble_eq_true rfl⟩ rfl rfl (Nat.le_of_ble_eq_true rfl) ⟨Nat.le_of_ble_eq_true rfl, Nat.le_of_ble_eq_true rfl⟩ dX12_feed_54 (t := 57) rfl rfl ?_
    refine J_aload_n hX dX12_feed_57 0 rfl (t := 58) rfl ?_
    refine J_get hX cb9 kEcho 0 (by decide) q_562 rfl dX12_feed_58 (t := 61) rfl ?_
    refine J_iload hX dX12_feed_61 5 rfl (t := 63) rfl ?_
    obtain ⟨w15, h14, hF⟩ := bo1_e hF
    have k16 := (ctX9_append (G := G) (l := l) w12 p5 n h14)
    refine J_callV hX [.int p5] [] [] k16 miX9_append mvX9_append cb7 kText q_861 ⟨rfl, rfl, Nat.le_of_ble_eq_true rfl, Nat.le_of_ble_eq_true rfl⟩ rfl rfl (Nat.le_of_ble_eq_true rfl) ⟨Nat.le_of_ble_eq_true rfl, Nat.le_of_ble_eq_true rfl⟩ dX12_feed_63 (t := 66) rfl rfl ?_
    refine J_aload_n hX dX12_feed_66 0 rfl (t := 67) rfl ?_
    refine J_get hX cb9 kEcho 0 (by decide) q_562 rfl dX12_feed_67 (t := 70) rfl ?_
    refine J_get hX cb7 kText 6 (by decide) q_190 rfl dX12_feed_70 (t := 73) rfl ?_
    replace hF := Except.ok.inj (Option.some.inj hF)
    obtain ⟨hF, hF2⟩ := Prod.mk.inj hF
    subst hF
    subst hF2
    exact J_iret hX hR hlk dX12_feed_73
  · replace hF := it_f hF z
    refine J_iconst (v := 1) hX dX12_feed_16 (by decide) (t := 17) rfl ?_
    refine J_goto (tgt := 21) hX dX12_feed_17 (by decide) ?_
    obtain ⟨xu, h17, hF⟩ := xow_ok hF
    refine J_callS hX [.int (bI true)] [] [] (ctX12_demandState (G := G) (l := l) (w := w) true h17) miX12_demandState q_790 q_789 ⟨rfl, rfl, Nat.le_of_ble_eq_true rfl, Nat.le_of_ble_eq_true rfl⟩ rfl rfl (Nat.le_of_ble_eq_true rfl) ⟨Nat.le_of_ble_eq_true rfl, Nat.le_of_ble_eq_true rfl⟩ dX12_feed_21 (t := 24) rfl rfl ?_
    refine J_aload_n hX dX12_feed_24 0 rfl (t := 25) rfl ?_
    refine J_get hX cb9 kEcho 0 (by decide) q_562 rfl dX12_feed_25 (t := 28) rfl ?_
    refine J_iload_n hX dX12_feed_28 1 rfl (t := 29) rfl ?_
    obtain ⟨w19, h18, hF⟩ := bo1_e hF
    have k20 := (ctX9_append (G := G) (l := l) w p1 n h18)
    refine J_callV hX [.int p1] [] [] k20 miX9_append mvX9_append cb7 kText q_861 ⟨rfl, rfl, Nat.le_of_ble_eq_true rfl, Nat.le_of_ble_eq_true rfl⟩ rfl rfl (Nat.le_of_ble_eq_true rfl) ⟨Nat.le_of_ble_eq_true rfl, Nat.le_of_ble_eq_true rfl⟩ dX12_feed_29 (t := 32) rfl rfl ?_
    refine J_aload_n hX dX12_feed_32 0 rfl (t := 33) rfl ?_
    refine J_get hX cb9 kEcho 0 (by decide) q_562 rfl dX12_feed_33 (t := 36) rfl ?_
    refine J_iload_n hX dX12_feed_36 2 rfl (t := 37) rfl ?_
    obtain ⟨w22, h21, hF⟩ := bo1_e hF
    have k23 := (ctX9_append (G := G) (l := l) w19 p2 n h21)
    refine J_callV hX [.int p2] [] [] k23 miX9_append mvX9_append cb7 kText q_861 ⟨rfl, rfl, Nat.le_of_ble_eq_true rfl, Nat.le_of_ble_eq_true rfl⟩ rfl rfl (Nat.le_of_ble_eq_true rfl) ⟨Nat.le_of_ble_eq_true rfl, Nat.le_of_ble_eq_true rfl⟩ dX12_feed_37 (t := 40) rfl rfl ?_
    refine J_aload_n hX dX12_feed_40 0 rfl (t := 41) rfl ?_
    refine J_get hX cb9 kEcho 0 (by decide) q_562 rfl dX12_feed_41 (t := 44) rfl ?_
    refine J_iload_n hX dX12_feed_44 3 rfl (t := 45) rfl ?_
    obtain ⟨w25, h24, hF⟩ := bo1_e hF
    have k26 := (ctX9_append (G := G) (l := l) w22 p3 n h24)
    refine J_callV hX [.int p3] [] [] k26 miX9_append mvX9_append cb7 kText q_861 ⟨rfl, rfl, Nat.le_of_ble_eq_true rfl, Nat.le_of_ble_eq_true rfl⟩ rfl rfl (Nat.le_of_ble_eq_true rfl) ⟨Nat.le_of_ble_eq_true rfl, Nat.le_of_ble_eq_true rfl⟩ dX12_feed_45 (t := 48) rfl rfl ?_
    refine J_aload_n hX dX12_feed_48 0 rfl (t := 49) rfl ?_
    refine J_get hX cb9 kEcho 0 (by decide) q_562 rfl dX12_feed_49 (t := 52) rfl ?_
    refine J_iload hX dX12_feed_52 4 rfl (t := 54) rfl ?_
    obtain ⟨w28, h27, hF⟩ := bo1_e hF
    have k29 := (ctX9_append (G := G) (l := l) w25 p4 n h27)
    refine J_callV hX [.int p4] [] [] k29 miX9_append mvX9_append cb7 kText q_861 ⟨rfl, rfl, Nat.le_of_ble_eq_true rfl, Nat.le_of_ble_eq_true rfl⟩ rfl rfl (Nat.le_of_ble_eq_true rfl) ⟨Nat.le_of_ble_eq_true rfl, Nat.le_of_ble_eq_true rfl⟩ dX12_feed_54 (t := 57) rfl rfl ?_
    refine J_aload_n hX dX12_feed_57 0 rfl (t := 58) rfl ?_
    refine J_get hX cb9 kEcho 0 (by decide) q_562 rfl dX12_feed_58 (t := 61) rfl ?_
    refine J_iload hX dX12_feed_61 5 rfl (t := 63) rfl ?_
    obtain ⟨w31, h30, hF⟩ := bo1_e hF
    have k32 := (ctX9_append (G := G) (l := l) w28 p5 n h30)
    refine J_callV hX [.int p5] [] [] k32 miX9_append mvX9_append cb7 kText q_861 ⟨rfl, rfl, Nat.le_of_ble_eq_true rfl, Nat.le_of_ble_eq_true rfl⟩ rfl rfl (Nat.le_of_ble_eq_true rfl) ⟨Nat.le_of_ble_eq_true rfl, Nat.le_of_ble_eq_true rfl⟩ dX12_feed_63 (t := 66) rfl rfl ?_
    refine J_aload_n hX dX12_feed_66 0 rfl (t := 67) rfl ?_
    refine J_get hX cb9 kEcho 0 (by decide) q_562 rfl dX12_feed_67 (t := 70) rfl ?_
    refine J_get hX cb7 kText 6 (by decide) q_190 rfl dX12_feed_70 (t := 73) rfl ?_
    replace hF := Except.ok.inj (Option.some.inj hF)
    obtain ⟨hF, hF2⟩ := Prod.mk.inj hF
    subst hF
    subst hF2
    exact J_iret hX hR hlk dX12_feed_73
abbrev rmX12_truncate : Room := { frames := 7, cells := 0, slots := 0, locals := 110 }
theorem miX12_truncate : MI yX12_truncate cX12_truncate 2 (some .int) 1 := ⟨q_872, q_136, by decide +kernel, by decide +kernel, by decide +kernel, by decide +kernel⟩
theorem mvX12_truncate : MV yX12_truncate := ⟨q_870, q_871⟩
def FX12_truncate (w : Wd) (p1 : Int32) : Option (Except (String × Wd) (Int32 × Wd)) :=
  bnd (FX12_isWithin p1 0 ((w 10).1 0 6)) fun x2 =>
  xo (xw w (FX12_demandArgument x2)) fun _ =>
  bnd (sW w 10 (sI (w 10) 0 6 p1)) fun w5 =>
  some (.ok (p1, w5))
set_option maxHeartbeats 4000000 in
set_option maxRecDepth 100000 in
theorem ctX12_truncate {G : GG} {l : Launch} (w : Wd) (p1 : Int32)  {rx : Int32} {rw : Wd} (hF : FX12_truncate w p1 = some (.ok (rx, rw))) : CT G l yX12_truncate cX12_truncate 2 (some .int) rmX12_truncate 0 0 [.ref (adr G 0 0), .int p1] w (some (.int rx)) rw := by
  refine CT.of miX12_truncate [(0, .ref (adr G 0 0)), (1, .int p1)] rfl (Nat.le_of_ble_eq_true rfl) ?_
  intro p e s m args below meth c hX hR hlk
  have hX : FX G RX12 cX12_truncate 2 p s m args c := hX
  unfold FX12_truncate at hF
  refine J_iload_n hX dX12_truncate_0 1 rfl (t := 1) rfl ?_
  refine J_iconst (v := 0) hX dX12_truncate_1 (by decide) (t := 2) rfl ?_
  refine J_aload_n hX dX12_truncate_2 0 rfl (t := 3) rfl ?_
  refine J_get hX cb9 kEcho 0 (by decide) q_562 rfl dX12_truncate_3 (t := 6) rfl ?_
  refine J_get hX cb7 kText 6 (by decide) q_190 rfl dX12_truncate_6 (t := 9) rfl ?_
  obtain ⟨x2, h1, hF⟩ := bnd_e hF
  have k3 := (ctX12_isWithin (l := l) (G := G) (w := w) p1 0 ((w 10).1 0 6) h1)
  refine J_callS hX [.int p1, .int 0, .int ((w 10).1 0 6)] [] [.int (bI x2)] k3 miX12_isWithin q_655 q_873 ⟨rfl, rfl, Nat.le_of_ble_eq_true rfl, Nat.le_of_ble_eq_true rfl⟩ rfl rfl (Nat.le_of_ble_eq_true rfl) ⟨Nat.le_of_ble_eq_true rfl, Nat.le_of_ble_eq_true rfl⟩ dX12_truncate_9 (t := 12) rfl rfl ?_
  obtain ⟨xu, h4, hF⟩ := xow_ok hF
  refine J_callS hX [.int (bI x2)] [] [] (ctX12_demandArgument (G := G) (l := l) (w := w) x2 h4) miX12_demandArgument q_875 q_874 ⟨rfl, rfl, Nat.le_of_ble_eq_true rfl, Nat.le_of_ble_eq_true rfl⟩ rfl rfl (Nat.le_of_ble_eq_true rfl) ⟨Nat.le_of_ble_eq_true rfl, Nat.le_of_ble_eq_true rfl⟩ dX12_truncate_12 (t := 15) rfl rfl ?_
  refine J_aload_n hX dX12_truncate_15 0 rfl (t := 16) rfl ?_
  refine J_get hX cb9 kEcho 0 (by decide) q_562 rfl dX12_truncate_16 (t := 19) rfl ?_
  refine J_iload_n hX dX12_truncate_19 1 rfl (t := 20) rfl ?_
  obtain ⟨w5, e6, hF⟩ := bnd_e hF
  refine J_puti hX cb7 kText 6 (by decide) q_190 rfl rfl e6 (fun _ _ => Nat.le_of_ble_eq_true rfl) (fun _ _ => rfl) dX12_truncate_20 (t := 23) rfl ?_
  refine J_iload_n hX dX12_truncate_23 1 rfl (t := 24) rfl ?_
  replace hF := Except.ok.inj (Option.some.inj hF)
  obtain ⟨hF, hF2⟩ := Prod.mk.inj hF
  subst hF
  subst hF2
  exact J_iret hX hR hlk dX12_truncate_24
abbrev rmX12_readText : Room := { frames := 8, cells := 0, slots := 0, locals := 293 }
theorem miX12_readText : MI yX12_readText cX12_readText 2 (some .int) 0 := ⟨q_899, q_136, by decide +kernel, by decide +kernel, by decide +kernel, by decide +kernel⟩
theorem mvX12_readText : MV yX12_readText := ⟨q_897, q_898⟩
def FX12_readText (n : Nat) (w : Wd)  : Option (Except (String × Wd) (Int32 × Wd)) :=
  bo2 (FX3_read n w 2) fun x2 w3 =>
  bnd (sW w3 10 (sI (w3 10) 0 6 0)) fun w5 =>
  xo (xw w5 (FX12_demandArgument x2)) fun _ =>
  bo1 (FX6_copyFrom n (w5 1) (w5 2)) fun M9 =>
  bnd (sW w5 1 M9) fun w11 =>
  bnd (FX5_forget w11) fun w14 =>
  some (.ok ((w14 1).1 0 5, w14))
set_option maxHeartbeats 4000000 in
set_option maxRecDepth 100000 in
theorem ctX12_readText {G : GG} {l : Launch} (w : Wd)   (n : Nat) {rx : Int32} {rw : Wd} (hF : FX12_readText n w  = some (.ok (rx, rw))) : CT G l yX12_readText cX12_readText 2 (some .int) rmX12_readText 0 0 [.ref (adr G 0 0)] w (some (.int rx)) rw := by
  refine CT.of miX12_readText [(0, .ref (adr G 0 0))] rfl (Nat.le_of_ble_eq_true rfl) ?_
  intro p e s m args below meth c hX hR hlk
  have hX : FX G RX12 cX12_readText 2 p s m args c := hX
  unfold FX12_readText at hF
  refine J_aload_n hX dX12_readText_0 0 rfl (t := 1) rfl ?_
  refine J_get hX cb9 kEcho 1 (by decide) q_563 rfl dX12_readText_1 (t := 4) rfl ?_
  refine J_aload_n hX dX12_readText_4 0 rfl (t := 5) rfl ?_
  refine J_get hX cb9 kEcho 0 (by decide) q_562 rfl dX12_readText_5 (t := 8) rfl ?_
  refine J_aload_n hX dX12_readText_8 0 rfl (t := 9) rfl ?_
  refine J_get hX cb9 kEcho 4 (by decide) q_566 rfl dX12_readText_9 (t := 12) rfl ?_
  obtain ⟨x2, w3, h1, hF⟩ := bo2_e hF
  have k4 := (ctX3_read (G := G) (l := l) w 2 ⟨by decide, by decide⟩ n h1)
  refine J_callV hX [.ref (adr G 10 0), .ref (adr G 2 0)] [] [.int (bI x2)] k4 miX3_read mvX3_read cb2 kDescription q_900 ⟨rfl, rfl, Nat.le_of_ble_eq_true rfl, Nat.le_of_ble_eq_true rfl⟩ rfl rfl (Nat.le_of_ble_eq_true rfl) ⟨Nat.le_of_ble_eq_true rfl, Nat.le_of_ble_eq_true rfl⟩ dX12_readText_12 (t := 15) rfl rfl ?_
  refine J_istore_n (lc2 := [(1, .int (bI x2)), (0, .ref (adr G 0 0))]) hX dX12_readText_15 rfl (Nat.le_of_ble_eq_true rfl) rfl (t := 16) rfl ?_
  refine J_aload_n hX dX12_readText_16 1 rfl (t := 17) rfl ?_
  refine J_get hX cb9 kEcho 0 (by decide) q_562 rfl dX12_readText_17 (t := 20) rfl ?_
  refine J_iconst (v := 0) hX dX12_readText_20 (by decide) (t := 21) rfl ?_
  obtain ⟨w5, e6, hF⟩ := bnd_e hF
  refine J_puti hX cb7 kText 6 (by decide) q_190 rfl rfl e6 (fun _ _ => Nat.le_of_ble_eq_true rfl) (fun _ _ => rfl) dX12_readText_21 (t := 24) rfl ?_
  refine J_iload_n hX dX12_readText_24 0 rfl (t := 25) rfl ?_
  obtain ⟨xu, h7, hF⟩ := xow_ok hF
  refine J_callS hX [.int (bI x2)] [] [] (ctX12_demandArgument (G := G) (l := l) (w := w5) x2 h7) miX12_demandArgument q_875 q_874 ⟨rfl, rfl, Nat.le_of_ble_eq_true rfl, Nat.le_of_ble_eq_true rfl⟩ rfl rfl (Nat.le_of_ble_eq_true rfl) ⟨Nat.le_of_ble_eq_true rfl, Nat.le_of_ble_eq_true rfl⟩ dX12_readText_25 (t := 28) rfl rfl ?_
  refine J_aload_n hX dX12_readText_28 1 rfl (t := 29) rfl ?_
  refine J_get hX cb9 kEcho 3 (by decide) q_565 rfl dX12_readText_29 (t := 32) rfl ?_
  refine J_aload_n hX dX12_readText_32 1 rfl (t := 33) rfl ?_
  refine J_get hX cb9 kEcho 4 (by decide) q_566 rfl dX12_readText_33 (t := 36) rfl ?_
  obtain ⟨M9, h8, hF⟩ := bo1_e hF
  have k10 := (CT.self (ctX6_copyFrom (G := G) (l := l) w5 1 ⟨by decide, by decide⟩ (w5 1) 2 ⟨by decide, by decide⟩ (w5 2) (by decide) rfl  n h8))
  obtain ⟨w11, e12, hF⟩ := bnd_e hF
  rw [e12] at k10
  refine J_callV hX [.ref (adr G 2 0)] [] [] k10 miX6_copyFrom mvX6_copyFrom cb4 (kMarket (r := 1) ⟨by decide, by decide⟩) q_765 ⟨rfl, rfl, Nat.le_of_ble_eq_true rfl, Nat.le_of_ble_eq_true rfl⟩ rfl rfl (Nat.le_of_ble_eq_true rfl) ⟨Nat.le_of_ble_eq_true rfl, Nat.le_of_ble_eq_true rfl⟩ dX12_readText_36 (t := 39) rfl rfl ?_
  refine J_aload_n hX dX12_readText_39 1 rfl (t := 40) rfl ?_
  refine J_get hX cb9 kEcho 6 (by decide) q_568 rfl dX12_readText_40 (t := 43) rfl ?_
  obtain ⟨w14, h13, hF⟩ := bnd_e hF
  have k15 := (ctX5_forget (G := G) (l := l) w11  h13)
  refine J_callV hX [] [] [] k15 miX5_forget mvX5_forget cb3 kHistory q_1215 ⟨rfl, rfl, Nat.le_of_ble_eq_true rfl, Nat.le_of_ble_eq_true rfl⟩ rfl rfl (Nat.le_of_ble_eq_true rfl) ⟨Nat.le_of_ble_eq_true rfl, Nat.le_of_ble_eq_true rfl⟩ dX12_readText_43 (t := 46) rfl rfl ?_
  refine J_aload_n hX dX12_readText_46 1 rfl (t := 47) rfl ?_
  refine J_get hX cb9 kEcho 3 (by decide) q_565 rfl dX12_readText_47 (t := 50) rfl ?_
  refine J_get hX cb4 (kMarket (r := 1) ⟨by decide, by decide⟩) 5 (by decide) q_384 rfl dX12_readText_50 (t := 53) rfl ?_
  replace hF := Except.ok.inj (Option.some.inj hF)
  obtain ⟨hF, hF2⟩ := Prod.mk.inj hF
  subst hF
  subst hF2
  exact J_iret hX hR hlk dX12_readText_53
def FX12_runScript (n : Nat) (w : Wd)  : Option (Except (String × Wd) (Int32 × Wd)) :=
  bo2 (FX7_read n w 1) fun x2 w3 =>
  bnd (sW w3 10 (sI (w3 10) 0 6 0)) fun w5 =>
  xo (xw w5 (FX12_demandArgument x2)) fun _ =>
  bo1 (FX5_remember n w5 1) fun w9 =>
  bo2 (FX7_execute n w9 1) fun x12 w13 =>
  some (.ok (x12, w13))
def FX12_errorCode (w : Wd)  : Int32 :=
  (w 10).1 0 7
def FX12_errorOffset (w : Wd)  : Int32 :=
  (w 10).1 0 8
abbrev rmX12_valleyCount : Room := { frames := 0, cells := 0, slots := 0, locals := 0 }
theorem miX12_valleyCount : MI yX12_valleyCount cX12_valleyCount 1 (some .int) 0 := ⟨q_601, q_136, by decide +kernel, by decide +kernel, by decide +kernel, by decide +kernel⟩
theorem mvX12_valleyCount : MV yX12_valleyCount := ⟨q_599, q_600⟩
def FX12_valleyCount (w : Wd)  : Int32 :=
  (w 1).1 0 3
set_option maxHeartbeats 4000000 in
set_option maxRecDepth 100000 in
theorem ctX12_valleyCount {G : GG} {l : Launch} (w : Wd)   {rx : Int32} (hF : FX12_valleyCount w  = rx) : CT G l yX12_valleyCount cX12_valleyCount 1 (some .int) rmX12_valleyCount 0 0 [.ref (adr G 0 0)] w (some (.int rx)) w := by
  refine CT.of miX12_valleyCount [(0, .ref (adr G 0 0))] rfl (Nat.le_of_ble_eq_true rfl) ?_
  intro p e s m args below meth c hX hR hlk
  have hX : FX G RX12 cX12_valleyCount 1 p s m args c := hX
  unfold FX12_valleyCount at hF
  refine J_aload_n hX dX12_valleyCount_0 0 rfl (t := 1) rfl ?_
  refine J_get hX cb9 kEcho 3 (by decide) q_565 rfl dX12_valleyCount_1 (t := 4) rfl ?_
  refine J_get hX cb4 (kMarket (r := 1) ⟨by decide, by decide⟩) 3 (by decide) q_379 rfl dX12_valleyCount_4 (t := 7) rfl ?_
  subst hF
  exact J_iret hX hR hlk dX12_valleyCount_7
abbrev rmX12_customerCount : Room := { frames := 0, cells := 0, slots := 0, locals := 0 }
theorem miX12_customerCount : MI yX12_customerCount cX12_customerCount 1 (some .int) 0 := ⟨q_605, q_136, by decide +kernel, by decide +kernel, by decide +kernel, by decide +kernel⟩
theorem mvX12_customerCount : MV yX12_customerCount := ⟨q_603, q_604⟩
def FX12_customerCount (w : Wd)  : Int32 :=
  (w 1).1 0 4
set_option maxHeartbeats 4000000 in
set_option maxRecDepth 100000 in
theorem ctX12_customerCount {G : GG} {l : Launch} (w : Wd)   {rx : Int32} (hF : FX12_customerCount w  = rx) : CT G l yX12_customerCount cX12_customerCount 1 (some .int) rmX12_customerCount 0 0 [.ref (adr G 0 0)] w (some (.int rx)) w := by
  refine CT.of miX12_customerCount [(0, .ref (adr G 0 0))] rfl (Nat.le_of_ble_eq_true rfl) ?_
  intro p e s m args below meth c hX hR hlk
  have hX : FX G RX12 cX12_customerCount 1 p s m args c := hX
  unfold FX12_customerCount at hF
  refine J_aload_n hX dX12_customerCount_0 0 rfl (t := 1) rfl ?_
  refine J_get hX cb9 kEcho 3 (by decide) q_565 rfl dX12_customerCount_1 (t := 4) rfl ?_
  refine J_get hX cb4 (kMarket (r := 1) ⟨by decide, by decide⟩) 4 (by decide) q_382 rfl dX12_customerCount_4 (t := 7) rfl ?_
  subst hF
  exact J_iret hX hR hlk dX12_customerCount_7
abbrev rmX12_shoutCount : Room := { frames := 0, cells := 0, slots := 0, locals := 0 }
theorem miX12_shoutCount : MI yX12_shoutCount cX12_shoutCount 1 (some .int) 0 := ⟨q_609, q_136, by decide +kernel, by decide +kernel, by decide +kernel, by decide +kernel⟩
theorem mvX12_shoutCount : MV yX12_shoutCount := ⟨q_607, q_608⟩
def FX12_shoutCount (w : Wd)  : Int32 :=
  (w 1).1 0 5
set_option maxHeartbeats 4000000 in
set_option maxRecDepth 100000 in
theorem ctX12_shoutCount {G : GG} {l : Launch} (w : Wd)   {rx : Int32} (hF : FX12_shoutCount w  = rx) : CT G l yX12_shoutCount cX12_shoutCount 1 (some .int) rmX12_shoutCount 0 0 [.ref (adr G 0 0)] w (some (.int rx)) w := by
  refine CT.of miX12_shoutCount [(0, .ref (adr G 0 0))] rfl (Nat.le_of_ble_eq_true rfl) ?_
  intro p e s m args below meth c hX hR hlk
  have hX : FX G RX12 cX12_shoutCount 1 p s m args c := hX
  unfold FX12_shoutCount at hF
  refine J_aload_n hX dX12_shoutCount_0 0 rfl (t := 1) rfl ?_
  refine J_get hX cb9 kEcho 3 (by decide) q_565 rfl dX12_shoutCount_1 (t := 4) rfl ?_
  refine J_get hX cb4 (kMarket (r := 1) ⟨by decide, by decide⟩) 5 (by decide) q_384 rfl dX12_shoutCount_4 (t := 7) rfl ?_
  subst hF
  exact J_iret hX hR hlk dX12_shoutCount_7
abbrev rmX12_time : Room := { frames := 0, cells := 0, slots := 0, locals := 0 }
theorem miX12_time : MI yX12_time cX12_time 1 (some .int) 0 := ⟨q_613, q_136, by decide +kernel, by decide +kernel, by decide +kernel, by decide +kernel⟩
theorem mvX12_time : MV yX12_time := ⟨q_611, q_612⟩
def FX12_time (w : Wd)  : Int32 :=
  (w 1).1 0 6
set_option maxHeartbeats 4000000 in
set_option maxRecDepth 100000 in
theorem ctX12_time {G : GG} {l : Launch} (w : Wd)   {rx : Int32} (hF : FX12_time w  = rx) : CT G l yX12_time cX12_time 1 (some .int) rmX12_time 0 0 [.ref (adr G 0 0)] w (some (.int rx)) w := by
  refine CT.of miX12_time [(0, .ref (adr G 0 0))] rfl (Nat.le_of_ble_eq_true rfl) ?_
  intro p e s m args below meth c hX hR hlk
  have hX : FX G RX12 cX12_time 1 p s m args c := hX
  unfold FX12_time at hF
  refine J_aload_n hX dX12_time_0 0 rfl (t := 1) rfl ?_
  refine J_get hX cb9 kEcho 3 (by decide) q_565 rfl dX12_time_1 (t := 4) rfl ?_
  refine J_get hX cb4 (kMarket (r := 1) ⟨by decide, by decide⟩) 6 (by decide) q_387 rfl dX12_time_4 (t := 7) rfl ?_
  subst hF
  exact J_iret hX hR hlk dX12_time_7
abbrev rmX12_earned : Room := { frames := 0, cells := 0, slots := 0, locals := 0 }
theorem miX12_earned : MI yX12_earned cX12_earned 1 (some .int) 0 := ⟨q_617, q_136, by decide +kernel, by decide +kernel, by decide +kernel, by decide +kernel⟩
theorem mvX12_earned : MV yX12_earned := ⟨q_615, q_616⟩
def FX12_earned (w : Wd)  : Int32 :=
  (w 1).1 0 8
set_option maxHeartbeats 4000000 in
set_option maxRecDepth 100000 in
theorem ctX12_earned {G : GG} {l : Launch} (w : Wd)   {rx : Int32} (hF : FX12_earned w  = rx) : CT G l yX12_earned cX12_earned 1 (some .int) rmX12_earned 0 0 [.ref (adr G 0 0)] w (some (.int rx)) w := by
  refine CT.of miX12_earned [(0, .ref (adr G 0 0))] rfl (Nat.le_of_ble_eq_true rfl) ?_
  intro p e s m args below meth c hX hR hlk
  have hX : FX G RX12 cX12_earned 1 p s m args c := hX
  unfold FX12_earned at hF
  refine J_aload_n hX dX12_earned_0 0 rfl (t := 1) rfl ?_
  refine J_get hX cb9 kEcho 3 (by decide) q_565 rfl dX12_earned_1 (t := 4) rfl ?_
  refine J_get hX cb4 (kMarket (r := 1) ⟨by decide, by decide⟩) 8 (by decide) q_391 rfl dX12_earned_4 (t := 7) rfl ?_
  subst hF
  exact J_iret hX hR hlk dX12_earned_7
abbrev rmX12_refunded : Room := { frames := 0, cells := 0, slots := 0, locals := 0 }
theorem miX12_refunded : MI yX12_refunded cX12_refunded 1 (some .int) 0 := ⟨q_621, q_136, by decide +kernel, by decide +kernel, by decide +kernel, by decide +kernel⟩
theorem mvX12_refunded : MV yX12_refunded := ⟨q_619, q_620⟩
def FX12_refunded (w : Wd)  : Int32 :=
  (w 1).1 0 9
set_option maxHeartbeats 4000000 in
set_option maxRecDepth 100000 in
theorem ctX12_refunded {G : GG} {l : Launch} (w : Wd)   {rx : Int32} (hF : FX12_refunded w  = rx) : CT G l yX12_refunded cX12_refunded 1 (some .int) rmX12_refunded 0 0 [.ref (adr G 0 0)] w (some (.int rx)) w := by
  refine CT.of miX12_refunded [(0, .ref (adr G 0 0))] rfl (Nat.le_of_ble_eq_true rfl) ?_
  intro p e s m args below meth c hX hR hlk
  have hX : FX G RX12 cX12_refunded 1 p s m args c := hX
  unfold FX12_refunded at hF
  refine J_aload_n hX dX12_refunded_0 0 rfl (t := 1) rfl ?_
  refine J_get hX cb9 kEcho 3 (by decide) q_565 rfl dX12_refunded_1 (t := 4) rfl ?_
  refine J_get hX cb4 (kMarket (r := 1) ⟨by decide, by decide⟩) 9 (by decide) q_393 rfl dX12_refunded_4 (t := 7) rfl ?_
  subst hF
  exact J_iret hX hR hlk dX12_refunded_7
abbrev rmX12_held : Room := { frames := 0, cells := 0, slots := 0, locals := 0 }
theorem miX12_held : MI yX12_held cX12_held 1 (some .int) 0 := ⟨q_625, q_136, by decide +kernel, by decide +kernel, by decide +kernel, by decide +kernel⟩
theorem mvX12_held : MV yX12_held := ⟨q_623, q_624⟩
def FX12_held (w : Wd)  : Int32 :=
  (w 1).1 0 10
set_option maxHeartbeats 4000000 in
set_option maxRecDepth 100000 in
theorem ctX12_held {G : GG} {l : Launch} (w : Wd)   {rx : Int32} (hF : FX12_held w  = rx) : CT G l yX12_held cX12_held 1 (some .int) rmX12_held 0 0 [.ref (adr G 0 0)] w (some (.int rx)) w := by
  refine CT.of miX12_held [(0, .ref (adr G 0 0))] rfl (Nat.le_of_ble_eq_true rfl) ?_
  intro p e s m args below meth c hX hR hlk
  have hX : FX G RX12 cX12_held 1 p s m args c := hX
  unfold FX12_held at hF
  refine J_aload_n hX dX12_held_0 0 rfl (t := 1) rfl ?_
  refine J_get hX cb9 kEcho 3 (by decide) q_565 rfl dX12_held_1 (t := 4) rfl ?_
  refine J_get hX cb4 (kMarket (r := 1) ⟨by decide, by decide⟩) 10 (by decide) q_395 rfl dX12_held_4 (t := 7) rfl ?_
  subst hF
  exact J_iret hX hR hlk dX12_held_7
abbrev rmX12_wellDepth : Room := { frames := 0, cells := 0, slots := 0, locals := 0 }
theorem miX12_wellDepth : MI yX12_wellDepth cX12_wellDepth 1 (some .int) 0 := ⟨q_629, q_136, by decide +kernel, by decide +kernel, by decide +kernel, by decide +kernel⟩
theorem mvX12_wellDepth : MV yX12_wellDepth := ⟨q_627, q_628⟩
def FX12_wellDepth (w : Wd)  : Int32 :=
  (w 1).1 0 7
set_option maxHeartbeats 4000000 in
set_option maxRecDepth 100000 in
theorem ctX12_wellDepth {G : GG} {l : Launch} (w : Wd)   {rx : Int32} (hF : FX12_wellDepth w  = rx) : CT G l yX12_wellDepth cX12_wellDepth 1 (some .int) rmX12_wellDepth 0 0 [.ref (adr G 0 0)] w (some (.int rx)) w := by
  refine CT.of miX12_wellDepth [(0, .ref (adr G 0 0))] rfl (Nat.le_of_ble_eq_true rfl) ?_
  intro p e s m args below meth c hX hR hlk
  have hX : FX G RX12 cX12_wellDepth 1 p s m args c := hX
  unfold FX12_wellDepth at hF
  refine J_aload_n hX dX12_wellDepth_0 0 rfl (t := 1) rfl ?_
  refine J_get hX cb9 kEcho 3 (by decide) q_565 rfl dX12_wellDepth_1 (t := 4) rfl ?_
  refine J_get hX cb4 (kMarket (r := 1) ⟨by decide, by decide⟩) 7 (by decide) q_389 rfl dX12_wellDepth_4 (t := 7) rfl ?_
  subst hF
  exact J_iret hX hR hlk dX12_wellDepth_7
abbrev rmX12_openShouts : Room := { frames := 2, cells := 0, slots := 0, locals := 42 }
theorem miX12_openShouts : MI yX12_openShouts cX12_openShouts 1 (some .int) 0 := ⟨q_633, q_136, by decide +kernel, by decide +kernel, by decide +kernel, by decide +kernel⟩
theorem mvX12_openShouts : MV yX12_openShouts := ⟨q_631, q_632⟩
def FX12_openShouts (n : Nat) (w : Wd)  : Option (Int32) :=
  bo1 (FX6_openInAll n (w 1)) fun x2 =>
  some x2
set_option maxHeartbeats 4000000 in
set_option maxRecDepth 100000 in
theorem ctX12_openShouts {G : GG} {l : Launch} (w : Wd)   (n : Nat) {rx : Int32} (hF : FX12_openShouts n w  = some rx) : CT G l yX12_openShouts cX12_openShouts 1 (some .int) rmX12_openShouts 0 0 [.ref (adr G 0 0)] w (some (.int rx)) w := by
  refine CT.of miX12_openShouts [(0, .ref (adr G 0 0))] rfl (Nat.le_of_ble_eq_true rfl) ?_
  intro p e s m args below meth c hX hR hlk
  have hX : FX G RX12 cX12_openShouts 1 p s m args c := hX
  unfold FX12_openShouts at hF
  refine J_aload_n hX dX12_openShouts_0 0 rfl (t := 1) rfl ?_
  refine J_get hX cb9 kEcho 3 (by decide) q_565 rfl dX12_openShouts_1 (t := 4) rfl ?_
  obtain ⟨x2, h1, hF⟩ := bo1_e hF
  have k3 := (CT.self2 (ctX6_openInAll (G := G) (l := l) w 1 ⟨by decide, by decide⟩ (w 1)  n h1))
  refine J_callV hX [] [] [.int x2] k3 miX6_openInAll mvX6_openInAll cb4 (kMarket (r := 1) ⟨by decide, by decide⟩) q_634 ⟨rfl, rfl, Nat.le_of_ble_eq_true rfl, Nat.le_of_ble_eq_true rfl⟩ rfl rfl (Nat.le_of_ble_eq_true rfl) ⟨Nat.le_of_ble_eq_true rfl, Nat.le_of_ble_eq_true rfl⟩ dX12_openShouts_4 (t := 7) rfl rfl ?_
  replace hF := Option.some.inj hF
  subst hF
  exact J_iret hX hR hlk dX12_openShouts_7
abbrev rmX12_valleyAt : Room := { frames := 7, cells := 0, slots := 0, locals := 110 }
theorem miX12_valleyAt : MI yX12_valleyAt cX12_valleyAt 2 (some (.object RX10)) 1 := ⟨q_1323, q_136, by decide +kernel, by decide +kernel, by decide +kernel, by decide +kernel⟩
theorem mvX12_valleyAt : MV yX12_valleyAt := ⟨q_1322, q_27⟩
def FX12_valleyAt (w : Wd) (p1 : Int32) : Option (Except (String × Wd) (Nat)) :=
  bnd (FX6_hasValley (w 1) p1) fun x2 =>
  xo (xw w (FX12_demandIndex x2)) fun _ =>
  gd (inb p1 8) <|
  some (.ok (4 + p1.toNatClampNeg))
set_option maxHeartbeats 4000000 in
set_option maxRecDepth 100000 in
theorem ctX12_valleyAt {G : GG} {l : Launch} (w : Wd) (p1 : Int32)  {rx : Nat} (hF : FX12_valleyAt w p1 = some (.ok rx)) : CT G l yX12_valleyAt cX12_valleyAt 2 (some (.object RX10)) rmX12_valleyAt 0 0 [.ref (adr G 0 0), .int p1] w (some (.ref (adr G 1 rx))) w := by
  refine CT.of miX12_valleyAt [(0, .ref (adr G 0 0)), (1, .int p1)] rfl (Nat.le_of_ble_eq_true rfl) ?_
  intro p e s m args below meth c hX hR hlk
  have hX : FX G RX12 cX12_valleyAt 2 p s m args c := hX
  unfold FX12_valleyAt at hF
  refine J_aload_n hX dX12_valleyAt_0 0 rfl (t := 1) rfl ?_
  refine J_get hX cb9 kEcho 3 (by decide) q_565 rfl dX12_valleyAt_1 (t := 4) rfl ?_
  refine J_iload_n hX dX12_valleyAt_4 1 rfl (t := 5) rfl ?_
  obtain ⟨x2, h1, hF⟩ := bnd_e hF
  have k3 := (CT.self2 (ctX6_hasValley (G := G) (l := l) w 1 ⟨by decide, by decide⟩ (w 1) p1 h1))
  refine J_callV hX [.int p1] [] [.int (bI x2)] k3 miX6_hasValley mvX6_hasValley cb4 (kMarket (r := 1) ⟨by decide, by decide⟩) q_1324 ⟨rfl, rfl, Nat.le_of_ble_eq_true rfl, Nat.le_of_ble_eq_true rfl⟩ rfl rfl (Nat.le_of_ble_eq_true rfl) ⟨Nat.le_of_ble_eq_true rfl, Nat.le_of_ble_eq_true rfl⟩ dX12_valleyAt_5 (t := 8) rfl rfl ?_
  obtain ⟨xu, h4, hF⟩ := xow_ok hF
  refine J_callS hX [.int (bI x2)] [] [] (ctX12_demandIndex (G := G) (l := l) (w := w) x2 h4) miX12_demandIndex q_1326 q_1325 ⟨rfl, rfl, Nat.le_of_ble_eq_true rfl, Nat.le_of_ble_eq_true rfl⟩ rfl rfl (Nat.le_of_ble_eq_true rfl) ⟨Nat.le_of_ble_eq_true rfl, Nat.le_of_ble_eq_true rfl⟩ dX12_valleyAt_8 (t := 11) rfl rfl ?_
  refine J_aload_n hX dX12_valleyAt_11 0 rfl (t := 12) rfl ?_
  refine J_get hX cb9 kEcho 3 (by decide) q_565 rfl dX12_valleyAt_12 (t := 15) rfl ?_
  refine J_get hX cb4 (kMarket (r := 1) ⟨by decide, by decide⟩) 0 (by decide) q_372 rfl dX12_valleyAt_15 (t := 18) rfl ?_
  refine J_iload_n hX dX12_valleyAt_18 1 rfl (t := 19) rfl ?_
  obtain ⟨g5, hF⟩ := gd_e hF
  refine J_aald (k := 3) hX (kValleys (r := 1) ⟨by decide, by decide⟩) rfl g5 dX12_valleyAt_19 (t := 20) rfl ?_
  replace hF := Except.ok.inj (Option.some.inj hF)
  subst hF
  exact J_aret hX hR hlk dX12_valleyAt_20
abbrev rmX12_valleyByte : Room := { frames := 8, cells := 0, slots := 0, locals := 131 }
theorem miX12_valleyByte : MI yX12_valleyByte cX12_valleyByte 3 (some .int) 2 := ⟨q_1319, q_136, by decide +kernel, by decide +kernel, by decide +kernel, by decide +kernel⟩
theorem mvX12_valleyByte : MV yX12_valleyByte := ⟨q_1317, q_1318⟩
def FX12_valleyByte (w : Wd) (p1 : Int32) (p2 : Int32) : Option (Except (String × Wd) (Int32)) :=
  xo (FX12_valleyAt w p1) fun x2 =>
  gd (decide (4 ≤ x2 ∧ x2 < 12)) <|
  bnd (FX12_letterOf ((w 1).2 x2 0) p2) fun x5 =>
  some (.ok x5)
set_option maxHeartbeats 4000000 in
set_option maxRecDepth 100000 in
theorem ctX12_valleyByte {G : GG} {l : Launch} (w : Wd) (p1 : Int32) (p2 : Int32)  {rx : Int32} (hF : FX12_valleyByte w p1 p2 = some (.ok rx)) : CT G l yX12_valleyByte cX12_valleyByte 3 (some .int) rmX12_valleyByte 0 0 [.ref (adr G 0 0), .int p1, .int p2] w (some (.int rx)) w := by
  refine CT.of miX12_valleyByte [(0, .ref (adr G 0 0)), (1, .int p1), (2, .int p2)] rfl (Nat.le_of_ble_eq_true rfl) ?_
  intro p e s m args below meth c hX hR hlk
  have hX : FX G RX12 cX12_valleyByte 3 p s m args c := hX
  unfold FX12_valleyByte at hF
  refine J_aload_n hX dX12_valleyByte_0 0 rfl (t := 1) rfl ?_
  refine J_iload_n hX dX12_valleyByte_1 1 rfl (t := 2) rfl ?_
  obtain ⟨x2, h1, hF⟩ := xo_ok hF
  refine J_callV hX [.int p1] [] [.ref (adr G 1 x2)] (ctX12_valleyAt (G := G) (l := l) w p1 h1) miX12_valleyAt mvX12_valleyAt cb9 kEcho q_1320 ⟨rfl, rfl, Nat.le_of_ble_eq_true rfl, Nat.le_of_ble_eq_true rfl⟩ rfl rfl (Nat.le_of_ble_eq_true rfl) ⟨Nat.le_of_ble_eq_true rfl, Nat.le_of_ble_eq_true rfl⟩ dX12_valleyByte_2 (t := 5) rfl rfl ?_
  obtain ⟨g3, hF⟩ := gd_e hF
  refine J_get hX cb8 (kValley (r := 1) ⟨by decide, by decide⟩ (of_decide_eq_true g3)) 0 (by decide) q_237 rfl dX12_valleyByte_5 (t := 8) rfl ?_
  refine J_iload_n hX dX12_valleyByte_8 2 rfl (t := 9) rfl ?_
  obtain ⟨x5, h4, hF⟩ := bnd_e hF
  have k6 := (ctX12_letterOf (l := l) (G := G) (w := w) ((w 1).2 x2 0) p2 h4)
  refine J_callS hX [.long ((w 1).2 x2 0), .int p2] [] [.int x5] k6 miX12_letterOf q_953 q_1344 ⟨rfl, rfl, Nat.le_of_ble_eq_true rfl, Nat.le_of_ble_eq_true rfl⟩ rfl rfl (Nat.le_of_ble_eq_true rfl) ⟨Nat.le_of_ble_eq_true rfl, Nat.le_of_ble_eq_true rfl⟩ dX12_valleyByte_9 (t := 12) rfl rfl ?_
  replace hF := Except.ok.inj (Option.some.inj hF)
  subst hF
  exact J_iret hX hR hlk dX12_valleyByte_12
def FX12_findValley (n : Nat) (w : Wd)  : Option (Int32) :=
  bo1 (FX9_wholeName n w) fun x2 =>
  bo1 (FX6_valleyNamed n (w 1) x2) fun x5 =>
  some x5
abbrev rmX12_width : Room := { frames := 8, cells := 0, slots := 0, locals := 131 }
theorem miX12_width : MI yX12_width cX12_width 2 (some .int) 1 := ⟨q_1351, q_136, by decide +kernel, by decide +kernel, by decide +kernel, by decide +kernel⟩
theorem mvX12_width : MV yX12_width := ⟨q_1349, q_1350⟩
def FX12_width (w : Wd) (p1 : Int32) : Option (Except (String × Wd) (Int32)) :=
  xo (FX12_valleyAt w p1) fun x2 =>
  gd (decide (4 ≤ x2 ∧ x2 < 12)) <|
  some (.ok ((w 1).1 x2 1))
set_option maxHeartbeats 4000000 in
set_option maxRecDepth 100000 in
theorem ctX12_width {G : GG} {l : Launch} (w : Wd) (p1 : Int32)  {rx : Int32} (hF : FX12_width w p1 = some (.ok rx)) : CT G l yX12_width cX12_width 2 (some .int) rmX12_width 0 0 [.ref (adr G 0 0), .int p1] w (some (.int rx)) w := by
  refine CT.of miX12_width [(0, .ref (adr G 0 0)), (1, .int p1)] rfl (Nat.le_of_ble_eq_true rfl) ?_
  intro p e s m args below meth c hX hR hlk
  have hX : FX G RX12 cX12_width 2 p s m args c := hX
  unfold FX12_width at hF
  refine J_aload_n hX dX12_width_0 0 rfl (t := 1) rfl ?_
  refine J_iload_n hX dX12_width_1 1 rfl (t := 2) rfl ?_
  obtain ⟨x2, h1, hF⟩ := xo_ok hF
  refine J_callV hX [.int p1] [] [.ref (adr G 1 x2)] (ctX12_valleyAt (G := G) (l := l) w p1 h1) miX12_valleyAt mvX12_valleyAt cb9 kEcho q_1320 ⟨rfl, rfl, Nat.le_of_ble_eq_true rfl, Nat.le_of_ble_eq_true rfl⟩ rfl rfl (Nat.le_of_ble_eq_true rfl) ⟨Nat.le_of_ble_eq_true rfl, Nat.le_of_ble_eq_true rfl⟩ dX12_width_2 (t := 5) rfl rfl ?_
  obtain ⟨g3, hF⟩ := gd_e hF
  refine J_get hX cb8 (kValley (r := 1) ⟨by decide, by decide⟩ (of_decide_eq_true g3)) 1 (by decide) q_240 rfl dX12_width_5 (t := 8) rfl ?_
  replace hF := Except.ok.inj (Option.some.inj hF)
  subst hF
  exact J_iret hX hR hlk dX12_width_8
abbrev rmX12_walls : Room := { frames := 8, cells := 0, slots := 0, locals := 131 }
theorem miX12_walls : MI yX12_walls cX12_walls 2 (some .int) 1 := ⟨q_1358, q_136, by decide +kernel, by decide +kernel, by decide +kernel, by decide +kernel⟩
theorem mvX12_walls : MV yX12_walls := ⟨q_1356, q_1357⟩
def FX12_walls (w : Wd) (p1 : Int32) : Option (Except (String × Wd) (Int32)) :=
  xo (FX12_valleyAt w p1) fun x2 =>
  gd (decide (4 ≤ x2 ∧ x2 < 12)) <|
  some (.ok ((w 1).1 x2 2))
set_option maxHeartbeats 4000000 in
set_option maxRecDepth 100000 in
theorem ctX12_walls {G : GG} {l : Launch} (w : Wd) (p1 : Int32)  {rx : Int32} (hF : FX12_walls w p1 = some (.ok rx)) : CT G l yX12_walls cX12_walls 2 (some .int) rmX12_walls 0 0 [.ref (adr G 0 0), .int p1] w (some (.int rx)) w := by
  refine CT.of miX12_walls [(0, .ref (adr G 0 0)), (1, .int p1)] rfl (Nat.le_of_ble_eq_true rfl) ?_
  intro p e s m args below meth c hX hR hlk
  have hX : FX G RX12 cX12_walls 2 p s m args c := hX
  unfold FX12_walls at hF
  refine J_aload_n hX dX12_walls_0 0 rfl (t := 1) rfl ?_
  refine J_iload_n hX dX12_walls_1 1 rfl (t := 2) rfl ?_
  obtain ⟨x2, h1, hF⟩ := xo_ok hF
  refine J_callV hX [.int p1] [] [.ref (adr G 1 x2)] (ctX12_valleyAt (G := G) (l := l) w p1 h1) miX12_valleyAt mvX12_valleyAt cb9 kEcho q_1320 ⟨rfl, rfl, Nat.le_of_ble_eq_true rfl, Nat.le_of_ble_eq_true rfl⟩ rfl rfl (Nat.le_of_ble_eq_true rfl) ⟨Nat.le_of_ble_eq_true rfl, Nat.le_of_ble_eq_true rfl⟩ dX12_walls_2 (t := 5) rfl rfl ?_
  obtain ⟨g3, hF⟩ := gd_e hF
  refine J_get hX cb8 (kValley (r := 1) ⟨by decide, by decide⟩ (of_decide_eq_true g3)) 2 (by decide) q_242 rfl dX12_walls_5 (t := 8) rfl ?_
  replace hF := Except.ok.inj (Option.some.inj hF)
  subst hF
  exact J_iret hX hR hlk dX12_walls_8
abbrev rmX12_price : Room := { frames := 8, cells := 0, slots := 0, locals := 131 }
theorem miX12_price : MI yX12_price cX12_price 2 (some .int) 1 := ⟨q_1365, q_136, by decide +kernel, by decide +kernel, by decide +kernel, by decide +kernel⟩
theorem mvX12_price : MV yX12_price := ⟨q_1363, q_1364⟩
def FX12_price (w : Wd) (p1 : Int32) : Option (Except (String × Wd) (Int32)) :=
  xo (FX12_valleyAt w p1) fun x2 =>
  gd (decide (4 ≤ x2 ∧ x2 < 12)) <|
  some (.ok ((w 1).1 x2 3))
set_option maxHeartbeats 4000000 in
set_option maxRecDepth 100000 in
theorem ctX12_price {G : GG} {l : Launch} (w : Wd) (p1 : Int32)  {rx : Int32} (hF : FX12_price w p1 = some (.ok rx)) : CT G l yX12_price cX12_price 2 (some .int) rmX12_price 0 0 [.ref (adr G 0 0), .int p1] w (some (.int rx)) w := by
  refine CT.of miX12_price [(0, .ref (adr G 0 0)), (1, .int p1)] rfl (Nat.le_of_ble_eq_true rfl) ?_
  intro p e s m args below meth c hX hR hlk
  have hX : FX G RX12 cX12_price 2 p s m args c := hX
  unfold FX12_price at hF
  refine J_aload_n hX dX12_price_0 0 rfl (t := 1) rfl ?_
  refine J_iload_n hX dX12_price_1 1 rfl (t := 2) rfl ?_
  obtain ⟨x2, h1, hF⟩ := xo_ok hF
  refine J_callV hX [.int p1] [] [.ref (adr G 1 x2)] (ctX12_valleyAt (G := G) (l := l) w p1 h1) miX12_valleyAt mvX12_valleyAt cb9 kEcho q_1320 ⟨rfl, rfl, Nat.le_of_ble_eq_true rfl, Nat.le_of_ble_eq_true rfl⟩ rfl rfl (Nat.le_of_ble_eq_true rfl) ⟨Nat.le_of_ble_eq_true rfl, Nat.le_of_ble_eq_true rfl⟩ dX12_price_2 (t := 5) rfl rfl ?_
  obtain ⟨g3, hF⟩ := gd_e hF
  refine J_get hX cb8 (kValley (r := 1) ⟨by decide, by decide⟩ (of_decide_eq_true g3)) 3 (by decide) q_246 rfl dX12_price_5 (t := 8) rfl ?_
  replace hF := Except.ok.inj (Option.some.inj hF)
  subst hF
  exact J_iret hX hR hlk dX12_price_8
abbrev rmX12_rating : Room := { frames := 8, cells := 0, slots := 0, locals := 131 }
theorem miX12_rating : MI yX12_rating cX12_rating 2 (some .int) 1 := ⟨q_1372, q_136, by decide +kernel, by decide +kernel, by decide +kernel, by decide +kernel⟩
theorem mvX12_rating : MV yX12_rating := ⟨q_1370, q_1371⟩
def FX12_rating (w : Wd) (p1 : Int32) : Option (Except (String × Wd) (Int32)) :=
  xo (FX12_valleyAt w p1) fun x2 =>
  gd (decide (4 ≤ x2 ∧ x2 < 12)) <|
  some (.ok ((w 1).1 x2 5))
set_option maxHeartbeats 4000000 in
set_option maxRecDepth 100000 in
theorem ctX12_rating {G : GG} {l : Launch} (w : Wd) (p1 : Int32)  {rx : Int32} (hF : FX12_rating w p1 = some (.ok rx)) : CT G l yX12_rating cX12_rating 2 (some .int) rmX12_rating 0 0 [.ref (adr G 0 0), .int p1] w (some (.int rx)) w := by
  refine CT.of miX12_rating [(0, .ref (adr G 0 0)), (1, .int p1)] rfl (Nat.le_of_ble_eq_true rfl) ?_
  intro p e s m args below meth c hX hR hlk
  have hX : FX G RX12 cX12_rating 2 p s m args c := hX
  unfold FX12_rating at hF
  refine J_aload_n hX dX12_rating_0 0 rfl (t := 1) rfl ?_
  refine J_iload_n hX dX12_rating_1 1 rfl (t := 2) rfl ?_
  obtain ⟨x2, h1, hF⟩ := xo_ok hF
  refine J_callV hX [.int p1] [] [.ref (adr G 1 x2)] (ctX12_valleyAt (G := G) (l := l) w p1 h1) miX12_valleyAt mvX12_valleyAt cb9 kEcho q_1320 ⟨rfl, rfl, Nat.le_of_ble_eq_true rfl, Nat.le_of_ble_eq_true rfl⟩ rfl rfl (Nat.le_of_ble_eq_true rfl) ⟨Nat.le_of_ble_eq_true rfl, Nat.le_of_ble_eq_true rfl⟩ dX12_rating_2 (t := 5) rfl rfl ?_
  obtain ⟨g3, hF⟩ := gd_e hF
  refine J_get hX cb8 (kValley (r := 1) ⟨by decide, by decide⟩ (of_decide_eq_true g3)) 5 (by decide) q_251 rfl dX12_rating_5 (t := 8) rfl ?_
  replace hF := Except.ok.inj (Option.some.inj hF)
  subst hF
  exact J_iret hX hR hlk dX12_rating_8
abbrev rmX12_echoesLost : Room := { frames := 8, cells := 0, slots := 0, locals := 131 }
theorem miX12_echoesLost : MI yX12_echoesLost cX12_echoesLost 2 (some .int) 1 := ⟨q_1379, q_136, by decide +kernel, by decide +kernel, by decide +kernel, by decide +kernel⟩
theorem mvX12_echoesLost : MV yX12_echoesLost := ⟨q_1377, q_1378⟩
def FX12_echoesLost (w : Wd) (p1 : Int32) : Option (Except (String × Wd) (Int32)) :=
  xo (FX12_valleyAt w p1) fun x2 =>
  gd (decide (4 ≤ x2 ∧ x2 < 12)) <|
  some (.ok ((w 1).1 x2 7))
set_option maxHeartbeats 4000000 in
set_option maxRecDepth 100000 in
theorem ctX12_echoesLost {G : GG} {l : Launch} (w : Wd) (p1 : Int32)  {rx : Int32} (hF : FX12_echoesLost w p1 = some (.ok rx)) : CT G l yX12_echoesLost cX12_echoesLost 2 (some .int) rmX12_echoesLost 0 0 [.ref (adr G 0 0), .int p1] w (some (.int rx)) w := by
  refine CT.of miX12_echoesLost [(0, .ref (adr G 0 0)), (1, .int p1)] rfl (Nat.le_of_ble_eq_true rfl) ?_
  intro p e s m args below meth c hX hR hlk
  have hX : FX G RX12 cX12_echoesLost 2 p s m args c := hX
  unfold FX12_echoesLost at hF
  refine J_aload_n hX dX12_echoesLost_0 0 rfl (t := 1) rfl ?_
  refine J_iload_n hX dX12_echoesLost_1 1 rfl (t := 2) rfl ?_
  obtain ⟨x2, h1, hF⟩ := xo_ok hF
  refine J_callV hX [.int p1] [] [.ref (adr G 1 x2)] (ctX12_valleyAt (G := G) (l := l) w p1 h1) miX12_valleyAt mvX12_valleyAt cb9 kEcho q_1320 ⟨rfl, rfl, Nat.le_of_ble_eq_true rfl, Nat.le_of_ble_eq_true rfl⟩ rfl rfl (Nat.le_of_ble_eq_true rfl) ⟨Nat.le_of_ble_eq_true rfl, Nat.le_of_ble_eq_true rfl⟩ dX12_echoesLost_2 (t := 5) rfl rfl ?_
  obtain ⟨g3, hF⟩ := gd_e hF
  refine J_get hX cb8 (kValley (r := 1) ⟨by decide, by decide⟩ (of_decide_eq_true g3)) 7 (by decide) q_256 rfl dX12_echoesLost_5 (t := 8) rfl ?_
  replace hF := Except.ok.inj (Option.some.inj hF)
  subst hF
  exact J_iret hX hR hlk dX12_echoesLost_8
def FX12_earnedIn (w : Wd) (p1 : Int32) : Option (Except (String × Wd) (Int32)) :=
  xo (FX12_valleyAt w p1) fun x2 =>
  gd (decide (4 ≤ x2 ∧ x2 < 12)) <|
  some (.ok ((w 1).1 x2 6))
def FX12_bestValley (n : Nat) (w : Wd)  : Option (Int32) :=
  bo1 (FX6_valleyRatedBest n (w 1)) fun x2 =>
  some x2
def FX12_valleyByName (n : Nat) (w : Wd) (p1 : Int32) : Option (Int32) :=
  bo1 (FX6_valleyRanked n (w 1) p1) fun x2 =>
  some x2
def FX12_findCustomer (n : Nat) (w : Wd)  : Option (Int32) :=
  bo1 (FX9_wholeName n w) fun x2 =>
  bo1 (FX6_customerNamed n (w 1) x2) fun x5 =>
  some x5
abbrev rmX12_customerAt : Room := { frames := 7, cells := 0, slots := 0, locals := 110 }
theorem miX12_customerAt : MI yX12_customerAt cX12_customerAt 2 (some (.object RX2)) 1 := ⟨q_1397, q_136, by decide +kernel, by decide +kernel, by decide +kernel, by decide +kernel⟩
theorem mvX12_customerAt : MV yX12_customerAt := ⟨q_1396, q_28⟩
def FX12_customerAt (w : Wd) (p1 : Int32) : Option (Except (String × Wd) (Nat)) :=
  bnd (FX6_hasCustomer (w 1) p1) fun x2 =>
  xo (xw w (FX12_demandIndex x2)) fun _ =>
  gd (inb p1 8) <|
  some (.ok (12 + p1.toNatClampNeg))
set_option maxHeartbeats 4000000 in
set_option maxRecDepth 100000 in
theorem ctX12_customerAt {G : GG} {l : Launch} (w : Wd) (p1 : Int32)  {rx : Nat} (hF : FX12_customerAt w p1 = some (.ok rx)) : CT G l yX12_customerAt cX12_customerAt 2 (some (.object RX2)) rmX12_customerAt 0 0 [.ref (adr G 0 0), .int p1] w (some (.ref (adr G 1 rx))) w := by
  refine CT.of miX12_customerAt [(0, .ref (adr G 0 0)), (1, .int p1)] rfl (Nat.le_of_ble_eq_true rfl) ?_
  intro p e s m args below meth c hX hR hlk
  have hX : FX G RX12 cX12_customerAt 2 p s m args c := hX
  unfold FX12_customerAt at hF
  refine J_aload_n hX dX12_customerAt_0 0 rfl (t := 1) rfl ?_
  refine J_get hX cb9 kEcho 3 (by decide) q_565 rfl dX12_customerAt_1 (t := 4) rfl ?_
  refine J_iload_n hX dX12_customerAt_4 1 rfl (t := 5) rfl ?_
  obtain ⟨x2, h1, hF⟩ := bnd_e hF
  have k3 := (CT.self2 (ctX6_hasCustomer (G := G) (l := l) w 1 ⟨by decide, by decide⟩ (w 1) p1 h1))
  refine J_callV hX [.int p1] [] [.int (bI x2)] k3 miX6_hasCustomer mvX6_hasCustomer cb4 (kMarket (r := 1) ⟨by decide, by decide⟩) q_1398 ⟨rfl, rfl, Nat.le_of_ble_eq_true rfl, Nat.le_of_ble_eq_true rfl⟩ rfl rfl (Nat.le_of_ble_eq_true rfl) ⟨Nat.le_of_ble_eq_true rfl, Nat.le_of_ble_eq_true rfl⟩ dX12_customerAt_5 (t := 8) rfl rfl ?_
  obtain ⟨xu, h4, hF⟩ := xow_ok hF
  refine J_callS hX [.int (bI x2)] [] [] (ctX12_demandIndex (G := G) (l := l) (w := w) x2 h4) miX12_demandIndex q_1326 q_1325 ⟨rfl, rfl, Nat.le_of_ble_eq_true rfl, Nat.le_of_ble_eq_true rfl⟩ rfl rfl (Nat.le_of_ble_eq_true rfl) ⟨Nat.le_of_ble_eq_true rfl, Nat.le_of_ble_eq_true rfl⟩ dX12_customerAt_8 (t := 11) rfl rfl ?_
  refine J_aload_n hX dX12_customerAt_11 0 rfl (t := 12) rfl ?_
  refine J_get hX cb9 kEcho 3 (by decide) q_565 rfl dX12_customerAt_12 (t := 15) rfl ?_
  refine J_get hX cb4 (kMarket (r := 1) ⟨by decide, by decide⟩) 1 (by decide) q_374 rfl dX12_customerAt_15 (t := 18) rfl ?_
  refine J_iload_n hX dX12_customerAt_18 1 rfl (t := 19) rfl ?_
  obtain ⟨g5, hF⟩ := gd_e hF
  refine J_aald (k := 4) hX (kCustomers (r := 1) ⟨by decide, by decide⟩) rfl g5 dX12_customerAt_19 (t := 20) rfl ?_
  replace hF := Except.ok.inj (Option.some.inj hF)
  subst hF
  exact J_aret hX hR hlk dX12_customerAt_20
abbrev rmX12_money : Room := { frames := 8, cells := 0, slots := 0, locals := 131 }
theorem miX12_money : MI yX12_money cX12_money 2 (some .int) 1 := ⟨q_1393, q_136, by decide +kernel, by decide +kernel, by decide +kernel, by decide +kernel⟩
theorem mvX12_money : MV yX12_money := ⟨q_1391, q_1392⟩
def FX12_money (w : Wd) (p1 : Int32) : Option (Except (String × Wd) (Int32)) :=
  xo (FX12_customerAt w p1) fun x2 =>
  gd (decide (12 ≤ x2 ∧ x2 < 20)) <|
  some (.ok ((w 1).1 x2 3))
set_option maxHeartbeats 4000000 in
set_option maxRecDepth 100000 in
theorem ctX12_money {G : GG} {l : Launch} (w : Wd) (p1 : Int32)  {rx : Int32} (hF : FX12_money w p1 = some (.ok rx)) : CT G l yX12_money cX12_money 2 (some .int) rmX12_money 0 0 [.ref (adr G 0 0), .int p1] w (some (.int rx)) w := by
  refine CT.of miX12_money [(0, .ref (adr G 0 0)), (1, .int p1)] rfl (Nat.le_of_ble_eq_true rfl) ?_
  intro p e s m args below meth c hX hR hlk
  have hX : FX G RX12 cX12_money 2 p s m args c := hX
  unfold FX12_money at hF
  refine J_aload_n hX dX12_money_0 0 rfl (t := 1) rfl ?_
  refine J_iload_n hX dX12_money_1 1 rfl (t := 2) rfl ?_
  obtain ⟨x2, h1, hF⟩ := xo_ok hF
  refine J_callV hX [.int p1] [] [.ref (adr G 1 x2)] (ctX12_customerAt (G := G) (l := l) w p1 h1) miX12_customerAt mvX12_customerAt cb9 kEcho q_1394 ⟨rfl, rfl, Nat.le_of_ble_eq_true rfl, Nat.le_of_ble_eq_true rfl⟩ rfl rfl (Nat.le_of_ble_eq_true rfl) ⟨Nat.le_of_ble_eq_true rfl, Nat.le_of_ble_eq_true rfl⟩ dX12_money_2 (t := 5) rfl rfl ?_
  obtain ⟨g3, hF⟩ := gd_e hF
  refine J_get hX cb1 (kCustomer (r := 1) ⟨by decide, by decide⟩ (of_decide_eq_true g3)) 3 (by decide) q_290 rfl dX12_money_5 (t := 8) rfl ?_
  replace hF := Except.ok.inj (Option.some.inj hF)
  subst hF
  exact J_iret hX hR hlk dX12_money_8
abbrev rmX12_patience : Room := { frames := 8, cells := 0, slots := 0, locals := 131 }
theorem miX12_patience : MI yX12_patience cX12_patience 2 (some .int) 1 := ⟨q_1405, q_136, by decide +kernel, by decide +kernel, by decide +kernel, by decide +kernel⟩
theorem mvX12_patience : MV yX12_patience := ⟨q_1403, q_1404⟩
def FX12_patience (w : Wd) (p1 : Int32) : Option (Except (String × Wd) (Int32)) :=
  xo (FX12_customerAt w p1) fun x2 =>
  gd (decide (12 ≤ x2 ∧ x2 < 20)) <|
  some (.ok ((w 1).1 x2 1))
set_option maxHeartbeats 4000000 in
set_option maxRecDepth 100000 in
theorem ctX12_patience {G : GG} {l : Launch} (w : Wd) (p1 : Int32)  {rx : Int32} (hF : FX12_patience w p1 = some (.ok rx)) : CT G l yX12_patience cX12_patience 2 (some .int) rmX12_patience 0 0 [.ref (adr G 0 0), .int p1] w (some (.int rx)) w := by
  refine CT.of miX12_patience [(0, .ref (adr G 0 0)), (1, .int p1)] rfl (Nat.le_of_ble_eq_true rfl) ?_
  intro p e s m args below meth c hX hR hlk
  have hX : FX G RX12 cX12_patience 2 p s m args c := hX
  unfold FX12_patience at hF
  refine J_aload_n hX dX12_patience_0 0 rfl (t := 1) rfl ?_
  refine J_iload_n hX dX12_patience_1 1 rfl (t := 2) rfl ?_
  obtain ⟨x2, h1, hF⟩ := xo_ok hF
  refine J_callV hX [.int p1] [] [.ref (adr G 1 x2)] (ctX12_customerAt (G := G) (l := l) w p1 h1) miX12_customerAt mvX12_customerAt cb9 kEcho q_1394 ⟨rfl, rfl, Nat.le_of_ble_eq_true rfl, Nat.le_of_ble_eq_true rfl⟩ rfl rfl (Nat.le_of_ble_eq_true rfl) ⟨Nat.le_of_ble_eq_true rfl, Nat.le_of_ble_eq_true rfl⟩ dX12_patience_2 (t := 5) rfl rfl ?_
  obtain ⟨g3, hF⟩ := gd_e hF
  refine J_get hX cb1 (kCustomer (r := 1) ⟨by decide, by decide⟩ (of_decide_eq_true g3)) 1 (by decide) q_285 rfl dX12_patience_5 (t := 8) rfl ?_
  replace hF := Except.ok.inj (Option.some.inj hF)
  subst hF
  exact J_iret hX hR hlk dX12_patience_8
abbrev rmX12_suspicion : Room := { frames := 8, cells := 0, slots := 0, locals := 131 }
theorem miX12_suspicion : MI yX12_suspicion cX12_suspicion 2 (some .int) 1 := ⟨q_1412, q_136, by decide +kernel, by decide +kernel, by decide +kernel, by decide +kernel⟩
theorem mvX12_suspicion : MV yX12_suspicion := ⟨q_1410, q_1411⟩
def FX12_suspicion (w : Wd) (p1 : Int32) : Option (Except (String × Wd) (Int32)) :=
  xo (FX12_customerAt w p1) fun x2 =>
  gd (decide (12 ≤ x2 ∧ x2 < 20)) <|
  some (.ok ((w 1).1 x2 4))
set_option maxHeartbeats 4000000 in
set_option maxRecDepth 100000 in
theorem ctX12_suspicion {G : GG} {l : Launch} (w : Wd) (p1 : Int32)  {rx : Int32} (hF : FX12_suspicion w p1 = some (.ok rx)) : CT G l yX12_suspicion cX12_suspicion 2 (some .int) rmX12_suspicion 0 0 [.ref (adr G 0 0), .int p1] w (some (.int rx)) w := by
  refine CT.of miX12_suspicion [(0, .ref (adr G 0 0)), (1, .int p1)] rfl (Nat.le_of_ble_eq_true rfl) ?_
  intro p e s m args below meth c hX hR hlk
  have hX : FX G RX12 cX12_suspicion 2 p s m args c := hX
  unfold FX12_suspicion at hF
  refine J_aload_n hX dX12_suspicion_0 0 rfl (t := 1) rfl ?_
  refine J_iload_n hX dX12_suspicion_1 1 rfl (t := 2) rfl ?_
  obtain ⟨x2, h1, hF⟩ := xo_ok hF
  refine J_callV hX [.int p1] [] [.ref (adr G 1 x2)] (ctX12_customerAt (G := G) (l := l) w p1 h1) miX12_customerAt mvX12_customerAt cb9 kEcho q_1394 ⟨rfl, rfl, Nat.le_of_ble_eq_true rfl, Nat.le_of_ble_eq_true rfl⟩ rfl rfl (Nat.le_of_ble_eq_true rfl) ⟨Nat.le_of_ble_eq_true rfl, Nat.le_of_ble_eq_true rfl⟩ dX12_suspicion_2 (t := 5) rfl rfl ?_
  obtain ⟨g3, hF⟩ := gd_e hF
  refine J_get hX cb1 (kCustomer (r := 1) ⟨by decide, by decide⟩ (of_decide_eq_true g3)) 4 (by decide) q_292 rfl dX12_suspicion_5 (t := 8) rfl ?_
  replace hF := Except.ok.inj (Option.some.inj hF)
  subst hF
  exact J_iret hX hR hlk dX12_suspicion_8
abbrev rmX12_isAngry : Room := { frames := 8, cells := 0, slots := 0, locals := 131 }
theorem miX12_isAngry : MI yX12_isAngry cX12_isAngry 2 (some .boolean) 1 := ⟨q_1419, q_136, by decide +kernel, by decide +kernel, by decide +kernel, by decide +kernel⟩
theorem mvX12_isAngry : MV yX12_isAngry := ⟨q_1417, q_1418⟩
def FX12_isAngry (w : Wd) (p1 : Int32) : Option (Except (String × Wd) (Bool)) :=
  xo (FX12_customerAt w p1) fun x2 =>
  gd (decide (12 ≤ x2 ∧ x2 < 20)) <|
  bnd (FX2_hasAnger (w 1) x2) fun x5 =>
  some (.ok x5)
set_option maxHeartbeats 4000000 in
set_option maxRecDepth 100000 in
theorem ctX12_isAngry {G : GG} {l : Launch} (w : Wd) (p1 : Int32)  {rx : Bool} (hF : FX12_isAngry w p1 = some (.ok rx)) : CT G l yX12_isAngry cX12_isAngry 2 (some .boolean) rmX12_isAngry 0 0 [.ref (adr G 0 0), .int p1] w (some (.int (bI rx))) w := by
  refine CT.of miX12_isAngry [(0, .ref (adr G 0 0)), (1, .int p1)] rfl (Nat.le_of_ble_eq_true rfl) ?_
  intro p e s m args below meth c hX hR hlk
  have hX : FX G RX12 cX12_isAngry 2 p s m args c := hX
  unfold FX12_isAngry at hF
  refine J_aload_n hX dX12_isAngry_0 0 rfl (t := 1) rfl ?_
  refine J_iload_n hX dX12_isAngry_1 1 rfl (t := 2) rfl ?_
  obtain ⟨x2, h1, hF⟩ := xo_ok hF
  refine J_callV hX [.int p1] [] [.ref (adr G 1 x2)] (ctX12_customerAt (G := G) (l := l) w p1 h1) miX12_customerAt mvX12_customerAt cb9 kEcho q_1394 ⟨rfl, rfl, Nat.le_of_ble_eq_true rfl, Nat.le_of_ble_eq_true rfl⟩ rfl rfl (Nat.le_of_ble_eq_true rfl) ⟨Nat.le_of_ble_eq_true rfl, Nat.le_of_ble_eq_true rfl⟩ dX12_isAngry_2 (t := 5) rfl rfl ?_
  obtain ⟨g3, hF⟩ := gd_e hF
  obtain ⟨x5, h4, hF⟩ := bnd_e hF
  have k6 := (CT.self2 (ctX2_hasAnger (G := G) (l := l) w 1 ⟨by decide, by decide⟩ (w 1) x2 (of_decide_eq_true g3) h4))
  refine J_callV hX [] [] [.int (bI x5)] k6 miX2_hasAnger mvX2_hasAnger cb1 (kCustomer (r := 1) ⟨by decide, by decide⟩ (of_decide_eq_true g3)) q_1420 ⟨rfl, rfl, Nat.le_of_ble_eq_true rfl, Nat.le_of_ble_eq_true rfl⟩ rfl rfl (Nat.le_of_ble_eq_true rfl) ⟨Nat.le_of_ble_eq_true rfl, Nat.le_of_ble_eq_true rfl⟩ dX12_isAngry_5 (t := 8) rfl rfl ?_
  replace hF := Except.ok.inj (Option.some.inj hF)
  subst hF
  exact J_zret (b := x5) hX hR hlk dX12_isAngry_8
abbrev rmX12_echoesHeard : Room := { frames := 8, cells := 0, slots := 0, locals := 131 }
theorem miX12_echoesHeard : MI yX12_echoesHeard cX12_echoesHeard 2 (some .int) 1 := ⟨q_1427, q_136, by decide +kernel, by decide +kernel, by decide +kernel, by decide +kernel⟩
theorem mvX12_echoesHeard : MV yX12_echoesHeard := ⟨q_1425, q_1426⟩
def FX12_echoesHeard (w : Wd) (p1 : Int32) : Option (Except (String × Wd) (Int32)) :=
  xo (FX12_customerAt w p1) fun x2 =>
  gd (decide (12 ≤ x2 ∧ x2 < 20)) <|
  some (.ok ((w 1).1 x2 6))
set_option maxHeartbeats 4000000 in
set_option maxRecDepth 100000 in
theorem ctX12_echoesHeard {G : GG} {l : Launch} (w : Wd) (p1 : Int32)  {rx : Int32} (hF : FX12_echoesHeard w p1 = some (.ok rx)) : CT G l yX12_echoesHeard cX12_echoesHeard 2 (some .int) rmX12_echoesHeard 0 0 [.ref (adr G 0 0), .int p1] w (some (.int rx)) w := by
  refine CT.of miX12_echoesHeard [(0, .ref (adr G 0 0)), (1, .int p1)] rfl (Nat.le_of_ble_eq_true rfl) ?_
  intro p e s m args below meth c hX hR hlk
  have hX : FX G RX12 cX12_echoesHeard 2 p s m args c := hX
  unfold FX12_echoesHeard at hF
  refine J_aload_n hX dX12_echoesHeard_0 0 rfl (t := 1) rfl ?_
  refine J_iload_n hX dX12_echoesHeard_1 1 rfl (t := 2) rfl ?_
  obtain ⟨x2, h1, hF⟩ := xo_ok hF
  refine J_callV hX [.int p1] [] [.ref (adr G 1 x2)] (ctX12_customerAt (G := G) (l := l) w p1 h1) miX12_customerAt mvX12_customerAt cb9 kEcho q_1394 ⟨rfl, rfl, Nat.le_of_ble_eq_true rfl, Nat.le_of_ble_eq_true rfl⟩ rfl rfl (Nat.le_of_ble_eq_true rfl) ⟨Nat.le_of_ble_eq_true rfl, Nat.le_of_ble_eq_true rfl⟩ dX12_echoesHeard_2 (t := 5) rfl rfl ?_
  obtain ⟨g3, hF⟩ := gd_e hF
  refine J_get hX cb1 (kCustomer (r := 1) ⟨by decide, by decide⟩ (of_decide_eq_true g3)) 6 (by decide) q_299 rfl dX12_echoesHeard_5 (t := 8) rfl ?_
  replace hF := Except.ok.inj (Option.some.inj hF)
  subst hF
  exact J_iret hX hR hlk dX12_echoesHeard_8
abbrev rmX12_heldFor : Room := { frames := 8, cells := 0, slots := 0, locals := 131 }
theorem miX12_heldFor : MI yX12_heldFor cX12_heldFor 2 (some .int) 1 := ⟨q_1434, q_136, by decide +kernel, by decide +kernel, by decide +kernel, by decide +kernel⟩
theorem mvX12_heldFor : MV yX12_heldFor := ⟨q_1432, q_1433⟩
def FX12_heldFor (w : Wd) (p1 : Int32) : Option (Except (String × Wd) (Int32)) :=
  xo (FX12_customerAt w p1) fun x2 =>
  gd (decide (12 ≤ x2 ∧ x2 < 20)) <|
  some (.ok ((w 1).1 x2 5))
set_option maxHeartbeats 4000000 in
set_option maxRecDepth 100000 in
theorem ctX12_heldFor {G : GG} {l : Launch} (w : Wd) (p1 : Int32)  {rx : Int32} (hF : FX12_heldFor w p1 = some (.ok rx)) : CT G l yX12_heldFor cX12_heldFor 2 (some .int) rmX12_heldFor 0 0 [.ref (adr G 0 0), .int p1] w (some (.int rx)) w := by
  refine CT.of miX12_heldFor [(0, .ref (adr G 0 0)), (1, .int p1)] rfl (Nat.le_of_ble_eq_true rfl) ?_
  intro p e s m args below meth c hX hR hlk
  have hX : FX G RX12 cX12_heldFor 2 p s m args c := hX
  unfold FX12_heldFor at hF
  refine J_aload_n hX dX12_heldFor_0 0 rfl (t := 1) rfl ?_
  refine J_iload_n hX dX12_heldFor_1 1 rfl (t := 2) rfl ?_
  obtain ⟨x2, h1, hF⟩ := xo_ok hF
  refine J_callV hX [.int p1] [] [.ref (adr G 1 x2)] (ctX12_customerAt (G := G) (l := l) w p1 h1) miX12_customerAt mvX12_customerAt cb9 kEcho q_1394 ⟨rfl, rfl, Nat.le_of_ble_eq_true rfl, Nat.le_of_ble_eq_true rfl⟩ rfl rfl (Nat.le_of_ble_eq_true rfl) ⟨Nat.le_of_ble_eq_true rfl, Nat.le_of_ble_eq_true rfl⟩ dX12_heldFor_2 (t := 5) rfl rfl ?_
  obtain ⟨g3, hF⟩ := gd_e hF
  refine J_get hX cb1 (kCustomer (r := 1) ⟨by decide, by decide⟩ (of_decide_eq_true g3)) 5 (by decide) q_296 rfl dX12_heldFor_5 (t := 8) rfl ?_
  replace hF := Except.ok.inj (Option.some.inj hF)
  subst hF
  exact J_iret hX hR hlk dX12_heldFor_8
def FX12_angryCustomers (n : Nat) (w : Wd)  : Option (Int32) :=
  bo1 (FX6_angerMask n (w 1)) fun x2 =>
  some x2
def FX12_bestCustomer (n : Nat) (w : Wd)  : Option (Int32) :=
  bo1 (FX6_customerHearingMost n (w 1)) fun x2 =>
  some x2
abbrev rmX12_shoutAt : Room := { frames := 7, cells := 0, slots := 0, locals := 110 }
theorem miX12_shoutAt : MI yX12_shoutAt cX12_shoutAt 2 (some (.object RX8)) 1 := ⟨q_1445, q_136, by decide +kernel, by decide +kernel, by decide +kernel, by decide +kernel⟩
theorem mvX12_shoutAt : MV yX12_shoutAt := ⟨q_1444, q_29⟩
def FX12_shoutAt (w : Wd) (p1 : Int32) : Option (Except (String × Wd) (Nat)) :=
  bnd (FX6_hasShout (w 1) p1) fun x2 =>
  xo (xw w (FX12_demandIndex x2)) fun _ =>
  gd (inb p1 30) <|
  some (.ok (20 + p1.toNatClampNeg))
set_option maxHeartbeats 4000000 in
set_option maxRecDepth 100000 in
theorem ctX12_shoutAt {G : GG} {l : Launch} (w : Wd) (p1 : Int32)  {rx : Nat} (hF : FX12_shoutAt w p1 = some (.ok rx)) : CT G l yX12_shoutAt cX12_shoutAt 2 (some (.object RX8)) rmX12_shoutAt 0 0 [.ref (adr G 0 0), .int p1] w (some (.ref (adr G 1 rx))) w := by
  refine CT.of miX12_shoutAt [(0, .ref (adr G 0 0)), (1, .int p1)] rfl (Nat.le_of_ble_eq_true rfl) ?_
  intro p e s m args below meth c hX hR hlk
  have hX : FX G RX12 cX12_shoutAt 2 p s m args c := hX
  unfold FX12_shoutAt at hF
  refine J_aload_n hX dX12_shoutAt_0 0 rfl (t := 1) rfl ?_
  refine J_get hX cb9 kEcho 3 (by decide) q_565 rfl dX12_shoutAt_1 (t := 4) rfl ?_
  refine J_iload_n hX dX12_shoutAt_4 1 rfl (t := 5) rfl ?_
  obtain ⟨x2, h1, hF⟩ := bnd_e hF
  have k3 := (CT.self2 (ctX6_hasShout (G := G) (l := l) w 1 ⟨by decide, by decide⟩ (w 1) p1 h1))
  refine J_callV hX [.int p1] [] [.int (bI x2)] k3 miX6_hasShout mvX6_hasShout cb4 (kMarket (r := 1) ⟨by decide, by decide⟩) q_1446 ⟨rfl, rfl, Nat.le_of_ble_eq_true rfl, Nat.le_of_ble_eq_true rfl⟩ rfl rfl (Nat.le_of_ble_eq_true rfl) ⟨Nat.le_of_ble_eq_true rfl, Nat.le_of_ble_eq_true rfl⟩ dX12_shoutAt_5 (t := 8) rfl rfl ?_
  obtain ⟨xu, h4, hF⟩ := xow_ok hF
  refine J_callS hX [.int (bI x2)] [] [] (ctX12_demandIndex (G := G) (l := l) (w := w) x2 h4) miX12_demandIndex q_1326 q_1325 ⟨rfl, rfl, Nat.le_of_ble_eq_true rfl, Nat.le_of_ble_eq_true rfl⟩ rfl rfl (Nat.le_of_ble_eq_true rfl) ⟨Nat.le_of_ble_eq_true rfl, Nat.le_of_ble_eq_true rfl⟩ dX12_shoutAt_8 (t := 11) rfl rfl ?_
  refine J_aload_n hX dX12_shoutAt_11 0 rfl (t := 12) rfl ?_
  refine J_get hX cb9 kEcho 3 (by decide) q_565 rfl dX12_shoutAt_12 (t := 15) rfl ?_
  refine J_get hX cb4 (kMarket (r := 1) ⟨by decide, by decide⟩) 2 (by decide) q_376 rfl dX12_shoutAt_15 (t := 18) rfl ?_
  refine J_iload_n hX dX12_shoutAt_18 1 rfl (t := 19) rfl ?_
  obtain ⟨g5, hF⟩ := gd_e hF
  refine J_aald (k := 5) hX (kShouts (r := 1) ⟨by decide, by decide⟩) rfl g5 dX12_shoutAt_19 (t := 20) rfl ?_
  replace hF := Except.ok.inj (Option.some.inj hF)
  subst hF
  exact J_aret hX hR hlk dX12_shoutAt_20
abbrev rmX12_shoutCustomer : Room := { frames := 8, cells := 0, slots := 0, locals := 131 }
theorem miX12_shoutCustomer : MI yX12_shoutCustomer cX12_shoutCustomer 2 (some .int) 1 := ⟨q_1441, q_136, by decide +kernel, by decide +kernel, by decide +kernel, by decide +kernel⟩
theorem mvX12_shoutCustomer : MV yX12_shoutCustomer := ⟨q_1439, q_1440⟩
def FX12_shoutCustomer (w : Wd) (p1 : Int32) : Option (Except (String × Wd) (Int32)) :=
  xo (FX12_shoutAt w p1) fun x2 =>
  gd (decide (20 ≤ x2 ∧ x2 < 50)) <|
  some (.ok ((w 1).1 x2 0))
set_option maxHeartbeats 4000000 in
set_option maxRecDepth 100000 in
theorem ctX12_shoutCustomer {G : GG} {l : Launch} (w : Wd) (p1 : Int32)  {rx : Int32} (hF : FX12_shoutCustomer w p1 = some (.ok rx)) : CT G l yX12_shoutCustomer cX12_shoutCustomer 2 (some .int) rmX12_shoutCustomer 0 0 [.ref (adr G 0 0), .int p1] w (some (.int rx)) w := by
  refine CT.of miX12_shoutCustomer [(0, .ref (adr G 0 0)), (1, .int p1)] rfl (Nat.le_of_ble_eq_true rfl) ?_
  intro p e s m args below meth c hX hR hlk
  have hX : FX G RX12 cX12_shoutCustomer 2 p s m args c := hX
  unfold FX12_shoutCustomer at hF
  refine J_aload_n hX dX12_shoutCustomer_0 0 rfl (t := 1) rfl ?_
  refine J_iload_n hX dX12_shoutCustomer_1 1 rfl (t := 2) rfl ?_
  obtain ⟨x2, h1, hF⟩ := xo_ok hF
  refine J_callV hX [.int p1] [] [.ref (adr G 1 x2)] (ctX12_shoutAt (G := G) (l := l) w p1 h1) miX12_shoutAt mvX12_shoutAt cb9 kEcho q_1442 ⟨rfl, rfl, Nat.le_of_ble_eq_true rfl, Nat.le_of_ble_eq_true rfl⟩ rfl rfl (Nat.le_of_ble_eq_true rfl) ⟨Nat.le_of_ble_eq_true rfl, Nat.le_of_ble_eq_true rfl⟩ dX12_shoutCustomer_2 (t := 5) rfl rfl ?_
  obtain ⟨g3, hF⟩ := gd_e hF
  refine J_get hX cb6 (kShout (r := 1) ⟨by decide, by decide⟩ (of_decide_eq_true g3)) 0 (by decide) q_322 rfl dX12_shoutCustomer_5 (t := 8) rfl ?_
  replace hF := Except.ok.inj (Option.some.inj hF)
  subst hF
  exact J_iret hX hR hlk dX12_shoutCustomer_8
abbrev rmX12_shoutValley : Room := { frames := 8, cells := 0, slots := 0, locals := 131 }
theorem miX12_shoutValley : MI yX12_shoutValley cX12_shoutValley 2 (some .int) 1 := ⟨q_1453, q_136, by decide +kernel, by decide +kernel, by decide +kernel, by decide +kernel⟩
theorem mvX12_shoutValley : MV yX12_shoutValley := ⟨q_1451, q_1452⟩
def FX12_shoutValley (w : Wd) (p1 : Int32) : Option (Except (String × Wd) (Int32)) :=
  xo (FX12_shoutAt w p1) fun x2 =>
  gd (decide (20 ≤ x2 ∧ x2 < 50)) <|
  some (.ok ((w 1).1 x2 1))
set_option maxHeartbeats 4000000 in
set_option maxRecDepth 100000 in
theorem ctX12_shoutValley {G : GG} {l : Launch} (w : Wd) (p1 : Int32)  {rx : Int32} (hF : FX12_shoutValley w p1 = some (.ok rx)) : CT G l yX12_shoutValley cX12_shoutValley 2 (some .int) rmX12_shoutValley 0 0 [.ref (adr G 0 0), .int p1] w (some (.int rx)) w := by
  refine CT.of miX12_shoutValley [(0, .ref (adr G 0 0)), (1, .int p1)] rfl (Nat.le_of_ble_eq_true rfl) ?_
  intro p e s m args below meth c hX hR hlk
  have hX : FX G RX12 cX12_shoutValley 2 p s m args c := hX
  unfold FX12_shoutValley at hF
  refine J_aload_n hX dX12_shoutValley_0 0 rfl (t := 1) rfl ?_
  refine J_iload_n hX dX12_shoutValley_1 1 rfl (t := 2) rfl ?_
  obtain ⟨x2, h1, hF⟩ := xo_ok hF
  refine J_callV hX [.int p1] [] [.ref (adr G 1 x2)] (ctX12_shoutAt (G := G) (l := l) w p1 h1) miX12_shoutAt mvX12_shoutAt cb9 kEcho q_1442 ⟨rfl, rfl, Nat.le_of_ble_eq_true rfl, Nat.le_of_ble_eq_true rfl⟩ rfl rfl (Nat.le_of_ble_eq_true rfl) ⟨Nat.le_of_ble_eq_true rfl, Nat.le_of_ble_eq_true rfl⟩ dX12_shoutValley_2 (t := 5) rfl rfl ?_
  obtain ⟨g3, hF⟩ := gd_e hF
  refine J_get hX cb6 (kShout (r := 1) ⟨by decide, by decide⟩ (of_decide_eq_true g3)) 1 (by decide) q_325 rfl dX12_shoutValley_5 (t := 8) rfl ?_
  replace hF := Except.ok.inj (Option.some.inj hF)
  subst hF
  exact J_iret hX hR hlk dX12_shoutValley_8
abbrev rmX12_shoutState : Room := { frames := 8, cells := 0, slots := 0, locals := 131 }
theorem miX12_shoutState : MI yX12_shoutState cX12_shoutState 2 (some .int) 1 := ⟨q_1460, q_136, by decide +kernel, by decide +kernel, by decide +kernel, by decide +kernel⟩
theorem mvX12_shoutState : MV yX12_shoutState := ⟨q_1458, q_1459⟩
def FX12_shoutState (w : Wd) (p1 : Int32) : Option (Except (String × Wd) (Int32)) :=
  xo (FX12_shoutAt w p1) fun x2 =>
  gd (decide (20 ≤ x2 ∧ x2 < 50)) <|
  some (.ok ((w 1).1 x2 8))
set_option maxHeartbeats 4000000 in
set_option maxRecDepth 100000 in
theorem ctX12_shoutState {G : GG} {l : Launch} (w : Wd) (p1 : Int32)  {rx : Int32} (hF : FX12_shoutState w p1 = some (.ok rx)) : CT G l yX12_shoutState cX12_shoutState 2 (some .int) rmX12_shoutState 0 0 [.ref (adr G 0 0), .int p1] w (some (.int rx)) w := by
  refine CT.of miX12_shoutState [(0, .ref (adr G 0 0)), (1, .int p1)] rfl (Nat.le_of_ble_eq_true rfl) ?_
  intro p e s m args below meth c hX hR hlk
  have hX : FX G RX12 cX12_shoutState 2 p s m args c := hX
  unfold FX12_shoutState at hF
  refine J_aload_n hX dX12_shoutState_0 0 rfl (t := 1) rfl ?_
  refine J_iload_n hX dX12_shoutState_1 1 rfl (t := 2) rfl ?_
  obtain ⟨x2, h1, hF⟩ := xo_ok hF
  refine J_callV hX [.int p1] [] [.ref (adr G 1 x2)] (ctX12_shoutAt (G := G) (l := l) w p1 h1) miX12_shoutAt mvX12_shoutAt cb9 kEcho q_1442 ⟨rfl, rfl, Nat.le_of_ble_eq_true rfl, Nat.le_of_ble_eq_true rfl⟩ rfl rfl (Nat.le_of_ble_eq_true rfl) ⟨Nat.le_of_ble_eq_true rfl, Nat.le_of_ble_eq_true rfl⟩ dX12_shoutState_2 (t := 5) rfl rfl ?_
  obtain ⟨g3, hF⟩ := gd_e hF
  refine J_get hX cb6 (kShout (r := 1) ⟨by decide, by decide⟩ (of_decide_eq_true g3)) 8 (by decide) q_342 rfl dX12_shoutState_5 (t := 8) rfl ?_
  replace hF := Except.ok.inj (Option.some.inj hF)
  subst hF
  exact J_iret hX hR hlk dX12_shoutState_8
abbrev rmX12_returns : Room := { frames := 8, cells := 0, slots := 0, locals := 131 }
theorem miX12_returns : MI yX12_returns cX12_returns 2 (some .int) 1 := ⟨q_1467, q_136, by decide +kernel, by decide +kernel, by decide +kernel, by decide +kernel⟩
theorem mvX12_returns : MV yX12_returns := ⟨q_1465, q_1466⟩
def FX12_returns (w : Wd) (p1 : Int32) : Option (Except (String × Wd) (Int32)) :=
  xo (FX12_shoutAt w p1) fun x2 =>
  gd (decide (20 ≤ x2 ∧ x2 < 50)) <|
  some (.ok ((w 1).1 x2 9))
set_option maxHeartbeats 4000000 in
set_option maxRecDepth 100000 in
theorem ctX12_returns {G : GG} {l : Launch} (w : Wd) (p1 : Int32)  {rx : Int32} (hF : FX12_returns w p1 = some (.ok rx)) : CT G l yX12_returns cX12_returns 2 (some .int) rmX12_returns 0 0 [.ref (adr G 0 0), .int p1] w (some (.int rx)) w := by
  refine CT.of miX12_returns [(0, .ref (adr G 0 0)), (1, .int p1)] rfl (Nat.le_of_ble_eq_true rfl) ?_
  intro p e s m args below meth c hX hR hlk
  have hX : FX G RX12 cX12_returns 2 p s m args c := hX
  unfold FX12_returns at hF
  refine J_aload_n hX dX12_returns_0 0 rfl (t := 1) rfl ?_
  refine J_iload_n hX dX12_returns_1 1 rfl (t := 2) rfl ?_
  obtain ⟨x2, h1, hF⟩ := xo_ok hF
  refine J_callV hX [.int p1] [] [.ref (adr G 1 x2)] (ctX12_shoutAt (G := G) (l := l) w p1 h1) miX12_shoutAt mvX12_shoutAt cb9 kEcho q_1442 ⟨rfl, rfl, Nat.le_of_ble_eq_true rfl, Nat.le_of_ble_eq_true rfl⟩ rfl rfl (Nat.le_of_ble_eq_true rfl) ⟨Nat.le_of_ble_eq_true rfl, Nat.le_of_ble_eq_true rfl⟩ dX12_returns_2 (t := 5) rfl rfl ?_
  obtain ⟨g3, hF⟩ := gd_e hF
  refine J_get hX cb6 (kShout (r := 1) ⟨by decide, by decide⟩ (of_decide_eq_true g3)) 9 (by decide) q_345 rfl dX12_returns_5 (t := 8) rfl ?_
  replace hF := Except.ok.inj (Option.some.inj hF)
  subst hF
  exact J_iret hX hR hlk dX12_returns_8
abbrev rmX12_receipt : Room := { frames := 8, cells := 0, slots := 0, locals := 131 }
theorem miX12_receipt : MI yX12_receipt cX12_receipt 2 (some .int) 1 := ⟨q_1474, q_136, by decide +kernel, by decide +kernel, by decide +kernel, by decide +kernel⟩
theorem mvX12_receipt : MV yX12_receipt := ⟨q_1472, q_1473⟩
def FX12_receipt (w : Wd) (p1 : Int32) : Option (Except (String × Wd) (Int32)) :=
  xo (FX12_shoutAt w p1) fun x2 =>
  gd (decide (20 ≤ x2 ∧ x2 < 50)) <|
  bnd (FX8_earnings (w 1) x2) fun x5 =>
  some (.ok x5)
set_option maxHeartbeats 4000000 in
set_option maxRecDepth 100000 in
theorem ctX12_receipt {G : GG} {l : Launch} (w : Wd) (p1 : Int32)  {rx : Int32} (hF : FX12_receipt w p1 = some (.ok rx)) : CT G l yX12_receipt cX12_receipt 2 (some .int) rmX12_receipt 0 0 [.ref (adr G 0 0), .int p1] w (some (.int rx)) w := by
  refine CT.of miX12_receipt [(0, .ref (adr G 0 0)), (1, .int p1)] rfl (Nat.le_of_ble_eq_true rfl) ?_
  intro p e s m args below meth c hX hR hlk
  have hX : FX G RX12 cX12_receipt 2 p s m args c := hX
  unfold FX12_receipt at hF
  refine J_aload_n hX dX12_receipt_0 0 rfl (t := 1) rfl ?_
  refine J_iload_n hX dX12_receipt_1 1 rfl (t := 2) rfl ?_
  obtain ⟨x2, h1, hF⟩ := xo_ok hF
  refine J_callV hX [.int p1] [] [.ref (adr G 1 x2)] (ctX12_shoutAt (G := G) (l := l) w p1 h1) miX12_shoutAt mvX12_shoutAt cb9 kEcho q_1442 ⟨rfl, rfl, Nat.le_of_ble_eq_true rfl, Nat.le_of_ble_eq_true rfl⟩ rfl rfl (Nat.le_of_ble_eq_true rfl) ⟨Nat.le_of_ble_eq_true rfl, Nat.le_of_ble_eq_true rfl⟩ dX12_receipt_2 (t := 5) rfl rfl ?_
  obtain ⟨g3, hF⟩ := gd_e hF
  obtain ⟨x5, h4, hF⟩ := bnd_e hF
  have k6 := (CT.self2 (ctX8_earnings (G := G) (l := l) w 1 ⟨by decide, by decide⟩ (w 1) x2 (of_decide_eq_true g3) h4))
  refine J_callV hX [] [] [.int x5] k6 miX8_earnings mvX8_earnings cb6 (kShout (r := 1) ⟨by decide, by decide⟩ (of_decide_eq_true g3)) q_1475 ⟨rfl, rfl, Nat.le_of_ble_eq_true rfl, Nat.le_of_ble_eq_true rfl⟩ rfl rfl (Nat.le_of_ble_eq_true rfl) ⟨Nat.le_of_ble_eq_true rfl, Nat.le_of_ble_eq_true rfl⟩ dX12_receipt_5 (t := 8) rfl rfl ?_
  replace hF := Except.ok.inj (Option.some.inj hF)
  subst hF
  exact J_iret hX hR hlk dX12_receipt_8
abbrev rmX12_nextReturn : Room := { frames := 8, cells := 0, slots := 0, locals := 131 }
theorem miX12_nextReturn : MI yX12_nextReturn cX12_nextReturn 3 (some .int) 1 := ⟨q_1491, q_136, by decide +kernel, by decide +kernel, by decide +kernel, by decide +kernel⟩
theorem mvX12_nextReturn : MV yX12_nextReturn := ⟨q_1489, q_1490⟩
def FX12_nextReturn (w : Wd) (p1 : Int32) : Option (Except (String × Wd) (Int32)) :=
  xo (FX12_shoutAt w p1) fun x2 =>
  gd (decide (20 ≤ x2 ∧ x2 < 50)) <|
  bnd (FX8_isOpen (w 1) x2) fun x5 =>
  if x5 = true then
    bnd (FX8_secondOfNext (w 1) x2) fun x8 =>
    some (.ok x8)
  else
    some (.ok (-1))
set_option maxHeartbeats 4000000 in
set_option maxRecDepth 100000 in
theorem ctX12_nextReturn {G : GG} {l : Launch} (w : Wd) (p1 : Int32)  {rx : Int32} (hF : FX12_nextReturn w p1 = some (.ok rx)) : CT G l yX12_nextReturn cX12_nextReturn 3 (some .int) rmX12_nextReturn 0 0 [.ref (adr G 0 0), .int p1] w (some (.int rx)) w := by
  refine CT.of miX12_nextReturn [(0, .ref (adr G 0 0)), (1, .int p1)] rfl (Nat.le_of_ble_eq_true rfl) ?_
  intro p e s m args below meth c hX hR hlk
  have hX : FX G RX12 cX12_nextReturn 3 p s m args c := hX
  unfold FX12_nextReturn at hF
  refine J_aload_n hX dX12_nextReturn_0 0 rfl (t := 1) rfl ?_
  refine J_iload_n hX dX12_nextReturn_1 1 rfl (t := 2) rfl ?_
  obtain ⟨x2, h1, hF⟩ := xo_ok hF
  refine J_callV hX [.int p1] [] [.ref (adr G 1 x2)] (ctX12_shoutAt (G := G) (l := l) w p1 h1) miX12_shoutAt mvX12_shoutAt cb9 kEcho q_1442 ⟨rfl, rfl, Nat.le_of_ble_eq_true rfl, Nat.le_of_ble_eq_true rfl⟩ rfl rfl (Nat.le_of_ble_eq_true rfl) ⟨Nat.le_of_ble_eq_true rfl, Nat.le_of_ble_eq_true rfl⟩ dX12_nextReturn_2 (t := 5) rfl rfl ?_
  obtain ⟨g3, hF⟩ := gd_e hF
  refine J_astore_n (lc2 := [(2, .ref (adr G 1 x2)), (0, .ref (adr G 0 0)), (1, .int p1)]) hX dX12_nextReturn_5 rfl (Nat.le_of_ble_eq_true rfl) rfl (t := 6) rfl ?_
  refine J_aload_n hX dX12_nextReturn_6 0 rfl (t := 7) rfl ?_
  obtain ⟨x5, h4, hF⟩ := bnd_e hF
  have k6 := (CT.self2 (ctX8_isOpen (G := G) (l := l) w 1 ⟨by decide, by decide⟩ (w 1) x2 (of_decide_eq_true g3) h4))
  refine J_callV hX [] [] [.int (bI x5)] k6 miX8_isOpen mvX8_isOpen cb6 (kShout (r := 1) ⟨by decide, by decide⟩ (of_decide_eq_true g3)) q_1492 ⟨rfl, rfl, Nat.le_of_ble_eq_true rfl, Nat.le_of_ble_eq_true rfl⟩ rfl rfl (Nat.le_of_ble_eq_true rfl) ⟨Nat.le_of_ble_eq_true rfl, Nat.le_of_ble_eq_true rfl⟩ dX12_nextReturn_7 (t := 10) rfl rfl ?_
  refine J_ifZ_eq (tgt := 20) hX dX12_nextReturn_10 (by decide) (t := 13) rfl (fun z => ?_) (fun z => ?_)
  · replace hF := ib_f hF z
    refine J_iconst (v := (-1)) hX dX12_nextReturn_20 (by decide) (t := 21) rfl ?_
    replace hF := Except.ok.inj (Option.some.inj hF)
    subst hF
    exact J_iret hX hR hlk dX12_nextReturn_21
  · replace hF := it_t hF z
    refine J_aload_n hX dX12_nextReturn_13 0 rfl (t := 14) rfl ?_
    obtain ⟨x8, h7, hF⟩ := bnd_e hF
    have k9 := (CT.self2 (ctX8_secondOfNext (G := G) (l := l) w 1 ⟨by decide, by decide⟩ (w 1) x2 (of_decide_eq_true g3) h7))
    refine J_callV hX [] [] [.int x8] k9 miX8_secondOfNext mvX8_secondOfNext cb6 (kShout (r := 1) ⟨by decide, by decide⟩ (of_decide_eq_true g3)) q_1493 ⟨rfl, rfl, Nat.le_of_ble_eq_true rfl, Nat.le_of_ble_eq_true rfl⟩ rfl rfl (Nat.le_of_ble_eq_true rfl) ⟨Nat.le_of_ble_eq_true rfl, Nat.le_of_ble_eq_true rfl⟩ dX12_nextReturn_14 (t := 17) rfl rfl ?_
    refine J_goto (tgt := 21) hX dX12_nextReturn_17 (by decide) ?_
    replace hF := Except.ok.inj (Option.some.inj hF)
    subst hF
    exact J_iret hX hR hlk dX12_nextReturn_21
abbrev rmX12_patienceEnds : Room := { frames := 8, cells := 0, slots := 0, locals := 131 }
theorem miX12_patienceEnds : MI yX12_patienceEnds cX12_patienceEnds 2 (some .int) 1 := ⟨q_1500, q_136, by decide +kernel, by decide +kernel, by decide +kernel, by decide +kernel⟩
theorem mvX12_patienceEnds : MV yX12_patienceEnds := ⟨q_1498, q_1499⟩
def FX12_patienceEnds (w : Wd) (p1 : Int32) : Option (Except (String × Wd) (Int32)) :=
  xo (FX12_shoutAt w p1) fun x2 =>
  gd (decide (20 ≤ x2 ∧ x2 < 50)) <|
  some (.ok ((w 1).1 x2 7))
set_option maxHeartbeats 4000000 in
set_option maxRecDepth 100000 in
theorem ctX12_patienceEnds {G : GG} {l : Launch} (w : Wd) (p1 : Int32)  {rx : Int32} (hF : FX12_patienceEnds w p1 = some (.ok rx)) : CT G l yX12_patienceEnds cX12_patienceEnds 2 (some .int) rmX12_patienceEnds 0 0 [.ref (adr G 0 0), .int p1] w (some (.int rx)) w := by
  refine CT.of miX12_patienceEnds [(0, .ref (adr G 0 0)), (1, .int p1)] rfl (Nat.le_of_ble_eq_true rfl) ?_
  intro p e s m args below meth c hX hR hlk
  have hX : FX G RX12 cX12_patienceEnds 2 p s m args c := hX
  unfold FX12_patienceEnds at hF
  refine J_aload_n hX dX12_patienceEnds_0 0 rfl (t := 1) rfl ?_
  refine J_iload_n hX dX12_patienceEnds_1 1 rfl (t := 2) rfl ?_
  obtain ⟨x2, h1, hF⟩ := xo_ok hF
  refine J_callV hX [.int p1] [] [.ref (adr G 1 x2)] (ctX12_shoutAt (G := G) (l := l) w p1 h1) miX12_shoutAt mvX12_shoutAt cb9 kEcho q_1442 ⟨rfl, rfl, Nat.le_of_ble_eq_true rfl, Nat.le_of_ble_eq_true rfl⟩ rfl rfl (Nat.le_of_ble_eq_true rfl) ⟨Nat.le_of_ble_eq_true rfl, Nat.le_of_ble_eq_true rfl⟩ dX12_patienceEnds_2 (t := 5) rfl rfl ?_
  obtain ⟨g3, hF⟩ := gd_e hF
  refine J_get hX cb6 (kShout (r := 1) ⟨by decide, by decide⟩ (of_decide_eq_true g3)) 7 (by decide) q_339 rfl dX12_patienceEnds_5 (t := 8) rfl ?_
  replace hF := Except.ok.inj (Option.some.inj hF)
  subst hF
  exact J_iret hX hR hlk dX12_patienceEnds_8
def FX12_refusal (n : Nat) (w : Wd) (p1 : Int32) (p2 : Int32) (p3 : Int32) : Option (Except (String × Wd) (Int32)) :=
  bnd (FX6_hasCustomer (w 1) p1) fun x2 =>
  if x2 = true then
    bnd (FX6_hasValley (w 1) p2) fun x13 =>
    if x13 = true then
      xo (xw w (FX12_demandIndex true)) fun _ =>
      bnd (FX12_isWithin p3 1 4) fun x25 =>
      xo (xw w (FX12_demandArgument x25)) fun _ =>
      bo1 (FX6_whyRefused n (w 1) p1 p2 p3) fun x29 =>
      some (.ok x29)
    else
      xo (xw w (FX12_demandIndex false)) fun _ =>
      bnd (FX12_isWithin p3 1 4) fun x17 =>
      xo (xw w (FX12_demandArgument x17)) fun _ =>
      bo1 (FX6_whyRefused n (w 1) p1 p2 p3) fun x21 =>
      some (.ok x21)
  else
    xo (xw w (FX12_demandIndex false)) fun _ =>
    bnd (FX12_isWithin p3 1 4) fun x6 =>
    xo (xw w (FX12_demandArgument x6)) fun _ =>
    bo1 (FX6_whyRefused n (w 1) p1 p2 p3) fun x10 =>
    some (.ok x10)
def FX12_neededLoudness (w : Wd) (p1 : Int32) (p2 : Int32) : Option (Except (String × Wd) (Int32)) :=
  xo (FX12_valleyAt w p1) fun x2 =>
  gd (decide (4 ≤ x2 ∧ x2 < 12)) <|
  bnd (FX12_isWithin p2 1 4) fun x5 =>
  xo (xw w (FX12_demandArgument x5)) fun _ =>
  if p2 ≤ (w 1).1 x2 2 then
    bnd (FX10_loudnessNeeded (w 1) x2 p2) fun x9 =>
    some (.ok x9)
  else
    some (.ok (-1))
def FX12_bestOffer (n : Nat) (w : Wd) (p1 : Int32) (p2 : Int32) : Option (Except (String × Wd) (Int32)) :=
  bnd (FX6_hasCustomer (w 1) p1) fun x2 =>
  xo (xw w (FX12_demandIndex x2)) fun _ =>
  bnd (FX12_isWithin p2 1 4) fun x6 =>
  xo (xw w (FX12_demandArgument x6)) fun _ =>
  bo1 (FX6_valleyToBuyIn n (w 1) p1 p2) fun x10 =>
  some (.ok x10)
abbrev rmX12_nextEvent : Room := { frames := 3, cells := 0, slots := 0, locals := 65 }
theorem miX12_nextEvent : MI yX12_nextEvent cX12_nextEvent 1 (some .int) 0 := ⟨q_718, q_136, by decide +kernel, by decide +kernel, by decide +kernel, by decide +kernel⟩
theorem mvX12_nextEvent : MV yX12_nextEvent := ⟨q_716, q_717⟩
def FX12_nextEvent (n : Nat) (w : Wd)  : Option (Int32) :=
  bo1 (FX6_secondOfNextEvent n (w 1)) fun x2 =>
  some x2
set_option maxHeartbeats 4000000 in
set_option maxRecDepth 100000 in
theorem ctX12_nextEvent {G : GG} {l : Launch} (w : Wd)   (n : Nat) {rx : Int32} (hF : FX12_nextEvent n w  = some rx) : CT G l yX12_nextEvent cX12_nextEvent 1 (some .int) rmX12_nextEvent 0 0 [.ref (adr G 0 0)] w (some (.int rx)) w := by
  refine CT.of miX12_nextEvent [(0, .ref (adr G 0 0))] rfl (Nat.le_of_ble_eq_true rfl) ?_
  intro p e s m args below meth c hX hR hlk
  have hX : FX G RX12 cX12_nextEvent 1 p s m args c := hX
  unfold FX12_nextEvent at hF
  refine J_aload_n hX dX12_nextEvent_0 0 rfl (t := 1) rfl ?_
  refine J_get hX cb9 kEcho 3 (by decide) q_565 rfl dX12_nextEvent_1 (t := 4) rfl ?_
  obtain ⟨x2, h1, hF⟩ := bo1_e hF
  have k3 := (CT.self2 (ctX6_secondOfNextEvent (G := G) (l := l) w 1 ⟨by decide, by decide⟩ (w 1)  n h1))
  refine J_callV hX [] [] [.int x2] k3 miX6_secondOfNextEvent mvX6_secondOfNextEvent cb4 (kMarket (r := 1) ⟨by decide, by decide⟩) q_719 ⟨rfl, rfl, Nat.le_of_ble_eq_true rfl, Nat.le_of_ble_eq_true rfl⟩ rfl rfl (Nat.le_of_ble_eq_true rfl) ⟨Nat.le_of_ble_eq_true rfl, Nat.le_of_ble_eq_true rfl⟩ dX12_nextEvent_4 (t := 7) rfl rfl ?_
  replace hF := Option.some.inj hF
  subst hF
  exact J_iret hX hR hlk dX12_nextEvent_7
def FX12_earnedAfter (n : Nat) (w : Wd) (p1 : Int32) : Option (Except (String × Wd) (Int32)) :=
  bnd (FX12_isWithin p1 0 240) fun x2 =>
  xo (xw w (FX12_demandArgument x2)) fun _ =>
  bo1 (FX6_earningsUntil n (w 1) (((w 1).1 0 6) + p1)) fun x6 =>
  some (.ok x6)
abbrev rmX12_finalState : Room := { frames := 8, cells := 0, slots := 0, locals := 131 }
theorem miX12_finalState : MI yX12_finalState cX12_finalState 2 (some .int) 1 := ⟨q_1553, q_136, by decide +kernel, by decide +kernel, by decide +kernel, by decide +kernel⟩
theorem mvX12_finalState : MV yX12_finalState := ⟨q_1551, q_1552⟩
def FX12_finalState (w : Wd) (p1 : Int32) : Option (Except (String × Wd) (Int32)) :=
  xo (FX12_shoutAt w p1) fun x2 =>
  gd (decide (20 ≤ x2 ∧ x2 < 50)) <|
  bnd (FX8_stateInTheEnd (w 1) x2) fun x5 =>
  some (.ok x5)
set_option maxHeartbeats 4000000 in
set_option maxRecDepth 100000 in
theorem ctX12_finalState {G : GG} {l : Launch} (w : Wd) (p1 : Int32)  {rx : Int32} (hF : FX12_finalState w p1 = some (.ok rx)) : CT G l yX12_finalState cX12_finalState 2 (some .int) rmX12_finalState 0 0 [.ref (adr G 0 0), .int p1] w (some (.int rx)) w := by
  refine CT.of miX12_finalState [(0, .ref (adr G 0 0)), (1, .int p1)] rfl (Nat.le_of_ble_eq_true rfl) ?_
  intro p e s m args below meth c hX hR hlk
  have hX : FX G RX12 cX12_finalState 2 p s m args c := hX
  unfold FX12_finalState at hF
  refine J_aload_n hX dX12_finalState_0 0 rfl (t := 1) rfl ?_
  refine J_iload_n hX dX12_finalState_1 1 rfl (t := 2) rfl ?_
  obtain ⟨x2, h1, hF⟩ := xo_ok hF
  refine J_callV hX [.int p1] [] [.ref (adr G 1 x2)] (ctX12_shoutAt (G := G) (l := l) w p1 h1) miX12_shoutAt mvX12_shoutAt cb9 kEcho q_1442 ⟨rfl, rfl, Nat.le_of_ble_eq_true rfl, Nat.le_of_ble_eq_true rfl⟩ rfl rfl (Nat.le_of_ble_eq_true rfl) ⟨Nat.le_of_ble_eq_true rfl, Nat.le_of_ble_eq_true rfl⟩ dX12_finalState_2 (t := 5) rfl rfl ?_
  obtain ⟨g3, hF⟩ := gd_e hF
  obtain ⟨x5, h4, hF⟩ := bnd_e hF
  have k6 := (CT.self2 (ctX8_stateInTheEnd (G := G) (l := l) w 1 ⟨by decide, by decide⟩ (w 1) x2 (of_decide_eq_true g3) h4))
  refine J_callV hX [] [] [.int x5] k6 miX8_stateInTheEnd mvX8_stateInTheEnd cb6 (kShout (r := 1) ⟨by decide, by decide⟩ (of_decide_eq_true g3)) q_1554 ⟨rfl, rfl, Nat.le_of_ble_eq_true rfl, Nat.le_of_ble_eq_true rfl⟩ rfl rfl (Nat.le_of_ble_eq_true rfl) ⟨Nat.le_of_ble_eq_true rfl, Nat.le_of_ble_eq_true rfl⟩ dX12_finalState_5 (t := 8) rfl rfl ?_
  replace hF := Except.ok.inj (Option.some.inj hF)
  subst hF
  exact J_iret hX hR hlk dX12_finalState_8
abbrev rmX12_violations : Room := { frames := 2, cells := 0, slots := 0, locals := 46 }
theorem miX12_violations : MI yX12_violations cX12_violations 1 (some .int) 0 := ⟨q_737, q_136, by decide +kernel, by decide +kernel, by decide +kernel, by decide +kernel⟩
theorem mvX12_violations : MV yX12_violations := ⟨q_735, q_736⟩
def FX12_violations (n : Nat) (w : Wd)  : Option (Int32) :=
  bo1 (FX6_brokenInvariants n (w 1)) fun x2 =>
  some x2
set_option maxHeartbeats 4000000 in
set_option maxRecDepth 100000 in
theorem ctX12_violations {G : GG} {l : Launch} (w : Wd)   (n : Nat) {rx : Int32} (hF : FX12_violations n w  = some rx) : CT G l yX12_violations cX12_violations 1 (some .int) rmX12_violations 0 0 [.ref (adr G 0 0)] w (some (.int rx)) w := by
  refine CT.of miX12_violations [(0, .ref (adr G 0 0))] rfl (Nat.le_of_ble_eq_true rfl) ?_
  intro p e s m args below meth c hX hR hlk
  have hX : FX G RX12 cX12_violations 1 p s m args c := hX
  unfold FX12_violations at hF
  refine J_aload_n hX dX12_violations_0 0 rfl (t := 1) rfl ?_
  refine J_get hX cb9 kEcho 3 (by decide) q_565 rfl dX12_violations_1 (t := 4) rfl ?_
  obtain ⟨x2, h1, hF⟩ := bo1_e hF
  have k3 := (CT.self2 (ctX6_brokenInvariants (G := G) (l := l) w 1 ⟨by decide, by decide⟩ (w 1)  n h1))
  refine J_callV hX [] [] [.int x2] k3 miX6_brokenInvariants mvX6_brokenInvariants cb4 (kMarket (r := 1) ⟨by decide, by decide⟩) q_738 ⟨rfl, rfl, Nat.le_of_ble_eq_true rfl, Nat.le_of_ble_eq_true rfl⟩ rfl rfl (Nat.le_of_ble_eq_true rfl) ⟨Nat.le_of_ble_eq_true rfl, Nat.le_of_ble_eq_true rfl⟩ dX12_violations_4 (t := 7) rfl rfl ?_
  replace hF := Option.some.inj hF
  subst hF
  exact J_iret hX hR hlk dX12_violations_7
abbrev rmX12_addValley : Room := { frames := 7, cells := 0, slots := 0, locals := 110 }
theorem miX12_addValley : MI yX12_addValley cX12_addValley 6 (some .int) 3 := ⟨q_1565, q_136, by decide +kernel, by decide +kernel, by decide +kernel, by decide +kernel⟩
theorem mvX12_addValley : MV yX12_addValley := ⟨q_1563, q_1564⟩
def FX12_addValley (n : Nat) (w : Wd) (p1 : Int32) (p2 : Int32) (p3 : Int32) : Option (Except (String × Wd) (Int32 × Wd)) :=
  bo1 (FX9_wholeName n w) fun x2 =>
  bnd (FX12_isWithin p1 1 60) fun x5 =>
  xo (xw w (FX12_demandArgument x5)) fun _ =>
  bnd (FX12_isWithin p2 1 4) fun x9 =>
  xo (xw w (FX12_demandArgument x9)) fun _ =>
  bnd (FX12_isWithin p3 1 99) fun x13 =>
  xo (xw w (FX12_demandArgument x13)) fun _ =>
  if lg_cmp x2 0 = 0 then
    xo (xw w (FX12_demandState false)) fun _ =>
    bo1 (FX5_remember n w 1) fun w18 =>
    bnd (sW w18 10 (sI (w18 10) 0 6 0)) fun w20 =>
    bo2 (FX6_openValley (w20 1) x2 p1 p2 p3) fun x23 M24 =>
    bnd (sW w20 1 M24) fun w26 =>
    some (.ok (x23, w26))
  else
    bo1 (FX6_valleyNamed n (w 1) x2) fun x29 =>
    if x29 = (-1) then
      if 8 ≤ (w 1).1 0 3 then
        xo (xw w (FX12_demandState false)) fun _ =>
        bo1 (FX5_remember n w 1) fun w45 =>
        bnd (sW w45 10 (sI (w45 10) 0 6 0)) fun w47 =>
        bo2 (FX6_openValley (w47 1) x2 p1 p2 p3) fun x50 M51 =>
        bnd (sW w47 1 M51) fun w53 =>
        some (.ok (x50, w53))
      else
        xo (xw w (FX12_demandState true)) fun _ =>
        bo1 (FX5_remember n w 1) fun w57 =>
        bnd (sW w57 10 (sI (w57 10) 0 6 0)) fun w59 =>
        bo2 (FX6_openValley (w59 1) x2 p1 p2 p3) fun x62 M63 =>
        bnd (sW w59 1 M63) fun w65 =>
        some (.ok (x62, w65))
    else
      xo (xw w (FX12_demandState false)) fun _ =>
      bo1 (FX5_remember n w 1) fun w33 =>
      bnd (sW w33 10 (sI (w33 10) 0 6 0)) fun w35 =>
      bo2 (FX6_openValley (w35 1) x2 p1 p2 p3) fun x38 M39 =>
      bnd (sW w35 1 M39) fun w41 =>
      some (.ok (x38, w41))
set_option maxHeartbeats 4000000 in
set_option maxRecDepth 100000 in
theorem ctX12_addValley {G : GG} {l : Launch} (w : Wd) (p1 : Int32) (p2 : Int32) (p3 : Int32)  (n : Nat) {rx : Int32} {rw : Wd} (hF : FX12_addValley n w p1 p2 p3 = some (.ok (rx, rw))) : CT G l yX12_addValley cX12_addValley 6 (some .int) rmX12_addValley 0 0 [.ref (adr G 0 0), .int p1, .int p2, .int p3] w (some (.int rx)) rw := by
  refine CT.of miX12_addValley [(0, .ref (adr G 0 0)), (1, .int p1), (2, .int p2), (3, .int p3)] rfl (Nat.le_of_ble_eq_true rfl) ?_
  intro p e s m args below meth c hX hR hlk
  have hX : FX G RX12 cX12_addValley 6 p s m args c := hX
  unfold FX12_addValley at hF
  refine J_aload_n hX dX12_addValley_0 0 rfl (t := 1) rfl ?_
  refine J_get hX cb9 kEcho 0 (by decide) q_562 rfl dX12_addValley_1 (t := 4) rfl ?_
  obtain ⟨x2, h1, hF⟩ := bo1_e hF
  have k3 := (ctX9_wholeName (G := G) (l := l) w  n h1)
  refine J_callV hX [] [] [.long x2] k3 miX9_wholeName mvX9_wholeName cb7 kText q_646 ⟨rfl, rfl, Nat.le_of_ble_eq_true rfl, Nat.le_of_ble_eq_true rfl⟩ rfl rfl (Nat.le_of_ble_eq_true rfl) ⟨Nat.le_of_ble_eq_true rfl, Nat.le_of_ble_eq_true rfl⟩ dX12_addValley_4 (t := 7) rfl rfl ?_
  refine J_lstore (lc2 := [(4, .long x2), (0, .ref (adr G 0 0)), (1, .int p1), (2, .int p2), (3, .int p3)]) hX dX12_addValley_7 (Nat.le_of_ble_eq_true rfl) rfl (t := 9) rfl ?_
  refine J_iload_n hX dX12_addValley_9 2 rfl (t := 10) rfl ?_
  refine J_iconst (v := 1) hX dX12_addValley_10 (by decide) (t := 11) rfl ?_
  refine J_bipush (v := 60) hX dX12_addValley_11 (by decide) (t := 13) rfl ?_
  obtain ⟨x5, h4, hF⟩ := bnd_e hF
  have k6 := (ctX12_isWithin (l := l) (G := G) (w := w) p1 1 60 h4)
  refine J_callS hX [.int p1, .int 1, .int 60] [] [.int (bI x5)] k6 miX12_isWithin q_655 q_873 ⟨rfl, rfl, Nat.le_of_ble_eq_true rfl, Nat.le_of_ble_eq_true rfl⟩ rfl rfl (Nat.le_of_ble_eq_true rfl) ⟨Nat.le_of_ble_eq_true rfl, Nat.le_of_ble_eq_true rfl⟩ dX12_addValley_13 (t := 16) rfl rfl ?_
  obtain ⟨xu, h7, hF⟩ := xow_ok hF
  refine J_callS hX [.int (bI x5)] [] [] (ctX12_demandArgument (G := G) (l := l) (w := w) x5 h7) miX12_demandArgument q_875 q_874 ⟨rfl, rfl, Nat.le_of_ble_eq_true rfl, Nat.le_of_ble_eq_true rfl⟩ rfl rfl (Nat.le_of_ble_eq_true rfl) ⟨Nat.le_of_ble_eq_true rfl, Nat.le_of_ble_eq_true rfl⟩ dX12_addValley_16 (t := 19) rfl rfl ?_
  refine J_iload_n hX dX12_addValley_19 3 rfl (t := 20) rfl ?_
  refine J_iconst (v := 1) hX dX12_addValley_20 (by decide) (t := 21) rfl ?_
  refine J_iconst (v := 4) hX dX12_addValley_21 (by decide) (t := 22) rfl ?_
  obtain ⟨x9, h8, hF⟩ := bnd_e hF
  have k10 := (ctX12_isWithin (l := l) (G := G) (w := w) p2 1 4 h8)
  refine J_callS hX [.int p2, .int 1, .int 4] [] [.int (bI x9)] k10 miX12_isWithin q_655 q_873 ⟨rfl, rfl, Nat.le_of_ble_eq_true rfl, Nat.le_of_ble_eq_true rfl⟩ rfl rfl (Nat.le_of_ble_eq_true rfl) ⟨Nat.le_of_ble_eq_true rfl, Nat.le_of_ble_eq_true rfl⟩ dX12_addValley_22 (t := 25) rfl rfl ?_
  obtain ⟨xu, h11, hF⟩ := xow_ok hF
  refine J_callS hX [.int (bI x9)] [] [] (ctX12_demandArgument (G := G) (l := l) (w := w) x9 h11) miX12_demandArgument q_875 q_874 ⟨rfl, rfl, Nat.le_of_ble_eq_true rfl, Nat.le_of_ble_eq_true rfl⟩ rfl rfl (Nat.le_of_ble_eq_true rfl) ⟨Nat.le_of_ble_eq_true rfl, Nat.le_of_ble_eq_true rfl⟩ dX12_addValley_25 (t := 28) rfl rfl ?_
  refine J_iload_n hX dX12_addValley_28 4 rfl (t := 29) rfl ?_
  refine J_iconst (v := 1) hX dX12_addValley_29 (by decide) (t := 30) rfl ?_
  refine J_bipush (v := 99) hX dX12_addValley_30 (by decide) (t := 32) rfl ?_
  obtain ⟨x13, h12, hF⟩ := bnd_e hF
  have k14 := (ctX12_isWithin (l := l) (G := G) (w := w) p3 1 99 h12)
  refine J_callS hX [.int p3, .int 1, .int 99] [] [.int (bI x13)] k14 miX12_isWithin q_655 q_873 ⟨rfl, rfl, Nat.le_of_ble_eq_true rfl, Nat.le_of_ble_eq_true rfl⟩ rfl rfl (Nat.le_of_ble_eq_true rfl) ⟨Nat.le_of_ble_eq_true rfl, Nat.le_of_ble_eq_true rfl⟩ dX12_addValley_32 (t := 35) rfl rfl ?_
  obtain ⟨xu, h15, hF⟩ := xow_ok hF
  refine J_callS hX [.int (bI x13)] [] [] (ctX12_demandArgument (G := G) (l := l) (w := w) x13 h15) miX12_demandArgument q_875 q_874 ⟨rfl, rfl, Nat.le_of_ble_eq_true rfl, Nat.le_of_ble_eq_true rfl⟩ rfl rfl (Nat.le_of_ble_eq_true rfl) ⟨Nat.le_of_ble_eq_true rfl, Nat.le_of_ble_eq_true rfl⟩ dX12_addValley_35 (t := 38) rfl rfl ?_
  refine J_lload hX dX12_addValley_38 0 rfl (t := 40) rfl ?_
  refine J_lconst (v := 0) hX dX12_addValley_40 (by decide) (t := 41) rfl ?_
  refine J_lcmp hX dX12_addValley_41 (t := 42) rfl ?_
  refine J_if_eq (tgt := 74) hX dX12_addValley_42 (by decide) (t := 45) rfl (fun z => ?_) (fun z => ?_)
  · replace hF := it_t hF z
    refine J_iconst (v := 0) hX dX12_addValley_74 (by decide) (t := 75) rfl ?_
    obtain ⟨xu, h16, hF⟩ := xow_ok hF
    refine J_callS hX [.int (bI false)] [] [] (ctX12_demandState (G := G) (l := l) (w := w) false h16) miX12_demandState q_790 q_789 ⟨rfl, rfl, Nat.le_of_ble_eq_true rfl, Nat.le_of_ble_eq_true rfl⟩ rfl rfl (Nat.le_of_ble_eq_true rfl) ⟨Nat.le_of_ble_eq_true rfl, Nat.le_of_ble_eq_true rfl⟩ dX12_addValley_75 (t := 78) rfl rfl ?_
    refine J_aload_n hX dX12_addValley_78 1 rfl (t := 79) rfl ?_
    refine J_get hX cb9 kEcho 6 (by decide) q_568 rfl dX12_addValley_79 (t := 82) rfl ?_
    refine J_aload_n hX dX12_addValley_82 1 rfl (t := 83) rfl ?_
    refine J_get hX cb9 kEcho 3 (by decide) q_565 rfl dX12_addValley_83 (t := 86) rfl ?_
    obtain ⟨w18, h17, hF⟩ := bo1_e hF
    have k19 := (ctX5_remember (G := G) (l := l) w 1 ⟨by decide, by decide⟩ n h17)
    refine J_callV hX [.ref (adr G 1 0)] [] [] k19 miX5_remember mvX5_remember cb3 kHistory q_1269 ⟨rfl, rfl, Nat.le_of_ble_eq_true rfl, Nat.le_of_ble_eq_true rfl⟩ rfl rfl (Nat.le_of_ble_eq_true rfl) ⟨Nat.le_of_ble_eq_true rfl, Nat.le_of_ble_eq_true rfl⟩ dX12_addValley_86 (t := 89) rfl rfl ?_
    refine J_aload_n hX dX12_addValley_89 1 rfl (t := 90) rfl ?_
    refine J_get hX cb9 kEcho 0 (by decide) q_562 rfl dX12_addValley_90 (t := 93) rfl ?_
    refine J_iconst (v := 0) hX dX12_addValley_93 (by decide) (t := 94) rfl ?_
    obtain ⟨w20, e21, hF⟩ := bnd_e hF
    refine J_puti hX cb7 kText 6 (by decide) q_190 rfl rfl e21 (fun _ _ => Nat.le_of_ble_eq_true rfl) (fun _ _ => rfl) dX12_addValley_94 (t := 97) rfl ?_
    refine J_aload_n hX dX12_addValley_97 1 rfl (t := 98) rfl ?_
    refine J_get hX cb9 kEcho 3 (by decide) q_565 rfl dX12_addValley_98 (t := 101) rfl ?_
    refine J_lload hX dX12_addValley_101 0 rfl (t := 103) rfl ?_
    refine J_iload_n hX dX12_addValley_103 2 rfl (t := 104) rfl ?_
    refine J_iload_n hX dX12_addValley_104 3 rfl (t := 105) rfl ?_
    refine J_iload_n hX dX12_addValley_105 4 rfl (t := 106) rfl ?_
    obtain ⟨x23, M24, h22, hF⟩ := bo2_e hF
    have k25 := (CT.self (ctX6_openValley (G := G) (l := l) w20 1 ⟨by decide, by decide⟩ (w20 1) x2 p1 p2 p3 h22))
    obtain ⟨w26, e27, hF⟩ := bnd_e hF
    rw [e27] at k25
    refine J_callV hX [.long x2, .int p1, .int p2, .int p3] [] [.int x23] k25 miX6_openValley mvX6_openValley cb4 (kMarket (r := 1) ⟨by decide, by decide⟩) q_1566 ⟨rfl, rfl, Nat.le_of_ble_eq_true rfl, Nat.le_of_ble_eq_true rfl⟩ rfl rfl (Nat.le_of_ble_eq_true rfl) ⟨Nat.le_of_ble_eq_true rfl, Nat.le_of_ble_eq_true rfl⟩ dX12_addValley_106 (t := 109) rfl rfl ?_
    replace hF := Except.ok.inj (Option.some.inj hF)
    obtain ⟨hF, hF2⟩ := Prod.mk.inj hF
    subst hF
    subst hF2
    exact J_iret hX hR hlk dX12_addValley_109
  · replace hF := it_f hF z
    refine J_aload_n hX dX12_addValley_45 1 rfl (t := 46) rfl ?_
    refine J_get hX cb9 kEcho 3 (by decide) q_565 rfl dX12_addValley_46 (t := 49) rfl ?_
    refine J_lload hX dX12_addValley_49 0 rfl (t := 51) rfl ?_
    obtain ⟨x29, h28, hF⟩ := bo1_e hF
    have k30 := (CT.self2 (ctX6_valleyNamed (G := G) (l := l) w 1 ⟨by decide, by decide⟩ (w 1) x2 n h28))
    refine J_callV hX [.long x2] [] [.int x29] k30 miX6_valleyNamed mvX6_valleyNamed cb4 (kMarket (r := 1) ⟨by decide, by decide⟩) q_660 ⟨rfl, rfl, Nat.le_of_ble_eq_true rfl, Nat.le_of_ble_eq_true rfl⟩ rfl rfl (Nat.le_of_ble_eq_true rfl) ⟨Nat.le_of_ble_eq_true rfl, Nat.le_of_ble_eq_true rfl⟩ dX12_addValley_51 (t := 54) rfl rfl ?_
    refine J_iconst (v := (-1)) hX dX12_addValley_54 (by decide) (t := 55) rfl ?_
    refine J_icmp_ne (tgt := 74) hX dX12_addValley_55 (by decide) (t := 58) rfl (fun z => ?_) (fun z => ?_)
    · replace hF := it_f hF z
      refine J_iconst (v := 0) hX dX12_addValley_74 (by decide) (t := 75) rfl ?_
      obtain ⟨xu, h31, hF⟩ := xow_ok hF
      refine J_callS hX [.int (bI false)] [] [] (ctX12_demandState (G := G) (l := l) (w := w) false h31) miX12_demandState q_790 q_789 ⟨rfl, rfl, Nat.le_of_ble_eq_true rfl, Nat.le_of_ble_eq_true rfl⟩ rfl rfl (Nat.le_of_ble_eq_true rfl) ⟨Nat.le_of_ble_eq_true rfl, Nat.le_of_ble_eq_true rfl⟩ dX12_addValley_75 (t := 78) rfl rfl ?_
      refine J_aload_n hX dX12_addValley_78 1 rfl (t := 79) rfl ?_
      refine J_get hX cb9 kEcho 6 (by decide) q_568 rfl dX12_addValley_79 (t := 82) rfl ?_
      refine J_aload_n hX dX12_addValley_82 1 rfl (t := 83) rfl ?_
      refine J_get hX cb9 kEcho 3 (by decide) q_565 rfl dX12_addValley_83 (t := 86) rfl ?_
      obtain ⟨w33, h32, hF⟩ := bo1_e hF
      have k34 := (ctX5_remember (G := G) (l := l) w 1 ⟨by decide, by decide⟩ n h32)
      refine J_callV hX [.ref (adr G 1 0)] [] [] k34 miX5_remember mvX5_remember cb3 kHistory q_1269 ⟨rfl, rfl, Nat.le_of_ble_eq_true rfl, Nat.le_of_ble_eq_true rfl⟩ rfl rfl (Nat.le_of_ble_eq_true rfl) ⟨Nat.le_of_ble_eq_true rfl, Nat.le_of_ble_eq_true rfl⟩ dX12_addValley_86 (t := 89) rfl rfl ?_
      refine J_aload_n hX dX12_addValley_89 1 rfl (t := 90) rfl ?_
      refine J_get hX cb9 kEcho 0 (by decide) q_562 rfl dX12_addValley_90 (t := 93) rfl ?_
      refine J_iconst (v := 0) hX dX12_addValley_93 (by decide) (t := 94) rfl ?_
      obtain ⟨w35, e36, hF⟩ := bnd_e hF
      refine J_puti hX cb7 kText 6 (by decide) q_190 rfl rfl e36 (fun _ _ => Nat.le_of_ble_eq_true rfl) (fun _ _ => rfl) dX12_addValley_94 (t := 97) rfl ?_
      refine J_aload_n hX dX12_addValley_97 1 rfl (t := 98) rfl ?_
      refine J_get hX cb9 kEcho 3 (by decide) q_565 rfl dX12_addValley_98 (t := 101) rfl ?_
      refine J_lload hX dX12_addValley_101 0 rfl (t := 103) rfl ?_
      refine J_iload_n hX dX12_addValley_103 2 rfl (t := 104) rfl ?_
      refine J_iload_n hX dX12_addValley_104 3 rfl (t := 105) rfl ?_
      refine J_iload_n hX dX12_addValley_105 4 rfl (t := 106) rfl ?_
      obtain ⟨x38, M39, h37, hF⟩ := bo2_e hF
      have k40 := (CT.self (ctX6_openValley (G := G) (l := l) w35 1 ⟨by decide, by decide⟩ (w35 1) x2 p1 p2 p3 h37))
      obtain ⟨w41, e42, hF⟩ := bnd_e hF
      rw [e42] at k40
      refine J_callV hX [.long x2, .int p1, .int p2, .int p3] [] [.int x38] k40 miX6_openValley mvX6_openValley cb4 (kMarket (r := 1) ⟨by decide, by decide⟩) q_1566 ⟨rfl, rfl, Nat.le_of_ble_eq_true rfl, Nat.le_of_ble_eq_true rfl⟩ rfl rfl (Nat.le_of_ble_eq_true rfl) ⟨Nat.le_of_ble_eq_true rfl, Nat.le_of_ble_eq_true rfl⟩ dX12_addValley_106 (t := 109) rfl rfl ?_
      replace hF := Except.ok.inj (Option.some.inj hF)
      obtain ⟨hF, hF2⟩ := Prod.mk.inj hF
      subst hF
      subst hF2
      exact J_iret hX hR hlk dX12_addValley_109
    · replace hF := it_t hF z
      refine J_aload_n hX dX12_addValley_58 1 rfl (t := 59) rfl ?_
      refine J_get hX cb9 kEcho 3 (by decide) q_565 rfl dX12_addValley_59 (t := 62) rfl ?_
      refine J_get hX cb4 (kMarket (r := 1) ⟨by decide, by decide⟩) 3 (by decide) q_379 rfl dX12_addValley_62 (t := 65) rfl ?_
      refine J_bipush (v := 8) hX dX12_addValley_65 (by decide) (t := 67) rfl ?_
      refine J_icmp_ge (tgt := 74) hX dX12_addValley_67 (by decide) (t := 70) rfl (fun z => ?_) (fun z => ?_)
      · replace hF := it_t hF z
        refine J_iconst (v := 0) hX dX12_addValley_74 (by decide) (t := 75) rfl ?_
        obtain ⟨xu, h43, hF⟩ := xow_ok hF
        refine J_callS hX [.int (bI false)] [] [] (ctX12_demandState (G := G) (l := l) (w := w) false h43) miX12_demandState q_790 q_789 ⟨rfl, rfl, Nat.le_of_ble_eq_true rfl, Nat.le_of_ble_eq_true rfl⟩ rfl rfl (Nat.le_of_ble_eq_true rfl) ⟨Nat.le_of_ble_eq_true rfl, Nat.le_of_ble_eq_true rfl⟩ dX12_addValley_75 (t := 78) rfl rfl ?_
        refine J_aload_n hX dX12_addValley_78 1 rfl (t := 79) rfl ?_
        refine J_get hX cb9 kEcho 6 (by decide) q_568 rfl dX12_addValley_79 (t := 82) rfl ?_
        refine J_aload_n hX dX12_addValley_82 1 rfl (t := 83) rfl ?_
        refine J_get hX cb9 kEcho 3 (by decide) q_565 rfl dX12_addValley_83 (t := 86) rfl ?_
        obtain ⟨w45, h44, hF⟩ := bo1_e hF
        have k46 := (ctX5_remember (G := G) (l := l) w 1 ⟨by decide, by decide⟩ n h44)
        refine J_callV hX [.ref (adr G 1 0)] [] [] k46 miX5_remember mvX5_remember cb3 kHistory q_1269 ⟨rfl, rfl, Nat.le_of_ble_eq_true rfl, Nat.le_of_ble_eq_true rfl⟩ rfl rfl (Nat.le_of_ble_eq_true rfl) ⟨Nat.le_of_ble_eq_true rfl, Nat.le_of_ble_eq_true rfl⟩ dX12_addValley_86 (t := 89) rfl rfl ?_
        refine J_aload_n hX dX12_addValley_89 1 rfl (t := 90) rfl ?_
        refine J_get hX cb9 kEcho 0 (by decide) q_562 rfl dX12_addValley_90 (t := 93) rfl ?_
        refine J_iconst (v := 0) hX dX12_addValley_93 (by decide) (t := 94) rfl ?_
        obtain ⟨w47, e48, hF⟩ := bnd_e hF
        refine J_puti hX cb7 kText 6 (by decide) q_190 rfl rfl e48 (fun _ _ => Nat.le_of_ble_eq_true rfl) (fun _ _ => rfl) dX12_addValley_94 (t := 97) rfl ?_
        refine J_aload_n hX dX12_addValley_97 1 rfl (t := 98) rfl ?_
        refine J_get hX cb9 kEcho 3 (by decide) q_565 rfl dX12_addValley_98 (t := 101) rfl ?_
        refine J_lload hX dX12_addValley_101 0 rfl (t := 103) rfl ?_
        refine J_iload_n hX dX12_addValley_103 2 rfl (t := 104) rfl ?_
        refine J_iload_n hX dX12_addValley_104 3 rfl (t := 105) rfl ?_
        refine J_iload_n hX dX12_addValley_105 4 rfl (t := 106) rfl ?_
        obtain ⟨x50, M51, h49, hF⟩ := bo2_e hF
        have k52 := (CT.self (ctX6_openValley (G := G) (l := l) w47 1 ⟨by decide, by decide⟩ (w47 1) x2 p1 p2 p3 h49))
        obtain ⟨w53, e54, hF⟩ := bnd_e hF
        rw [e54] at k52
        refine J_callV hX [.long x2, .int p1, .int p2, .int p3] [] [.int x50] k52 miX6_openValley mvX6_openValley cb4 (kMarket (r := 1) ⟨by decide, by decide⟩) q_1566 ⟨rfl, rfl, Nat.le_of_ble_eq_true rfl, Nat.le_of_ble_eq_true rfl⟩ rfl rfl (Nat.le_of_ble_eq_true rfl) ⟨Nat.le_of_ble_eq_true rfl, Nat.le_of_ble_eq_true rfl⟩ dX12_addValley_106 (t := 109) rfl rfl ?_
        replace hF := Except.ok.inj (Option.some.inj hF)
        obtain ⟨hF, hF2⟩ := Prod.mk.inj hF
        subst hF
        subst hF2
        exact J_iret hX hR hlk dX12_addValley_109
      · replace hF := it_f hF z
        refine J_iconst (v := 1) hX dX12_addValley_70 (by decide) (t := 71) rfl ?_
        refine J_goto (tgt := 75) hX dX12_addValley_71 (by decide) ?_
        obtain ⟨xu, h55, hF⟩ := xow_ok hF
        refine J_callS hX [.int (bI true)] [] [] (ctX12_demandState (G := G) (l := l) (w := w) true h55) miX12_demandState q_790 q_789 ⟨rfl, rfl, Nat.le_of_ble_eq_true rfl, Nat.le_of_ble_eq_true rfl⟩ rfl rfl (Nat.le_of_ble_eq_true rfl) ⟨Nat.le_of_ble_eq_true rfl, Nat.le_of_ble_eq_true rfl⟩ dX12_addValley_75 (t := 78) rfl rfl ?_
        refine J_aload_n hX dX12_addValley_78 1 rfl (t := 79) rfl ?_
        refine J_get hX cb9 kEcho 6 (by decide) q_568 rfl dX12_addValley_79 (t := 82) rfl ?_
        refine J_aload_n hX dX12_addValley_82 1 rfl (t := 83) rfl ?_
        refine J_get hX cb9 kEcho 3 (by decide) q_565 rfl dX12_addValley_83 (t := 86) rfl ?_
        obtain ⟨w57, h56, hF⟩ := bo1_e hF
        have k58 := (ctX5_remember (G := G) (l := l) w 1 ⟨by decide, by decide⟩ n h56)
        refine J_callV hX [.ref (adr G 1 0)] [] [] k58 miX5_remember mvX5_remember cb3 kHistory q_1269 ⟨rfl, rfl, Nat.le_of_ble_eq_true rfl, Nat.le_of_ble_eq_true rfl⟩ rfl rfl (Nat.le_of_ble_eq_true rfl) ⟨Nat.le_of_ble_eq_true rfl, Nat.le_of_ble_eq_true rfl⟩ dX12_addValley_86 (t := 89) rfl rfl ?_
        refine J_aload_n hX dX12_addValley_89 1 rfl (t := 90) rfl ?_
        refine J_get hX cb9 kEcho 0 (by decide) q_562 rfl dX12_addValley_90 (t := 93) rfl ?_
        refine J_iconst (v := 0) hX dX12_addValley_93 (by decide) (t := 94) rfl ?_
        obtain ⟨w59, e60, hF⟩ := bnd_e hF
        refine J_puti hX cb7 kText 6 (by decide) q_190 rfl rfl e60 (fun _ _ => Nat.le_of_ble_eq_true rfl) (fun _ _ => rfl) dX12_addValley_94 (t := 97) rfl ?_
        refine J_aload_n hX dX12_addValley_97 1 rfl (t := 98) rfl ?_
        refine J_get hX cb9 kEcho 3 (by decide) q_565 rfl dX12_addValley_98 (t := 101) rfl ?_
        refine J_lload hX dX12_addValley_101 0 rfl (t := 103) rfl ?_
        refine J_iload_n hX dX12_addValley_103 2 rfl (t := 104) rfl ?_
        refine J_iload_n hX dX12_addValley_104 3 rfl (t := 105) rfl ?_
        refine J_iload_n hX dX12_addValley_105 4 rfl (t := 106) rfl ?_
        obtain ⟨x62, M63, h61, hF⟩ := bo2_e hF
        have k64 := (CT.self (ctX6_openValley (G := G) (l := l) w59 1 ⟨by decide, by decide⟩ (w59 1) x2 p1 p2 p3 h61))
        obtain ⟨w65, e66, hF⟩ := bnd_e hF
        rw [e66] at k64
        refine J_callV hX [.long x2, .int p1, .int p2, .int p3] [] [.int x62] k64 miX6_openValley mvX6_openValley cb4 (kMarket (r := 1) ⟨by decide, by decide⟩) q_1566 ⟨rfl, rfl, Nat.le_of_ble_eq_true rfl, Nat.le_of_ble_eq_true rfl⟩ rfl rfl (Nat.le_of_ble_eq_true rfl) ⟨Nat.le_of_ble_eq_true rfl, Nat.le_of_ble_eq_true rfl⟩ dX12_addValley_106 (t := 109) rfl rfl ?_
        replace hF := Except.ok.inj (Option.some.inj hF)
        obtain ⟨hF, hF2⟩ := Prod.mk.inj hF
        subst hF
        subst hF2
        exact J_iret hX hR hlk dX12_addValley_109
abbrev rmX12_addCustomer : Room := { frames := 7, cells := 0, slots := 0, locals := 110 }
theorem miX12_addCustomer : MI yX12_addCustomer cX12_addCustomer 5 (some .int) 2 := ⟨q_1573, q_136, by decide +kernel, by decide +kernel, by decide +kernel, by decide +kernel⟩
theorem mvX12_addCustomer : MV yX12_addCustomer := ⟨q_1571, q_1572⟩
def FX12_addCustomer (n : Nat) (w : Wd) (p1 : Int32) (p2 : Int32) : Option (Except (String × Wd) (Int32 × Wd)) :=
  bo1 (FX9_wholeName n w) fun x2 =>
  bnd (FX12_isWithin p1 1 240) fun x5 =>
  xo (xw w (FX12_demandArgument x5)) fun _ =>
  bnd (FX12_isWithin p2 0 9999) fun x9 =>
  xo (xw w (FX12_demandArgument x9)) fun _ =>
  if lg_cmp x2 0 = 0 then
    xo (xw w (FX12_demandState false)) fun _ =>
    bo1 (FX5_remember n w 1) fun w14 =>
    bnd (sW w14 10 (sI (w14 10) 0 6 0)) fun w16 =>
    bo2 (FX6_welcome (w16 1) x2 p1 p2) fun x19 M20 =>
    bnd (sW w16 1 M20) fun w22 =>
    some (.ok (x19, w22))
  else
    bo1 (FX6_customerNamed n (w 1) x2) fun x25 =>
    if x25 = (-1) then
      if 8 ≤ (w 1).1 0 4 then
        xo (xw w (FX12_demandState false)) fun _ =>
        bo1 (FX5_remember n w 1) fun w41 =>
        bnd (sW w41 10 (sI (w41 10) 0 6 0)) fun w43 =>
        bo2 (FX6_welcome (w43 1) x2 p1 p2) fun x46 M47 =>
        bnd (sW w43 1 M47) fun w49 =>
        some (.ok (x46, w49))
      else
        xo (xw w (FX12_demandState true)) fun _ =>
        bo1 (FX5_remember n w 1) fun w53 =>
        bnd (sW w53 10 (sI (w53 10) 0 6 0)) fun w55 =>
        bo2 (FX6_welcome (w55 1) x2 p1 p2) fun x58 M59 =>
        bnd (sW w55 1 M59) fun w61 =>
        some (.ok (x58, w61))
    else
      xo (xw w (FX12_demandState false)) fun _ =>
      bo1 (FX5_remember n w 1) fun w29 =>
      bnd (sW w29 10 (sI (w29 10) 0 6 0)) fun w31 =>
      bo2 (FX6_welcome (w31 1) x2 p1 p2) fun x34 M35 =>
      bnd (sW w31 1 M35) fun w37 =>
      some (.ok (x34, w37))
set_option maxHeartbeats 4000000 in
set_option maxRecDepth 100000 in
theorem ctX12_addCustomer {G : GG} {l : Launch} (w : Wd) (p1 : Int32) (p2 : Int32)  (n : Nat) {rx : Int32} {rw : Wd} (hF : FX12_addCustomer n w p1 p2 = some (.ok (rx, rw))) : CT G l yX12_addCustomer cX12_addCustomer 5 (some .int) rmX12_addCustomer 0 0 [.ref (adr G 0 0), .int p1, .int p2] w (some (.int rx)) rw := by
  refine CT.of miX12_addCustomer [(0, .ref (adr G 0 0)), (1, .int p1), (2, .int p2)] rfl (Nat.le_of_ble_eq_true rfl) ?_
  intro p e s m args below meth c hX hR hlk
  have hX : FX G RX12 cX12_addCustomer 5 p s m args c := hX
  unfold FX12_addCustomer at hF
  refine J_aload_n hX dX12_addCustomer_0 0 rfl (t := 1) rfl ?_
  refine J_get hX cb9 kEcho 0 (by decide) q_562 rfl dX12_addCustomer_1 (t := 4) rfl ?_
  obtain ⟨x2, h1, hF⟩ := bo1_e hF
  have k3 := (ctX9_wholeName (G := G) (l := l) w  n h1)
  refine J_callV hX [] [] [.long x2] k3 miX9_wholeName mvX9_wholeName cb7 kText q_646 ⟨rfl, rfl, Nat.le_of_ble_eq_true rfl, Nat.le_of_ble_eq_true rfl⟩ rfl rfl (Nat.le_of_ble_eq_true rfl) ⟨Nat.le_of_ble_eq_true rfl, Nat.le_of_ble_eq_true rfl⟩ dX12_addCustomer_4 (t := 7) rfl rfl ?_
  refine J_lstore_n (lc2 := [(3, .long x2), (0, .ref (adr G 0 0)), (1, .int p1), (2, .int p2)]) hX dX12_addCustomer_7 rfl (Nat.le_of_ble_eq_true rfl) rfl (t := 8) rfl ?_
  refine J_iload_n hX dX12_addCustomer_8 2 rfl (t := 9) rfl ?_
  refine J_iconst (v := 1) hX dX12_addCustomer_9 (by decide) (t := 10) rfl ?_
  refine J_sipush (v := 240) hX dX12_addCustomer_10 (by decide) (t := 13) rfl ?_
  obtain ⟨x5, h4, hF⟩ := bnd_e hF
  have k6 := (ctX12_isWithin (l := l) (G := G) (w := w) p1 1 240 h4)
  refine J_callS hX [.int p1, .int 1, .int 240] [] [.int (bI x5)] k6 miX12_isWithin q_655 q_873 ⟨rfl, rfl, Nat.le_of_ble_eq_true rfl, Nat.le_of_ble_eq_true rfl⟩ rfl rfl (Nat.le_of_ble_eq_true rfl) ⟨Nat.le_of_ble_eq_true rfl, Nat.le_of_ble_eq_true rfl⟩ dX12_addCustomer_13 (t := 16) rfl rfl ?_
  obtain ⟨xu, h7, hF⟩ := xow_ok hF
  refine J_callS hX [.int (bI x5)] [] [] (ctX12_demandArgument (G := G) (l := l) (w := w) x5 h7) miX12_demandArgument q_875 q_874 ⟨rfl, rfl, Nat.le_of_ble_eq_true rfl, Nat.le_of_ble_eq_true rfl⟩ rfl rfl (Nat.le_of_ble_eq_true rfl) ⟨Nat.le_of_ble_eq_true rfl, Nat.le_of_ble_eq_true rfl⟩ dX12_addCustomer_16 (t := 19) rfl rfl ?_
  refine J_iload_n hX dX12_addCustomer_19 3 rfl (t := 20) rfl ?_
  refine J_iconst (v := 0) hX dX12_addCustomer_20 (by decide) (t := 21) rfl ?_
  refine J_sipush (v := 9999) hX dX12_addCustomer_21 (by decide) (t := 24) rfl ?_
  obtain ⟨x9, h8, hF⟩ := bnd_e hF
  have k10 := (ctX12_isWithin (l := l) (G := G) (w := w) p2 0 9999 h8)
  refine J_callS hX [.int p2, .int 0, .int 9999] [] [.int (bI x9)] k10 miX12_isWithin q_655 q_873 ⟨rfl, rfl, Nat.le_of_ble_eq_true rfl, Nat.le_of_ble_eq_true rfl⟩ rfl rfl (Nat.le_of_ble_eq_true rfl) ⟨Nat.le_of_ble_eq_true rfl, Nat.le_of_ble_eq_true rfl⟩ dX12_addCustomer_24 (t := 27) rfl rfl ?_
  obtain ⟨xu, h11, hF⟩ := xow_ok hF
  refine J_callS hX [.int (bI x9)] [] [] (ctX12_demandArgument (G := G) (l := l) (w := w) x9 h11) miX12_demandArgument q_875 q_874 ⟨rfl, rfl, Nat.le_of_ble_eq_true rfl, Nat.le_of_ble_eq_true rfl⟩ rfl rfl (Nat.le_of_ble_eq_true rfl) ⟨Nat.le_of_ble_eq_true rfl, Nat.le_of_ble_eq_true rfl⟩ dX12_addCustomer_27 (t := 30) rfl rfl ?_
  refine J_lload_n hX dX12_addCustomer_30 0 rfl (t := 31) rfl ?_
  refine J_lconst (v := 0) hX dX12_addCustomer_31 (by decide) (t := 32) rfl ?_
  refine J_lcmp hX dX12_addCustomer_32 (t := 33) rfl ?_
  refine J_if_eq (tgt := 64) hX dX12_addCustomer_33 (by decide) (t := 36) rfl (fun z => ?_) (fun z => ?_)
  · replace hF := it_t hF z
    refine J_iconst (v := 0) hX dX12_addCustomer_64 (by decide) (t := 65) rfl ?_
    obtain ⟨xu, h12, hF⟩ := xow_ok hF
    refine J_callS hX [.int (bI false)] [] [] (ctX12_demandState (G := G) (l := l) (w := w) false h12) miX12_demandState q_790 q_789 ⟨rfl, rfl, Nat.le_of_ble_eq_true rfl, Nat.le_of_ble_eq_true rfl⟩ rfl rfl (Nat.le_of_ble_eq_true rfl) ⟨Nat.le_of_ble_eq_true rfl, Nat.le_of_ble_eq_true rfl⟩ dX12_addCustomer_65 (t := 68) rfl rfl ?_
    refine J_aload_n hX dX12_addCustomer_68 1 rfl (t := 69) rfl ?_
    refine J_get hX cb9 kEcho 6 (by decide) q_568 rfl dX12_addCustomer_69 (t := 72) rfl ?_
    refine J_aload_n hX dX12_addCustomer_72 1 rfl (t := 73) rfl ?_
    refine J_get hX cb9 kEcho 3 (by decide) q_565 rfl dX12_addCustomer_73 (t := 76) rfl ?_
    obtain ⟨w14, h13, hF⟩ := bo1_e hF
    have k15 := (ctX5_remember (G := G) (l := l) w 1 ⟨by decide, by decide⟩ n h13)
    refine J_callV hX [.ref (adr G 1 0)] [] [] k15 miX5_remember mvX5_remember cb3 kHistory q_1269 ⟨rfl, rfl, Nat.le_of_ble_eq_true rfl, Nat.le_of_ble_eq_true rfl⟩ rfl rfl (Nat.le_of_ble_eq_true rfl) ⟨Nat.le_of_ble_eq_true rfl, Nat.le_of_ble_eq_true rfl⟩ dX12_addCustomer_76 (t := 79) rfl rfl ?_
    refine J_aload_n hX dX12_addCustomer_79 1 rfl (t := 80) rfl ?_
    refine J_get hX cb9 kEcho 0 (by decide) q_562 rfl dX12_addCustomer_80 (t := 83) rfl ?_
    refine J_iconst (v := 0) hX dX12_addCustomer_83 (by decide) (t := 84) rfl ?_
    obtain ⟨w16, e17, hF⟩ := bnd_e hF
    refine J_puti hX cb7 kText 6 (by decide) q_190 rfl rfl e17 (fun _ _ => Nat.le_of_ble_eq_true rfl) (fun _ _ => rfl) dX12_addCustomer_84 (t := 87) rfl ?_
    refine J_aload_n hX dX12_addCustomer_87 1 rfl (t := 88) rfl ?_
    refine J_get hX cb9 kEcho 3 (by decide) q_565 rfl dX12_addCustomer_88 (t := 91) rfl ?_
    refine J_lload_n hX dX12_addCustomer_91 0 rfl (t := 92) rfl ?_
    refine J_iload_n hX dX12_addCustomer_92 2 rfl (t := 93) rfl ?_
    refine J_iload_n hX dX12_addCustomer_93 3 rfl (t := 94) rfl ?_
    obtain ⟨x19, M20, h18, hF⟩ := bo2_e hF
    have k21 := (CT.self (ctX6_welcome (G := G) (l := l) w16 1 ⟨by decide, by decide⟩ (w16 1) x2 p1 p2 h18))
    obtain ⟨w22, e23, hF⟩ := bnd_e hF
    rw [e23] at k21
    refine J_callV hX [.long x2, .int p1, .int p2] [] [.int x19] k21 miX6_welcome mvX6_welcome cb4 (kMarket (r := 1) ⟨by decide, by decide⟩) q_1574 ⟨rfl, rfl, Nat.le_of_ble_eq_true rfl, Nat.le_of_ble_eq_true rfl⟩ rfl rfl (Nat.le_of_ble_eq_true rfl) ⟨Nat.le_of_ble_eq_true rfl, Nat.le_of_ble_eq_true rfl⟩ dX12_addCustomer_94 (t := 97) rfl rfl ?_
    replace hF := Except.ok.inj (Option.some.inj hF)
    obtain ⟨hF, hF2⟩ := Prod.mk.inj hF
    subst hF
    subst hF2
    exact J_iret hX hR hlk dX12_addCustomer_97
  · replace hF := it_f hF z
    refine J_aload_n hX dX12_addCustomer_36 1 rfl (t := 37) rfl ?_
    refine J_get hX cb9 kEcho 3 (by decide) q_565 rfl dX12_addCustomer_37 (t := 40) rfl ?_
    refine J_lload_n hX dX12_addCustomer_40 0 rfl (t := 41) rfl ?_
    obtain ⟨x25, h24, hF⟩ := bo1_e hF
    have k26 := (CT.self2 (ctX6_customerNamed (G := G) (l := l) w 1 ⟨by decide, by decide⟩ (w 1) x2 n h24))
    refine J_callV hX [.long x2] [] [.int x25] k26 miX6_customerNamed mvX6_customerNamed cb4 (kMarket (r := 1) ⟨by decide, by decide⟩) q_691 ⟨rfl, rfl, Nat.le_of_ble_eq_true rfl, Nat.le_of_ble_eq_true rfl⟩ rfl rfl (Nat.le_of_ble_eq_true rfl) ⟨Nat.le_of_ble_eq_true rfl, Nat.le_of_ble_eq_true rfl⟩ dX12_addCustomer_41 (t := 44) rfl rfl ?_
    refine J_iconst (v := (-1)) hX dX12_addCustomer_44 (by decide) (t := 45) rfl ?_
    refine J_icmp_ne (tgt := 64) hX dX12_addCustomer_45 (by decide) (t := 48) rfl (fun z => ?_) (fun z => ?_)
    · replace hF := it_f hF z
      refine J_iconst (v := 0) hX dX12_addCustomer_64 (by decide) (t := 65) rfl ?_
      obtain ⟨xu, h27, hF⟩ := xow_ok hF
      refine J_callS hX [.int (bI false)] [] [] (ctX12_demandState (G := G) (l := l) (w := w) false h27) miX12_demandState q_790 q_789 ⟨rfl, rfl, Nat.le_of_ble_eq_true rfl, Nat.le_of_ble_eq_true rfl⟩ rfl rfl (Nat.le_of_ble_eq_true rfl) ⟨Nat.le_of_ble_eq_true rfl, Nat.le_of_ble_eq_true rfl⟩ dX12_addCustomer_65 (t := 68) rfl rfl ?_
      refine J_aload_n hX dX12_addCustomer_68 1 rfl (t := 69) rfl ?_
      refine J_get hX cb9 kEcho 6 (by decide) q_568 rfl dX12_addCustomer_69 (t := 72) rfl ?_
      refine J_aload_n hX dX12_addCustomer_72 1 rfl (t := 73) rfl ?_
      refine J_get hX cb9 kEcho 3 (by decide) q_565 rfl dX12_addCustomer_73 (t := 76) rfl ?_
      obtain ⟨w29, h28, hF⟩ := bo1_e hF
      have k30 := (ctX5_remember (G := G) (l := l) w 1 ⟨by decide, by decide⟩ n h28)
      refine J_callV hX [.ref (adr G 1 0)] [] [] k30 miX5_remember mvX5_remember cb3 kHistory q_1269 ⟨rfl, rfl, Nat.le_of_ble_eq_true rfl, Nat.le_of_ble_eq_true rfl⟩ rfl rfl (Nat.le_of_ble_eq_true rfl) ⟨Nat.le_of_ble_eq_true rfl, Nat.le_of_ble_eq_true rfl⟩ dX12_addCustomer_76 (t := 79) rfl rfl ?_
      refine J_aload_n hX dX12_addCustomer_79 1 rfl (t := 80) rfl ?_
      refine J_get hX cb9 kEcho 0 (by decide) q_562 rfl dX12_addCustomer_80 (t := 83) rfl ?_
      refine J_iconst (v := 0) hX dX12_addCustomer_83 (by decide) (t := 84) rfl ?_
      obtain ⟨w31, e32, hF⟩ := bnd_e hF
      refine J_puti hX cb7 kText 6 (by decide) q_190 rfl rfl e32 (fun _ _ => Nat.le_of_ble_eq_true rfl) (fun _ _ => rfl) dX12_addCustomer_84 (t := 87) rfl ?_
      refine J_aload_n hX dX12_addCustomer_87 1 rfl (t := 88) rfl ?_
      refine J_get hX cb9 kEcho 3 (by decide) q_565 rfl dX12_addCustomer_88 (t := 91) rfl ?_
      refine J_lload_n hX dX12_addCustomer_91 0 rfl (t := 92) rfl ?_
      refine J_iload_n hX dX12_addCustomer_92 2 rfl (t := 93) rfl ?_
      refine J_iload_n hX dX12_addCustomer_93 3 rfl (t := 94) rfl ?_
      obtain ⟨x34, M35, h33, hF⟩ := bo2_e hF
      have k36 := (CT.self (ctX6_welcome (G := G) (l := l) w31 1 ⟨by decide, by decide⟩ (w31 1) x2 p1 p2 h33))
      obtain ⟨w37, e38, hF⟩ := bnd_e hF
      rw [e38] at k36
      refine J_callV hX [.long x2, .int p1, .int p2] [] [.int x34] k36 miX6_welcome mvX6_welcome cb4 (kMarket (r := 1) ⟨by decide, by decide⟩) q_1574 ⟨rfl, rfl, Nat.le_of_ble_eq_true rfl, Nat.le_of_ble_eq_true rfl⟩ rfl rfl (Nat.le_of_ble_eq_true rfl) ⟨Nat.le_of_ble_eq_true rfl, Nat.le_of_ble_eq_true rfl⟩ dX12_addCustomer_94 (t := 97) rfl rfl ?_
      replace hF := Except.ok.inj (Option.some.inj hF)
      obtain ⟨hF, hF2⟩ := Prod.mk.inj hF
      subst hF
      subst hF2
      exact J_iret hX hR hlk dX12_addCustomer_97
    · replace hF := it_t hF z
      refine J_aload_n hX dX12_addCustomer_48 1 rfl (t := 49) rfl ?_
      refine J_get hX cb9 kEcho 3 (by decide) q_565 rfl dX12_addCustomer_49 (t := 52) rfl ?_
      refine J_get hX cb4 (kMarket (r := 1) ⟨by decide, by decide⟩) 4 (by decide) q_382 rfl dX12_addCustomer_52 (t := 55) rfl ?_
      refine J_bipush (v := 8) hX dX12_addCustomer_55 (by decide) (t := 57) rfl ?_
      refine J_icmp_ge (tgt := 64) hX dX12_addCustomer_57 (by decide) (t := 60) rfl (fun z => ?_) (fun z => ?_)
      · replace hF := it_t hF z
        refine J_iconst (v := 0) hX dX12_addCustomer_64 (by decide) (t := 65) rfl ?_
        obtain ⟨xu, h39, hF⟩ := xow_ok hF
        refine J_callS hX [.int (bI false)] [] [] (ctX12_demandState (G := G) (l := l) (w := w) false h39) miX12_demandState q_790 q_789 ⟨rfl, rfl, Nat.le_of_ble_eq_true rfl, Nat.le_of_ble_eq_true rfl⟩ rfl rfl (Nat.le_of_ble_eq_true rfl) ⟨Nat.le_of_ble_eq_true rfl, Nat.le_of_ble_eq_true rfl⟩ dX12_addCustomer_65 (t := 68) rfl rfl ?_
        refine J_aload_n hX dX12_addCustomer_68 1 rfl (t := 69) rfl ?_
        refine J_get hX cb9 kEcho 6 (by decide) q_568 rfl dX12_addCustomer_69 (t := 72) rfl ?_
        refine J_aload_n hX dX12_addCustomer_72 1 rfl (t := 73) rfl ?_
        refine J_get hX cb9 kEcho 3 (by decide) q_565 rfl dX12_addCustomer_73 (t := 76) rfl ?_
        obtain ⟨w41, h40, hF⟩ := bo1_e hF
        have k42 := (ctX5_remember (G := G) (l := l) w 1 ⟨by decide, by decide⟩ n h40)
        refine J_callV hX [.ref (adr G 1 0)] [] [] k42 miX5_remember mvX5_remember cb3 kHistory q_1269 ⟨rfl, rfl, Nat.le_of_ble_eq_true rfl, Nat.le_of_ble_eq_true rfl⟩ rfl rfl (Nat.le_of_ble_eq_true rfl) ⟨Nat.le_of_ble_eq_true rfl, Nat.le_of_ble_eq_true rfl⟩ dX12_addCustomer_76 (t := 79) rfl rfl ?_
        refine J_aload_n hX dX12_addCustomer_79 1 rfl (t := 80) rfl ?_
        refine J_get hX cb9 kEcho 0 (by decide) q_562 rfl dX12_addCustomer_80 (t := 83) rfl ?_
        refine J_iconst (v := 0) hX dX12_addCustomer_83 (by decide) (t := 84) rfl ?_
        obtain ⟨w43, e44, hF⟩ := bnd_e hF
        refine J_puti hX cb7 kText 6 (by decide) q_190 rfl rfl e44 (fun _ _ => Nat.le_of_ble_eq_true rfl) (fun _ _ => rfl) dX12_addCustomer_84 (t := 87) rfl ?_
        refine J_aload_n hX dX12_addCustomer_87 1 rfl (t := 88) rfl ?_
        refine J_get hX cb9 kEcho 3 (by decide) q_565 rfl dX12_addCustomer_88 (t := 91) rfl ?_
        refine J_lload_n hX dX12_addCustomer_91 0 rfl (t := 92) rfl ?_
        refine J_iload_n hX dX12_addCustomer_92 2 rfl (t := 93) rfl ?_
        refine J_iload_n hX dX12_addCustomer_93 3 rfl (t := 94) rfl ?_
        obtain ⟨x46, M47, h45, hF⟩ := bo2_e hF
        have k48 := (CT.self (ctX6_welcome (G := G) (l := l) w43 1 ⟨by decide, by decide⟩ (w43 1) x2 p1 p2 h45))
        obtain ⟨w49, e50, hF⟩ := bnd_e hF
        rw [e50] at k48
        refine J_callV hX [.long x2, .int p1, .int p2] [] [.int x46] k48 miX6_welcome mvX6_welcome cb4 (kMarket (r := 1) ⟨by decide, by decide⟩) q_1574 ⟨rfl, rfl, Nat.le_of_ble_eq_true rfl, Nat.le_of_ble_eq_true rfl⟩ rfl rfl (Nat.le_of_ble_eq_true rfl) ⟨Nat.le_of_ble_eq_true rfl, Nat.le_of_ble_eq_true rfl⟩ dX12_addCustomer_94 (t := 97) rfl rfl ?_
        replace hF := Except.ok.inj (Option.some.inj hF)
        obtain ⟨hF, hF2⟩ := Prod.mk.inj hF
        subst hF
        subst hF2
        exact J_iret hX hR hlk dX12_addCustomer_97
      · replace hF := it_f hF z
        refine J_iconst (v := 1) hX dX12_addCustomer_60 (by decide) (t := 61) rfl ?_
        refine J_goto (tgt := 65) hX dX12_addCustomer_61 (by decide) ?_
        obtain ⟨xu, h51, hF⟩ := xow_ok hF
        refine J_callS hX [.int (bI true)] [] [] (ctX12_demandState (G := G) (l := l) (w := w) true h51) miX12_demandState q_790 q_789 ⟨rfl, rfl, Nat.le_of_ble_eq_true rfl, Nat.le_of_ble_eq_true rfl⟩ rfl rfl (Nat.le_of_ble_eq_true rfl) ⟨Nat.le_of_ble_eq_true rfl, Nat.le_of_ble_eq_true rfl⟩ dX12_addCustomer_65 (t := 68) rfl rfl ?_
        refine J_aload_n hX dX12_addCustomer_68 1 rfl (t := 69) rfl ?_
        refine J_get hX cb9 kEcho 6 (by decide) q_568 rfl dX12_addCustomer_69 (t := 72) rfl ?_
        refine J_aload_n hX dX12_addCustomer_72 1 rfl (t := 73) rfl ?_
        refine J_get hX cb9 kEcho 3 (by decide) q_565 rfl dX12_addCustomer_73 (t := 76) rfl ?_
        obtain ⟨w53, h52, hF⟩ := bo1_e hF
        have k54 := (ctX5_remember (G := G) (l := l) w 1 ⟨by decide, by decide⟩ n h52)
        refine J_callV hX [.ref (adr G 1 0)] [] [] k54 miX5_remember mvX5_remember cb3 kHistory q_1269 ⟨rfl, rfl, Nat.le_of_ble_eq_true rfl, Nat.le_of_ble_eq_true rfl⟩ rfl rfl (Nat.le_of_ble_eq_true rfl) ⟨Nat.le_of_ble_eq_true rfl, Nat.le_of_ble_eq_true rfl⟩ dX12_addCustomer_76 (t := 79) rfl rfl ?_
        refine J_aload_n hX dX12_addCustomer_79 1 rfl (t := 80) rfl ?_
        refine J_get hX cb9 kEcho 0 (by decide) q_562 rfl dX12_addCustomer_80 (t := 83) rfl ?_
        refine J_iconst (v := 0) hX dX12_addCustomer_83 (by decide) (t := 84) rfl ?_
        obtain ⟨w55, e56, hF⟩ := bnd_e hF
        refine J_puti hX cb7 kText 6 (by decide) q_190 rfl rfl e56 (fun _ _ => Nat.le_of_ble_eq_true rfl) (fun _ _ => rfl) dX12_addCustomer_84 (t := 87) rfl ?_
        refine J_aload_n hX dX12_addCustomer_87 1 rfl (t := 88) rfl ?_
        refine J_get hX cb9 kEcho 3 (by decide) q_565 rfl dX12_addCustomer_88 (t := 91) rfl ?_
        refine J_lload_n hX dX12_addCustomer_91 0 rfl (t := 92) rfl ?_
        refine J_iload_n hX dX12_addCustomer_92 2 rfl (t := 93) rfl ?_
        refine J_iload_n hX dX12_addCustomer_93 3 rfl (t := 94) rfl ?_
        obtain ⟨x58, M59, h57, hF⟩ := bo2_e hF
        have k60 := (CT.self (ctX6_welcome (G := G) (l := l) w55 1 ⟨by decide, by decide⟩ (w55 1) x2 p1 p2 h57))
        obtain ⟨w61, e62, hF⟩ := bnd_e hF
        rw [e62] at k60
        refine J_callV hX [.long x2, .int p1, .int p2] [] [.int x58] k60 miX6_welcome mvX6_welcome cb4 (kMarket (r := 1) ⟨by decide, by decide⟩) q_1574 ⟨rfl, rfl, Nat.le_of_ble_eq_true rfl, Nat.le_of_ble_eq_true rfl⟩ rfl rfl (Nat.le_of_ble_eq_true rfl) ⟨Nat.le_of_ble_eq_true rfl, Nat.le_of_ble_eq_true rfl⟩ dX12_addCustomer_94 (t := 97) rfl rfl ?_
        replace hF := Except.ok.inj (Option.some.inj hF)
        obtain ⟨hF, hF2⟩ := Prod.mk.inj hF
        subst hF
        subst hF2
        exact J_iret hX hR hlk dX12_addCustomer_97
abbrev rmX12_demand : Room := { frames := 7, cells := 0, slots := 0, locals := 110 }
theorem miX12_demand : MI yX12_demand cX12_demand 1 none 1 := ⟨q_1585, q_136, by decide +kernel, by decide +kernel, by decide +kernel, by decide +kernel⟩
def FX12_demand (f0 : Nat) : Option (Except String (Unit)) :=
  if f0 = 1 then
    xo (FX12_demandIndex false) fun _ =>
    if f0 = 2 then
      xo (FX12_demandArgument false) fun _ =>
      if f0 = 3 then
        xo (FX12_demandState false) fun _ =>
        some (.ok ())
      else
        xo (FX12_demandState true) fun _ =>
        some (.ok ())
    else
      xo (FX12_demandArgument true) fun _ =>
      if f0 = 3 then
        xo (FX12_demandState false) fun _ =>
        some (.ok ())
      else
        xo (FX12_demandState true) fun _ =>
        some (.ok ())
  else
    xo (FX12_demandIndex true) fun _ =>
    if f0 = 2 then
      xo (FX12_demandArgument false) fun _ =>
      if f0 = 3 then
        xo (FX12_demandState false) fun _ =>
        some (.ok ())
      else
        xo (FX12_demandState true) fun _ =>
        some (.ok ())
    else
      xo (FX12_demandArgument true) fun _ =>
      if f0 = 3 then
        xo (FX12_demandState false) fun _ =>
        some (.ok ())
      else
        xo (FX12_demandState true) fun _ =>
        some (.ok ())
set_option maxHeartbeats 4000000 in
set_option maxRecDepth 100000 in
theorem ctX12_demand {G : GG} {l : Launch} {w : Wd} (f0 : Nat) (hf0 : f0 < 4)  (hF : FX12_demand f0 = some (.ok ())) : CT G l yX12_demand cX12_demand 1 none rmX12_demand 0 0 [.ref (ga G (12 + f0))] w (none) w := by
  refine CT.of miX12_demand [(0, .ref (ga G (12 + f0)))] rfl (Nat.le_of_ble_eq_true rfl) ?_
  intro p e s m args below meth c hX hR hlk
  have hX : FX G RX12 cX12_demand 1 p s m args c := hX
  unfold FX12_demand at hF
  refine J_aload_n hX dX12_demand_0 0 rfl (t := 1) rfl ?_
  refine J_gsX hX 1 (by decide) q_1586 dX12_demand_1 (t := 4) rfl ?_
  refine J_acmp_eq (tgt := 11) hX dX12_demand_4 (by decide) (t := 7) rfl (fun z => ?_) (fun z => ?_)
  · replace hF := it_t hF (hX.faultNe hf0 (by decide) z)
    refine J_iconst (v := 0) hX dX12_demand_11 (by decide) (t := 12) rfl ?_
    obtain ⟨xu, h1, hF⟩ := xo_ok hF
    refine J_callS hX [.int (bI false)] [] [] (ctX12_demandIndex (G := G) (l := l) (w := w) false h1) miX12_demandIndex q_1326 q_1325 ⟨rfl, rfl, Nat.le_of_ble_eq_true rfl, Nat.le_of_ble_eq_true rfl⟩ rfl rfl (Nat.le_of_ble_eq_true rfl) ⟨Nat.le_of_ble_eq_true rfl, Nat.le_of_ble_eq_true rfl⟩ dX12_demand_12 (t := 15) rfl rfl ?_
    refine J_aload_n hX dX12_demand_15 0 rfl (t := 16) rfl ?_
    refine J_gsX hX 2 (by decide) q_1587 dX12_demand_16 (t := 19) rfl ?_
    refine J_acmp_eq (tgt := 26) hX dX12_demand_19 (by decide) (t := 22) rfl (fun z => ?_) (fun z => ?_)
    · replace hF := it_t hF (hX.faultNe hf0 (by decide) z)
      refine J_iconst (v := 0) hX dX12_demand_26 (by decide) (t := 27) rfl ?_
      obtain ⟨xu, h2, hF⟩ := xo_ok hF
      refine J_callS hX [.int (bI false)] [] [] (ctX12_demandArgument (G := G) (l := l) (w := w) false h2) miX12_demandArgument q_875 q_874 ⟨rfl, rfl, Nat.le_of_ble_eq_true rfl, Nat.le_of_ble_eq_true rfl⟩ rfl rfl (Nat.le_of_ble_eq_true rfl) ⟨Nat.le_of_ble_eq_true rfl, Nat.le_of_ble_eq_true rfl⟩ dX12_demand_27 (t := 30) rfl rfl ?_
      refine J_aload_n hX dX12_demand_30 0 rfl (t := 31) rfl ?_
      refine J_gsX hX 3 (by decide) q_1588 dX12_demand_31 (t := 34) rfl ?_
      refine J_acmp_eq (tgt := 41) hX dX12_demand_34 (by decide) (t := 37) rfl (fun z => ?_) (fun z => ?_)
      · replace hF := it_t hF (hX.faultNe hf0 (by decide) z)
        refine J_iconst (v := 0) hX dX12_demand_41 (by decide) (t := 42) rfl ?_
        obtain ⟨xu, h3, hF⟩ := xo_ok hF
        refine J_callS hX [.int (bI false)] [] [] (ctX12_demandState (G := G) (l := l) (w := w) false h3) miX12_demandState q_790 q_789 ⟨rfl, rfl, Nat.le_of_ble_eq_true rfl, Nat.le_of_ble_eq_true rfl⟩ rfl rfl (Nat.le_of_ble_eq_true rfl) ⟨Nat.le_of_ble_eq_true rfl, Nat.le_of_ble_eq_true rfl⟩ dX12_demand_42 (t := 45) rfl rfl ?_
        exact J_vret hX hR hlk dX12_demand_45
      · replace hF := it_f hF (fun k => z (by rw [k]))
        refine J_iconst (v := 1) hX dX12_demand_37 (by decide) (t := 38) rfl ?_
        refine J_goto (tgt := 42) hX dX12_demand_38 (by decide) ?_
        obtain ⟨xu, h4, hF⟩ := xo_ok hF
        refine J_callS hX [.int (bI true)] [] [] (ctX12_demandState (G := G) (l := l) (w := w) true h4) miX12_demandState q_790 q_789 ⟨rfl, rfl, Nat.le_of_ble_eq_true rfl, Nat.le_of_ble_eq_true rfl⟩ rfl rfl (Nat.le_of_ble_eq_true rfl) ⟨Nat.le_of_ble_eq_true rfl, Nat.le_of_ble_eq_true rfl⟩ dX12_demand_42 (t := 45) rfl rfl ?_
        exact J_vret hX hR hlk dX12_demand_45
    · replace hF := it_f hF (fun k => z (by rw [k]))
      refine J_iconst (v := 1) hX dX12_demand_22 (by decide) (t := 23) rfl ?_
      refine J_goto (tgt := 27) hX dX12_demand_23 (by decide) ?_
      obtain ⟨xu, h5, hF⟩ := xo_ok hF
      refine J_callS hX [.int (bI true)] [] [] (ctX12_demandArgument (G := G) (l := l) (w := w) true h5) miX12_demandArgument q_875 q_874 ⟨rfl, rfl, Nat.le_of_ble_eq_true rfl, Nat.le_of_ble_eq_true rfl⟩ rfl rfl (Nat.le_of_ble_eq_true rfl) ⟨Nat.le_of_ble_eq_true rfl, Nat.le_of_ble_eq_true rfl⟩ dX12_demand_27 (t := 30) rfl rfl ?_
      refine J_aload_n hX dX12_demand_30 0 rfl (t := 31) rfl ?_
      refine J_gsX hX 3 (by decide) q_1588 dX12_demand_31 (t := 34) rfl ?_
      refine J_acmp_eq (tgt := 41) hX dX12_demand_34 (by decide) (t := 37) rfl (fun z => ?_) (fun z => ?_)
      · replace hF := it_t hF (hX.faultNe hf0 (by decide) z)
        refine J_iconst (v := 0) hX dX12_demand_41 (by decide) (t := 42) rfl ?_
        obtain ⟨xu, h6, hF⟩ := xo_ok hF
        refine J_callS hX [.int (bI false)] [] [] (ctX12_demandState (G := G) (l := l) (w := w) false h6) miX12_demandState q_790 q_789 ⟨rfl, rfl, Nat.le_of_ble_eq_true rfl, Nat.le_of_ble_eq_true rfl⟩ rfl rfl (Nat.le_of_ble_eq_true rfl) ⟨Nat.le_of_ble_eq_true rfl, Nat.le_of_ble_eq_true rfl⟩ dX12_demand_42 (t := 45) rfl rfl ?_
        exact J_vret hX hR hlk dX12_demand_45
      · replace hF := it_f hF (fun k => z (by rw [k]))
        refine J_iconst (v := 1) hX dX12_demand_37 (by decide) (t := 38) rfl ?_
        refine J_goto (tgt := 42) hX dX12_demand_38 (by decide) ?_
        obtain ⟨xu, h7, hF⟩ := xo_ok hF
        refine J_callS hX [.int (bI true)] [] [] (ctX12_demandState (G := G) (l := l) (w := w) true h7) miX12_demandState q_790 q_789 ⟨rfl, rfl, Nat.le_of_ble_eq_true rfl, Nat.le_of_ble_eq_true rfl⟩ rfl rfl (Nat.le_of_ble_eq_true rfl) ⟨Nat.le_of_ble_eq_true rfl, Nat.le_of_ble_eq_true rfl⟩ dX12_demand_42 (t := 45) rfl rfl ?_
        exact J_vret hX hR hlk dX12_demand_45
  · replace hF := it_f hF (fun k => z (by rw [k]))
    refine J_iconst (v := 1) hX dX12_demand_7 (by decide) (t := 8) rfl ?_
    refine J_goto (tgt := 12) hX dX12_demand_8 (by decide) ?_
    obtain ⟨xu, h8, hF⟩ := xo_ok hF
    refine J_callS hX [.int (bI true)] [] [] (ctX12_demandIndex (G := G) (l := l) (w := w) true h8) miX12_demandIndex q_1326 q_1325 ⟨rfl, rfl, Nat.le_of_ble_eq_true rfl, Nat.le_of_ble_eq_true rfl⟩ rfl rfl (Nat.le_of_ble_eq_true rfl) ⟨Nat.le_of_ble_eq_true rfl, Nat.le_of_ble_eq_true rfl⟩ dX12_demand_12 (t := 15) rfl rfl ?_
    refine J_aload_n hX dX12_demand_15 0 rfl (t := 16) rfl ?_
    refine J_gsX hX 2 (by decide) q_1587 dX12_demand_16 (t := 19) rfl ?_
    refine J_acmp_eq (tgt := 26) hX dX12_demand_19 (by decide) (t := 22) rfl (fun z => ?_) (fun z => ?_)
    · replace hF := it_t hF (hX.faultNe hf0 (by decide) z)
      refine J_iconst (v := 0) hX dX12_demand_26 (by decide) (t := 27) rfl ?_
      obtain ⟨xu, h9, hF⟩ := xo_ok hF
      refine J_callS hX [.int (bI false)] [] [] (ctX12_demandArgument (G := G) (l := l) (w := w) false h9) miX12_demandArgument q_875 q_874 ⟨rfl, rfl, Nat.le_of_ble_eq_true rfl, Nat.le_of_ble_eq_true rfl⟩ rfl rfl (Nat.le_of_ble_eq_true rfl) ⟨Nat.le_of_ble_eq_true rfl, Nat.le_of_ble_eq_true rfl⟩ dX12_demand_27 (t := 30) rfl rfl ?_
      refine J_aload_n hX dX12_demand_30 0 rfl (t := 31) rfl ?_
      refine J_gsX hX 3 (by decide) q_1588 dX12_demand_31 (t := 34) rfl ?_
      refine J_acmp_eq (tgt := 41) hX dX12_demand_34 (by decide) (t := 37) rfl (fun z => ?_) (fun z => ?_)
      · replace hF := it_t hF (hX.faultNe hf0 (by decide) z)
        refine J_iconst (v := 0) hX dX12_demand_41 (by decide) (t := 42) rfl ?_
        obtain ⟨xu, h10, hF⟩ := xo_ok hF
        refine J_callS hX [.int (bI false)] [] [] (ctX12_demandState (G := G) (l := l) (w := w) false h10) miX12_demandState q_790 q_789 ⟨rfl, rfl, Nat.le_of_ble_eq_true rfl, Nat.le_of_ble_eq_true rfl⟩ rfl rfl (Nat.le_of_ble_eq_true rfl) ⟨Nat.le_of_ble_eq_true rfl, Nat.le_of_ble_eq_true rfl⟩ dX12_demand_42 (t := 45) rfl rfl ?_
        exact J_vret hX hR hlk dX12_demand_45
      · replace hF := it_f hF (fun k => z (by rw [k]))
        refine J_iconst (v := 1) hX dX12_demand_37 (by decide) (t := 38) rfl ?_
        refine J_goto (tgt := 42) hX dX12_demand_38 (by decide) ?_
        obtain ⟨xu, h11, hF⟩ := xo_ok hF
        refine J_callS hX [.int (bI true)] [] [] (ctX12_demandState (G := G) (l := l) (w := w) true h11) miX12_demandState q_790 q_789 ⟨rfl, rfl, Nat.le_of_ble_eq_true rfl, Nat.le_of_ble_eq_true rfl⟩ rfl rfl (Nat.le_of_ble_eq_true rfl) ⟨Nat.le_of_ble_eq_true rfl, Nat.le_of_ble_eq_true rfl⟩ dX12_demand_42 (t := 45) rfl rfl ?_
        exact J_vret hX hR hlk dX12_demand_45
    · replace hF := it_f hF (fun k => z (by rw [k]))
      refine J_iconst (v := 1) hX dX12_demand_22 (by decide) (t := 23) rfl ?_
      refine J_goto (tgt := 27) hX dX12_demand_23 (by decide) ?_
      obtain ⟨xu, h12, hF⟩ := xo_ok hF
      refine J_callS hX [.int (bI true)] [] [] (ctX12_demandArgument (G := G) (l := l) (w := w) true h12) miX12_demandArgument q_875 q_874 ⟨rfl, rfl, Nat.le_of_ble_eq_true rfl, Nat.le_of_ble_eq_true rfl⟩ rfl rfl (Nat.le_of_ble_eq_true rfl) ⟨Nat.le_of_ble_eq_true rfl, Nat.le_of_ble_eq_true rfl⟩ dX12_demand_27 (t := 30) rfl rfl ?_
      refine J_aload_n hX dX12_demand_30 0 rfl (t := 31) rfl ?_
      refine J_gsX hX 3 (by decide) q_1588 dX12_demand_31 (t := 34) rfl ?_
      refine J_acmp_eq (tgt := 41) hX dX12_demand_34 (by decide) (t := 37) rfl (fun z => ?_) (fun z => ?_)
      · replace hF := it_t hF (hX.faultNe hf0 (by decide) z)
        refine J_iconst (v := 0) hX dX12_demand_41 (by decide) (t := 42) rfl ?_
        obtain ⟨xu, h13, hF⟩ := xo_ok hF
        refine J_callS hX [.int (bI false)] [] [] (ctX12_demandState (G := G) (l := l) (w := w) false h13) miX12_demandState q_790 q_789 ⟨rfl, rfl, Nat.le_of_ble_eq_true rfl, Nat.le_of_ble_eq_true rfl⟩ rfl rfl (Nat.le_of_ble_eq_true rfl) ⟨Nat.le_of_ble_eq_true rfl, Nat.le_of_ble_eq_true rfl⟩ dX12_demand_42 (t := 45) rfl rfl ?_
        exact J_vret hX hR hlk dX12_demand_45
      · replace hF := it_f hF (fun k => z (by rw [k]))
        refine J_iconst (v := 1) hX dX12_demand_37 (by decide) (t := 38) rfl ?_
        refine J_goto (tgt := 42) hX dX12_demand_38 (by decide) ?_
        obtain ⟨xu, h14, hF⟩ := xo_ok hF
        refine J_callS hX [.int (bI true)] [] [] (ctX12_demandState (G := G) (l := l) (w := w) true h14) miX12_demandState q_790 q_789 ⟨rfl, rfl, Nat.le_of_ble_eq_true rfl, Nat.le_of_ble_eq_true rfl⟩ rfl rfl (Nat.le_of_ble_eq_true rfl) ⟨Nat.le_of_ble_eq_true rfl, Nat.le_of_ble_eq_true rfl⟩ dX12_demand_42 (t := 45) rfl rfl ?_
        exact J_vret hX hR hlk dX12_demand_45
abbrev rmX12_shout : Room := { frames := 8, cells := 0, slots := 0, locals := 130 }
theorem miX12_shout : MI yX12_shout cX12_shout 5 (some .int) 4 := ⟨q_1581, q_136, by decide +kernel, by decide +kernel, by decide +kernel, by decide +kernel⟩
theorem mvX12_shout : MV yX12_shout := ⟨q_1579, q_1580⟩
def FX12_shout (n : Nat) (w : Wd) (p1 : Int32) (p2 : Int32) (p3 : Int32) (p4 : Int32) : Option (Except (String × Wd) (Int32 × Wd)) :=
  bo1 (FX6_faultOfSale n (w 1) p1 p2 p3 p4) fun x2 =>
  xo (xw w (FX12_demand x2)) fun _ =>
  bo1 (FX5_remember n w 1) fun w6 =>
  bo2 (FX6_sell (w6 1) p1 p2 p3 p4) fun x9 M10 =>
  bnd (sW w6 1 M10) fun w12 =>
  some (.ok (x9, w12))
set_option maxHeartbeats 4000000 in
set_option maxRecDepth 100000 in
theorem ctX12_shout {G : GG} {l : Launch} (w : Wd) (p1 : Int32) (p2 : Int32) (p3 : Int32) (p4 : Int32)  (n : Nat) {rx : Int32} {rw : Wd} (hF : FX12_shout n w p1 p2 p3 p4 = some (.ok (rx, rw))) : CT G l yX12_shout cX12_shout 5 (some .int) rmX12_shout 0 0 [.ref (adr G 0 0), .int p1, .int p2, .int p3, .int p4] w (some (.int rx)) rw := by
  refine CT.of miX12_shout [(0, .ref (adr G 0 0)), (1, .int p1), (2, .int p2), (3, .int p3), (4, .int p4)] rfl (Nat.le_of_ble_eq_true rfl) ?_
  intro p e s m args below meth c hX hR hlk
  have hX : FX G RX12 cX12_shout 5 p s m args c := hX
  unfold FX12_shout at hF
  refine J_aload_n hX dX12_shout_0 0 rfl (t := 1) rfl ?_
  refine J_get hX cb9 kEcho 3 (by decide) q_565 rfl dX12_shout_1 (t := 4) rfl ?_
  refine J_iload_n hX dX12_shout_4 1 rfl (t := 5) rfl ?_
  refine J_iload_n hX dX12_shout_5 2 rfl (t := 6) rfl ?_
  refine J_iload_n hX dX12_shout_6 3 rfl (t := 7) rfl ?_
  refine J_iload hX dX12_shout_7 4 rfl (t := 9) rfl ?_
  obtain ⟨x2, h1, hF⟩ := bo1_e hF
  have k3 := (CT.self2 (ctX6_faultOfSale (G := G) (l := l) w 1 ⟨by decide, by decide⟩ (w 1) p1 p2 p3 p4 n h1))
  refine J_callV hX [.int p1, .int p2, .int p3, .int p4] [] [.ref (ga G (12 + x2))] k3 miX6_faultOfSale mvX6_faultOfSale cb4 (kMarket (r := 1) ⟨by decide, by decide⟩) q_1582 ⟨rfl, rfl, Nat.le_of_ble_eq_true rfl, Nat.le_of_ble_eq_true rfl⟩ rfl rfl (Nat.le_of_ble_eq_true rfl) ⟨Nat.le_of_ble_eq_true rfl, Nat.le_of_ble_eq_true rfl⟩ dX12_shout_9 (t := 12) rfl rfl ?_
  obtain ⟨xu, h4, hF⟩ := xow_ok hF
  refine J_callS hX [.ref (ga G (12 + x2))] [] [] (ctX12_demand (G := G) (l := l) (w := w) x2 (ltX6_faultOfSale h1) h4) miX12_demand q_1584 q_1583 ⟨rfl, rfl, Nat.le_of_ble_eq_true rfl, Nat.le_of_ble_eq_true rfl⟩ rfl rfl (Nat.le_of_ble_eq_true rfl) ⟨Nat.le_of_ble_eq_true rfl, Nat.le_of_ble_eq_true rfl⟩ dX12_shout_12 (t := 15) rfl rfl ?_
  refine J_aload_n hX dX12_shout_15 0 rfl (t := 16) rfl ?_
  refine J_get hX cb9 kEcho 6 (by decide) q_568 rfl dX12_shout_16 (t := 19) rfl ?_
  refine J_aload_n hX dX12_shout_19 0 rfl (t := 20) rfl ?_
  refine J_get hX cb9 kEcho 3 (by decide) q_565 rfl dX12_shout_20 (t := 23) rfl ?_
  obtain ⟨w6, h5, hF⟩ := bo1_e hF
  have k7 := (ctX5_remember (G := G) (l := l) w 1 ⟨by decide, by decide⟩ n h5)
  refine J_callV hX [.ref (adr G 1 0)] [] [] k7 miX5_remember mvX5_remember cb3 kHistory q_1269 ⟨rfl, rfl, Nat.le_of_ble_eq_true rfl, Nat.le_of_ble_eq_true rfl⟩ rfl rfl (Nat.le_of_ble_eq_true rfl) ⟨Nat.le_of_ble_eq_true rfl, Nat.le_of_ble_eq_true rfl⟩ dX12_shout_23 (t := 26) rfl rfl ?_
  refine J_aload_n hX dX12_shout_26 0 rfl (t := 27) rfl ?_
  refine J_get hX cb9 kEcho 3 (by decide) q_565 rfl dX12_shout_27 (t := 30) rfl ?_
  refine J_iload_n hX dX12_shout_30 1 rfl (t := 31) rfl ?_
  refine J_iload_n hX dX12_shout_31 2 rfl (t := 32) rfl ?_
  refine J_iload_n hX dX12_shout_32 3 rfl (t := 33) rfl ?_
  refine J_iload hX dX12_shout_33 4 rfl (t := 35) rfl ?_
  obtain ⟨x9, M10, h8, hF⟩ := bo2_e hF
  have k11 := (CT.self (ctX6_sell (G := G) (l := l) w6 1 ⟨by decide, by decide⟩ (w6 1) p1 p2 p3 p4 h8))
  obtain ⟨w12, e13, hF⟩ := bnd_e hF
  rw [e13] at k11
  refine J_callV hX [.int p1, .int p2, .int p3, .int p4] [] [.int x9] k11 miX6_sell mvX6_sell cb4 (kMarket (r := 1) ⟨by decide, by decide⟩) q_1589 ⟨rfl, rfl, Nat.le_of_ble_eq_true rfl, Nat.le_of_ble_eq_true rfl⟩ rfl rfl (Nat.le_of_ble_eq_true rfl) ⟨Nat.le_of_ble_eq_true rfl, Nat.le_of_ble_eq_true rfl⟩ dX12_shout_35 (t := 38) rfl rfl ?_
  replace hF := Except.ok.inj (Option.some.inj hF)
  obtain ⟨hF, hF2⟩ := Prod.mk.inj hF
  subst hF
  subst hF2
  exact J_iret hX hR hlk dX12_shout_38
abbrev rmX12_cancel : Room := { frames := 8, cells := 0, slots := 0, locals := 130 }
theorem miX12_cancel : MI yX12_cancel cX12_cancel 2 (some .int) 1 := ⟨q_1596, q_136, by decide +kernel, by decide +kernel, by decide +kernel, by decide +kernel⟩
theorem mvX12_cancel : MV yX12_cancel := ⟨q_1594, q_1595⟩
def FX12_cancel (n : Nat) (w : Wd) (p1 : Int32) : Option (Except (String × Wd) (Int32 × Wd)) :=
  bo1 (FX6_faultOfOpen (w 1) p1) fun x2 =>
  xo (xw w (FX12_demand x2)) fun _ =>
  bo1 (FX5_remember n w 1) fun w6 =>
  bo2 (FX6_callOff (w6 1) p1) fun x9 M10 =>
  bnd (sW w6 1 M10) fun w12 =>
  some (.ok (x9, w12))
set_option maxHeartbeats 4000000 in
set_option maxRecDepth 100000 in
theorem ctX12_cancel {G : GG} {l : Launch} (w : Wd) (p1 : Int32)  (n : Nat) {rx : Int32} {rw : Wd} (hF : FX12_cancel n w p1 = some (.ok (rx, rw))) : CT G l yX12_cancel cX12_cancel 2 (some .int) rmX12_cancel 0 0 [.ref (adr G 0 0), .int p1] w (some (.int rx)) rw := by
  refine CT.of miX12_cancel [(0, .ref (adr G 0 0)), (1, .int p1)] rfl (Nat.le_of_ble_eq_true rfl) ?_
  intro p e s m args below meth c hX hR hlk
  have hX : FX G RX12 cX12_cancel 2 p s m args c := hX
  unfold FX12_cancel at hF
  refine J_aload_n hX dX12_cancel_0 0 rfl (t := 1) rfl ?_
  refine J_get hX cb9 kEcho 3 (by decide) q_565 rfl dX12_cancel_1 (t := 4) rfl ?_
  refine J_iload_n hX dX12_cancel_4 1 rfl (t := 5) rfl ?_
  obtain ⟨x2, h1, hF⟩ := bo1_e hF
  have k3 := (CT.self2 (ctX6_faultOfOpen (G := G) (l := l) w 1 ⟨by decide, by decide⟩ (w 1) p1 h1))
  refine J_callV hX [.int p1] [] [.ref (ga G (12 + x2))] k3 miX6_faultOfOpen mvX6_faultOfOpen cb4 (kMarket (r := 1) ⟨by decide, by decide⟩) q_1597 ⟨rfl, rfl, Nat.le_of_ble_eq_true rfl, Nat.le_of_ble_eq_true rfl⟩ rfl rfl (Nat.le_of_ble_eq_true rfl) ⟨Nat.le_of_ble_eq_true rfl, Nat.le_of_ble_eq_true rfl⟩ dX12_cancel_5 (t := 8) rfl rfl ?_
  obtain ⟨xu, h4, hF⟩ := xow_ok hF
  refine J_callS hX [.ref (ga G (12 + x2))] [] [] (ctX12_demand (G := G) (l := l) (w := w) x2 (ltX6_faultOfOpen h1) h4) miX12_demand q_1584 q_1583 ⟨rfl, rfl, Nat.le_of_ble_eq_true rfl, Nat.le_of_ble_eq_true rfl⟩ rfl rfl (Nat.le_of_ble_eq_true rfl) ⟨Nat.le_of_ble_eq_true rfl, Nat.le_of_ble_eq_true rfl⟩ dX12_cancel_8 (t := 11) rfl rfl ?_
  refine J_aload_n hX dX12_cancel_11 0 rfl (t := 12) rfl ?_
  refine J_get hX cb9 kEcho 6 (by decide) q_568 rfl dX12_cancel_12 (t := 15) rfl ?_
  refine J_aload_n hX dX12_cancel_15 0 rfl (t := 16) rfl ?_
  refine J_get hX cb9 kEcho 3 (by decide) q_565 rfl dX12_cancel_16 (t := 19) rfl ?_
  obtain ⟨w6, h5, hF⟩ := bo1_e hF
  have k7 := (ctX5_remember (G := G) (l := l) w 1 ⟨by decide, by decide⟩ n h5)
  refine J_callV hX [.ref (adr G 1 0)] [] [] k7 miX5_remember mvX5_remember cb3 kHistory q_1269 ⟨rfl, rfl, Nat.le_of_ble_eq_true rfl, Nat.le_of_ble_eq_true rfl⟩ rfl rfl (Nat.le_of_ble_eq_true rfl) ⟨Nat.le_of_ble_eq_true rfl, Nat.le_of_ble_eq_true rfl⟩ dX12_cancel_19 (t := 22) rfl rfl ?_
  refine J_aload_n hX dX12_cancel_22 0 rfl (t := 23) rfl ?_
  refine J_get hX cb9 kEcho 3 (by decide) q_565 rfl dX12_cancel_23 (t := 26) rfl ?_
  refine J_iload_n hX dX12_cancel_26 1 rfl (t := 27) rfl ?_
  obtain ⟨x9, M10, h8, hF⟩ := bo2_e hF
  have k11 := (CT.self (ctX6_callOff (G := G) (l := l) w6 1 ⟨by decide, by decide⟩ (w6 1) p1 h8))
  obtain ⟨w12, e13, hF⟩ := bnd_e hF
  rw [e13] at k11
  refine J_callV hX [.int p1] [] [.int x9] k11 miX6_callOff mvX6_callOff cb4 (kMarket (r := 1) ⟨by decide, by decide⟩) q_1598 ⟨rfl, rfl, Nat.le_of_ble_eq_true rfl, Nat.le_of_ble_eq_true rfl⟩ rfl rfl (Nat.le_of_ble_eq_true rfl) ⟨Nat.le_of_ble_eq_true rfl, Nat.le_of_ble_eq_true rfl⟩ dX12_cancel_27 (t := 30) rfl rfl ?_
  replace hF := Except.ok.inj (Option.some.inj hF)
  obtain ⟨hF, hF2⟩ := Prod.mk.inj hF
  subst hF
  subst hF2
  exact J_iret hX hR hlk dX12_cancel_30
abbrev rmX12_fake : Room := { frames := 8, cells := 0, slots := 0, locals := 130 }
theorem miX12_fake : MI yX12_fake cX12_fake 2 (some .int) 1 := ⟨q_1605, q_136, by decide +kernel, by decide +kernel, by decide +kernel, by decide +kernel⟩
theorem mvX12_fake : MV yX12_fake := ⟨q_1603, q_1604⟩
def FX12_fake (n : Nat) (w : Wd) (p1 : Int32) : Option (Except (String × Wd) (Int32 × Wd)) :=
  bo1 (FX6_faultOfOpen (w 1) p1) fun x2 =>
  xo (xw w (FX12_demand x2)) fun _ =>
  bo1 (FX5_remember n w 1) fun w6 =>
  bo2 (FX6_fakeNext n (w6 1) p1) fun x9 M10 =>
  bnd (sW w6 1 M10) fun w12 =>
  some (.ok (x9, w12))
set_option maxHeartbeats 4000000 in
set_option maxRecDepth 100000 in
theorem ctX12_fake {G : GG} {l : Launch} (w : Wd) (p1 : Int32)  (n : Nat) {rx : Int32} {rw : Wd} (hF : FX12_fake n w p1 = some (.ok (rx, rw))) : CT G l yX12_fake cX12_fake 2 (some .int) rmX12_fake 0 0 [.ref (adr G 0 0), .int p1] w (some (.int rx)) rw := by
  refine CT.of miX12_fake [(0, .ref (adr G 0 0)), (1, .int p1)] rfl (Nat.le_of_ble_eq_true rfl) ?_
  intro p e s m args below meth c hX hR hlk
  have hX : FX G RX12 cX12_fake 2 p s m args c := hX
  unfold FX12_fake at hF
  refine J_aload_n hX dX12_fake_0 0 rfl (t := 1) rfl ?_
  refine J_get hX cb9 kEcho 3 (by decide) q_565 rfl dX12_fake_1 (t := 4) rfl ?_
  refine J_iload_n hX dX12_fake_4 1 rfl (t := 5) rfl ?_
  obtain ⟨x2, h1, hF⟩ := bo1_e hF
  have k3 := (CT.self2 (ctX6_faultOfOpen (G := G) (l := l) w 1 ⟨by decide, by decide⟩ (w 1) p1 h1))
  refine J_callV hX [.int p1] [] [.ref (ga G (12 + x2))] k3 miX6_faultOfOpen mvX6_faultOfOpen cb4 (kMarket (r := 1) ⟨by decide, by decide⟩) q_1597 ⟨rfl, rfl, Nat.le_of_ble_eq_true rfl, Nat.le_of_ble_eq_true rfl⟩ rfl rfl (Nat.le_of_ble_eq_true rfl) ⟨Nat.le_of_ble_eq_true rfl, Nat.le_of_ble_eq_true rfl⟩ dX12_fake_5 (t := 8) rfl rfl ?_
  obtain ⟨xu, h4, hF⟩ := xow_ok hF
  refine J_callS hX [.ref (ga G (12 + x2))] [] [] (ctX12_demand (G := G) (l := l) (w := w) x2 (ltX6_faultOfOpen h1) h4) miX12_demand q_1584 q_1583 ⟨rfl, rfl, Nat.le_of_ble_eq_true rfl, Nat.le_of_ble_eq_true rfl⟩ rfl rfl (Nat.le_of_ble_eq_true rfl) ⟨Nat.le_of_ble_eq_true rfl, Nat.le_of_ble_eq_true rfl⟩ dX12_fake_8 (t := 11) rfl rfl ?_
  refine J_aload_n hX dX12_fake_11 0 rfl (t := 12) rfl ?_
  refine J_get hX cb9 kEcho 6 (by decide) q_568 rfl dX12_fake_12 (t := 15) rfl ?_
  refine J_aload_n hX dX12_fake_15 0 rfl (t := 16) rfl ?_
  refine J_get hX cb9 kEcho 3 (by decide) q_565 rfl dX12_fake_16 (t := 19) rfl ?_
  obtain ⟨w6, h5, hF⟩ := bo1_e hF
  have k7 := (ctX5_remember (G := G) (l := l) w 1 ⟨by decide, by decide⟩ n h5)
  refine J_callV hX [.ref (adr G 1 0)] [] [] k7 miX5_remember mvX5_remember cb3 kHistory q_1269 ⟨rfl, rfl, Nat.le_of_ble_eq_true rfl, Nat.le_of_ble_eq_true rfl⟩ rfl rfl (Nat.le_of_ble_eq_true rfl) ⟨Nat.le_of_ble_eq_true rfl, Nat.le_of_ble_eq_true rfl⟩ dX12_fake_19 (t := 22) rfl rfl ?_
  refine J_aload_n hX dX12_fake_22 0 rfl (t := 23) rfl ?_
  refine J_get hX cb9 kEcho 3 (by decide) q_565 rfl dX12_fake_23 (t := 26) rfl ?_
  refine J_iload_n hX dX12_fake_26 1 rfl (t := 27) rfl ?_
  obtain ⟨x9, M10, h8, hF⟩ := bo2_e hF
  have k11 := (CT.self (ctX6_fakeNext (G := G) (l := l) w6 1 ⟨by decide, by decide⟩ (w6 1) p1 n h8))
  obtain ⟨w12, e13, hF⟩ := bnd_e hF
  rw [e13] at k11
  refine J_callV hX [.int p1] [] [.int x9] k11 miX6_fakeNext mvX6_fakeNext cb4 (kMarket (r := 1) ⟨by decide, by decide⟩) q_1606 ⟨rfl, rfl, Nat.le_of_ble_eq_true rfl, Nat.le_of_ble_eq_true rfl⟩ rfl rfl (Nat.le_of_ble_eq_true rfl) ⟨Nat.le_of_ble_eq_true rfl, Nat.le_of_ble_eq_true rfl⟩ dX12_fake_27 (t := 30) rfl rfl ?_
  replace hF := Except.ok.inj (Option.some.inj hF)
  obtain ⟨hF, hF2⟩ := Prod.mk.inj hF
  subst hF
  subst hF2
  exact J_iret hX hR hlk dX12_fake_30
abbrev rmX12_setFog : Room := { frames := 8, cells := 0, slots := 0, locals := 130 }
theorem miX12_setFog : MI yX12_setFog cX12_setFog 3 (some .int) 2 := ⟨q_1613, q_136, by decide +kernel, by decide +kernel, by decide +kernel, by decide +kernel⟩
theorem mvX12_setFog : MV yX12_setFog := ⟨q_1611, q_1612⟩
def FX12_setFog (n : Nat) (w : Wd) (p1 : Int32) (p2 : Int32) : Option (Except (String × Wd) (Int32 × Wd)) :=
  bnd (FX6_faultOfFog (w 1) p1 p2) fun x2 =>
  xo (xw w (FX12_demand x2)) fun _ =>
  bo1 (FX5_remember n w 1) fun w6 =>
  bo2 (FX6_changeFog (w6 1) p1 p2) fun x9 M10 =>
  bnd (sW w6 1 M10) fun w12 =>
  some (.ok (x9, w12))
set_option maxHeartbeats 4000000 in
set_option maxRecDepth 100000 in
theorem ctX12_setFog {G : GG} {l : Launch} (w : Wd) (p1 : Int32) (p2 : Int32)  (n : Nat) {rx : Int32} {rw : Wd} (hF : FX12_setFog n w p1 p2 = some (.ok (rx, rw))) : CT G l yX12_setFog cX12_setFog 3 (some .int) rmX12_setFog 0 0 [.ref (adr G 0 0), .int p1, .int p2] w (some (.int rx)) rw := by
  refine CT.of miX12_setFog [(0, .ref (adr G 0 0)), (1, .int p1), (2, .int p2)] rfl (Nat.le_of_ble_eq_true rfl) ?_
  intro p e s m args below meth c hX hR hlk
  have hX : FX G RX12 cX12_setFog 3 p s m args c := hX
  unfold FX12_setFog at hF
  refine J_aload_n hX dX12_setFog_0 0 rfl (t := 1) rfl ?_
  refine J_get hX cb9 kEcho 3 (by decide) q_565 rfl dX12_setFog_1 (t := 4) rfl ?_
  refine J_iload_n hX dX12_setFog_4 1 rfl (t := 5) rfl ?_
  refine J_iload_n hX dX12_setFog_5 2 rfl (t := 6) rfl ?_
  obtain ⟨x2, h1, hF⟩ := bnd_e hF
  have k3 := (CT.self2 (ctX6_faultOfFog (G := G) (l := l) w 1 ⟨by decide, by decide⟩ (w 1) p1 p2 h1))
  refine J_callV hX [.int p1, .int p2] [] [.ref (ga G (12 + x2))] k3 miX6_faultOfFog mvX6_faultOfFog cb4 (kMarket (r := 1) ⟨by decide, by decide⟩) q_1614 ⟨rfl, rfl, Nat.le_of_ble_eq_true rfl, Nat.le_of_ble_eq_true rfl⟩ rfl rfl (Nat.le_of_ble_eq_true rfl) ⟨Nat.le_of_ble_eq_true rfl, Nat.le_of_ble_eq_true rfl⟩ dX12_setFog_6 (t := 9) rfl rfl ?_
  obtain ⟨xu, h4, hF⟩ := xow_ok hF
  refine J_callS hX [.ref (ga G (12 + x2))] [] [] (ctX12_demand (G := G) (l := l) (w := w) x2 (ltX6_faultOfFog h1) h4) miX12_demand q_1584 q_1583 ⟨rfl, rfl, Nat.le_of_ble_eq_true rfl, Nat.le_of_ble_eq_true rfl⟩ rfl rfl (Nat.le_of_ble_eq_true rfl) ⟨Nat.le_of_ble_eq_true rfl, Nat.le_of_ble_eq_true rfl⟩ dX12_setFog_9 (t := 12) rfl rfl ?_
  refine J_aload_n hX dX12_setFog_12 0 rfl (t := 13) rfl ?_
  refine J_get hX cb9 kEcho 6 (by decide) q_568 rfl dX12_setFog_13 (t := 16) rfl ?_
  refine J_aload_n hX dX12_setFog_16 0 rfl (t := 17) rfl ?_
  refine J_get hX cb9 kEcho 3 (by decide) q_565 rfl dX12_setFog_17 (t := 20) rfl ?_
  obtain ⟨w6, h5, hF⟩ := bo1_e hF
  have k7 := (ctX5_remember (G := G) (l := l) w 1 ⟨by decide, by decide⟩ n h5)
  refine J_callV hX [.ref (adr G 1 0)] [] [] k7 miX5_remember mvX5_remember cb3 kHistory q_1269 ⟨rfl, rfl, Nat.le_of_ble_eq_true rfl, Nat.le_of_ble_eq_true rfl⟩ rfl rfl (Nat.le_of_ble_eq_true rfl) ⟨Nat.le_of_ble_eq_true rfl, Nat.le_of_ble_eq_true rfl⟩ dX12_setFog_20 (t := 23) rfl rfl ?_
  refine J_aload_n hX dX12_setFog_23 0 rfl (t := 24) rfl ?_
  refine J_get hX cb9 kEcho 3 (by decide) q_565 rfl dX12_setFog_24 (t := 27) rfl ?_
  refine J_iload_n hX dX12_setFog_27 1 rfl (t := 28) rfl ?_
  refine J_iload_n hX dX12_setFog_28 2 rfl (t := 29) rfl ?_
  obtain ⟨x9, M10, h8, hF⟩ := bo2_e hF
  have k11 := (CT.self (ctX6_changeFog (G := G) (l := l) w6 1 ⟨by decide, by decide⟩ (w6 1) p1 p2 h8))
  obtain ⟨w12, e13, hF⟩ := bnd_e hF
  rw [e13] at k11
  refine J_callV hX [.int p1, .int p2] [] [.int x9] k11 miX6_changeFog mvX6_changeFog cb4 (kMarket (r := 1) ⟨by decide, by decide⟩) q_1615 ⟨rfl, rfl, Nat.le_of_ble_eq_true rfl, Nat.le_of_ble_eq_true rfl⟩ rfl rfl (Nat.le_of_ble_eq_true rfl) ⟨Nat.le_of_ble_eq_true rfl, Nat.le_of_ble_eq_true rfl⟩ dX12_setFog_29 (t := 32) rfl rfl ?_
  replace hF := Except.ok.inj (Option.some.inj hF)
  obtain ⟨hF, hF2⟩ := Prod.mk.inj hF
  subst hF
  subst hF2
  exact J_iret hX hR hlk dX12_setFog_32
abbrev rmX12_setPrice : Room := { frames := 8, cells := 0, slots := 0, locals := 130 }
theorem miX12_setPrice : MI yX12_setPrice cX12_setPrice 3 (some .int) 2 := ⟨q_1622, q_136, by decide +kernel, by decide +kernel, by decide +kernel, by decide +kernel⟩
theorem mvX12_setPrice : MV yX12_setPrice := ⟨q_1620, q_1621⟩
def FX12_setPrice (n : Nat) (w : Wd) (p1 : Int32) (p2 : Int32) : Option (Except (String × Wd) (Int32 × Wd)) :=
  bnd (FX6_faultOfPrice (w 1) p1 p2) fun x2 =>
  xo (xw w (FX12_demand x2)) fun _ =>
  bo1 (FX5_remember n w 1) fun w6 =>
  bo2 (FX6_changePrice (w6 1) p1 p2) fun x9 M10 =>
  bnd (sW w6 1 M10) fun w12 =>
  some (.ok (x9, w12))
set_option maxHeartbeats 4000000 in
set_option maxRecDepth 100000 in
theorem ctX12_setPrice {G : GG} {l : Launch} (w : Wd) (p1 : Int32) (p2 : Int32)  (n : Nat) {rx : Int32} {rw : Wd} (hF : FX12_setPrice n w p1 p2 = some (.ok (rx, rw))) : CT G l yX12_setPrice cX12_setPrice 3 (some .int) rmX12_setPrice 0 0 [.ref (adr G 0 0), .int p1, .int p2] w (some (.int rx)) rw := by
  refine CT.of miX12_setPrice [(0, .ref (adr G 0 0)), (1, .int p1), (2, .int p2)] rfl (Nat.le_of_ble_eq_true rfl) ?_
  intro p e s m args below meth c hX hR hlk
  have hX : FX G RX12 cX12_setPrice 3 p s m args c := hX
  unfold FX12_setPrice at hF
  refine J_aload_n hX dX12_setPrice_0 0 rfl (t := 1) rfl ?_
  refine J_get hX cb9 kEcho 3 (by decide) q_565 rfl dX12_setPrice_1 (t := 4) rfl ?_
  refine J_iload_n hX dX12_setPrice_4 1 rfl (t := 5) rfl ?_
  refine J_iload_n hX dX12_setPrice_5 2 rfl (t := 6) rfl ?_
  obtain ⟨x2, h1, hF⟩ := bnd_e hF
  have k3 := (CT.self2 (ctX6_faultOfPrice (G := G) (l := l) w 1 ⟨by decide, by decide⟩ (w 1) p1 p2 h1))
  refine J_callV hX [.int p1, .int p2] [] [.ref (ga G (12 + x2))] k3 miX6_faultOfPrice mvX6_faultOfPrice cb4 (kMarket (r := 1) ⟨by decide, by decide⟩) q_1623 ⟨rfl, rfl, Nat.le_of_ble_eq_true rfl, Nat.le_of_ble_eq_true rfl⟩ rfl rfl (Nat.le_of_ble_eq_true rfl) ⟨Nat.le_of_ble_eq_true rfl, Nat.le_of_ble_eq_true rfl⟩ dX12_setPrice_6 (t := 9) rfl rfl ?_
  obtain ⟨xu, h4, hF⟩ := xow_ok hF
  refine J_callS hX [.ref (ga G (12 + x2))] [] [] (ctX12_demand (G := G) (l := l) (w := w) x2 (ltX6_faultOfPrice h1) h4) miX12_demand q_1584 q_1583 ⟨rfl, rfl, Nat.le_of_ble_eq_true rfl, Nat.le_of_ble_eq_true rfl⟩ rfl rfl (Nat.le_of_ble_eq_true rfl) ⟨Nat.le_of_ble_eq_true rfl, Nat.le_of_ble_eq_true rfl⟩ dX12_setPrice_9 (t := 12) rfl rfl ?_
  refine J_aload_n hX dX12_setPrice_12 0 rfl (t := 13) rfl ?_
  refine J_get hX cb9 kEcho 6 (by decide) q_568 rfl dX12_setPrice_13 (t := 16) rfl ?_
  refine J_aload_n hX dX12_setPrice_16 0 rfl (t := 17) rfl ?_
  refine J_get hX cb9 kEcho 3 (by decide) q_565 rfl dX12_setPrice_17 (t := 20) rfl ?_
  obtain ⟨w6, h5, hF⟩ := bo1_e hF
  have k7 := (ctX5_remember (G := G) (l := l) w 1 ⟨by decide, by decide⟩ n h5)
  refine J_callV hX [.ref (adr G 1 0)] [] [] k7 miX5_remember mvX5_remember cb3 kHistory q_1269 ⟨rfl, rfl, Nat.le_of_ble_eq_true rfl, Nat.le_of_ble_eq_true rfl⟩ rfl rfl (Nat.le_of_ble_eq_true rfl) ⟨Nat.le_of_ble_eq_true rfl, Nat.le_of_ble_eq_true rfl⟩ dX12_setPrice_20 (t := 23) rfl rfl ?_
  refine J_aload_n hX dX12_setPrice_23 0 rfl (t := 24) rfl ?_
  refine J_get hX cb9 kEcho 3 (by decide) q_565 rfl dX12_setPrice_24 (t := 27) rfl ?_
  refine J_iload_n hX dX12_setPrice_27 1 rfl (t := 28) rfl ?_
  refine J_iload_n hX dX12_setPrice_28 2 rfl (t := 29) rfl ?_
  obtain ⟨x9, M10, h8, hF⟩ := bo2_e hF
  have k11 := (CT.self (ctX6_changePrice (G := G) (l := l) w6 1 ⟨by decide, by decide⟩ (w6 1) p1 p2 h8))
  obtain ⟨w12, e13, hF⟩ := bnd_e hF
  rw [e13] at k11
  refine J_callV hX [.int p1, .int p2] [] [.int x9] k11 miX6_changePrice mvX6_changePrice cb4 (kMarket (r := 1) ⟨by decide, by decide⟩) q_1624 ⟨rfl, rfl, Nat.le_of_ble_eq_true rfl, Nat.le_of_ble_eq_true rfl⟩ rfl rfl (Nat.le_of_ble_eq_true rfl) ⟨Nat.le_of_ble_eq_true rfl, Nat.le_of_ble_eq_true rfl⟩ dX12_setPrice_29 (t := 32) rfl rfl ?_
  replace hF := Except.ok.inj (Option.some.inj hF)
  obtain ⟨hF, hF2⟩ := Prod.mk.inj hF
  subst hF
  subst hF2
  exact J_iret hX hR hlk dX12_setPrice_32
abbrev rmX12_setWell : Room := { frames := 8, cells := 0, slots := 0, locals := 130 }
theorem miX12_setWell : MI yX12_setWell cX12_setWell 2 (some .int) 1 := ⟨q_1631, q_136, by decide +kernel, by decide +kernel, by decide +kernel, by decide +kernel⟩
theorem mvX12_setWell : MV yX12_setWell := ⟨q_1629, q_1630⟩
def FX12_setWell (n : Nat) (w : Wd) (p1 : Int32) : Option (Except (String × Wd) (Int32 × Wd)) :=
  bnd (FX6_faultOfDepth (w 1) p1) fun x2 =>
  xo (xw w (FX12_demand x2)) fun _ =>
  bo1 (FX5_remember n w 1) fun w6 =>
  bnd2 (FX6_changeDepth (w6 1) p1) fun x9 M10 =>
  bnd (sW w6 1 M10) fun w12 =>
  some (.ok (x9, w12))
set_option maxHeartbeats 4000000 in
set_option maxRecDepth 100000 in
theorem ctX12_setWell {G : GG} {l : Launch} (w : Wd) (p1 : Int32)  (n : Nat) {rx : Int32} {rw : Wd} (hF : FX12_setWell n w p1 = some (.ok (rx, rw))) : CT G l yX12_setWell cX12_setWell 2 (some .int) rmX12_setWell 0 0 [.ref (adr G 0 0), .int p1] w (some (.int rx)) rw := by
  refine CT.of miX12_setWell [(0, .ref (adr G 0 0)), (1, .int p1)] rfl (Nat.le_of_ble_eq_true rfl) ?_
  intro p e s m args below meth c hX hR hlk
  have hX : FX G RX12 cX12_setWell 2 p s m args c := hX
  unfold FX12_setWell at hF
  refine J_aload_n hX dX12_setWell_0 0 rfl (t := 1) rfl ?_
  refine J_get hX cb9 kEcho 3 (by decide) q_565 rfl dX12_setWell_1 (t := 4) rfl ?_
  refine J_iload_n hX dX12_setWell_4 1 rfl (t := 5) rfl ?_
  obtain ⟨x2, h1, hF⟩ := bnd_e hF
  have k3 := (CT.self2 (ctX6_faultOfDepth (G := G) (l := l) w 1 ⟨by decide, by decide⟩ (w 1) p1 h1))
  refine J_callV hX [.int p1] [] [.ref (ga G (12 + x2))] k3 miX6_faultOfDepth mvX6_faultOfDepth cb4 (kMarket (r := 1) ⟨by decide, by decide⟩) q_1632 ⟨rfl, rfl, Nat.le_of_ble_eq_true rfl, Nat.le_of_ble_eq_true rfl⟩ rfl rfl (Nat.le_of_ble_eq_true rfl) ⟨Nat.le_of_ble_eq_true rfl, Nat.le_of_ble_eq_true rfl⟩ dX12_setWell_5 (t := 8) rfl rfl ?_
  obtain ⟨xu, h4, hF⟩ := xow_ok hF
  refine J_callS hX [.ref (ga G (12 + x2))] [] [] (ctX12_demand (G := G) (l := l) (w := w) x2 (ltX6_faultOfDepth h1) h4) miX12_demand q_1584 q_1583 ⟨rfl, rfl, Nat.le_of_ble_eq_true rfl, Nat.le_of_ble_eq_true rfl⟩ rfl rfl (Nat.le_of_ble_eq_true rfl) ⟨Nat.le_of_ble_eq_true rfl, Nat.le_of_ble_eq_true rfl⟩ dX12_setWell_8 (t := 11) rfl rfl ?_
  refine J_aload_n hX dX12_setWell_11 0 rfl (t := 12) rfl ?_
  refine J_get hX cb9 kEcho 6 (by decide) q_568 rfl dX12_setWell_12 (t := 15) rfl ?_
  refine J_aload_n hX dX12_setWell_15 0 rfl (t := 16) rfl ?_
  refine J_get hX cb9 kEcho 3 (by decide) q_565 rfl dX12_setWell_16 (t := 19) rfl ?_
  obtain ⟨w6, h5, hF⟩ := bo1_e hF
  have k7 := (ctX5_remember (G := G) (l := l) w 1 ⟨by decide, by decide⟩ n h5)
  refine J_callV hX [.ref (adr G 1 0)] [] [] k7 miX5_remember mvX5_remember cb3 kHistory q_1269 ⟨rfl, rfl, Nat.le_of_ble_eq_true rfl, Nat.le_of_ble_eq_true rfl⟩ rfl rfl (Nat.le_of_ble_eq_true rfl) ⟨Nat.le_of_ble_eq_true rfl, Nat.le_of_ble_eq_true rfl⟩ dX12_setWell_19 (t := 22) rfl rfl ?_
  refine J_aload_n hX dX12_setWell_22 0 rfl (t := 23) rfl ?_
  refine J_get hX cb9 kEcho 3 (by decide) q_565 rfl dX12_setWell_23 (t := 26) rfl ?_
  refine J_iload_n hX dX12_setWell_26 1 rfl (t := 27) rfl ?_
  obtain ⟨x9, M10, h8, hF⟩ := bnd2_e hF
  have k11 := (CT.self (ctX6_changeDepth (G := G) (l := l) w6 1 ⟨by decide, by decide⟩ (w6 1) p1 h8))
  obtain ⟨w12, e13, hF⟩ := bnd_e hF
  rw [e13] at k11
  refine J_callV hX [.int p1] [] [.int x9] k11 miX6_changeDepth mvX6_changeDepth cb4 (kMarket (r := 1) ⟨by decide, by decide⟩) q_1633 ⟨rfl, rfl, Nat.le_of_ble_eq_true rfl, Nat.le_of_ble_eq_true rfl⟩ rfl rfl (Nat.le_of_ble_eq_true rfl) ⟨Nat.le_of_ble_eq_true rfl, Nat.le_of_ble_eq_true rfl⟩ dX12_setWell_27 (t := 30) rfl rfl ?_
  replace hF := Except.ok.inj (Option.some.inj hF)
  obtain ⟨hF, hF2⟩ := Prod.mk.inj hF
  subst hF
  subst hF2
  exact J_iret hX hR hlk dX12_setWell_30
abbrev rmX12_pass : Room := { frames := 8, cells := 0, slots := 0, locals := 130 }
theorem miX12_pass : MI yX12_pass cX12_pass 2 (some .int) 1 := ⟨q_1640, q_136, by decide +kernel, by decide +kernel, by decide +kernel, by decide +kernel⟩
theorem mvX12_pass : MV yX12_pass := ⟨q_1638, q_1639⟩
def FX12_pass (n : Nat) (w : Wd) (p1 : Int32) : Option (Except (String × Wd) (Int32 × Wd)) :=
  bnd (FX6_faultOfPassing (w 1) p1) fun x2 =>
  xo (xw w (FX12_demand x2)) fun _ =>
  bo1 (FX5_remember n w 1) fun w6 =>
  bo2 (FX6_letPass n (w6 1) p1) fun x9 M10 =>
  bnd (sW w6 1 M10) fun w12 =>
  some (.ok (x9, w12))
set_option maxHeartbeats 4000000 in
set_option maxRecDepth 100000 in
theorem ctX12_pass {G : GG} {l : Launch} (w : Wd) (p1 : Int32)  (n : Nat) {rx : Int32} {rw : Wd} (hF : FX12_pass n w p1 = some (.ok (rx, rw))) : CT G l yX12_pass cX12_pass 2 (some .int) rmX12_pass 0 0 [.ref (adr G 0 0), .int p1] w (some (.int rx)) rw := by
  refine CT.of miX12_pass [(0, .ref (adr G 0 0)), (1, .int p1)] rfl (Nat.le_of_ble_eq_true rfl) ?_
  intro p e s m args below meth c hX hR hlk
  have hX : FX G RX12 cX12_pass 2 p s m args c := hX
  unfold FX12_pass at hF
  refine J_aload_n hX dX12_pass_0 0 rfl (t := 1) rfl ?_
  refine J_get hX cb9 kEcho 3 (by decide) q_565 rfl dX12_pass_1 (t := 4) rfl ?_
  refine J_iload_n hX dX12_pass_4 1 rfl (t := 5) rfl ?_
  obtain ⟨x2, h1, hF⟩ := bnd_e hF
  have k3 := (CT.self2 (ctX6_faultOfPassing (G := G) (l := l) w 1 ⟨by decide, by decide⟩ (w 1) p1 h1))
  refine J_callV hX [.int p1] [] [.ref (ga G (12 + x2))] k3 miX6_faultOfPassing mvX6_faultOfPassing cb4 (kMarket (r := 1) ⟨by decide, by decide⟩) q_1641 ⟨rfl, rfl, Nat.le_of_ble_eq_true rfl, Nat.le_of_ble_eq_true rfl⟩ rfl rfl (Nat.le_of_ble_eq_true rfl) ⟨Nat.le_of_ble_eq_true rfl, Nat.le_of_ble_eq_true rfl⟩ dX12_pass_5 (t := 8) rfl rfl ?_
  obtain ⟨xu, h4, hF⟩ := xow_ok hF
  refine J_callS hX [.ref (ga G (12 + x2))] [] [] (ctX12_demand (G := G) (l := l) (w := w) x2 (ltX6_faultOfPassing h1) h4) miX12_demand q_1584 q_1583 ⟨rfl, rfl, Nat.le_of_ble_eq_true rfl, Nat.le_of_ble_eq_true rfl⟩ rfl rfl (Nat.le_of_ble_eq_true rfl) ⟨Nat.le_of_ble_eq_true rfl, Nat.le_of_ble_eq_true rfl⟩ dX12_pass_8 (t := 11) rfl rfl ?_
  refine J_aload_n hX dX12_pass_11 0 rfl (t := 12) rfl ?_
  refine J_get hX cb9 kEcho 6 (by decide) q_568 rfl dX12_pass_12 (t := 15) rfl ?_
  refine J_aload_n hX dX12_pass_15 0 rfl (t := 16) rfl ?_
  refine J_get hX cb9 kEcho 3 (by decide) q_565 rfl dX12_pass_16 (t := 19) rfl ?_
  obtain ⟨w6, h5, hF⟩ := bo1_e hF
  have k7 := (ctX5_remember (G := G) (l := l) w 1 ⟨by decide, by decide⟩ n h5)
  refine J_callV hX [.ref (adr G 1 0)] [] [] k7 miX5_remember mvX5_remember cb3 kHistory q_1269 ⟨rfl, rfl, Nat.le_of_ble_eq_true rfl, Nat.le_of_ble_eq_true rfl⟩ rfl rfl (Nat.le_of_ble_eq_true rfl) ⟨Nat.le_of_ble_eq_true rfl, Nat.le_of_ble_eq_true rfl⟩ dX12_pass_19 (t := 22) rfl rfl ?_
  refine J_aload_n hX dX12_pass_22 0 rfl (t := 23) rfl ?_
  refine J_get hX cb9 kEcho 3 (by decide) q_565 rfl dX12_pass_23 (t := 26) rfl ?_
  refine J_iload_n hX dX12_pass_26 1 rfl (t := 27) rfl ?_
  obtain ⟨x9, M10, h8, hF⟩ := bo2_e hF
  have k11 := (CT.self (ctX6_letPass (G := G) (l := l) w6 1 ⟨by decide, by decide⟩ (w6 1) p1 n h8))
  obtain ⟨w12, e13, hF⟩ := bnd_e hF
  rw [e13] at k11
  refine J_callV hX [.int p1] [] [.int x9] k11 miX6_letPass mvX6_letPass cb4 (kMarket (r := 1) ⟨by decide, by decide⟩) q_1642 ⟨rfl, rfl, Nat.le_of_ble_eq_true rfl, Nat.le_of_ble_eq_true rfl⟩ rfl rfl (Nat.le_of_ble_eq_true rfl) ⟨Nat.le_of_ble_eq_true rfl, Nat.le_of_ble_eq_true rfl⟩ dX12_pass_27 (t := 30) rfl rfl ?_
  replace hF := Except.ok.inj (Option.some.inj hF)
  obtain ⟨hF, hF2⟩ := Prod.mk.inj hF
  subst hF
  subst hF2
  exact J_iret hX hR hlk dX12_pass_30
def FX12_undo (n : Nat) (w : Wd)  : Option (Except (String × Wd) (Int32 × Wd)) :=
  if (w 13).1 0 2 ≤ 0 then
    xo (xw w (FX12_demandState false)) fun _ =>
    bo2 (FX5_takeBack n w 1) fun x3 w4 =>
    some (.ok (x3, w4))
  else
    xo (xw w (FX12_demandState true)) fun _ =>
    bo2 (FX5_takeBack n w 1) fun x8 w9 =>
    some (.ok (x8, w9))
def FX12_saveState (n : Nat) (w : Wd)  : Option (Int32 × Wd) :=
  bo1 (FX6_copyFrom n (w 3) (w 1)) fun M2 =>
  bnd (sW w 3 M2) fun w4 =>
  bnd (sW w4 0 (sI (w4 0) 0 8 (bI true))) fun w6 =>
  some ((w6 1).1 0 6, w6)
def FX12_restoreState (n : Nat) (w : Wd)  : Option (Except (String × Wd) (Int32 × Wd)) :=
  gd (isB ((w 0).1 0 8)) <|
  xo (xw w (FX12_demandState (decide ((w 0).1 0 8 = 1)))) fun _ =>
  bo1 (FX6_copyFrom n (w 1) (w 3)) fun M4 =>
  bnd (sW w 1 M4) fun w6 =>
  bnd (FX5_forget w6) fun w9 =>
  some (.ok ((w9 1).1 0 6, w9))
