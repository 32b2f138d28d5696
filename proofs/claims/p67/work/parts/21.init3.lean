/-! CONSTRUCTORS of the class and of the reference; the world that the law begins with -/
theorem miX12_init : MI yX12_init cX12_init 1 none 0 := ⟨q_174, q_136, by decide +kernel, by decide +kernel, by decide +kernel, by decide +kernel⟩
def S1 (G : GG) (f : Nat → va_E) : Nat → va_E := nf (textF G (nf f 1 (.inr (7, [.null, .null, .null, .null, .int 0, .int 0, .int 0, .int 0, .int 0])))) 0 (.inr (9, [.ref (gn G + 1), .null, .null, .null, .null, .null, .null, .null, .int 0]))
theorem S1_0 {G : GG} {f : Nat → va_E} : S1 G f 0 = .inr (9, [.ref (gn G + 1), .null, .null, .null, .null, .null, .null, .null, .int 0]) := nf_s
theorem S1_lo {G : GG} {f : Nat → va_E} {x : Nat} (h0 : x ≠ 0) (h : x < 1) : S1 G f x = f x := (nf_o h0).trans ((textF_lo (by omega)).trans (nf_o (by omega)))
def S2 (G : GG) (f : Nat → va_E) : Nat → va_E := nf (mkt G 6 (nf (S1 G f) 6 (.inr (4, [.null, .null, .null, .int 0, .int 0, .int 0, .int 0, .int 0, .int 0, .int 0, .int 0, .int 0, .int 0])))) 0 (.inr (9, [.ref (gn G + 1), .null, .null, .ref (gn G + 6), .null, .null, .null, .null, .int 0]))
theorem S2_0 {G : GG} {f : Nat → va_E} : S2 G f 0 = .inr (9, [.ref (gn G + 1), .null, .null, .ref (gn G + 6), .null, .null, .null, .null, .int 0]) := nf_s
theorem S2_lo {G : GG} {f : Nat → va_E} {x : Nat} (h0 : x ≠ 0) (h : x < 6) : S2 G f x = S1 G f x := (nf_o h0).trans ((mkt_lo (by omega)).trans (nf_o (by omega)))
def S3 (G : GG) (f : Nat → va_E) : Nat → va_E := nf (mkt G 56 (nf (S2 G f) 56 (.inr (4, [.null, .null, .null, .int 0, .int 0, .int 0, .int 0, .int 0, .int 0, .int 0, .int 0, .int 0, .int 0])))) 0 (.inr (9, [.ref (gn G + 1), .null, .null, .ref (gn G + 6), .ref (gn G + 56), .null, .null, .null, .int 0]))
theorem S3_0 {G : GG} {f : Nat → va_E} : S3 G f 0 = .inr (9, [.ref (gn G + 1), .null, .null, .ref (gn G + 6), .ref (gn G + 56), .null, .null, .null, .int 0]) := nf_s
theorem S3_lo {G : GG} {f : Nat → va_E} {x : Nat} (h0 : x ≠ 0) (h : x < 56) : S3 G f x = S2 G f x := (nf_o h0).trans ((mkt_lo (by omega)).trans (nf_o (by omega)))
def S4 (G : GG) (f : Nat → va_E) : Nat → va_E := nf (mkt G 106 (nf (S3 G f) 106 (.inr (4, [.null, .null, .null, .int 0, .int 0, .int 0, .int 0, .int 0, .int 0, .int 0, .int 0, .int 0, .int 0])))) 0 (.inr (9, [.ref (gn G + 1), .null, .null, .ref (gn G + 6), .ref (gn G + 56), .ref (gn G + 106), .null, .null, .int 0]))
theorem S4_0 {G : GG} {f : Nat → va_E} : S4 G f 0 = .inr (9, [.ref (gn G + 1), .null, .null, .ref (gn G + 6), .ref (gn G + 56), .ref (gn G + 106), .null, .null, .int 0]) := nf_s
theorem S4_lo {G : GG} {f : Nat → va_E} {x : Nat} (h0 : x ≠ 0) (h : x < 106) : S4 G f x = S3 G f x := (nf_o h0).trans ((mkt_lo (by omega)).trans (nf_o (by omega)))
def S5 (G : GG) (f : Nat → va_E) : Nat → va_E := nf (descF G (nf (S4 G f) 156 (.inr (2, [.null])))) 0 (.inr (9, [.ref (gn G + 1), .ref (gn G + 156), .null, .ref (gn G + 6), .ref (gn G + 56), .ref (gn G + 106), .null, .null, .int 0]))
theorem S5_0 {G : GG} {f : Nat → va_E} : S5 G f 0 = .inr (9, [.ref (gn G + 1), .ref (gn G + 156), .null, .ref (gn G + 6), .ref (gn G + 56), .ref (gn G + 106), .null, .null, .int 0]) := nf_s
theorem S5_lo {G : GG} {f : Nat → va_E} {x : Nat} (h0 : x ≠ 0) (h : x < 156) : S5 G f x = S4 G f x := (nf_o h0).trans ((descF_lo (by omega)).trans (nf_o (by omega)))
def S6 (G : GG) (f : Nat → va_E) : Nat → va_E := nf (sF G (nf (S5 G f) 158 (.inr (5, [.null, .null, .null, .null, .int 0, .int 0, .int 0]))) 30) 0 (.inr (9, [.ref (gn G + 1), .ref (gn G + 156), .ref (gn G + 158), .ref (gn G + 6), .ref (gn G + 56), .ref (gn G + 106), .null, .null, .int 0]))
theorem S6_0 {G : GG} {f : Nat → va_E} : S6 G f 0 = .inr (9, [.ref (gn G + 1), .ref (gn G + 156), .ref (gn G + 158), .ref (gn G + 6), .ref (gn G + 56), .ref (gn G + 106), .null, .null, .int 0]) := nf_s
theorem S6_lo {G : GG} {f : Nat → va_E} {x : Nat} (h0 : x ≠ 0) (h : x < 158) : S6 G f x = S5 G f x := (nf_o h0).trans ((sF_lo (by omega)).trans (nf_o (by omega)))
def S7 (G : GG) (f : Nat → va_E) : Nat → va_E := nf (h6 G (nf (S6 G f) 193 (.inr (3, [.null, .int 0, .int 0])))) 0 (.inr (9, [.ref (gn G + 1), .ref (gn G + 156), .ref (gn G + 158), .ref (gn G + 6), .ref (gn G + 56), .ref (gn G + 106), .ref (gn G + 193), .null, .int 0]))
theorem S7_0 {G : GG} {f : Nat → va_E} : S7 G f 0 = .inr (9, [.ref (gn G + 1), .ref (gn G + 156), .ref (gn G + 158), .ref (gn G + 6), .ref (gn G + 56), .ref (gn G + 106), .ref (gn G + 193), .null, .int 0]) := nf_s
theorem S7_lo {G : GG} {f : Nat → va_E} {x : Nat} (h0 : x ≠ 0) (h : x < 193) : S7 G f x = S6 G f x := (nf_o h0).trans ((h6_lo (by omega)).trans (nf_o (by omega)))
def S8 (G : GG) (f : Nat → va_E) : Nat → va_E := nf (sbF G (nf (S7 G f) 495 (.inr (11, [.null, .int 0, .int 0, .int 0])))) 0 (.inr (9, [.ref (gn G + 1), .ref (gn G + 156), .ref (gn G + 158), .ref (gn G + 6), .ref (gn G + 56), .ref (gn G + 106), .ref (gn G + 193), .ref (gn G + 495), .int 0]))
theorem S8_0 {G : GG} {f : Nat → va_E} : S8 G f 0 = .inr (9, [.ref (gn G + 1), .ref (gn G + 156), .ref (gn G + 158), .ref (gn G + 6), .ref (gn G + 56), .ref (gn G + 106), .ref (gn G + 193), .ref (gn G + 495), .int 0]) := nf_s
theorem S8_lo {G : GG} {f : Nat → va_E} {x : Nat} (h0 : x ≠ 0) (h : x < 495) : S8 G f x = S7 G f x := (nf_o h0).trans ((sbF_lo (by omega)).trans (nf_o (by omega)))
abbrev rmX12_init : Room := { frames := 6, cells := 496, slots := 8300, locals := 300 }
set_option maxHeartbeats 4000000 in
theorem cnX12_init {G : GG} {l : Launch} {f : Nat → va_E} (hf : f 0 = .inr (9, [.null, .null, .null, .null, .null, .null, .null, .null, .int 0])) : CTN G l yX12_init cX12_init 1 none rmX12_init 496 8300 [.ref (gn G + 0)] (NB G 1 f) (fun v H => v = none ∧ NB G 497 (S8 G f) H) := by
  refine CTN.of miX12_init [(0, .ref (gn G + 0))] rfl (Nat.le_of_ble_eq_true rfl) ?_
  intro p e s m args below meth c hX hAO hnm hR hlk
  have hX : FX G RX12 cX12_init 1 p s m args c := hX
  have hnm : meth.name = "<init>" := hnm
  refine J_aload_n hX dX12_init_0 0 rfl (t := 1) rfl ?_
  refine N_obj hX q_175 ⟨Nat.le_of_ble_eq_true rfl, Nat.le_of_ble_eq_true rfl⟩ dX12_init_1 (t := 4) rfl ?_
  refine J_aload_n hX dX12_init_4 0 rfl (t := 5) rfl ?_
  refine N_new (k := 1) hX cb7 q_178 q_179 q_137 [.null, .null, .null, .null, .int 0, .int 0, .int 0, .int 0, .int 0] dfX9 ⟨Nat.le_of_ble_eq_true rfl, Nat.le_of_ble_eq_true rfl⟩ dX12_init_5 (t := 8) rfl ?_
  refine J_dup hX dX12_init_8 rfl (t := 9) rfl ?_
  refine N_callN hX hAO [] [.ref (gn G + 1), .ref (gn G + 0)] (cnX9_init nf_s) miX9_init q_181 rfl (by simp [nestL]) ⟨rfl, rfl, Nat.le_of_ble_eq_true rfl, Nat.le_of_ble_eq_true rfl⟩ rfl rfl (Nat.le_of_ble_eq_true rfl) ⟨Nat.le_of_ble_eq_true rfl, Nat.le_of_ble_eq_true rfl⟩ dX12_init_9 (t := 12) rfl (fun v9 => J_pure fun hv9 => ?_)
  subst hv9
  refine N_putF hX hnm cb9 (o := 0) (by decide) (fs := [.null, .null, .null, .null, .null, .null, .null, .null, .int 0]) (fs2 := [.ref (gn G + 1), .null, .null, .null, .null, .null, .null, .null, .int 0]) ((textF_lo (by decide)).trans ((nf_o (by decide)).trans hf)) 0 (by decide) q_562 rfl rfl (ty := .object "EchoMarket$Text") rfl rfl rfl (Nat.le_of_ble_eq_true rfl) rfl dX12_init_12 (t := 15) rfl ?_
  refine N_eq (g := S1 G f) rfl ?_
  refine J_aload_n hX dX12_init_15 0 rfl (t := 16) rfl ?_
  refine N_new (k := 6) hX cb4 q_218 q_219 q_138 [.null, .null, .null, .int 0, .int 0, .int 0, .int 0, .int 0, .int 0, .int 0, .int 0, .int 0, .int 0] dfX6 ⟨Nat.le_of_ble_eq_true rfl, Nat.le_of_ble_eq_true rfl⟩ dX12_init_16 (t := 19) rfl ?_
  refine J_dup hX dX12_init_19 rfl (t := 20) rfl ?_
  refine N_call hX hAO [] [.ref (gn G + 6), .ref (gn G + 0)] (cnX6_init (o := 6) nf_s) miX6_init q_221 rfl q_220 ⟨rfl, rfl, Nat.le_of_ble_eq_true rfl, Nat.le_of_ble_eq_true rfl⟩ rfl rfl (Nat.le_of_ble_eq_true rfl) ⟨Nat.le_of_ble_eq_true rfl, Nat.le_of_ble_eq_true rfl⟩ dX12_init_20 (t := 23) rfl (fun v9 => J_pure fun hv9 => ?_)
  subst hv9
  refine N_putF hX hnm cb9 (o := 0) (by decide) (fs := [.ref (gn G + 1), .null, .null, .null, .null, .null, .null, .null, .int 0]) (fs2 := [.ref (gn G + 1), .null, .null, .ref (gn G + 6), .null, .null, .null, .null, .int 0]) ((mkt_lo (by decide)).trans ((nf_o (by decide)).trans S1_0)) 3 (by decide) q_565 rfl rfl (ty := .object "EchoMarket$Market") rfl rfl rfl (Nat.le_of_ble_eq_true rfl) rfl dX12_init_23 (t := 26) rfl ?_
  refine N_eq (g := S2 G f) rfl ?_
  refine J_aload_n hX dX12_init_26 0 rfl (t := 27) rfl ?_
  refine N_new (k := 56) hX cb4 q_218 q_219 q_138 [.null, .null, .null, .int 0, .int 0, .int 0, .int 0, .int 0, .int 0, .int 0, .int 0, .int 0, .int 0] dfX6 ⟨Nat.le_of_ble_eq_true rfl, Nat.le_of_ble_eq_true rfl⟩ dX12_init_27 (t := 30) rfl ?_
  refine J_dup hX dX12_init_30 rfl (t := 31) rfl ?_
  refine N_call hX hAO [] [.ref (gn G + 56), .ref (gn G + 0)] (cnX6_init (o := 56) nf_s) miX6_init q_221 rfl q_220 ⟨rfl, rfl, Nat.le_of_ble_eq_true rfl, Nat.le_of_ble_eq_true rfl⟩ rfl rfl (Nat.le_of_ble_eq_true rfl) ⟨Nat.le_of_ble_eq_true rfl, Nat.le_of_ble_eq_true rfl⟩ dX12_init_31 (t := 34) rfl (fun v9 => J_pure fun hv9 => ?_)
  subst hv9
  refine N_putF hX hnm cb9 (o := 0) (by decide) (fs := [.ref (gn G + 1), .null, .null, .ref (gn G + 6), .null, .null, .null, .null, .int 0]) (fs2 := [.ref (gn G + 1), .null, .null, .ref (gn G + 6), .ref (gn G + 56), .null, .null, .null, .int 0]) ((mkt_lo (by decide)).trans ((nf_o (by decide)).trans S2_0)) 4 (by decide) q_566 rfl rfl (ty := .object "EchoMarket$Market") rfl rfl rfl (Nat.le_of_ble_eq_true rfl) rfl dX12_init_34 (t := 37) rfl ?_
  refine N_eq (g := S3 G f) rfl ?_
  refine J_aload_n hX dX12_init_37 0 rfl (t := 38) rfl ?_
  refine N_new (k := 106) hX cb4 q_218 q_219 q_138 [.null, .null, .null, .int 0, .int 0, .int 0, .int 0, .int 0, .int 0, .int 0, .int 0, .int 0, .int 0] dfX6 ⟨Nat.le_of_ble_eq_true rfl, Nat.le_of_ble_eq_true rfl⟩ dX12_init_38 (t := 41) rfl ?_
  refine J_dup hX dX12_init_41 rfl (t := 42) rfl ?_
  refine N_call hX hAO [] [.ref (gn G + 106), .ref (gn G + 0)] (cnX6_init (o := 106) nf_s) miX6_init q_221 rfl q_220 ⟨rfl, rfl, Nat.le_of_ble_eq_true rfl, Nat.le_of_ble_eq_true rfl⟩ rfl rfl (Nat.le_of_ble_eq_true rfl) ⟨Nat.le_of_ble_eq_true rfl, Nat.le_of_ble_eq_true rfl⟩ dX12_init_42 (t := 45) rfl (fun v9 => J_pure fun hv9 => ?_)
  subst hv9
  refine N_putF hX hnm cb9 (o := 0) (by decide) (fs := [.ref (gn G + 1), .null, .null, .ref (gn G + 6), .ref (gn G + 56), .null, .null, .null, .int 0]) (fs2 := [.ref (gn G + 1), .null, .null, .ref (gn G + 6), .ref (gn G + 56), .ref (gn G + 106), .null, .null, .int 0]) ((mkt_lo (by decide)).trans ((nf_o (by decide)).trans S3_0)) 5 (by decide) q_567 rfl rfl (ty := .object "EchoMarket$Market") rfl rfl rfl (Nat.le_of_ble_eq_true rfl) rfl dX12_init_45 (t := 48) rfl ?_
  refine N_eq (g := S4 G f) rfl ?_
  refine J_aload_n hX dX12_init_48 0 rfl (t := 49) rfl ?_
  refine N_new (k := 156) hX cb2 q_427 q_428 q_142 [.null] dfX3 ⟨Nat.le_of_ble_eq_true rfl, Nat.le_of_ble_eq_true rfl⟩ dX12_init_49 (t := 52) rfl ?_
  refine J_dup hX dX12_init_52 rfl (t := 53) rfl ?_
  refine N_callN hX hAO [] [.ref (gn G + 156), .ref (gn G + 0)] (cnX3_init nf_s) miX3_init q_430 rfl (by simp [nestL]) ⟨rfl, rfl, Nat.le_of_ble_eq_true rfl, Nat.le_of_ble_eq_true rfl⟩ rfl rfl (Nat.le_of_ble_eq_true rfl) ⟨Nat.le_of_ble_eq_true rfl, Nat.le_of_ble_eq_true rfl⟩ dX12_init_53 (t := 56) rfl (fun v9 => J_pure fun hv9 => ?_)
  subst hv9
  refine N_putF hX hnm cb9 (o := 0) (by decide) (fs := [.ref (gn G + 1), .null, .null, .ref (gn G + 6), .ref (gn G + 56), .ref (gn G + 106), .null, .null, .int 0]) (fs2 := [.ref (gn G + 1), .ref (gn G + 156), .null, .ref (gn G + 6), .ref (gn G + 56), .ref (gn G + 106), .null, .null, .int 0]) ((descF_lo (by decide)).trans ((nf_o (by decide)).trans S4_0)) 1 (by decide) q_563 rfl rfl (ty := .object "EchoMarket$Description") rfl rfl rfl (Nat.le_of_ble_eq_true rfl) rfl dX12_init_56 (t := 59) rfl ?_
  refine N_eq (g := S5 G f) rfl ?_
  refine J_aload_n hX dX12_init_59 0 rfl (t := 60) rfl ?_
  refine N_new (k := 158) hX cb5 q_479 q_480 q_146 [.null, .null, .null, .null, .int 0, .int 0, .int 0] dfX7 ⟨Nat.le_of_ble_eq_true rfl, Nat.le_of_ble_eq_true rfl⟩ dX12_init_60 (t := 63) rfl ?_
  refine J_dup hX dX12_init_63 rfl (t := 64) rfl ?_
  refine N_call hX hAO [] [.ref (gn G + 158), .ref (gn G + 0)] (cnX7_init nf_s) miX7_init q_482 rfl q_481 ⟨rfl, rfl, Nat.le_of_ble_eq_true rfl, Nat.le_of_ble_eq_true rfl⟩ rfl rfl (Nat.le_of_ble_eq_true rfl) ⟨Nat.le_of_ble_eq_true rfl, Nat.le_of_ble_eq_true rfl⟩ dX12_init_64 (t := 67) rfl (fun v9 => J_pure fun hv9 => ?_)
  subst hv9
  refine N_putF hX hnm cb9 (o := 0) (by decide) (fs := [.ref (gn G + 1), .ref (gn G + 156), .null, .ref (gn G + 6), .ref (gn G + 56), .ref (gn G + 106), .null, .null, .int 0]) (fs2 := [.ref (gn G + 1), .ref (gn G + 156), .ref (gn G + 158), .ref (gn G + 6), .ref (gn G + 56), .ref (gn G + 106), .null, .null, .int 0]) ((sF_lo (by decide)).trans ((nf_o (by decide)).trans S5_0)) 2 (by decide) q_564 rfl rfl (ty := .object "EchoMarket$Script") rfl rfl rfl (Nat.le_of_ble_eq_true rfl) rfl dX12_init_67 (t := 70) rfl ?_
  refine N_eq (g := S6 G f) rfl ?_
  refine J_aload_n hX dX12_init_70 0 rfl (t := 71) rfl ?_
  refine N_new (k := 193) hX cb3 q_510 q_511 q_147 [.null, .int 0, .int 0] dfX5 ⟨Nat.le_of_ble_eq_true rfl, Nat.le_of_ble_eq_true rfl⟩ dX12_init_71 (t := 74) rfl ?_
  refine J_dup hX dX12_init_74 rfl (t := 75) rfl ?_
  refine N_call hX hAO [] [.ref (gn G + 193), .ref (gn G + 0)] (cnX5_init nf_s) miX5_init q_513 rfl q_512 ⟨rfl, rfl, Nat.le_of_ble_eq_true rfl, Nat.le_of_ble_eq_true rfl⟩ rfl rfl (Nat.le_of_ble_eq_true rfl) ⟨Nat.le_of_ble_eq_true rfl, Nat.le_of_ble_eq_true rfl⟩ dX12_init_75 (t := 78) rfl (fun v9 => J_pure fun hv9 => ?_)
  subst hv9
  refine N_putF hX hnm cb9 (o := 0) (by decide) (fs := [.ref (gn G + 1), .ref (gn G + 156), .ref (gn G + 158), .ref (gn G + 6), .ref (gn G + 56), .ref (gn G + 106), .null, .null, .int 0]) (fs2 := [.ref (gn G + 1), .ref (gn G + 156), .ref (gn G + 158), .ref (gn G + 6), .ref (gn G + 56), .ref (gn G + 106), .ref (gn G + 193), .null, .int 0]) ((h6_lo (by decide)).trans ((nf_o (by decide)).trans S6_0)) 6 (by decide) q_568 rfl rfl (ty := .object "EchoMarket$History") rfl rfl rfl (Nat.le_of_ble_eq_true rfl) rfl dX12_init_78 (t := 81) rfl ?_
  refine N_eq (g := S7 G f) rfl ?_
  refine J_aload_n hX dX12_init_81 0 rfl (t := 82) rfl ?_
  refine N_new (k := 495) hX cb11 q_530 q_531 q_149 [.null, .int 0, .int 0, .int 0] dfJ4 ⟨Nat.le_of_ble_eq_true rfl, Nat.le_of_ble_eq_true rfl⟩ dX12_init_82 (t := 85) rfl ?_
  refine J_dup hX dX12_init_85 rfl (t := 86) rfl ?_
  refine N_call hX hAO [] [.ref (gn G + 495), .ref (gn G + 0)] (cnJ4_init_da8c8 nf_s) miJ4_init_da8c8 q_533 rfl q_532 ⟨rfl, rfl, Nat.le_of_ble_eq_true rfl, Nat.le_of_ble_eq_true rfl⟩ rfl rfl (Nat.le_of_ble_eq_true rfl) ⟨Nat.le_of_ble_eq_true rfl, Nat.le_of_ble_eq_true rfl⟩ dX12_init_86 (t := 89) rfl (fun v9 => J_pure fun hv9 => ?_)
  subst hv9
  refine N_putF hX hnm cb9 (o := 0) (by decide) (fs := [.ref (gn G + 1), .ref (gn G + 156), .ref (gn G + 158), .ref (gn G + 6), .ref (gn G + 56), .ref (gn G + 106), .ref (gn G + 193), .null, .int 0]) (fs2 := [.ref (gn G + 1), .ref (gn G + 156), .ref (gn G + 158), .ref (gn G + 6), .ref (gn G + 56), .ref (gn G + 106), .ref (gn G + 193), .ref (gn G + 495), .int 0]) ((sbF_lo (by decide)).trans ((nf_o (by decide)).trans S7_0)) 7 (by decide) q_569 rfl rfl (ty := .object "java/lang/StringBuilder") rfl rfl rfl (Nat.le_of_ble_eq_true rfl) rfl dX12_init_89 (t := 92) rfl ?_
  refine N_eq (g := S8 G f) rfl ?_
  refine J_aload_n hX dX12_init_92 0 rfl (t := 93) rfl ?_
  refine J_iconst (v := 0) hX dX12_init_93 (by decide) (t := 94) rfl ?_
  refine N_put hX cb9 (o := 0) (by decide) (fs := [.ref (gn G + 1), .ref (gn G + 156), .ref (gn G + 158), .ref (gn G + 6), .ref (gn G + 56), .ref (gn G + 106), .ref (gn G + 193), .ref (gn G + 495), .int 0]) (fs2 := [.ref (gn G + 1), .ref (gn G + 156), .ref (gn G + 158), .ref (gn G + 6), .ref (gn G + 56), .ref (gn G + 106), .ref (gn G + 193), .ref (gn G + 495), .int 0]) S8_0 8 (by decide) q_570 rfl (ty := .boolean) rfl rfl rfl (Nat.le_of_ble_eq_true rfl) rfl dX12_init_94 (t := 97) rfl ?_
  refine N_eq (g := S8 G f) (nf_self S8_0) ?_
  refine J_wid (k := 496) (n := 8300) (by decide) (by decide) ?_
  exact J_vretP hX hR hlk (fun H h => ⟨rfl, h⟩) dX12_init_97
abbrev rmB9 : Room := { frames := 0, cells := 0, slots := 0, locals := 0 }
/-- the world at the law's loop -/
def zM : MM := (fun _ _ => 0, fun _ _ => 0)
def w0 : Wd := fun r => if r = 10 then sI zM 0 8 (-1) else if r = 14 then sI zM 0 4 16 else if r = 15 then sI (sI zM 0 9 (-1)) 0 11 (-1) else zM
/-- all that has been made by the class's constructor -/
def allF (G : GG) (f : Nat → va_E) : Nat → va_E := S8 G (nf f 0 (.inr (9, [.null, .null, .null, .null, .null, .null, .null, .null, .int 0])))
theorem allF_lo {G : GG} {f : Nat → va_E} {x : Nat} (h : x < 497) : allF G f x = S8 G (nf f 0 (.inr (9, [.null, .null, .null, .null, .null, .null, .null, .null, .int 0]))) x := rfl
theorem cellOf_m {G : GG} {r j : Nat} {a : Nat → Int32} {b : Nat → Int64} (h1 : 1 ≤ r) (h2 : r ≤ 9) : cellOf G r j a b = cellM G r j a b := cellM_of ⟨h1, h2⟩ a b
theorem h6_m0 {G : GG} {f : Nat → va_E} {j : Nat} (hj : j < 50) : ∃ g, h6 G f (195 + j) = mkt G 195 g (195 + j) := ⟨_, (nf_o (by omega)).trans ((mkt_lo (by omega)).trans ((nf_o (by omega)).trans ((nf_o (by omega)).trans ((mkt_lo (by omega)).trans ((nf_o (by omega)).trans ((nf_o (by omega)).trans ((mkt_lo (by omega)).trans ((nf_o (by omega)).trans ((nf_o (by omega)).trans ((mkt_lo (by omega)).trans ((nf_o (by omega)).trans ((nf_o (by omega)).trans ((mkt_lo (by omega)).trans ((nf_o (by omega)).trans (nf_o (by omega))))))))))))))))⟩
theorem h6_m1 {G : GG} {f : Nat → va_E} {j : Nat} (hj : j < 50) : ∃ g, h6 G f (245 + j) = mkt G 245 g (245 + j) := ⟨_, (nf_o (by omega)).trans ((mkt_lo (by omega)).trans ((nf_o (by omega)).trans ((nf_o (by omega)).trans ((mkt_lo (by omega)).trans ((nf_o (by omega)).trans ((nf_o (by omega)).trans ((mkt_lo (by omega)).trans ((nf_o (by omega)).trans ((nf_o (by omega)).trans ((mkt_lo (by omega)).trans ((nf_o (by omega)).trans (nf_o (by omega)))))))))))))⟩
theorem h6_m2 {G : GG} {f : Nat → va_E} {j : Nat} (hj : j < 50) : ∃ g, h6 G f (295 + j) = mkt G 295 g (295 + j) := ⟨_, (nf_o (by omega)).trans ((mkt_lo (by omega)).trans ((nf_o (by omega)).trans ((nf_o (by omega)).trans ((mkt_lo (by omega)).trans ((nf_o (by omega)).trans ((nf_o (by omega)).trans ((mkt_lo (by omega)).trans ((nf_o (by omega)).trans (nf_o (by omega))))))))))⟩
theorem h6_m3 {G : GG} {f : Nat → va_E} {j : Nat} (hj : j < 50) : ∃ g, h6 G f (345 + j) = mkt G 345 g (345 + j) := ⟨_, (nf_o (by omega)).trans ((mkt_lo (by omega)).trans ((nf_o (by omega)).trans ((nf_o (by omega)).trans ((mkt_lo (by omega)).trans ((nf_o (by omega)).trans (nf_o (by omega)))))))⟩
theorem h6_m4 {G : GG} {f : Nat → va_E} {j : Nat} (hj : j < 50) : ∃ g, h6 G f (395 + j) = mkt G 395 g (395 + j) := ⟨_, (nf_o (by omega)).trans ((mkt_lo (by omega)).trans ((nf_o (by omega)).trans (nf_o (by omega))))⟩
theorem h6_m5 {G : GG} {f : Nat → va_E} {j : Nat} (hj : j < 50) : ∃ g, h6 G f (445 + j) = mkt G 445 g (445 + j) := ⟨_, nf_o (by omega)⟩
theorem GH0 {G : GG} {f : Nat → va_E} {H : Heap} (h : NB G 497 (allF G f) H) (hV : ∀ q, gn G ≤ q → gA G q) : GH G w0 H := by
  have at_ : ∀ (r j : Nat), offr r + j < 497 → ∀ x, allF G f (offr r + j) = x → va_at (gD G) jcl (adr G r j, x) H := fun r j hj x hx => by
    have := h.2.2 (offr r + j) hj
    rw [hx] at this
    exact this
  have mk_ : ∀ (r j : Nat), 1 ≤ r → r ≤ 9 → j < 50 → (∃ g, allF G f (offr r + j) = mkt G (offr r) g (offr r + j)) → offr r + j < 497 → va_at (gD G) jcl (adr G r j, cellOf G r j ((w0 r).1 j) ((w0 r).2 j)) H := fun r j h1 h2 hj ⟨g, hg⟩ hl => by
    have h9 := h.2.2 (offr r + j) hl
    rw [hg] at h9
    have h8 := mkt_rd hj h9
    rw [cellOf_m h1 h2]
    have e : w0 r = zM := by unfold w0; rw [if_neg (by omega), if_neg (by omega), if_neg (by omega)]
    rw [e]
    exact h8
  refine ⟨fun r j hi => ?_, fun r j hi => hV _ (Nat.le_add_right _ _)⟩
  · obtain ⟨h1, h2⟩ := hi
    match r, h1, h2 with
    | 0, _, h2 =>
      obtain rfl : j = 0 := by simp only [szr] at h2; omega
      exact at_ 0 0 (by decide) _ ((allF_lo (by decide)).trans S8_0)
    | 1, _, h2 =>
      simp only [szr] at h2
      exact mk_ 1 j (by decide) (by decide) h2 ⟨_, by
        show allF G f (6 + j) = mkt G 6 _ (6 + j)
        exact (allF_lo (by omega)).trans ((S8_lo (by omega) (by omega)).trans ((S7_lo (by omega) (by omega)).trans ((S6_lo (by omega) (by omega)).trans ((S5_lo (by omega) (by omega)).trans ((S4_lo (by omega) (by omega)).trans ((S3_lo (by omega) (by omega)).trans (nf_o (by omega))))))))⟩ (by show 6 + j < 497; omega)
    | 2, _, h2 =>
      simp only [szr] at h2
      exact mk_ 2 j (by decide) (by decide) h2 ⟨_, by
        show allF G f (56 + j) = mkt G 56 _ (56 + j)
        exact (allF_lo (by omega)).trans ((S8_lo (by omega) (by omega)).trans ((S7_lo (by omega) (by omega)).trans ((S6_lo (by omega) (by omega)).trans ((S5_lo (by omega) (by omega)).trans ((S4_lo (by omega) (by omega)).trans (nf_o (by omega)))))))⟩ (by show 56 + j < 497; omega)
    | 3, _, h2 =>
      simp only [szr] at h2
      exact mk_ 3 j (by decide) (by decide) h2 ⟨_, by
        show allF G f (106 + j) = mkt G 106 _ (106 + j)
        exact (allF_lo (by omega)).trans ((S8_lo (by omega) (by omega)).trans ((S7_lo (by omega) (by omega)).trans ((S6_lo (by omega) (by omega)).trans ((S5_lo (by omega) (by omega)).trans (nf_o (by omega))))))⟩ (by show 106 + j < 497; omega)
    | 4, _, h2 =>
      simp only [szr] at h2
      obtain ⟨g, hg⟩ := h6_m0 (G := G) (f := nf (S6 G (nf f 0 (.inr (9, [.null, .null, .null, .null, .null, .null, .null, .null, .int 0])))) 193 (.inr (3, [.null, .int 0, .int 0]))) h2
      exact mk_ 4 j (by decide) (by decide) h2 ⟨g, by
        show allF G f (195 + j) = mkt G 195 g (195 + j)
        exact (allF_lo (by omega)).trans ((S8_lo (by omega) (by omega)).trans ((nf_o (by omega)).trans hg))⟩ (by show 195 + j < 497; omega)
    | 5, _, h2 =>
      simp only [szr] at h2
      obtain ⟨g, hg⟩ := h6_m1 (G := G) (f := nf (S6 G (nf f 0 (.inr (9, [.null, .null, .null, .null, .null, .null, .null, .null, .int 0])))) 193 (.inr (3, [.null, .int 0, .int 0]))) h2
      exact mk_ 5 j (by decide) (by decide) h2 ⟨g, by
        show allF G f (245 + j) = mkt G 245 g (245 + j)
        exact (allF_lo (by omega)).trans ((S8_lo (by omega) (by omega)).trans ((nf_o (by omega)).trans hg))⟩ (by show 245 + j < 497; omega)
    | 6, _, h2 =>
      simp only [szr] at h2
      obtain ⟨g, hg⟩ := h6_m2 (G := G) (f := nf (S6 G (nf f 0 (.inr (9, [.null, .null, .null, .null, .null, .null, .null, .null, .int 0])))) 193 (.inr (3, [.null, .int 0, .int 0]))) h2
      exact mk_ 6 j (by decide) (by decide) h2 ⟨g, by
        show allF G f (295 + j) = mkt G 295 g (295 + j)
        exact (allF_lo (by omega)).trans ((S8_lo (by omega) (by omega)).trans ((nf_o (by omega)).trans hg))⟩ (by show 295 + j < 497; omega)
    | 7, _, h2 =>
      simp only [szr] at h2
      obtain ⟨g, hg⟩ := h6_m3 (G := G) (f := nf (S6 G (nf f 0 (.inr (9, [.null, .null, .null, .null, .null, .null, .null, .null, .int 0])))) 193 (.inr (3, [.null, .int 0, .int 0]))) h2
      exact mk_ 7 j (by decide) (by decide) h2 ⟨g, by
        show allF G f (345 + j) = mkt G 345 g (345 + j)
        exact (allF_lo (by omega)).trans ((S8_lo (by omega) (by omega)).trans ((nf_o (by omega)).trans hg))⟩ (by show 345 + j < 497; omega)
    | 8, _, h2 =>
      simp only [szr] at h2
      obtain ⟨g, hg⟩ := h6_m4 (G := G) (f := nf (S6 G (nf f 0 (.inr (9, [.null, .null, .null, .null, .null, .null, .null, .null, .int 0])))) 193 (.inr (3, [.null, .int 0, .int 0]))) h2
      exact mk_ 8 j (by decide) (by decide) h2 ⟨g, by
        show allF G f (395 + j) = mkt G 395 g (395 + j)
        exact (allF_lo (by omega)).trans ((S8_lo (by omega) (by omega)).trans ((nf_o (by omega)).trans hg))⟩ (by show 395 + j < 497; omega)
    | 9, _, h2 =>
      simp only [szr] at h2
      obtain ⟨g, hg⟩ := h6_m5 (G := G) (f := nf (S6 G (nf f 0 (.inr (9, [.null, .null, .null, .null, .null, .null, .null, .null, .int 0])))) 193 (.inr (3, [.null, .int 0, .int 0]))) h2
      exact mk_ 9 j (by decide) (by decide) h2 ⟨g, by
        show allF G f (445 + j) = mkt G 445 g (445 + j)
        exact (allF_lo (by omega)).trans ((S8_lo (by omega) (by omega)).trans ((nf_o (by omega)).trans hg))⟩ (by show 445 + j < 497; omega)
    | 10, _, h2 =>
      simp only [szr] at h2
      match j, h2 with
      | 0, _ => exact at_ 10 0 (by decide) _ ((allF_lo (by decide)).trans ((S8_lo (by decide) (by decide)).trans ((S7_lo (by decide) (by decide)).trans ((S6_lo (by decide) (by decide)).trans ((S5_lo (by decide) (by decide)).trans ((S4_lo (by decide) (by decide)).trans ((S3_lo (by decide) (by decide)).trans ((S2_lo (by decide) (by decide)).trans ((nf_o (by decide)).trans textF_1)))))))))
      | 1, _ => exact at_ 10 1 (by decide) _ ((allF_lo (by decide)).trans ((S8_lo (by decide) (by decide)).trans ((S7_lo (by decide) (by decide)).trans ((S6_lo (by decide) (by decide)).trans ((S5_lo (by decide) (by decide)).trans ((S4_lo (by decide) (by decide)).trans ((S3_lo (by decide) (by decide)).trans ((S2_lo (by decide) (by decide)).trans ((nf_o (by decide)).trans textF_2)))))))))
      | 2, _ => exact at_ 10 2 (by decide) _ ((allF_lo (by decide)).trans ((S8_lo (by decide) (by decide)).trans ((S7_lo (by decide) (by decide)).trans ((S6_lo (by decide) (by decide)).trans ((S5_lo (by decide) (by decide)).trans ((S4_lo (by decide) (by decide)).trans ((S3_lo (by decide) (by decide)).trans ((S2_lo (by decide) (by decide)).trans ((nf_o (by decide)).trans textF_3)))))))))
      | 3, _ => exact at_ 10 3 (by decide) _ ((allF_lo (by decide)).trans ((S8_lo (by decide) (by decide)).trans ((S7_lo (by decide) (by decide)).trans ((S6_lo (by decide) (by decide)).trans ((S5_lo (by decide) (by decide)).trans ((S4_lo (by decide) (by decide)).trans ((S3_lo (by decide) (by decide)).trans ((S2_lo (by decide) (by decide)).trans ((nf_o (by decide)).trans textF_4)))))))))
      | 4, _ => exact at_ 10 4 (by decide) _ ((allF_lo (by decide)).trans ((S8_lo (by decide) (by decide)).trans ((S7_lo (by decide) (by decide)).trans ((S6_lo (by decide) (by decide)).trans ((S5_lo (by decide) (by decide)).trans ((S4_lo (by decide) (by decide)).trans ((S3_lo (by decide) (by decide)).trans ((S2_lo (by decide) (by decide)).trans ((nf_o (by decide)).trans textF_5)))))))))
    | 11, _, h2 =>
      simp only [szr] at h2
      match j, h2 with
      | 0, _ => exact at_ 11 0 (by decide) _ ((allF_lo (by decide)).trans ((S8_lo (by decide) (by decide)).trans ((S7_lo (by decide) (by decide)).trans ((S6_lo (by decide) (by decide)).trans ((nf_o (by decide)).trans descF_156)))))
      | 1, _ => exact at_ 11 1 (by decide) _ ((allF_lo (by decide)).trans ((S8_lo (by decide) (by decide)).trans ((S7_lo (by decide) (by decide)).trans ((S6_lo (by decide) (by decide)).trans ((nf_o (by decide)).trans descF_157)))))
    | 12, _, h2 =>
      simp only [szr] at h2
      have e0 : ∀ x, 158 ≤ x → x < 193 → allF G f x = sF G (nf (S5 G (nf f 0 (.inr (9, [.null, .null, .null, .null, .null, .null, .null, .null, .int 0])))) 158 (.inr (5, [.null, .null, .null, .null, .int 0, .int 0, .int 0]))) 30 x := fun x h1 h3 => (allF_lo (by omega)).trans ((S8_lo (by omega) (by omega)).trans ((S7_lo (by omega) (by omega)).trans (nf_o (by omega))))
      by_cases h5 : j < 5
      · match j, h5 with
        | 0, _ => exact at_ 12 0 (by decide) _ ((e0 158 (by decide) (by decide)).trans (sF_0))
        | 1, _ =>
          have h9 := at_ 12 1 (by decide) _ ((e0 159 (by decide) (by decide)).trans lp_a)
          exact aRp_full h9 (fun i _ => by unfold adr; show _ = gn G + (158 + (5 + i)); omega)
        | 2, _ => exact at_ 12 2 (by decide) _ ((e0 160 (by decide) (by decide)).trans ((lp_o (by decide) (by decide)).trans sA_160))
        | 3, _ => exact at_ 12 3 (by decide) _ ((e0 161 (by decide) (by decide)).trans ((lp_o (by decide) (by decide)).trans sA_161))
        | 4, _ => exact at_ 12 4 (by decide) _ ((e0 162 (by decide) (by decide)).trans ((lp_o (by decide) (by decide)).trans sA_162))
      · have h9 := at_ 12 j (by show 158 + j < 497; omega) (chg0 G) ((e0 (158 + j) (by omega) (by omega)).trans (lp_b (by omega) (by omega)))
        have e1 : cellOf G 12 j ((w0 12).1 j) ((w0 12).2 j) = chg0 G := by
          show cellS G j zI zL = _
          unfold cellS
          rw [if_neg (by omega), if_neg (by omega), if_neg (by omega), if_neg (by omega), if_neg (by omega)]
          rfl
        rw [e1]
        exact h9
    | 13, _, h2 =>
      simp only [szr] at h2
      match j, h2 with
      | 0, _ => exact at_ 13 0 (by decide) _ ((allF_lo (by decide)).trans ((S8_lo (by decide) (by decide)).trans ((nf_o (by decide)).trans h6_193)))
      | 1, _ =>
        have h9 := at_ 13 1 (by decide) _ ((allF_lo (by decide)).trans ((S8_lo (by decide) (by decide)).trans ((nf_o (by decide)).trans h6_194)))
        exact aRp_full h9 (fun i hi => by
          unfold adr
          match i, hi with
          | 0, _ => rfl
          | 1, _ => rfl
          | 2, _ => rfl
          | 3, _ => rfl
          | 4, _ => rfl
          | 5, _ => rfl)
