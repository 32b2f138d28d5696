theorem q_174 : Cond.code yX12_init cX12_init 1 none ∈ WALL := WALL_in (List.mem_append_right _ (List.mem_append_left _ (List.mem_of_getElem? (i := 39) rfl))) rfl
theorem q_175 : Cond.methodLink RX12 1 ⟨"java/lang/Object", "<init>", "()V"⟩ ∈ WALL := WALL_in (List.mem_append_right _ (List.mem_append_left _ (List.mem_of_getElem? (i := 40) rfl))) rfl
theorem q_178 : Cond.classLink RX12 7 RX9 ∈ WALL := WALL_in (List.mem_append_right _ (List.mem_append_left _ (List.mem_of_getElem? (i := 43) rfl))) rfl
theorem q_179 : Cond.instantiable RX9 9 ∈ WALL := WALL_in (List.mem_append_right _ (List.mem_append_left _ (List.mem_of_getElem? (i := 44) rfl))) rfl
theorem q_181 : Cond.instanceMethod yX9_init ∈ WALL := WALL_in (List.mem_append_right _ (List.mem_append_left _ (List.mem_of_getElem? (i := 46) rfl))) rfl
theorem q_218 : Cond.classLink RX12 16 RX6 ∈ WALL := WALL_in (List.mem_append_right _ (List.mem_append_left _ (List.mem_of_getElem? (i := 83) rfl))) rfl
theorem q_220 : Cond.methodLink RX12 18 yX6_init ∈ WALL := WALL_in (List.mem_append_right _ (List.mem_append_left _ (List.mem_of_getElem? (i := 85) rfl))) rfl
theorem q_427 : Cond.classLink RX12 29 RX3 ∈ WALL := WALL_in (List.mem_append_right _ (List.mem_append_right _ (List.mem_append_left _ (List.mem_of_getElem? (i := 52) rfl)))) rfl
theorem q_428 : Cond.instantiable RX3 1 ∈ WALL := WALL_in (List.mem_append_right _ (List.mem_append_right _ (List.mem_append_left _ (List.mem_of_getElem? (i := 53) rfl)))) rfl
theorem q_430 : Cond.instanceMethod yX3_init ∈ WALL := WALL_in (List.mem_append_right _ (List.mem_append_right _ (List.mem_append_left _ (List.mem_of_getElem? (i := 55) rfl)))) rfl
theorem q_479 : Cond.classLink RX12 36 RX7 ∈ WALL := WALL_in (List.mem_append_right _ (List.mem_append_right _ (List.mem_append_left _ (List.mem_of_getElem? (i := 104) rfl)))) rfl
theorem q_480 : Cond.instantiable RX7 7 ∈ WALL := WALL_in (List.mem_append_right _ (List.mem_append_right _ (List.mem_append_left _ (List.mem_of_getElem? (i := 105) rfl)))) rfl
theorem q_481 : Cond.methodLink RX12 38 yX7_init ∈ WALL := WALL_in (List.mem_append_right _ (List.mem_append_right _ (List.mem_append_left _ (List.mem_of_getElem? (i := 106) rfl)))) rfl
theorem q_482 : Cond.instanceMethod yX7_init ∈ WALL := WALL_in (List.mem_append_right _ (List.mem_append_right _ (List.mem_append_left _ (List.mem_of_getElem? (i := 107) rfl)))) rfl
theorem q_510 : Cond.classLink RX12 43 RX5 ∈ WALL := WALL_in (List.mem_append_right _ (List.mem_append_right _ (List.mem_append_left _ (List.mem_of_getElem? (i := 135) rfl)))) rfl
theorem q_511 : Cond.instantiable RX5 3 ∈ WALL := WALL_in (List.mem_append_right _ (List.mem_append_right _ (List.mem_append_left _ (List.mem_of_getElem? (i := 136) rfl)))) rfl
theorem q_512 : Cond.methodLink RX12 45 yX5_init ∈ WALL := WALL_in (List.mem_append_right _ (List.mem_append_right _ (List.mem_append_left _ (List.mem_of_getElem? (i := 137) rfl)))) rfl
theorem q_513 : Cond.instanceMethod yX5_init ∈ WALL := WALL_in (List.mem_append_right _ (List.mem_append_right _ (List.mem_append_left _ (List.mem_of_getElem? (i := 138) rfl)))) rfl
theorem q_530 : Cond.classLink RX12 50 RJ4 ∈ WALL := WALL_in (List.mem_append_right _ (List.mem_append_right _ (List.mem_append_left _ (List.mem_of_getElem? (i := 155) rfl)))) rfl
theorem q_531 : Cond.instantiable RJ4 4 ∈ WALL := WALL_in (List.mem_append_right _ (List.mem_append_right _ (List.mem_append_left _ (List.mem_of_getElem? (i := 156) rfl)))) rfl
theorem q_532 : Cond.methodLink RX12 52 yJ4_init_da8c8 ∈ WALL := WALL_in (List.mem_append_right _ (List.mem_append_right _ (List.mem_append_left _ (List.mem_of_getElem? (i := 157) rfl)))) rfl
theorem q_533 : Cond.instanceMethod yJ4_init_da8c8 ∈ WALL := WALL_in (List.mem_append_right _ (List.mem_append_right _ (List.mem_append_left _ (List.mem_of_getElem? (i := 158) rfl)))) rfl
theorem q_1961 : Cond.code yX13_init cX13_init 1 none ∈ WALL := WALL_in (List.mem_append_right _ (List.mem_append_right _ (List.mem_append_right _ (List.mem_append_right _ (List.mem_append_right _ (List.mem_append_right _ (List.mem_append_right _ (List.mem_append_right _ (List.mem_append_left _ (List.mem_of_getElem? (i := 146) rfl)))))))))) rfl
theorem q_1962 : Cond.methodLink RX13 1 ⟨"java/lang/Object", "<init>", "()V"⟩ ∈ WALL := WALL_in (List.mem_append_right _ (List.mem_append_right _ (List.mem_append_right _ (List.mem_append_right _ (List.mem_append_right _ (List.mem_append_right _ (List.mem_append_right _ (List.mem_append_right _ (List.mem_append_left _ (List.mem_of_getElem? (i := 147) rfl)))))))))) rfl
/-! CONSTRUCTORS of the class and of the reference; the world that the law begins with -/
theorem miX12_init : MI yX12_init cX12_init 1 none 0 := ⟨q_174, q_136, by decide +kernel, by decide +kernel, by decide +kernel, by decide +kernel⟩
def S1 (G : GG) (f : Nat → va_E) : Nat → va_E := nf (textF G (nf f 1 (.inr (7, [.null, .null, .null, .null, .int 0, .int 0, .int 0, .int 0, .int 0])))) 0 (.inr (9, [.ref (gn G + 1), .null, .null, .null, .null, .null, .null, .null, .int 0]))
theorem S1_0 {G : GG} {f : Nat → va_E} : S1 G f 0 = .inr (9, [.ref (gn G + 1), .null, .null, .null, .null, .null, .null, .null, .int 0]) := nf_s
theorem S1_lo {G : GG} {f : Nat → va_E} {x : Nat} (h0 : x ≠ 0) (h : x < 1) : S1 G f x = f x := (nf_o h0).trans ((textF_lo (by omega)).trans (nf_o (by omega)))
def S2 (G : GG) (f : Nat → va_E) : Nat → va_E := nf (mkt G 6 (nf (S1 G f) 6 (.inr (4, [.null, .null, .null, .int 0, .int 0, .int 0, .int 0, .int 0, .int 0, .int 0, .int 0, .int 0, .int 0])))) 0 (.inr (9, [.ref (gn G + 1), .null, .null, .ref (gn G + 6), .null, .null, .null, .null, .int 0]))
theorem S2_0 {G : GG} {f : Nat → va_E} : S2 G f 0 = .inr (9, [.ref (gn G + 1), .null, .null, .ref (gn G + 6), .null, .null, .null, .null, .int 0]) := nf_s
theorem S2_lo {G : GG} {f : Nat → va_E} {x : Nat} (h0 : x ≠ 0) (h : x < 6) : S2 G f x = S1 G f x := (nf_o h0).trans ((mkt_lo (by omega)).trans (nf_o (by omega)))
def S3 (G : GG) (f : Nat → va_E) : Nat → va_E := nf (mkt G 56 (nf (S2 G f) 56 (.inr (4, [.null, .null, .null, .int 0, .int 0, .int 0, .int 0, .int 0, .int 0, .int 0, .int 0, .int 0, .int 0])))) 0 (.inr (9, [.ref (gn G + 1), .null, .null, .ref (gn G + 6), .ref (gn G + 56), .null, .null, .null, .int 0]))
theorem S3_0 {G : GG} {f : Nat → va_E} : S3 G f 0 = .inr (9, [.ref (gn G + 1), .null, .null, .ref (gn G + 6), .ref (gn G + 56), .null, .null, .null, .int 0]) := nf_s
theorem S3_lo {G : GG} {f : Nat → va_E} {x : Nat} (h0 : x ≠ 0) (h : x < 56) : S3 G f x = S2 G f x := (nf_o h0).trans ((mkt_lo (by omega)).trans (nf_o (by omega)))
def S4 (G : GG) (f : Nat → va_E) : Nat → va_E := nf (mkt G 106 (nf (S3 G f) 106 (.inr (4, [.null, .null, .null, .int 0, .int 0, .int 0, .int 0, .int 0, .int 0, .int 0, .int 0, .int 0, .int 0])))) 0 (.inr (9, [.ref (gn G + 1), .null, .null, .ref (gn G + 6), .ref (gn G + 56), .ref (gn G + 106), .null, .null, .int 0]))
theorem S4_0 {G : GG} {f : Nat → va_E} : S4 G f 0 = .inr (9, [.ref (gn G + 1), .null, .null, .ref (gn G + 6), .ref (gn G + 56), .ref (gn G + 106), .null, .null, .int 0]) := nf_s
theorem S4_lo {G : GG} {f : Nat → va_E} {x : Nat} (h0 : x ≠ 0) (h : x < 106) : S4 G f x = S3 G f x := (nf_o h0).trans ((mkt_lo (by omega)).trans (nf_o (by omega)))
def S5 (G : GG) (f : Nat → va_E) : Nat → va_E := nf (descF G (nf (S4 G f) 156 (.inr (2, [.null])))) 0 (.inr (9, [.ref (gn G + 1), .ref (gn G + 156), .null, .ref (gn G + 6), .ref (gn G + 56), .ref (gn G + 106), .null, .null, .int 0]))
theorem S5_0 {G : GG} {f : Nat → va_E} : S5 G f 0 = .inr (9, [.ref (gn G + 1), .ref (gn G + 156), .null, .ref (gn G + 6), .ref (gn G + 56), .ref (gn G + 106), .null, .null, .int 0]) := nf_s
theorem S5_lo {G : GG} {f : Nat → va_E} {x : Nat} (h0 : x ≠ 0) (h : x < 156) : S5 G f x = S4 G f x := (nf_o h0).trans ((descF_lo (by omega)).trans (nf_o (by omega)))
def S6 (G : GG) (f : Nat → va_E) : Nat → va_E := nf (sF G (nf (S5 G f) 158 (.inr (5, [.null, .null, .null, .null, .int 0, .int 0, .int 0]))) 30) 0 (.inr (9, [.ref (gn G + 1), .ref (gn G + 156), .ref (gn G + 158), .ref (gn G + 6), .ref (gn G + 56), .ref (gn G + 106), .null, .null, .int 0]))
theorem S6_0 {G : GG} {f : Nat → va_E} : S6 G f 0 = .inr (9, [.ref (gn G + 1), .ref (gn G + 156), .ref (gn G + 158), .ref (gn G + 6), .ref (gn G + 56), .ref (gn G + 106), .null, .null, .int 0]) := nf_s
theorem S6_lo {G : GG} {f : Nat → va_E} {x : Nat} (h0 : x ≠ 0) (h : x < 158) : S6 G f x = S5 G f x := (nf_o h0).trans ((sF_lo (by omega)).trans (nf_o (by omega)))
def S7 (G : GG) (f : Nat → va_E) : Nat → va_E := nf (h6 G (nf (S6 G f) 193 (.inr (3, [.null, .int 0, .int 0])))) 0 (.inr (9, [.ref (gn G + 1), .ref (gn G + 156), .ref (gn G + 158), .ref (gn G + 6), .ref (gn G + 56), .ref (gn G + 106), .ref (gn G + 193), .null, .int 0]))
theorem S7_0 {G : GG} {f : Nat → va_E} : S7 G f 0 = .inr (9, [.ref (gn G + 1), .ref (gn G + 156), .ref (gn G + 158), .ref (gn G + 6), .ref (gn G + 56), .ref (gn G + 106), .ref (gn G + 193), .null, .int 0]) := nf_s
theorem S7_lo {G : GG} {f : Nat → va_E} {x : Nat} (h0 : x ≠ 0) (h : x < 193) : S7 G f x = S6 G f x := (nf_o h0).trans ((h6_lo (by omega)).trans (nf_o (by omega)))
def S8 (G : GG) (f : Nat → va_E) : Nat → va_E := nf (sbF G (nf (S7 G f) 495 (.inr (11, [.null, .int 0, .int 0, .int 0])))) 0 (.inr (9, [.ref (gn G + 1), .ref (gn G + 156), .ref (gn G + 158), .ref (gn G + 6), .ref (gn G + 56), .ref (gn G + 106), .ref (gn G + 193), .ref (gn G + 495), .int 0]))
theorem S8_0 {G : GG} {f : Nat → va_E} : S8 G f 0 = .inr (9, [.ref (gn G + 1), .ref (gn G + 156), .ref (gn G + 158), .ref (gn G + 6), .ref (gn G + 56), .ref (gn G + 106), .ref (gn G + 193), .ref (gn G + 495), .int 0]) := nf_s
theorem S8_lo {G : GG} {f : Nat → va_E} {x : Nat} (h0 : x ≠ 0) (h : x < 495) : S8 G f x = S7 G f x := (nf_o h0).trans ((sbF_lo (by omega)).trans (nf_o (by omega)))
abbrev rmX12_init : Room := { frames := 6, cells := 496, slots := 8300, locals := 300 }
set_option maxHeartbeats 4000000 in
theorem cnX12_init {G : GG} {l : Launch} {f : Nat → va_E} (hf : f 0 = .inr (9, [.null, .null, .null, .null, .null, .null, .null, .null, .int 0])) : CTN G l yX12_init cX12_init 1 none rmX12_init 496 8300 [.ref (gn G + 0)] (NB G 1 f) (fun v H => v = none ∧ NB G 497 (S8 G f) H) := by
  refine CTN.of miX12_init [(0, .ref (gn G + 0))] rfl (Nat.le_of_ble_eq_true rfl) ?_
  intro p e s m args below meth c hX hAO hnm hR hlk
  have hX : FX G RX12 cX12_init 1 p s m args c := hX
  have hnm : meth.name = "<init>" := hnm
  refine J_aload_n hX dX12_init_0 0 rfl (t := 1) rfl ?_
  refine N_obj hX q_175 ⟨Nat.le_of_ble_eq_true rfl, Nat.le_of_ble_eq_true rfl⟩ dX12_init_1 (t := 4) rfl ?_
  refine J_aload_n hX dX12_init_4 0 rfl (t := 5) rfl ?_
  refine N_new (k := 1) hX cb7 q_178 q_179 q_137 [.null, .null, .null, .null, .int 0, .int 0, .int 0, .int 0, .int 0] dfX9 ⟨Nat.le_of_ble_eq_true rfl, Nat.le_of_ble_eq_true rfl⟩ dX12_init_5 (t := 8) rfl ?_
  refine J_dup hX dX12_init_8 rfl (t := 9) rfl ?_
  refine N_callN hX hAO [] [.ref (gn G + 1), .ref (gn G + 0)] (cnX9_init nf_s) miX9_init q_181 rfl (by simp [nestL]) ⟨rfl, rfl, Nat.le_of_ble_eq_true rfl, Nat.le_of_ble_eq_true rfl⟩ rfl rfl (Nat.le_of_ble_eq_true rfl) ⟨Nat.le_of_ble_eq_true rfl, Nat.le_of_ble_eq_true rfl⟩ dX12_init_9 (t := 12) rfl (fun v9 => J_pure fun hv9 => ?_)
  subst hv9
  refine N_putF hX hnm cb9 (o := 0) (by decide) (fs := [.null, .null, .null, .null, .null, .null, .null, .null, .int 0]) (fs2 := [.ref (gn G + 1), .null, .null, .null, .null, .null, .null, .null, .int 0]) ((textF_lo (by decide)).trans ((nf_o (by decide)).trans hf)) 0 (by decide) q_562 rfl rfl (ty := .object "EchoMarket$Text") rfl rfl rfl (Nat.le_of_ble_eq_true rfl) rfl dX12_init_12 (t := 15) rfl ?_
  refine N_eq (g := S1 G f) rfl ?_
  refine J_aload_n hX dX12_init_15 0 rfl (t := 16) rfl ?_
  refine N_new (k := 6) hX cb4 q_218 q_219 q_138 [.null, .null, .null, .int 0, .int 0, .int 0, .int 0, .int 0, .int 0, .int 0, .int 0, .int 0, .int 0] dfX6 ⟨Nat.le_of_ble_eq_true rfl, Nat.le_of_ble_eq_true rfl⟩ dX12_init_16 (t := 19) rfl ?_
  refine J_dup hX dX12_init_19 rfl (t := 20) rfl ?_
  refine N_call hX hAO [] [.ref (gn G + 6), .ref (gn G + 0)] (cnX6_init (o := 6) nf_s) miX6_init q_221 rfl q_220 ⟨rfl, rfl, Nat.le_of_ble_eq_true rfl, Nat.le_of_ble_eq_true rfl⟩ rfl rfl (Nat.le_of_ble_eq_true rfl) ⟨Nat.le_of_ble_eq_true rfl, Nat.le_of_ble_eq_true rfl⟩ dX12_init_20 (t := 23) rfl (fun v9 => J_pure fun hv9 => ?_)
  subst hv9
  refine N_putF hX hnm cb9 (o := 0) (by decide) (fs := [.ref (gn G + 1), .null, .null, .null, .null, .null, .null, .null, .int 0]) (fs2 := [.ref (gn G + 1), .null, .null, .ref (gn G + 6), .null, .null, .null, .null, .int 0]) ((mkt_lo (by decide)).trans ((nf_o (by decide)).trans S1_0)) 3 (by decide) q_565 rfl rfl (ty := .object "EchoMarket$Market") rfl rfl rfl (Nat.le_of_ble_eq_true rfl) rfl dX12_init_23 (t := 26) rfl ?_
  refine N_eq (g := S2 G f) rfl ?_
  refine J_aload_n hX dX12_init_26 0 rfl (t := 27) rfl ?_
  refine N_new (k := 56) hX cb4 q_218 q_219 q_138 [.null, .null, .null, .int 0, .int 0, .int 0, .int 0, .int 0, .int 0, .int 0, .int 0, .int 0, .int 0] dfX6 ⟨Nat.le_of_ble_eq_true rfl, Nat.le_of_ble_eq_true rfl⟩ dX12_init_27 (t := 30) rfl ?_
  refine J_dup hX dX12_init_30 rfl (t := 31) rfl ?_
  refine N_call hX hAO [] [.ref (gn G + 56), .ref (gn G + 0)] (cnX6_init (o := 56) nf_s) miX6_init q_221 rfl q_220 ⟨rfl, rfl, Nat.le_of_ble_eq_true rfl, Nat.le_of_ble_eq_true rfl⟩ rfl rfl (Nat.le_of_ble_eq_true rfl) ⟨Nat.le_of_ble_eq_true rfl, Nat.le_of_ble_eq_true rfl⟩ dX12_init_31 (t := 34) rfl (fun v9 => J_pure fun hv9 => ?_)
  subst hv9
  refine N_putF hX hnm cb9 (o := 0) (by decide) (fs := [.ref (gn G + 1), .null, .null, .ref (gn G + 6), .null, .null, .null, .null, .int 0]) (fs2 := [.ref (gn G + 1), .null, .null, .ref (gn G + 6), .ref (gn G + 56), .null, .null, .null, .int 0]) ((mkt_lo (by decide)).trans ((nf_o (by decide)).trans S2_0)) 4 (by decide) q_566 rfl rfl (ty := .object "EchoMarket$Market") rfl rfl rfl (Nat.le_of_ble_eq_true rfl) rfl dX12_init_34 (t := 37) rfl ?_
  refine N_eq (g := S3 G f) rfl ?_
  refine J_aload_n hX dX12_init_37 0 rfl (t := 38) rfl ?_
  refine N_new (k := 106) hX cb4 q_218 q_219 q_138 [.null, .null, .null, .int 0, .int 0, .int 0, .int 0, .int 0, .int 0, .int 0, .int 0, .int 0, .int 0] dfX6 ⟨Nat.le_of_ble_eq_true rfl, Nat.le_of_ble_eq_true rfl⟩ dX12_init_38 (t := 41) rfl ?_
  refine J_dup hX dX12_init_41 rfl (t := 42) rfl ?_
  refine N_call hX hAO [] [.ref (gn G + 106), .ref (gn G + 0)] (cnX6_init (o := 106) nf_s) miX6_init q_221 rfl q_220 ⟨rfl, rfl, Nat.le_of_ble_eq_true rfl, Nat.le_of_ble_eq_true rfl⟩ rfl rfl (Nat.le_of_ble_eq_true rfl) ⟨Nat.le_of_ble_eq_true rfl, Nat.le_of_ble_eq_true rfl⟩ dX12_init_42 (t := 45) rfl (fun v9 => J_pure fun hv9 => ?_)
  subst hv9
  refine N_putF hX hnm cb9 (o := 0) (by decide) (fs := [.ref (gn G + 1), .null, .null, .ref (gn G + 6), .ref (gn G + 56), .null, .null, .null, .int 0]) (fs2 := [.ref (gn G + 1), .null, .null, .ref (gn G + 6), .ref (gn G + 56), .ref (gn G + 106), .null, .null, .int 0]) ((mkt_lo (by decide)).trans ((nf_o (by decide)).trans S3_0)) 5 (by decide) q_567 rfl rfl (ty := .object "EchoMarket$Market") rfl rfl rfl (Nat.le_of_ble_eq_true rfl) rfl dX12_init_45 (t := 48) rfl ?_
  refine N_eq (g := S4 G f) rfl ?_
  refine J_aload_n hX dX12_init_48 0 rfl (t := 49) rfl ?_
  refine N_new (k := 156) hX cb2 q_427 q_428 q_142 [.null] dfX3 ⟨Nat.le_of_ble_eq_true rfl, Nat.le_of_ble_eq_true rfl⟩ dX12_init_49 (t := 52) rfl ?_
  refine J_dup hX dX12_init_52 rfl (t := 53) rfl ?_
  refine N_callN hX hAO [] [.ref (gn G + 156), .ref (gn G + 0)] (cnX3_init nf_s) miX3_init q_430 rfl (by simp [nestL]) ⟨rfl, rfl, Nat.le_of_ble_eq_true rfl, Nat.le_of_ble_eq_true rfl⟩ rfl rfl (Nat.le_of_ble_eq_true rfl) ⟨Nat.le_of_ble_eq_true rfl, Nat.le_of_ble_eq_true rfl⟩ dX12_init_53 (t := 56) rfl (fun v9 => J_pure fun hv9 => ?_)
  subst hv9
  refine N_putF hX hnm cb9 (o := 0) (by decide) (fs := [.ref (gn G + 1), .null, .null, .ref (gn G + 6), .ref (gn G + 56), .ref (gn G + 106), .null, .null, .int 0]) (fs2 := [.ref (gn G + 1), .ref (gn G + 156), .null, .ref (gn G + 6), .ref (gn G + 56), .ref (gn G + 106), .null, .null, .int 0]) ((descF_lo (by decide)).trans ((nf_o (by decide)).trans S4_0)) 1 (by decide) q_563 rfl rfl (ty := .object "EchoMarket$Description") rfl rfl rfl (Nat.le_of_ble_eq_true rfl) rfl dX12_init_56 (t := 59) rfl ?_
  refine N_eq (g := S5 G f) rfl ?_
  refine J_aload_n hX dX12_init_59 0 rfl (t := 60) rfl ?_
  refine N_new (k := 158) hX cb5 q_479 q_480 q_146 [.null, .null, .null, .null, .int 0, .int 0, .int 0] dfX7 ⟨Nat.le_of_ble_eq_true rfl, Nat.le_of_ble_eq_true rfl⟩ dX12_init_60 (t := 63) rfl ?_
  refine J_dup hX dX12_init_63 rfl (t := 64) rfl ?_
  refine N_call hX hAO [] [.ref (gn G + 158), .ref (gn G + 0)] (cnX7_init nf_s) miX7_init q_482 rfl q_481 ⟨rfl, rfl, Nat.le_of_ble_eq_true rfl, Nat.le_of_ble_eq_true rfl⟩ rfl rfl (Nat.le_of_ble_eq_true rfl) ⟨Nat.le_of_ble_eq_true rfl, Nat.le_of_ble_eq_true rfl⟩ dX12_init_64 (t := 67) rfl (fun v9 => J_pure fun hv9 => ?_)
  subst hv9
  refine N_putF hX hnm cb9 (o := 0) (by decide) (fs := [.ref (gn G + 1), .ref (gn G + 156), .null, .ref (gn G + 6), .ref (gn G + 56), .ref (gn G + 106), .null, .null, .int 0]) (fs2 := [.ref (gn G + 1), .ref (gn G + 156), .ref (gn G + 158), .ref (gn G + 6), .ref (gn G + 56), .ref (gn G + 106), .null, .null, .int 0]) ((sF_lo (by decide)).trans ((nf_o (by decide)).trans S5_0)) 2 (by decide) q_564 rfl rfl (ty := .object "EchoMarket$Script") rfl rfl rfl (Nat.le_of_ble_eq_true rfl) rfl dX12_init_67 (t := 70) rfl ?_
  refine N_eq (g := S6 G f) rfl ?_
  refine J_aload_n hX dX12_init_70 0 rfl (t := 71) rfl ?_
  refine N_new (k := 193) hX cb3 q_510 q_511 q_147 [.null, .int 0, .int 0] dfX5 ⟨Nat.le_of_ble_eq_true rfl, Nat.le_of_ble_eq_true rfl⟩ dX12_init_71 (t := 74) rfl ?_
  refine J_dup hX dX12_init_74 rfl (t := 75) rfl ?_
  refine N_call hX hAO [] [.ref (gn G + 193), .ref (gn G + 0)] (cnX5_init nf_s) miX5_init q_513 rfl q_512 ⟨rfl, rfl, Nat.le_of_ble_eq_true rfl, Nat.le_of_ble_eq_true rfl⟩ rfl rfl (Nat.le_of_ble_eq_true rfl) ⟨Nat.le_of_ble_eq_true rfl, Nat.le_of_ble_eq_true rfl⟩ dX12_init_75 (t := 78) rfl (fun v9 => J_pure fun hv9 => ?_)
  subst hv9
  refine N_putF hX hnm cb9 (o := 0) (by decide) (fs := [.ref (gn G + 1), .ref (gn G + 156), .ref (gn G + 158), .ref (gn G + 6), .ref (gn G + 56), .ref (gn G + 106), .null, .null, .int 0]) (fs2 := [.ref (gn G + 1), .ref (gn G + 156), .ref (gn G + 158), .ref (gn G + 6), .ref (gn G + 56), .ref (gn G + 106), .ref (gn G + 193), .null, .int 0]) ((h6_lo (by decide)).trans ((nf_o (by decide)).trans S6_0)) 6 (by decide) q_568 rfl rfl (ty := .object "EchoMarket$History") rfl rfl rfl (Nat.le_of_ble_eq_true rfl) rfl dX12_init_78 (t := 81) rfl ?_
  refine N_eq (g := S7 G f) rfl ?_
  refine J_aload_n hX dX12_init_81 0 rfl (t := 82) rfl ?_
  refine N_new (k := 495) hX cb11 q_530 q_531 q_149 [.null, .int 0, .int 0, .int 0] dfJ4 ⟨Nat.le_of_ble_eq_true rfl, Nat.le_of_ble_eq_true rfl⟩ dX12_init_82 (t := 85) rfl ?_
  refine J_dup hX dX12_init_85 rfl (t := 86) rfl ?_
  refine N_call hX hAO [] [.ref (gn G + 495), .ref (gn G + 0)] (cnJ4_init_da8c8 nf_s) miJ4_init_da8c8 q_533 rfl q_532 ⟨rfl, rfl, Nat.le_of_ble_eq_true rfl, Nat.le_of_ble_eq_true rfl⟩ rfl rfl (Nat.le_of_ble_eq_true rfl) ⟨Nat.le_of_ble_eq_true rfl, Nat.le_of_ble_eq_true rfl⟩ dX12_init_86 (t := 89) rfl (fun v9 => J_pure fun hv9 => ?_)
  subst hv9
  refine N_putF hX hnm cb9 (o := 0) (by decide) (fs := [.ref (gn G + 1), .ref (gn G + 156), .ref (gn G + 158), .ref (gn G + 6), .ref (gn G + 56), .ref (gn G + 106), .ref (gn G + 193), .null, .int 0]) (fs2 := [.ref (gn G + 1), .ref (gn G + 156), .ref (gn G + 158), .ref (gn G + 6), .ref (gn G + 56), .ref (gn G + 106), .ref (gn G + 193), .ref (gn G + 495), .int 0]) ((sbF_lo (by decide)).trans ((nf_o (by decide)).trans S7_0)) 7 (by decide) q_569 rfl rfl (ty := .object "java/lang/StringBuilder") rfl rfl rfl (Nat.le_of_ble_eq_true rfl) rfl dX12_init_89 (t := 92) rfl ?_
  refine N_eq (g := S8 G f) rfl ?_
  refine J_aload_n hX dX12_init_92 0 rfl (t := 93) rfl ?_
  refine J_iconst (v := 0) hX dX12_init_93 (by decide) (t := 94) rfl ?_
  refine N_put hX cb9 (o := 0) (by decide) (fs := [.ref (gn G + 1), .ref (gn G + 156), .ref (gn G + 158), .ref (gn G + 6), .ref (gn G + 56), .ref (gn G + 106), .ref (gn G + 193), .ref (gn G + 495), .int 0]) (fs2 := [.ref (gn G + 1), .ref (gn G + 156), .ref (gn G + 158), .ref (gn G + 6), .ref (gn G + 56), .ref (gn G + 106), .ref (gn G + 193), .ref (gn G + 495), .int 0]) S8_0 8 (by decide) q_570 rfl (ty := .boolean) rfl rfl rfl (Nat.le_of_ble_eq_true rfl) rfl dX12_init_94 (t := 97) rfl ?_
  refine N_eq (g := S8 G f) (nf_self S8_0) ?_
  refine J_wid (k := 496) (n := 8300) (by decide) (by decide) ?_
  exact J_vretP hX hR hlk (fun H h => ⟨rfl, h⟩) dX12_init_97
theorem miX13_init : MI yX13_init cX13_init 1 none 0 := ⟨q_1961, q_152, by decide +kernel, by decide +kernel, by decide +kernel, by decide +kernel⟩
abbrev rmB9 : Room := { frames := 0, cells := 0, slots := 0, locals := 0 }
theorem LX13_begins_n {G : GG} {l : Launch} {p : Program} {e : Env} {s : State} {m : MethodId} {args : Array Value} {below : List Frame} {meth : Method} {c : Code} (hX : FX G RX13 cX13_begins 2 p s m args c) (hR : meth.sig.returnType = none) (hlk : meth.locks = false) {f : Nat → va_E} (hf : f 497 = .inr (10, [.int 0, .ref (gn G + 498), .int 0, .int 0, .int 0, .int 0, .int 0, .int 0, .int 0, .int (-1), .int 0, .int (-1), .long 0, .ref (gn G + 499), .ref (gn G + 500), .ref (gn G + 501), .ref (gn G + 502), .ref (gn G + 503), .int 0, .int 0, .int 0, .ref (gn G + 504), .ref (gn G + 505), .ref (gn G + 506), .ref (gn G + 507), .ref (gn G + 508), .ref (gn G + 509), .ref (gn G + 510), .int 0, .int 0, .int 0, .int 0, .ref (gn G + 511), .int 0])) (hs : f 499 = aI G 390 (fun _ => 0)) : ∀ (n i : Nat), i + n = 390 → J G p l e rmB9 s m args below meth c 2 0 0 (MQ below (QP G (fun v H => v = none ∧ NB G 512 f H)) args s 0 0 (gA G)) (NB G 512 f) 2 [(1, .int (nI i)), (0, .ref (gn G + 497))] [] := by
  intro n
  induction n with
  | zero =>
    intro i h1
    obtain rfl : i = 390 := by omega
    refine J_iload_n hX dX13_begins_2 0 rfl (t := 3) rfl ?_
    refine J_sipush (v := 390) hX dX13_begins_3 (by decide) (t := 6) rfl ?_
    refine J_icmp_ge (tgt := 22) hX dX13_begins_6 (by decide) (t := 9) rfl (fun z => ?_) (fun z => absurd (by decide) z)
    exact J_vretP hX hR hlk (fun H h => ⟨rfl, h⟩) dX13_begins_22
  | succ n ih =>
    intro i h1
    have hi : i < 390 := by omega
    refine J_iload_n hX dX13_begins_2 0 rfl (t := 3) rfl ?_
    refine J_sipush (v := 390) hX dX13_begins_3 (by decide) (t := 6) rfl ?_
    refine J_icmp_ge (tgt := 22) hX dX13_begins_6 (by decide) (t := 9) rfl (fun z => absurd z (show ¬ nI 390 ≤ nI i from nI_ge hi (by decide))) (fun z => ?_)
    refine J_aload_n hX dX13_begins_9 1 rfl (t := 10) rfl ?_
    refine N_get hX cb10 (o := 497) (by decide) hf 13 (by decide) q_1980 rfl dX13_begins_10 (t := 13) rfl ?_
    refine J_iload_n hX dX13_begins_13 0 rfl (t := 14) rfl ?_
    refine J_iconst (v := 0) hX dX13_begins_14 (by decide) (t := 15) rfl ?_
    refine N_iast (o := 499) (n := 390) (a := fun _ => 0) hX (by decide) hs (inbN (by omega) (by decide)) dX13_begins_15 (t := 16) rfl ?_
    refine N_eq (g := f) (nf_self (by rw [hs]; congr 3; funext x; unfold upd; split <;> rfl)) ?_
    refine J_iinc (v := nI (i + 1)) (lc2 := [(1, .int (nI (i + 1))), (0, .ref (gn G + 497))]) hX dX13_begins_16 0 rfl (nI_1 i) (Nat.le_of_ble_eq_true rfl) rfl (t := 19) rfl ?_
    refine J_goto (tgt := 2) hX dX13_begins_19 (by decide) ?_
    exact ih (i + 1) (by omega)
theorem cnX13_begins {G : GG} {l : Launch} {f : Nat → va_E} (hf : f 497 = .inr (10, [.int 0, .ref (gn G + 498), .int 0, .int 0, .int 0, .int 0, .int 0, .int 0, .int 0, .int (-1), .int 0, .int (-1), .long 0, .ref (gn G + 499), .ref (gn G + 500), .ref (gn G + 501), .ref (gn G + 502), .ref (gn G + 503), .int 0, .int 0, .int 0, .ref (gn G + 504), .ref (gn G + 505), .ref (gn G + 506), .ref (gn G + 507), .ref (gn G + 508), .ref (gn G + 509), .ref (gn G + 510), .int 0, .int 0, .int 0, .int 0, .ref (gn G + 511), .int 0])) (hs : f 499 = aI G 390 (fun _ => 0)) : CTN G l yX13_begins cX13_begins 2 none rmB9 0 0 [.ref (gn G + 497)] (NB G 512 f) (fun v H => v = none ∧ NB G 512 f H) := by
  refine CTN.of miX13_begins [(0, .ref (gn G + 497))] rfl (Nat.le_of_ble_eq_true rfl) ?_
  intro p e s m args below meth c hX hAO hnm hR hlk
  have hX : FX G RX13 cX13_begins 2 p s m args c := hX
  refine J_iconst (v := 0) hX dX13_begins_0 (by decide) (t := 1) rfl ?_
  refine J_istore_n (lc2 := [(1, .int 0), (0, .ref (gn G + 497))]) hX dX13_begins_1 rfl (Nat.le_of_ble_eq_true rfl) rfl (t := 2) rfl ?_
  exact LX13_begins_n hX hR hlk hf hs 390 0 rfl
abbrev rmX13_init : Room := { frames := 2, cells := 14, slots := 4864, locals := 80 }
def mF (G : GG) (f : Nat → va_E) : Nat → va_E := nf (nf (nf (nf (nf (nf (nf (nf (nf (nf (nf (nf (nf (nf (nf (nf (nf (nf (nf (nf (nf (nf (nf (nf (nf (nf (nf (nf (nf (nf f 498 (aI G 600 (fun _ => 0))) 497 (.inr (10, [.int 0, .ref (gn G + 498), .int 0, .int 0, .int 0, .int 0, .int 0, .int 0, .int 0, .int 0, .int 0, .int 0, .long 0, .null, .null, .null, .null, .null, .int 0, .int 0, .int 0, .null, .null, .null, .null, .null, .null, .null, .int 0, .int 0, .int 0, .int 0, .null, .int 0]))) 497 (.inr (10, [.int 0, .ref (gn G + 498), .int 0, .int 0, .int 0, .int 0, .int 0, .int 0, .int 0, .int (-1), .int 0, .int 0, .long 0, .null, .null, .null, .null, .null, .int 0, .int 0, .int 0, .null, .null, .null, .null, .null, .null, .null, .int 0, .int 0, .int 0, .int 0, .null, .int 0]))) 497 (.inr (10, [.int 0, .ref (gn G + 498), .int 0, .int 0, .int 0, .int 0, .int 0, .int 0, .int 0, .int (-1), .int 0, .int (-1), .long 0, .null, .null, .null, .null, .null, .int 0, .int 0, .int 0, .null, .null, .null, .null, .null, .null, .null, .int 0, .int 0, .int 0, .int 0, .null, .int 0]))) 499 (aI G 390 (fun _ => 0))) 497 (.inr (10, [.int 0, .ref (gn G + 498), .int 0, .int 0, .int 0, .int 0, .int 0, .int 0, .int 0, .int (-1), .int 0, .int (-1), .long 0, .ref (gn G + 499), .null, .null, .null, .null, .int 0, .int 0, .int 0, .null, .null, .null, .null, .null, .null, .null, .int 0, .int 0, .int 0, .int 0, .null, .int 0]))) 500 (aI G 390 (fun _ => 0))) 497 (.inr (10, [.int 0, .ref (gn G + 498), .int 0, .int 0, .int 0, .int 0, .int 0, .int 0, .int 0, .int (-1), .int 0, .int (-1), .long 0, .ref (gn G + 499), .ref (gn G + 500), .null, .null, .null, .int 0, .int 0, .int 0, .null, .null, .null, .null, .null, .null, .null, .int 0, .int 0, .int 0, .int 0, .null, .int 0]))) 501 (aI G 390 (fun _ => 0))) 497 (.inr (10, [.int 0, .ref (gn G + 498), .int 0, .int 0, .int 0, .int 0, .int 0, .int 0, .int 0, .int (-1), .int 0, .int (-1), .long 0, .ref (gn G + 499), .ref (gn G + 500), .ref (gn G + 501), .null, .null, .int 0, .int 0, .int 0, .null, .null, .null, .null, .null, .null, .null, .int 0, .int 0, .int 0, .int 0, .null, .int 0]))) 502 (aI G 390 (fun _ => 0))) 497 (.inr (10, [.int 0, .ref (gn G + 498), .int 0, .int 0, .int 0, .int 0, .int 0, .int 0, .int 0, .int (-1), .int 0, .int (-1), .long 0, .ref (gn G + 499), .ref (gn G + 500), .ref (gn G + 501), .ref (gn G + 502), .null, .int 0, .int 0, .int 0, .null, .null, .null, .null, .null, .null, .null, .int 0, .int 0, .int 0, .int 0, .null, .int 0]))) 503 (aI G 2340 (fun _ => 0))) 497 (.inr (10, [.int 0, .ref (gn G + 498), .int 0, .int 0, .int 0, .int 0, .int 0, .int 0, .int 0, .int (-1), .int 0, .int (-1), .long 0, .ref (gn G + 499), .ref (gn G + 500), .ref (gn G + 501), .ref (gn G + 502), .ref (gn G + 503), .int 0, .int 0, .int 0, .null, .null, .null, .null, .null, .null, .null, .int 0, .int 0, .int 0, .int 0, .null, .int 0]))) 504 (aI G 60 (fun _ => 0))) 497 (.inr (10, [.int 0, .ref (gn G + 498), .int 0, .int 0, .int 0, .int 0, .int 0, .int 0, .int 0, .int (-1), .int 0, .int (-1), .long 0, .ref (gn G + 499), .ref (gn G + 500), .ref (gn G + 501), .ref (gn G + 502), .ref (gn G + 503), .int 0, .int 0, .int 0, .ref (gn G + 504), .null, .null, .null, .null, .null, .null, .int 0, .int 0, .int 0, .int 0, .null, .int 0]))) 505 (aI G 60 (fun _ => 0))) 497 (.inr (10, [.int 0, .ref (gn G + 498), .int 0, .int 0, .int 0, .int 0, .int 0, .int 0, .int 0, .int (-1), .int 0, .int (-1), .long 0, .ref (gn G + 499), .ref (gn G + 500), .ref (gn G + 501), .ref (gn G + 502), .ref (gn G + 503), .int 0, .int 0, .int 0, .ref (gn G + 504), .ref (gn G + 505), .null, .null, .null, .null, .null, .int 0, .int 0, .int 0, .int 0, .null, .int 0]))) 506 (aI G 60 (fun _ => 0))) 497 (.inr (10, [.int 0, .ref (gn G + 498), .int 0, .int 0, .int 0, .int 0, .int 0, .int 0, .int 0, .int (-1), .int 0, .int (-1), .long 0, .ref (gn G + 499), .ref (gn G + 500), .ref (gn G + 501), .ref (gn G + 502), .ref (gn G + 503), .int 0, .int 0, .int 0, .ref (gn G + 504), .ref (gn G + 505), .ref (gn G + 506), .null, .null, .null, .null, .int 0, .int 0, .int 0, .int 0, .null, .int 0]))) 507 (aI G 60 (fun _ => 0))) 497 (.inr (10, [.int 0, .ref (gn G + 498), .int 0, .int 0, .int 0, .int 0, .int 0, .int 0, .int 0, .int (-1), .int 0, .int (-1), .long 0, .ref (gn G + 499), .ref (gn G + 500), .ref (gn G + 501), .ref (gn G + 502), .ref (gn G + 503), .int 0, .int 0, .int 0, .ref (gn G + 504), .ref (gn G + 505), .ref (gn G + 506), .ref (gn G + 507), .null, .null, .null, .int 0, .int 0, .int 0, .int 0, .null, .int 0]))) 508 (aI G 60 (fun _ => 0))) 497 (.inr (10, [.int 0, .ref (gn G + 498), .int 0, .int 0, .int 0, .int 0, .int 0, .int 0, .int 0, .int (-1), .int 0, .int (-1), .long 0, .ref (gn G + 499), .ref (gn G + 500), .ref (gn G + 501), .ref (gn G + 502), .ref (gn G + 503), .int 0, .int 0, .int 0, .ref (gn G + 504), .ref (gn G + 505), .ref (gn G + 506), .ref (gn G + 507), .ref (gn G + 508), .null, .null, .int 0, .int 0, .int 0, .int 0, .null, .int 0]))) 509 (aI G 2 (fun _ => 0))) 497 (.inr (10, [.int 0, .ref (gn G + 498), .int 0, .int 0, .int 0, .int 0, .int 0, .int 0, .int 0, .int (-1), .int 0, .int (-1), .long 0, .ref (gn G + 499), .ref (gn G + 500), .ref (gn G + 501), .ref (gn G + 502), .ref (gn G + 503), .int 0, .int 0, .int 0, .ref (gn G + 504), .ref (gn G + 505), .ref (gn G + 506), .ref (gn G + 507), .ref (gn G + 508), .ref (gn G + 509), .null, .int 0, .int 0, .int 0, .int 0, .null, .int 0]))) 510 (aI G 2 (fun _ => 0))) 497 (.inr (10, [.int 0, .ref (gn G + 498), .int 0, .int 0, .int 0, .int 0, .int 0, .int 0, .int 0, .int (-1), .int 0, .int (-1), .long 0, .ref (gn G + 499), .ref (gn G + 500), .ref (gn G + 501), .ref (gn G + 502), .ref (gn G + 503), .int 0, .int 0, .int 0, .ref (gn G + 504), .ref (gn G + 505), .ref (gn G + 506), .ref (gn G + 507), .ref (gn G + 508), .ref (gn G + 509), .ref (gn G + 510), .int 0, .int 0, .int 0, .int 0, .null, .int 0]))) 511 (aI G 60 (fun _ => 0))) 497 (.inr (10, [.int 0, .ref (gn G + 498), .int 0, .int 0, .int 0, .int 0, .int 0, .int 0, .int 0, .int (-1), .int 0, .int (-1), .long 0, .ref (gn G + 499), .ref (gn G + 500), .ref (gn G + 501), .ref (gn G + 502), .ref (gn G + 503), .int 0, .int 0, .int 0, .ref (gn G + 504), .ref (gn G + 505), .ref (gn G + 506), .ref (gn G + 507), .ref (gn G + 508), .ref (gn G + 509), .ref (gn G + 510), .int 0, .int 0, .int 0, .int 0, .ref (gn G + 511), .int 0]))
theorem mF_497 {G : GG} {f : Nat → va_E} : mF G f 497 = .inr (10, [.int 0, .ref (gn G + 498), .int 0, .int 0, .int 0, .int 0, .int 0, .int 0, .int 0, .int (-1), .int 0, .int (-1), .long 0, .ref (gn G + 499), .ref (gn G + 500), .ref (gn G + 501), .ref (gn G + 502), .ref (gn G + 503), .int 0, .int 0, .int 0, .ref (gn G + 504), .ref (gn G + 505), .ref (gn G + 506), .ref (gn G + 507), .ref (gn G + 508), .ref (gn G + 509), .ref (gn G + 510), .int 0, .int 0, .int 0, .int 0, .ref (gn G + 511), .int 0]) := nf_s
theorem mF_498 {G : GG} {f : Nat → va_E} : mF G f 498 = aI G 600 (fun _ => 0) := (nf_o (by omega)).trans ((nf_o (by omega)).trans ((nf_o (by omega)).trans ((nf_o (by omega)).trans ((nf_o (by omega)).trans ((nf_o (by omega)).trans ((nf_o (by omega)).trans ((nf_o (by omega)).trans ((nf_o (by omega)).trans ((nf_o (by omega)).trans ((nf_o (by omega)).trans ((nf_o (by omega)).trans ((nf_o (by omega)).trans ((nf_o (by omega)).trans ((nf_o (by omega)).trans ((nf_o (by omega)).trans ((nf_o (by omega)).trans ((nf_o (by omega)).trans ((nf_o (by omega)).trans ((nf_o (by omega)).trans ((nf_o (by omega)).trans ((nf_o (by omega)).trans ((nf_o (by omega)).trans ((nf_o (by omega)).trans ((nf_o (by omega)).trans ((nf_o (by omega)).trans ((nf_o (by omega)).trans ((nf_o (by omega)).trans ((nf_o (by omega)).trans (nf_s)))))))))))))))))))))))))))))
theorem mF_499 {G : GG} {f : Nat → va_E} : mF G f 499 = aI G 390 (fun _ => 0) := (nf_o (by omega)).trans ((nf_o (by omega)).trans ((nf_o (by omega)).trans ((nf_o (by omega)).trans ((nf_o (by omega)).trans ((nf_o (by omega)).trans ((nf_o (by omega)).trans ((nf_o (by omega)).trans ((nf_o (by omega)).trans ((nf_o (by omega)).trans ((nf_o (by omega)).trans ((nf_o (by omega)).trans ((nf_o (by omega)).trans ((nf_o (by omega)).trans ((nf_o (by omega)).trans ((nf_o (by omega)).trans ((nf_o (by omega)).trans ((nf_o (by omega)).trans ((nf_o (by omega)).trans ((nf_o (by omega)).trans ((nf_o (by omega)).trans ((nf_o (by omega)).trans ((nf_o (by omega)).trans ((nf_o (by omega)).trans ((nf_o (by omega)).trans (nf_s)))))))))))))))))))))))))
theorem mF_500 {G : GG} {f : Nat → va_E} : mF G f 500 = aI G 390 (fun _ => 0) := (nf_o (by omega)).trans ((nf_o (by omega)).trans ((nf_o (by omega)).trans ((nf_o (by omega)).trans ((nf_o (by omega)).trans ((nf_o (by omega)).trans ((nf_o (by omega)).trans ((nf_o (by omega)).trans ((nf_o (by omega)).trans ((nf_o (by omega)).trans ((nf_o (by omega)).trans ((nf_o (by omega)).trans ((nf_o (by omega)).trans ((nf_o (by omega)).trans ((nf_o (by omega)).trans ((nf_o (by omega)).trans ((nf_o (by omega)).trans ((nf_o (by omega)).trans ((nf_o (by omega)).trans ((nf_o (by omega)).trans ((nf_o (by omega)).trans ((nf_o (by omega)).trans ((nf_o (by omega)).trans (nf_s)))))))))))))))))))))))
theorem mF_501 {G : GG} {f : Nat → va_E} : mF G f 501 = aI G 390 (fun _ => 0) := (nf_o (by omega)).trans ((nf_o (by omega)).trans ((nf_o (by omega)).trans ((nf_o (by omega)).trans ((nf_o (by omega)).trans ((nf_o (by omega)).trans ((nf_o (by omega)).trans ((nf_o (by omega)).trans ((nf_o (by omega)).trans ((nf_o (by omega)).trans ((nf_o (by omega)).trans ((nf_o (by omega)).trans ((nf_o (by omega)).trans ((nf_o (by omega)).trans ((nf_o (by omega)).trans ((nf_o (by omega)).trans ((nf_o (by omega)).trans ((nf_o (by omega)).trans ((nf_o (by omega)).trans ((nf_o (by omega)).trans ((nf_o (by omega)).trans (nf_s)))))))))))))))))))))
theorem mF_502 {G : GG} {f : Nat → va_E} : mF G f 502 = aI G 390 (fun _ => 0) := (nf_o (by omega)).trans ((nf_o (by omega)).trans ((nf_o (by omega)).trans ((nf_o (by omega)).trans ((nf_o (by omega)).trans ((nf_o (by omega)).trans ((nf_o (by omega)).trans ((nf_o (by omega)).trans ((nf_o (by omega)).trans ((nf_o (by omega)).trans ((nf_o (by omega)).trans ((nf_o (by omega)).trans ((nf_o (by omega)).trans ((nf_o (by omega)).trans ((nf_o (by omega)).trans ((nf_o (by omega)).trans ((nf_o (by omega)).trans ((nf_o (by omega)).trans ((nf_o (by omega)).trans (nf_s)))))))))))))))))))
theorem mF_503 {G : GG} {f : Nat → va_E} : mF G f 503 = aI G 2340 (fun _ => 0) := (nf_o (by omega)).trans ((nf_o (by omega)).trans ((nf_o (by omega)).trans ((nf_o (by omega)).trans ((nf_o (by omega)).trans ((nf_o (by omega)).trans ((nf_o (by omega)).trans ((nf_o (by omega)).trans ((nf_o (by omega)).trans ((nf_o (by omega)).trans ((nf_o (by omega)).trans ((nf_o (by omega)).trans ((nf_o (by omega)).trans ((nf_o (by omega)).trans ((nf_o (by omega)).trans ((nf_o (by omega)).trans ((nf_o (by omega)).trans (nf_s)))))))))))))))))
theorem mF_504 {G : GG} {f : Nat → va_E} : mF G f 504 = aI G 60 (fun _ => 0) := (nf_o (by omega)).trans ((nf_o (by omega)).trans ((nf_o (by omega)).trans ((nf_o (by omega)).trans ((nf_o (by omega)).trans ((nf_o (by omega)).trans ((nf_o (by omega)).trans ((nf_o (by omega)).trans ((nf_o (by omega)).trans ((nf_o (by omega)).trans ((nf_o (by omega)).trans ((nf_o (by omega)).trans ((nf_o (by omega)).trans ((nf_o (by omega)).trans ((nf_o (by omega)).trans (nf_s)))))))))))))))
theorem mF_505 {G : GG} {f : Nat → va_E} : mF G f 505 = aI G 60 (fun _ => 0) := (nf_o (by omega)).trans ((nf_o (by omega)).trans ((nf_o (by omega)).trans ((nf_o (by omega)).trans ((nf_o (by omega)).trans ((nf_o (by omega)).trans ((nf_o (by omega)).trans ((nf_o (by omega)).trans ((nf_o (by omega)).trans ((nf_o (by omega)).trans ((nf_o (by omega)).trans ((nf_o (by omega)).trans ((nf_o (by omega)).trans (nf_s)))))))))))))
theorem mF_506 {G : GG} {f : Nat → va_E} : mF G f 506 = aI G 60 (fun _ => 0) := (nf_o (by omega)).trans ((nf_o (by omega)).trans ((nf_o (by omega)).trans ((nf_o (by omega)).trans ((nf_o (by omega)).trans ((nf_o (by omega)).trans ((nf_o (by omega)).trans ((nf_o (by omega)).trans ((nf_o (by omega)).trans ((nf_o (by omega)).trans ((nf_o (by omega)).trans (nf_s)))))))))))
theorem mF_507 {G : GG} {f : Nat → va_E} : mF G f 507 = aI G 60 (fun _ => 0) := (nf_o (by omega)).trans ((nf_o (by omega)).trans ((nf_o (by omega)).trans ((nf_o (by omega)).trans ((nf_o (by omega)).trans ((nf_o (by omega)).trans ((nf_o (by omega)).trans ((nf_o (by omega)).trans ((nf_o (by omega)).trans (nf_s)))))))))
theorem mF_508 {G : GG} {f : Nat → va_E} : mF G f 508 = aI G 60 (fun _ => 0) := (nf_o (by omega)).trans ((nf_o (by omega)).trans ((nf_o (by omega)).trans ((nf_o (by omega)).trans ((nf_o (by omega)).trans ((nf_o (by omega)).trans ((nf_o (by omega)).trans (nf_s)))))))
theorem mF_509 {G : GG} {f : Nat → va_E} : mF G f 509 = aI G 2 (fun _ => 0) := (nf_o (by omega)).trans ((nf_o (by omega)).trans ((nf_o (by omega)).trans ((nf_o (by omega)).trans ((nf_o (by omega)).trans (nf_s)))))
theorem mF_510 {G : GG} {f : Nat → va_E} : mF G f 510 = aI G 2 (fun _ => 0) := (nf_o (by omega)).trans ((nf_o (by omega)).trans ((nf_o (by omega)).trans (nf_s)))
theorem mF_511 {G : GG} {f : Nat → va_E} : mF G f 511 = aI G 60 (fun _ => 0) := (nf_o (by omega)).trans (nf_s)
theorem mF_lo {G : GG} {f : Nat → va_E} {x : Nat} (h : x < 497) : mF G f x = f x := by
  unfold mF
  rw [nf_o (by omega), nf_o (by omega), nf_o (by omega), nf_o (by omega), nf_o (by omega), nf_o (by omega), nf_o (by omega), nf_o (by omega), nf_o (by omega), nf_o (by omega), nf_o (by omega), nf_o (by omega), nf_o (by omega), nf_o (by omega), nf_o (by omega), nf_o (by omega), nf_o (by omega), nf_o (by omega), nf_o (by omega), nf_o (by omega), nf_o (by omega), nf_o (by omega), nf_o (by omega), nf_o (by omega), nf_o (by omega), nf_o (by omega), nf_o (by omega), nf_o (by omega), nf_o (by omega), nf_o (by omega)]
set_option maxHeartbeats 4000000 in
theorem cnX13_init {G : GG} {l : Launch} {f : Nat → va_E} (hf : f 497 = .inr (10, [.int 0, .null, .int 0, .int 0, .int 0, .int 0, .int 0, .int 0, .int 0, .int 0, .int 0, .int 0, .long 0, .null, .null, .null, .null, .null, .int 0, .int 0, .int 0, .null, .null, .null, .null, .null, .null, .null, .int 0, .int 0, .int 0, .int 0, .null, .int 0])) : CTN G l yX13_init cX13_init 1 none rmX13_init 14 4864 [.ref (gn G + 497)] (NB G 498 f) (fun v H => v = none ∧ NB G 512 (mF G f) H) := by
  refine CTN.of miX13_init [(0, .ref (gn G + 497))] rfl (Nat.le_of_ble_eq_true rfl) ?_
  intro p e s m args below meth c hX hAO hnm hR hlk
  have hX : FX G RX13 cX13_init 1 p s m args c := hX
  have hnm : meth.name = "<init>" := hnm
  refine J_aload_n hX dX13_init_0 0 rfl (t := 1) rfl ?_
  refine N_obj hX q_1962 ⟨Nat.le_of_ble_eq_true rfl, Nat.le_of_ble_eq_true rfl⟩ dX13_init_1 (t := 4) rfl ?_
  refine J_aload_n hX dX13_init_4 0 rfl (t := 5) rfl ?_
  refine J_sipush (v := 600) hX dX13_init_5 (by decide) (t := 8) rfl ?_
  refine N_newI (k := 498) (N := 600) hX (by decide) (by decide) (Nat.le_of_ble_eq_true rfl) q_216 ⟨Nat.le_of_ble_eq_true rfl, Nat.le_of_ble_eq_true rfl⟩ dX13_init_8 (t := 10) rfl ?_
  refine N_putF hX hnm cb10 (o := 497) (by omega) (fs := [.int 0, .null, .int 0, .int 0, .int 0, .int 0, .int 0, .int 0, .int 0, .int 0, .int 0, .int 0, .long 0, .null, .null, .null, .null, .null, .int 0, .int 0, .int 0, .null, .null, .null, .null, .null, .null, .null, .int 0, .int 0, .int 0, .int 0, .null, .int 0]) (fs2 := [.int 0, .ref (gn G + 498), .int 0, .int 0, .int 0, .int 0, .int 0, .int 0, .int 0, .int 0, .int 0, .int 0, .long 0, .null, .null, .null, .null, .null, .int 0, .int 0, .int 0, .null, .null, .null, .null, .null, .null, .null, .int 0, .int 0, .int 0, .int 0, .null, .int 0]) ((nf_o (by omega)).trans (hf)) 1 (by decide) q_1968 rfl rfl (ty := .array .int) rfl rfl rfl (Nat.le_of_ble_eq_true rfl) rfl dX13_init_10 (t := 13) rfl ?_
  refine J_aload_n hX dX13_init_13 0 rfl (t := 14) rfl ?_
  refine J_iconst (v := (-1)) hX dX13_init_14 (by decide) (t := 15) rfl ?_
  refine N_put hX cb10 (o := 497) (by omega) (fs := [.int 0, .ref (gn G + 498), .int 0, .int 0, .int 0, .int 0, .int 0, .int 0, .int 0, .int 0, .int 0, .int 0, .long 0, .null, .null, .null, .null, .null, .int 0, .int 0, .int 0, .null, .null, .null, .null, .null, .null, .null, .int 0, .int 0, .int 0, .int 0, .null, .int 0]) (fs2 := [.int 0, .ref (gn G + 498), .int 0, .int 0, .int 0, .int 0, .int 0, .int 0, .int 0, .int (-1), .int 0, .int 0, .long 0, .null, .null, .null, .null, .null, .int 0, .int 0, .int 0, .null, .null, .null, .null, .null, .null, .null, .int 0, .int 0, .int 0, .int 0, .null, .int 0]) (nf_s) 9 (by decide) q_1976 rfl (ty := .int) rfl rfl rfl (Nat.le_of_ble_eq_true rfl) rfl dX13_init_15 (t := 18) rfl ?_
  refine J_aload_n hX dX13_init_18 0 rfl (t := 19) rfl ?_
  refine J_iconst (v := (-1)) hX dX13_init_19 (by decide) (t := 20) rfl ?_
  refine N_put hX cb10 (o := 497) (by omega) (fs := [.int 0, .ref (gn G + 498), .int 0, .int 0, .int 0, .int 0, .int 0, .int 0, .int 0, .int (-1), .int 0, .int 0, .long 0, .null, .null, .null, .null, .null, .int 0, .int 0, .int 0, .null, .null, .null, .null, .null, .null, .null, .int 0, .int 0, .int 0, .int 0, .null, .int 0]) (fs2 := [.int 0, .ref (gn G + 498), .int 0, .int 0, .int 0, .int 0, .int 0, .int 0, .int 0, .int (-1), .int 0, .int (-1), .long 0, .null, .null, .null, .null, .null, .int 0, .int 0, .int 0, .null, .null, .null, .null, .null, .null, .null, .int 0, .int 0, .int 0, .int 0, .null, .int 0]) (nf_s) 11 (by decide) q_1978 rfl (ty := .int) rfl rfl rfl (Nat.le_of_ble_eq_true rfl) rfl dX13_init_20 (t := 23) rfl ?_
  refine J_aload_n hX dX13_init_23 0 rfl (t := 24) rfl ?_
  refine J_sipush (v := 390) hX dX13_init_24 (by decide) (t := 27) rfl ?_
  refine N_newI (k := 499) (N := 390) hX (by decide) (by decide) (Nat.le_of_ble_eq_true rfl) q_216 ⟨Nat.le_of_ble_eq_true rfl, Nat.le_of_ble_eq_true rfl⟩ dX13_init_27 (t := 29) rfl ?_
  refine N_putF hX hnm cb10 (o := 497) (by omega) (fs := [.int 0, .ref (gn G + 498), .int 0, .int 0, .int 0, .int 0, .int 0, .int 0, .int 0, .int (-1), .int 0, .int (-1), .long 0, .null, .null, .null, .null, .null, .int 0, .int 0, .int 0, .null, .null, .null, .null, .null, .null, .null, .int 0, .int 0, .int 0, .int 0, .null, .int 0]) (fs2 := [.int 0, .ref (gn G + 498), .int 0, .int 0, .int 0, .int 0, .int 0, .int 0, .int 0, .int (-1), .int 0, .int (-1), .long 0, .ref (gn G + 499), .null, .null, .null, .null, .int 0, .int 0, .int 0, .null, .null, .null, .null, .null, .null, .null, .int 0, .int 0, .int 0, .int 0, .null, .int 0]) ((nf_o (by omega)).trans (nf_s)) 13 (by decide) q_1980 rfl rfl (ty := .array .int) rfl rfl rfl (Nat.le_of_ble_eq_true rfl) rfl dX13_init_29 (t := 32) rfl ?_
  refine J_aload_n hX dX13_init_32 0 rfl (t := 33) rfl ?_
  refine J_sipush (v := 390) hX dX13_init_33 (by decide) (t := 36) rfl ?_
  refine N_newI (k := 500) (N := 390) hX (by decide) (by decide) (Nat.le_of_ble_eq_true rfl) q_216 ⟨Nat.le_of_ble_eq_true rfl, Nat.le_of_ble_eq_true rfl⟩ dX13_init_36 (t := 38) rfl ?_
  refine N_putF hX hnm cb10 (o := 497) (by omega) (fs := [.int 0, .ref (gn G + 498), .int 0, .int 0, .int 0, .int 0, .int 0, .int 0, .int 0, .int (-1), .int 0, .int (-1), .long 0, .ref (gn G + 499), .null, .null, .null, .null, .int 0, .int 0, .int 0, .null, .null, .null, .null, .null, .null, .null, .int 0, .int 0, .int 0, .int 0, .null, .int 0]) (fs2 := [.int 0, .ref (gn G + 498), .int 0, .int 0, .int 0, .int 0, .int 0, .int 0, .int 0, .int (-1), .int 0, .int (-1), .long 0, .ref (gn G + 499), .ref (gn G + 500), .null, .null, .null, .int 0, .int 0, .int 0, .null, .null, .null, .null, .null, .null, .null, .int 0, .int 0, .int 0, .int 0, .null, .int 0]) ((nf_o (by omega)).trans (nf_s)) 14 (by decide) q_1981 rfl rfl (ty := .array .int) rfl rfl rfl (Nat.le_of_ble_eq_true rfl) rfl dX13_init_38 (t := 41) rfl ?_
  refine J_aload_n hX dX13_init_41 0 rfl (t := 42) rfl ?_
  refine J_sipush (v := 390) hX dX13_init_42 (by decide) (t := 45) rfl ?_
  refine N_newI (k := 501) (N := 390) hX (by decide) (by decide) (Nat.le_of_ble_eq_true rfl) q_216 ⟨Nat.le_of_ble_eq_true rfl, Nat.le_of_ble_eq_true rfl⟩ dX13_init_45 (t := 47) rfl ?_
  refine N_putF hX hnm cb10 (o := 497) (by omega) (fs := [.int 0, .ref (gn G + 498), .int 0, .int 0, .int 0, .int 0, .int 0, .int 0, .int 0, .int (-1), .int 0, .int (-1), .long 0, .ref (gn G + 499), .ref (gn G + 500), .null, .null, .null, .int 0, .int 0, .int 0, .null, .null, .null, .null, .null, .null, .null, .int 0, .int 0, .int 0, .int 0, .null, .int 0]) (fs2 := [.int 0, .ref (gn G + 498), .int 0, .int 0, .int 0, .int 0, .int 0, .int 0, .int 0, .int (-1), .int 0, .int (-1), .long 0, .ref (gn G + 499), .ref (gn G + 500), .ref (gn G + 501), .null, .null, .int 0, .int 0, .int 0, .null, .null, .null, .null, .null, .null, .null, .int 0, .int 0, .int 0, .int 0, .null, .int 0]) ((nf_o (by omega)).trans (nf_s)) 15 (by decide) q_1982 rfl rfl (ty := .array .int) rfl rfl rfl (Nat.le_of_ble_eq_true rfl) rfl dX13_init_47 (t := 50) rfl ?_
  refine J_aload_n hX dX13_init_50 0 rfl (t := 51) rfl ?_
  refine J_sipush (v := 390) hX dX13_init_51 (by decide) (t := 54) rfl ?_
  refine N_newI (k := 502) (N := 390) hX (by decide) (by decide) (Nat.le_of_ble_eq_true rfl) q_216 ⟨Nat.le_of_ble_eq_true rfl, Nat.le_of_ble_eq_true rfl⟩ dX13_init_54 (t := 56) rfl ?_
  refine N_putF hX hnm cb10 (o := 497) (by omega) (fs := [.int 0, .ref (gn G + 498), .int 0, .int 0, .int 0, .int 0, .int 0, .int 0, .int 0, .int (-1), .int 0, .int (-1), .long 0, .ref (gn G + 499), .ref (gn G + 500), .ref (gn G + 501), .null, .null, .int 0, .int 0, .int 0, .null, .null, .null, .null, .null, .null, .null, .int 0, .int 0, .int 0, .int 0, .null, .int 0]) (fs2 := [.int 0, .ref (gn G + 498), .int 0, .int 0, .int 0, .int 0, .int 0, .int 0, .int 0, .int (-1), .int 0, .int (-1), .long 0, .ref (gn G + 499), .ref (gn G + 500), .ref (gn G + 501), .ref (gn G + 502), .null, .int 0, .int 0, .int 0, .null, .null, .null, .null, .null, .null, .null, .int 0, .int 0, .int 0, .int 0, .null, .int 0]) ((nf_o (by omega)).trans (nf_s)) 16 (by decide) q_1983 rfl rfl (ty := .array .int) rfl rfl rfl (Nat.le_of_ble_eq_true rfl) rfl dX13_init_56 (t := 59) rfl ?_
  refine J_aload_n hX dX13_init_59 0 rfl (t := 60) rfl ?_
  refine J_sipush (v := 2340) hX dX13_init_60 (by decide) (t := 63) rfl ?_
  refine N_newI (k := 503) (N := 2340) hX (by decide) (by decide) (Nat.le_of_ble_eq_true rfl) q_216 ⟨Nat.le_of_ble_eq_true rfl, Nat.le_of_ble_eq_true rfl⟩ dX13_init_63 (t := 65) rfl ?_
  refine N_putF hX hnm cb10 (o := 497) (by omega) (fs := [.int 0, .ref (gn G + 498), .int 0, .int 0, .int 0, .int 0, .int 0, .int 0, .int 0, .int (-1), .int 0, .int (-1), .long 0, .ref (gn G + 499), .ref (gn G + 500), .ref (gn G + 501), .ref (gn G + 502), .null, .int 0, .int 0, .int 0, .null, .null, .null, .null, .null, .null, .null, .int 0, .int 0, .int 0, .int 0, .null, .int 0]) (fs2 := [.int 0, .ref (gn G + 498), .int 0, .int 0, .int 0, .int 0, .int 0, .int 0, .int 0, .int (-1), .int 0, .int (-1), .long 0, .ref (gn G + 499), .ref (gn G + 500), .ref (gn G + 501), .ref (gn G + 502), .ref (gn G + 503), .int 0, .int 0, .int 0, .null, .null, .null, .null, .null, .null, .null, .int 0, .int 0, .int 0, .int 0, .null, .int 0]) ((nf_o (by omega)).trans (nf_s)) 17 (by decide) q_1984 rfl rfl (ty := .array .int) rfl rfl rfl (Nat.le_of_ble_eq_true rfl) rfl dX13_init_65 (t := 68) rfl ?_
  refine J_aload_n hX dX13_init_68 0 rfl (t := 69) rfl ?_
  refine J_bipush (v := 60) hX dX13_init_69 (by decide) (t := 71) rfl ?_
  refine N_newI (k := 504) (N := 60) hX (by decide) (by decide) (Nat.le_of_ble_eq_true rfl) q_216 ⟨Nat.le_of_ble_eq_true rfl, Nat.le_of_ble_eq_true rfl⟩ dX13_init_71 (t := 73) rfl ?_
  refine N_putF hX hnm cb10 (o := 497) (by omega) (fs := [.int 0, .ref (gn G + 498), .int 0, .int 0, .int 0, .int 0, .int 0, .int 0, .int 0, .int (-1), .int 0, .int (-1), .long 0, .ref (gn G + 499), .ref (gn G + 500), .ref (gn G + 501), .ref (gn G + 502), .ref (gn G + 503), .int 0, .int 0, .int 0, .null, .null, .null, .null, .null, .null, .null, .int 0, .int 0, .int 0, .int 0, .null, .int 0]) (fs2 := [.int 0, .ref (gn G + 498), .int 0, .int 0, .int 0, .int 0, .int 0, .int 0, .int 0, .int (-1), .int 0, .int (-1), .long 0, .ref (gn G + 499), .ref (gn G + 500), .ref (gn G + 501), .ref (gn G + 502), .ref (gn G + 503), .int 0, .int 0, .int 0, .ref (gn G + 504), .null, .null, .null, .null, .null, .null, .int 0, .int 0, .int 0, .int 0, .null, .int 0]) ((nf_o (by omega)).trans (nf_s)) 21 (by decide) q_1988 rfl rfl (ty := .array .int) rfl rfl rfl (Nat.le_of_ble_eq_true rfl) rfl dX13_init_73 (t := 76) rfl ?_
  refine J_aload_n hX dX13_init_76 0 rfl (t := 77) rfl ?_
  refine J_bipush (v := 60) hX dX13_init_77 (by decide) (t := 79) rfl ?_
  refine N_newI (k := 505) (N := 60) hX (by decide) (by decide) (Nat.le_of_ble_eq_true rfl) q_216 ⟨Nat.le_of_ble_eq_true rfl, Nat.le_of_ble_eq_true rfl⟩ dX13_init_79 (t := 81) rfl ?_
  refine N_putF hX hnm cb10 (o := 497) (by omega) (fs := [.int 0, .ref (gn G + 498), .int 0, .int 0, .int 0, .int 0, .int 0, .int 0, .int 0, .int (-1), .int 0, .int (-1), .long 0, .ref (gn G + 499), .ref (gn G + 500), .ref (gn G + 501), .ref (gn G + 502), .ref (gn G + 503), .int 0, .int 0, .int 0, .ref (gn G + 504), .null, .null, .null, .null, .null, .null, .int 0, .int 0, .int 0, .int 0, .null, .int 0]) (fs2 := [.int 0, .ref (gn G + 498), .int 0, .int 0, .int 0, .int 0, .int 0, .int 0, .int 0, .int (-1), .int 0, .int (-1), .long 0, .ref (gn G + 499), .ref (gn G + 500), .ref (gn G + 501), .ref (gn G + 502), .ref (gn G + 503), .int 0, .int 0, .int 0, .ref (gn G + 504), .ref (gn G + 505), .null, .null, .null, .null, .null, .int 0, .int 0, .int 0, .int 0, .null, .int 0]) ((nf_o (by omega)).trans (nf_s)) 22 (by decide) q_1989 rfl rfl (ty := .array .int) rfl rfl rfl (Nat.le_of_ble_eq_true rfl) rfl dX13_init_81 (t := 84) rfl ?_
  refine J_aload_n hX dX13_init_84 0 rfl (t := 85) rfl ?_
  refine J_bipush (v := 60) hX dX13_init_85 (by decide) (t := 87) rfl ?_
  refine N_newI (k := 506) (N := 60) hX (by decide) (by decide) (Nat.le_of_ble_eq_true rfl) q_216 ⟨Nat.le_of_ble_eq_true rfl, Nat.le_of_ble_eq_true rfl⟩ dX13_init_87 (t := 89) rfl ?_
  refine N_putF hX hnm cb10 (o := 497) (by omega) (fs := [.int 0, .ref (gn G + 498), .int 0, .int 0, .int 0, .int 0, .int 0, .int 0, .int 0, .int (-1), .int 0, .int (-1), .long 0, .ref (gn G + 499), .ref (gn G + 500), .ref (gn G + 501), .ref (gn G + 502), .ref (gn G + 503), .int 0, .int 0, .int 0, .ref (gn G + 504), .ref (gn G + 505), .null, .null, .null, .null, .null, .int 0, .int 0, .int 0, .int 0, .null, .int 0]) (fs2 := [.int 0, .ref (gn G + 498), .int 0, .int 0, .int 0, .int 0, .int 0, .int 0, .int 0, .int (-1), .int 0, .int (-1), .long 0, .ref (gn G + 499), .ref (gn G + 500), .ref (gn G + 501), .ref (gn G + 502), .ref (gn G + 503), .int 0, .int 0, .int 0, .ref (gn G + 504), .ref (gn G + 505), .ref (gn G + 506), .null, .null, .null, .null, .int 0, .int 0, .int 0, .int 0, .null, .int 0]) ((nf_o (by omega)).trans (nf_s)) 23 (by decide) q_1990 rfl rfl (ty := .array .int) rfl rfl rfl (Nat.le_of_ble_eq_true rfl) rfl dX13_init_89 (t := 92) rfl ?_
  refine J_aload_n hX dX13_init_92 0 rfl (t := 93) rfl ?_
  refine J_bipush (v := 60) hX dX13_init_93 (by decide) (t := 95) rfl ?_
  refine N_newI (k := 507) (N := 60) hX (by decide) (by decide) (Nat.le_of_ble_eq_true rfl) q_216 ⟨Nat.le_of_ble_eq_true rfl, Nat.le_of_ble_eq_true rfl⟩ dX13_init_95 (t := 97) rfl ?_
  refine N_putF hX hnm cb10 (o := 497) (by omega) (fs := [.int 0, .ref (gn G + 498), .int 0, .int 0, .int 0, .int 0, .int 0, .int 0, .int 0, .int (-1), .int 0, .int (-1), .long 0, .ref (gn G + 499), .ref (gn G + 500), .ref (gn G + 501), .ref (gn G + 502), .ref (gn G + 503), .int 0, .int 0, .int 0, .ref (gn G + 504), .ref (gn G + 505), .ref (gn G + 506), .null, .null, .null, .null, .int 0, .int 0, .int 0, .int 0, .null, .int 0]) (fs2 := [.int 0, .ref (gn G + 498), .int 0, .int 0, .int 0, .int 0, .int 0, .int 0, .int 0, .int (-1), .int 0, .int (-1), .long 0, .ref (gn G + 499), .ref (gn G + 500), .ref (gn G + 501), .ref (gn G + 502), .ref (gn G + 503), .int 0, .int 0, .int 0, .ref (gn G + 504), .ref (gn G + 505), .ref (gn G + 506), .ref (gn G + 507), .null, .null, .null, .int 0, .int 0, .int 0, .int 0, .null, .int 0]) ((nf_o (by omega)).trans (nf_s)) 24 (by decide) q_1991 rfl rfl (ty := .array .int) rfl rfl rfl (Nat.le_of_ble_eq_true rfl) rfl dX13_init_97 (t := 100) rfl ?_
  refine J_aload_n hX dX13_init_100 0 rfl (t := 101) rfl ?_
  refine J_bipush (v := 60) hX dX13_init_101 (by decide) (t := 103) rfl ?_
  refine N_newI (k := 508) (N := 60) hX (by decide) (by decide) (Nat.le_of_ble_eq_true rfl) q_216 ⟨Nat.le_of_ble_eq_true rfl, Nat.le_of_ble_eq_true rfl⟩ dX13_init_103 (t := 105) rfl ?_
  refine N_putF hX hnm cb10 (o := 497) (by omega) (fs := [.int 0, .ref (gn G + 498), .int 0, .int 0, .int 0, .int 0, .int 0, .int 0, .int 0, .int (-1), .int 0, .int (-1), .long 0, .ref (gn G + 499), .ref (gn G + 500), .ref (gn G + 501), .ref (gn G + 502), .ref (gn G + 503), .int 0, .int 0, .int 0, .ref (gn G + 504), .ref (gn G + 505), .ref (gn G + 506), .ref (gn G + 507), .null, .null, .null, .int 0, .int 0, .int 0, .int 0, .null, .int 0]) (fs2 := [.int 0, .ref (gn G + 498), .int 0, .int 0, .int 0, .int 0, .int 0, .int 0, .int 0, .int (-1), .int 0, .int (-1), .long 0, .ref (gn G + 499), .ref (gn G + 500), .ref (gn G + 501), .ref (gn G + 502), .ref (gn G + 503), .int 0, .int 0, .int 0, .ref (gn G + 504), .ref (gn G + 505), .ref (gn G + 506), .ref (gn G + 507), .ref (gn G + 508), .null, .null, .int 0, .int 0, .int 0, .int 0, .null, .int 0]) ((nf_o (by omega)).trans (nf_s)) 25 (by decide) q_1992 rfl rfl (ty := .array .int) rfl rfl rfl (Nat.le_of_ble_eq_true rfl) rfl dX13_init_105 (t := 108) rfl ?_
  refine J_aload_n hX dX13_init_108 0 rfl (t := 109) rfl ?_
  refine J_iconst (v := 2) hX dX13_init_109 (by decide) (t := 110) rfl ?_
  refine N_newI (k := 509) (N := 2) hX (by decide) (by decide) (Nat.le_of_ble_eq_true rfl) q_216 ⟨Nat.le_of_ble_eq_true rfl, Nat.le_of_ble_eq_true rfl⟩ dX13_init_110 (t := 112) rfl ?_
  refine N_putF hX hnm cb10 (o := 497) (by omega) (fs := [.int 0, .ref (gn G + 498), .int 0, .int 0, .int 0, .int 0, .int 0, .int 0, .int 0, .int (-1), .int 0, .int (-1), .long 0, .ref (gn G + 499), .ref (gn G + 500), .ref (gn G + 501), .ref (gn G + 502), .ref (gn G + 503), .int 0, .int 0, .int 0, .ref (gn G + 504), .ref (gn G + 505), .ref (gn G + 506), .ref (gn G + 507), .ref (gn G + 508), .null, .null, .int 0, .int 0, .int 0, .int 0, .null, .int 0]) (fs2 := [.int 0, .ref (gn G + 498), .int 0, .int 0, .int 0, .int 0, .int 0, .int 0, .int 0, .int (-1), .int 0, .int (-1), .long 0, .ref (gn G + 499), .ref (gn G + 500), .ref (gn G + 501), .ref (gn G + 502), .ref (gn G + 503), .int 0, .int 0, .int 0, .ref (gn G + 504), .ref (gn G + 505), .ref (gn G + 506), .ref (gn G + 507), .ref (gn G + 508), .ref (gn G + 509), .null, .int 0, .int 0, .int 0, .int 0, .null, .int 0]) ((nf_o (by omega)).trans (nf_s)) 26 (by decide) q_1993 rfl rfl (ty := .array .int) rfl rfl rfl (Nat.le_of_ble_eq_true rfl) rfl dX13_init_112 (t := 115) rfl ?_
  refine J_aload_n hX dX13_init_115 0 rfl (t := 116) rfl ?_
  refine J_iconst (v := 2) hX dX13_init_116 (by decide) (t := 117) rfl ?_
  refine N_newI (k := 510) (N := 2) hX (by decide) (by decide) (Nat.le_of_ble_eq_true rfl) q_216 ⟨Nat.le_of_ble_eq_true rfl, Nat.le_of_ble_eq_true rfl⟩ dX13_init_117 (t := 119) rfl ?_
  refine N_putF hX hnm cb10 (o := 497) (by omega) (fs := [.int 0, .ref (gn G + 498), .int 0, .int 0, .int 0, .int 0, .int 0, .int 0, .int 0, .int (-1), .int 0, .int (-1), .long 0, .ref (gn G + 499), .ref (gn G + 500), .ref (gn G + 501), .ref (gn G + 502), .ref (gn G + 503), .int 0, .int 0, .int 0, .ref (gn G + 504), .ref (gn G + 505), .ref (gn G + 506), .ref (gn G + 507), .ref (gn G + 508), .ref (gn G + 509), .null, .int 0, .int 0, .int 0, .int 0, .null, .int 0]) (fs2 := [.int 0, .ref (gn G + 498), .int 0, .int 0, .int 0, .int 0, .int 0, .int 0, .int 0, .int (-1), .int 0, .int (-1), .long 0, .ref (gn G + 499), .ref (gn G + 500), .ref (gn G + 501), .ref (gn G + 502), .ref (gn G + 503), .int 0, .int 0, .int 0, .ref (gn G + 504), .ref (gn G + 505), .ref (gn G + 506), .ref (gn G + 507), .ref (gn G + 508), .ref (gn G + 509), .ref (gn G + 510), .int 0, .int 0, .int 0, .int 0, .null, .int 0]) ((nf_o (by omega)).trans (nf_s)) 27 (by decide) q_1994 rfl rfl (ty := .array .int) rfl rfl rfl (Nat.le_of_ble_eq_true rfl) rfl dX13_init_119 (t := 122) rfl ?_
  refine J_aload_n hX dX13_init_122 0 rfl (t := 123) rfl ?_
  refine J_bipush (v := 60) hX dX13_init_123 (by decide) (t := 125) rfl ?_
  refine N_newI (k := 511) (N := 60) hX (by decide) (by decide) (Nat.le_of_ble_eq_true rfl) q_216 ⟨Nat.le_of_ble_eq_true rfl, Nat.le_of_ble_eq_true rfl⟩ dX13_init_125 (t := 127) rfl ?_
  refine N_putF hX hnm cb10 (o := 497) (by omega) (fs := [.int 0, .ref (gn G + 498), .int 0, .int 0, .int 0, .int 0, .int 0, .int 0, .int 0, .int (-1), .int 0, .int (-1), .long 0, .ref (gn G + 499), .ref (gn G + 500), .ref (gn G + 501), .ref (gn G + 502), .ref (gn G + 503), .int 0, .int 0, .int 0, .ref (gn G + 504), .ref (gn G + 505), .ref (gn G + 506), .ref (gn G + 507), .ref (gn G + 508), .ref (gn G + 509), .ref (gn G + 510), .int 0, .int 0, .int 0, .int 0, .null, .int 0]) (fs2 := [.int 0, .ref (gn G + 498), .int 0, .int 0, .int 0, .int 0, .int 0, .int 0, .int 0, .int (-1), .int 0, .int (-1), .long 0, .ref (gn G + 499), .ref (gn G + 500), .ref (gn G + 501), .ref (gn G + 502), .ref (gn G + 503), .int 0, .int 0, .int 0, .ref (gn G + 504), .ref (gn G + 505), .ref (gn G + 506), .ref (gn G + 507), .ref (gn G + 508), .ref (gn G + 509), .ref (gn G + 510), .int 0, .int 0, .int 0, .int 0, .ref (gn G + 511), .int 0]) ((nf_o (by omega)).trans (nf_s)) 32 (by decide) q_1999 rfl rfl (ty := .array .int) rfl rfl rfl (Nat.le_of_ble_eq_true rfl) rfl dX13_init_127 (t := 130) rfl ?_
  refine J_aload_n hX dX13_init_130 0 rfl (t := 131) rfl ?_
  refine N_eq (g := mF G f) rfl ?_
  refine N_callV hX hAO [] [] (cnX13_begins mF_497 mF_499) miX13_begins mvX13_begins cb10 (o := 497) (by decide) mF_497 q_1963 ⟨rfl, rfl, Nat.le_of_ble_eq_true rfl, Nat.le_of_ble_eq_true rfl⟩ rfl rfl (Nat.le_of_ble_eq_true rfl) ⟨Nat.le_of_ble_eq_true rfl, Nat.le_of_ble_eq_true rfl⟩ dX13_init_131 (t := 134) rfl (fun v9 => J_pure fun hv9 => ?_)
  subst hv9
  exact J_vretP hX hR hlk (fun H h => ⟨rfl, h⟩) dX13_init_134
/-- the world at the law's loop -/
def zM : MM := (fun _ _ => 0, fun _ _ => 0)
def w0 : Wd := fun r => if r = 10 then sI zM 0 8 (-1) else if r = 14 then sI zM 0 4 16 else if r = 15 then sI (sI zM 0 9 (-1)) 0 11 (-1) else zM
/-- all that has been made ahead of the law's loop -/
def allF (G : GG) (f : Nat → va_E) : Nat → va_E := nf (mF G (nf (S8 G (nf f 0 (.inr (9, [.null, .null, .null, .null, .null, .null, .null, .null, .int 0])))) 497 (.inr (10, [.int 0, .null, .int 0, .int 0, .int 0, .int 0, .int 0, .int 0, .int 0, .int 0, .int 0, .int 0, .long 0, .null, .null, .null, .null, .null, .int 0, .int 0, .int 0, .null, .null, .null, .null, .null, .null, .null, .int 0, .int 0, .int 0, .int 0, .null, .int 0])))) 512 (aJ G 1 (fun _ => 0))
theorem allF_lo {G : GG} {f : Nat → va_E} {x : Nat} (h : x < 497) : allF G f x = S8 G (nf f 0 (.inr (9, [.null, .null, .null, .null, .null, .null, .null, .null, .int 0]))) x := (nf_o (by omega)).trans ((mF_lo h).trans (nf_o (by omega)))
theorem allF_m {G : GG} {f : Nat → va_E} {x : Nat} (h : x < 512) : allF G f x = mF G (nf (S8 G (nf f 0 (.inr (9, [.null, .null, .null, .null, .null, .null, .null, .null, .int 0])))) 497 (.inr (10, [.int 0, .null, .int 0, .int 0, .int 0, .int 0, .int 0, .int 0, .int 0, .int 0, .int 0, .int 0, .long 0, .null, .null, .null, .null, .null, .int 0, .int 0, .int 0, .null, .null, .null, .null, .null, .null, .null, .int 0, .int 0, .int 0, .int 0, .null, .int 0]))) x := nf_o (by omega)
theorem cellOf_m {G : GG} {r j : Nat} {a : Nat → Int32} {b : Nat → Int64} (h1 : 1 ≤ r) (h2 : r ≤ 9) : cellOf G r j a b = cellM G r j a b := cellM_of ⟨h1, h2⟩ a b
theorem h6_m0 {G : GG} {f : Nat → va_E} {j : Nat} (hj : j < 50) : ∃ g, h6 G f (195 + j) = mkt G 195 g (195 + j) := ⟨_, (nf_o (by omega)).trans ((mkt_lo (by omega)).trans ((nf_o (by omega)).trans ((nf_o (by omega)).trans ((mkt_lo (by omega)).trans ((nf_o (by omega)).trans ((nf_o (by omega)).trans ((mkt_lo (by omega)).trans ((nf_o (by omega)).trans ((nf_o (by omega)).trans ((mkt_lo (by omega)).trans ((nf_o (by omega)).trans ((nf_o (by omega)).trans ((mkt_lo (by omega)).trans ((nf_o (by omega)).trans (nf_o (by omega))))))))))))))))⟩
theorem h6_m1 {G : GG} {f : Nat → va_E} {j : Nat} (hj : j < 50) : ∃ g, h6 G f (245 + j) = mkt G 245 g (245 + j) := ⟨_, (nf_o (by omega)).trans ((mkt_lo (by omega)).trans ((nf_o (by omega)).trans ((nf_o (by omega)).trans ((mkt_lo (by omega)).trans ((nf_o (by omega)).trans ((nf_o (by omega)).trans ((mkt_lo (by omega)).trans ((nf_o (by omega)).trans ((nf_o (by omega)).trans ((mkt_lo (by omega)).trans ((nf_o (by omega)).trans (nf_o (by omega)))))))))))))⟩
theorem h6_m2 {G : GG} {f : Nat → va_E} {j : Nat} (hj : j < 50) : ∃ g, h6 G f (295 + j) = mkt G 295 g (295 + j) := ⟨_, (nf_o (by omega)).trans ((mkt_lo (by omega)).trans ((nf_o (by omega)).trans ((nf_o (by omega)).trans ((mkt_lo (by omega)).trans ((nf_o (by omega)).trans ((nf_o (by omega)).trans ((mkt_lo (by omega)).trans ((nf_o (by omega)).trans (nf_o (by omega))))))))))⟩
theorem h6_m3 {G : GG} {f : Nat → va_E} {j : Nat} (hj : j < 50) : ∃ g, h6 G f (345 + j) = mkt G 345 g (345 + j) := ⟨_, (nf_o (by omega)).trans ((mkt_lo (by omega)).trans ((nf_o (by omega)).trans ((nf_o (by omega)).trans ((mkt_lo (by omega)).trans ((nf_o (by omega)).trans (nf_o (by omega)))))))⟩
theorem h6_m4 {G : GG} {f : Nat → va_E} {j : Nat} (hj : j < 50) : ∃ g, h6 G f (395 + j) = mkt G 395 g (395 + j) := ⟨_, (nf_o (by omega)).trans ((mkt_lo (by omega)).trans ((nf_o (by omega)).trans (nf_o (by omega))))⟩
theorem h6_m5 {G : GG} {f : Nat → va_E} {j : Nat} (hj : j < 50) : ∃ g, h6 G f (445 + j) = mkt G 445 g (445 + j) := ⟨_, nf_o (by omega)⟩
theorem GH0 {G : GG} {f : Nat → va_E} {H : Heap} (h : NB G 513 (allF G f) H) : GH G w0 H := by
  have at_ : ∀ (r j : Nat), offr r + j < 513 → ∀ x, allF G f (offr r + j) = x → va_at (gD G) jcl (adr G r j, x) H := fun r j hj x hx => by
    have := h.2 (offr r + j) hj
    rw [hx] at this
    exact this
  have mk_ : ∀ (r j : Nat), 1 ≤ r → r ≤ 9 → j < 50 → (∃ g, allF G f (offr r + j) = mkt G (offr r) g (offr r + j)) → offr r + j < 513 → va_at (gD G) jcl (adr G r j, cellOf G r j ((w0 r).1 j) ((w0 r).2 j)) H := fun r j h1 h2 hj ⟨g, hg⟩ hl => by
    have h9 := h.2 (offr r + j) hl
    rw [hg] at h9
    have h8 := mkt_rd hj h9
    rw [cellOf_m h1 h2]
    have e : w0 r = zM := by unfold w0; rw [if_neg (by omega), if_neg (by omega), if_neg (by omega)]
    rw [e]
    exact h8
  refine ⟨fun r j hi => ?_, adr G 14 1, 16, 0, fun _ => 0, Or.inl rfl, ⟨rfl, by decide⟩, by decide, by decide, ?_, ?_, sb_fit0, fun i hi => absurd hi (Nat.not_lt_zero i)⟩
  · obtain ⟨h1, h2⟩ := hi
    match r, h1, h2 with
    | 0, _, h2 =>
      obtain rfl : j = 0 := by simp only [szr] at h2; omega
      exact at_ 0 0 (by decide) _ ((allF_lo (by decide)).trans S8_0)
    | 1, _, h2 =>
      simp only [szr] at h2
      exact mk_ 1 j (by decide) (by decide) h2 ⟨_, by
        show allF G f (6 + j) = mkt G 6 _ (6 + j)
        exact (allF_lo (by omega)).trans ((S8_lo (by omega) (by omega)).trans ((S7_lo (by omega) (by omega)).trans ((S6_lo (by omega) (by omega)).trans ((S5_lo (by omega) (by omega)).trans ((S4_lo (by omega) (by omega)).trans ((S3_lo (by omega) (by omega)).trans (nf_o (by omega))))))))⟩ (by show 6 + j < 513; omega)
    | 2, _, h2 =>
      simp only [szr] at h2
      exact mk_ 2 j (by decide) (by decide) h2 ⟨_, by
        show allF G f (56 + j) = mkt G 56 _ (56 + j)
        exact (allF_lo (by omega)).trans ((S8_lo (by omega) (by omega)).trans ((S7_lo (by omega) (by omega)).trans ((S6_lo (by omega) (by omega)).trans ((S5_lo (by omega) (by omega)).trans ((S4_lo (by omega) (by omega)).trans (nf_o (by omega)))))))⟩ (by show 56 + j < 513; omega)
    | 3, _, h2 =>
      simp only [szr] at h2
      exact mk_ 3 j (by decide) (by decide) h2 ⟨_, by
        show allF G f (106 + j) = mkt G 106 _ (106 + j)
        exact (allF_lo (by omega)).trans ((S8_lo (by omega) (by omega)).trans ((S7_lo (by omega) (by omega)).trans ((S6_lo (by omega) (by omega)).trans ((S5_lo (by omega) (by omega)).trans (nf_o (by omega))))))⟩ (by show 106 + j < 513; omega)
    | 4, _, h2 =>
      simp only [szr] at h2
      obtain ⟨g, hg⟩ := h6_m0 (G := G) (f := nf (S6 G (nf f 0 (.inr (9, [.null, .null, .null, .null, .null, .null, .null, .null, .int 0])))) 193 (.inr (3, [.null, .int 0, .int 0]))) h2
      exact mk_ 4 j (by decide) (by decide) h2 ⟨g, by
        show allF G f (195 + j) = mkt G 195 g (195 + j)
        exact (allF_lo (by omega)).trans ((S8_lo (by omega) (by omega)).trans ((nf_o (by omega)).trans hg))⟩ (by show 195 + j < 513; omega)
    | 5, _, h2 =>
      simp only [szr] at h2
      obtain ⟨g, hg⟩ := h6_m1 (G := G) (f := nf (S6 G (nf f 0 (.inr (9, [.null, .null, .null, .null, .null, .null, .null, .null, .int 0])))) 193 (.inr (3, [.null, .int 0, .int 0]))) h2
      exact mk_ 5 j (by decide) (by decide) h2 ⟨g, by
        show allF G f (245 + j) = mkt G 245 g (245 + j)
        exact (allF_lo (by omega)).trans ((S8_lo (by omega) (by omega)).trans ((nf_o (by omega)).trans hg))⟩ (by show 245 + j < 513; omega)
    | 6, _, h2 =>
      simp only [szr] at h2
      obtain ⟨g, hg⟩ := h6_m2 (G := G) (f := nf (S6 G (nf f 0 (.inr (9, [.null, .null, .null, .null, .null, .null, .null, .null, .int 0])))) 193 (.inr (3, [.null, .int 0, .int 0]))) h2
      exact mk_ 6 j (by decide) (by decide) h2 ⟨g, by
        show allF G f (295 + j) = mkt G 295 g (295 + j)
        exact (allF_lo (by omega)).trans ((S8_lo (by omega) (by omega)).trans ((nf_o (by omega)).trans hg))⟩ (by show 295 + j < 513; omega)
    | 7, _, h2 =>
      simp only [szr] at h2
      obtain ⟨g, hg⟩ := h6_m3 (G := G) (f := nf (S6 G (nf f 0 (.inr (9, [.null, .null, .null, .null, .null, .null, .null, .null, .int 0])))) 193 (.inr (3, [.null, .int 0, .int 0]))) h2
      exact mk_ 7 j (by decide) (by decide) h2 ⟨g, by
        show allF G f (345 + j) = mkt G 345 g (345 + j)
        exact (allF_lo (by omega)).trans ((S8_lo (by omega) (by omega)).trans ((nf_o (by omega)).trans hg))⟩ (by show 345 + j < 513; omega)
    | 8, _, h2 =>
      simp only [szr] at h2
      obtain ⟨g, hg⟩ := h6_m4 (G := G) (f := nf (S6 G (nf f 0 (.inr (9, [.null, .null, .null, .null, .null, .null, .null, .null, .int 0])))) 193 (.inr (3, [.null, .int 0, .int 0]))) h2
      exact mk_ 8 j (by decide) (by decide) h2 ⟨g, by
        show allF G f (395 + j) = mkt G 395 g (395 + j)
        exact (allF_lo (by omega)).trans ((S8_lo (by omega) (by omega)).trans ((nf_o (by omega)).trans hg))⟩ (by show 395 + j < 513; omega)
    | 9, _, h2 =>
      simp only [szr] at h2
      obtain ⟨g, hg⟩ := h6_m5 (G := G) (f := nf (S6 G (nf f 0 (.inr (9, [.null, .null, .null, .null, .null, .null, .null, .null, .int 0])))) 193 (.inr (3, [.null, .int 0, .int 0]))) h2
      exact mk_ 9 j (by decide) (by decide) h2 ⟨g, by
        show allF G f (445 + j) = mkt G 445 g (445 + j)
        exact (allF_lo (by omega)).trans ((S8_lo (by omega) (by omega)).trans ((nf_o (by omega)).trans hg))⟩ (by show 445 + j < 513; omega)
    | 10, _, h2 =>
      simp only [szr] at h2
      match j, h2 with
      | 0, _ => exact at_ 10 0 (by decide) _ ((allF_lo (by decide)).trans ((S8_lo (by decide) (by decide)).trans ((S7_lo (by decide) (by decide)).trans ((S6_lo (by decide) (by decide)).trans ((S5_lo (by decide) (by decide)).trans ((S4_lo (by decide) (by decide)).trans ((S3_lo (by decide) (by decide)).trans ((S2_lo (by decide) (by decide)).trans ((nf_o (by decide)).trans textF_1)))))))))
      | 1, _ => exact at_ 10 1 (by decide) _ ((allF_lo (by decide)).trans ((S8_lo (by decide) (by decide)).trans ((S7_lo (by decide) (by decide)).trans ((S6_lo (by decide) (by decide)).trans ((S5_lo (by decide) (by decide)).trans ((S4_lo (by decide) (by decide)).trans ((S3_lo (by decide) (by decide)).trans ((S2_lo (by decide) (by decide)).trans ((nf_o (by decide)).trans textF_2)))))))))
      | 2, _ => exact at_ 10 2 (by decide) _ ((allF_lo (by decide)).trans ((S8_lo (by decide) (by decide)).trans ((S7_lo (by decide) (by decide)).trans ((S6_lo (by decide) (by decide)).trans ((S5_lo (by decide) (by decide)).trans ((S4_lo (by decide) (by decide)).trans ((S3_lo (by decide) (by decide)).trans ((S2_lo (by decide) (by decide)).trans ((nf_o (by decide)).trans textF_3)))))))))
      | 3, _ => exact at_ 10 3 (by decide) _ ((allF_lo (by decide)).trans ((S8_lo (by decide) (by decide)).trans ((S7_lo (by decide) (by decide)).trans ((S6_lo (by decide) (by decide)).trans ((S5_lo (by decide) (by decide)).trans ((S4_lo (by decide) (by decide)).trans ((S3_lo (by decide) (by decide)).trans ((S2_lo (by decide) (by decide)).trans ((nf_o (by decide)).trans textF_4)))))))))
      | 4, _ => exact at_ 10 4 (by decide) _ ((allF_lo (by decide)).trans ((S8_lo (by decide) (by decide)).trans ((S7_lo (by decide) (by decide)).trans ((S6_lo (by decide) (by decide)).trans ((S5_lo (by decide) (by decide)).trans ((S4_lo (by decide) (by decide)).trans ((S3_lo (by decide) (by decide)).trans ((S2_lo (by decide) (by decide)).trans ((nf_o (by decide)).trans textF_5)))))))))
    | 11, _, h2 =>
      simp only [szr] at h2
      match j, h2 with
      | 0, _ => exact at_ 11 0 (by decide) _ ((allF_lo (by decide)).trans ((S8_lo (by decide) (by decide)).trans ((S7_lo (by decide) (by decide)).trans ((S6_lo (by decide) (by decide)).trans ((nf_o (by decide)).trans descF_156)))))
      | 1, _ => exact at_ 11 1 (by decide) _ ((allF_lo (by decide)).trans ((S8_lo (by decide) (by decide)).trans ((S7_lo (by decide) (by decide)).trans ((S6_lo (by decide) (by decide)).trans ((nf_o (by decide)).trans descF_157)))))
    | 12, _, h2 =>
      simp only [szr] at h2
      have e0 : ∀ x, 158 ≤ x → x < 193 → allF G f x = sF G (nf (S5 G (nf f 0 (.inr (9, [.null, .null, .null, .null, .null, .null, .null, .null, .int 0])))) 158 (.inr (5, [.null, .null, .null, .null, .int 0, .int 0, .int 0]))) 30 x := fun x h1 h3 => (allF_lo (by omega)).trans ((S8_lo (by omega) (by omega)).trans ((S7_lo (by omega) (by omega)).trans (nf_o (by omega))))
      by_cases h5 : j < 5
      · match j, h5 with
        | 0, _ => exact at_ 12 0 (by decide) _ ((e0 158 (by decide) (by decide)).trans (sF_0))
        | 1, _ =>
          have h9 := at_ 12 1 (by decide) _ ((e0 159 (by decide) (by decide)).trans lp_a)
          exact aRp_full h9 (fun i _ => by unfold adr; show _ = gn G + (158 + (5 + i)); omega)
        | 2, _ => exact at_ 12 2 (by decide) _ ((e0 160 (by decide) (by decide)).trans ((lp_o (by decide) (by decide)).trans sA_160))
        | 3, _ => exact at_ 12 3 (by decide) _ ((e0 161 (by decide) (by decide)).trans ((lp_o (by decide) (by decide)).trans sA_161))
        | 4, _ => exact at_ 12 4 (by decide) _ ((e0 162 (by decide) (by decide)).trans ((lp_o (by decide) (by decide)).trans sA_162))
      · have h9 := at_ 12 j (by show 158 + j < 513; omega) (chg0 G) ((e0 (158 + j) (by omega) (by omega)).trans (lp_b (by omega) (by omega)))
        have e1 : cellOf G 12 j ((w0 12).1 j) ((w0 12).2 j) = chg0 G := by
          show cellS G j zI zL = _
          unfold cellS
          rw [if_neg (by omega), if_neg (by omega), if_neg (by omega), if_neg (by omega), if_neg (by omega)]
          rfl
        rw [e1]
        exact h9
    | 13, _, h2 =>
      simp only [szr] at h2
      match j, h2 with
      | 0, _ => exact at_ 13 0 (by decide) _ ((allF_lo (by decide)).trans ((S8_lo (by decide) (by decide)).trans ((nf_o (by decide)).trans h6_193)))
      | 1, _ =>
        have h9 := at_ 13 1 (by decide) _ ((allF_lo (by decide)).trans ((S8_lo (by decide) (by decide)).trans ((nf_o (by decide)).trans h6_194)))
        exact aRp_full h9 (fun i hi => by
          unfold adr
          match i, hi with
          | 0, _ => rfl
          | 1, _ => rfl
          | 2, _ => rfl
          | 3, _ => rfl
          | 4, _ => rfl
          | 5, _ => rfl)
    | 14, _, h2 => exact absurd h2 (by simp only [szr]; omega)
    | 15, _, h2 =>
      simp only [szr] at h2
      match j, h2 with
      | 0, _ => exact at_ 15 0 (by decide) _ ((allF_m (by decide)).trans mF_497)
      | 1, _ => exact at_ 15 1 (by decide) _ ((allF_m (by decide)).trans mF_498)
      | 2, _ => exact at_ 15 2 (by decide) _ ((allF_m (by decide)).trans mF_499)
      | 3, _ => exact at_ 15 3 (by decide) _ ((allF_m (by decide)).trans mF_500)
      | 4, _ => exact at_ 15 4 (by decide) _ ((allF_m (by decide)).trans mF_501)
      | 5, _ => exact at_ 15 5 (by decide) _ ((allF_m (by decide)).trans mF_502)
      | 6, _ => exact at_ 15 6 (by decide) _ ((allF_m (by decide)).trans mF_503)
      | 7, _ => exact at_ 15 7 (by decide) _ ((allF_m (by decide)).trans mF_504)
      | 8, _ => exact at_ 15 8 (by decide) _ ((allF_m (by decide)).trans mF_505)
      | 9, _ => exact at_ 15 9 (by decide) _ ((allF_m (by decide)).trans mF_506)
      | 10, _ => exact at_ 15 10 (by decide) _ ((allF_m (by decide)).trans mF_507)
      | 11, _ => exact at_ 15 11 (by decide) _ ((allF_m (by decide)).trans mF_508)
      | 12, _ => exact at_ 15 12 (by decide) _ ((allF_m (by decide)).trans mF_509)
      | 13, _ => exact at_ 15 13 (by decide) _ ((allF_m (by decide)).trans mF_510)
      | 14, _ => exact at_ 15 14 (by decide) _ ((allF_m (by decide)).trans mF_511)
    | 16, _, h2 =>
      obtain rfl : j = 0 := by simp only [szr] at h2; omega
      exact at_ 16 0 (by decide) _ nf_s
  · exact at_ 14 0 (by decide) _ ((allF_lo (by decide)).trans ((nf_o (by decide)).trans sbF_495))
  · exact at_ 14 1 (by decide) _ ((allF_lo (by decide)).trans ((nf_o (by decide)).trans sbF_496))
