theorem p_25 : Cond.initialized RX13 ∈ WALL := WALL_in (List.mem_append_right _ (List.mem_append_left _ (List.mem_of_getElem? (i := 1) rfl))) rfl
theorem p_31 : Cond.initialized RJ9 ∈ WALL := WALL_in (List.mem_append_right _ (List.mem_append_left _ (List.mem_of_getElem? (i := 7) rfl))) rfl
theorem p_799 : Cond.static yJ9_max_7cf53 ∈ WALL := WALL_in (List.mem_append_right _ (List.mem_append_right _ (List.mem_append_right _ (List.mem_append_right _ (List.mem_append_left _ (List.mem_of_getElem? (i := 55) rfl)))))) rfl
theorem p_800 : Cond.code yJ9_max_7cf53 cJ9_max_7cf53 2 (some .int) ∈ WALL := WALL_in (List.mem_append_right _ (List.mem_append_right _ (List.mem_append_right _ (List.mem_append_right _ (List.mem_append_left _ (List.mem_of_getElem? (i := 56) rfl)))))) rfl
theorem p_1025 : Cond.fieldLink RX13 88 RX13 "shouts" "I" ∈ WALL := WALL_in (List.mem_append_right _ (List.mem_append_right _ (List.mem_append_right _ (List.mem_append_right _ (List.mem_append_right _ (List.mem_append_left _ (List.mem_of_getElem? (i := 41) rfl))))))) rfl
theorem p_1027 : Cond.fieldLink RX13 91 RX13 "time" "I" ∈ WALL := WALL_in (List.mem_append_right _ (List.mem_append_right _ (List.mem_append_right _ (List.mem_append_right _ (List.mem_append_right _ (List.mem_append_left _ (List.mem_of_getElem? (i := 43) rfl))))))) rfl
theorem p_1029 : Cond.fieldLink RX13 94 RX13 "earned" "I" ∈ WALL := WALL_in (List.mem_append_right _ (List.mem_append_right _ (List.mem_append_right _ (List.mem_append_right _ (List.mem_append_right _ (List.mem_append_left _ (List.mem_of_getElem? (i := 45) rfl))))))) rfl
theorem p_1031 : Cond.fieldLink RX13 97 RX13 "refunded" "I" ∈ WALL := WALL_in (List.mem_append_right _ (List.mem_append_right _ (List.mem_append_right _ (List.mem_append_right _ (List.mem_append_right _ (List.mem_append_left _ (List.mem_of_getElem? (i := 47) rfl))))))) rfl
theorem p_1033 : Cond.fieldLink RX13 100 RX13 "well" "I" ∈ WALL := WALL_in (List.mem_append_right _ (List.mem_append_right _ (List.mem_append_right _ (List.mem_append_right _ (List.mem_append_right _ (List.mem_append_left _ (List.mem_of_getElem? (i := 49) rfl))))))) rfl
theorem p_1035 : Cond.fieldLink RX13 9 RX13 "valley" "[[I" ∈ WALL := WALL_in (List.mem_append_right _ (List.mem_append_right _ (List.mem_append_right _ (List.mem_append_right _ (List.mem_append_right _ (List.mem_append_left _ (List.mem_of_getElem? (i := 51) rfl))))))) rfl
theorem p_1037 : Cond.fieldLink RX13 14 RX13 "customer" "[[I" ∈ WALL := WALL_in (List.mem_append_right _ (List.mem_append_right _ (List.mem_append_right _ (List.mem_append_right _ (List.mem_append_right _ (List.mem_append_left _ (List.mem_of_getElem? (i := 53) rfl))))))) rfl
theorem p_1039 : Cond.fieldLink RX13 17 RX13 "shout" "[[I" ∈ WALL := WALL_in (List.mem_append_right _ (List.mem_append_right _ (List.mem_append_right _ (List.mem_append_right _ (List.mem_append_right _ (List.mem_append_left _ (List.mem_of_getElem? (i := 55) rfl))))))) rfl
theorem p_1228 : Cond.instanceMethod yX13_refusal ∈ WALL := WALL_in (List.mem_append_right _ (List.mem_append_right _ (List.mem_append_right _ (List.mem_append_right _ (List.mem_append_right _ (List.mem_append_right _ (List.mem_append_left _ (List.mem_of_getElem? (i := 4) rfl)))))))) rfl
theorem p_1229 : Cond.selects RX13 yX13_refusal yX13_refusal ∈ WALL := WALL_in (List.mem_append_right _ (List.mem_append_right _ (List.mem_append_right _ (List.mem_append_right _ (List.mem_append_right _ (List.mem_append_right _ (List.mem_append_left _ (List.mem_of_getElem? (i := 5) rfl)))))))) rfl
theorem p_1230 : Cond.code yX13_refusal cX13_refusal 6 (some .int) ∈ WALL := WALL_in (List.mem_append_right _ (List.mem_append_right _ (List.mem_append_right _ (List.mem_append_right _ (List.mem_append_right _ (List.mem_append_right _ (List.mem_append_left _ (List.mem_of_getElem? (i := 6) rfl)))))))) rfl
theorem p_1238 : Cond.instanceMethod yX13_pass ∈ WALL := WALL_in (List.mem_append_right _ (List.mem_append_right _ (List.mem_append_right _ (List.mem_append_right _ (List.mem_append_right _ (List.mem_append_right _ (List.mem_append_left _ (List.mem_of_getElem? (i := 14) rfl)))))))) rfl
theorem p_1239 : Cond.selects RX13 yX13_pass yX13_pass ∈ WALL := WALL_in (List.mem_append_right _ (List.mem_append_right _ (List.mem_append_right _ (List.mem_append_right _ (List.mem_append_right _ (List.mem_append_right _ (List.mem_append_left _ (List.mem_of_getElem? (i := 15) rfl)))))))) rfl
theorem p_1240 : Cond.code yX13_pass cX13_pass 6 (some .int) ∈ WALL := WALL_in (List.mem_append_right _ (List.mem_append_right _ (List.mem_append_right _ (List.mem_append_right _ (List.mem_append_right _ (List.mem_append_right _ (List.mem_append_left _ (List.mem_of_getElem? (i := 16) rfl)))))))) rfl
theorem p_1241 : Cond.methodLink RX13 124 yX13_due ∈ WALL := WALL_in (List.mem_append_right _ (List.mem_append_right _ (List.mem_append_right _ (List.mem_append_right _ (List.mem_append_right _ (List.mem_append_right _ (List.mem_append_left _ (List.mem_of_getElem? (i := 17) rfl)))))))) rfl
theorem p_1242 : Cond.instanceMethod yX13_due ∈ WALL := WALL_in (List.mem_append_right _ (List.mem_append_right _ (List.mem_append_right _ (List.mem_append_right _ (List.mem_append_right _ (List.mem_append_right _ (List.mem_append_left _ (List.mem_of_getElem? (i := 18) rfl)))))))) rfl
theorem p_1243 : Cond.selects RX13 yX13_due yX13_due ∈ WALL := WALL_in (List.mem_append_right _ (List.mem_append_right _ (List.mem_append_right _ (List.mem_append_right _ (List.mem_append_right _ (List.mem_append_right _ (List.mem_append_left _ (List.mem_of_getElem? (i := 19) rfl)))))))) rfl
theorem p_1244 : Cond.code yX13_due cX13_due 2 (some .int) ∈ WALL := WALL_in (List.mem_append_right _ (List.mem_append_right _ (List.mem_append_right _ (List.mem_append_right _ (List.mem_append_right _ (List.mem_append_right _ (List.mem_append_left _ (List.mem_of_getElem? (i := 20) rfl)))))))) rfl
theorem p_1245 : Cond.methodLink RX13 117 yX13_back ∈ WALL := WALL_in (List.mem_append_right _ (List.mem_append_right _ (List.mem_append_right _ (List.mem_append_right _ (List.mem_append_right _ (List.mem_append_right _ (List.mem_append_left _ (List.mem_of_getElem? (i := 21) rfl)))))))) rfl
theorem p_1246 : Cond.instanceMethod yX13_back ∈ WALL := WALL_in (List.mem_append_right _ (List.mem_append_right _ (List.mem_append_right _ (List.mem_append_right _ (List.mem_append_right _ (List.mem_append_right _ (List.mem_append_left _ (List.mem_of_getElem? (i := 22) rfl)))))))) rfl
theorem p_1247 : Cond.selects RX13 yX13_back yX13_back ∈ WALL := WALL_in (List.mem_append_right _ (List.mem_append_right _ (List.mem_append_right _ (List.mem_append_right _ (List.mem_append_right _ (List.mem_append_right _ (List.mem_append_left _ (List.mem_of_getElem? (i := 23) rfl)))))))) rfl
theorem p_1248 : Cond.code yX13_back cX13_back 4 none ∈ WALL := WALL_in (List.mem_append_right _ (List.mem_append_right _ (List.mem_append_right _ (List.mem_append_right _ (List.mem_append_right _ (List.mem_append_right _ (List.mem_append_left _ (List.mem_of_getElem? (i := 24) rfl)))))))) rfl
theorem p_1249 : Cond.methodLink RX13 112 yJ9_max_7cf53 ∈ WALL := WALL_in (List.mem_append_right _ (List.mem_append_right _ (List.mem_append_right _ (List.mem_append_right _ (List.mem_append_right _ (List.mem_append_right _ (List.mem_append_left _ (List.mem_of_getElem? (i := 25) rfl)))))))) rfl
theorem p_1250 : Cond.methodLink RX13 128 yX13_end ∈ WALL := WALL_in (List.mem_append_right _ (List.mem_append_right _ (List.mem_append_right _ (List.mem_append_right _ (List.mem_append_right _ (List.mem_append_right _ (List.mem_append_left _ (List.mem_of_getElem? (i := 26) rfl)))))))) rfl
theorem p_1251 : Cond.instanceMethod yX13_end ∈ WALL := WALL_in (List.mem_append_right _ (List.mem_append_right _ (List.mem_append_right _ (List.mem_append_right _ (List.mem_append_right _ (List.mem_append_right _ (List.mem_append_left _ (List.mem_of_getElem? (i := 27) rfl)))))))) rfl
theorem p_1252 : Cond.selects RX13 yX13_end yX13_end ∈ WALL := WALL_in (List.mem_append_right _ (List.mem_append_right _ (List.mem_append_right _ (List.mem_append_right _ (List.mem_append_right _ (List.mem_append_right _ (List.mem_append_left _ (List.mem_of_getElem? (i := 28) rfl)))))))) rfl
theorem p_1253 : Cond.code yX13_end cX13_end 2 (some .int) ∈ WALL := WALL_in (List.mem_append_right _ (List.mem_append_right _ (List.mem_append_right _ (List.mem_append_right _ (List.mem_append_right _ (List.mem_append_right _ (List.mem_append_left _ (List.mem_of_getElem? (i := 29) rfl)))))))) rfl
theorem p_1254 : Cond.methodLink RX13 121 yX13_cancel ∈ WALL := WALL_in (List.mem_append_right _ (List.mem_append_right _ (List.mem_append_right _ (List.mem_append_right _ (List.mem_append_right _ (List.mem_append_right _ (List.mem_append_left _ (List.mem_of_getElem? (i := 30) rfl)))))))) rfl
theorem p_1255 : Cond.instanceMethod yX13_cancel ∈ WALL := WALL_in (List.mem_append_right _ (List.mem_append_right _ (List.mem_append_right _ (List.mem_append_right _ (List.mem_append_right _ (List.mem_append_right _ (List.mem_append_left _ (List.mem_of_getElem? (i := 31) rfl)))))))) rfl
theorem p_1256 : Cond.selects RX13 yX13_cancel yX13_cancel ∈ WALL := WALL_in (List.mem_append_right _ (List.mem_append_right _ (List.mem_append_right _ (List.mem_append_right _ (List.mem_append_right _ (List.mem_append_right _ (List.mem_append_left _ (List.mem_of_getElem? (i := 32) rfl)))))))) rfl
theorem p_1257 : Cond.code yX13_cancel cX13_cancel 4 (some .int) ∈ WALL := WALL_in (List.mem_append_right _ (List.mem_append_right _ (List.mem_append_right _ (List.mem_append_right _ (List.mem_append_right _ (List.mem_append_right _ (List.mem_append_left _ (List.mem_of_getElem? (i := 33) rfl)))))))) rfl
theorem p_1333 : Cond.instanceMethod yX13_held ∈ WALL := WALL_in (List.mem_append_right _ (List.mem_append_right _ (List.mem_append_right _ (List.mem_append_right _ (List.mem_append_right _ (List.mem_append_right _ (List.mem_append_left _ (List.mem_of_getElem? (i := 109) rfl)))))))) rfl
theorem p_1334 : Cond.selects RX13 yX13_held yX13_held ∈ WALL := WALL_in (List.mem_append_right _ (List.mem_append_right _ (List.mem_append_right _ (List.mem_append_right _ (List.mem_append_right _ (List.mem_append_right _ (List.mem_append_left _ (List.mem_of_getElem? (i := 110) rfl)))))))) rfl
theorem p_1335 : Cond.code yX13_held cX13_held 4 (some .int) ∈ WALL := WALL_in (List.mem_append_right _ (List.mem_append_right _ (List.mem_append_right _ (List.mem_append_right _ (List.mem_append_right _ (List.mem_append_right _ (List.mem_append_left _ (List.mem_of_getElem? (i := 111) rfl)))))))) rfl
theorem p_1552 : Cond.instanceMethod yX13_fake ∈ WALL := WALL_in (List.mem_append_right _ (List.mem_append_right _ (List.mem_append_right _ (List.mem_append_right _ (List.mem_append_right _ (List.mem_append_right _ (List.mem_append_right _ (List.mem_of_getElem? (i := 88) rfl)))))))) rfl
theorem p_1553 : Cond.selects RX13 yX13_fake yX13_fake ∈ WALL := WALL_in (List.mem_append_right _ (List.mem_append_right _ (List.mem_append_right _ (List.mem_append_right _ (List.mem_append_right _ (List.mem_append_right _ (List.mem_append_right _ (List.mem_of_getElem? (i := 89) rfl)))))))) rfl
theorem p_1554 : Cond.code yX13_fake cX13_fake 6 (some .int) ∈ WALL := WALL_in (List.mem_append_right _ (List.mem_append_right _ (List.mem_append_right _ (List.mem_append_right _ (List.mem_append_right _ (List.mem_append_right _ (List.mem_append_right _ (List.mem_of_getElem? (i := 90) rfl)))))))) rfl
/-! THE LAW's WORLD: its methods by program: pure text and contract -/
theorem ne_e {y : Int32} (h : (!decide (y = 0)) = true) : ¬ y = 0 := by
  simpa using h
abbrev rmX13_due : Room := { frames := 0, cells := 0, slots := 0, locals := 0 }
theorem miX13_due : MI yX13_due cX13_due 2 (some .int) 1 := ⟨p_1244, p_25, by decide +kernel, by decide +kernel, by decide +kernel, by decide +kernel⟩
theorem mvX13_due : MV yX13_due := ⟨p_1242, p_1243⟩
def FW_due (M : MM) (j1 : Nat) : Option Int32 :=
  gd (inb (M.1 j1 1) 8) <|
  some ((M.1 j1 5) + ((M.1 (2 + (M.1 j1 1).toNatClampNeg) 0) * ((M.1 j1 7) + 1)))
set_option maxHeartbeats 4000000 in
set_option maxRecDepth 100000 in
theorem ctW_due {G : GG} {l : Launch} (M : MM) (j1 : Nat) (hj1 : 20 ≤ j1 ∧ j1 < 50) {rx : Int32} (hF : FW_due M j1 = some rx) : CTP G l yX13_due cX13_due 2 (some .int) rmX13_due 0 0 [.ref (adW G 0), .ref (adW G j1)] (WH G Tr M) (fun v9 H => v9 = some (.int rx) ∧ WH G Tr M H) := by
  refine CTP.of miX13_due [(0, .ref (adW G 0)), (1, .ref (adW G j1))] rfl (Nat.le_of_ble_eq_true rfl) ?_
  intro p e s m args below meth c hX hR hlk
  have hX : FX G RX13 cX13_due 2 p s m args c := hX
  unfold FW_due at hF
  refine J_aload_n hX dX13_due_0 1 rfl (t := 1) rfl ?_
  refine J_iconst (v := 5) hX dX13_due_1 (by decide) (t := 2) rfl ?_
  refine J_wAld (n := 9) hX (kWs hj1) (by decide) rfl dX13_due_2 (t := 3) rfl ?_
  refine J_aload_n hX dX13_due_3 0 rfl (t := 4) rfl ?_
  refine J_wGet hX 8 (by decide) p_1035 rfl dX13_due_4 (t := 7) rfl ?_
  refine J_aload_n hX dX13_due_7 1 rfl (t := 8) rfl ?_
  refine J_iconst (v := 1) hX dX13_due_8 (by decide) (t := 9) rfl ?_
  refine J_wAld (n := 9) hX (kWs hj1) (by decide) rfl dX13_due_9 (t := 10) rfl ?_
  obtain ⟨g1, hF⟩ := gd_e hF
  refine J_wAv hX g1 dX13_due_10 (t := 11) rfl ?_
  refine J_iconst (v := 0) hX dX13_due_11 (by decide) (t := 12) rfl ?_
  refine J_wAld (n := 6) hX (kWv (inbR g1)) (by decide) rfl dX13_due_12 (t := 13) rfl ?_
  refine J_aload_n hX dX13_due_13 1 rfl (t := 14) rfl ?_
  refine J_bipush (v := 7) hX dX13_due_14 (by decide) (t := 16) rfl ?_
  refine J_wAld (n := 9) hX (kWs hj1) (by decide) rfl dX13_due_16 (t := 17) rfl ?_
  refine J_iconst (v := 1) hX dX13_due_17 (by decide) (t := 18) rfl ?_
  refine J_iadd hX dX13_due_18 (t := 19) rfl ?_
  refine J_imul hX dX13_due_19 (t := 20) rfl ?_
  refine J_iadd hX dX13_due_20 (t := 21) rfl ?_
  replace hF := Option.some.inj hF
  subst hF
  exact J_iretP hX hR hlk (fun H h => ⟨rfl, h⟩) dX13_due_21
abbrev rmX13_end : Room := { frames := 0, cells := 0, slots := 0, locals := 0 }
theorem miX13_end : MI yX13_end cX13_end 2 (some .int) 1 := ⟨p_1253, p_25, by decide +kernel, by decide +kernel, by decide +kernel, by decide +kernel⟩
theorem mvX13_end : MV yX13_end := ⟨p_1251, p_1252⟩
def FW_end (M : MM) (j1 : Nat) : Option Int32 :=
  gd (inb (M.1 j1 0) 8) <|
  some ((M.1 j1 5) + (M.1 (11 + (M.1 j1 0).toNatClampNeg) 0))
set_option maxHeartbeats 4000000 in
set_option maxRecDepth 100000 in
theorem ctW_end {G : GG} {l : Launch} (M : MM) (j1 : Nat) (hj1 : 20 ≤ j1 ∧ j1 < 50) {rx : Int32} (hF : FW_end M j1 = some rx) : CTP G l yX13_end cX13_end 2 (some .int) rmX13_end 0 0 [.ref (adW G 0), .ref (adW G j1)] (WH G Tr M) (fun v9 H => v9 = some (.int rx) ∧ WH G Tr M H) := by
  refine CTP.of miX13_end [(0, .ref (adW G 0)), (1, .ref (adW G j1))] rfl (Nat.le_of_ble_eq_true rfl) ?_
  intro p e s m args below meth c hX hR hlk
  have hX : FX G RX13 cX13_end 2 p s m args c := hX
  unfold FW_end at hF
  refine J_aload_n hX dX13_end_0 1 rfl (t := 1) rfl ?_
  refine J_iconst (v := 5) hX dX13_end_1 (by decide) (t := 2) rfl ?_
  refine J_wAld (n := 9) hX (kWs hj1) (by decide) rfl dX13_end_2 (t := 3) rfl ?_
  refine J_aload_n hX dX13_end_3 0 rfl (t := 4) rfl ?_
  refine J_wGet hX 9 (by decide) p_1037 rfl dX13_end_4 (t := 7) rfl ?_
  refine J_aload_n hX dX13_end_7 1 rfl (t := 8) rfl ?_
  refine J_iconst (v := 0) hX dX13_end_8 (by decide) (t := 9) rfl ?_
  refine J_wAld (n := 9) hX (kWs hj1) (by decide) rfl dX13_end_9 (t := 10) rfl ?_
  obtain ⟨g1, hF⟩ := gd_e hF
  refine J_wAc hX g1 dX13_end_10 (t := 11) rfl ?_
  refine J_iconst (v := 0) hX dX13_end_11 (by decide) (t := 12) rfl ?_
  refine J_wAld (n := 4) hX (kWc (inbR g1)) (by decide) rfl dX13_end_12 (t := 13) rfl ?_
  refine J_iadd hX dX13_end_13 (t := 14) rfl ?_
  replace hF := Option.some.inj hF
  subst hF
  exact J_iretP hX hR hlk (fun H h => ⟨rfl, h⟩) dX13_end_14
abbrev rmX13_held : Room := { frames := 0, cells := 0, slots := 0, locals := 0 }
theorem miX13_held : MI yX13_held cX13_held 4 (some .int) 1 := ⟨p_1335, p_25, by decide +kernel, by decide +kernel, by decide +kernel, by decide +kernel⟩
theorem mvX13_held : MV yX13_held := ⟨p_1333, p_1334⟩
def FW_held_B72 (n : Nat) (rc4 : MM → Int32 → Int32 → Int32 → Option Int32) (M : MM) (l1 : Int32) (l3 : Int32) (y0 : Int32) (y1 : Int32) : Option Int32 :=
  rc4 M l1 (y1 + y0) (l3 + 1)
set_option maxHeartbeats 4000000 in
set_option maxRecDepth 100000 in
theorem BW_held_72 {G : GG} {l : Launch} {p : Program} {e : Env} {s : State} {m : MethodId} {args : Array Value} {below : List Frame} {meth : Method} {c : Code} (hX : FX G RX13 cX13_held 4 p s m args c) (hR : meth.sig.returnType = (some .int)) (hlk : meth.locks = false) {rx : Int32} (n : Nat) (rc4 : MM → Int32 → Int32 → Int32 → Option Int32) (hrc4 : ∀ (M : MM) (l1 : Int32) (l2 : Int32) (l3 : Int32) , rc4 M l1 l2 l3 = some rx → J G p l e rmX13_held s m args below meth c 4 0 0 (MQ below (QP G (fun v9 H => v9 = some (.int rx) ∧ WH G Tr M H)) args s 0 0 (gA G)) (WH G Tr M) 4 [(0, .ref (adW G 0)), (1, .int l1), (2, .int l2), (3, .int l3)] []) (M : MM) (l1 : Int32) (l3 : Int32) (y0 : Int32) (y1 : Int32)  (hF : FW_held_B72 n rc4 M l1 l3 y0 y1 = some rx) : J G p l e rmX13_held s m args below meth c 4 0 0 (MQ below (QP G (fun v9 H => v9 = some (.int rx) ∧ WH G Tr M H)) args s 0 0 (gA G)) (WH G Tr M) 72 [(0, .ref (adW G 0)), (1, .int l1), (3, .int l3)] [.int y0, .int y1] := by
  unfold FW_held_B72 at hF
  refine J_iadd hX dX13_held_72 (t := 73) rfl ?_
  refine J_istore_n (lc2 := [(2, .int (y1 + y0)), (0, .ref (adW G 0)), (1, .int l1), (3, .int l3)]) hX dX13_held_73 rfl (Nat.le_of_ble_eq_true rfl) rfl (t := 74) rfl ?_
  refine J_iinc (v := l3 + 1) (lc2 := [(3, .int (l3 + 1)), (2, .int (y1 + y0)), (0, .ref (adW G 0)), (1, .int l1)]) hX dX13_held_74 3 rfl rfl (Nat.le_of_ble_eq_true rfl) rfl (t := 77) rfl ?_
  refine J_goto (tgt := 4) hX dX13_held_77 (by decide) ?_
  refine J_sub (lc2 := [(0, .ref (adW G 0)), (1, .int l1), (2, .int (y1 + y0)), (3, .int (l3 + 1))]) [2, 3, 1, 0] rfl ?_
  exact hrc4 M l1 (y1 + y0) (l3 + 1) hF
def FW_held_B71 (n : Nat) (rc4 : MM → Int32 → Int32 → Int32 → Option Int32) (M : MM) (l1 : Int32) (l3 : Int32) (y0 : Int32) : Option Int32 :=
  FW_held_B72 n rc4 M l1 l3 0 y0
set_option maxHeartbeats 4000000 in
set_option maxRecDepth 100000 in
theorem BW_held_71 {G : GG} {l : Launch} {p : Program} {e : Env} {s : State} {m : MethodId} {args : Array Value} {below : List Frame} {meth : Method} {c : Code} (hX : FX G RX13 cX13_held 4 p s m args c) (hR : meth.sig.returnType = (some .int)) (hlk : meth.locks = false) {rx : Int32} (n : Nat) (rc4 : MM → Int32 → Int32 → Int32 → Option Int32) (hrc4 : ∀ (M : MM) (l1 : Int32) (l2 : Int32) (l3 : Int32) , rc4 M l1 l2 l3 = some rx → J G p l e rmX13_held s m args below meth c 4 0 0 (MQ below (QP G (fun v9 H => v9 = some (.int rx) ∧ WH G Tr M H)) args s 0 0 (gA G)) (WH G Tr M) 4 [(0, .ref (adW G 0)), (1, .int l1), (2, .int l2), (3, .int l3)] []) (M : MM) (l1 : Int32) (l3 : Int32) (y0 : Int32)  (hF : FW_held_B71 n rc4 M l1 l3 y0 = some rx) : J G p l e rmX13_held s m args below meth c 4 0 0 (MQ below (QP G (fun v9 H => v9 = some (.int rx) ∧ WH G Tr M H)) args s 0 0 (gA G)) (WH G Tr M) 71 [(0, .ref (adW G 0)), (1, .int l1), (3, .int l3)] [.int y0] := by
  unfold FW_held_B71 at hF
  refine J_iconst (v := 0) hX dX13_held_71 (by decide) (t := 72) rfl ?_
  refine J_sub (lc2 := [(0, .ref (adW G 0)), (1, .int l1), (3, .int l3)]) [0, 1, 2] rfl ?_
  exact BW_held_72 hX hR hlk n rc4 hrc4 M l1 l3 0 y0 hF
def FW_held_B41 (n : Nat) (rc4 : MM → Int32 → Int32 → Int32 → Option Int32) (M : MM) (l1 : Int32) (l3 : Int32) (y0 : Int32) : Option Int32 :=
  gd (inb l3 30) <|
  gd (inb l3 30) <|
  gd (inb l3 30) <|
  FW_held_B72 n rc4 M l1 l3 ((M.1 (20 + l3.toNatClampNeg) 4) * ((M.1 (20 + l3.toNatClampNeg) 3) - (M.1 (20 + l3.toNatClampNeg) 7))) y0
set_option maxHeartbeats 4000000 in
set_option maxRecDepth 100000 in
theorem BW_held_41 {G : GG} {l : Launch} {p : Program} {e : Env} {s : State} {m : MethodId} {args : Array Value} {below : List Frame} {meth : Method} {c : Code} (hX : FX G RX13 cX13_held 4 p s m args c) (hR : meth.sig.returnType = (some .int)) (hlk : meth.locks = false) {rx : Int32} (n : Nat) (rc4 : MM → Int32 → Int32 → Int32 → Option Int32) (hrc4 : ∀ (M : MM) (l1 : Int32) (l2 : Int32) (l3 : Int32) , rc4 M l1 l2 l3 = some rx → J G p l e rmX13_held s m args below meth c 4 0 0 (MQ below (QP G (fun v9 H => v9 = some (.int rx) ∧ WH G Tr M H)) args s 0 0 (gA G)) (WH G Tr M) 4 [(0, .ref (adW G 0)), (1, .int l1), (2, .int l2), (3, .int l3)] []) (M : MM) (l1 : Int32) (l3 : Int32) (y0 : Int32)  (hF : FW_held_B41 n rc4 M l1 l3 y0 = some rx) : J G p l e rmX13_held s m args below meth c 4 0 0 (MQ below (QP G (fun v9 H => v9 = some (.int rx) ∧ WH G Tr M H)) args s 0 0 (gA G)) (WH G Tr M) 41 [(0, .ref (adW G 0)), (1, .int l1), (3, .int l3)] [.int y0] := by
  unfold FW_held_B41 at hF
  refine J_aload_n hX dX13_held_41 0 rfl (t := 42) rfl ?_
  refine J_wGet hX 10 (by decide) p_1039 rfl dX13_held_42 (t := 45) rfl ?_
  refine J_iload_n hX dX13_held_45 2 rfl (t := 46) rfl ?_
  obtain ⟨g2, hF⟩ := gd_e hF
  refine J_wAs hX g2 dX13_held_46 (t := 47) rfl ?_
  refine J_iconst (v := 4) hX dX13_held_47 (by decide) (t := 48) rfl ?_
  refine J_wAld (n := 9) hX (kWs (inbR g2)) (by decide) rfl dX13_held_48 (t := 49) rfl ?_
  refine J_aload_n hX dX13_held_49 0 rfl (t := 50) rfl ?_
  refine J_wGet hX 10 (by decide) p_1039 rfl dX13_held_50 (t := 53) rfl ?_
  refine J_iload_n hX dX13_held_53 2 rfl (t := 54) rfl ?_
  obtain ⟨g3, hF⟩ := gd_e hF
  refine J_wAs hX g3 dX13_held_54 (t := 55) rfl ?_
  refine J_iconst (v := 3) hX dX13_held_55 (by decide) (t := 56) rfl ?_
  refine J_wAld (n := 9) hX (kWs (inbR g3)) (by decide) rfl dX13_held_56 (t := 57) rfl ?_
  refine J_aload_n hX dX13_held_57 0 rfl (t := 58) rfl ?_
  refine J_wGet hX 10 (by decide) p_1039 rfl dX13_held_58 (t := 61) rfl ?_
  refine J_iload_n hX dX13_held_61 2 rfl (t := 62) rfl ?_
  obtain ⟨g4, hF⟩ := gd_e hF
  refine J_wAs hX g4 dX13_held_62 (t := 63) rfl ?_
  refine J_bipush (v := 7) hX dX13_held_63 (by decide) (t := 65) rfl ?_
  refine J_wAld (n := 9) hX (kWs (inbR g4)) (by decide) rfl dX13_held_65 (t := 66) rfl ?_
  refine J_isub hX dX13_held_66 (t := 67) rfl ?_
  refine J_imul hX dX13_held_67 (t := 68) rfl ?_
  refine J_goto (tgt := 72) hX dX13_held_68 (by decide) ?_
  refine J_sub (lc2 := [(0, .ref (adW G 0)), (1, .int l1), (3, .int l3)]) [0, 1, 2] rfl ?_
  exact BW_held_72 hX hR hlk n rc4 hrc4 M l1 l3 ((M.1 (20 + l3.toNatClampNeg) 4) * ((M.1 (20 + l3.toNatClampNeg) 3) - (M.1 (20 + l3.toNatClampNeg) 7))) y0 hF
def FW_held_L4 (n : Nat) : Nat → MM → Int32 → Int32 → Int32 → Option Int32
  | 0 => fun _ _ _ _ => none
  | k + 1 => fun M l1 l2 l3 =>
    let rc4 := FW_held_L4 n k
    if M.1 0 2 ≤ l3 then
      some l2
    else
      gd (inb l3 30) <|
      if M.1 (20 + l3.toNatClampNeg) 6 = 0 then
        if l1 < 0 then
          FW_held_B41 n rc4 M l1 l3 l2
        else
          gd (inb l3 30) <|
          if M.1 (20 + l3.toNatClampNeg) 0 = l1 then
            FW_held_B41 n rc4 M l1 l3 l2
          else
            FW_held_B71 n rc4 M l1 l3 l2
      else
        FW_held_B71 n rc4 M l1 l3 l2
set_option maxHeartbeats 4000000 in
set_option maxRecDepth 100000 in
theorem LW_held_4 {G : GG} {l : Launch} {p : Program} {e : Env} {s : State} {m : MethodId} {args : Array Value} {below : List Frame} {meth : Method} {c : Code} (hX : FX G RX13 cX13_held 4 p s m args c) (hR : meth.sig.returnType = (some .int)) (hlk : meth.locks = false) {rx : Int32} (n : Nat) : ∀ (k : Nat) (M : MM) (l1 : Int32) (l2 : Int32) (l3 : Int32) , FW_held_L4 n k M l1 l2 l3 = some rx → J G p l e rmX13_held s m args below meth c 4 0 0 (MQ below (QP G (fun v9 H => v9 = some (.int rx) ∧ WH G Tr M H)) args s 0 0 (gA G)) (WH G Tr M) 4 [(0, .ref (adW G 0)), (1, .int l1), (2, .int l2), (3, .int l3)] [] := by
  intro k
  induction k with
  | zero => intro M l1 l2 l3  hF; cases hF
  | succ k ih =>
    intro M l1 l2 l3  hF
    simp only [FW_held_L4] at hF
    generalize hrcd : FW_held_L4 n k = rc4 at hF ih
    have hrc4 := ih
    refine J_iload_n hX dX13_held_4 3 rfl (t := 5) rfl ?_
    refine J_aload_n hX dX13_held_5 0 rfl (t := 6) rfl ?_
    refine J_wGet hX 2 (by decide) p_1025 rfl dX13_held_6 (t := 9) rfl ?_
    refine J_icmp_ge (tgt := 80) hX dX13_held_9 (by decide) (t := 12) rfl (fun zc => ?_) (fun zc => ?_)
    · replace hF := it_t hF zc
      refine J_iload_n hX dX13_held_80 2 rfl (t := 81) rfl ?_
      replace hF := Option.some.inj hF
      subst hF
      exact J_iretP hX hR hlk (fun H h => ⟨rfl, h⟩) dX13_held_81
    · replace hF := it_f hF zc
      refine J_iload_n hX dX13_held_12 2 rfl (t := 13) rfl ?_
      refine J_aload_n hX dX13_held_13 0 rfl (t := 14) rfl ?_
      refine J_wGet hX 10 (by decide) p_1039 rfl dX13_held_14 (t := 17) rfl ?_
      refine J_iload_n hX dX13_held_17 3 rfl (t := 18) rfl ?_
      obtain ⟨g1, hF⟩ := gd_e hF
      refine J_wAs hX g1 dX13_held_18 (t := 19) rfl ?_
      refine J_bipush (v := 6) hX dX13_held_19 (by decide) (t := 21) rfl ?_
      refine J_wAld (n := 9) hX (kWs (inbR g1)) (by decide) rfl dX13_held_21 (t := 22) rfl ?_
      refine J_if_ne (tgt := 71) hX dX13_held_22 (by decide) (t := 25) rfl (fun zc => ?_) (fun zc => ?_)
      · replace hF := it_f hF zc
        refine J_sub (lc2 := [(0, .ref (adW G 0)), (1, .int l1), (3, .int l3)]) [0, 1, 3] rfl ?_
        exact BW_held_71 hX hR hlk n rc4 hrc4 M l1 l3 l2 hF
      · replace hF := it_t hF zc
        refine J_iload_n hX dX13_held_25 1 rfl (t := 26) rfl ?_
        refine J_if_lt (tgt := 41) hX dX13_held_26 (by decide) (t := 29) rfl (fun zc => ?_) (fun zc => ?_)
        · replace hF := it_t hF zc
          refine J_sub (lc2 := [(0, .ref (adW G 0)), (1, .int l1), (3, .int l3)]) [0, 1, 3] rfl ?_
          exact BW_held_41 hX hR hlk n rc4 hrc4 M l1 l3 l2 hF
        · replace hF := it_f hF zc
          refine J_aload_n hX dX13_held_29 0 rfl (t := 30) rfl ?_
          refine J_wGet hX 10 (by decide) p_1039 rfl dX13_held_30 (t := 33) rfl ?_
          refine J_iload_n hX dX13_held_33 3 rfl (t := 34) rfl ?_
          obtain ⟨g5, hF⟩ := gd_e hF
          refine J_wAs hX g5 dX13_held_34 (t := 35) rfl ?_
          refine J_iconst (v := 0) hX dX13_held_35 (by decide) (t := 36) rfl ?_
          refine J_wAld (n := 9) hX (kWs (inbR g5)) (by decide) rfl dX13_held_36 (t := 37) rfl ?_
          refine J_iload_n hX dX13_held_37 1 rfl (t := 38) rfl ?_
          refine J_icmp_ne (tgt := 71) hX dX13_held_38 (by decide) (t := 41) rfl (fun zc => ?_) (fun zc => ?_)
          · replace hF := it_f hF zc
            refine J_sub (lc2 := [(0, .ref (adW G 0)), (1, .int l1), (3, .int l3)]) [0, 1, 3] rfl ?_
            exact BW_held_71 hX hR hlk n rc4 hrc4 M l1 l3 l2 hF
          · replace hF := it_t hF zc
            refine J_sub (lc2 := [(0, .ref (adW G 0)), (1, .int l1), (3, .int l3)]) [0, 1, 3] rfl ?_
            exact BW_held_41 hX hR hlk n rc4 hrc4 M l1 l3 l2 hF
def FW_held (n : Nat) (M : MM) (p1 : Int32) : Option Int32 :=
  FW_held_L4 n n M p1 0 0
set_option maxHeartbeats 4000000 in
set_option maxRecDepth 100000 in
theorem ctW_held {G : GG} {l : Launch} (M : MM) (p1 : Int32)  (n : Nat) {rx : Int32} (hF : FW_held n M p1 = some rx) : CTP G l yX13_held cX13_held 4 (some .int) rmX13_held 0 0 [.ref (adW G 0), .int p1] (WH G Tr M) (fun v9 H => v9 = some (.int rx) ∧ WH G Tr M H) := by
  refine CTP.of miX13_held [(0, .ref (adW G 0)), (1, .int p1)] rfl (Nat.le_of_ble_eq_true rfl) ?_
  intro p e s m args below meth c hX hR hlk
  have hX : FX G RX13 cX13_held 4 p s m args c := hX
  unfold FW_held at hF
  refine J_iconst (v := 0) hX dX13_held_0 (by decide) (t := 1) rfl ?_
  refine J_istore_n (lc2 := [(2, .int 0), (0, .ref (adW G 0)), (1, .int p1)]) hX dX13_held_1 rfl (Nat.le_of_ble_eq_true rfl) rfl (t := 2) rfl ?_
  refine J_iconst (v := 0) hX dX13_held_2 (by decide) (t := 3) rfl ?_
  refine J_istore_n (lc2 := [(3, .int 0), (2, .int 0), (0, .ref (adW G 0)), (1, .int p1)]) hX dX13_held_3 rfl (Nat.le_of_ble_eq_true rfl) rfl (t := 4) rfl ?_
  refine J_sub (lc2 := [(0, .ref (adW G 0)), (1, .int p1), (2, .int 0), (3, .int 0)]) [2, 3, 1, 0] rfl ?_
  exact LW_held_4 hX hR hlk n n M p1 0 0 hF
abbrev rmX13_refusal : Room := { frames := 0, cells := 0, slots := 0, locals := 0 }
theorem miX13_refusal : MI yX13_refusal cX13_refusal 6 (some .int) 3 := ⟨p_1230, p_25, by decide +kernel, by decide +kernel, by decide +kernel, by decide +kernel⟩
theorem mvX13_refusal : MV yX13_refusal := ⟨p_1228, p_1229⟩
def FW_refusal_B126 (n : Nat) (rc22 : MM → Int32 → Int32 → Int32 → Int32 → Int32 → Option Int32) (M : MM) (y0 : Int32) : Option Int32 :=
  if M.1 0 2 = 30 then
    some 1
  else
    some y0
set_option maxHeartbeats 4000000 in
set_option maxRecDepth 100000 in
theorem BW_refusal_126 {G : GG} {l : Launch} {p : Program} {e : Env} {s : State} {m : MethodId} {args : Array Value} {below : List Frame} {meth : Method} {c : Code} (hX : FX G RX13 cX13_refusal 6 p s m args c) (hR : meth.sig.returnType = (some .int)) (hlk : meth.locks = false) {rx : Int32} (n : Nat) (rc22 : MM → Int32 → Int32 → Int32 → Int32 → Int32 → Option Int32) (hrc22 : ∀ (M : MM) (l1 : Int32) (l2 : Int32) (l3 : Int32) (l4 : Int32) (l5 : Int32) , rc22 M l1 l2 l3 l4 l5 = some rx → J G p l e rmX13_refusal s m args below meth c 6 0 0 (MQ below (QP G (fun v9 H => v9 = some (.int rx) ∧ WH G Tr M H)) args s 0 0 (gA G)) (WH G Tr M) 22 [(0, .ref (adW G 0)), (1, .int l1), (2, .int l2), (3, .int l3), (4, .int l4), (5, .int l5)] []) (M : MM) (y0 : Int32)  (hF : FW_refusal_B126 n rc22 M y0 = some rx) : J G p l e rmX13_refusal s m args below meth c 6 0 0 (MQ below (QP G (fun v9 H => v9 = some (.int rx) ∧ WH G Tr M H)) args s 0 0 (gA G)) (WH G Tr M) 126 [(0, .ref (adW G 0))] [.int y0] := by
  unfold FW_refusal_B126 at hF
  refine J_istore (lc2 := [(4, .int y0), (0, .ref (adW G 0))]) hX dX13_refusal_126 (Nat.le_of_ble_eq_true rfl) rfl (t := 128) rfl ?_
  refine J_aload_n hX dX13_refusal_128 1 rfl (t := 129) rfl ?_
  refine J_wGet hX 2 (by decide) p_1025 rfl dX13_refusal_129 (t := 132) rfl ?_
  refine J_bipush (v := 30) hX dX13_refusal_132 (by decide) (t := 134) rfl ?_
  refine J_icmp_ne (tgt := 141) hX dX13_refusal_134 (by decide) (t := 137) rfl (fun zc => ?_) (fun zc => ?_)
  · replace hF := it_f hF zc
    refine J_iload hX dX13_refusal_141 0 rfl (t := 143) rfl ?_
    replace hF := Option.some.inj hF
    subst hF
    exact J_iretP hX hR hlk (fun H h => ⟨rfl, h⟩) dX13_refusal_143
  · replace hF := it_t hF zc
    refine J_iconst (v := 1) hX dX13_refusal_137 (by decide) (t := 138) rfl ?_
    refine J_goto (tgt := 143) hX dX13_refusal_138 (by decide) ?_
    replace hF := Option.some.inj hF
    subst hF
    exact J_iretP hX hR hlk (fun H h => ⟨rfl, h⟩) dX13_refusal_143
def FW_refusal_B106 (n : Nat) (rc22 : MM → Int32 → Int32 → Int32 → Int32 → Int32 → Option Int32) (M : MM) (l2 : Int32) (l3 : Int32) (y0 : Int32) : Option Int32 :=
  gd (inb l2 8) <|
  if l3 ≤ M.1 (2 + l2.toNatClampNeg) 1 then
    FW_refusal_B126 n rc22 M y0
  else
    FW_refusal_B126 n rc22 M 2
set_option maxHeartbeats 4000000 in
set_option maxRecDepth 100000 in
theorem BW_refusal_106 {G : GG} {l : Launch} {p : Program} {e : Env} {s : State} {m : MethodId} {args : Array Value} {below : List Frame} {meth : Method} {c : Code} (hX : FX G RX13 cX13_refusal 6 p s m args c) (hR : meth.sig.returnType = (some .int)) (hlk : meth.locks = false) {rx : Int32} (n : Nat) (rc22 : MM → Int32 → Int32 → Int32 → Int32 → Int32 → Option Int32) (hrc22 : ∀ (M : MM) (l1 : Int32) (l2 : Int32) (l3 : Int32) (l4 : Int32) (l5 : Int32) , rc22 M l1 l2 l3 l4 l5 = some rx → J G p l e rmX13_refusal s m args below meth c 6 0 0 (MQ below (QP G (fun v9 H => v9 = some (.int rx) ∧ WH G Tr M H)) args s 0 0 (gA G)) (WH G Tr M) 22 [(0, .ref (adW G 0)), (1, .int l1), (2, .int l2), (3, .int l3), (4, .int l4), (5, .int l5)] []) (M : MM) (l2 : Int32) (l3 : Int32) (y0 : Int32)  (hF : FW_refusal_B106 n rc22 M l2 l3 y0 = some rx) : J G p l e rmX13_refusal s m args below meth c 6 0 0 (MQ below (QP G (fun v9 H => v9 = some (.int rx) ∧ WH G Tr M H)) args s 0 0 (gA G)) (WH G Tr M) 106 [(0, .ref (adW G 0)), (2, .int l2), (3, .int l3)] [.int y0] := by
  unfold FW_refusal_B106 at hF
  refine J_istore (lc2 := [(4, .int y0), (0, .ref (adW G 0)), (2, .int l2), (3, .int l3)]) hX dX13_refusal_106 (Nat.le_of_ble_eq_true rfl) rfl (t := 108) rfl ?_
  refine J_iload_n hX dX13_refusal_108 3 rfl (t := 109) rfl ?_
  refine J_aload_n hX dX13_refusal_109 1 rfl (t := 110) rfl ?_
  refine J_wGet hX 8 (by decide) p_1035 rfl dX13_refusal_110 (t := 113) rfl ?_
  refine J_iload_n hX dX13_refusal_113 2 rfl (t := 114) rfl ?_
  obtain ⟨g4, hF⟩ := gd_e hF
  refine J_wAv hX g4 dX13_refusal_114 (t := 115) rfl ?_
  refine J_iconst (v := 1) hX dX13_refusal_115 (by decide) (t := 116) rfl ?_
  refine J_wAld (n := 6) hX (kWv (inbR g4)) (by decide) rfl dX13_refusal_116 (t := 117) rfl ?_
  refine J_icmp_le (tgt := 124) hX dX13_refusal_117 (by decide) (t := 120) rfl (fun zc => ?_) (fun zc => ?_)
  · replace hF := it_t hF zc
    refine J_iload hX dX13_refusal_124 0 rfl (t := 126) rfl ?_
    refine J_sub (lc2 := [(0, .ref (adW G 0))]) [1] rfl ?_
    exact BW_refusal_126 hX hR hlk n rc22 hrc22 M y0 hF
  · replace hF := it_f hF zc
    refine J_iconst (v := 2) hX dX13_refusal_120 (by decide) (t := 121) rfl ?_
    refine J_goto (tgt := 126) hX dX13_refusal_121 (by decide) ?_
    refine J_sub (lc2 := [(0, .ref (adW G 0))]) [1] rfl ?_
    exact BW_refusal_126 hX hR hlk n rc22 hrc22 M 2 hF
def FW_refusal_B73 (n : Nat) (rc22 : MM → Int32 → Int32 → Int32 → Int32 → Int32 → Option Int32) (M : MM) (l1 : Int32) (l2 : Int32) (l3 : Int32) (l4 : Int32) (l5 : Int32) : Option Int32 :=
  rc22 M l1 l2 l3 l4 (l5 + 1)
set_option maxHeartbeats 4000000 in
set_option maxRecDepth 100000 in
theorem BW_refusal_73 {G : GG} {l : Launch} {p : Program} {e : Env} {s : State} {m : MethodId} {args : Array Value} {below : List Frame} {meth : Method} {c : Code} (hX : FX G RX13 cX13_refusal 6 p s m args c) (hR : meth.sig.returnType = (some .int)) (hlk : meth.locks = false) {rx : Int32} (n : Nat) (rc22 : MM → Int32 → Int32 → Int32 → Int32 → Int32 → Option Int32) (hrc22 : ∀ (M : MM) (l1 : Int32) (l2 : Int32) (l3 : Int32) (l4 : Int32) (l5 : Int32) , rc22 M l1 l2 l3 l4 l5 = some rx → J G p l e rmX13_refusal s m args below meth c 6 0 0 (MQ below (QP G (fun v9 H => v9 = some (.int rx) ∧ WH G Tr M H)) args s 0 0 (gA G)) (WH G Tr M) 22 [(0, .ref (adW G 0)), (1, .int l1), (2, .int l2), (3, .int l3), (4, .int l4), (5, .int l5)] []) (M : MM) (l1 : Int32) (l2 : Int32) (l3 : Int32) (l4 : Int32) (l5 : Int32)  (hF : FW_refusal_B73 n rc22 M l1 l2 l3 l4 l5 = some rx) : J G p l e rmX13_refusal s m args below meth c 6 0 0 (MQ below (QP G (fun v9 H => v9 = some (.int rx) ∧ WH G Tr M H)) args s 0 0 (gA G)) (WH G Tr M) 73 [(0, .ref (adW G 0)), (1, .int l1), (2, .int l2), (3, .int l3), (4, .int l4), (5, .int l5)] [] := by
  unfold FW_refusal_B73 at hF
  refine J_iinc (v := l5 + 1) (lc2 := [(5, .int (l5 + 1)), (0, .ref (adW G 0)), (1, .int l1), (2, .int l2), (3, .int l3), (4, .int l4)]) hX dX13_refusal_73 5 rfl rfl (Nat.le_of_ble_eq_true rfl) rfl (t := 76) rfl ?_
  refine J_goto (tgt := 22) hX dX13_refusal_76 (by decide) ?_
  refine J_sub (lc2 := [(0, .ref (adW G 0)), (1, .int l1), (2, .int l2), (3, .int l3), (4, .int l4), (5, .int (l5 + 1))]) [1, 2, 3, 4, 5, 0] rfl ?_
  exact hrc22 M l1 l2 l3 l4 (l5 + 1) hF
def FW_refusal_L22 (n : Nat) : Nat → MM → Int32 → Int32 → Int32 → Int32 → Int32 → Option Int32
  | 0 => fun _ _ _ _ _ _ => none
  | k + 1 => fun M l1 l2 l3 l4 l5 =>
    let rc22 := FW_refusal_L22 n k
    if M.1 0 2 ≤ l5 then
      gd (inb l1 8) <|
      gd (inb l2 8) <|
      if (M.1 (2 + l2.toNatClampNeg) 2) * l3 ≤ M.1 (11 + l1.toNatClampNeg) 1 then
        FW_refusal_B106 n rc22 M l2 l3 l4
      else
        FW_refusal_B106 n rc22 M l2 l3 3
    else
      gd (inb l5 30) <|
      if M.1 (20 + l5.toNatClampNeg) 0 = l1 then
        gd (inb l5 30) <|
        if M.1 (20 + l5.toNatClampNeg) 1 = l2 then
          gd (inb l5 30) <|
          if M.1 (20 + l5.toNatClampNeg) 6 = 0 then
            FW_refusal_B73 n rc22 M l1 l2 l3 4 l5
          else
            FW_refusal_B73 n rc22 M l1 l2 l3 l4 l5
        else
          FW_refusal_B73 n rc22 M l1 l2 l3 l4 l5
      else
        FW_refusal_B73 n rc22 M l1 l2 l3 l4 l5
set_option maxHeartbeats 4000000 in
set_option maxRecDepth 100000 in
theorem LW_refusal_22 {G : GG} {l : Launch} {p : Program} {e : Env} {s : State} {m : MethodId} {args : Array Value} {below : List Frame} {meth : Method} {c : Code} (hX : FX G RX13 cX13_refusal 6 p s m args c) (hR : meth.sig.returnType = (some .int)) (hlk : meth.locks = false) {rx : Int32} (n : Nat) : ∀ (k : Nat) (M : MM) (l1 : Int32) (l2 : Int32) (l3 : Int32) (l4 : Int32) (l5 : Int32) , FW_refusal_L22 n k M l1 l2 l3 l4 l5 = some rx → J G p l e rmX13_refusal s m args below meth c 6 0 0 (MQ below (QP G (fun v9 H => v9 = some (.int rx) ∧ WH G Tr M H)) args s 0 0 (gA G)) (WH G Tr M) 22 [(0, .ref (adW G 0)), (1, .int l1), (2, .int l2), (3, .int l3), (4, .int l4), (5, .int l5)] [] := by
  intro k
  induction k with
  | zero => intro M l1 l2 l3 l4 l5  hF; cases hF
  | succ k ih =>
    intro M l1 l2 l3 l4 l5  hF
    simp only [FW_refusal_L22] at hF
    generalize hrcd : FW_refusal_L22 n k = rc22 at hF ih
    have hrc22 := ih
    refine J_iload hX dX13_refusal_22 5 rfl (t := 24) rfl ?_
    refine J_aload_n hX dX13_refusal_24 0 rfl (t := 25) rfl ?_
    refine J_wGet hX 2 (by decide) p_1025 rfl dX13_refusal_25 (t := 28) rfl ?_
    refine J_icmp_ge (tgt := 79) hX dX13_refusal_28 (by decide) (t := 31) rfl (fun zc => ?_) (fun zc => ?_)
    · replace hF := it_t hF zc
      refine J_aload_n hX dX13_refusal_79 0 rfl (t := 80) rfl ?_
      refine J_wGet hX 9 (by decide) p_1037 rfl dX13_refusal_80 (t := 83) rfl ?_
      refine J_iload_n hX dX13_refusal_83 1 rfl (t := 84) rfl ?_
      obtain ⟨g2, hF⟩ := gd_e hF
      refine J_wAc hX g2 dX13_refusal_84 (t := 85) rfl ?_
      refine J_iconst (v := 1) hX dX13_refusal_85 (by decide) (t := 86) rfl ?_
      refine J_wAld (n := 4) hX (kWc (inbR g2)) (by decide) rfl dX13_refusal_86 (t := 87) rfl ?_
      refine J_aload_n hX dX13_refusal_87 0 rfl (t := 88) rfl ?_
      refine J_wGet hX 8 (by decide) p_1035 rfl dX13_refusal_88 (t := 91) rfl ?_
      refine J_iload_n hX dX13_refusal_91 2 rfl (t := 92) rfl ?_
      obtain ⟨g3, hF⟩ := gd_e hF
      refine J_wAv hX g3 dX13_refusal_92 (t := 93) rfl ?_
      refine J_iconst (v := 2) hX dX13_refusal_93 (by decide) (t := 94) rfl ?_
      refine J_wAld (n := 6) hX (kWv (inbR g3)) (by decide) rfl dX13_refusal_94 (t := 95) rfl ?_
      refine J_iload_n hX dX13_refusal_95 3 rfl (t := 96) rfl ?_
      refine J_imul hX dX13_refusal_96 (t := 97) rfl ?_
      refine J_icmp_ge (tgt := 104) hX dX13_refusal_97 (by decide) (t := 100) rfl (fun zc => ?_) (fun zc => ?_)
      · replace hF := it_t hF zc
        refine J_iload hX dX13_refusal_104 4 rfl (t := 106) rfl ?_
        refine J_sub (lc2 := [(0, .ref (adW G 0)), (2, .int l2), (3, .int l3)]) [0, 2, 3] rfl ?_
        exact BW_refusal_106 hX hR hlk n rc22 hrc22 M l2 l3 l4 hF
      · replace hF := it_f hF zc
        refine J_iconst (v := 3) hX dX13_refusal_100 (by decide) (t := 101) rfl ?_
        refine J_goto (tgt := 106) hX dX13_refusal_101 (by decide) ?_
        refine J_sub (lc2 := [(0, .ref (adW G 0)), (2, .int l2), (3, .int l3)]) [0, 2, 3] rfl ?_
        exact BW_refusal_106 hX hR hlk n rc22 hrc22 M l2 l3 3 hF
    · replace hF := it_f hF zc
      refine J_aload_n hX dX13_refusal_31 0 rfl (t := 32) rfl ?_
      refine J_wGet hX 10 (by decide) p_1039 rfl dX13_refusal_32 (t := 35) rfl ?_
      refine J_iload hX dX13_refusal_35 5 rfl (t := 37) rfl ?_
      obtain ⟨g5, hF⟩ := gd_e hF
      refine J_wAs hX g5 dX13_refusal_37 (t := 38) rfl ?_
      refine J_iconst (v := 0) hX dX13_refusal_38 (by decide) (t := 39) rfl ?_
      refine J_wAld (n := 9) hX (kWs (inbR g5)) (by decide) rfl dX13_refusal_39 (t := 40) rfl ?_
      refine J_iload_n hX dX13_refusal_40 1 rfl (t := 41) rfl ?_
      refine J_icmp_ne (tgt := 73) hX dX13_refusal_41 (by decide) (t := 44) rfl (fun zc => ?_) (fun zc => ?_)
      · replace hF := it_f hF zc
        refine J_sub (lc2 := [(0, .ref (adW G 0)), (1, .int l1), (2, .int l2), (3, .int l3), (4, .int l4), (5, .int l5)]) [0, 1, 2, 3, 4, 5] rfl ?_
        exact BW_refusal_73 hX hR hlk n rc22 hrc22 M l1 l2 l3 l4 l5 hF
      · replace hF := it_t hF zc
        refine J_aload_n hX dX13_refusal_44 0 rfl (t := 45) rfl ?_
        refine J_wGet hX 10 (by decide) p_1039 rfl dX13_refusal_45 (t := 48) rfl ?_
        refine J_iload hX dX13_refusal_48 5 rfl (t := 50) rfl ?_
        obtain ⟨g6, hF⟩ := gd_e hF
        refine J_wAs hX g6 dX13_refusal_50 (t := 51) rfl ?_
        refine J_iconst (v := 1) hX dX13_refusal_51 (by decide) (t := 52) rfl ?_
        refine J_wAld (n := 9) hX (kWs (inbR g6)) (by decide) rfl dX13_refusal_52 (t := 53) rfl ?_
        refine J_iload_n hX dX13_refusal_53 2 rfl (t := 54) rfl ?_
        refine J_icmp_ne (tgt := 73) hX dX13_refusal_54 (by decide) (t := 57) rfl (fun zc => ?_) (fun zc => ?_)
        · replace hF := it_f hF zc
          refine J_sub (lc2 := [(0, .ref (adW G 0)), (1, .int l1), (2, .int l2), (3, .int l3), (4, .int l4), (5, .int l5)]) [0, 1, 2, 3, 4, 5] rfl ?_
          exact BW_refusal_73 hX hR hlk n rc22 hrc22 M l1 l2 l3 l4 l5 hF
        · replace hF := it_t hF zc
          refine J_aload_n hX dX13_refusal_57 0 rfl (t := 58) rfl ?_
          refine J_wGet hX 10 (by decide) p_1039 rfl dX13_refusal_58 (t := 61) rfl ?_
          refine J_iload hX dX13_refusal_61 5 rfl (t := 63) rfl ?_
          obtain ⟨g7, hF⟩ := gd_e hF
          refine J_wAs hX g7 dX13_refusal_63 (t := 64) rfl ?_
          refine J_bipush (v := 6) hX dX13_refusal_64 (by decide) (t := 66) rfl ?_
          refine J_wAld (n := 9) hX (kWs (inbR g7)) (by decide) rfl dX13_refusal_66 (t := 67) rfl ?_
          refine J_if_ne (tgt := 73) hX dX13_refusal_67 (by decide) (t := 70) rfl (fun zc => ?_) (fun zc => ?_)
          · replace hF := it_f hF zc
            refine J_sub (lc2 := [(0, .ref (adW G 0)), (1, .int l1), (2, .int l2), (3, .int l3), (4, .int l4), (5, .int l5)]) [0, 1, 2, 3, 4, 5] rfl ?_
            exact BW_refusal_73 hX hR hlk n rc22 hrc22 M l1 l2 l3 l4 l5 hF
          · replace hF := it_t hF zc
            refine J_iconst (v := 4) hX dX13_refusal_70 (by decide) (t := 71) rfl ?_
            refine J_istore (lc2 := [(4, .int 4), (0, .ref (adW G 0)), (1, .int l1), (2, .int l2), (3, .int l3), (5, .int l5)]) hX dX13_refusal_71 (Nat.le_of_ble_eq_true rfl) rfl (t := 73) rfl ?_
            refine J_sub (lc2 := [(0, .ref (adW G 0)), (1, .int l1), (2, .int l2), (3, .int l3), (4, .int 4), (5, .int l5)]) [1, 2, 3, 4, 0, 5] rfl ?_
            exact BW_refusal_73 hX hR hlk n rc22 hrc22 M l1 l2 l3 4 l5 hF
def FW_refusal_B17 (n : Nat) (M : MM) (l1 : Int32) (l2 : Int32) (l3 : Int32) (y0 : Int32) : Option Int32 :=
  FW_refusal_L22 n n M l1 l2 l3 y0 0
set_option maxHeartbeats 4000000 in
set_option maxRecDepth 100000 in
theorem BW_refusal_17 {G : GG} {l : Launch} {p : Program} {e : Env} {s : State} {m : MethodId} {args : Array Value} {below : List Frame} {meth : Method} {c : Code} (hX : FX G RX13 cX13_refusal 6 p s m args c) (hR : meth.sig.returnType = (some .int)) (hlk : meth.locks = false) {rx : Int32} (n : Nat) (M : MM) (l1 : Int32) (l2 : Int32) (l3 : Int32) (y0 : Int32)  (hF : FW_refusal_B17 n M l1 l2 l3 y0 = some rx) : J G p l e rmX13_refusal s m args below meth c 6 0 0 (MQ below (QP G (fun v9 H => v9 = some (.int rx) ∧ WH G Tr M H)) args s 0 0 (gA G)) (WH G Tr M) 17 [(0, .ref (adW G 0)), (1, .int l1), (2, .int l2), (3, .int l3)] [.int y0] := by
  unfold FW_refusal_B17 at hF
  refine J_istore (lc2 := [(4, .int y0), (0, .ref (adW G 0)), (1, .int l1), (2, .int l2), (3, .int l3)]) hX dX13_refusal_17 (Nat.le_of_ble_eq_true rfl) rfl (t := 19) rfl ?_
  refine J_iconst (v := 0) hX dX13_refusal_19 (by decide) (t := 20) rfl ?_
  refine J_istore (lc2 := [(5, .int 0), (4, .int y0), (0, .ref (adW G 0)), (1, .int l1), (2, .int l2), (3, .int l3)]) hX dX13_refusal_20 (Nat.le_of_ble_eq_true rfl) rfl (t := 22) rfl ?_
  refine J_sub (lc2 := [(0, .ref (adW G 0)), (1, .int l1), (2, .int l2), (3, .int l3), (4, .int y0), (5, .int 0)]) [2, 3, 4, 5, 1, 0] rfl ?_
  exact LW_refusal_22 hX hR hlk n n M l1 l2 l3 y0 0 hF
def FW_refusal (n : Nat) (M : MM) (p1 : Int32) (p2 : Int32) (p3 : Int32) : Option Int32 :=
  gd (inb p1 8) <|
  if M.1 (11 + p1.toNatClampNeg) 2 ≤ 2 then
    FW_refusal_B17 n M p1 p2 p3 0
  else
    FW_refusal_B17 n M p1 p2 p3 5
set_option maxHeartbeats 4000000 in
set_option maxRecDepth 100000 in
theorem ctW_refusal {G : GG} {l : Launch} (M : MM) (p1 : Int32) (p2 : Int32) (p3 : Int32)  (n : Nat) {rx : Int32} (hF : FW_refusal n M p1 p2 p3 = some rx) : CTP G l yX13_refusal cX13_refusal 6 (some .int) rmX13_refusal 0 0 [.ref (adW G 0), .int p1, .int p2, .int p3] (WH G Tr M) (fun v9 H => v9 = some (.int rx) ∧ WH G Tr M H) := by
  refine CTP.of miX13_refusal [(0, .ref (adW G 0)), (1, .int p1), (2, .int p2), (3, .int p3)] rfl (Nat.le_of_ble_eq_true rfl) ?_
  intro p e s m args below meth c hX hR hlk
  have hX : FX G RX13 cX13_refusal 6 p s m args c := hX
  unfold FW_refusal at hF
  refine J_aload_n hX dX13_refusal_0 0 rfl (t := 1) rfl ?_
  refine J_wGet hX 9 (by decide) p_1037 rfl dX13_refusal_1 (t := 4) rfl ?_
  refine J_iload_n hX dX13_refusal_4 1 rfl (t := 5) rfl ?_
  obtain ⟨g1, hF⟩ := gd_e hF
  refine J_wAc hX g1 dX13_refusal_5 (t := 6) rfl ?_
  refine J_iconst (v := 2) hX dX13_refusal_6 (by decide) (t := 7) rfl ?_
  refine J_wAld (n := 4) hX (kWc (inbR g1)) (by decide) rfl dX13_refusal_7 (t := 8) rfl ?_
  refine J_iconst (v := 2) hX dX13_refusal_8 (by decide) (t := 9) rfl ?_
  refine J_icmp_le (tgt := 16) hX dX13_refusal_9 (by decide) (t := 12) rfl (fun zc => ?_) (fun zc => ?_)
  · replace hF := it_t hF zc
    refine J_iconst (v := 0) hX dX13_refusal_16 (by decide) (t := 17) rfl ?_
    refine J_sub (lc2 := [(0, .ref (adW G 0)), (1, .int p1), (2, .int p2), (3, .int p3)]) [0, 1, 2, 3] rfl ?_
    exact BW_refusal_17 hX hR hlk n M p1 p2 p3 0 hF
  · replace hF := it_f hF zc
    refine J_iconst (v := 5) hX dX13_refusal_12 (by decide) (t := 13) rfl ?_
    refine J_goto (tgt := 17) hX dX13_refusal_13 (by decide) ?_
    refine J_sub (lc2 := [(0, .ref (adW G 0)), (1, .int p1), (2, .int p2), (3, .int p3)]) [0, 1, 2, 3] rfl ?_
    exact BW_refusal_17 hX hR hlk n M p1 p2 p3 5 hF
abbrev rmX13_back : Room := { frames := 1, cells := 0, slots := 0, locals := 21 }
theorem miX13_back : MI yX13_back cX13_back 4 none 2 := ⟨p_1248, p_25, by decide +kernel, by decide +kernel, by decide +kernel, by decide +kernel⟩
theorem mvX13_back : MV yX13_back := ⟨p_1246, p_1247⟩
def FW_back_B106 (M : MM) (l1 : Nat) (y0 : Int32) (y1 : Int32) (y4 : Nat) : Option (MM) :=
  bnd (sI M y4 4 (if 0 < (y1 + y0) then (y1 + y0) else 0)) fun M9 =>
  bnd (sI M9 l1 7 ((M9.1 l1 7) + 1)) fun M11 =>
  if M11.1 l1 7 = M11.1 l1 3 then
    bnd (sI M11 l1 6 1) fun M15 =>
    some M15
  else
    bnd (sI M11 l1 6 0) fun M13 =>
    some M13
set_option maxHeartbeats 4000000 in
set_option maxRecDepth 100000 in
theorem BW_back_106 {G : GG} {l : Launch} {p : Program} {e : Env} {s : State} {m : MethodId} {args : Array Value} {below : List Frame} {meth : Method} {c : Code} (hX : FX G RX13 cX13_back 4 p s m args c) (hR : meth.sig.returnType = none) (hlk : meth.locks = false) {rw : MM} (M : MM) (l1 : Nat) (y0 : Int32) (y1 : Int32) (y4 : Nat) (hl1 : 20 ≤ l1 ∧ l1 < 50) (hy4 : 2 ≤ y4 ∧ y4 < 10) (hF : FW_back_B106 M l1 y0 y1 y4 = some rw) : J G p l e rmX13_back s m args below meth c 4 0 0 (MQ below (QP G (fun v9 H => v9 = none ∧ WH G Tr rw H)) args s 0 0 (gA G)) (WH G Tr M) 106 [(1, .ref (adW G l1))] [.int y0, .int y1, .int 0, .int 4, .ref (adW G y4)] := by
  unfold FW_back_B106 at hF
  refine J_iadd hX dX13_back_106 (t := 107) rfl ?_
  refine J_max hX ⟨p_1249, p_799, p_31, p_800⟩ ⟨Nat.le_of_ble_eq_true rfl, Nat.le_of_ble_eq_true rfl, Nat.le_of_ble_eq_true rfl, Nat.le_of_ble_eq_true rfl⟩ dX13_back_107 (t := 110) rfl ?_
  obtain ⟨M9, e10, hF⟩ := bnd_e hF
  refine J_wAst (n := 6) hX hTr (kWv hy4) (by decide) rfl e10 dX13_back_110 (t := 111) rfl ?_
  refine J_aload_n hX dX13_back_111 0 rfl (t := 112) rfl ?_
  refine J_bipush (v := 7) hX dX13_back_112 (by decide) (t := 114) rfl ?_
  refine J_dup2 hX dX13_back_114 rfl rfl (t := 115) rfl ?_
  refine J_wAld (n := 9) hX (kWs hl1) (by decide) rfl dX13_back_115 (t := 116) rfl ?_
  refine J_iconst (v := 1) hX dX13_back_116 (by decide) (t := 117) rfl ?_
  refine J_iadd hX dX13_back_117 (t := 118) rfl ?_
  obtain ⟨M11, e12, hF⟩ := bnd_e hF
  refine J_wAst (n := 9) hX hTr (kWs hl1) (by decide) rfl e12 dX13_back_118 (t := 119) rfl ?_
  refine J_aload_n hX dX13_back_119 0 rfl (t := 120) rfl ?_
  refine J_bipush (v := 6) hX dX13_back_120 (by decide) (t := 122) rfl ?_
  refine J_aload_n hX dX13_back_122 0 rfl (t := 123) rfl ?_
  refine J_bipush (v := 7) hX dX13_back_123 (by decide) (t := 125) rfl ?_
  refine J_wAld (n := 9) hX (kWs hl1) (by decide) rfl dX13_back_125 (t := 126) rfl ?_
  refine J_aload_n hX dX13_back_126 0 rfl (t := 127) rfl ?_
  refine J_iconst (v := 3) hX dX13_back_127 (by decide) (t := 128) rfl ?_
  refine J_wAld (n := 9) hX (kWs hl1) (by decide) rfl dX13_back_128 (t := 129) rfl ?_
  refine J_icmp_ne (tgt := 136) hX dX13_back_129 (by decide) (t := 132) rfl (fun zc => ?_) (fun zc => ?_)
  · replace hF := it_f hF zc
    refine J_iconst (v := 0) hX dX13_back_136 (by decide) (t := 137) rfl ?_
    obtain ⟨M13, e14, hF⟩ := bnd_e hF
    refine J_wAst (n := 9) hX hTr (kWs hl1) (by decide) rfl e14 dX13_back_137 (t := 138) rfl ?_
    replace hF := Option.some.inj hF
    subst hF
    exact J_vretP hX hR hlk (fun H h => ⟨rfl, h⟩) dX13_back_138
  · replace hF := it_t hF zc
    refine J_iconst (v := 1) hX dX13_back_132 (by decide) (t := 133) rfl ?_
    refine J_goto (tgt := 137) hX dX13_back_133 (by decide) ?_
    obtain ⟨M15, e16, hF⟩ := bnd_e hF
    refine J_wAst (n := 9) hX hTr (kWs hl1) (by decide) rfl e16 dX13_back_137 (t := 138) rfl ?_
    replace hF := Option.some.inj hF
    subst hF
    exact J_vretP hX hR hlk (fun H h => ⟨rfl, h⟩) dX13_back_138
def FW_back_B90 (M : MM) (l1 : Nat) (l2 : Bool) (l3 : Nat) : Option (MM) :=
  if l2 = true then
    FW_back_B106 M l1 1 (M.1 l3 4) l3
  else
    FW_back_B106 M l1 (-2) (M.1 l3 4) l3
set_option maxHeartbeats 4000000 in
set_option maxRecDepth 100000 in
theorem BW_back_90 {G : GG} {l : Launch} {p : Program} {e : Env} {s : State} {m : MethodId} {args : Array Value} {below : List Frame} {meth : Method} {c : Code} (hX : FX G RX13 cX13_back 4 p s m args c) (hR : meth.sig.returnType = none) (hlk : meth.locks = false) {rw : MM} (M : MM) (l1 : Nat) (l2 : Bool) (l3 : Nat) (hl1 : 20 ≤ l1 ∧ l1 < 50) (hl3 : 2 ≤ l3 ∧ l3 < 10) (hF : FW_back_B90 M l1 l2 l3 = some rw) : J G p l e rmX13_back s m args below meth c 4 0 0 (MQ below (QP G (fun v9 H => v9 = none ∧ WH G Tr rw H)) args s 0 0 (gA G)) (WH G Tr M) 90 [(1, .ref (adW G l1)), (2, .int (bI l2)), (3, .ref (adW G l3))] [] := by
  unfold FW_back_B90 at hF
  refine J_aload_n hX dX13_back_90 2 rfl (t := 91) rfl ?_
  refine J_iconst (v := 4) hX dX13_back_91 (by decide) (t := 92) rfl ?_
  refine J_iconst (v := 0) hX dX13_back_92 (by decide) (t := 93) rfl ?_
  refine J_aload_n hX dX13_back_93 2 rfl (t := 94) rfl ?_
  refine J_iconst (v := 4) hX dX13_back_94 (by decide) (t := 95) rfl ?_
  refine J_wAld (n := 6) hX (kWv hl3) (by decide) rfl dX13_back_95 (t := 96) rfl ?_
  refine J_iload_n hX dX13_back_96 1 rfl (t := 97) rfl ?_
  refine J_ifZ_eq (tgt := 104) hX dX13_back_97 (by decide) (t := 100) rfl (fun zc => ?_) (fun zc => ?_)
  · replace hF := ib_f hF zc
    refine J_bipush (v := (-2)) hX dX13_back_104 (by decide) (t := 106) rfl ?_
    refine J_sub (lc2 := [(1, .ref (adW G l1))]) [0] rfl ?_
    exact BW_back_106 hX hR hlk M l1 (-2) (M.1 l3 4) l3 hl1 hl3 hF
  · replace hF := it_t hF zc
    refine J_iconst (v := 1) hX dX13_back_100 (by decide) (t := 101) rfl ?_
    refine J_goto (tgt := 106) hX dX13_back_101 (by decide) ?_
    refine J_sub (lc2 := [(1, .ref (adW G l1))]) [0] rfl ?_
    exact BW_back_106 hX hR hlk M l1 1 (M.1 l3 4) l3 hl1 hl3 hF
def FW_back (M : MM) (j1 : Nat) (p2 : Bool) : Option (MM) :=
  gd (inb (M.1 j1 1) 8) <|
  if p2 = true then
    bnd (sI M 0 4 ((M.1 0 4) + (M.1 j1 4))) fun M17 =>
    gd (inb (M17.1 j1 0) 8) <|
    bnd (sI M17 (11 + (M17.1 j1 0).toNatClampNeg) 3 ((M17.1 (11 + (M17.1 j1 0).toNatClampNeg) 3) + 1)) fun M20 =>
    bnd (sI M20 j1 8 ((M20.1 j1 8) ||| (1 <<< ((M20.1 j1 7) &&& 31)))) fun M22 =>
    FW_back_B90 M22 j1 p2 (2 + (M.1 j1 1).toNatClampNeg)
  else
    bnd (sI M 0 5 ((M.1 0 5) + (M.1 j1 4))) fun M2 =>
    gd (inb (M2.1 j1 0) 8) <|
    bnd (sI M2 (11 + (M2.1 j1 0).toNatClampNeg) 1 ((M2.1 (11 + (M2.1 j1 0).toNatClampNeg) 1) + (M2.1 j1 4))) fun M5 =>
    bnd (sI M5 (2 + (M.1 j1 1).toNatClampNeg) 5 ((M5.1 (2 + (M.1 j1 1).toNatClampNeg) 5) + 1)) fun M7 =>
    FW_back_B90 M7 j1 p2 (2 + (M.1 j1 1).toNatClampNeg)
set_option maxHeartbeats 4000000 in
set_option maxRecDepth 100000 in
theorem ctW_back {G : GG} {l : Launch} (M : MM) (j1 : Nat) (p2 : Bool) (hj1 : 20 ≤ j1 ∧ j1 < 50) {rw : MM} (hF : FW_back M j1 p2 = some rw) : CTP G l yX13_back cX13_back 4 none rmX13_back 0 0 [.ref (adW G 0), .ref (adW G j1), .int (bI p2)] (WH G Tr M) (fun v9 H => v9 = none ∧ WH G Tr rw H) := by
  refine CTP.of miX13_back [(0, .ref (adW G 0)), (1, .ref (adW G j1)), (2, .int (bI p2))] rfl (Nat.le_of_ble_eq_true rfl) ?_
  intro p e s m args below meth c hX hR hlk
  have hX : FX G RX13 cX13_back 4 p s m args c := hX
  unfold FW_back at hF
  refine J_aload_n hX dX13_back_0 0 rfl (t := 1) rfl ?_
  refine J_wGet hX 8 (by decide) p_1035 rfl dX13_back_1 (t := 4) rfl ?_
  refine J_aload_n hX dX13_back_4 1 rfl (t := 5) rfl ?_
  refine J_iconst (v := 1) hX dX13_back_5 (by decide) (t := 6) rfl ?_
  refine J_wAld (n := 9) hX (kWs hj1) (by decide) rfl dX13_back_6 (t := 7) rfl ?_
  obtain ⟨g1, hF⟩ := gd_e hF
  refine J_wAv hX g1 dX13_back_7 (t := 8) rfl ?_
  refine J_astore_n (lc2 := [(3, .ref (adW G (2 + (M.1 j1 1).toNatClampNeg))), (0, .ref (adW G 0)), (1, .ref (adW G j1)), (2, .int (bI p2))]) hX dX13_back_8 rfl (Nat.le_of_ble_eq_true rfl) rfl (t := 9) rfl ?_
  refine J_iload_n hX dX13_back_9 3 rfl (t := 10) rfl ?_
  refine J_ifZ_eq (tgt := 55) hX dX13_back_10 (by decide) (t := 13) rfl (fun zc => ?_) (fun zc => ?_)
  · replace hF := ib_f hF zc
    refine J_aload_n hX dX13_back_55 1 rfl (t := 56) rfl ?_
    refine J_dup hX dX13_back_56 rfl (t := 57) rfl ?_
    refine J_wGet hX 5 (by decide) p_1031 rfl dX13_back_57 (t := 60) rfl ?_
    refine J_aload_n hX dX13_back_60 2 rfl (t := 61) rfl ?_
    refine J_iconst (v := 4) hX dX13_back_61 (by decide) (t := 62) rfl ?_
    refine J_wAld (n := 9) hX (kWs hj1) (by decide) rfl dX13_back_62 (t := 63) rfl ?_
    refine J_iadd hX dX13_back_63 (t := 64) rfl ?_
    obtain ⟨M2, e3, hF⟩ := bnd_e hF
    refine J_wPut hX hTr 5 (by decide) p_1031 rfl rfl e3 rfl dX13_back_64 (t := 67) rfl ?_
    refine J_aload_n hX dX13_back_67 1 rfl (t := 68) rfl ?_
    refine J_wGet hX 9 (by decide) p_1037 rfl dX13_back_68 (t := 71) rfl ?_
    refine J_aload_n hX dX13_back_71 2 rfl (t := 72) rfl ?_
    refine J_iconst (v := 0) hX dX13_back_72 (by decide) (t := 73) rfl ?_
    refine J_wAld (n := 9) hX (kWs hj1) (by decide) rfl dX13_back_73 (t := 74) rfl ?_
    obtain ⟨g4, hF⟩ := gd_e hF
    refine J_wAc hX g4 dX13_back_74 (t := 75) rfl ?_
    refine J_iconst (v := 1) hX dX13_back_75 (by decide) (t := 76) rfl ?_
    refine J_dup2 hX dX13_back_76 rfl rfl (t := 77) rfl ?_
    refine J_wAld (n := 4) hX (kWc (inbR g4)) (by decide) rfl dX13_back_77 (t := 78) rfl ?_
    refine J_aload_n hX dX13_back_78 2 rfl (t := 79) rfl ?_
    refine J_iconst (v := 4) hX dX13_back_79 (by decide) (t := 80) rfl ?_
    refine J_wAld (n := 9) hX (kWs hj1) (by decide) rfl dX13_back_80 (t := 81) rfl ?_
    refine J_iadd hX dX13_back_81 (t := 82) rfl ?_
    obtain ⟨M5, e6, hF⟩ := bnd_e hF
    refine J_wAst (n := 4) hX hTr (kWc (inbR g4)) (by decide) rfl e6 dX13_back_82 (t := 83) rfl ?_
    refine J_aload_n hX dX13_back_83 0 rfl (t := 84) rfl ?_
    refine J_iconst (v := 5) hX dX13_back_84 (by decide) (t := 85) rfl ?_
    refine J_dup2 hX dX13_back_85 rfl rfl (t := 86) rfl ?_
    refine J_wAld (n := 6) hX (kWv (inbR g1)) (by decide) rfl dX13_back_86 (t := 87) rfl ?_
    refine J_iconst (v := 1) hX dX13_back_87 (by decide) (t := 88) rfl ?_
    refine J_iadd hX dX13_back_88 (t := 89) rfl ?_
    obtain ⟨M7, e8, hF⟩ := bnd_e hF
    refine J_wAst (n := 6) hX hTr (kWv (inbR g1)) (by decide) rfl e8 dX13_back_89 (t := 90) rfl ?_
    refine J_sub (lc2 := [(1, .ref (adW G j1)), (2, .int (bI p2)), (3, .ref (adW G (2 + (M.1 j1 1).toNatClampNeg)))]) [2, 3, 0] rfl ?_
    exact BW_back_90 hX hR hlk M7 j1 p2 (2 + (M.1 j1 1).toNatClampNeg) hj1 (inbR g1) hF
  · replace hF := it_t hF zc
    refine J_aload_n hX dX13_back_13 1 rfl (t := 14) rfl ?_
    refine J_dup hX dX13_back_14 rfl (t := 15) rfl ?_
    refine J_wGet hX 4 (by decide) p_1029 rfl dX13_back_15 (t := 18) rfl ?_
    refine J_aload_n hX dX13_back_18 2 rfl (t := 19) rfl ?_
    refine J_iconst (v := 4) hX dX13_back_19 (by decide) (t := 20) rfl ?_
    refine J_wAld (n := 9) hX (kWs hj1) (by decide) rfl dX13_back_20 (t := 21) rfl ?_
    refine J_iadd hX dX13_back_21 (t := 22) rfl ?_
    obtain ⟨M17, e18, hF⟩ := bnd_e hF
    refine J_wPut hX hTr 4 (by decide) p_1029 rfl rfl e18 rfl dX13_back_22 (t := 25) rfl ?_
    refine J_aload_n hX dX13_back_25 1 rfl (t := 26) rfl ?_
    refine J_wGet hX 9 (by decide) p_1037 rfl dX13_back_26 (t := 29) rfl ?_
    refine J_aload_n hX dX13_back_29 2 rfl (t := 30) rfl ?_
    refine J_iconst (v := 0) hX dX13_back_30 (by decide) (t := 31) rfl ?_
    refine J_wAld (n := 9) hX (kWs hj1) (by decide) rfl dX13_back_31 (t := 32) rfl ?_
    obtain ⟨g19, hF⟩ := gd_e hF
    refine J_wAc hX g19 dX13_back_32 (t := 33) rfl ?_
    refine J_iconst (v := 3) hX dX13_back_33 (by decide) (t := 34) rfl ?_
    refine J_dup2 hX dX13_back_34 rfl rfl (t := 35) rfl ?_
    refine J_wAld (n := 4) hX (kWc (inbR g19)) (by decide) rfl dX13_back_35 (t := 36) rfl ?_
    refine J_iconst (v := 1) hX dX13_back_36 (by decide) (t := 37) rfl ?_
    refine J_iadd hX dX13_back_37 (t := 38) rfl ?_
    obtain ⟨M20, e21, hF⟩ := bnd_e hF
    refine J_wAst (n := 4) hX hTr (kWc (inbR g19)) (by decide) rfl e21 dX13_back_38 (t := 39) rfl ?_
    refine J_aload_n hX dX13_back_39 2 rfl (t := 40) rfl ?_
    refine J_bipush (v := 8) hX dX13_back_40 (by decide) (t := 42) rfl ?_
    refine J_dup2 hX dX13_back_42 rfl rfl (t := 43) rfl ?_
    refine J_wAld (n := 9) hX (kWs hj1) (by decide) rfl dX13_back_43 (t := 44) rfl ?_
    refine J_iconst (v := 1) hX dX13_back_44 (by decide) (t := 45) rfl ?_
    refine J_aload_n hX dX13_back_45 2 rfl (t := 46) rfl ?_
    refine J_bipush (v := 7) hX dX13_back_46 (by decide) (t := 48) rfl ?_
    refine J_wAld (n := 9) hX (kWs hj1) (by decide) rfl dX13_back_48 (t := 49) rfl ?_
    refine J_ishl hX dX13_back_49 (t := 50) rfl ?_
    refine J_ior hX dX13_back_50 (t := 51) rfl ?_
    obtain ⟨M22, e23, hF⟩ := bnd_e hF
    refine J_wAst (n := 9) hX hTr (kWs hj1) (by decide) rfl e23 dX13_back_51 (t := 52) rfl ?_
    refine J_goto (tgt := 90) hX dX13_back_52 (by decide) ?_
    refine J_sub (lc2 := [(1, .ref (adW G j1)), (2, .int (bI p2)), (3, .ref (adW G (2 + (M.1 j1 1).toNatClampNeg)))]) [2, 3, 0] rfl ?_
    exact BW_back_90 hX hR hlk M22 j1 p2 (2 + (M.1 j1 1).toNatClampNeg) hj1 (inbR g1) hF
abbrev rmX13_cancel : Room := { frames := 0, cells := 0, slots := 0, locals := 0 }
theorem miX13_cancel : MI yX13_cancel cX13_cancel 4 (some .int) 1 := ⟨p_1257, p_25, by decide +kernel, by decide +kernel, by decide +kernel, by decide +kernel⟩
theorem mvX13_cancel : MV yX13_cancel := ⟨p_1255, p_1256⟩
def FW_cancel (M : MM) (p1 : Int32) : Option (Int32 × MM) :=
  gd (inb p1 30) <|
  bnd (sI M (20 + p1.toNatClampNeg) 6 2) fun M2 =>
  bnd (sI M2 0 5 ((M2.1 0 5) + ((M.1 (20 + p1.toNatClampNeg) 4) * ((M.1 (20 + p1.toNatClampNeg) 3) - (M.1 (20 + p1.toNatClampNeg) 7))))) fun M4 =>
  gd (inb (M4.1 (20 + p1.toNatClampNeg) 0) 8) <|
  bnd (sI M4 (11 + (M4.1 (20 + p1.toNatClampNeg) 0).toNatClampNeg) 1 ((M4.1 (11 + (M4.1 (20 + p1.toNatClampNeg) 0).toNatClampNeg) 1) + ((M.1 (20 + p1.toNatClampNeg) 4) * ((M.1 (20 + p1.toNatClampNeg) 3) - (M.1 (20 + p1.toNatClampNeg) 7))))) fun M7 =>
  some ((M.1 (20 + p1.toNatClampNeg) 4) * ((M.1 (20 + p1.toNatClampNeg) 3) - (M.1 (20 + p1.toNatClampNeg) 7)), M7)
set_option maxHeartbeats 4000000 in
set_option maxRecDepth 100000 in
theorem ctW_cancel {G : GG} {l : Launch} (M : MM) (p1 : Int32)  {rx : Int32} {rw : MM} (hF : FW_cancel M p1 = some (rx, rw)) : CTP G l yX13_cancel cX13_cancel 4 (some .int) rmX13_cancel 0 0 [.ref (adW G 0), .int p1] (WH G Tr M) (fun v9 H => v9 = some (.int rx) ∧ WH G Tr rw H) := by
  refine CTP.of miX13_cancel [(0, .ref (adW G 0)), (1, .int p1)] rfl (Nat.le_of_ble_eq_true rfl) ?_
  intro p e s m args below meth c hX hR hlk
  have hX : FX G RX13 cX13_cancel 4 p s m args c := hX
  unfold FW_cancel at hF
  refine J_aload_n hX dX13_cancel_0 0 rfl (t := 1) rfl ?_
  refine J_wGet hX 10 (by decide) p_1039 rfl dX13_cancel_1 (t := 4) rfl ?_
  refine J_iload_n hX dX13_cancel_4 1 rfl (t := 5) rfl ?_
  obtain ⟨g1, hF⟩ := gd_e hF
  refine J_wAs hX g1 dX13_cancel_5 (t := 6) rfl ?_
  refine J_astore_n (lc2 := [(2, .ref (adW G (20 + p1.toNatClampNeg))), (0, .ref (adW G 0)), (1, .int p1)]) hX dX13_cancel_6 rfl (Nat.le_of_ble_eq_true rfl) rfl (t := 7) rfl ?_
  refine J_aload_n hX dX13_cancel_7 0 rfl (t := 8) rfl ?_
  refine J_iconst (v := 4) hX dX13_cancel_8 (by decide) (t := 9) rfl ?_
  refine J_wAld (n := 9) hX (kWs (inbR g1)) (by decide) rfl dX13_cancel_9 (t := 10) rfl ?_
  refine J_aload_n hX dX13_cancel_10 0 rfl (t := 11) rfl ?_
  refine J_iconst (v := 3) hX dX13_cancel_11 (by decide) (t := 12) rfl ?_
  refine J_wAld (n := 9) hX (kWs (inbR g1)) (by decide) rfl dX13_cancel_12 (t := 13) rfl ?_
  refine J_aload_n hX dX13_cancel_13 0 rfl (t := 14) rfl ?_
  refine J_bipush (v := 7) hX dX13_cancel_14 (by decide) (t := 16) rfl ?_
  refine J_wAld (n := 9) hX (kWs (inbR g1)) (by decide) rfl dX13_cancel_16 (t := 17) rfl ?_
  refine J_isub hX dX13_cancel_17 (t := 18) rfl ?_
  refine J_imul hX dX13_cancel_18 (t := 19) rfl ?_
  refine J_istore_n (lc2 := [(3, .int ((M.1 (20 + p1.toNatClampNeg) 4) * ((M.1 (20 + p1.toNatClampNeg) 3) - (M.1 (20 + p1.toNatClampNeg) 7)))), (2, .ref (adW G (20 + p1.toNatClampNeg))), (0, .ref (adW G 0)), (1, .int p1)]) hX dX13_cancel_19 rfl (Nat.le_of_ble_eq_true rfl) rfl (t := 20) rfl ?_
  refine J_aload_n hX dX13_cancel_20 1 rfl (t := 21) rfl ?_
  refine J_bipush (v := 6) hX dX13_cancel_21 (by decide) (t := 23) rfl ?_
  refine J_iconst (v := 2) hX dX13_cancel_23 (by decide) (t := 24) rfl ?_
  obtain ⟨M2, e3, hF⟩ := bnd_e hF
  refine J_wAst (n := 9) hX hTr (kWs (inbR g1)) (by decide) rfl e3 dX13_cancel_24 (t := 25) rfl ?_
  refine J_aload_n hX dX13_cancel_25 2 rfl (t := 26) rfl ?_
  refine J_dup hX dX13_cancel_26 rfl (t := 27) rfl ?_
  refine J_wGet hX 5 (by decide) p_1031 rfl dX13_cancel_27 (t := 30) rfl ?_
  refine J_iload_n hX dX13_cancel_30 0 rfl (t := 31) rfl ?_
  refine J_iadd hX dX13_cancel_31 (t := 32) rfl ?_
  obtain ⟨M4, e5, hF⟩ := bnd_e hF
  refine J_wPut hX hTr 5 (by decide) p_1031 rfl rfl e5 rfl dX13_cancel_32 (t := 35) rfl ?_
  refine J_aload_n hX dX13_cancel_35 2 rfl (t := 36) rfl ?_
  refine J_wGet hX 9 (by decide) p_1037 rfl dX13_cancel_36 (t := 39) rfl ?_
  refine J_aload_n hX dX13_cancel_39 1 rfl (t := 40) rfl ?_
  refine J_iconst (v := 0) hX dX13_cancel_40 (by decide) (t := 41) rfl ?_
  refine J_wAld (n := 9) hX (kWs (inbR g1)) (by decide) rfl dX13_cancel_41 (t := 42) rfl ?_
  obtain ⟨g6, hF⟩ := gd_e hF
  refine J_wAc hX g6 dX13_cancel_42 (t := 43) rfl ?_
  refine J_iconst (v := 1) hX dX13_cancel_43 (by decide) (t := 44) rfl ?_
  refine J_dup2 hX dX13_cancel_44 rfl rfl (t := 45) rfl ?_
  refine J_wAld (n := 4) hX (kWc (inbR g6)) (by decide) rfl dX13_cancel_45 (t := 46) rfl ?_
  refine J_iload_n hX dX13_cancel_46 0 rfl (t := 47) rfl ?_
  refine J_iadd hX dX13_cancel_47 (t := 48) rfl ?_
  obtain ⟨M7, e8, hF⟩ := bnd_e hF
  refine J_wAst (n := 4) hX hTr (kWc (inbR g6)) (by decide) rfl e8 dX13_cancel_48 (t := 49) rfl ?_
  refine J_iload_n hX dX13_cancel_49 0 rfl (t := 50) rfl ?_
  replace hF := Option.some.inj hF
  obtain ⟨hF, hF2⟩ := Prod.mk.inj hF
  subst hF
  subst hF2
  exact J_iretP hX hR hlk (fun H h => ⟨rfl, h⟩) dX13_cancel_50
abbrev rmX13_fake : Room := { frames := 2, cells := 0, slots := 0, locals := 44 }
theorem miX13_fake : MI yX13_fake cX13_fake 6 (some .int) 1 := ⟨p_1554, p_25, by decide +kernel, by decide +kernel, by decide +kernel, by decide +kernel⟩
theorem mvX13_fake : MV yX13_fake := ⟨p_1552, p_1553⟩
def FW_fake_B112 (n : Nat) (rc54 : MM → Nat → Nat → Int32 → Option (Int32 × MM)) (M : MM) (l3 : Nat) : Option (Int32 × MM) :=
  some (M.1 l3 2, M)
set_option maxHeartbeats 4000000 in
set_option maxRecDepth 100000 in
theorem BW_fake_112 {G : GG} {l : Launch} {p : Program} {e : Env} {s : State} {m : MethodId} {args : Array Value} {below : List Frame} {meth : Method} {c : Code} (hX : FX G RX13 cX13_fake 6 p s m args c) (hR : meth.sig.returnType = (some .int)) (hlk : meth.locks = false) {rx : Int32} {rw : MM} (n : Nat) (rc54 : MM → Nat → Nat → Int32 → Option (Int32 × MM)) (hrc54 : ∀ (M : MM) (l2 : Nat) (l3 : Nat) (l4 : Int32) (hl2 : 20 ≤ l2 ∧ l2 < 50) (hl3 : 11 ≤ l3 ∧ l3 < 19), rc54 M l2 l3 l4 = some (rx, rw) → J G p l e rmX13_fake s m args below meth c 6 0 0 (MQ below (QP G (fun v9 H => v9 = some (.int rx) ∧ WH G Tr rw H)) args s 0 0 (gA G)) (WH G Tr M) 54 [(0, .ref (adW G 0)), (2, .ref (adW G l2)), (3, .ref (adW G l3)), (4, .int l4)] []) (M : MM) (l3 : Nat) (hl3 : 11 ≤ l3 ∧ l3 < 19) (hF : FW_fake_B112 n rc54 M l3 = some (rx, rw)) : J G p l e rmX13_fake s m args below meth c 6 0 0 (MQ below (QP G (fun v9 H => v9 = some (.int rx) ∧ WH G Tr rw H)) args s 0 0 (gA G)) (WH G Tr M) 112 [(3, .ref (adW G l3))] [] := by
  unfold FW_fake_B112 at hF
  refine J_aload_n hX dX13_fake_112 0 rfl (t := 113) rfl ?_
  refine J_iconst (v := 2) hX dX13_fake_113 (by decide) (t := 114) rfl ?_
  refine J_wAld (n := 4) hX (kWc hl3) (by decide) rfl dX13_fake_114 (t := 115) rfl ?_
  replace hF := Option.some.inj hF
  obtain ⟨hF, hF2⟩ := Prod.mk.inj hF
  subst hF
  subst hF2
  exact J_iretP hX hR hlk (fun H h => ⟨rfl, h⟩) dX13_fake_115
def FW_fake_B106 (n : Nat) (rc54 : MM → Nat → Nat → Int32 → Option (Int32 × MM)) (M : MM) (l2 : Nat) (l3 : Nat) (l4 : Int32) : Option (Int32 × MM) :=
  rc54 M l2 l3 (l4 + 1)
set_option maxHeartbeats 4000000 in
set_option maxRecDepth 100000 in
theorem BW_fake_106 {G : GG} {l : Launch} {p : Program} {e : Env} {s : State} {m : MethodId} {args : Array Value} {below : List Frame} {meth : Method} {c : Code} (hX : FX G RX13 cX13_fake 6 p s m args c) (hR : meth.sig.returnType = (some .int)) (hlk : meth.locks = false) {rx : Int32} {rw : MM} (n : Nat) (rc54 : MM → Nat → Nat → Int32 → Option (Int32 × MM)) (hrc54 : ∀ (M : MM) (l2 : Nat) (l3 : Nat) (l4 : Int32) (hl2 : 20 ≤ l2 ∧ l2 < 50) (hl3 : 11 ≤ l3 ∧ l3 < 19), rc54 M l2 l3 l4 = some (rx, rw) → J G p l e rmX13_fake s m args below meth c 6 0 0 (MQ below (QP G (fun v9 H => v9 = some (.int rx) ∧ WH G Tr rw H)) args s 0 0 (gA G)) (WH G Tr M) 54 [(0, .ref (adW G 0)), (2, .ref (adW G l2)), (3, .ref (adW G l3)), (4, .int l4)] []) (M : MM) (l2 : Nat) (l3 : Nat) (l4 : Int32) (hl2 : 20 ≤ l2 ∧ l2 < 50) (hl3 : 11 ≤ l3 ∧ l3 < 19) (hF : FW_fake_B106 n rc54 M l2 l3 l4 = some (rx, rw)) : J G p l e rmX13_fake s m args below meth c 6 0 0 (MQ below (QP G (fun v9 H => v9 = some (.int rx) ∧ WH G Tr rw H)) args s 0 0 (gA G)) (WH G Tr M) 106 [(0, .ref (adW G 0)), (2, .ref (adW G l2)), (3, .ref (adW G l3)), (4, .int l4)] [] := by
  unfold FW_fake_B106 at hF
  refine J_iinc (v := l4 + 1) (lc2 := [(4, .int (l4 + 1)), (0, .ref (adW G 0)), (2, .ref (adW G l2)), (3, .ref (adW G l3))]) hX dX13_fake_106 3 rfl rfl (Nat.le_of_ble_eq_true rfl) rfl (t := 109) rfl ?_
  refine J_goto (tgt := 54) hX dX13_fake_109 (by decide) ?_
  refine J_sub (lc2 := [(0, .ref (adW G 0)), (2, .ref (adW G l2)), (3, .ref (adW G l3)), (4, .int (l4 + 1))]) [1, 2, 3, 0] rfl ?_
  exact hrc54 M l2 l3 (l4 + 1) hl2 hl3 hF
def FW_fake_L54 (n : Nat) : Nat → MM → Nat → Nat → Int32 → Option (Int32 × MM)
  | 0 => fun _ _ _ _ => none
  | k + 1 => fun M l2 l3 l4 =>
    let rc54 := FW_fake_L54 n k
    if M.1 0 2 ≤ l4 then
      FW_fake_B112 n rc54 M l3
    else
      if M.1 l3 2 ≤ 2 then
        FW_fake_B112 n rc54 M l3
      else
        gd (inb l4 30) <|
        if M.1 (20 + l4.toNatClampNeg) 0 = M.1 l2 0 then
          gd (inb l4 30) <|
          if M.1 (20 + l4.toNatClampNeg) 6 = 0 then
            bo2 (FW_cancel M l4) fun x10 M11 =>
            FW_fake_B106 n rc54 M11 l2 l3 l4
          else
            FW_fake_B106 n rc54 M l2 l3 l4
        else
          FW_fake_B106 n rc54 M l2 l3 l4
set_option maxHeartbeats 4000000 in
set_option maxRecDepth 100000 in
theorem LW_fake_54 {G : GG} {l : Launch} {p : Program} {e : Env} {s : State} {m : MethodId} {args : Array Value} {below : List Frame} {meth : Method} {c : Code} (hX : FX G RX13 cX13_fake 6 p s m args c) (hR : meth.sig.returnType = (some .int)) (hlk : meth.locks = false) {rx : Int32} {rw : MM} (n : Nat) : ∀ (k : Nat) (M : MM) (l2 : Nat) (l3 : Nat) (l4 : Int32) (hl2 : 20 ≤ l2 ∧ l2 < 50) (hl3 : 11 ≤ l3 ∧ l3 < 19), FW_fake_L54 n k M l2 l3 l4 = some (rx, rw) → J G p l e rmX13_fake s m args below meth c 6 0 0 (MQ below (QP G (fun v9 H => v9 = some (.int rx) ∧ WH G Tr rw H)) args s 0 0 (gA G)) (WH G Tr M) 54 [(0, .ref (adW G 0)), (2, .ref (adW G l2)), (3, .ref (adW G l3)), (4, .int l4)] [] := by
  intro k
  induction k with
  | zero => intro M l2 l3 l4 hl2 hl3 hF; cases hF
  | succ k ih =>
    intro M l2 l3 l4 hl2 hl3 hF
    simp only [FW_fake_L54] at hF
    generalize hrcd : FW_fake_L54 n k = rc54 at hF ih
    have hrc54 := ih
    refine J_iload hX dX13_fake_54 3 rfl (t := 56) rfl ?_
    refine J_aload_n hX dX13_fake_56 0 rfl (t := 57) rfl ?_
    refine J_wGet hX 2 (by decide) p_1025 rfl dX13_fake_57 (t := 60) rfl ?_
    refine J_icmp_ge (tgt := 112) hX dX13_fake_60 (by decide) (t := 63) rfl (fun zc => ?_) (fun zc => ?_)
    · replace hF := it_t hF zc
      refine J_sub (lc2 := [(3, .ref (adW G l3))]) [2] rfl ?_
      exact BW_fake_112 hX hR hlk n rc54 hrc54 M l3 hl3 hF
    · replace hF := it_f hF zc
      refine J_aload_n hX dX13_fake_63 2 rfl (t := 64) rfl ?_
      refine J_iconst (v := 2) hX dX13_fake_64 (by decide) (t := 65) rfl ?_
      refine J_wAld (n := 4) hX (kWc hl3) (by decide) rfl dX13_fake_65 (t := 66) rfl ?_
      refine J_iconst (v := 2) hX dX13_fake_66 (by decide) (t := 67) rfl ?_
      refine J_icmp_le (tgt := 112) hX dX13_fake_67 (by decide) (t := 70) rfl (fun zc => ?_) (fun zc => ?_)
      · replace hF := it_t hF zc
        refine J_sub (lc2 := [(3, .ref (adW G l3))]) [2] rfl ?_
        exact BW_fake_112 hX hR hlk n rc54 hrc54 M l3 hl3 hF
      · replace hF := it_f hF zc
        refine J_aload_n hX dX13_fake_70 0 rfl (t := 71) rfl ?_
        refine J_wGet hX 10 (by decide) p_1039 rfl dX13_fake_71 (t := 74) rfl ?_
        refine J_iload hX dX13_fake_74 3 rfl (t := 76) rfl ?_
        obtain ⟨g7, hF⟩ := gd_e hF
        refine J_wAs hX g7 dX13_fake_76 (t := 77) rfl ?_
        refine J_iconst (v := 0) hX dX13_fake_77 (by decide) (t := 78) rfl ?_
        refine J_wAld (n := 9) hX (kWs (inbR g7)) (by decide) rfl dX13_fake_78 (t := 79) rfl ?_
        refine J_aload_n hX dX13_fake_79 1 rfl (t := 80) rfl ?_
        refine J_iconst (v := 0) hX dX13_fake_80 (by decide) (t := 81) rfl ?_
        refine J_wAld (n := 9) hX (kWs hl2) (by decide) rfl dX13_fake_81 (t := 82) rfl ?_
        refine J_icmp_ne (tgt := 106) hX dX13_fake_82 (by decide) (t := 85) rfl (fun zc => ?_) (fun zc => ?_)
        · replace hF := it_f hF zc
          refine J_sub (lc2 := [(0, .ref (adW G 0)), (2, .ref (adW G l2)), (3, .ref (adW G l3)), (4, .int l4)]) [0, 1, 2, 3] rfl ?_
          exact BW_fake_106 hX hR hlk n rc54 hrc54 M l2 l3 l4 hl2 hl3 hF
        · replace hF := it_t hF zc
          refine J_aload_n hX dX13_fake_85 0 rfl (t := 86) rfl ?_
          refine J_wGet hX 10 (by decide) p_1039 rfl dX13_fake_86 (t := 89) rfl ?_
          refine J_iload hX dX13_fake_89 3 rfl (t := 91) rfl ?_
          obtain ⟨g8, hF⟩ := gd_e hF
          refine J_wAs hX g8 dX13_fake_91 (t := 92) rfl ?_
          refine J_bipush (v := 6) hX dX13_fake_92 (by decide) (t := 94) rfl ?_
          refine J_wAld (n := 9) hX (kWs (inbR g8)) (by decide) rfl dX13_fake_94 (t := 95) rfl ?_
          refine J_if_ne (tgt := 106) hX dX13_fake_95 (by decide) (t := 98) rfl (fun zc => ?_) (fun zc => ?_)
          · replace hF := it_f hF zc
            refine J_sub (lc2 := [(0, .ref (adW G 0)), (2, .ref (adW G l2)), (3, .ref (adW G l3)), (4, .int l4)]) [0, 1, 2, 3] rfl ?_
            exact BW_fake_106 hX hR hlk n rc54 hrc54 M l2 l3 l4 hl2 hl3 hF
          · replace hF := it_t hF zc
            refine J_aload_n hX dX13_fake_98 0 rfl (t := 99) rfl ?_
            refine J_iload hX dX13_fake_99 3 rfl (t := 101) rfl ?_
            obtain ⟨x10, M11, h9, hF⟩ := bo2_e hF
            refine J_wCall hX [.int l4] [] [.int x10] (ctW_cancel (G := G) (l := l) M l4 h9) miX13_cancel mvX13_cancel cb10 p_1254 ⟨rfl, rfl, Nat.le_of_ble_eq_true rfl, Nat.le_of_ble_eq_true rfl⟩ rfl rfl (Nat.le_of_ble_eq_true rfl) ⟨Nat.le_of_ble_eq_true rfl, Nat.le_of_ble_eq_true rfl⟩ dX13_fake_101 (t := 104) rfl rfl ?_
            refine J_istore (lc2 := [(5, .int x10), (0, .ref (adW G 0)), (2, .ref (adW G l2)), (3, .ref (adW G l3)), (4, .int l4)]) hX dX13_fake_104 (Nat.le_of_ble_eq_true rfl) rfl (t := 106) rfl ?_
            refine J_sub (lc2 := [(0, .ref (adW G 0)), (2, .ref (adW G l2)), (3, .ref (adW G l3)), (4, .int l4)]) [1, 2, 3, 4] rfl ?_
            exact BW_fake_106 hX hR hlk n rc54 hrc54 M11 l2 l3 l4 hl2 hl3 hF
def FW_fake_B49 (n : Nat) (M : MM) (l2 : Nat) (l3 : Nat) (y0 : Bool) (y1 : Int32) (y3 : Nat) : Option (Int32 × MM) :=
  bnd (sI M y3 2 (y1 + (bI y0))) fun M5 =>
  FW_fake_L54 n n M5 l2 l3 0
set_option maxHeartbeats 4000000 in
set_option maxRecDepth 100000 in
theorem BW_fake_49 {G : GG} {l : Launch} {p : Program} {e : Env} {s : State} {m : MethodId} {args : Array Value} {below : List Frame} {meth : Method} {c : Code} (hX : FX G RX13 cX13_fake 6 p s m args c) (hR : meth.sig.returnType = (some .int)) (hlk : meth.locks = false) {rx : Int32} {rw : MM} (n : Nat) (M : MM) (l2 : Nat) (l3 : Nat) (y0 : Bool) (y1 : Int32) (y3 : Nat) (hl2 : 20 ≤ l2 ∧ l2 < 50) (hl3 : 11 ≤ l3 ∧ l3 < 19) (hy3 : 11 ≤ y3 ∧ y3 < 19) (hF : FW_fake_B49 n M l2 l3 y0 y1 y3 = some (rx, rw)) : J G p l e rmX13_fake s m args below meth c 6 0 0 (MQ below (QP G (fun v9 H => v9 = some (.int rx) ∧ WH G Tr rw H)) args s 0 0 (gA G)) (WH G Tr M) 49 [(0, .ref (adW G 0)), (2, .ref (adW G l2)), (3, .ref (adW G l3))] [.int (bI y0), .int y1, .int 2, .ref (adW G y3)] := by
  unfold FW_fake_B49 at hF
  refine J_iadd hX dX13_fake_49 (t := 50) rfl ?_
  obtain ⟨M5, e6, hF⟩ := bnd_e hF
  refine J_wAst (n := 4) hX hTr (kWc hy3) (by decide) rfl e6 dX13_fake_50 (t := 51) rfl ?_
  refine J_iconst (v := 0) hX dX13_fake_51 (by decide) (t := 52) rfl ?_
  refine J_istore (lc2 := [(4, .int 0), (0, .ref (adW G 0)), (2, .ref (adW G l2)), (3, .ref (adW G l3))]) hX dX13_fake_52 (Nat.le_of_ble_eq_true rfl) rfl (t := 54) rfl ?_
  refine J_sub (lc2 := [(0, .ref (adW G 0)), (2, .ref (adW G l2)), (3, .ref (adW G l3)), (4, .int 0)]) [1, 2, 3, 0] rfl ?_
  exact LW_fake_54 hX hR hlk n n M5 l2 l3 0 hl2 hl3 hF
def FW_fake_B30 (n : Nat) (M : MM) (l2 : Nat) (l3 : Nat) (y0 : Bool) (y1 : Nat) : Option (Int32 × MM) :=
  bo1 (FW_back M y1 y0) fun M4 =>
  if M4.1 0 6 ≤ 0 then
    FW_fake_B49 n M4 l2 l3 false (M4.1 l3 2) l3
  else
    FW_fake_B49 n M4 l2 l3 true (M4.1 l3 2) l3
set_option maxHeartbeats 4000000 in
set_option maxRecDepth 100000 in
theorem BW_fake_30 {G : GG} {l : Launch} {p : Program} {e : Env} {s : State} {m : MethodId} {args : Array Value} {below : List Frame} {meth : Method} {c : Code} (hX : FX G RX13 cX13_fake 6 p s m args c) (hR : meth.sig.returnType = (some .int)) (hlk : meth.locks = false) {rx : Int32} {rw : MM} (n : Nat) (M : MM) (l2 : Nat) (l3 : Nat) (y0 : Bool) (y1 : Nat) (hl2 : 20 ≤ l2 ∧ l2 < 50) (hl3 : 11 ≤ l3 ∧ l3 < 19) (hy1 : 20 ≤ y1 ∧ y1 < 50) (hF : FW_fake_B30 n M l2 l3 y0 y1 = some (rx, rw)) : J G p l e rmX13_fake s m args below meth c 6 0 0 (MQ below (QP G (fun v9 H => v9 = some (.int rx) ∧ WH G Tr rw H)) args s 0 0 (gA G)) (WH G Tr M) 30 [(0, .ref (adW G 0)), (2, .ref (adW G l2)), (3, .ref (adW G l3))] [.int (bI y0), .ref (adW G y1), .ref (adW G 0)] := by
  unfold FW_fake_B30 at hF
  obtain ⟨M4, h3, hF⟩ := bo1_e hF
  refine J_wCall hX [.ref (adW G y1), .int (bI y0)] [] [] (ctW_back (G := G) (l := l) M y1 y0 hy1 h3) miX13_back mvX13_back cb10 p_1245 ⟨rfl, rfl, Nat.le_of_ble_eq_true rfl, Nat.le_of_ble_eq_true rfl⟩ rfl rfl (Nat.le_of_ble_eq_true rfl) ⟨Nat.le_of_ble_eq_true rfl, Nat.le_of_ble_eq_true rfl⟩ dX13_fake_30 (t := 33) rfl rfl ?_
  refine J_aload_n hX dX13_fake_33 2 rfl (t := 34) rfl ?_
  refine J_iconst (v := 2) hX dX13_fake_34 (by decide) (t := 35) rfl ?_
  refine J_dup2 hX dX13_fake_35 rfl rfl (t := 36) rfl ?_
  refine J_wAld (n := 4) hX (kWc hl3) (by decide) rfl dX13_fake_36 (t := 37) rfl ?_
  refine J_aload_n hX dX13_fake_37 0 rfl (t := 38) rfl ?_
  refine J_wGet hX 6 (by decide) p_1033 rfl dX13_fake_38 (t := 41) rfl ?_
  refine J_if_le (tgt := 48) hX dX13_fake_41 (by decide) (t := 44) rfl (fun zc => ?_) (fun zc => ?_)
  · replace hF := it_t hF zc
    refine J_iconst (v := 0) hX dX13_fake_48 (by decide) (t := 49) rfl ?_
    refine J_sub (lc2 := [(0, .ref (adW G 0)), (2, .ref (adW G l2)), (3, .ref (adW G l3))]) [0, 1, 2] rfl ?_
    exact BW_fake_49 hX hR hlk n M4 l2 l3 false (M4.1 l3 2) l3 hl2 hl3 hl3 hF
  · replace hF := it_f hF zc
    refine J_iconst (v := 1) hX dX13_fake_44 (by decide) (t := 45) rfl ?_
    refine J_goto (tgt := 49) hX dX13_fake_45 (by decide) ?_
    refine J_sub (lc2 := [(0, .ref (adW G 0)), (2, .ref (adW G l2)), (3, .ref (adW G l3))]) [0, 1, 2] rfl ?_
    exact BW_fake_49 hX hR hlk n M4 l2 l3 true (M4.1 l3 2) l3 hl2 hl3 hl3 hF
def FW_fake (n : Nat) (M : MM) (p1 : Int32) : Option (Int32 × MM) :=
  gd (inb p1 30) <|
  gd (inb (M.1 (20 + p1.toNatClampNeg) 0) 8) <|
  if M.1 0 6 ≤ 0 then
    FW_fake_B30 n M (20 + p1.toNatClampNeg) (11 + (M.1 (20 + p1.toNatClampNeg) 0).toNatClampNeg) false (20 + p1.toNatClampNeg)
  else
    FW_fake_B30 n M (20 + p1.toNatClampNeg) (11 + (M.1 (20 + p1.toNatClampNeg) 0).toNatClampNeg) true (20 + p1.toNatClampNeg)
set_option maxHeartbeats 4000000 in
set_option maxRecDepth 100000 in
theorem ctW_fake {G : GG} {l : Launch} (M : MM) (p1 : Int32)  (n : Nat) {rx : Int32} {rw : MM} (hF : FW_fake n M p1 = some (rx, rw)) : CTP G l yX13_fake cX13_fake 6 (some .int) rmX13_fake 0 0 [.ref (adW G 0), .int p1] (WH G Tr M) (fun v9 H => v9 = some (.int rx) ∧ WH G Tr rw H) := by
  refine CTP.of miX13_fake [(0, .ref (adW G 0)), (1, .int p1)] rfl (Nat.le_of_ble_eq_true rfl) ?_
  intro p e s m args below meth c hX hR hlk
  have hX : FX G RX13 cX13_fake 6 p s m args c := hX
  unfold FW_fake at hF
  refine J_aload_n hX dX13_fake_0 0 rfl (t := 1) rfl ?_
  refine J_wGet hX 10 (by decide) p_1039 rfl dX13_fake_1 (t := 4) rfl ?_
  refine J_iload_n hX dX13_fake_4 1 rfl (t := 5) rfl ?_
  obtain ⟨g1, hF⟩ := gd_e hF
  refine J_wAs hX g1 dX13_fake_5 (t := 6) rfl ?_
  refine J_astore_n (lc2 := [(2, .ref (adW G (20 + p1.toNatClampNeg))), (0, .ref (adW G 0)), (1, .int p1)]) hX dX13_fake_6 rfl (Nat.le_of_ble_eq_true rfl) rfl (t := 7) rfl ?_
  refine J_aload_n hX dX13_fake_7 1 rfl (t := 8) rfl ?_
  refine J_wGet hX 9 (by decide) p_1037 rfl dX13_fake_8 (t := 11) rfl ?_
  refine J_aload_n hX dX13_fake_11 0 rfl (t := 12) rfl ?_
  refine J_iconst (v := 0) hX dX13_fake_12 (by decide) (t := 13) rfl ?_
  refine J_wAld (n := 9) hX (kWs (inbR g1)) (by decide) rfl dX13_fake_13 (t := 14) rfl ?_
  obtain ⟨g2, hF⟩ := gd_e hF
  refine J_wAc hX g2 dX13_fake_14 (t := 15) rfl ?_
  refine J_astore_n (lc2 := [(3, .ref (adW G (11 + (M.1 (20 + p1.toNatClampNeg) 0).toNatClampNeg))), (2, .ref (adW G (20 + p1.toNatClampNeg))), (0, .ref (adW G 0)), (1, .int p1)]) hX dX13_fake_15 rfl (Nat.le_of_ble_eq_true rfl) rfl (t := 16) rfl ?_
  refine J_aload_n hX dX13_fake_16 2 rfl (t := 17) rfl ?_
  refine J_aload_n hX dX13_fake_17 1 rfl (t := 18) rfl ?_
  refine J_aload_n hX dX13_fake_18 2 rfl (t := 19) rfl ?_
  refine J_wGet hX 6 (by decide) p_1033 rfl dX13_fake_19 (t := 22) rfl ?_
  refine J_if_le (tgt := 29) hX dX13_fake_22 (by decide) (t := 25) rfl (fun zc => ?_) (fun zc => ?_)
  · replace hF := it_t hF zc
    refine J_iconst (v := 0) hX dX13_fake_29 (by decide) (t := 30) rfl ?_
    refine J_sub (lc2 := [(0, .ref (adW G 0)), (2, .ref (adW G (20 + p1.toNatClampNeg))), (3, .ref (adW G (11 + (M.1 (20 + p1.toNatClampNeg) 0).toNatClampNeg)))]) [2, 1, 0] rfl ?_
    exact BW_fake_30 hX hR hlk n M (20 + p1.toNatClampNeg) (11 + (M.1 (20 + p1.toNatClampNeg) 0).toNatClampNeg) false (20 + p1.toNatClampNeg) (inbR g1) (inbR g2) (inbR g1) hF
  · replace hF := it_f hF zc
    refine J_iconst (v := 1) hX dX13_fake_25 (by decide) (t := 26) rfl ?_
    refine J_goto (tgt := 30) hX dX13_fake_26 (by decide) ?_
    refine J_sub (lc2 := [(0, .ref (adW G 0)), (2, .ref (adW G (20 + p1.toNatClampNeg))), (3, .ref (adW G (11 + (M.1 (20 + p1.toNatClampNeg) 0).toNatClampNeg)))]) [2, 1, 0] rfl ?_
    exact BW_fake_30 hX hR hlk n M (20 + p1.toNatClampNeg) (11 + (M.1 (20 + p1.toNatClampNeg) 0).toNatClampNeg) true (20 + p1.toNatClampNeg) (inbR g1) (inbR g2) (inbR g1) hF
abbrev rmX13_pass : Room := { frames := 2, cells := 0, slots := 0, locals := 44 }
theorem miX13_pass : MI yX13_pass cX13_pass 6 (some .int) 1 := ⟨p_1240, p_25, by decide +kernel, by decide +kernel, by decide +kernel, by decide +kernel⟩
theorem mvX13_pass : MV yX13_pass := ⟨p_1238, p_1239⟩
def FW_pass_B164 (n : Nat) (rc116 : MM → Int32 → Int32 → Int32 → Int32 → Option (Int32 × MM)) (rc22 : MM → Int32 → Int32 → Int32 → Int32 → Option (Int32 × MM)) (rc4 : MM → Int32 → Int32 → Int32 → Option (Int32 × MM)) (M : MM) (l1 : Int32) (l2 : Int32) (l3 : Int32) (l4 : Int32) : Option (Int32 × MM) :=
  rc116 M l1 l2 l3 (l4 + 1)
set_option maxHeartbeats 4000000 in
set_option maxRecDepth 100000 in
theorem BW_pass_164 {G : GG} {l : Launch} {p : Program} {e : Env} {s : State} {m : MethodId} {args : Array Value} {below : List Frame} {meth : Method} {c : Code} (hX : FX G RX13 cX13_pass 6 p s m args c) (hR : meth.sig.returnType = (some .int)) (hlk : meth.locks = false) {rx : Int32} {rw : MM} (n : Nat) (rc116 : MM → Int32 → Int32 → Int32 → Int32 → Option (Int32 × MM)) (hrc116 : ∀ (M : MM) (l1 : Int32) (l2 : Int32) (l3 : Int32) (l4 : Int32) , rc116 M l1 l2 l3 l4 = some (rx, rw) → J G p l e rmX13_pass s m args below meth c 6 0 0 (MQ below (QP G (fun v9 H => v9 = some (.int rx) ∧ WH G Tr rw H)) args s 0 0 (gA G)) (WH G Tr M) 116 [(0, .ref (adW G 0)), (1, .int l1), (2, .int l2), (3, .int l3), (4, .int l4)] []) (rc22 : MM → Int32 → Int32 → Int32 → Int32 → Option (Int32 × MM)) (hrc22 : ∀ (M : MM) (l1 : Int32) (l2 : Int32) (l3 : Int32) (l4 : Int32) , rc22 M l1 l2 l3 l4 = some (rx, rw) → J G p l e rmX13_pass s m args below meth c 6 0 0 (MQ below (QP G (fun v9 H => v9 = some (.int rx) ∧ WH G Tr rw H)) args s 0 0 (gA G)) (WH G Tr M) 22 [(0, .ref (adW G 0)), (1, .int l1), (2, .int l2), (3, .int l3), (4, .int l4)] []) (rc4 : MM → Int32 → Int32 → Int32 → Option (Int32 × MM)) (hrc4 : ∀ (M : MM) (l1 : Int32) (l2 : Int32) (l3 : Int32) , rc4 M l1 l2 l3 = some (rx, rw) → J G p l e rmX13_pass s m args below meth c 6 0 0 (MQ below (QP G (fun v9 H => v9 = some (.int rx) ∧ WH G Tr rw H)) args s 0 0 (gA G)) (WH G Tr M) 4 [(0, .ref (adW G 0)), (1, .int l1), (2, .int l2), (3, .int l3)] []) (M : MM) (l1 : Int32) (l2 : Int32) (l3 : Int32) (l4 : Int32)  (hF : FW_pass_B164 n rc116 rc22 rc4 M l1 l2 l3 l4 = some (rx, rw)) : J G p l e rmX13_pass s m args below meth c 6 0 0 (MQ below (QP G (fun v9 H => v9 = some (.int rx) ∧ WH G Tr rw H)) args s 0 0 (gA G)) (WH G Tr M) 164 [(0, .ref (adW G 0)), (1, .int l1), (2, .int l2), (3, .int l3), (4, .int l4)] [] := by
  unfold FW_pass_B164 at hF
  refine J_iinc (v := l4 + 1) (lc2 := [(4, .int (l4 + 1)), (0, .ref (adW G 0)), (1, .int l1), (2, .int l2), (3, .int l3)]) hX dX13_pass_164 4 rfl rfl (Nat.le_of_ble_eq_true rfl) rfl (t := 167) rfl ?_
  refine J_goto (tgt := 116) hX dX13_pass_167 (by decide) ?_
  refine J_sub (lc2 := [(0, .ref (adW G 0)), (1, .int l1), (2, .int l2), (3, .int l3), (4, .int (l4 + 1))]) [1, 2, 3, 4, 0] rfl ?_
  exact hrc116 M l1 l2 l3 (l4 + 1) hF
def FW_pass_L116 (n : Nat) (rc22 : MM → Int32 → Int32 → Int32 → Int32 → Option (Int32 × MM)) (rc4 : MM → Int32 → Int32 → Int32 → Option (Int32 × MM)) : Nat → MM → Int32 → Int32 → Int32 → Int32 → Option (Int32 × MM)
  | 0 => fun _ _ _ _ _ => none
  | k + 1 => fun M l1 l2 l3 l4 =>
    let rc116 := FW_pass_L116 n rc22 rc4 k
    if M.1 0 2 ≤ l4 then
      rc4 M l1 l2 (l3 + 1)
    else
      gd (inb l4 30) <|
      if M.1 (20 + l4.toNatClampNeg) 6 = 0 then
        gd (inb l4 30) <|
        bo1 (FW_end M (20 + l4.toNatClampNeg)) fun x6 =>
        if x6 = M.1 0 3 then
          bo2 (FW_cancel M l4) fun x8 M9 =>
          FW_pass_B164 n rc116 rc22 rc4 M9 l1 l2 l3 l4
        else
          FW_pass_B164 n rc116 rc22 rc4 M l1 l2 l3 l4
      else
        FW_pass_B164 n rc116 rc22 rc4 M l1 l2 l3 l4
set_option maxHeartbeats 4000000 in
set_option maxRecDepth 100000 in
theorem LW_pass_116 {G : GG} {l : Launch} {p : Program} {e : Env} {s : State} {m : MethodId} {args : Array Value} {below : List Frame} {meth : Method} {c : Code} (hX : FX G RX13 cX13_pass 6 p s m args c) (hR : meth.sig.returnType = (some .int)) (hlk : meth.locks = false) {rx : Int32} {rw : MM} (n : Nat) (rc22 : MM → Int32 → Int32 → Int32 → Int32 → Option (Int32 × MM)) (hrc22 : ∀ (M : MM) (l1 : Int32) (l2 : Int32) (l3 : Int32) (l4 : Int32) , rc22 M l1 l2 l3 l4 = some (rx, rw) → J G p l e rmX13_pass s m args below meth c 6 0 0 (MQ below (QP G (fun v9 H => v9 = some (.int rx) ∧ WH G Tr rw H)) args s 0 0 (gA G)) (WH G Tr M) 22 [(0, .ref (adW G 0)), (1, .int l1), (2, .int l2), (3, .int l3), (4, .int l4)] []) (rc4 : MM → Int32 → Int32 → Int32 → Option (Int32 × MM)) (hrc4 : ∀ (M : MM) (l1 : Int32) (l2 : Int32) (l3 : Int32) , rc4 M l1 l2 l3 = some (rx, rw) → J G p l e rmX13_pass s m args below meth c 6 0 0 (MQ below (QP G (fun v9 H => v9 = some (.int rx) ∧ WH G Tr rw H)) args s 0 0 (gA G)) (WH G Tr M) 4 [(0, .ref (adW G 0)), (1, .int l1), (2, .int l2), (3, .int l3)] []) : ∀ (k : Nat) (M : MM) (l1 : Int32) (l2 : Int32) (l3 : Int32) (l4 : Int32) , FW_pass_L116 n rc22 rc4 k M l1 l2 l3 l4 = some (rx, rw) → J G p l e rmX13_pass s m args below meth c 6 0 0 (MQ below (QP G (fun v9 H => v9 = some (.int rx) ∧ WH G Tr rw H)) args s 0 0 (gA G)) (WH G Tr M) 116 [(0, .ref (adW G 0)), (1, .int l1), (2, .int l2), (3, .int l3), (4, .int l4)] [] := by
  intro k
  induction k with
  | zero => intro M l1 l2 l3 l4  hF; cases hF
  | succ k ih =>
    intro M l1 l2 l3 l4  hF
    simp only [FW_pass_L116] at hF
    generalize hrcd : FW_pass_L116 n rc22 rc4 k = rc116 at hF ih
    have hrc116 := ih
    refine J_iload hX dX13_pass_116 4 rfl (t := 118) rfl ?_
    refine J_aload_n hX dX13_pass_118 0 rfl (t := 119) rfl ?_
    refine J_wGet hX 2 (by decide) p_1025 rfl dX13_pass_119 (t := 122) rfl ?_
    refine J_icmp_ge (tgt := 170) hX dX13_pass_122 (by decide) (t := 125) rfl (fun zc => ?_) (fun zc => ?_)
    · replace hF := it_t hF zc
      refine J_iinc (v := l3 + 1) (lc2 := [(3, .int (l3 + 1)), (0, .ref (adW G 0)), (1, .int l1), (2, .int l2), (4, .int l4)]) hX dX13_pass_170 3 rfl rfl (Nat.le_of_ble_eq_true rfl) rfl (t := 173) rfl ?_
      refine J_goto (tgt := 4) hX dX13_pass_173 (by decide) ?_
      refine J_sub (lc2 := [(0, .ref (adW G 0)), (1, .int l1), (2, .int l2), (3, .int (l3 + 1))]) [1, 2, 3, 0] rfl ?_
      exact hrc4 M l1 l2 (l3 + 1) hF
    · replace hF := it_f hF zc
      refine J_aload_n hX dX13_pass_125 0 rfl (t := 126) rfl ?_
      refine J_wGet hX 10 (by decide) p_1039 rfl dX13_pass_126 (t := 129) rfl ?_
      refine J_iload hX dX13_pass_129 4 rfl (t := 131) rfl ?_
      obtain ⟨g3, hF⟩ := gd_e hF
      refine J_wAs hX g3 dX13_pass_131 (t := 132) rfl ?_
      refine J_bipush (v := 6) hX dX13_pass_132 (by decide) (t := 134) rfl ?_
      refine J_wAld (n := 9) hX (kWs (inbR g3)) (by decide) rfl dX13_pass_134 (t := 135) rfl ?_
      refine J_if_ne (tgt := 164) hX dX13_pass_135 (by decide) (t := 138) rfl (fun zc => ?_) (fun zc => ?_)
      · replace hF := it_f hF zc
        refine J_sub (lc2 := [(0, .ref (adW G 0)), (1, .int l1), (2, .int l2), (3, .int l3), (4, .int l4)]) [0, 1, 2, 3, 4] rfl ?_
        exact BW_pass_164 hX hR hlk n rc116 hrc116 rc22 hrc22 rc4 hrc4 M l1 l2 l3 l4 hF
      · replace hF := it_t hF zc
        refine J_aload_n hX dX13_pass_138 0 rfl (t := 139) rfl ?_
        refine J_aload_n hX dX13_pass_139 0 rfl (t := 140) rfl ?_
        refine J_wGet hX 10 (by decide) p_1039 rfl dX13_pass_140 (t := 143) rfl ?_
        refine J_iload hX dX13_pass_143 4 rfl (t := 145) rfl ?_
        obtain ⟨g4, hF⟩ := gd_e hF
        refine J_wAs hX g4 dX13_pass_145 (t := 146) rfl ?_
        obtain ⟨x6, h5, hF⟩ := bo1_e hF
        refine J_wCall hX [.ref (adW G (20 + l4.toNatClampNeg))] [] [.int x6] (ctW_end (G := G) (l := l) M (20 + l4.toNatClampNeg) (inbR g4) h5) miX13_end mvX13_end cb10 p_1250 ⟨rfl, rfl, Nat.le_of_ble_eq_true rfl, Nat.le_of_ble_eq_true rfl⟩ rfl rfl (Nat.le_of_ble_eq_true rfl) ⟨Nat.le_of_ble_eq_true rfl, Nat.le_of_ble_eq_true rfl⟩ dX13_pass_146 (t := 149) rfl rfl ?_
        refine J_aload_n hX dX13_pass_149 0 rfl (t := 150) rfl ?_
        refine J_wGet hX 3 (by decide) p_1027 rfl dX13_pass_150 (t := 153) rfl ?_
        refine J_icmp_ne (tgt := 164) hX dX13_pass_153 (by decide) (t := 156) rfl (fun zc => ?_) (fun zc => ?_)
        · replace hF := it_f hF zc
          refine J_sub (lc2 := [(0, .ref (adW G 0)), (1, .int l1), (2, .int l2), (3, .int l3), (4, .int l4)]) [0, 1, 2, 3, 4] rfl ?_
          exact BW_pass_164 hX hR hlk n rc116 hrc116 rc22 hrc22 rc4 hrc4 M l1 l2 l3 l4 hF
        · replace hF := it_t hF zc
          refine J_aload_n hX dX13_pass_156 0 rfl (t := 157) rfl ?_
          refine J_iload hX dX13_pass_157 4 rfl (t := 159) rfl ?_
          obtain ⟨x8, M9, h7, hF⟩ := bo2_e hF
          refine J_wCall hX [.int l4] [] [.int x8] (ctW_cancel (G := G) (l := l) M l4 h7) miX13_cancel mvX13_cancel cb10 p_1254 ⟨rfl, rfl, Nat.le_of_ble_eq_true rfl, Nat.le_of_ble_eq_true rfl⟩ rfl rfl (Nat.le_of_ble_eq_true rfl) ⟨Nat.le_of_ble_eq_true rfl, Nat.le_of_ble_eq_true rfl⟩ dX13_pass_159 (t := 162) rfl rfl ?_
          refine J_istore (lc2 := [(5, .int x8), (0, .ref (adW G 0)), (1, .int l1), (2, .int l2), (3, .int l3), (4, .int l4)]) hX dX13_pass_162 (Nat.le_of_ble_eq_true rfl) rfl (t := 164) rfl ?_
          refine J_sub (lc2 := [(0, .ref (adW G 0)), (1, .int l1), (2, .int l2), (3, .int l3), (4, .int l4)]) [1, 2, 3, 4, 5] rfl ?_
          exact BW_pass_164 hX hR hlk n rc116 hrc116 rc22 hrc22 rc4 hrc4 M9 l1 l2 l3 l4 hF
def FW_pass_B107 (n : Nat) (rc22 : MM → Int32 → Int32 → Int32 → Int32 → Option (Int32 × MM)) (rc4 : MM → Int32 → Int32 → Int32 → Option (Int32 × MM)) (M : MM) (l1 : Int32) (l2 : Int32) (l3 : Int32) (l4 : Int32) : Option (Int32 × MM) :=
  rc22 M l1 l2 l3 (l4 + 1)
set_option maxHeartbeats 4000000 in
set_option maxRecDepth 100000 in
theorem BW_pass_107 {G : GG} {l : Launch} {p : Program} {e : Env} {s : State} {m : MethodId} {args : Array Value} {below : List Frame} {meth : Method} {c : Code} (hX : FX G RX13 cX13_pass 6 p s m args c) (hR : meth.sig.returnType = (some .int)) (hlk : meth.locks = false) {rx : Int32} {rw : MM} (n : Nat) (rc22 : MM → Int32 → Int32 → Int32 → Int32 → Option (Int32 × MM)) (hrc22 : ∀ (M : MM) (l1 : Int32) (l2 : Int32) (l3 : Int32) (l4 : Int32) , rc22 M l1 l2 l3 l4 = some (rx, rw) → J G p l e rmX13_pass s m args below meth c 6 0 0 (MQ below (QP G (fun v9 H => v9 = some (.int rx) ∧ WH G Tr rw H)) args s 0 0 (gA G)) (WH G Tr M) 22 [(0, .ref (adW G 0)), (1, .int l1), (2, .int l2), (3, .int l3), (4, .int l4)] []) (rc4 : MM → Int32 → Int32 → Int32 → Option (Int32 × MM)) (hrc4 : ∀ (M : MM) (l1 : Int32) (l2 : Int32) (l3 : Int32) , rc4 M l1 l2 l3 = some (rx, rw) → J G p l e rmX13_pass s m args below meth c 6 0 0 (MQ below (QP G (fun v9 H => v9 = some (.int rx) ∧ WH G Tr rw H)) args s 0 0 (gA G)) (WH G Tr M) 4 [(0, .ref (adW G 0)), (1, .int l1), (2, .int l2), (3, .int l3)] []) (M : MM) (l1 : Int32) (l2 : Int32) (l3 : Int32) (l4 : Int32)  (hF : FW_pass_B107 n rc22 rc4 M l1 l2 l3 l4 = some (rx, rw)) : J G p l e rmX13_pass s m args below meth c 6 0 0 (MQ below (QP G (fun v9 H => v9 = some (.int rx) ∧ WH G Tr rw H)) args s 0 0 (gA G)) (WH G Tr M) 107 [(0, .ref (adW G 0)), (1, .int l1), (2, .int l2), (3, .int l3), (4, .int l4)] [] := by
  unfold FW_pass_B107 at hF
  refine J_iinc (v := l4 + 1) (lc2 := [(4, .int (l4 + 1)), (0, .ref (adW G 0)), (1, .int l1), (2, .int l2), (3, .int l3)]) hX dX13_pass_107 4 rfl rfl (Nat.le_of_ble_eq_true rfl) rfl (t := 110) rfl ?_
  refine J_goto (tgt := 22) hX dX13_pass_110 (by decide) ?_
  refine J_sub (lc2 := [(0, .ref (adW G 0)), (1, .int l1), (2, .int l2), (3, .int l3), (4, .int (l4 + 1))]) [1, 2, 3, 4, 0] rfl ?_
  exact hrc22 M l1 l2 l3 (l4 + 1) hF
def FW_pass_B101 (n : Nat) (rc22 : MM → Int32 → Int32 → Int32 → Int32 → Option (Int32 × MM)) (rc4 : MM → Int32 → Int32 → Int32 → Option (Int32 × MM)) (M : MM) (l1 : Int32) (l2 : Int32) (l3 : Int32) (l4 : Int32) (y0 : Bool) (y1 : Nat) : Option (Int32 × MM) :=
  bo1 (FW_back M y1 y0) fun M15 =>
  FW_pass_B107 n rc22 rc4 M15 l1 (l2 + 1) l3 l4
set_option maxHeartbeats 4000000 in
set_option maxRecDepth 100000 in
theorem BW_pass_101 {G : GG} {l : Launch} {p : Program} {e : Env} {s : State} {m : MethodId} {args : Array Value} {below : List Frame} {meth : Method} {c : Code} (hX : FX G RX13 cX13_pass 6 p s m args c) (hR : meth.sig.returnType = (some .int)) (hlk : meth.locks = false) {rx : Int32} {rw : MM} (n : Nat) (rc22 : MM → Int32 → Int32 → Int32 → Int32 → Option (Int32 × MM)) (hrc22 : ∀ (M : MM) (l1 : Int32) (l2 : Int32) (l3 : Int32) (l4 : Int32) , rc22 M l1 l2 l3 l4 = some (rx, rw) → J G p l e rmX13_pass s m args below meth c 6 0 0 (MQ below (QP G (fun v9 H => v9 = some (.int rx) ∧ WH G Tr rw H)) args s 0 0 (gA G)) (WH G Tr M) 22 [(0, .ref (adW G 0)), (1, .int l1), (2, .int l2), (3, .int l3), (4, .int l4)] []) (rc4 : MM → Int32 → Int32 → Int32 → Option (Int32 × MM)) (hrc4 : ∀ (M : MM) (l1 : Int32) (l2 : Int32) (l3 : Int32) , rc4 M l1 l2 l3 = some (rx, rw) → J G p l e rmX13_pass s m args below meth c 6 0 0 (MQ below (QP G (fun v9 H => v9 = some (.int rx) ∧ WH G Tr rw H)) args s 0 0 (gA G)) (WH G Tr M) 4 [(0, .ref (adW G 0)), (1, .int l1), (2, .int l2), (3, .int l3)] []) (M : MM) (l1 : Int32) (l2 : Int32) (l3 : Int32) (l4 : Int32) (y0 : Bool) (y1 : Nat) (hy1 : 20 ≤ y1 ∧ y1 < 50) (hF : FW_pass_B101 n rc22 rc4 M l1 l2 l3 l4 y0 y1 = some (rx, rw)) : J G p l e rmX13_pass s m args below meth c 6 0 0 (MQ below (QP G (fun v9 H => v9 = some (.int rx) ∧ WH G Tr rw H)) args s 0 0 (gA G)) (WH G Tr M) 101 [(0, .ref (adW G 0)), (1, .int l1), (2, .int l2), (3, .int l3), (4, .int l4)] [.int (bI y0), .ref (adW G y1), .ref (adW G 0)] := by
  unfold FW_pass_B101 at hF
  obtain ⟨M15, h14, hF⟩ := bo1_e hF
  refine J_wCall hX [.ref (adW G y1), .int (bI y0)] [] [] (ctW_back (G := G) (l := l) M y1 y0 hy1 h14) miX13_back mvX13_back cb10 p_1245 ⟨rfl, rfl, Nat.le_of_ble_eq_true rfl, Nat.le_of_ble_eq_true rfl⟩ rfl rfl (Nat.le_of_ble_eq_true rfl) ⟨Nat.le_of_ble_eq_true rfl, Nat.le_of_ble_eq_true rfl⟩ dX13_pass_101 (t := 104) rfl rfl ?_
  refine J_iinc (v := l2 + 1) (lc2 := [(2, .int (l2 + 1)), (0, .ref (adW G 0)), (1, .int l1), (3, .int l3), (4, .int l4)]) hX dX13_pass_104 2 rfl rfl (Nat.le_of_ble_eq_true rfl) rfl (t := 107) rfl ?_
  refine J_sub (lc2 := [(0, .ref (adW G 0)), (1, .int l1), (2, .int (l2 + 1)), (3, .int l3), (4, .int l4)]) [1, 2, 0, 3, 4] rfl ?_
  exact BW_pass_107 hX hR hlk n rc22 hrc22 rc4 hrc4 M15 l1 (l2 + 1) l3 l4 hF
def FW_pass_L22 (n : Nat) (rc4 : MM → Int32 → Int32 → Int32 → Option (Int32 × MM)) : Nat → MM → Int32 → Int32 → Int32 → Int32 → Option (Int32 × MM)
  | 0 => fun _ _ _ _ _ => none
  | k + 1 => fun M l1 l2 l3 l4 =>
    let rc22 := FW_pass_L22 n rc4 k
    if M.1 0 2 ≤ l4 then
      FW_pass_L116 n rc22 rc4 n M l1 l2 l3 0
    else
      gd (inb l4 30) <|
      if M.1 (20 + l4.toNatClampNeg) 6 = 0 then
        bo1 (FW_due M (20 + l4.toNatClampNeg)) fun x12 =>
        if x12 = M.1 0 3 then
          gd (inb (M.1 (20 + l4.toNatClampNeg) 1) 8) <|
          if ((M.1 (20 + l4.toNatClampNeg) 2) - (2 * ((M.1 (20 + l4.toNatClampNeg) 7) + 1))) - (M.1 (2 + (M.1 (20 + l4.toNatClampNeg) 1).toNatClampNeg) 3) ≤ 0 then
            FW_pass_B101 n rc22 rc4 M l1 l2 l3 l4 false (20 + l4.toNatClampNeg)
          else
            FW_pass_B101 n rc22 rc4 M l1 l2 l3 l4 true (20 + l4.toNatClampNeg)
        else
          FW_pass_B107 n rc22 rc4 M l1 l2 l3 l4
      else
        FW_pass_B107 n rc22 rc4 M l1 l2 l3 l4
set_option maxHeartbeats 4000000 in
set_option maxRecDepth 100000 in
theorem LW_pass_22 {G : GG} {l : Launch} {p : Program} {e : Env} {s : State} {m : MethodId} {args : Array Value} {below : List Frame} {meth : Method} {c : Code} (hX : FX G RX13 cX13_pass 6 p s m args c) (hR : meth.sig.returnType = (some .int)) (hlk : meth.locks = false) {rx : Int32} {rw : MM} (n : Nat) (rc4 : MM → Int32 → Int32 → Int32 → Option (Int32 × MM)) (hrc4 : ∀ (M : MM) (l1 : Int32) (l2 : Int32) (l3 : Int32) , rc4 M l1 l2 l3 = some (rx, rw) → J G p l e rmX13_pass s m args below meth c 6 0 0 (MQ below (QP G (fun v9 H => v9 = some (.int rx) ∧ WH G Tr rw H)) args s 0 0 (gA G)) (WH G Tr M) 4 [(0, .ref (adW G 0)), (1, .int l1), (2, .int l2), (3, .int l3)] []) : ∀ (k : Nat) (M : MM) (l1 : Int32) (l2 : Int32) (l3 : Int32) (l4 : Int32) , FW_pass_L22 n rc4 k M l1 l2 l3 l4 = some (rx, rw) → J G p l e rmX13_pass s m args below meth c 6 0 0 (MQ below (QP G (fun v9 H => v9 = some (.int rx) ∧ WH G Tr rw H)) args s 0 0 (gA G)) (WH G Tr M) 22 [(0, .ref (adW G 0)), (1, .int l1), (2, .int l2), (3, .int l3), (4, .int l4)] [] := by
  intro k
  induction k with
  | zero => intro M l1 l2 l3 l4  hF; cases hF
  | succ k ih =>
    intro M l1 l2 l3 l4  hF
    simp only [FW_pass_L22] at hF
    generalize hrcd : FW_pass_L22 n rc4 k = rc22 at hF ih
    have hrc22 := ih
    refine J_iload hX dX13_pass_22 4 rfl (t := 24) rfl ?_
    refine J_aload_n hX dX13_pass_24 0 rfl (t := 25) rfl ?_
    refine J_wGet hX 2 (by decide) p_1025 rfl dX13_pass_25 (t := 28) rfl ?_
    refine J_icmp_ge (tgt := 113) hX dX13_pass_28 (by decide) (t := 31) rfl (fun zc => ?_) (fun zc => ?_)
    · replace hF := it_t hF zc
      refine J_iconst (v := 0) hX dX13_pass_113 (by decide) (t := 114) rfl ?_
      refine J_istore (lc2 := [(4, .int 0), (0, .ref (adW G 0)), (1, .int l1), (2, .int l2), (3, .int l3)]) hX dX13_pass_114 (Nat.le_of_ble_eq_true rfl) rfl (t := 116) rfl ?_
      refine J_sub (lc2 := [(0, .ref (adW G 0)), (1, .int l1), (2, .int l2), (3, .int l3), (4, .int 0)]) [1, 2, 3, 4, 0] rfl ?_
      exact LW_pass_116 hX hR hlk n rc22 hrc22 rc4 hrc4 n M l1 l2 l3 0 hF
    · replace hF := it_f hF zc
      refine J_aload_n hX dX13_pass_31 0 rfl (t := 32) rfl ?_
      refine J_wGet hX 10 (by decide) p_1039 rfl dX13_pass_32 (t := 35) rfl ?_
      refine J_iload hX dX13_pass_35 4 rfl (t := 37) rfl ?_
      obtain ⟨g10, hF⟩ := gd_e hF
      refine J_wAs hX g10 dX13_pass_37 (t := 38) rfl ?_
      refine J_astore (lc2 := [(5, .ref (adW G (20 + l4.toNatClampNeg))), (0, .ref (adW G 0)), (1, .int l1), (2, .int l2), (3, .int l3), (4, .int l4)]) hX dX13_pass_38 (Nat.le_of_ble_eq_true rfl) rfl (t := 40) rfl ?_
      refine J_aload hX dX13_pass_40 0 rfl (t := 42) rfl ?_
      refine J_bipush (v := 6) hX dX13_pass_42 (by decide) (t := 44) rfl ?_
      refine J_wAld (n := 9) hX (kWs (inbR g10)) (by decide) rfl dX13_pass_44 (t := 45) rfl ?_
      refine J_if_ne (tgt := 107) hX dX13_pass_45 (by decide) (t := 48) rfl (fun zc => ?_) (fun zc => ?_)
      · replace hF := it_f hF zc
        refine J_sub (lc2 := [(0, .ref (adW G 0)), (1, .int l1), (2, .int l2), (3, .int l3), (4, .int l4)]) [1, 2, 3, 4, 5] rfl ?_
        exact BW_pass_107 hX hR hlk n rc22 hrc22 rc4 hrc4 M l1 l2 l3 l4 hF
      · replace hF := it_t hF zc
        refine J_aload_n hX dX13_pass_48 1 rfl (t := 49) rfl ?_
        refine J_aload hX dX13_pass_49 0 rfl (t := 51) rfl ?_
        obtain ⟨x12, h11, hF⟩ := bo1_e hF
        refine J_wCall hX [.ref (adW G (20 + l4.toNatClampNeg))] [] [.int x12] (ctW_due (G := G) (l := l) M (20 + l4.toNatClampNeg) (inbR g10) h11) miX13_due mvX13_due cb10 p_1241 ⟨rfl, rfl, Nat.le_of_ble_eq_true rfl, Nat.le_of_ble_eq_true rfl⟩ rfl rfl (Nat.le_of_ble_eq_true rfl) ⟨Nat.le_of_ble_eq_true rfl, Nat.le_of_ble_eq_true rfl⟩ dX13_pass_51 (t := 54) rfl rfl ?_
        refine J_aload_n hX dX13_pass_54 1 rfl (t := 55) rfl ?_
        refine J_wGet hX 3 (by decide) p_1027 rfl dX13_pass_55 (t := 58) rfl ?_
        refine J_icmp_eq (tgt := 64) hX dX13_pass_58 (by decide) (t := 61) rfl (fun zc => ?_) (fun zc => ?_)
        · replace hF := it_t hF zc
          refine J_aload_n hX dX13_pass_64 1 rfl (t := 65) rfl ?_
          refine J_aload hX dX13_pass_65 0 rfl (t := 67) rfl ?_
          refine J_aload hX dX13_pass_67 0 rfl (t := 69) rfl ?_
          refine J_iconst (v := 2) hX dX13_pass_69 (by decide) (t := 70) rfl ?_
          refine J_wAld (n := 9) hX (kWs (inbR g10)) (by decide) rfl dX13_pass_70 (t := 71) rfl ?_
          refine J_iconst (v := 2) hX dX13_pass_71 (by decide) (t := 72) rfl ?_
          refine J_aload hX dX13_pass_72 0 rfl (t := 74) rfl ?_
          refine J_bipush (v := 7) hX dX13_pass_74 (by decide) (t := 76) rfl ?_
          refine J_wAld (n := 9) hX (kWs (inbR g10)) (by decide) rfl dX13_pass_76 (t := 77) rfl ?_
          refine J_iconst (v := 1) hX dX13_pass_77 (by decide) (t := 78) rfl ?_
          refine J_iadd hX dX13_pass_78 (t := 79) rfl ?_
          refine J_imul hX dX13_pass_79 (t := 80) rfl ?_
          refine J_isub hX dX13_pass_80 (t := 81) rfl ?_
          refine J_aload_n hX dX13_pass_81 1 rfl (t := 82) rfl ?_
          refine J_wGet hX 8 (by decide) p_1035 rfl dX13_pass_82 (t := 85) rfl ?_
          refine J_aload hX dX13_pass_85 0 rfl (t := 87) rfl ?_
          refine J_iconst (v := 1) hX dX13_pass_87 (by decide) (t := 88) rfl ?_
          refine J_wAld (n := 9) hX (kWs (inbR g10)) (by decide) rfl dX13_pass_88 (t := 89) rfl ?_
          obtain ⟨g13, hF⟩ := gd_e hF
          refine J_wAv hX g13 dX13_pass_89 (t := 90) rfl ?_
          refine J_iconst (v := 3) hX dX13_pass_90 (by decide) (t := 91) rfl ?_
          refine J_wAld (n := 6) hX (kWv (inbR g13)) (by decide) rfl dX13_pass_91 (t := 92) rfl ?_
          refine J_isub hX dX13_pass_92 (t := 93) rfl ?_
          refine J_if_le (tgt := 100) hX dX13_pass_93 (by decide) (t := 96) rfl (fun zc => ?_) (fun zc => ?_)
          · replace hF := it_t hF zc
            refine J_iconst (v := 0) hX dX13_pass_100 (by decide) (t := 101) rfl ?_
            refine J_sub (lc2 := [(0, .ref (adW G 0)), (1, .int l1), (2, .int l2), (3, .int l3), (4, .int l4)]) [1, 2, 3, 4, 5] rfl ?_
            exact BW_pass_101 hX hR hlk n rc22 hrc22 rc4 hrc4 M l1 l2 l3 l4 false (20 + l4.toNatClampNeg) (inbR g10) hF
          · replace hF := it_f hF zc
            refine J_iconst (v := 1) hX dX13_pass_96 (by decide) (t := 97) rfl ?_
            refine J_goto (tgt := 101) hX dX13_pass_97 (by decide) ?_
            refine J_sub (lc2 := [(0, .ref (adW G 0)), (1, .int l1), (2, .int l2), (3, .int l3), (4, .int l4)]) [1, 2, 3, 4, 5] rfl ?_
            exact BW_pass_101 hX hR hlk n rc22 hrc22 rc4 hrc4 M l1 l2 l3 l4 true (20 + l4.toNatClampNeg) (inbR g10) hF
        · replace hF := it_f hF zc
          refine J_goto (tgt := 107) hX dX13_pass_61 (by decide) ?_
          refine J_sub (lc2 := [(0, .ref (adW G 0)), (1, .int l1), (2, .int l2), (3, .int l3), (4, .int l4)]) [1, 2, 3, 4, 5] rfl ?_
          exact BW_pass_107 hX hR hlk n rc22 hrc22 rc4 hrc4 M l1 l2 l3 l4 hF
def FW_pass_L4 (n : Nat) : Nat → MM → Int32 → Int32 → Int32 → Option (Int32 × MM)
  | 0 => fun _ _ _ _ => none
  | k + 1 => fun M l1 l2 l3 =>
    let rc4 := FW_pass_L4 n k
    if l1 ≤ l3 then
      some (l2, M)
    else
      bnd (sI M 0 3 ((M.1 0 3) + 1)) fun M1 =>
      FW_pass_L22 n rc4 n M1 l1 l2 l3 0
set_option maxHeartbeats 4000000 in
set_option maxRecDepth 100000 in
theorem LW_pass_4 {G : GG} {l : Launch} {p : Program} {e : Env} {s : State} {m : MethodId} {args : Array Value} {below : List Frame} {meth : Method} {c : Code} (hX : FX G RX13 cX13_pass 6 p s m args c) (hR : meth.sig.returnType = (some .int)) (hlk : meth.locks = false) {rx : Int32} {rw : MM} (n : Nat) : ∀ (k : Nat) (M : MM) (l1 : Int32) (l2 : Int32) (l3 : Int32) , FW_pass_L4 n k M l1 l2 l3 = some (rx, rw) → J G p l e rmX13_pass s m args below meth c 6 0 0 (MQ below (QP G (fun v9 H => v9 = some (.int rx) ∧ WH G Tr rw H)) args s 0 0 (gA G)) (WH G Tr M) 4 [(0, .ref (adW G 0)), (1, .int l1), (2, .int l2), (3, .int l3)] [] := by
  intro k
  induction k with
  | zero => intro M l1 l2 l3  hF; cases hF
  | succ k ih =>
    intro M l1 l2 l3  hF
    simp only [FW_pass_L4] at hF
    generalize hrcd : FW_pass_L4 n k = rc4 at hF ih
    have hrc4 := ih
    refine J_iload_n hX dX13_pass_4 3 rfl (t := 5) rfl ?_
    refine J_iload_n hX dX13_pass_5 1 rfl (t := 6) rfl ?_
    refine J_icmp_ge (tgt := 176) hX dX13_pass_6 (by decide) (t := 9) rfl (fun zc => ?_) (fun zc => ?_)
    · replace hF := it_t hF zc
      refine J_iload_n hX dX13_pass_176 2 rfl (t := 177) rfl ?_
      replace hF := Option.some.inj hF
      obtain ⟨hF, hF2⟩ := Prod.mk.inj hF
      subst hF
      subst hF2
      exact J_iretP hX hR hlk (fun H h => ⟨rfl, h⟩) dX13_pass_177
    · replace hF := it_f hF zc
      refine J_aload_n hX dX13_pass_9 0 rfl (t := 10) rfl ?_
      refine J_dup hX dX13_pass_10 rfl (t := 11) rfl ?_
      refine J_wGet hX 3 (by decide) p_1027 rfl dX13_pass_11 (t := 14) rfl ?_
      refine J_iconst (v := 1) hX dX13_pass_14 (by decide) (t := 15) rfl ?_
      refine J_iadd hX dX13_pass_15 (t := 16) rfl ?_
      obtain ⟨M1, e2, hF⟩ := bnd_e hF
      refine J_wPut hX hTr 3 (by decide) p_1027 rfl rfl e2 rfl dX13_pass_16 (t := 19) rfl ?_
      refine J_iconst (v := 0) hX dX13_pass_19 (by decide) (t := 20) rfl ?_
      refine J_istore (lc2 := [(4, .int 0), (0, .ref (adW G 0)), (1, .int l1), (2, .int l2), (3, .int l3)]) hX dX13_pass_20 (Nat.le_of_ble_eq_true rfl) rfl (t := 22) rfl ?_
      refine J_sub (lc2 := [(0, .ref (adW G 0)), (1, .int l1), (2, .int l2), (3, .int l3), (4, .int 0)]) [1, 2, 3, 4, 0] rfl ?_
      exact LW_pass_22 hX hR hlk n rc4 hrc4 n M1 l1 l2 l3 0 hF
def FW_pass (n : Nat) (M : MM) (p1 : Int32) : Option (Int32 × MM) :=
  FW_pass_L4 n n M p1 0 0
set_option maxHeartbeats 4000000 in
set_option maxRecDepth 100000 in
theorem ctW_pass {G : GG} {l : Launch} (M : MM) (p1 : Int32)  (n : Nat) {rx : Int32} {rw : MM} (hF : FW_pass n M p1 = some (rx, rw)) : CTP G l yX13_pass cX13_pass 6 (some .int) rmX13_pass 0 0 [.ref (adW G 0), .int p1] (WH G Tr M) (fun v9 H => v9 = some (.int rx) ∧ WH G Tr rw H) := by
  refine CTP.of miX13_pass [(0, .ref (adW G 0)), (1, .int p1)] rfl (Nat.le_of_ble_eq_true rfl) ?_
  intro p e s m args below meth c hX hR hlk
  have hX : FX G RX13 cX13_pass 6 p s m args c := hX
  unfold FW_pass at hF
  refine J_iconst (v := 0) hX dX13_pass_0 (by decide) (t := 1) rfl ?_
  refine J_istore_n (lc2 := [(2, .int 0), (0, .ref (adW G 0)), (1, .int p1)]) hX dX13_pass_1 rfl (Nat.le_of_ble_eq_true rfl) rfl (t := 2) rfl ?_
  refine J_iconst (v := 0) hX dX13_pass_2 (by decide) (t := 3) rfl ?_
  refine J_istore_n (lc2 := [(3, .int 0), (2, .int 0), (0, .ref (adW G 0)), (1, .int p1)]) hX dX13_pass_3 rfl (Nat.le_of_ble_eq_true rfl) rfl (t := 4) rfl ?_
  refine J_sub (lc2 := [(0, .ref (adW G 0)), (1, .int p1), (2, .int 0), (3, .int 0)]) [2, 3, 1, 0] rfl ?_
  exact LW_pass_4 hX hR hlk n n M p1 0 0 hF
