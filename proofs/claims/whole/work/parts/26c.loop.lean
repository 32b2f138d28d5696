theorem q_170 : Cond.classLink RL 8 RX12 ∈ WALL := WALL_in (List.mem_append_right _ (List.mem_append_left _ (List.mem_of_getElem? (i := 35) rfl))) rfl
theorem q_171 : Cond.instantiable RX12 9 ∈ WALL := WALL_in (List.mem_append_right _ (List.mem_append_left _ (List.mem_of_getElem? (i := 36) rfl))) rfl
theorem q_172 : Cond.methodLink RL 148 yX12_init ∈ WALL := WALL_in (List.mem_append_right _ (List.mem_append_left _ (List.mem_of_getElem? (i := 37) rfl))) rfl
theorem q_173 : Cond.instanceMethod yX12_init ∈ WALL := WALL_in (List.mem_append_right _ (List.mem_append_left _ (List.mem_of_getElem? (i := 38) rfl))) rfl
theorem q_1957 : Cond.classLink RL 149 RX13 ∈ WALL := WALL_in (List.mem_append_right _ (List.mem_append_right _ (List.mem_append_right _ (List.mem_append_right _ (List.mem_append_right _ (List.mem_append_right _ (List.mem_append_right _ (List.mem_append_right _ (List.mem_append_left _ (List.mem_of_getElem? (i := 142) rfl)))))))))) rfl
theorem q_1958 : Cond.instantiable RX13 34 ∈ WALL := WALL_in (List.mem_append_right _ (List.mem_append_right _ (List.mem_append_right _ (List.mem_append_right _ (List.mem_append_right _ (List.mem_append_right _ (List.mem_append_right _ (List.mem_append_right _ (List.mem_append_left _ (List.mem_of_getElem? (i := 143) rfl)))))))))) rfl
theorem q_1959 : Cond.methodLink RL 151 yX13_init ∈ WALL := WALL_in (List.mem_append_right _ (List.mem_append_right _ (List.mem_append_right _ (List.mem_append_right _ (List.mem_append_right _ (List.mem_append_right _ (List.mem_append_right _ (List.mem_append_right _ (List.mem_append_left _ (List.mem_of_getElem? (i := 144) rfl)))))))))) rfl
theorem q_1960 : Cond.instanceMethod yX13_init ∈ WALL := WALL_in (List.mem_append_right _ (List.mem_append_right _ (List.mem_append_right _ (List.mem_append_right _ (List.mem_append_right _ (List.mem_append_right _ (List.mem_append_right _ (List.mem_append_right _ (List.mem_append_left _ (List.mem_of_getElem? (i := 145) rfl)))))))))) rfl
def FLstep (n : Nat) (w : Wd) (op a1 a2 a3 a4 a5 : Int32) : Option Wd :=
  if op = 0 then FLc_0 n w a1 a2 a3 a4 a5 else
  if op = 1 then FLc_1 n w a1 a2 a3 a4 a5 else
  if op = 2 then FLc_2 n w a1 a2 a3 a4 a5 else
  if op = 3 then FLc_3 n w a1 a2 a3 a4 a5 else
  if op = 4 then FLc_4 n w a1 a2 a3 a4 a5 else
  if op = 5 then FLc_5 n w a1 a2 a3 a4 a5 else
  if op = 6 then FLc_6 n w a1 a2 a3 a4 a5 else
  if op = 7 then FLc_7 n w a1 a2 a3 a4 a5 else
  if op = 8 then FLc_8 n w a1 a2 a3 a4 a5 else
  if op = 9 then FLc_9 n w a1 a2 a3 a4 a5 else
  if op = 10 then FLc_10 n w a1 a2 a3 a4 a5 else
  if op = 11 then FLc_11 n w a1 a2 a3 a4 a5 else
  if op = 12 then FLc_12 n w a1 a2 a3 a4 a5 else
  if op = 13 then FLc_13 n w a1 a2 a3 a4 a5 else
  if op = 14 then FLc_14 n w a1 a2 a3 a4 a5 else
  if op = 15 then FLc_15 n w a1 a2 a3 a4 a5 else
  if op = 16 then FLc_16 n w a1 a2 a3 a4 a5 else
  if op = 17 then FLc_17 n w a1 a2 a3 a4 a5 else
  if op = 18 then FLc_18 n w a1 a2 a3 a4 a5 else
  if op = 19 then FLc_19 n w a1 a2 a3 a4 a5 else
  if op = 20 then FLc_20 n w a1 a2 a3 a4 a5 else
  if op = 21 then FLc_21 n w a1 a2 a3 a4 a5 else
  if op = 22 then FLc_22 n w a1 a2 a3 a4 a5 else
  if op = 23 then FLc_23 n w a1 a2 a3 a4 a5 else
  if op = 24 then FLc_24 n w a1 a2 a3 a4 a5 else
  if op = 25 then FLc_25 n w a1 a2 a3 a4 a5 else
  if op = 26 then FLc_26 n w a1 a2 a3 a4 a5 else
  if op = 27 then FLc_27 n w a1 a2 a3 a4 a5 else
  if op = 28 then FLc_28 n w a1 a2 a3 a4 a5 else
  if op = 29 then FLc_29 n w a1 a2 a3 a4 a5 else
  if op = 30 then FLc_30 n w a1 a2 a3 a4 a5 else
  if op = 31 then FLc_31 n w a1 a2 a3 a4 a5 else
  if op = 32 then FLc_32 n w a1 a2 a3 a4 a5 else
  if op = 33 then FLc_33 n w a1 a2 a3 a4 a5 else
  if op = 34 then FLc_34 n w a1 a2 a3 a4 a5 else
  if op = 35 then FLc_35 n w a1 a2 a3 a4 a5 else
  if op = 36 then FLc_36 n w a1 a2 a3 a4 a5 else
  if op = 37 then FLc_37 n w a1 a2 a3 a4 a5 else
  if op = 38 then FLc_38 n w a1 a2 a3 a4 a5 else
  if op = 39 then FLc_39 n w a1 a2 a3 a4 a5 else
  if op = 40 then FLc_40 n w a1 a2 a3 a4 a5 else
  if op = 41 then FLc_41 n w a1 a2 a3 a4 a5 else
  if op = 42 then FLc_42 n w a1 a2 a3 a4 a5 else
  if op = 43 then FLc_43 n w a1 a2 a3 a4 a5 else
  if op = 44 then FLc_44 n w a1 a2 a3 a4 a5 else
  if op = 45 then FLc_45 n w a1 a2 a3 a4 a5 else
  if op = 46 then FLc_46 n w a1 a2 a3 a4 a5 else
  if op = 47 then FLc_47 n w a1 a2 a3 a4 a5 else
  if op = 48 then FLc_48 n w a1 a2 a3 a4 a5 else
  if op = 49 then FLc_49 n w a1 a2 a3 a4 a5 else
  if op = 50 then FLc_50 n w a1 a2 a3 a4 a5 else
  if op = 51 then FLc_51 n w a1 a2 a3 a4 a5 else
  if op = 52 then FLc_52 n w a1 a2 a3 a4 a5 else
  if op = 53 then FLc_53 n w a1 a2 a3 a4 a5 else
  if op = 54 then FLc_54 n w a1 a2 a3 a4 a5 else
  if op = 55 then FLc_55 n w a1 a2 a3 a4 a5 else
  if op = 56 then FLc_56 n w a1 a2 a3 a4 a5 else
  if op = 57 then FLc_57 n w a1 a2 a3 a4 a5 else
  if op = 58 then FLc_58 n w a1 a2 a3 a4 a5 else
  if op = 59 then FLc_59 n w a1 a2 a3 a4 a5 else
  if op = 60 then FLc_60 n w a1 a2 a3 a4 a5 else
  if op = 61 then FLc_61 n w a1 a2 a3 a4 a5 else
  if op = 62 then FLc_62 n w a1 a2 a3 a4 a5 else
  if op = 63 then FLc_63 n w a1 a2 a3 a4 a5 else
  none
theorem lw_room {L j : Nat} (hL : L ≤ 3072) (hj : 6 * j ≤ 3078) (z : ¬ nI L - 6 < nI (6 * j)) : 6 * j + 6 ≤ L := by
  by_cases h : 6 ≤ L
  · have e : nI L - 6 = nI (L - 6) := by
      have h1 : nI L = nI (L - 6) + 6 := by rw [show (6 : Int32) = nI 6 from rfl, nI_add, Nat.sub_add_cancel h]
      rw [h1, Int32.add_sub_cancel]
    rw [e, nI_ltI (by omega) (by omega)] at z
    omega
  · exfalso
    have h2 : ∀ k : Fin 6, (nI k.val - 6).toInt < 0 := by decide
    have h3 : (nI L - 6).toInt < 0 := h2 ⟨L, by omega⟩
    apply z
    rw [Int32.lt_iff_toInt_lt, nI_toInt (by omega)]
    omega
theorem lw_arg {L j : Nat} {xs : Nat → Int32} (hL : L ≤ 3072) (h : 6 * j + 6 ≤ L) : ARG L xs (nI (6 * j)) (xs (6 * j + 1)) (xs (6 * j + 2)) (xs (6 * j + 3)) (xs (6 * j + 4)) (xs (6 * j + 5)) := by
  have hh : ∀ k : Nat, k < 6 → vp_in (nI (6 * j) + nI k) L ∧ xs (nI (6 * j) + nI k).toNatClampNeg = xs (6 * j + k) := fun k hk => by
    rw [nI_add, nI_clamp (by omega)]
    exact ⟨vp_in_nI (by omega) (by omega), rfl⟩
  exact ⟨hh 1 (by decide), hh 2 (by decide), hh 3 (by decide), hh 4 (by decide), hh 5 (by decide)⟩
set_option maxHeartbeats 8000000 in
theorem law_head {G : GG} {p : Program} {l : Launch} {e : Env} {s : State} {m : MethodId} {args : Array Value} {below : List Frame} {meth : Method} {c : Code} {b L : Nat} {xs : Nat → Int32} {Q : State → Prop} {cells slots : Nat} {n j : Nat} {w : Wd} (hW : LW G p l s m args c b L xs) (hL : L ≤ 3072) (hj : 6 * j ≤ 3078) (hc : 6 * j + 6 ≤ L → cells + 30 ≤ room_1.cells) (hs9 : 6 * j + 6 ≤ L → slots + 3900 ≤ room_1.slots)
    (hstep : 6 * j + 6 ≤ L → ∃ w9, FLstep n w (xs (6 * j) &&& 63) (xs (6 * j + 1)) (xs (6 * j + 2)) (xs (6 * j + 3)) (xs (6 * j + 4)) (xs (6 * j + 5)) = some w9 ∧ LJ G p l e s m args below meth c b Q (cells + 30) (slots + 3900) 23 (nI (6 * (j + 1))) w9)
    (hend : LJ G p l e s m args below meth c b Q cells slots 3189 (nI (6 * j)) w) : LJ G p l e s m args below meth c b Q cells slots 23 (nI (6 * j)) w := by
  intro d0 hd0
  obtain ⟨hX, hNC, hl, hs, hb⟩ := hW.drawn d0
  refine J_iload hX dL_law_23 0 rfl (t := 25) rfl ?_
  refine J_aload_n hX dL_law_25 4 rfl (t := 26) rfl ?_
  refine J_slen hX hs hb dL_law_26 (t := 27) rfl ?_
  refine J_bipush (v := 6) hX dL_law_27 (by decide) (t := 29) rfl ?_
  refine J_isub hX dL_law_29 (t := 30) rfl ?_
  refine J_icmp_gt (tgt := 3189) hX dL_law_30 (by decide) (t := 33) rfl (fun z => hend d0 hd0) (fun z => ?_)
  have hle := lw_room hL hj z
  have hA := lw_arg (xs := xs) hL hle
  obtain ⟨w9, hF, hJ⟩ := hstep hle
  replace hc := hc hle
  replace hs9 := hs9 hle
  have hJ2 : LJ G p l e s m args below meth c b Q (cells + 30) (slots + 3900) 3183 (nI (6 * j)) w9 := by
    intro d hd
    obtain ⟨hX, hNC, hl, hs, hb⟩ := hW.drawn d
    refine J_iinc (v := nI (6 * (j + 1))) (lc2 := [(4, .int (nI (6 * (j + 1)))), (3, .ref (adr G 16 0)), (2, .ref (adr G 15 0)), (1, .ref (adr G 0 0)), (0, .ref b)]) hX dL_law_3183 0 rfl (nI_add (6 * j) 6) (Nat.le_of_ble_eq_true rfl) rfl (t := 3186) rfl ?_
    refine J_goto (tgt := 23) hX dL_law_3186 (by decide) ?_
    exact hJ d hd
  refine J_aload_n hX dL_law_33 4 rfl (t := 34) rfl ?_
  refine J_iload hX dL_law_34 0 rfl (t := 36) rfl ?_
  refine J_sld hX hs hb (vp_in_nI (by omega) (by omega)) (by rw [nI_clamp (by omega)]) dL_law_36 (t := 37) rfl ?_
  refine J_bipush (v := 63) hX dL_law_37 (by decide) (t := 39) rfl ?_
  refine J_iand hX dL_law_39 (t := 40) rfl ?_
  generalize xs (6 * j) &&& 63 = op at hF ⊢
  unfold FLstep at hF
  by_cases h : op = 0
  · refine J_tabIn (k := 0) (tgt := 312) hX dL_law_40 h (by decide) (by decide) rfl (by decide) ?_
    exact cs_0 hW hA hc hs9 (it_t hF h) hJ2 d0 hd0
  replace hF := it_f hF h
  by_cases h : op = 1
  · refine J_tabIn (k := 1) (tgt := 416) hX dL_law_40 h (by decide) (by decide) rfl (by decide) ?_
    exact cs_1 hW hA hc hs9 (it_t hF h) hJ2 d0 hd0
  replace hF := it_f hF h
  by_cases h : op = 2
  · refine J_tabIn (k := 2) (tgt := 472) hX dL_law_40 h (by decide) (by decide) rfl (by decide) ?_
    exact cs_2 hW hA hc hs9 (it_t hF h) hJ2 d0 hd0
  replace hF := it_f hF h
  by_cases h : op = 3
  · refine J_tabIn (k := 3) (tgt := 516) hX dL_law_40 h (by decide) (by decide) rfl (by decide) ?_
    exact cs_3 hW hA hc hs9 (it_t hF h) hJ2 d0 hd0
  replace hF := it_f hF h
  by_cases h : op = 4
  · refine J_tabIn (k := 4) (tgt := 560) hX dL_law_40 h (by decide) (by decide) rfl (by decide) ?_
    exact cs_4 hW hA hc hs9 (it_t hF h) hJ2 d0 hd0
  replace hF := it_f hF h
  by_cases h : op = 5
  · refine J_tabIn (k := 5) (tgt := 573) hX dL_law_40 h (by decide) (by decide) rfl (by decide) ?_
    exact cs_5 hW hA hc hs9 (it_t hF h) hJ2 d0 hd0
  replace hF := it_f hF h
  by_cases h : op = 6
  · refine J_tabIn (k := 6) (tgt := 586) hX dL_law_40 h (by decide) (by decide) rfl (by decide) ?_
    exact cs_6 hW hA hc hs9 (it_t hF h) hJ2 d0 hd0
  replace hF := it_f hF h
  by_cases h : op = 7
  · refine J_tabIn (k := 7) (tgt := 599) hX dL_law_40 h (by decide) (by decide) rfl (by decide) ?_
    exact cs_7 hW hA hc hs9 (it_t hF h) hJ2 d0 hd0
  replace hF := it_f hF h
  by_cases h : op = 8
  · refine J_tabIn (k := 8) (tgt := 612) hX dL_law_40 h (by decide) (by decide) rfl (by decide) ?_
    exact cs_8 hW hA hc hs9 (it_t hF h) hJ2 d0 hd0
  replace hF := it_f hF h
  by_cases h : op = 9
  · refine J_tabIn (k := 9) (tgt := 625) hX dL_law_40 h (by decide) (by decide) rfl (by decide) ?_
    exact cs_9 hW hA hc hs9 (it_t hF h) hJ2 d0 hd0
  replace hF := it_f hF h
  by_cases h : op = 10
  · refine J_tabIn (k := 10) (tgt := 638) hX dL_law_40 h (by decide) (by decide) rfl (by decide) ?_
    exact cs_10 hW hA hc hs9 (it_t hF h) hJ2 d0 hd0
  replace hF := it_f hF h
  by_cases h : op = 11
  · refine J_tabIn (k := 11) (tgt := 651) hX dL_law_40 h (by decide) (by decide) rfl (by decide) ?_
    exact cs_11 hW hA hc hs9 (it_t hF h) hJ2 d0 hd0
  replace hF := it_f hF h
  by_cases h : op = 12
  · refine J_tabIn (k := 12) (tgt := 664) hX dL_law_40 h (by decide) (by decide) rfl (by decide) ?_
    exact cs_12 hW hA hc hs9 (it_t hF h) hJ2 d0 hd0
  replace hF := it_f hF h
  by_cases h : op = 13
  · refine J_tabIn (k := 13) (tgt := 677) hX dL_law_40 h (by decide) (by decide) rfl (by decide) ?_
    exact cs_13 hW hA hc hs9 (it_t hF h) hJ2 d0 hd0
  replace hF := it_f hF h
  by_cases h : op = 14
  · refine J_tabIn (k := 14) (tgt := 690) hX dL_law_40 h (by decide) (by decide) rfl (by decide) ?_
    exact cs_14 hW hA hc hs9 (it_t hF h) hJ2 d0 hd0
  replace hF := it_f hF h
  by_cases h : op = 15
  · refine J_tabIn (k := 15) (tgt := 703) hX dL_law_40 h (by decide) (by decide) rfl (by decide) ?_
    exact cs_15 hW hA hc hs9 (it_t hF h) hJ2 d0 hd0
  replace hF := it_f hF h
  by_cases h : op = 16
  · refine J_tabIn (k := 16) (tgt := 771) hX dL_law_40 h (by decide) (by decide) rfl (by decide) ?_
    exact cs_16 hW hA hc hs9 (it_t hF h) hJ2 d0 hd0
  replace hF := it_f hF h
  by_cases h : op = 17
  · refine J_tabIn (k := 17) (tgt := 784) hX dL_law_40 h (by decide) (by decide) rfl (by decide) ?_
    exact cs_17 hW hA hc hs9 (it_t hF h) hJ2 d0 hd0
  replace hF := it_f hF h
  by_cases h : op = 18
  · refine J_tabIn (k := 18) (tgt := 840) hX dL_law_40 h (by decide) (by decide) rfl (by decide) ?_
    exact cs_18 hW hA hc hs9 (it_t hF h) hJ2 d0 hd0
  replace hF := it_f hF h
  by_cases h : op = 19
  · refine J_tabIn (k := 19) (tgt := 896) hX dL_law_40 h (by decide) (by decide) rfl (by decide) ?_
    exact cs_19 hW hA hc hs9 (it_t hF h) hJ2 d0 hd0
  replace hF := it_f hF h
  by_cases h : op = 20
  · refine J_tabIn (k := 20) (tgt := 952) hX dL_law_40 h (by decide) (by decide) rfl (by decide) ?_
    exact cs_20 hW hA hc hs9 (it_t hF h) hJ2 d0 hd0
  replace hF := it_f hF h
  by_cases h : op = 21
  · refine J_tabIn (k := 21) (tgt := 1008) hX dL_law_40 h (by decide) (by decide) rfl (by decide) ?_
    exact cs_21 hW hA hc hs9 (it_t hF h) hJ2 d0 hd0
  replace hF := it_f hF h
  by_cases h : op = 22
  · refine J_tabIn (k := 22) (tgt := 1064) hX dL_law_40 h (by decide) (by decide) rfl (by decide) ?_
    exact cs_22 hW hA hc hs9 (it_t hF h) hJ2 d0 hd0
  replace hF := it_f hF h
  by_cases h : op = 23
  · refine J_tabIn (k := 23) (tgt := 1120) hX dL_law_40 h (by decide) (by decide) rfl (by decide) ?_
    exact cs_23 hW hA hc hs9 (it_t hF h) hJ2 d0 hd0
  replace hF := it_f hF h
  by_cases h : op = 24
  · refine J_tabIn (k := 24) (tgt := 1133) hX dL_law_40 h (by decide) (by decide) rfl (by decide) ?_
    exact cs_24 hW hA hc hs9 (it_t hF h) hJ2 d0 hd0
  replace hF := it_f hF h
  by_cases h : op = 25
  · refine J_tabIn (k := 25) (tgt := 1158) hX dL_law_40 h (by decide) (by decide) rfl (by decide) ?_
    exact cs_25 hW hA hc hs9 (it_t hF h) hJ2 d0 hd0
  replace hF := it_f hF h
  by_cases h : op = 26
  · refine J_tabIn (k := 26) (tgt := 1171) hX dL_law_40 h (by decide) (by decide) rfl (by decide) ?_
    exact cs_26 hW hA hc hs9 (it_t hF h) hJ2 d0 hd0
  replace hF := it_f hF h
  by_cases h : op = 27
  · refine J_tabIn (k := 27) (tgt := 1227) hX dL_law_40 h (by decide) (by decide) rfl (by decide) ?_
    exact cs_27 hW hA hc hs9 (it_t hF h) hJ2 d0 hd0
  replace hF := it_f hF h
  by_cases h : op = 28
  · refine J_tabIn (k := 28) (tgt := 1283) hX dL_law_40 h (by decide) (by decide) rfl (by decide) ?_
    exact cs_28 hW hA hc hs9 (it_t hF h) hJ2 d0 hd0
  replace hF := it_f hF h
  by_cases h : op = 29
  · refine J_tabIn (k := 29) (tgt := 1339) hX dL_law_40 h (by decide) (by decide) rfl (by decide) ?_
    exact cs_29 hW hA hc hs9 (it_t hF h) hJ2 d0 hd0
  replace hF := it_f hF h
  by_cases h : op = 30
  · refine J_tabIn (k := 30) (tgt := 1402) hX dL_law_40 h (by decide) (by decide) rfl (by decide) ?_
    exact cs_30 hW hA hc hs9 (it_t hF h) hJ2 d0 hd0
  replace hF := it_f hF h
  by_cases h : op = 31
  · refine J_tabIn (k := 31) (tgt := 1458) hX dL_law_40 h (by decide) (by decide) rfl (by decide) ?_
    exact cs_31 hW hA hc hs9 (it_t hF h) hJ2 d0 hd0
  replace hF := it_f hF h
  by_cases h : op = 32
  · refine J_tabIn (k := 32) (tgt := 1514) hX dL_law_40 h (by decide) (by decide) rfl (by decide) ?_
    exact cs_32 hW hA hc hs9 (it_t hF h) hJ2 d0 hd0
  replace hF := it_f hF h
  by_cases h : op = 33
  · refine J_tabIn (k := 33) (tgt := 1527) hX dL_law_40 h (by decide) (by decide) rfl (by decide) ?_
    exact cs_33 hW hA hc hs9 (it_t hF h) hJ2 d0 hd0
  replace hF := it_f hF h
  by_cases h : op = 34
  · refine J_tabIn (k := 34) (tgt := 1540) hX dL_law_40 h (by decide) (by decide) rfl (by decide) ?_
    exact cs_34 hW hA hc hs9 (it_t hF h) hJ2 d0 hd0
  replace hF := it_f hF h
  by_cases h : op = 35
  · refine J_tabIn (k := 35) (tgt := 1596) hX dL_law_40 h (by decide) (by decide) rfl (by decide) ?_
    exact cs_35 hW hA hc hs9 (it_t hF h) hJ2 d0 hd0
  replace hF := it_f hF h
  by_cases h : op = 36
  · refine J_tabIn (k := 36) (tgt := 1652) hX dL_law_40 h (by decide) (by decide) rfl (by decide) ?_
    exact cs_36 hW hA hc hs9 (it_t hF h) hJ2 d0 hd0
  replace hF := it_f hF h
  by_cases h : op = 37
  · refine J_tabIn (k := 37) (tgt := 1708) hX dL_law_40 h (by decide) (by decide) rfl (by decide) ?_
    exact cs_37 hW hA hc hs9 (it_t hF h) hJ2 d0 hd0
  replace hF := it_f hF h
  by_cases h : op = 38
  · refine J_tabIn (k := 38) (tgt := 1764) hX dL_law_40 h (by decide) (by decide) rfl (by decide) ?_
    exact cs_38 hW hA hc hs9 (it_t hF h) hJ2 d0 hd0
  replace hF := it_f hF h
  by_cases h : op = 39
  · refine J_tabIn (k := 39) (tgt := 1820) hX dL_law_40 h (by decide) (by decide) rfl (by decide) ?_
    exact cs_39 hW hA hc hs9 (it_t hF h) hJ2 d0 hd0
  replace hF := it_f hF h
  by_cases h : op = 40
  · refine J_tabIn (k := 40) (tgt := 1876) hX dL_law_40 h (by decide) (by decide) rfl (by decide) ?_
    exact cs_40 hW hA hc hs9 (it_t hF h) hJ2 d0 hd0
  replace hF := it_f hF h
  by_cases h : op = 41
  · refine J_tabIn (k := 41) (tgt := 1932) hX dL_law_40 h (by decide) (by decide) rfl (by decide) ?_
    exact cs_41 hW hA hc hs9 (it_t hF h) hJ2 d0 hd0
  replace hF := it_f hF h
  by_cases h : op = 42
  · refine J_tabIn (k := 42) (tgt := 2012) hX dL_law_40 h (by decide) (by decide) rfl (by decide) ?_
    exact cs_42 hW hA hc hs9 (it_t hF h) hJ2 d0 hd0
  replace hF := it_f hF h
  by_cases h : op = 43
  · refine J_tabIn (k := 43) (tgt := 2080) hX dL_law_40 h (by decide) (by decide) rfl (by decide) ?_
    exact cs_43 hW hA hc hs9 (it_t hF h) hJ2 d0 hd0
  replace hF := it_f hF h
  by_cases h : op = 44
  · refine J_tabIn (k := 44) (tgt := 2148) hX dL_law_40 h (by decide) (by decide) rfl (by decide) ?_
    exact cs_44 hW hA hc hs9 (it_t hF h) hJ2 d0 hd0
  replace hF := it_f hF h
  by_cases h : op = 45
  · refine J_tabIn (k := 45) (tgt := 2161) hX dL_law_40 h (by decide) (by decide) rfl (by decide) ?_
    exact cs_45 hW hA hc hs9 (it_t hF h) hJ2 d0 hd0
  replace hF := it_f hF h
  by_cases h : op = 46
  · refine J_tabIn (k := 46) (tgt := 2217) hX dL_law_40 h (by decide) (by decide) rfl (by decide) ?_
    exact cs_46 hW hA hc hs9 (it_t hF h) hJ2 d0 hd0
  replace hF := it_f hF h
  by_cases h : op = 47
  · refine J_tabIn (k := 47) (tgt := 2273) hX dL_law_40 h (by decide) (by decide) rfl (by decide) ?_
    exact cs_47 hW hA hc hs9 (it_t hF h) hJ2 d0 hd0
  replace hF := it_f hF h
  by_cases h : op = 48
  · refine J_tabIn (k := 48) (tgt := 2286) hX dL_law_40 h (by decide) (by decide) rfl (by decide) ?_
    exact cs_48 hW hA hc hs9 (it_t hF h) hJ2 d0 hd0
  replace hF := it_f hF h
  by_cases h : op = 49
  · refine J_tabIn (k := 49) (tgt := 2327) hX dL_law_40 h (by decide) (by decide) rfl (by decide) ?_
    exact cs_49 hW hA hc hs9 (it_t hF h) hJ2 d0 hd0
  replace hF := it_f hF h
  by_cases h : op = 50
  · refine J_tabIn (k := 50) (tgt := 2370) hX dL_law_40 h (by decide) (by decide) rfl (by decide) ?_
    exact cs_50 hW hA hc hs9 (it_t hF h) hJ2 d0 hd0
  replace hF := it_f hF h
  by_cases h : op = 51
  · refine J_tabIn (k := 51) (tgt := 2450) hX dL_law_40 h (by decide) (by decide) rfl (by decide) ?_
    exact cs_51 hW hA hc hs9 (it_t hF h) hJ2 d0 hd0
  replace hF := it_f hF h
  by_cases h : op = 52
  · refine J_tabIn (k := 52) (tgt := 2518) hX dL_law_40 h (by decide) (by decide) rfl (by decide) ?_
    exact cs_52 hW hA hc hs9 (it_t hF h) hJ2 d0 hd0
  replace hF := it_f hF h
  by_cases h : op = 53
  · refine J_tabIn (k := 53) (tgt := 2610) hX dL_law_40 h (by decide) (by decide) rfl (by decide) ?_
    exact cs_53 hW hA hc hs9 (it_t hF h) hJ2 d0 hd0
  replace hF := it_f hF h
  by_cases h : op = 54
  · refine J_tabIn (k := 54) (tgt := 2666) hX dL_law_40 h (by decide) (by decide) rfl (by decide) ?_
    exact cs_54 hW hA hc hs9 (it_t hF h) hJ2 d0 hd0
  replace hF := it_f hF h
  by_cases h : op = 55
  · refine J_tabIn (k := 55) (tgt := 2722) hX dL_law_40 h (by decide) (by decide) rfl (by decide) ?_
    exact cs_55 hW hA hc hs9 (it_t hF h) hJ2 d0 hd0
  replace hF := it_f hF h
  by_cases h : op = 56
  · refine J_tabIn (k := 56) (tgt := 2790) hX dL_law_40 h (by decide) (by decide) rfl (by decide) ?_
    exact cs_56 hW hA hc hs9 (it_t hF h) hJ2 d0 hd0
  replace hF := it_f hF h
  by_cases h : op = 57
  · refine J_tabIn (k := 57) (tgt := 2858) hX dL_law_40 h (by decide) (by decide) rfl (by decide) ?_
    exact cs_57 hW hA hc hs9 (it_t hF h) hJ2 d0 hd0
  replace hF := it_f hF h
  by_cases h : op = 58
  · refine J_tabIn (k := 58) (tgt := 2914) hX dL_law_40 h (by decide) (by decide) rfl (by decide) ?_
    exact cs_58 hW hA hc hs9 (it_t hF h) hJ2 d0 hd0
  replace hF := it_f hF h
  by_cases h : op = 59
  · refine J_tabIn (k := 59) (tgt := 2970) hX dL_law_40 h (by decide) (by decide) rfl (by decide) ?_
    exact cs_59 hW hA hc hs9 (it_t hF h) hJ2 d0 hd0
  replace hF := it_f hF h
  by_cases h : op = 60
  · refine J_tabIn (k := 60) (tgt := 3014) hX dL_law_40 h (by decide) (by decide) rfl (by decide) ?_
    exact cs_60 hW hA hc hs9 (it_t hF h) hJ2 d0 hd0
  replace hF := it_f hF h
  by_cases h : op = 61
  · refine J_tabIn (k := 61) (tgt := 3070) hX dL_law_40 h (by decide) (by decide) rfl (by decide) ?_
    exact cs_61 hW hA hc hs9 (it_t hF h) hJ2 d0 hd0
  replace hF := it_f hF h
  by_cases h : op = 62
  · refine J_tabIn (k := 62) (tgt := 3126) hX dL_law_40 h (by decide) (by decide) rfl (by decide) ?_
    exact cs_62 hW hA hc hs9 (it_t hF h) hJ2 d0 hd0
  replace hF := it_f hF h
  by_cases h : op = 63
  · refine J_tabIn (k := 63) (tgt := 3139) hX dL_law_40 h (by decide) (by decide) rfl (by decide) ?_
    exact cs_63 hW hA hc hs9 (it_t hF h) hJ2 d0 hd0
  replace hF := it_f hF h
  cases hF
/-- the loop, by a step that never fails -/
theorem law_loop {G : GG} {p : Program} {l : Launch} {e : Env} {s : State} {m : MethodId} {args : Array Value} {below : List Frame} {meth : Method} {c : Code} {b L : Nat} {xs : Nat → Int32} {Q : State → Prop} {cells slots : Nat} {n : Nat} (Good : Wd → Prop) (hgood : ∀ w op a1 a2 a3 a4 a5, Good w → ∃ w9, FLstep n w (op &&& 63) a1 a2 a3 a4 a5 = some w9 ∧ Good w9) (hW : LW G p l s m args c b L xs) (hL : L ≤ 3072) (hend : ∀ (i : Int32) (w : Wd) (k q : Nat), k ≤ 601024 → q ≤ 7293034 → LJ G p l e s m args below meth c b Q k q 3189 i w) : ∀ (t j : Nat) (w : Wd), t + j = 513 → Good w → LJ G p l e s m args below meth c b Q (513 + 30 * j) (13208 + 3900 * j) 23 (nI (6 * j)) w := by
  intro t
  induction t with
  | zero =>
    intro j w hj hg
    refine law_head (n := n) hW hL (by omega) (fun h => by omega) (fun h => by omega) (fun h => by omega) (hend _ _ _ _ (by omega) (by omega))
  | succ t ih =>
    intro j w hj hg
    refine law_head (n := n) hW hL (by omega) (fun h => ?_) (fun h => ?_) (fun h => ?_) (hend _ _ _ _ (by omega) (by omega))
    · show 513 + 30 * j + 30 ≤ 601024
      omega
    · show 13208 + 3900 * j + 3900 ≤ 7293034
      omega
    · obtain ⟨w9, h1, h2⟩ := hgood w (xs (6 * j)) (xs (6 * j + 1)) (xs (6 * j + 2)) (xs (6 * j + 3)) (xs (6 * j + 4)) (xs (6 * j + 5)) hg
      have hi := ih (j + 1) w9 (by omega) h2
      rw [show 513 + 30 * (j + 1) = 513 + 30 * j + 30 by omega, show 13208 + 3900 * (j + 1) = 13208 + 3900 * j + 3900 by omega] at hi
      exact ⟨w9, h1, hi⟩
set_option maxHeartbeats 4000000 in
theorem law_entry {G : GG} {p : Program} {l : Launch} {e : Env} {s : State} {m : MethodId} {args : Array Value} {below : List Frame} {meth : Method} {c : Code} {b L : Nat} {xs : Nat → Int32} {Q : State → Prop} {cells slots : Nat} {f0 : Nat → va_E} {d0 : Drawn} (hW : LW G p l s m args c b L xs) (hAO : AO s) (hd0 : s.drawn.sameBut d0 lw_cs) (hloop : LJ G p l e s m args below meth c b Q 513 13208 23 (nI (6 * 0)) w0) : J G p l e room_1 (s.setDrawn d0) m args below meth c 9 0 0 Q (NB G 0 f0) 0 [(0, .ref b)] [] := by
  obtain ⟨hX, hNC, hl, hs, hb⟩ := hW.drawn d0
  have hAO : AO (s.setDrawn d0) := fun C hC => va_AO.moved (u := s) (U := s.setDrawn d0) (Vm.Alike.refl s.vm) (hAO C hC)
  refine N_new (k := 0) hX cb9 q_170 q_171 q_136 [.null, .null, .null, .null, .null, .null, .null, .null, .int 0] dfX12 ⟨Nat.le_of_ble_eq_true rfl, Nat.le_of_ble_eq_true rfl⟩ dL_law_0 (t := 3) rfl ?_
  refine J_dup hX dL_law_3 rfl (t := 4) rfl ?_
  refine N_call hX hAO [] [.ref (gn G + 0)] (cnX12_init nf_s) miX12_init q_173 rfl q_172 ⟨rfl, rfl, Nat.le_of_ble_eq_true rfl, Nat.le_of_ble_eq_true rfl⟩ rfl rfl (Nat.le_of_ble_eq_true rfl) ⟨Nat.le_of_ble_eq_true rfl, Nat.le_of_ble_eq_true rfl⟩ dL_law_4 (t := 7) rfl (fun v9 => J_pure fun hv9 => ?_)
  subst hv9
  refine J_astore_n (lc2 := [(1, .ref (gn G + 0)), (0, .ref b)]) hX dL_law_7 rfl (Nat.le_of_ble_eq_true rfl) rfl (t := 8) rfl ?_
  refine N_new (k := 497) hX cb10 q_1957 q_1958 q_152 [.int 0, .null, .int 0, .int 0, .int 0, .int 0, .int 0, .int 0, .int 0, .int 0, .int 0, .int 0, .long 0, .null, .null, .null, .null, .null, .int 0, .int 0, .int 0, .null, .null, .null, .null, .null, .null, .null, .int 0, .int 0, .int 0, .int 0, .null, .int 0] dfX13 ⟨Nat.le_of_ble_eq_true rfl, Nat.le_of_ble_eq_true rfl⟩ dL_law_8 (t := 11) rfl ?_
  refine J_dup hX dL_law_11 rfl (t := 12) rfl ?_
  refine N_call hX hAO [] [.ref (gn G + 497)] (cnX13_init nf_s) miX13_init q_1960 rfl q_1959 ⟨rfl, rfl, Nat.le_of_ble_eq_true rfl, Nat.le_of_ble_eq_true rfl⟩ rfl rfl (Nat.le_of_ble_eq_true rfl) ⟨Nat.le_of_ble_eq_true rfl, Nat.le_of_ble_eq_true rfl⟩ dL_law_12 (t := 15) rfl (fun v9 => J_pure fun hv9 => ?_)
  subst hv9
  refine J_astore_n (lc2 := [(2, .ref (gn G + 497)), (1, .ref (gn G + 0)), (0, .ref b)]) hX dL_law_15 rfl (Nat.le_of_ble_eq_true rfl) rfl (t := 16) rfl ?_
  refine J_iconst (v := 1) hX dL_law_16 (by decide) (t := 17) rfl ?_
  refine N_newJ (k := 512) (N := 1) hX (by decide) (by decide) (Nat.le_of_ble_eq_true rfl) q_217 ⟨Nat.le_of_ble_eq_true rfl, Nat.le_of_ble_eq_true rfl⟩ dL_law_17 (t := 19) rfl ?_
  refine J_astore_n (lc2 := [(3, .ref (gn G + 512)), (2, .ref (gn G + 497)), (1, .ref (gn G + 0)), (0, .ref b)]) hX dL_law_19 rfl (Nat.le_of_ble_eq_true rfl) rfl (t := 20) rfl ?_
  refine J_iconst (v := 0) hX dL_law_20 (by decide) (t := 21) rfl ?_
  refine J_istore (lc2 := [(4, .int 0), (3, .ref (gn G + 512)), (2, .ref (gn G + 497)), (1, .ref (gn G + 0)), (0, .ref b)]) hX dL_law_21 (Nat.le_of_ble_eq_true rfl) rfl (t := 23) rfl ?_
  refine J_sub (lc2 := [(4, .int (nI (6 * 0))), (3, .ref (adr G 16 0)), (2, .ref (adr G 15 0)), (1, .ref (adr G 0 0)), (0, .ref b)]) [0, 1, 2, 3, 4] rfl ?_
  refine J_imp (I2 := GH G w0) (fun H h => GH0 (f := f0) h) ?_
  exact hloop d0 hd0
