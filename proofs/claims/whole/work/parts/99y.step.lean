set_option maxHeartbeats 1000000
/-! every call keeps class and reference together -/
theorem op_le (op : Int32) : (op &&& 63).toBitVec.toNat ≤ 63 := by
  rw [Int32.toBitVec_and, BitVec.toNat_and]
  exact Nat.and_le_right
theorem op_ne {x y : Int32} (h : ¬ x = y) : x.toBitVec.toNat ≠ y.toBitVec.toNat := fun e => h (Int32.toBitVec_inj.mp (BitVec.eq_of_toNat_eq e))
theorem op_all {x : Nat} (h : x ≤ 63) (h0 : x ≠ 0) (h1 : x ≠ 1) (h2 : x ≠ 2) (h3 : x ≠ 3) (h4 : x ≠ 4) (h5 : x ≠ 5) (h6 : x ≠ 6) (h7 : x ≠ 7) (h8 : x ≠ 8) (h9 : x ≠ 9) (h10 : x ≠ 10) (h11 : x ≠ 11) (h12 : x ≠ 12) (h13 : x ≠ 13) (h14 : x ≠ 14) (h15 : x ≠ 15) (h16 : x ≠ 16) (h17 : x ≠ 17) (h18 : x ≠ 18) (h19 : x ≠ 19) (h20 : x ≠ 20) (h21 : x ≠ 21) (h22 : x ≠ 22) (h23 : x ≠ 23) (h24 : x ≠ 24) (h25 : x ≠ 25) (h26 : x ≠ 26) (h27 : x ≠ 27) (h28 : x ≠ 28) (h29 : x ≠ 29) (h30 : x ≠ 30) (h31 : x ≠ 31) (h32 : x ≠ 32) (h33 : x ≠ 33) (h34 : x ≠ 34) (h35 : x ≠ 35) (h36 : x ≠ 36) (h37 : x ≠ 37) (h38 : x ≠ 38) (h39 : x ≠ 39) (h40 : x ≠ 40) (h41 : x ≠ 41) (h42 : x ≠ 42) (h43 : x ≠ 43) (h44 : x ≠ 44) (h45 : x ≠ 45) (h46 : x ≠ 46) (h47 : x ≠ 47) (h48 : x ≠ 48) (h49 : x ≠ 49) (h50 : x ≠ 50) (h51 : x ≠ 51) (h52 : x ≠ 52) (h53 : x ≠ 53) (h54 : x ≠ 54) (h55 : x ≠ 55) (h56 : x ≠ 56) (h57 : x ≠ 57) (h58 : x ≠ 58) (h59 : x ≠ 59) (h60 : x ≠ 60) (h61 : x ≠ 61) (h62 : x ≠ 62) (h63 : x ≠ 63) : False := by
  omega
theorem step_good {n : Nat} (hn : 30000 ≤ n) {w : Wd} {op : Int32} (hop : op.toBitVec.toNat ≤ 63) (a1 a2 a3 a4 a5 : Int32) (h : Good w) : ∃ w9, FLstep n w op a1 a2 a3 a4 a5 = some w9 ∧ Good w9 := by
  unfold FLstep
  by_cases h0 : op = 0
  · rw [if_pos h0]
    exact ob_0 (by omega) h a1 a2 a3 a4 a5
  rw [if_neg h0]
  by_cases h1 : op = 1
  · rw [if_pos h1]
    exact ob_1 h a1 a2 a3 a4 a5
  rw [if_neg h1]
  by_cases h2 : op = 2
  · rw [if_pos h2]
    exact ob_2 (by omega) h a1 a2 a3 a4 a5
  rw [if_neg h2]
  by_cases h3 : op = 3
  · rw [if_pos h3]
    exact ob_3 (by omega) h a1 a2 a3 a4 a5
  rw [if_neg h3]
  by_cases h4 : op = 4
  · rw [if_pos h4]
    exact ob_4 h a1 a2 a3 a4 a5
  rw [if_neg h4]
  by_cases h5 : op = 5
  · rw [if_pos h5]
    exact ob_5 h a1 a2 a3 a4 a5
  rw [if_neg h5]
  by_cases h6 : op = 6
  · rw [if_pos h6]
    exact ob_6 h a1 a2 a3 a4 a5
  rw [if_neg h6]
  by_cases h7 : op = 7
  · rw [if_pos h7]
    exact ob_7 h a1 a2 a3 a4 a5
  rw [if_neg h7]
  by_cases h8 : op = 8
  · rw [if_pos h8]
    exact ob_8 h a1 a2 a3 a4 a5
  rw [if_neg h8]
  by_cases h9 : op = 9
  · rw [if_pos h9]
    exact ob_9 h a1 a2 a3 a4 a5
  rw [if_neg h9]
  by_cases h10 : op = 10
  · rw [if_pos h10]
    exact ob_10 h a1 a2 a3 a4 a5
  rw [if_neg h10]
  by_cases h11 : op = 11
  · rw [if_pos h11]
    exact ob_11 h a1 a2 a3 a4 a5
  rw [if_neg h11]
  by_cases h12 : op = 12
  · rw [if_pos h12]
    exact ob_12 (by omega) h a1 a2 a3 a4 a5
  rw [if_neg h12]
  by_cases h13 : op = 13
  · rw [if_pos h13]
    exact ob_13 h a1 a2 a3 a4 a5
  rw [if_neg h13]
  by_cases h14 : op = 14
  · rw [if_pos h14]
    exact ob_14 (by omega) h a1 a2 a3 a4 a5
  rw [if_neg h14]
  by_cases h15 : op = 15
  · rw [if_pos h15]
    exact ob_15 (by omega) h a1 a2 a3 a4 a5
  rw [if_neg h15]
  by_cases h16 : op = 16
  · rw [if_pos h16]
    exact ob_16 (by omega) h a1 a2 a3 a4 a5
  rw [if_neg h16]
  by_cases h17 : op = 17
  · rw [if_pos h17]
    exact ob_17 h a1 a2 a3 a4 a5
  rw [if_neg h17]
  by_cases h18 : op = 18
  · rw [if_pos h18]
    exact ob_18 h a1 a2 a3 a4 a5
  rw [if_neg h18]
  by_cases h19 : op = 19
  · rw [if_pos h19]
    exact ob_19 h a1 a2 a3 a4 a5
  rw [if_neg h19]
  by_cases h20 : op = 20
  · rw [if_pos h20]
    exact ob_20 h a1 a2 a3 a4 a5
  rw [if_neg h20]
  by_cases h21 : op = 21
  · rw [if_pos h21]
    exact ob_21 h a1 a2 a3 a4 a5
  rw [if_neg h21]
  by_cases h22 : op = 22
  · rw [if_pos h22]
    exact ob_22 (by omega) h a1 a2 a3 a4 a5
  rw [if_neg h22]
  by_cases h23 : op = 23
  · rw [if_pos h23]
    exact ob_23 (by omega) h a1 a2 a3 a4 a5
  rw [if_neg h23]
  by_cases h24 : op = 24
  · rw [if_pos h24]
    exact ob_24 (by omega) h a1 a2 a3 a4 a5
  rw [if_neg h24]
  by_cases h25 : op = 25
  · rw [if_pos h25]
    exact ob_25 (by omega) h a1 a2 a3 a4 a5
  rw [if_neg h25]
  by_cases h26 : op = 26
  · rw [if_pos h26]
    exact ob_26 h a1 a2 a3 a4 a5
  rw [if_neg h26]
  by_cases h27 : op = 27
  · rw [if_pos h27]
    exact ob_27 h a1 a2 a3 a4 a5
  rw [if_neg h27]
  by_cases h28 : op = 28
  · rw [if_pos h28]
    exact ob_28 h a1 a2 a3 a4 a5
  rw [if_neg h28]
  by_cases h29 : op = 29
  · rw [if_pos h29]
    exact ob_29 (by omega) h a1 a2 a3 a4 a5
  rw [if_neg h29]
  by_cases h30 : op = 30
  · rw [if_pos h30]
    exact ob_30 h a1 a2 a3 a4 a5
  rw [if_neg h30]
  by_cases h31 : op = 31
  · rw [if_pos h31]
    exact ob_31 (by omega) h a1 a2 a3 a4 a5
  rw [if_neg h31]
  by_cases h32 : op = 32
  · rw [if_pos h32]
    exact ob_32 (by omega) h a1 a2 a3 a4 a5
  rw [if_neg h32]
  by_cases h33 : op = 33
  · rw [if_pos h33]
    exact ob_33 (by omega) h a1 a2 a3 a4 a5
  rw [if_neg h33]
  by_cases h34 : op = 34
  · rw [if_pos h34]
    exact ob_34 h a1 a2 a3 a4 a5
  rw [if_neg h34]
  by_cases h35 : op = 35
  · rw [if_pos h35]
    exact ob_35 h a1 a2 a3 a4 a5
  rw [if_neg h35]
  by_cases h36 : op = 36
  · rw [if_pos h36]
    exact ob_36 h a1 a2 a3 a4 a5
  rw [if_neg h36]
  by_cases h37 : op = 37
  · rw [if_pos h37]
    exact ob_37 h a1 a2 a3 a4 a5
  rw [if_neg h37]
  by_cases h38 : op = 38
  · rw [if_pos h38]
    exact ob_38 (by omega) h a1 a2 a3 a4 a5
  rw [if_neg h38]
  by_cases h39 : op = 39
  · rw [if_pos h39]
    exact ob_39 (by omega) h a1 a2 a3 a4 a5
  rw [if_neg h39]
  by_cases h40 : op = 40
  · rw [if_pos h40]
    exact ob_40 (by omega) h a1 a2 a3 a4 a5
  rw [if_neg h40]
  by_cases h41 : op = 41
  · rw [if_pos h41]
    exact ob_41 (by omega) h a1 a2 a3 a4 a5
  rw [if_neg h41]
  by_cases h42 : op = 42
  · rw [if_pos h42]
    exact ob_42 (by omega) h a1 a2 a3 a4 a5
  rw [if_neg h42]
  by_cases h43 : op = 43
  · rw [if_pos h43]
    exact ob_43 (by omega) h a1 a2 a3 a4 a5
  rw [if_neg h43]
  by_cases h44 : op = 44
  · rw [if_pos h44]
    exact ob_44 (by omega) h a1 a2 a3 a4 a5
  rw [if_neg h44]
  by_cases h45 : op = 45
  · rw [if_pos h45]
    exact ob_45 (by omega) h a1 a2 a3 a4 a5
  rw [if_neg h45]
  by_cases h46 : op = 46
  · rw [if_pos h46]
    exact ob_46 (by omega) h a1 a2 a3 a4 a5
  rw [if_neg h46]
  by_cases h47 : op = 47
  · rw [if_pos h47]
    exact ob_47 (by omega) h a1 a2 a3 a4 a5
  rw [if_neg h47]
  by_cases h48 : op = 48
  · rw [if_pos h48]
    exact ob_48 (by omega) h a1 a2 a3 a4 a5
  rw [if_neg h48]
  by_cases h49 : op = 49
  · rw [if_pos h49]
    exact ob_49 (by omega) h a1 a2 a3 a4 a5
  rw [if_neg h49]
  by_cases h50 : op = 50
  · rw [if_pos h50]
    exact ob_50 (by omega) h a1 a2 a3 a4 a5
  rw [if_neg h50]
  by_cases h51 : op = 51
  · rw [if_pos h51]
    exact ob_51 (by omega) h a1 a2 a3 a4 a5
  rw [if_neg h51]
  by_cases h52 : op = 52
  · rw [if_pos h52]
    exact ob_52 (by omega) h a1 a2 a3 a4 a5
  rw [if_neg h52]
  by_cases h53 : op = 53
  · rw [if_pos h53]
    exact ob_53 (by omega) h a1 a2 a3 a4 a5
  rw [if_neg h53]
  by_cases h54 : op = 54
  · rw [if_pos h54]
    exact ob_54 (by omega) h a1 a2 a3 a4 a5
  rw [if_neg h54]
  by_cases h55 : op = 55
  · rw [if_pos h55]
    exact ob_55 (by omega) h a1 a2 a3 a4 a5
  rw [if_neg h55]
  by_cases h56 : op = 56
  · rw [if_pos h56]
    exact ob_56 (by omega) h a1 a2 a3 a4 a5
  rw [if_neg h56]
  by_cases h57 : op = 57
  · rw [if_pos h57]
    exact ob_57 (by omega) h a1 a2 a3 a4 a5
  rw [if_neg h57]
  by_cases h58 : op = 58
  · rw [if_pos h58]
    exact ob_58 (by omega) h a1 a2 a3 a4 a5
  rw [if_neg h58]
  by_cases h59 : op = 59
  · rw [if_pos h59]
    exact ob_59 (by omega) h a1 a2 a3 a4 a5
  rw [if_neg h59]
  by_cases h60 : op = 60
  · rw [if_pos h60]
    exact ob_60 (by omega) h a1 a2 a3 a4 a5
  rw [if_neg h60]
  by_cases h61 : op = 61
  · rw [if_pos h61]
    exact ob_61 h a1 a2 a3 a4 a5
  rw [if_neg h61]
  by_cases h62 : op = 62
  · rw [if_pos h62]
    exact ob_62 (by omega) h a1 a2 a3 a4 a5
  rw [if_neg h62]
  by_cases h63 : op = 63
  · rw [if_pos h63]
    exact ob_63 (by omega) h a1 a2 a3 a4 a5
  rw [if_neg h63]
  exact absurd hop (fun hop => op_all hop (op_ne h0) (op_ne h1) (op_ne h2) (op_ne h3) (op_ne h4) (op_ne h5) (op_ne h6) (op_ne h7) (op_ne h8) (op_ne h9) (op_ne h10) (op_ne h11) (op_ne h12) (op_ne h13) (op_ne h14) (op_ne h15) (op_ne h16) (op_ne h17) (op_ne h18) (op_ne h19) (op_ne h20) (op_ne h21) (op_ne h22) (op_ne h23) (op_ne h24) (op_ne h25) (op_ne h26) (op_ne h27) (op_ne h28) (op_ne h29) (op_ne h30) (op_ne h31) (op_ne h32) (op_ne h33) (op_ne h34) (op_ne h35) (op_ne h36) (op_ne h37) (op_ne h38) (op_ne h39) (op_ne h40) (op_ne h41) (op_ne h42) (op_ne h43) (op_ne h44) (op_ne h45) (op_ne h46) (op_ne h47) (op_ne h48) (op_ne h49) (op_ne h50) (op_ne h51) (op_ne h52) (op_ne h53) (op_ne h54) (op_ne h55) (op_ne h56) (op_ne h57) (op_ne h58) (op_ne h59) (op_ne h60) (op_ne h61) (op_ne h62) (op_ne h63))
