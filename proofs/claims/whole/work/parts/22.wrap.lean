theorem q_135 : Cond.initialized RL ∈ WALL := WALL_in (List.mem_append_right _ (List.mem_append_left _ (List.mem_of_getElem? (i := 0) rfl))) rfl
theorem q_783 : Cond.codeWith yL_feed cL_feed 8 (some .int) [((0 : Nat), (16 : Nat), (19 : Nat), (13 : Nat))] ∈ WALL := WALL_in (List.mem_append_right _ (List.mem_append_right _ (List.mem_append_right _ (List.mem_append_left _ (List.mem_of_getElem? (i := 168) rfl))))) rfl
theorem q_784 : Cond.classLink RL 13 "java/lang/IllegalStateException" ∈ WALL := WALL_in (List.mem_append_right _ (List.mem_append_right _ (List.mem_append_right _ (List.mem_append_left _ (List.mem_of_getElem? (i := 169) rfl))))) rfl
theorem q_785 : Cond.methodLink RL 7 yX12_feed ∈ WALL := WALL_in (List.mem_append_right _ (List.mem_append_right _ (List.mem_append_right _ (List.mem_append_left _ (List.mem_of_getElem? (i := 170) rfl))))) rfl
theorem q_867 : Cond.codeWith yL_truncate cL_truncate 4 (some .int) [((0 : Nat), (9 : Nat), (12 : Nat), (19 : Nat))] ∈ WALL := WALL_in (List.mem_append_right _ (List.mem_append_right _ (List.mem_append_right _ (List.mem_append_right _ (List.mem_append_left _ (List.mem_of_getElem? (i := 12) rfl)))))) rfl
theorem q_868 : Cond.classLink RL 19 "java/lang/IllegalArgumentException" ∈ WALL := WALL_in (List.mem_append_right _ (List.mem_append_right _ (List.mem_append_right _ (List.mem_append_right _ (List.mem_append_left _ (List.mem_of_getElem? (i := 13) rfl)))))) rfl
theorem q_869 : Cond.methodLink RL 15 yX12_truncate ∈ WALL := WALL_in (List.mem_append_right _ (List.mem_append_right _ (List.mem_append_right _ (List.mem_append_right _ (List.mem_append_left _ (List.mem_of_getElem? (i := 14) rfl)))))) rfl
theorem q_895 : Cond.codeWith yL_readText cL_readText 3 (some .int) [((0 : Nat), (8 : Nat), (11 : Nat), (19 : Nat))] ∈ WALL := WALL_in (List.mem_append_right _ (List.mem_append_right _ (List.mem_append_right _ (List.mem_append_right _ (List.mem_append_left _ (List.mem_of_getElem? (i := 40) rfl)))))) rfl
theorem q_896 : Cond.methodLink RL 21 yX12_readText ∈ WALL := WALL_in (List.mem_append_right _ (List.mem_append_right _ (List.mem_append_right _ (List.mem_append_right _ (List.mem_append_left _ (List.mem_of_getElem? (i := 41) rfl)))))) rfl
theorem q_1221 : Cond.codeWith yL_runScript cL_runScript 3 (some .int) [((0 : Nat), (8 : Nat), (11 : Nat), (19 : Nat))] ∈ WALL := WALL_in (List.mem_append_right _ (List.mem_append_right _ (List.mem_append_right _ (List.mem_append_right _ (List.mem_append_right _ (List.mem_append_left _ (List.mem_of_getElem? (i := 126) rfl))))))) rfl
theorem q_1222 : Cond.methodLink RL 25 yX12_runScript ∈ WALL := WALL_in (List.mem_append_right _ (List.mem_append_right _ (List.mem_append_right _ (List.mem_append_right _ (List.mem_append_right _ (List.mem_append_left _ (List.mem_of_getElem? (i := 127) rfl))))))) rfl
theorem q_1314 : Cond.codeWith yL_valleyByte cL_valleyByte 5 (some .int) [((0 : Nat), (10 : Nat), (13 : Nat), (32 : Nat))] ∈ WALL := WALL_in (List.mem_append_right _ (List.mem_append_right _ (List.mem_append_right _ (List.mem_append_right _ (List.mem_append_right _ (List.mem_append_left _ (List.mem_of_getElem? (i := 219) rfl))))))) rfl
theorem q_1315 : Cond.classLink RL 32 "java/lang/IndexOutOfBoundsException" ∈ WALL := WALL_in (List.mem_append_right _ (List.mem_append_right _ (List.mem_append_right _ (List.mem_append_right _ (List.mem_append_right _ (List.mem_append_left _ (List.mem_of_getElem? (i := 220) rfl))))))) rfl
theorem q_1316 : Cond.methodLink RL 28 yX12_valleyByte ∈ WALL := WALL_in (List.mem_append_right _ (List.mem_append_right _ (List.mem_append_right _ (List.mem_append_right _ (List.mem_append_right _ (List.mem_append_left _ (List.mem_of_getElem? (i := 221) rfl))))))) rfl
theorem q_1347 : Cond.codeWith yL_width cL_width 4 (some .int) [((0 : Nat), (9 : Nat), (12 : Nat), (32 : Nat))] ∈ WALL := WALL_in (List.mem_append_right _ (List.mem_append_right _ (List.mem_append_right _ (List.mem_append_right _ (List.mem_append_right _ (List.mem_append_right _ (List.mem_append_left _ (List.mem_of_getElem? (i := 12) rfl)))))))) rfl
theorem q_1348 : Cond.methodLink RL 34 yX12_width ∈ WALL := WALL_in (List.mem_append_right _ (List.mem_append_right _ (List.mem_append_right _ (List.mem_append_right _ (List.mem_append_right _ (List.mem_append_right _ (List.mem_append_left _ (List.mem_of_getElem? (i := 13) rfl)))))))) rfl
theorem q_1354 : Cond.codeWith yL_walls cL_walls 4 (some .int) [((0 : Nat), (9 : Nat), (12 : Nat), (32 : Nat))] ∈ WALL := WALL_in (List.mem_append_right _ (List.mem_append_right _ (List.mem_append_right _ (List.mem_append_right _ (List.mem_append_right _ (List.mem_append_right _ (List.mem_append_left _ (List.mem_of_getElem? (i := 19) rfl)))))))) rfl
theorem q_1355 : Cond.methodLink RL 37 yX12_walls ∈ WALL := WALL_in (List.mem_append_right _ (List.mem_append_right _ (List.mem_append_right _ (List.mem_append_right _ (List.mem_append_right _ (List.mem_append_right _ (List.mem_append_left _ (List.mem_of_getElem? (i := 20) rfl)))))))) rfl
theorem q_1361 : Cond.codeWith yL_price cL_price 4 (some .int) [((0 : Nat), (9 : Nat), (12 : Nat), (32 : Nat))] ∈ WALL := WALL_in (List.mem_append_right _ (List.mem_append_right _ (List.mem_append_right _ (List.mem_append_right _ (List.mem_append_right _ (List.mem_append_right _ (List.mem_append_left _ (List.mem_of_getElem? (i := 26) rfl)))))))) rfl
theorem q_1362 : Cond.methodLink RL 40 yX12_price ∈ WALL := WALL_in (List.mem_append_right _ (List.mem_append_right _ (List.mem_append_right _ (List.mem_append_right _ (List.mem_append_right _ (List.mem_append_right _ (List.mem_append_left _ (List.mem_of_getElem? (i := 27) rfl)))))))) rfl
theorem q_1368 : Cond.codeWith yL_rating cL_rating 4 (some .int) [((0 : Nat), (9 : Nat), (12 : Nat), (32 : Nat))] ∈ WALL := WALL_in (List.mem_append_right _ (List.mem_append_right _ (List.mem_append_right _ (List.mem_append_right _ (List.mem_append_right _ (List.mem_append_right _ (List.mem_append_left _ (List.mem_of_getElem? (i := 33) rfl)))))))) rfl
theorem q_1369 : Cond.methodLink RL 43 yX12_rating ∈ WALL := WALL_in (List.mem_append_right _ (List.mem_append_right _ (List.mem_append_right _ (List.mem_append_right _ (List.mem_append_right _ (List.mem_append_right _ (List.mem_append_left _ (List.mem_of_getElem? (i := 34) rfl)))))))) rfl
theorem q_1375 : Cond.codeWith yL_echoesLost cL_echoesLost 4 (some .int) [((0 : Nat), (9 : Nat), (12 : Nat), (32 : Nat))] ∈ WALL := WALL_in (List.mem_append_right _ (List.mem_append_right _ (List.mem_append_right _ (List.mem_append_right _ (List.mem_append_right _ (List.mem_append_right _ (List.mem_append_left _ (List.mem_of_getElem? (i := 40) rfl)))))))) rfl
theorem q_1376 : Cond.methodLink RL 46 yX12_echoesLost ∈ WALL := WALL_in (List.mem_append_right _ (List.mem_append_right _ (List.mem_append_right _ (List.mem_append_right _ (List.mem_append_right _ (List.mem_append_right _ (List.mem_append_left _ (List.mem_of_getElem? (i := 41) rfl)))))))) rfl
theorem q_1382 : Cond.codeWith yL_earnedIn cL_earnedIn 4 (some .int) [((0 : Nat), (9 : Nat), (12 : Nat), (32 : Nat))] ∈ WALL := WALL_in (List.mem_append_right _ (List.mem_append_right _ (List.mem_append_right _ (List.mem_append_right _ (List.mem_append_right _ (List.mem_append_right _ (List.mem_append_left _ (List.mem_of_getElem? (i := 47) rfl)))))))) rfl
theorem q_1383 : Cond.methodLink RL 49 yX12_earnedIn ∈ WALL := WALL_in (List.mem_append_right _ (List.mem_append_right _ (List.mem_append_right _ (List.mem_append_right _ (List.mem_append_right _ (List.mem_append_right _ (List.mem_append_left _ (List.mem_of_getElem? (i := 48) rfl)))))))) rfl
theorem q_1389 : Cond.codeWith yL_money cL_money 4 (some .int) [((0 : Nat), (9 : Nat), (12 : Nat), (32 : Nat))] ∈ WALL := WALL_in (List.mem_append_right _ (List.mem_append_right _ (List.mem_append_right _ (List.mem_append_right _ (List.mem_append_right _ (List.mem_append_right _ (List.mem_append_left _ (List.mem_of_getElem? (i := 54) rfl)))))))) rfl
theorem q_1390 : Cond.methodLink RL 52 yX12_money ∈ WALL := WALL_in (List.mem_append_right _ (List.mem_append_right _ (List.mem_append_right _ (List.mem_append_right _ (List.mem_append_right _ (List.mem_append_right _ (List.mem_append_left _ (List.mem_of_getElem? (i := 55) rfl)))))))) rfl
theorem q_1401 : Cond.codeWith yL_patience cL_patience 4 (some .int) [((0 : Nat), (9 : Nat), (12 : Nat), (32 : Nat))] ∈ WALL := WALL_in (List.mem_append_right _ (List.mem_append_right _ (List.mem_append_right _ (List.mem_append_right _ (List.mem_append_right _ (List.mem_append_right _ (List.mem_append_left _ (List.mem_of_getElem? (i := 66) rfl)))))))) rfl
theorem q_1402 : Cond.methodLink RL 55 yX12_patience ∈ WALL := WALL_in (List.mem_append_right _ (List.mem_append_right _ (List.mem_append_right _ (List.mem_append_right _ (List.mem_append_right _ (List.mem_append_right _ (List.mem_append_left _ (List.mem_of_getElem? (i := 67) rfl)))))))) rfl
theorem q_1408 : Cond.codeWith yL_suspicion cL_suspicion 4 (some .int) [((0 : Nat), (9 : Nat), (12 : Nat), (32 : Nat))] ∈ WALL := WALL_in (List.mem_append_right _ (List.mem_append_right _ (List.mem_append_right _ (List.mem_append_right _ (List.mem_append_right _ (List.mem_append_right _ (List.mem_append_left _ (List.mem_of_getElem? (i := 73) rfl)))))))) rfl
theorem q_1409 : Cond.methodLink RL 58 yX12_suspicion ∈ WALL := WALL_in (List.mem_append_right _ (List.mem_append_right _ (List.mem_append_right _ (List.mem_append_right _ (List.mem_append_right _ (List.mem_append_right _ (List.mem_append_left _ (List.mem_of_getElem? (i := 74) rfl)))))))) rfl
theorem q_1415 : Cond.codeWith yL_isAngry cL_isAngry 4 (some .int) [((0 : Nat), (16 : Nat), (19 : Nat), (32 : Nat))] ∈ WALL := WALL_in (List.mem_append_right _ (List.mem_append_right _ (List.mem_append_right _ (List.mem_append_right _ (List.mem_append_right _ (List.mem_append_right _ (List.mem_append_left _ (List.mem_of_getElem? (i := 80) rfl)))))))) rfl
theorem q_1416 : Cond.methodLink RL 61 yX12_isAngry ∈ WALL := WALL_in (List.mem_append_right _ (List.mem_append_right _ (List.mem_append_right _ (List.mem_append_right _ (List.mem_append_right _ (List.mem_append_right _ (List.mem_append_left _ (List.mem_of_getElem? (i := 81) rfl)))))))) rfl
theorem q_1423 : Cond.codeWith yL_echoesHeard cL_echoesHeard 4 (some .int) [((0 : Nat), (9 : Nat), (12 : Nat), (32 : Nat))] ∈ WALL := WALL_in (List.mem_append_right _ (List.mem_append_right _ (List.mem_append_right _ (List.mem_append_right _ (List.mem_append_right _ (List.mem_append_right _ (List.mem_append_left _ (List.mem_of_getElem? (i := 88) rfl)))))))) rfl
theorem q_1424 : Cond.methodLink RL 65 yX12_echoesHeard ∈ WALL := WALL_in (List.mem_append_right _ (List.mem_append_right _ (List.mem_append_right _ (List.mem_append_right _ (List.mem_append_right _ (List.mem_append_right _ (List.mem_append_left _ (List.mem_of_getElem? (i := 89) rfl)))))))) rfl
theorem q_1430 : Cond.codeWith yL_heldFor cL_heldFor 4 (some .int) [((0 : Nat), (9 : Nat), (12 : Nat), (32 : Nat))] ∈ WALL := WALL_in (List.mem_append_right _ (List.mem_append_right _ (List.mem_append_right _ (List.mem_append_right _ (List.mem_append_right _ (List.mem_append_right _ (List.mem_append_left _ (List.mem_of_getElem? (i := 95) rfl)))))))) rfl
theorem q_1431 : Cond.methodLink RL 68 yX12_heldFor ∈ WALL := WALL_in (List.mem_append_right _ (List.mem_append_right _ (List.mem_append_right _ (List.mem_append_right _ (List.mem_append_right _ (List.mem_append_right _ (List.mem_append_left _ (List.mem_of_getElem? (i := 96) rfl)))))))) rfl
theorem q_1437 : Cond.codeWith yL_shoutCustomer cL_shoutCustomer 4 (some .int) [((0 : Nat), (9 : Nat), (12 : Nat), (32 : Nat))] ∈ WALL := WALL_in (List.mem_append_right _ (List.mem_append_right _ (List.mem_append_right _ (List.mem_append_right _ (List.mem_append_right _ (List.mem_append_right _ (List.mem_append_left _ (List.mem_of_getElem? (i := 102) rfl)))))))) rfl
theorem q_1438 : Cond.methodLink RL 71 yX12_shoutCustomer ∈ WALL := WALL_in (List.mem_append_right _ (List.mem_append_right _ (List.mem_append_right _ (List.mem_append_right _ (List.mem_append_right _ (List.mem_append_right _ (List.mem_append_left _ (List.mem_of_getElem? (i := 103) rfl)))))))) rfl
theorem q_1449 : Cond.codeWith yL_shoutValley cL_shoutValley 4 (some .int) [((0 : Nat), (9 : Nat), (12 : Nat), (32 : Nat))] ∈ WALL := WALL_in (List.mem_append_right _ (List.mem_append_right _ (List.mem_append_right _ (List.mem_append_right _ (List.mem_append_right _ (List.mem_append_right _ (List.mem_append_left _ (List.mem_of_getElem? (i := 114) rfl)))))))) rfl
theorem q_1450 : Cond.methodLink RL 74 yX12_shoutValley ∈ WALL := WALL_in (List.mem_append_right _ (List.mem_append_right _ (List.mem_append_right _ (List.mem_append_right _ (List.mem_append_right _ (List.mem_append_right _ (List.mem_append_left _ (List.mem_of_getElem? (i := 115) rfl)))))))) rfl
theorem q_1456 : Cond.codeWith yL_shoutState cL_shoutState 4 (some .int) [((0 : Nat), (9 : Nat), (12 : Nat), (32 : Nat))] ∈ WALL := WALL_in (List.mem_append_right _ (List.mem_append_right _ (List.mem_append_right _ (List.mem_append_right _ (List.mem_append_right _ (List.mem_append_right _ (List.mem_append_left _ (List.mem_of_getElem? (i := 121) rfl)))))))) rfl
theorem q_1457 : Cond.methodLink RL 77 yX12_shoutState ∈ WALL := WALL_in (List.mem_append_right _ (List.mem_append_right _ (List.mem_append_right _ (List.mem_append_right _ (List.mem_append_right _ (List.mem_append_right _ (List.mem_append_left _ (List.mem_of_getElem? (i := 122) rfl)))))))) rfl
theorem q_1463 : Cond.codeWith yL_returns cL_returns 4 (some .int) [((0 : Nat), (9 : Nat), (12 : Nat), (32 : Nat))] ∈ WALL := WALL_in (List.mem_append_right _ (List.mem_append_right _ (List.mem_append_right _ (List.mem_append_right _ (List.mem_append_right _ (List.mem_append_right _ (List.mem_append_left _ (List.mem_of_getElem? (i := 128) rfl)))))))) rfl
theorem q_1464 : Cond.methodLink RL 80 yX12_returns ∈ WALL := WALL_in (List.mem_append_right _ (List.mem_append_right _ (List.mem_append_right _ (List.mem_append_right _ (List.mem_append_right _ (List.mem_append_right _ (List.mem_append_left _ (List.mem_of_getElem? (i := 129) rfl)))))))) rfl
theorem q_1470 : Cond.codeWith yL_receipt cL_receipt 4 (some .int) [((0 : Nat), (9 : Nat), (12 : Nat), (32 : Nat))] ∈ WALL := WALL_in (List.mem_append_right _ (List.mem_append_right _ (List.mem_append_right _ (List.mem_append_right _ (List.mem_append_right _ (List.mem_append_right _ (List.mem_append_left _ (List.mem_of_getElem? (i := 135) rfl)))))))) rfl
theorem q_1471 : Cond.methodLink RL 83 yX12_receipt ∈ WALL := WALL_in (List.mem_append_right _ (List.mem_append_right _ (List.mem_append_right _ (List.mem_append_right _ (List.mem_append_right _ (List.mem_append_right _ (List.mem_append_left _ (List.mem_of_getElem? (i := 136) rfl)))))))) rfl
theorem q_1487 : Cond.codeWith yL_nextReturn cL_nextReturn 4 (some .int) [((0 : Nat), (9 : Nat), (12 : Nat), (32 : Nat))] ∈ WALL := WALL_in (List.mem_append_right _ (List.mem_append_right _ (List.mem_append_right _ (List.mem_append_right _ (List.mem_append_right _ (List.mem_append_right _ (List.mem_append_left _ (List.mem_of_getElem? (i := 152) rfl)))))))) rfl
theorem q_1488 : Cond.methodLink RL 86 yX12_nextReturn ∈ WALL := WALL_in (List.mem_append_right _ (List.mem_append_right _ (List.mem_append_right _ (List.mem_append_right _ (List.mem_append_right _ (List.mem_append_right _ (List.mem_append_left _ (List.mem_of_getElem? (i := 153) rfl)))))))) rfl
theorem q_1496 : Cond.codeWith yL_patienceEnds cL_patienceEnds 4 (some .int) [((0 : Nat), (9 : Nat), (12 : Nat), (32 : Nat))] ∈ WALL := WALL_in (List.mem_append_right _ (List.mem_append_right _ (List.mem_append_right _ (List.mem_append_right _ (List.mem_append_right _ (List.mem_append_right _ (List.mem_append_left _ (List.mem_of_getElem? (i := 161) rfl)))))))) rfl
theorem q_1497 : Cond.methodLink RL 89 yX12_patienceEnds ∈ WALL := WALL_in (List.mem_append_right _ (List.mem_append_right _ (List.mem_append_right _ (List.mem_append_right _ (List.mem_append_right _ (List.mem_append_right _ (List.mem_append_left _ (List.mem_of_getElem? (i := 162) rfl)))))))) rfl
theorem q_1503 : Cond.codeWith yL_refusal cL_refusal 6 (some .int) [((0 : Nat), (12 : Nat), (15 : Nat), (32 : Nat)), ((0 : Nat), (12 : Nat), (19 : Nat), (19 : Nat))] ∈ WALL := WALL_in (List.mem_append_right _ (List.mem_append_right _ (List.mem_append_right _ (List.mem_append_right _ (List.mem_append_right _ (List.mem_append_right _ (List.mem_append_left _ (List.mem_of_getElem? (i := 168) rfl)))))))) rfl
theorem q_1504 : Cond.methodLink RL 92 yX12_refusal ∈ WALL := WALL_in (List.mem_append_right _ (List.mem_append_right _ (List.mem_append_right _ (List.mem_append_right _ (List.mem_append_right _ (List.mem_append_right _ (List.mem_append_left _ (List.mem_of_getElem? (i := 169) rfl)))))))) rfl
theorem q_1511 : Cond.codeWith yL_neededLoudness cL_neededLoudness 5 (some .int) [((0 : Nat), (10 : Nat), (13 : Nat), (32 : Nat)), ((0 : Nat), (10 : Nat), (17 : Nat), (19 : Nat))] ∈ WALL := WALL_in (List.mem_append_right _ (List.mem_append_right _ (List.mem_append_right _ (List.mem_append_right _ (List.mem_append_right _ (List.mem_append_right _ (List.mem_append_left _ (List.mem_of_getElem? (i := 176) rfl)))))))) rfl
theorem q_1512 : Cond.methodLink RL 96 yX12_neededLoudness ∈ WALL := WALL_in (List.mem_append_right _ (List.mem_append_right _ (List.mem_append_right _ (List.mem_append_right _ (List.mem_append_right _ (List.mem_append_right _ (List.mem_append_left _ (List.mem_of_getElem? (i := 177) rfl)))))))) rfl
theorem q_1519 : Cond.codeWith yL_bestOffer cL_bestOffer 5 (some .int) [((0 : Nat), (10 : Nat), (13 : Nat), (32 : Nat)), ((0 : Nat), (10 : Nat), (17 : Nat), (19 : Nat))] ∈ WALL := WALL_in (List.mem_append_right _ (List.mem_append_right _ (List.mem_append_right _ (List.mem_append_right _ (List.mem_append_right _ (List.mem_append_right _ (List.mem_append_left _ (List.mem_of_getElem? (i := 184) rfl)))))))) rfl
theorem q_1520 : Cond.methodLink RL 99 yX12_bestOffer ∈ WALL := WALL_in (List.mem_append_right _ (List.mem_append_right _ (List.mem_append_right _ (List.mem_append_right _ (List.mem_append_right _ (List.mem_append_right _ (List.mem_append_left _ (List.mem_of_getElem? (i := 185) rfl)))))))) rfl
theorem q_1533 : Cond.codeWith yL_earnedAfter cL_earnedAfter 4 (some .int) [((0 : Nat), (9 : Nat), (12 : Nat), (19 : Nat))] ∈ WALL := WALL_in (List.mem_append_right _ (List.mem_append_right _ (List.mem_append_right _ (List.mem_append_right _ (List.mem_append_right _ (List.mem_append_right _ (List.mem_append_left _ (List.mem_of_getElem? (i := 198) rfl)))))))) rfl
theorem q_1534 : Cond.methodLink RL 102 yX12_earnedAfter ∈ WALL := WALL_in (List.mem_append_right _ (List.mem_append_right _ (List.mem_append_right _ (List.mem_append_right _ (List.mem_append_right _ (List.mem_append_right _ (List.mem_append_left _ (List.mem_of_getElem? (i := 199) rfl)))))))) rfl
theorem q_1549 : Cond.codeWith yL_finalState cL_finalState 4 (some .int) [((0 : Nat), (9 : Nat), (12 : Nat), (32 : Nat))] ∈ WALL := WALL_in (List.mem_append_right _ (List.mem_append_right _ (List.mem_append_right _ (List.mem_append_right _ (List.mem_append_right _ (List.mem_append_right _ (List.mem_append_left _ (List.mem_of_getElem? (i := 214) rfl)))))))) rfl
theorem q_1550 : Cond.methodLink RL 105 yX12_finalState ∈ WALL := WALL_in (List.mem_append_right _ (List.mem_append_right _ (List.mem_append_right _ (List.mem_append_right _ (List.mem_append_right _ (List.mem_append_right _ (List.mem_append_left _ (List.mem_of_getElem? (i := 215) rfl)))))))) rfl
theorem q_1561 : Cond.codeWith yL_addValley cL_addValley 6 (some .int) [((0 : Nat), (12 : Nat), (15 : Nat), (19 : Nat)), ((0 : Nat), (12 : Nat), (19 : Nat), (13 : Nat))] ∈ WALL := WALL_in (List.mem_append_right _ (List.mem_append_right _ (List.mem_append_right _ (List.mem_append_right _ (List.mem_append_right _ (List.mem_append_right _ (List.mem_append_left _ (List.mem_of_getElem? (i := 226) rfl)))))))) rfl
theorem q_1562 : Cond.methodLink RL 108 yX12_addValley ∈ WALL := WALL_in (List.mem_append_right _ (List.mem_append_right _ (List.mem_append_right _ (List.mem_append_right _ (List.mem_append_right _ (List.mem_append_right _ (List.mem_append_left _ (List.mem_of_getElem? (i := 227) rfl)))))))) rfl
theorem q_1569 : Cond.codeWith yL_addCustomer cL_addCustomer 5 (some .int) [((0 : Nat), (10 : Nat), (13 : Nat), (19 : Nat)), ((0 : Nat), (10 : Nat), (17 : Nat), (13 : Nat))] ∈ WALL := WALL_in (List.mem_append_right _ (List.mem_append_right _ (List.mem_append_right _ (List.mem_append_right _ (List.mem_append_right _ (List.mem_append_right _ (List.mem_append_left _ (List.mem_of_getElem? (i := 234) rfl)))))))) rfl
theorem q_1570 : Cond.methodLink RL 111 yX12_addCustomer ∈ WALL := WALL_in (List.mem_append_right _ (List.mem_append_right _ (List.mem_append_right _ (List.mem_append_right _ (List.mem_append_right _ (List.mem_append_right _ (List.mem_append_left _ (List.mem_of_getElem? (i := 235) rfl)))))))) rfl
theorem q_1577 : Cond.codeWith yL_shout cL_shout 7 (some .int) [((0 : Nat), (14 : Nat), (17 : Nat), (32 : Nat)), ((0 : Nat), (14 : Nat), (21 : Nat), (19 : Nat)), ((0 : Nat), (14 : Nat), (25 : Nat), (13 : Nat))] ∈ WALL := WALL_in (List.mem_append_right _ (List.mem_append_right _ (List.mem_append_right _ (List.mem_append_right _ (List.mem_append_right _ (List.mem_append_right _ (List.mem_append_right _ (List.mem_append_left _ (List.mem_of_getElem? (i := 2) rfl))))))))) rfl
theorem q_1578 : Cond.methodLink RL 114 yX12_shout ∈ WALL := WALL_in (List.mem_append_right _ (List.mem_append_right _ (List.mem_append_right _ (List.mem_append_right _ (List.mem_append_right _ (List.mem_append_right _ (List.mem_append_right _ (List.mem_append_left _ (List.mem_of_getElem? (i := 3) rfl))))))))) rfl
theorem q_1592 : Cond.codeWith yL_cancel cL_cancel 4 (some .int) [((0 : Nat), (9 : Nat), (12 : Nat), (32 : Nat)), ((0 : Nat), (9 : Nat), (15 : Nat), (13 : Nat))] ∈ WALL := WALL_in (List.mem_append_right _ (List.mem_append_right _ (List.mem_append_right _ (List.mem_append_right _ (List.mem_append_right _ (List.mem_append_right _ (List.mem_append_right _ (List.mem_append_left _ (List.mem_of_getElem? (i := 17) rfl))))))))) rfl
theorem q_1593 : Cond.methodLink RL 118 yX12_cancel ∈ WALL := WALL_in (List.mem_append_right _ (List.mem_append_right _ (List.mem_append_right _ (List.mem_append_right _ (List.mem_append_right _ (List.mem_append_right _ (List.mem_append_right _ (List.mem_append_left _ (List.mem_of_getElem? (i := 18) rfl))))))))) rfl
theorem q_1601 : Cond.codeWith yL_fake cL_fake 4 (some .int) [((0 : Nat), (9 : Nat), (12 : Nat), (32 : Nat)), ((0 : Nat), (9 : Nat), (15 : Nat), (13 : Nat))] ∈ WALL := WALL_in (List.mem_append_right _ (List.mem_append_right _ (List.mem_append_right _ (List.mem_append_right _ (List.mem_append_right _ (List.mem_append_right _ (List.mem_append_right _ (List.mem_append_left _ (List.mem_of_getElem? (i := 26) rfl))))))))) rfl
theorem q_1602 : Cond.methodLink RL 121 yX12_fake ∈ WALL := WALL_in (List.mem_append_right _ (List.mem_append_right _ (List.mem_append_right _ (List.mem_append_right _ (List.mem_append_right _ (List.mem_append_right _ (List.mem_append_right _ (List.mem_append_left _ (List.mem_of_getElem? (i := 27) rfl))))))))) rfl
theorem q_1609 : Cond.codeWith yL_setFog cL_setFog 5 (some .int) [((0 : Nat), (10 : Nat), (13 : Nat), (32 : Nat)), ((0 : Nat), (10 : Nat), (17 : Nat), (19 : Nat))] ∈ WALL := WALL_in (List.mem_append_right _ (List.mem_append_right _ (List.mem_append_right _ (List.mem_append_right _ (List.mem_append_right _ (List.mem_append_right _ (List.mem_append_right _ (List.mem_append_left _ (List.mem_of_getElem? (i := 34) rfl))))))))) rfl
theorem q_1610 : Cond.methodLink RL 124 yX12_setFog ∈ WALL := WALL_in (List.mem_append_right _ (List.mem_append_right _ (List.mem_append_right _ (List.mem_append_right _ (List.mem_append_right _ (List.mem_append_right _ (List.mem_append_right _ (List.mem_append_left _ (List.mem_of_getElem? (i := 35) rfl))))))))) rfl
theorem q_1618 : Cond.codeWith yL_setPrice cL_setPrice 5 (some .int) [((0 : Nat), (10 : Nat), (13 : Nat), (32 : Nat)), ((0 : Nat), (10 : Nat), (17 : Nat), (19 : Nat))] ∈ WALL := WALL_in (List.mem_append_right _ (List.mem_append_right _ (List.mem_append_right _ (List.mem_append_right _ (List.mem_append_right _ (List.mem_append_right _ (List.mem_append_right _ (List.mem_append_left _ (List.mem_of_getElem? (i := 43) rfl))))))))) rfl
theorem q_1619 : Cond.methodLink RL 127 yX12_setPrice ∈ WALL := WALL_in (List.mem_append_right _ (List.mem_append_right _ (List.mem_append_right _ (List.mem_append_right _ (List.mem_append_right _ (List.mem_append_right _ (List.mem_append_right _ (List.mem_append_left _ (List.mem_of_getElem? (i := 44) rfl))))))))) rfl
theorem q_1627 : Cond.codeWith yL_setWell cL_setWell 4 (some .int) [((0 : Nat), (9 : Nat), (12 : Nat), (19 : Nat))] ∈ WALL := WALL_in (List.mem_append_right _ (List.mem_append_right _ (List.mem_append_right _ (List.mem_append_right _ (List.mem_append_right _ (List.mem_append_right _ (List.mem_append_right _ (List.mem_append_left _ (List.mem_of_getElem? (i := 52) rfl))))))))) rfl
theorem q_1628 : Cond.methodLink RL 130 yX12_setWell ∈ WALL := WALL_in (List.mem_append_right _ (List.mem_append_right _ (List.mem_append_right _ (List.mem_append_right _ (List.mem_append_right _ (List.mem_append_right _ (List.mem_append_right _ (List.mem_append_left _ (List.mem_of_getElem? (i := 53) rfl))))))))) rfl
theorem q_1636 : Cond.codeWith yL_pass cL_pass 4 (some .int) [((0 : Nat), (9 : Nat), (12 : Nat), (19 : Nat)), ((0 : Nat), (9 : Nat), (15 : Nat), (13 : Nat))] ∈ WALL := WALL_in (List.mem_append_right _ (List.mem_append_right _ (List.mem_append_right _ (List.mem_append_right _ (List.mem_append_right _ (List.mem_append_right _ (List.mem_append_right _ (List.mem_append_left _ (List.mem_of_getElem? (i := 61) rfl))))))))) rfl
theorem q_1637 : Cond.methodLink RL 133 yX12_pass ∈ WALL := WALL_in (List.mem_append_right _ (List.mem_append_right _ (List.mem_append_right _ (List.mem_append_right _ (List.mem_append_right _ (List.mem_append_right _ (List.mem_append_right _ (List.mem_append_left _ (List.mem_of_getElem? (i := 62) rfl))))))))) rfl
theorem q_1645 : Cond.codeWith yL_undo cL_undo 3 (some .int) [((0 : Nat), (8 : Nat), (11 : Nat), (13 : Nat))] ∈ WALL := WALL_in (List.mem_append_right _ (List.mem_append_right _ (List.mem_append_right _ (List.mem_append_right _ (List.mem_append_right _ (List.mem_append_right _ (List.mem_append_right _ (List.mem_append_left _ (List.mem_of_getElem? (i := 70) rfl))))))))) rfl
theorem q_1646 : Cond.methodLink RL 136 yX12_undo ∈ WALL := WALL_in (List.mem_append_right _ (List.mem_append_right _ (List.mem_append_right _ (List.mem_append_right _ (List.mem_append_right _ (List.mem_append_right _ (List.mem_append_right _ (List.mem_append_left _ (List.mem_of_getElem? (i := 71) rfl))))))))) rfl
theorem q_1656 : Cond.codeWith yL_printReceipt cL_printReceipt 4 (some .int) [((0 : Nat), (9 : Nat), (12 : Nat), (32 : Nat))] ∈ WALL := WALL_in (List.mem_append_right _ (List.mem_append_right _ (List.mem_append_right _ (List.mem_append_right _ (List.mem_append_right _ (List.mem_append_right _ (List.mem_append_right _ (List.mem_append_left _ (List.mem_of_getElem? (i := 81) rfl))))))))) rfl
theorem q_1657 : Cond.methodLink RL 139 yX12_printReceipt ∈ WALL := WALL_in (List.mem_append_right _ (List.mem_append_right _ (List.mem_append_right _ (List.mem_append_right _ (List.mem_append_right _ (List.mem_append_right _ (List.mem_append_right _ (List.mem_append_left _ (List.mem_of_getElem? (i := 82) rfl))))))))) rfl
theorem q_1935 : Cond.codeWith yL_outputByte cL_outputByte 4 (some .int) [((0 : Nat), (9 : Nat), (12 : Nat), (32 : Nat))] ∈ WALL := WALL_in (List.mem_append_right _ (List.mem_append_right _ (List.mem_append_right _ (List.mem_append_right _ (List.mem_append_right _ (List.mem_append_right _ (List.mem_append_right _ (List.mem_append_right _ (List.mem_append_left _ (List.mem_of_getElem? (i := 120) rfl)))))))))) rfl
theorem q_1936 : Cond.methodLink RL 142 yX12_outputByte ∈ WALL := WALL_in (List.mem_append_right _ (List.mem_append_right _ (List.mem_append_right _ (List.mem_append_right _ (List.mem_append_right _ (List.mem_append_right _ (List.mem_append_right _ (List.mem_append_right _ (List.mem_append_left _ (List.mem_of_getElem? (i := 121) rfl)))))))))) rfl
theorem q_1952 : Cond.codeWith yL_restoreState cL_restoreState 3 (some .int) [((0 : Nat), (8 : Nat), (11 : Nat), (13 : Nat))] ∈ WALL := WALL_in (List.mem_append_right _ (List.mem_append_right _ (List.mem_append_right _ (List.mem_append_right _ (List.mem_append_right _ (List.mem_append_right _ (List.mem_append_right _ (List.mem_append_right _ (List.mem_append_left _ (List.mem_of_getElem? (i := 137) rfl)))))))))) rfl
theorem q_1953 : Cond.methodLink RL 145 yX12_restoreState ∈ WALL := WALL_in (List.mem_append_right _ (List.mem_append_right _ (List.mem_append_right _ (List.mem_append_right _ (List.mem_append_right _ (List.mem_append_right _ (List.mem_append_right _ (List.mem_append_right _ (List.mem_append_left _ (List.mem_of_getElem? (i := 138) rfl)))))))))) rfl
/-! THE LAW'S WRAPPERS: a call of the class, its throws told as numbers -/
def NC (U : State) : Prop := va_Nc "java/lang/IllegalArgumentException" "java/lang/IndexOutOfBoundsException" U ∧ va_Nc "java/lang/IllegalStateException" "java/lang/IndexOutOfBoundsException" U ∧ va_Nc "java/lang/IllegalStateException" "java/lang/IllegalArgumentException" U
theorem NC.moved {u U : State} (hvm : u.vm.Alike U.vm) (h : NC u) : NC U := ⟨h.1.moved hvm, h.2.1.moved hvm, h.2.2.moved hvm⟩
def wsW (y : MethodName) (cc : ByteArray) (mL : Nat) (ret : Option FieldType) (hh : List (Nat × Nat × Nat × Nat)) : List Cond := Cond.codeWith y cc mL ret hh :: WALL
def MIW (y : MethodName) (cc : ByteArray) (mL : Nat) (ret : Option FieldType) (hh : List (Nat × Nat × Nat × Nat)) (n : Nat) : Prop := Cond.codeWith y cc mL ret hh ∈ WALL ∧ Cond.initialized y.cls ∈ WALL ∧ plainName y.cls = true ∧ (y.cls ≠ "java/lang/invoke/MethodHandle" ∧ y.cls ≠ "java/lang/invoke/VarHandle" ∧ (parseMethodDescriptor y.desc).map (fun d => d.parameters.length) = some n)
def CTW (G : GG) (l : Launch) (y : MethodName) (cc : ByteArray) (mL : Nat) (ret : Option FieldType) (hh : List (Nat × Nat × Nat × Nat)) (rm : Room) (mc ms : Nat) (av : List Value) (I : Heap → Prop) (P : Option Value → Heap → Prop) : Prop := Met l y (wsW y cc mL ret hh) rm (va_Pc av (fun U => GI G I U ∧ NC U)) (QP G P) mc ms (gA G)
theorem CTW.blind (G : GG) (I : Heap → Prop) (av : List Value) : FrameBlind (va_Pc av (fun U => GI G I U ∧ NC U)) := fun a U g mk h =>
  ⟨h.1, (GI.blind G I av a U g mk ⟨h.1, h.2.1⟩).2, NC.moved (u := U) (U := U.calling g mk _) (Vm.Alike.refl U.vm) h.2.2⟩
theorem CTW.of {G : GG} {l : Launch} {y : MethodName} {cc : ByteArray} {mL n : Nat} {ret : Option FieldType} {hh : List (Nat × Nat × Nat × Nat)} {rm : Room} {mc ms : Nat} {av : List Value} {I : Heap → Prop} {P : Option Value → Heap → Prop} (mi : MIW y cc mL ret hh n) (lc : List (Nat × Value)) (hlc : lv_args 0 av = lc) (hlen : (lg_sl av).length ≤ mL)
    (body : ∀ (p : Program) (e : Env) (s : State) (m : MethodId) (args : Array Value) (below : List Frame) (meth : Method) (c : Code), FX G y.cls cc mL p s m args c → NC s → c.exceptionTable.toList = tableOf hh → meth.sig.returnType = ret → meth.locks = false → J G p l e rm s m args below meth c mL 0 0 (MQ below (QP G P) args s mc ms (gA G)) I 0 lc []) : CTW G l y cc mL ret hh rm mc ms av I P := by
  unfold CTW Met
  refine MetFree.of_bodyS (code := cc) (maxLocals := mL) (ret := ret) mi.2.2.1 ?_ ?_
  · intro args s m h hn
    obtain ⟨m9, meth, c, hn9, h1, h2, h3, h4, -, h5, h6, -⟩ := Cond.codeWith_spec (atoms_spec (ws := wsW y cc mL ret hh) h _ List.mem_cons_self)
    cases hn.symm.trans hn9
    exact ⟨meth, c, h1, h2, h3, h4, h5, h6⟩
  · intro p e s m args below meth c s₁ B hml hv _
    have hh0 : s₁.heap = s.heap := by rw [B.state]; rfl
    obtain ⟨rfl, ⟨hg, hK, hL, hn⟩, ho⟩ := hv
    have hts := atoms_spec (ws := wsW y cc mL ret hh) B.pre
    have hX : FX G y.cls cc mL p s m av.toArray c := ⟨B.exec, B.bytes, hml, findClass_of_methodNamed B.named, fun w hw => hts w (List.mem_cons_of_mem _ hw), hK, hL, hn⟩
    have hl := lv_entry av hlen
    rw [hlc] at hl
    have K : W p l e rm s m av.toArray below meth c s.heap [] 0 0 (MQ below (QP G P) av.toArray s mc ms (gA G)) (entryFrame m av.toArray mL) := by
      rw [lg_entry_eq]
      exact body p e s m av.toArray below meth c hX ho (vx_table (x := y) B (hts _ List.mem_cons_self)) B.returns B.notSynchronized s.heap [] _ hl hg va_S.rf
    obtain ⟨t, a1, o, b1, b2, b3⟩ := K s₁ hh0 (Stand.of_body B)
    exact ⟨t, o, a1, b1, b2, ⟨b3.1, b3.2⟩⟩
section WRAP
variable {G : GG} {own : String} {cc : ByteArray} {p : Program} {l : Launch} {e : Env} {R : Room} {s : State} {m : MethodId} {args : Array Value} {below : List Frame} {meth : Method} {c : Code} {nL cells slots : Nat} {Q : State → Prop} {pc t : Nat} {lc : List (Nat × Value)} {st : List Value} {w : Wd} {r j : Nat}
theorem JT_catch (hX : FX G own cc nL p s m args c) {E name : String} (pre suf : List ExceptionTableEntry) (x : ExceptionTableEntry) (hT : c.exceptionTable.toList = pre ++ x :: suf) (hpass : ∀ z ∈ pre, covers z pc = false ∨ (z.catchType ≠ 0 ∧ ∃ nm : String, (Cond.classLink own z.catchType nm).before args s = true ∧ va_Nc E nm s)) (hcov : covers x pc = true) (h0 : x.catchType ≠ 0) (hlink : Cond.classLink own x.catchType name ∈ WALL) (hcast : (Cond.castable E name).before args s = true)
    (kk : ∀ q : Nat, J G p l e R s m args below meth c nL cells slots Q (GH G w) x.handlerPc lc [.ref q]) : JT G p l e R s m args below meth c nL cells slots Q E w pc lc st := fun H locs ls q ce h1 h2 h3 h4 h5 h6 =>
  vx_catch hX.2.2.2.1 pre x suf hT hpass hcov h0 (hX.2.2.2.2.1 _ hlink) hcast h4 h5 h6 (kk q H locs ls h1 h2 h3)
theorem FX.cast (hX : FX G own cc nL p s m args c) {E : String} (h : (E, E) ∈ castL) : (Cond.castable E E).before args s = true := by
  obtain ⟨-, -, -, -, -, -, -, -, -, -, -, -, h1, -⟩ := hX.G2
  exact va_Nw.use rfl (h1 _ h)
theorem FX.preW (hX : FX G own cc nL p s m args c) (hNC : NC s) {I : Heap → Prop} {H : Heap} {locs : List Loc} (h2 : I H) (h3 : va_S (gA G) s.heap H locs) (U : State) (hU : U.heap = H) (hW : s.WarmedH U.vm) : GI G I U ∧ NC U := ⟨hX.preI h2 h3 U hU hW, hNC.moved hW.alike⟩
theorem J_callSW (hX : FX G own cc nL p s m args c) (hNC : NC s) {I : Heap → Prop} {y : MethodName} {cd : ByteArray} {mL n9 index mc ms : Nat} {ret : Option FieldType} {hh : List (Nat × Nat × Nat × Nat)} {rm : Room} {P : Option Value → Heap → Prop} (As rest : List Value) (hM : CTW G l y cd mL ret hh rm mc ms As I P) (mi : MIW y cd mL ret hh n9) (mv : Cond.static y ∈ WALL) (hw : Cond.methodLink own index y ∈ WALL) (hrm : rm.cells = mc ∧ rm.slots = ms ∧ rm.frames + 1 ≤ R.frames ∧ 8 + (mL + 11) + rm.locals ≤ R.locals) (hn : As.length = n9) (hst : st = As.reverse ++ rest) (hcat : (rest.map fun v => v.category).sum ≤ 8) (hf : cells + mc ≤ R.cells ∧ slots + ms ≤ R.slots)
    (hdg : decode cc pc = .ok (.invokestatic index, 3)) (ht : pc + 3 = t) (kk : ∀ v, J G p l e R s m args below meth c nL (cells + mc) (slots + ms) Q (P v) t lc (v.toList ++ rest)) : J G p l e R s m args below meth c nL cells slots Q I pc lc st := by
  subst ht
  intro H locs ls h1 h2 h3
  have hgood : GoodIn WALL (va_wsS own index y (wsW y cd mL ret hh)) := fun w9 h9 => by
    unfold va_wsS at h9
    rcases List.mem_append.mp h9 with h | h
    · rcases List.mem_cons.mp h with rfl | h
      · exact WALL_good _ hw
      rcases List.mem_cons.mp h with rfl | h
      · exact WALL_good _ mv
      rcases List.mem_cons.mp h with rfl | h
      · exact WALL_good _ mi.2.1
      · cases h
    · rcases List.mem_cons.mp h with rfl | h
      · exact WALL_good _ mi.1
      · exact WALL_good _ h
  exact J_runP (vx_runSW (As := As) (rest := rest) ⟨hX.1, hX.2.1, hX.2.2.1, hX.2.2.2.1, hX.2.2.2.2.1⟩ hM (vx_cwSW n9 hX.2.2.2.2.1 hgood rfl hrm.1 hrm.2.1 mi.2.2.2 hrm.2.2) ⟨CTW.blind G I _, fun U hU hW => ⟨rfl, hX.preW hNC h2 h3 U hU hW⟩⟩ rfl hn h1.1 hst (lv_room hcat) hdg hf) h3 h1 kk
end WRAP
def lwW (K : String → Option Int32) (r : Option (Except (String × Wd) (Int32 × Wd))) : Option (Int32 × Wd) := match r with
  | some (.ok (v, w2)) => some (0, sW w2 16 (sL (w2 16) 0 0 v.toInt64))
  | some (.error (E, w2)) => (match K E with | some k => some (k, w2) | none => none)
  | none => none
def okW {α : Type} (w : Wd) (r : Option (Except (String × Wd) α)) : Option (Except (String × Wd) (α × Wd)) := match r with
  | some (.ok a) => some (.ok (a, w))
  | some (.error e) => some (.error e)
  | none => none
def okZ (r : Option (Except (String × Wd) (Bool × Wd))) : Option (Except (String × Wd) (Int32 × Wd)) := match r with
  | some (.ok (b, w)) => some (.ok (bI b, w))
  | some (.error e) => some (.error e)
  | none => none
theorem lwW_e {K : String → Option Int32} {r : Option (Except (String × Wd) (Int32 × Wd))} {k : Int32} {w3 : Wd} (h : lwW K r = some (k, w3)) : (∃ v w2, r = some (.ok (v, w2)) ∧ 0 = k ∧ sW w2 16 (sL (w2 16) 0 0 v.toInt64) = w3) ∨ (∃ E, r = some (.error (E, w3)) ∧ K E = some k) := by
  match r, h with
  | some (.ok (v, w2)), h => cases h; exact Or.inl ⟨v, w2, rfl, rfl, rfl⟩
  | some (.error (E, w2)), h =>
    have h : (match K E with | some k => some (k, w2) | none => none) = some (k, w3) := h
    cases hk : K E with
    | none => rw [hk] at h; cases h
    | some k2 => rw [hk] at h; cases h; exact Or.inr ⟨E, rfl, hk⟩
theorem okW_o {α : Type} {w w2 : Wd} {r : Option (Except (String × Wd) α)} {a : α} (h : okW w r = some (.ok (a, w2))) : r = some (.ok a) ∧ w = w2 := by
  match r, h with
  | some (.ok b), h => cases h; exact ⟨rfl, rfl⟩
theorem okW_x {α : Type} {w : Wd} {r : Option (Except (String × Wd) α)} {e : String × Wd} (h : okW w r = some (.error e)) : r = some (.error e) := by
  match r, h with
  | some (.error b), h => cases h; rfl
theorem okZ_o {w2 : Wd} {r : Option (Except (String × Wd) (Bool × Wd))} {v : Int32} (h : okZ r = some (.ok (v, w2))) : ∃ b, r = some (.ok (b, w2)) ∧ bI b = v := by
  match r, h with
  | some (.ok (b, w)), h => cases h; exact ⟨b, rfl, rfl⟩
theorem okZ_x {r : Option (Except (String × Wd) (Bool × Wd))} {e : String × Wd} (h : okZ r = some (.error e)) : r = some (.error e) := by
  match r, h with
  | some (.error b), h => cases h; rfl
abbrev rmL_feed : Room := { frames := 8, cells := 1, slots := 6, locals := 135 }
theorem miL_feed : MIW yL_feed cL_feed 8 (some .int) [(0, 16, 19, 13)] 7 := ⟨q_783, q_135, by decide +kernel, by decide +kernel, by decide +kernel, by decide +kernel⟩
def FL_feed (n : Nat) (w : Wd) (p1 : Int32) (p2 : Int32) (p3 : Int32) (p4 : Int32) (p5 : Int32) : Option (Int32 × Wd) := lwW (fun E => if E = "java/lang/IllegalStateException" then some 1 else none) (FX12_feed n w p1 p2 p3 p4 p5)
set_option maxHeartbeats 4000000 in
theorem ctL_feed {G : GG} {l : Launch} (hl : l.stackTraces = false) (w : Wd) (p1 : Int32) (p2 : Int32) (p3 : Int32) (p4 : Int32) (p5 : Int32) (n : Nat) {k : Int32} {w3 : Wd} (hF : FL_feed n w p1 p2 p3 p4 p5 = some (k, w3)) : CTW G l yL_feed cL_feed 8 (some .int) [(0, 16, 19, 13)] rmL_feed 1 6 [.ref (adr G 0 0), .int p1, .int p2, .int p3, .int p4, .int p5, .ref (adr G 16 0)] (GH G w) (fun v H => v = some (.int k) ∧ GH G w3 H) := by
  refine CTW.of miL_feed [(0, .ref (adr G 0 0)), (1, .int p1), (2, .int p2), (3, .int p3), (4, .int p4), (5, .int p5), (6, .ref (adr G 16 0))] rfl (Nat.le_of_ble_eq_true rfl) ?_
  intro p e s m args below meth c hX hNC hT hR hlk
  have hX : FX G RL cL_feed 8 p s m args c := hX
  unfold FL_feed at hF
  refine J_aload hX dL_feed_0 6 rfl (t := 2) rfl ?_
  refine J_iconst (v := 0) hX dL_feed_2 (by decide) (t := 3) rfl ?_
  refine J_aload_n hX dL_feed_3 0 rfl (t := 4) rfl ?_
  refine J_iload_n hX dL_feed_4 1 rfl (t := 5) rfl ?_
  refine J_iload_n hX dL_feed_5 2 rfl (t := 6) rfl ?_
  refine J_iload_n hX dL_feed_6 3 rfl (t := 7) rfl ?_
  refine J_iload hX dL_feed_7 4 rfl (t := 9) rfl ?_
  refine J_iload hX dL_feed_9 5 rfl (t := 11) rfl ?_
  rcases lwW_e hF with ⟨v, w2, hr, hk, hw3⟩ | ⟨E, hr, hK⟩
  · subst hk
    subst hw3
    refine J_callV hX [.int p1, .int p2, .int p3, .int p4, .int p5] [.int 0, .ref (adr G 16 0)] [.int v, .int 0, .ref (adr G 16 0)] (ctX12_feed (G := G) (l := l) w p1 p2 p3 p4 p5 n hr) miX12_feed mvX12_feed cb9 kEcho q_785 ⟨rfl, rfl, Nat.le_of_ble_eq_true rfl, Nat.le_of_ble_eq_true rfl⟩ rfl rfl (Nat.le_of_ble_eq_true rfl) ⟨Nat.le_of_ble_eq_true rfl, Nat.le_of_ble_eq_true rfl⟩ dL_feed_11 (t := 14) rfl rfl ?_
    refine J_i2l hX dL_feed_14 (t := 15) rfl ?_
    refine J_last (w2 := sW w2 16 (sL (w2 16) 0 0 v.toInt64)) (k9 := 0) hX kOut (by decide) rfl rfl dL_feed_15 (t := 16) rfl ?_
    refine J_goto (tgt := 23) hX dL_feed_16 (by decide) ?_
    refine J_iconst (v := 0) hX dL_feed_23 (by decide) (t := 24) rfl ?_
    refine J_wid (k := 1) (n := 6) (by decide) (by decide) ?_
    exact J_iretP hX hR hlk (fun H h => ⟨rfl, h⟩) dL_feed_24
  · skip
    by_cases e0 : E = "java/lang/IllegalStateException"
    · subst e0
      cases hK
      refine J_callVT hX [.int p1, .int p2, .int p3, .int p4, .int p5] [.int 0, .ref (adr G 16 0)] (ceX12_feed (G := G) (l := l) hl w p1 p2 p3 p4 p5 n hr) miX12_feed mvX12_feed cb9 kEcho q_785 ⟨rfl, rfl, Nat.le_of_ble_eq_true rfl, Nat.le_of_ble_eq_true rfl⟩ rfl rfl (Nat.le_of_ble_eq_true rfl) ⟨Nat.le_of_ble_eq_true rfl, Nat.le_of_ble_eq_true rfl⟩ dL_feed_11 ?_
      refine JT_catch hX (name := "java/lang/IllegalStateException") [] _ _ hT (fun z hz => absurd hz List.not_mem_nil) (by decide) (by decide) q_784 (hX.cast (by simp [castL])) (fun q => ?_)
      refine J_astore (lc2 := [(7, .ref q), (0, .ref (adr G 0 0)), (1, .int p1), (2, .int p2), (3, .int p3), (4, .int p4), (5, .int p5), (6, .ref (adr G 16 0))]) hX dL_feed_19 (Nat.le_of_ble_eq_true rfl) rfl (t := 21) rfl ?_
      refine J_iconst (v := 1) hX dL_feed_21 (by decide) (t := 22) rfl ?_
      refine J_wid (k := 1) (n := 6) (by decide) (by decide) ?_
      exact J_iretP hX hR hlk (fun H h => ⟨rfl, h⟩) dL_feed_22
    replace hK := it_f hK e0
    cases hK
abbrev rmL_truncate : Room := { frames := 8, cells := 1, slots := 6, locals := 131 }
theorem miL_truncate : MIW yL_truncate cL_truncate 4 (some .int) [(0, 9, 12, 19)] 3 := ⟨q_867, q_135, by decide +kernel, by decide +kernel, by decide +kernel, by decide +kernel⟩
def FL_truncate (w : Wd) (p1 : Int32) : Option (Int32 × Wd) := lwW (fun E => if E = "java/lang/IllegalArgumentException" then some 1 else none) (FX12_truncate w p1)
set_option maxHeartbeats 4000000 in
theorem ctL_truncate {G : GG} {l : Launch} (hl : l.stackTraces = false) (w : Wd) (p1 : Int32) {k : Int32} {w3 : Wd} (hF : FL_truncate w p1 = some (k, w3)) : CTW G l yL_truncate cL_truncate 4 (some .int) [(0, 9, 12, 19)] rmL_truncate 1 6 [.ref (adr G 0 0), .int p1, .ref (adr G 16 0)] (GH G w) (fun v H => v = some (.int k) ∧ GH G w3 H) := by
  refine CTW.of miL_truncate [(0, .ref (adr G 0 0)), (1, .int p1), (2, .ref (adr G 16 0))] rfl (Nat.le_of_ble_eq_true rfl) ?_
  intro p e s m args below meth c hX hNC hT hR hlk
  have hX : FX G RL cL_truncate 4 p s m args c := hX
  unfold FL_truncate at hF
  refine J_aload_n hX dL_truncate_0 2 rfl (t := 1) rfl ?_
  refine J_iconst (v := 0) hX dL_truncate_1 (by decide) (t := 2) rfl ?_
  refine J_aload_n hX dL_truncate_2 0 rfl (t := 3) rfl ?_
  refine J_iload_n hX dL_truncate_3 1 rfl (t := 4) rfl ?_
  rcases lwW_e hF with ⟨v, w2, hr, hk, hw3⟩ | ⟨E, hr, hK⟩
  · subst hk
    subst hw3
    refine J_callV hX [.int p1] [.int 0, .ref (adr G 16 0)] [.int v, .int 0, .ref (adr G 16 0)] (ctX12_truncate (G := G) (l := l) w p1 hr) miX12_truncate mvX12_truncate cb9 kEcho q_869 ⟨rfl, rfl, Nat.le_of_ble_eq_true rfl, Nat.le_of_ble_eq_true rfl⟩ rfl rfl (Nat.le_of_ble_eq_true rfl) ⟨Nat.le_of_ble_eq_true rfl, Nat.le_of_ble_eq_true rfl⟩ dL_truncate_4 (t := 7) rfl rfl ?_
    refine J_i2l hX dL_truncate_7 (t := 8) rfl ?_
    refine J_last (w2 := sW w2 16 (sL (w2 16) 0 0 v.toInt64)) (k9 := 0) hX kOut (by decide) rfl rfl dL_truncate_8 (t := 9) rfl ?_
    refine J_goto (tgt := 15) hX dL_truncate_9 (by decide) ?_
    refine J_iconst (v := 0) hX dL_truncate_15 (by decide) (t := 16) rfl ?_
    refine J_wid (k := 1) (n := 6) (by decide) (by decide) ?_
    exact J_iretP hX hR hlk (fun H h => ⟨rfl, h⟩) dL_truncate_16
  · skip
    by_cases e0 : E = "java/lang/IllegalArgumentException"
    · subst e0
      cases hK
      refine J_callVT hX [.int p1] [.int 0, .ref (adr G 16 0)] (ceX12_truncate (G := G) (l := l) hl w p1 hr) miX12_truncate mvX12_truncate cb9 kEcho q_869 ⟨rfl, rfl, Nat.le_of_ble_eq_true rfl, Nat.le_of_ble_eq_true rfl⟩ rfl rfl (Nat.le_of_ble_eq_true rfl) ⟨Nat.le_of_ble_eq_true rfl, Nat.le_of_ble_eq_true rfl⟩ dL_truncate_4 ?_
      refine JT_catch hX (name := "java/lang/IllegalArgumentException") [] _ _ hT (fun z hz => absurd hz List.not_mem_nil) (by decide) (by decide) q_868 (hX.cast (by simp [castL])) (fun q => ?_)
      refine J_astore_n (lc2 := [(3, .ref q), (0, .ref (adr G 0 0)), (1, .int p1), (2, .ref (adr G 16 0))]) hX dL_truncate_12 rfl (Nat.le_of_ble_eq_true rfl) rfl (t := 13) rfl ?_
      refine J_iconst (v := 1) hX dL_truncate_13 (by decide) (t := 14) rfl ?_
      refine J_wid (k := 1) (n := 6) (by decide) (by decide) ?_
      exact J_iretP hX hR hlk (fun H h => ⟨rfl, h⟩) dL_truncate_14
    replace hK := it_f hK e0
    cases hK
abbrev rmL_readText : Room := { frames := 9, cells := 1, slots := 6, locals := 314 }
theorem miL_readText : MIW yL_readText cL_readText 3 (some .int) [(0, 8, 11, 19)] 2 := ⟨q_895, q_135, by decide +kernel, by decide +kernel, by decide +kernel, by decide +kernel⟩
def FL_readText (n : Nat) (w : Wd)  : Option (Int32 × Wd) := lwW (fun E => if E = "java/lang/IllegalArgumentException" then some 1 else none) (FX12_readText n w)
set_option maxHeartbeats 4000000 in
theorem ctL_readText {G : GG} {l : Launch} (hl : l.stackTraces = false) (w : Wd)  (n : Nat) {k : Int32} {w3 : Wd} (hF : FL_readText n w  = some (k, w3)) : CTW G l yL_readText cL_readText 3 (some .int) [(0, 8, 11, 19)] rmL_readText 1 6 [.ref (adr G 0 0), .ref (adr G 16 0)] (GH G w) (fun v H => v = some (.int k) ∧ GH G w3 H) := by
  refine CTW.of miL_readText [(0, .ref (adr G 0 0)), (1, .ref (adr G 16 0))] rfl (Nat.le_of_ble_eq_true rfl) ?_
  intro p e s m args below meth c hX hNC hT hR hlk
  have hX : FX G RL cL_readText 3 p s m args c := hX
  unfold FL_readText at hF
  refine J_aload_n hX dL_readText_0 1 rfl (t := 1) rfl ?_
  refine J_iconst (v := 0) hX dL_readText_1 (by decide) (t := 2) rfl ?_
  refine J_aload_n hX dL_readText_2 0 rfl (t := 3) rfl ?_
  rcases lwW_e hF with ⟨v, w2, hr, hk, hw3⟩ | ⟨E, hr, hK⟩
  · subst hk
    subst hw3
    refine J_callV hX [] [.int 0, .ref (adr G 16 0)] [.int v, .int 0, .ref (adr G 16 0)] (ctX12_readText (G := G) (l := l) w  n hr) miX12_readText mvX12_readText cb9 kEcho q_896 ⟨rfl, rfl, Nat.le_of_ble_eq_true rfl, Nat.le_of_ble_eq_true rfl⟩ rfl rfl (Nat.le_of_ble_eq_true rfl) ⟨Nat.le_of_ble_eq_true rfl, Nat.le_of_ble_eq_true rfl⟩ dL_readText_3 (t := 6) rfl rfl ?_
    refine J_i2l hX dL_readText_6 (t := 7) rfl ?_
    refine J_last (w2 := sW w2 16 (sL (w2 16) 0 0 v.toInt64)) (k9 := 0) hX kOut (by decide) rfl rfl dL_readText_7 (t := 8) rfl ?_
    refine J_goto (tgt := 14) hX dL_readText_8 (by decide) ?_
    refine J_iconst (v := 0) hX dL_readText_14 (by decide) (t := 15) rfl ?_
    refine J_wid (k := 1) (n := 6) (by decide) (by decide) ?_
    exact J_iretP hX hR hlk (fun H h => ⟨rfl, h⟩) dL_readText_15
  · skip
    by_cases e0 : E = "java/lang/IllegalArgumentException"
    · subst e0
      cases hK
      refine J_callVT hX [] [.int 0, .ref (adr G 16 0)] (ceX12_readText (G := G) (l := l) hl w  n hr) miX12_readText mvX12_readText cb9 kEcho q_896 ⟨rfl, rfl, Nat.le_of_ble_eq_true rfl, Nat.le_of_ble_eq_true rfl⟩ rfl rfl (Nat.le_of_ble_eq_true rfl) ⟨Nat.le_of_ble_eq_true rfl, Nat.le_of_ble_eq_true rfl⟩ dL_readText_3 ?_
      refine JT_catch hX (name := "java/lang/IllegalArgumentException") [] _ _ hT (fun z hz => absurd hz List.not_mem_nil) (by decide) (by decide) q_868 (hX.cast (by simp [castL])) (fun q => ?_)
      refine J_astore_n (lc2 := [(2, .ref q), (0, .ref (adr G 0 0)), (1, .ref (adr G 16 0))]) hX dL_readText_11 rfl (Nat.le_of_ble_eq_true rfl) rfl (t := 12) rfl ?_
      refine J_iconst (v := 1) hX dL_readText_12 (by decide) (t := 13) rfl ?_
      refine J_wid (k := 1) (n := 6) (by decide) (by decide) ?_
      exact J_iretP hX hR hlk (fun H h => ⟨rfl, h⟩) dL_readText_13
    replace hK := it_f hK e0
    cases hK
abbrev rmL_runScript : Room := { frames := 9, cells := 1, slots := 6, locals := 316 }
theorem miL_runScript : MIW yL_runScript cL_runScript 3 (some .int) [(0, 8, 11, 19)] 2 := ⟨q_1221, q_135, by decide +kernel, by decide +kernel, by decide +kernel, by decide +kernel⟩
def FL_runScript (n : Nat) (w : Wd)  : Option (Int32 × Wd) := lwW (fun E => if E = "java/lang/IllegalArgumentException" then some 1 else none) (FX12_runScript n w)
set_option maxHeartbeats 4000000 in
theorem ctL_runScript {G : GG} {l : Launch} (hl : l.stackTraces = false) (w : Wd)  (n : Nat) {k : Int32} {w3 : Wd} (hF : FL_runScript n w  = some (k, w3)) : CTW G l yL_runScript cL_runScript 3 (some .int) [(0, 8, 11, 19)] rmL_runScript 1 6 [.ref (adr G 0 0), .ref (adr G 16 0)] (GH G w) (fun v H => v = some (.int k) ∧ GH G w3 H) := by
  refine CTW.of miL_runScript [(0, .ref (adr G 0 0)), (1, .ref (adr G 16 0))] rfl (Nat.le_of_ble_eq_true rfl) ?_
  intro p e s m args below meth c hX hNC hT hR hlk
  have hX : FX G RL cL_runScript 3 p s m args c := hX
  unfold FL_runScript at hF
  refine J_aload_n hX dL_runScript_0 1 rfl (t := 1) rfl ?_
  refine J_iconst (v := 0) hX dL_runScript_1 (by decide) (t := 2) rfl ?_
  refine J_aload_n hX dL_runScript_2 0 rfl (t := 3) rfl ?_
  rcases lwW_e hF with ⟨v, w2, hr, hk, hw3⟩ | ⟨E, hr, hK⟩
  · subst hk
    subst hw3
    refine J_callV hX [] [.int 0, .ref (adr G 16 0)] [.int v, .int 0, .ref (adr G 16 0)] (ctX12_runScript (G := G) (l := l) w  n hr) miX12_runScript mvX12_runScript cb9 kEcho q_1222 ⟨rfl, rfl, Nat.le_of_ble_eq_true rfl, Nat.le_of_ble_eq_true rfl⟩ rfl rfl (Nat.le_of_ble_eq_true rfl) ⟨Nat.le_of_ble_eq_true rfl, Nat.le_of_ble_eq_true rfl⟩ dL_runScript_3 (t := 6) rfl rfl ?_
    refine J_i2l hX dL_runScript_6 (t := 7) rfl ?_
    refine J_last (w2 := sW w2 16 (sL (w2 16) 0 0 v.toInt64)) (k9 := 0) hX kOut (by decide) rfl rfl dL_runScript_7 (t := 8) rfl ?_
    refine J_goto (tgt := 14) hX dL_runScript_8 (by decide) ?_
    refine J_iconst (v := 0) hX dL_runScript_14 (by decide) (t := 15) rfl ?_
    refine J_wid (k := 1) (n := 6) (by decide) (by decide) ?_
    exact J_iretP hX hR hlk (fun H h => ⟨rfl, h⟩) dL_runScript_15
  · skip
    by_cases e0 : E = "java/lang/IllegalArgumentException"
    · subst e0
      cases hK
      refine J_callVT hX [] [.int 0, .ref (adr G 16 0)] (ceX12_runScript (G := G) (l := l) hl w  n hr) miX12_runScript mvX12_runScript cb9 kEcho q_1222 ⟨rfl, rfl, Nat.le_of_ble_eq_true rfl, Nat.le_of_ble_eq_true rfl⟩ rfl rfl (Nat.le_of_ble_eq_true rfl) ⟨Nat.le_of_ble_eq_true rfl, Nat.le_of_ble_eq_true rfl⟩ dL_runScript_3 ?_
      refine JT_catch hX (name := "java/lang/IllegalArgumentException") [] _ _ hT (fun z hz => absurd hz List.not_mem_nil) (by decide) (by decide) q_868 (hX.cast (by simp [castL])) (fun q => ?_)
      refine J_astore_n (lc2 := [(2, .ref q), (0, .ref (adr G 0 0)), (1, .ref (adr G 16 0))]) hX dL_runScript_11 rfl (Nat.le_of_ble_eq_true rfl) rfl (t := 12) rfl ?_
      refine J_iconst (v := 1) hX dL_runScript_12 (by decide) (t := 13) rfl ?_
      refine J_wid (k := 1) (n := 6) (by decide) (by decide) ?_
      exact J_iretP hX hR hlk (fun H h => ⟨rfl, h⟩) dL_runScript_13
    replace hK := it_f hK e0
    cases hK
abbrev rmL_valleyByte : Room := { frames := 9, cells := 1, slots := 6, locals := 153 }
theorem miL_valleyByte : MIW yL_valleyByte cL_valleyByte 5 (some .int) [(0, 10, 13, 32)] 4 := ⟨q_1314, q_135, by decide +kernel, by decide +kernel, by decide +kernel, by decide +kernel⟩
def FL_valleyByte (w : Wd) (p1 : Int32) (p2 : Int32) : Option (Int32 × Wd) := lwW (fun E => if E = "java/lang/IndexOutOfBoundsException" then some 1 else none) (okW w (FX12_valleyByte w p1 p2))
set_option maxHeartbeats 4000000 in
theorem ctL_valleyByte {G : GG} {l : Launch} (hl : l.stackTraces = false) (w : Wd) (p1 : Int32) (p2 : Int32) {k : Int32} {w3 : Wd} (hF : FL_valleyByte w p1 p2 = some (k, w3)) : CTW G l yL_valleyByte cL_valleyByte 5 (some .int) [(0, 10, 13, 32)] rmL_valleyByte 1 6 [.ref (adr G 0 0), .int p1, .int p2, .ref (adr G 16 0)] (GH G w) (fun v H => v = some (.int k) ∧ GH G w3 H) := by
  refine CTW.of miL_valleyByte [(0, .ref (adr G 0 0)), (1, .int p1), (2, .int p2), (3, .ref (adr G 16 0))] rfl (Nat.le_of_ble_eq_true rfl) ?_
  intro p e s m args below meth c hX hNC hT hR hlk
  have hX : FX G RL cL_valleyByte 5 p s m args c := hX
  unfold FL_valleyByte at hF
  refine J_aload_n hX dL_valleyByte_0 3 rfl (t := 1) rfl ?_
  refine J_iconst (v := 0) hX dL_valleyByte_1 (by decide) (t := 2) rfl ?_
  refine J_aload_n hX dL_valleyByte_2 0 rfl (t := 3) rfl ?_
  refine J_iload_n hX dL_valleyByte_3 1 rfl (t := 4) rfl ?_
  refine J_iload_n hX dL_valleyByte_4 2 rfl (t := 5) rfl ?_
  rcases lwW_e hF with ⟨v, w2, hr, hk, hw3⟩ | ⟨E, hr, hK⟩
  · subst hk
    subst hw3
    obtain ⟨hr9, hw⟩ := okW_o hr
    subst hw
    replace hr := hr9
    refine J_callV hX [.int p1, .int p2] [.int 0, .ref (adr G 16 0)] [.int v, .int 0, .ref (adr G 16 0)] (ctX12_valleyByte (G := G) (l := l) w p1 p2 hr) miX12_valleyByte mvX12_valleyByte cb9 kEcho q_1316 ⟨rfl, rfl, Nat.le_of_ble_eq_true rfl, Nat.le_of_ble_eq_true rfl⟩ rfl rfl (Nat.le_of_ble_eq_true rfl) ⟨Nat.le_of_ble_eq_true rfl, Nat.le_of_ble_eq_true rfl⟩ dL_valleyByte_5 (t := 8) rfl rfl ?_
    refine J_i2l hX dL_valleyByte_8 (t := 9) rfl ?_
    refine J_last (w2 := sW w 16 (sL (w 16) 0 0 v.toInt64)) (k9 := 0) hX kOut (by decide) rfl rfl dL_valleyByte_9 (t := 10) rfl ?_
    refine J_goto (tgt := 17) hX dL_valleyByte_10 (by decide) ?_
    refine J_iconst (v := 0) hX dL_valleyByte_17 (by decide) (t := 18) rfl ?_
    refine J_wid (k := 1) (n := 6) (by decide) (by decide) ?_
    exact J_iretP hX hR hlk (fun H h => ⟨rfl, h⟩) dL_valleyByte_18
  · replace hr := okW_x hr
    by_cases e0 : E = "java/lang/IndexOutOfBoundsException"
    · subst e0
      cases hK
      refine J_callVT hX [.int p1, .int p2] [.int 0, .ref (adr G 16 0)] (ceX12_valleyByte (G := G) (l := l) hl w p1 p2 hr) miX12_valleyByte mvX12_valleyByte cb9 kEcho q_1316 ⟨rfl, rfl, Nat.le_of_ble_eq_true rfl, Nat.le_of_ble_eq_true rfl⟩ rfl rfl (Nat.le_of_ble_eq_true rfl) ⟨Nat.le_of_ble_eq_true rfl, Nat.le_of_ble_eq_true rfl⟩ dL_valleyByte_5 ?_
      refine JT_catch hX (name := "java/lang/IndexOutOfBoundsException") [] _ _ hT (fun z hz => absurd hz List.not_mem_nil) (by decide) (by decide) q_1315 (hX.cast (by simp [castL])) (fun q => ?_)
      refine J_astore (lc2 := [(4, .ref q), (0, .ref (adr G 0 0)), (1, .int p1), (2, .int p2), (3, .ref (adr G 16 0))]) hX dL_valleyByte_13 (Nat.le_of_ble_eq_true rfl) rfl (t := 15) rfl ?_
      refine J_iconst (v := 1) hX dL_valleyByte_15 (by decide) (t := 16) rfl ?_
      refine J_wid (k := 1) (n := 6) (by decide) (by decide) ?_
      exact J_iretP hX hR hlk (fun H h => ⟨rfl, h⟩) dL_valleyByte_16
    replace hK := it_f hK e0
    cases hK
abbrev rmL_width : Room := { frames := 9, cells := 1, slots := 6, locals := 152 }
theorem miL_width : MIW yL_width cL_width 4 (some .int) [(0, 9, 12, 32)] 3 := ⟨q_1347, q_135, by decide +kernel, by decide +kernel, by decide +kernel, by decide +kernel⟩
def FL_width (w : Wd) (p1 : Int32) : Option (Int32 × Wd) := lwW (fun E => if E = "java/lang/IndexOutOfBoundsException" then some 1 else none) (okW w (FX12_width w p1))
set_option maxHeartbeats 4000000 in
theorem ctL_width {G : GG} {l : Launch} (hl : l.stackTraces = false) (w : Wd) (p1 : Int32) {k : Int32} {w3 : Wd} (hF : FL_width w p1 = some (k, w3)) : CTW G l yL_width cL_width 4 (some .int) [(0, 9, 12, 32)] rmL_width 1 6 [.ref (adr G 0 0), .int p1, .ref (adr G 16 0)] (GH G w) (fun v H => v = some (.int k) ∧ GH G w3 H) := by
  refine CTW.of miL_width [(0, .ref (adr G 0 0)), (1, .int p1), (2, .ref (adr G 16 0))] rfl (Nat.le_of_ble_eq_true rfl) ?_
  intro p e s m args below meth c hX hNC hT hR hlk
  have hX : FX G RL cL_width 4 p s m args c := hX
  unfold FL_width at hF
  refine J_aload_n hX dL_width_0 2 rfl (t := 1) rfl ?_
  refine J_iconst (v := 0) hX dL_width_1 (by decide) (t := 2) rfl ?_
  refine J_aload_n hX dL_width_2 0 rfl (t := 3) rfl ?_
  refine J_iload_n hX dL_width_3 1 rfl (t := 4) rfl ?_
  rcases lwW_e hF with ⟨v, w2, hr, hk, hw3⟩ | ⟨E, hr, hK⟩
  · subst hk
    subst hw3
    obtain ⟨hr9, hw⟩ := okW_o hr
    subst hw
    replace hr := hr9
    refine J_callV hX [.int p1] [.int 0, .ref (adr G 16 0)] [.int v, .int 0, .ref (adr G 16 0)] (ctX12_width (G := G) (l := l) w p1 hr) miX12_width mvX12_width cb9 kEcho q_1348 ⟨rfl, rfl, Nat.le_of_ble_eq_true rfl, Nat.le_of_ble_eq_true rfl⟩ rfl rfl (Nat.le_of_ble_eq_true rfl) ⟨Nat.le_of_ble_eq_true rfl, Nat.le_of_ble_eq_true rfl⟩ dL_width_4 (t := 7) rfl rfl ?_
    refine J_i2l hX dL_width_7 (t := 8) rfl ?_
    refine J_last (w2 := sW w 16 (sL (w 16) 0 0 v.toInt64)) (k9 := 0) hX kOut (by decide) rfl rfl dL_width_8 (t := 9) rfl ?_
    refine J_goto (tgt := 15) hX dL_width_9 (by decide) ?_
    refine J_iconst (v := 0) hX dL_width_15 (by decide) (t := 16) rfl ?_
    refine J_wid (k := 1) (n := 6) (by decide) (by decide) ?_
    exact J_iretP hX hR hlk (fun H h => ⟨rfl, h⟩) dL_width_16
  · replace hr := okW_x hr
    by_cases e0 : E = "java/lang/IndexOutOfBoundsException"
    · subst e0
      cases hK
      refine J_callVT hX [.int p1] [.int 0, .ref (adr G 16 0)] (ceX12_width (G := G) (l := l) hl w p1 hr) miX12_width mvX12_width cb9 kEcho q_1348 ⟨rfl, rfl, Nat.le_of_ble_eq_true rfl, Nat.le_of_ble_eq_true rfl⟩ rfl rfl (Nat.le_of_ble_eq_true rfl) ⟨Nat.le_of_ble_eq_true rfl, Nat.le_of_ble_eq_true rfl⟩ dL_width_4 ?_
      refine JT_catch hX (name := "java/lang/IndexOutOfBoundsException") [] _ _ hT (fun z hz => absurd hz List.not_mem_nil) (by decide) (by decide) q_1315 (hX.cast (by simp [castL])) (fun q => ?_)
      refine J_astore_n (lc2 := [(3, .ref q), (0, .ref (adr G 0 0)), (1, .int p1), (2, .ref (adr G 16 0))]) hX dL_width_12 rfl (Nat.le_of_ble_eq_true rfl) rfl (t := 13) rfl ?_
      refine J_iconst (v := 1) hX dL_width_13 (by decide) (t := 14) rfl ?_
      refine J_wid (k := 1) (n := 6) (by decide) (by decide) ?_
      exact J_iretP hX hR hlk (fun H h => ⟨rfl, h⟩) dL_width_14
    replace hK := it_f hK e0
    cases hK
abbrev rmL_walls : Room := { frames := 9, cells := 1, slots := 6, locals := 152 }
theorem miL_walls : MIW yL_walls cL_walls 4 (some .int) [(0, 9, 12, 32)] 3 := ⟨q_1354, q_135, by decide +kernel, by decide +kernel, by decide +kernel, by decide +kernel⟩
def FL_walls (w : Wd) (p1 : Int32) : Option (Int32 × Wd) := lwW (fun E => if E = "java/lang/IndexOutOfBoundsException" then some 1 else none) (okW w (FX12_walls w p1))
set_option maxHeartbeats 4000000 in
theorem ctL_walls {G : GG} {l : Launch} (hl : l.stackTraces = false) (w : Wd) (p1 : Int32) {k : Int32} {w3 : Wd} (hF : FL_walls w p1 = some (k, w3)) : CTW G l yL_walls cL_walls 4 (some .int) [(0, 9, 12, 32)] rmL_walls 1 6 [.ref (adr G 0 0), .int p1, .ref (adr G 16 0)] (GH G w) (fun v H => v = some (.int k) ∧ GH G w3 H) := by
  refine CTW.of miL_walls [(0, .ref (adr G 0 0)), (1, .int p1), (2, .ref (adr G 16 0))] rfl (Nat.le_of_ble_eq_true rfl) ?_
  intro p e s m args below meth c hX hNC hT hR hlk
  have hX : FX G RL cL_walls 4 p s m args c := hX
  unfold FL_walls at hF
  refine J_aload_n hX dL_walls_0 2 rfl (t := 1) rfl ?_
  refine J_iconst (v := 0) hX dL_walls_1 (by decide) (t := 2) rfl ?_
  refine J_aload_n hX dL_walls_2 0 rfl (t := 3) rfl ?_
  refine J_iload_n hX dL_walls_3 1 rfl (t := 4) rfl ?_
  rcases lwW_e hF with ⟨v, w2, hr, hk, hw3⟩ | ⟨E, hr, hK⟩
  · subst hk
    subst hw3
    obtain ⟨hr9, hw⟩ := okW_o hr
    subst hw
    replace hr := hr9
    refine J_callV hX [.int p1] [.int 0, .ref (adr G 16 0)] [.int v, .int 0, .ref (adr G 16 0)] (ctX12_walls (G := G) (l := l) w p1 hr) miX12_walls mvX12_walls cb9 kEcho q_1355 ⟨rfl, rfl, Nat.le_of_ble_eq_true rfl, Nat.le_of_ble_eq_true rfl⟩ rfl rfl (Nat.le_of_ble_eq_true rfl) ⟨Nat.le_of_ble_eq_true rfl, Nat.le_of_ble_eq_true rfl⟩ dL_walls_4 (t := 7) rfl rfl ?_
    refine J_i2l hX dL_walls_7 (t := 8) rfl ?_
    refine J_last (w2 := sW w 16 (sL (w 16) 0 0 v.toInt64)) (k9 := 0) hX kOut (by decide) rfl rfl dL_walls_8 (t := 9) rfl ?_
    refine J_goto (tgt := 15) hX dL_walls_9 (by decide) ?_
    refine J_iconst (v := 0) hX dL_walls_15 (by decide) (t := 16) rfl ?_
    refine J_wid (k := 1) (n := 6) (by decide) (by decide) ?_
    exact J_iretP hX hR hlk (fun H h => ⟨rfl, h⟩) dL_walls_16
  · replace hr := okW_x hr
    by_cases e0 : E = "java/lang/IndexOutOfBoundsException"
    · subst e0
      cases hK
      refine J_callVT hX [.int p1] [.int 0, .ref (adr G 16 0)] (ceX12_walls (G := G) (l := l) hl w p1 hr) miX12_walls mvX12_walls cb9 kEcho q_1355 ⟨rfl, rfl, Nat.le_of_ble_eq_true rfl, Nat.le_of_ble_eq_true rfl⟩ rfl rfl (Nat.le_of_ble_eq_true rfl) ⟨Nat.le_of_ble_eq_true rfl, Nat.le_of_ble_eq_true rfl⟩ dL_walls_4 ?_
      refine JT_catch hX (name := "java/lang/IndexOutOfBoundsException") [] _ _ hT (fun z hz => absurd hz List.not_mem_nil) (by decide) (by decide) q_1315 (hX.cast (by simp [castL])) (fun q => ?_)
      refine J_astore_n (lc2 := [(3, .ref q), (0, .ref (adr G 0 0)), (1, .int p1), (2, .ref (adr G 16 0))]) hX dL_walls_12 rfl (Nat.le_of_ble_eq_true rfl) rfl (t := 13) rfl ?_
      refine J_iconst (v := 1) hX dL_walls_13 (by decide) (t := 14) rfl ?_
      refine J_wid (k := 1) (n := 6) (by decide) (by decide) ?_
      exact J_iretP hX hR hlk (fun H h => ⟨rfl, h⟩) dL_walls_14
    replace hK := it_f hK e0
    cases hK
abbrev rmL_price : Room := { frames := 9, cells := 1, slots := 6, locals := 152 }
theorem miL_price : MIW yL_price cL_price 4 (some .int) [(0, 9, 12, 32)] 3 := ⟨q_1361, q_135, by decide +kernel, by decide +kernel, by decide +kernel, by decide +kernel⟩
def FL_price (w : Wd) (p1 : Int32) : Option (Int32 × Wd) := lwW (fun E => if E = "java/lang/IndexOutOfBoundsException" then some 1 else none) (okW w (FX12_price w p1))
set_option maxHeartbeats 4000000 in
theorem ctL_price {G : GG} {l : Launch} (hl : l.stackTraces = false) (w : Wd) (p1 : Int32) {k : Int32} {w3 : Wd} (hF : FL_price w p1 = some (k, w3)) : CTW G l yL_price cL_price 4 (some .int) [(0, 9, 12, 32)] rmL_price 1 6 [.ref (adr G 0 0), .int p1, .ref (adr G 16 0)] (GH G w) (fun v H => v = some (.int k) ∧ GH G w3 H) := by
  refine CTW.of miL_price [(0, .ref (adr G 0 0)), (1, .int p1), (2, .ref (adr G 16 0))] rfl (Nat.le_of_ble_eq_true rfl) ?_
  intro p e s m args below meth c hX hNC hT hR hlk
  have hX : FX G RL cL_price 4 p s m args c := hX
  unfold FL_price at hF
  refine J_aload_n hX dL_price_0 2 rfl (t := 1) rfl ?_
  refine J_iconst (v := 0) hX dL_price_1 (by decide) (t := 2) rfl ?_
  refine J_aload_n hX dL_price_2 0 rfl (t := 3) rfl ?_
  refine J_iload_n hX dL_price_3 1 rfl (t := 4) rfl ?_
  rcases lwW_e hF with ⟨v, w2, hr, hk, hw3⟩ | ⟨E, hr, hK⟩
  · subst hk
    subst hw3
    obtain ⟨hr9, hw⟩ := okW_o hr
    subst hw
    replace hr := hr9
    refine J_callV hX [.int p1] [.int 0, .ref (adr G 16 0)] [.int v, .int 0, .ref (adr G 16 0)] (ctX12_price (G := G) (l := l) w p1 hr) miX12_price mvX12_price cb9 kEcho q_1362 ⟨rfl, rfl, Nat.le_of_ble_eq_true rfl, Nat.le_of_ble_eq_true rfl⟩ rfl rfl (Nat.le_of_ble_eq_true rfl) ⟨Nat.le_of_ble_eq_true rfl, Nat.le_of_ble_eq_true rfl⟩ dL_price_4 (t := 7) rfl rfl ?_
    refine J_i2l hX dL_price_7 (t := 8) rfl ?_
    refine J_last (w2 := sW w 16 (sL (w 16) 0 0 v.toInt64)) (k9 := 0) hX kOut (by decide) rfl rfl dL_price_8 (t := 9) rfl ?_
    refine J_goto (tgt := 15) hX dL_price_9 (by decide) ?_
    refine J_iconst (v := 0) hX dL_price_15 (by decide) (t := 16) rfl ?_
    refine J_wid (k := 1) (n := 6) (by decide) (by decide) ?_
    exact J_iretP hX hR hlk (fun H h => ⟨rfl, h⟩) dL_price_16
  · replace hr := okW_x hr
    by_cases e0 : E = "java/lang/IndexOutOfBoundsException"
    · subst e0
      cases hK
      refine J_callVT hX [.int p1] [.int 0, .ref (adr G 16 0)] (ceX12_price (G := G) (l := l) hl w p1 hr) miX12_price mvX12_price cb9 kEcho q_1362 ⟨rfl, rfl, Nat.le_of_ble_eq_true rfl, Nat.le_of_ble_eq_true rfl⟩ rfl rfl (Nat.le_of_ble_eq_true rfl) ⟨Nat.le_of_ble_eq_true rfl, Nat.le_of_ble_eq_true rfl⟩ dL_price_4 ?_
      refine JT_catch hX (name := "java/lang/IndexOutOfBoundsException") [] _ _ hT (fun z hz => absurd hz List.not_mem_nil) (by decide) (by decide) q_1315 (hX.cast (by simp [castL])) (fun q => ?_)
      refine J_astore_n (lc2 := [(3, .ref q), (0, .ref (adr G 0 0)), (1, .int p1), (2, .ref (adr G 16 0))]) hX dL_price_12 rfl (Nat.le_of_ble_eq_true rfl) rfl (t := 13) rfl ?_
      refine J_iconst (v := 1) hX dL_price_13 (by decide) (t := 14) rfl ?_
      refine J_wid (k := 1) (n := 6) (by decide) (by decide) ?_
      exact J_iretP hX hR hlk (fun H h => ⟨rfl, h⟩) dL_price_14
    replace hK := it_f hK e0
    cases hK
abbrev rmL_rating : Room := { frames := 9, cells := 1, slots := 6, locals := 152 }
theorem miL_rating : MIW yL_rating cL_rating 4 (some .int) [(0, 9, 12, 32)] 3 := ⟨q_1368, q_135, by decide +kernel, by decide +kernel, by decide +kernel, by decide +kernel⟩
def FL_rating (w : Wd) (p1 : Int32) : Option (Int32 × Wd) := lwW (fun E => if E = "java/lang/IndexOutOfBoundsException" then some 1 else none) (okW w (FX12_rating w p1))
set_option maxHeartbeats 4000000 in
theorem ctL_rating {G : GG} {l : Launch} (hl : l.stackTraces = false) (w : Wd) (p1 : Int32) {k : Int32} {w3 : Wd} (hF : FL_rating w p1 = some (k, w3)) : CTW G l yL_rating cL_rating 4 (some .int) [(0, 9, 12, 32)] rmL_rating 1 6 [.ref (adr G 0 0), .int p1, .ref (adr G 16 0)] (GH G w) (fun v H => v = some (.int k) ∧ GH G w3 H) := by
  refine CTW.of miL_rating [(0, .ref (adr G 0 0)), (1, .int p1), (2, .ref (adr G 16 0))] rfl (Nat.le_of_ble_eq_true rfl) ?_
  intro p e s m args below meth c hX hNC hT hR hlk
  have hX : FX G RL cL_rating 4 p s m args c := hX
  unfold FL_rating at hF
  refine J_aload_n hX dL_rating_0 2 rfl (t := 1) rfl ?_
  refine J_iconst (v := 0) hX dL_rating_1 (by decide) (t := 2) rfl ?_
  refine J_aload_n hX dL_rating_2 0 rfl (t := 3) rfl ?_
  refine J_iload_n hX dL_rating_3 1 rfl (t := 4) rfl ?_
  rcases lwW_e hF with ⟨v, w2, hr, hk, hw3⟩ | ⟨E, hr, hK⟩
  · subst hk
    subst hw3
    obtain ⟨hr9, hw⟩ := okW_o hr
    subst hw
    replace hr := hr9
    refine J_callV hX [.int p1] [.int 0, .ref (adr G 16 0)] [.int v, .int 0, .ref (adr G 16 0)] (ctX12_rating (G := G) (l := l) w p1 hr) miX12_rating mvX12_rating cb9 kEcho q_1369 ⟨rfl, rfl, Nat.le_of_ble_eq_true rfl, Nat.le_of_ble_eq_true rfl⟩ rfl rfl (Nat.le_of_ble_eq_true rfl) ⟨Nat.le_of_ble_eq_true rfl, Nat.le_of_ble_eq_true rfl⟩ dL_rating_4 (t := 7) rfl rfl ?_
    refine J_i2l hX dL_rating_7 (t := 8) rfl ?_
    refine J_last (w2 := sW w 16 (sL (w 16) 0 0 v.toInt64)) (k9 := 0) hX kOut (by decide) rfl rfl dL_rating_8 (t := 9) rfl ?_
    refine J_goto (tgt := 15) hX dL_rating_9 (by decide) ?_
    refine J_iconst (v := 0) hX dL_rating_15 (by decide) (t := 16) rfl ?_
    refine J_wid (k := 1) (n := 6) (by decide) (by decide) ?_
    exact J_iretP hX hR hlk (fun H h => ⟨rfl, h⟩) dL_rating_16
  · replace hr := okW_x hr
    by_cases e0 : E = "java/lang/IndexOutOfBoundsException"
    · subst e0
      cases hK
      refine J_callVT hX [.int p1] [.int 0, .ref (adr G 16 0)] (ceX12_rating (G := G) (l := l) hl w p1 hr) miX12_rating mvX12_rating cb9 kEcho q_1369 ⟨rfl, rfl, Nat.le_of_ble_eq_true rfl, Nat.le_of_ble_eq_true rfl⟩ rfl rfl (Nat.le_of_ble_eq_true rfl) ⟨Nat.le_of_ble_eq_true rfl, Nat.le_of_ble_eq_true rfl⟩ dL_rating_4 ?_
      refine JT_catch hX (name := "java/lang/IndexOutOfBoundsException") [] _ _ hT (fun z hz => absurd hz List.not_mem_nil) (by decide) (by decide) q_1315 (hX.cast (by simp [castL])) (fun q => ?_)
      refine J_astore_n (lc2 := [(3, .ref q), (0, .ref (adr G 0 0)), (1, .int p1), (2, .ref (adr G 16 0))]) hX dL_rating_12 rfl (Nat.le_of_ble_eq_true rfl) rfl (t := 13) rfl ?_
      refine J_iconst (v := 1) hX dL_rating_13 (by decide) (t := 14) rfl ?_
      refine J_wid (k := 1) (n := 6) (by decide) (by decide) ?_
      exact J_iretP hX hR hlk (fun H h => ⟨rfl, h⟩) dL_rating_14
    replace hK := it_f hK e0
    cases hK
abbrev rmL_echoesLost : Room := { frames := 9, cells := 1, slots := 6, locals := 152 }
theorem miL_echoesLost : MIW yL_echoesLost cL_echoesLost 4 (some .int) [(0, 9, 12, 32)] 3 := ⟨q_1375, q_135, by decide +kernel, by decide +kernel, by decide +kernel, by decide +kernel⟩
def FL_echoesLost (w : Wd) (p1 : Int32) : Option (Int32 × Wd) := lwW (fun E => if E = "java/lang/IndexOutOfBoundsException" then some 1 else none) (okW w (FX12_echoesLost w p1))
set_option maxHeartbeats 4000000 in
theorem ctL_echoesLost {G : GG} {l : Launch} (hl : l.stackTraces = false) (w : Wd) (p1 : Int32) {k : Int32} {w3 : Wd} (hF : FL_echoesLost w p1 = some (k, w3)) : CTW G l yL_echoesLost cL_echoesLost 4 (some .int) [(0, 9, 12, 32)] rmL_echoesLost 1 6 [.ref (adr G 0 0), .int p1, .ref (adr G 16 0)] (GH G w) (fun v H => v = some (.int k) ∧ GH G w3 H) := by
  refine CTW.of miL_echoesLost [(0, .ref (adr G 0 0)), (1, .int p1), (2, .ref (adr G 16 0))] rfl (Nat.le_of_ble_eq_true rfl) ?_
  intro p e s m args below meth c hX hNC hT hR hlk
  have hX : FX G RL cL_echoesLost 4 p s m args c := hX
  unfold FL_echoesLost at hF
  refine J_aload_n hX dL_echoesLost_0 2 rfl (t := 1) rfl ?_
  refine J_iconst (v := 0) hX dL_echoesLost_1 (by decide) (t := 2) rfl ?_
  refine J_aload_n hX dL_echoesLost_2 0 rfl (t := 3) rfl ?_
  refine J_iload_n hX dL_echoesLost_3 1 rfl (t := 4) rfl ?_
  rcases lwW_e hF with ⟨v, w2, hr, hk, hw3⟩ | ⟨E, hr, hK⟩
  · subst hk
    subst hw3
    obtain ⟨hr9, hw⟩ := okW_o hr
    subst hw
    replace hr := hr9
    refine J_callV hX [.int p1] [.int 0, .ref (adr G 16 0)] [.int v, .int 0, .ref (adr G 16 0)] (ctX12_echoesLost (G := G) (l := l) w p1 hr) miX12_echoesLost mvX12_echoesLost cb9 kEcho q_1376 ⟨rfl, rfl, Nat.le_of_ble_eq_true rfl, Nat.le_of_ble_eq_true rfl⟩ rfl rfl (Nat.le_of_ble_eq_true rfl) ⟨Nat.le_of_ble_eq_true rfl, Nat.le_of_ble_eq_true rfl⟩ dL_echoesLost_4 (t := 7) rfl rfl ?_
    refine J_i2l hX dL_echoesLost_7 (t := 8) rfl ?_
    refine J_last (w2 := sW w 16 (sL (w 16) 0 0 v.toInt64)) (k9 := 0) hX kOut (by decide) rfl rfl dL_echoesLost_8 (t := 9) rfl ?_
    refine J_goto (tgt := 15) hX dL_echoesLost_9 (by decide) ?_
    refine J_iconst (v := 0) hX dL_echoesLost_15 (by decide) (t := 16) rfl ?_
    refine J_wid (k := 1) (n := 6) (by decide) (by decide) ?_
    exact J_iretP hX hR hlk (fun H h => ⟨rfl, h⟩) dL_echoesLost_16
  · replace hr := okW_x hr
    by_cases e0 : E = "java/lang/IndexOutOfBoundsException"
    · subst e0
      cases hK
      refine J_callVT hX [.int p1] [.int 0, .ref (adr G 16 0)] (ceX12_echoesLost (G := G) (l := l) hl w p1 hr) miX12_echoesLost mvX12_echoesLost cb9 kEcho q_1376 ⟨rfl, rfl, Nat.le_of_ble_eq_true rfl, Nat.le_of_ble_eq_true rfl⟩ rfl rfl (Nat.le_of_ble_eq_true rfl) ⟨Nat.le_of_ble_eq_true rfl, Nat.le_of_ble_eq_true rfl⟩ dL_echoesLost_4 ?_
      refine JT_catch hX (name := "java/lang/IndexOutOfBoundsException") [] _ _ hT (fun z hz => absurd hz List.not_mem_nil) (by decide) (by decide) q_1315 (hX.cast (by simp [castL])) (fun q => ?_)
      refine J_astore_n (lc2 := [(3, .ref q), (0, .ref (adr G 0 0)), (1, .int p1), (2, .ref (adr G 16 0))]) hX dL_echoesLost_12 rfl (Nat.le_of_ble_eq_true rfl) rfl (t := 13) rfl ?_
      refine J_iconst (v := 1) hX dL_echoesLost_13 (by decide) (t := 14) rfl ?_
      refine J_wid (k := 1) (n := 6) (by decide) (by decide) ?_
      exact J_iretP hX hR hlk (fun H h => ⟨rfl, h⟩) dL_echoesLost_14
    replace hK := it_f hK e0
    cases hK
abbrev rmL_earnedIn : Room := { frames := 9, cells := 1, slots := 6, locals := 152 }
theorem miL_earnedIn : MIW yL_earnedIn cL_earnedIn 4 (some .int) [(0, 9, 12, 32)] 3 := ⟨q_1382, q_135, by decide +kernel, by decide +kernel, by decide +kernel, by decide +kernel⟩
def FL_earnedIn (w : Wd) (p1 : Int32) : Option (Int32 × Wd) := lwW (fun E => if E = "java/lang/IndexOutOfBoundsException" then some 1 else none) (okW w (FX12_earnedIn w p1))
set_option maxHeartbeats 4000000 in
theorem ctL_earnedIn {G : GG} {l : Launch} (hl : l.stackTraces = false) (w : Wd) (p1 : Int32) {k : Int32} {w3 : Wd} (hF : FL_earnedIn w p1 = some (k, w3)) : CTW G l yL_earnedIn cL_earnedIn 4 (some .int) [(0, 9, 12, 32)] rmL_earnedIn 1 6 [.ref (adr G 0 0), .int p1, .ref (adr G 16 0)] (GH G w) (fun v H => v = some (.int k) ∧ GH G w3 H) := by
  refine CTW.of miL_earnedIn [(0, .ref (adr G 0 0)), (1, .int p1), (2, .ref (adr G 16 0))] rfl (Nat.le_of_ble_eq_true rfl) ?_
  intro p e s m args below meth c hX hNC hT hR hlk
  have hX : FX G RL cL_earnedIn 4 p s m args c := hX
  unfold FL_earnedIn at hF
  refine J_aload_n hX dL_earnedIn_0 2 rfl (t := 1) rfl ?_
  refine J_iconst (v := 0) hX dL_earnedIn_1 (by decide) (t := 2) rfl ?_
  refine J_aload_n hX dL_earnedIn_2 0 rfl (t := 3) rfl ?_
  refine J_iload_n hX dL_earnedIn_3 1 rfl (t := 4) rfl ?_
  rcases lwW_e hF with ⟨v, w2, hr, hk, hw3⟩ | ⟨E, hr, hK⟩
  · subst hk
    subst hw3
    obtain ⟨hr9, hw⟩ := okW_o hr
    subst hw
    replace hr := hr9
    refine J_callV hX [.int p1] [.int 0, .ref (adr G 16 0)] [.int v, .int 0, .ref (adr G 16 0)] (ctX12_earnedIn (G := G) (l := l) w p1 hr) miX12_earnedIn mvX12_earnedIn cb9 kEcho q_1383 ⟨rfl, rfl, Nat.le_of_ble_eq_true rfl, Nat.le_of_ble_eq_true rfl⟩ rfl rfl (Nat.le_of_ble_eq_true rfl) ⟨Nat.le_of_ble_eq_true rfl, Nat.le_of_ble_eq_true rfl⟩ dL_earnedIn_4 (t := 7) rfl rfl ?_
    refine J_i2l hX dL_earnedIn_7 (t := 8) rfl ?_
    refine J_last (w2 := sW w 16 (sL (w 16) 0 0 v.toInt64)) (k9 := 0) hX kOut (by decide) rfl rfl dL_earnedIn_8 (t := 9) rfl ?_
    refine J_goto (tgt := 15) hX dL_earnedIn_9 (by decide) ?_
    refine J_iconst (v := 0) hX dL_earnedIn_15 (by decide) (t := 16) rfl ?_
    refine J_wid (k := 1) (n := 6) (by decide) (by decide) ?_
    exact J_iretP hX hR hlk (fun H h => ⟨rfl, h⟩) dL_earnedIn_16
  · replace hr := okW_x hr
    by_cases e0 : E = "java/lang/IndexOutOfBoundsException"
    · subst e0
      cases hK
      refine J_callVT hX [.int p1] [.int 0, .ref (adr G 16 0)] (ceX12_earnedIn (G := G) (l := l) hl w p1 hr) miX12_earnedIn mvX12_earnedIn cb9 kEcho q_1383 ⟨rfl, rfl, Nat.le_of_ble_eq_true rfl, Nat.le_of_ble_eq_true rfl⟩ rfl rfl (Nat.le_of_ble_eq_true rfl) ⟨Nat.le_of_ble_eq_true rfl, Nat.le_of_ble_eq_true rfl⟩ dL_earnedIn_4 ?_
      refine JT_catch hX (name := "java/lang/IndexOutOfBoundsException") [] _ _ hT (fun z hz => absurd hz List.not_mem_nil) (by decide) (by decide) q_1315 (hX.cast (by simp [castL])) (fun q => ?_)
      refine J_astore_n (lc2 := [(3, .ref q), (0, .ref (adr G 0 0)), (1, .int p1), (2, .ref (adr G 16 0))]) hX dL_earnedIn_12 rfl (Nat.le_of_ble_eq_true rfl) rfl (t := 13) rfl ?_
      refine J_iconst (v := 1) hX dL_earnedIn_13 (by decide) (t := 14) rfl ?_
      refine J_wid (k := 1) (n := 6) (by decide) (by decide) ?_
      exact J_iretP hX hR hlk (fun H h => ⟨rfl, h⟩) dL_earnedIn_14
    replace hK := it_f hK e0
    cases hK
abbrev rmL_money : Room := { frames := 9, cells := 1, slots := 6, locals := 152 }
theorem miL_money : MIW yL_money cL_money 4 (some .int) [(0, 9, 12, 32)] 3 := ⟨q_1389, q_135, by decide +kernel, by decide +kernel, by decide +kernel, by decide +kernel⟩
def FL_money (w : Wd) (p1 : Int32) : Option (Int32 × Wd) := lwW (fun E => if E = "java/lang/IndexOutOfBoundsException" then some 1 else none) (okW w (FX12_money w p1))
set_option maxHeartbeats 4000000 in
theorem ctL_money {G : GG} {l : Launch} (hl : l.stackTraces = false) (w : Wd) (p1 : Int32) {k : Int32} {w3 : Wd} (hF : FL_money w p1 = some (k, w3)) : CTW G l yL_money cL_money 4 (some .int) [(0, 9, 12, 32)] rmL_money 1 6 [.ref (adr G 0 0), .int p1, .ref (adr G 16 0)] (GH G w) (fun v H => v = some (.int k) ∧ GH G w3 H) := by
  refine CTW.of miL_money [(0, .ref (adr G 0 0)), (1, .int p1), (2, .ref (adr G 16 0))] rfl (Nat.le_of_ble_eq_true rfl) ?_
  intro p e s m args below meth c hX hNC hT hR hlk
  have hX : FX G RL cL_money 4 p s m args c := hX
  unfold FL_money at hF
  refine J_aload_n hX dL_money_0 2 rfl (t := 1) rfl ?_
  refine J_iconst (v := 0) hX dL_money_1 (by decide) (t := 2) rfl ?_
  refine J_aload_n hX dL_money_2 0 rfl (t := 3) rfl ?_
  refine J_iload_n hX dL_money_3 1 rfl (t := 4) rfl ?_
  rcases lwW_e hF with ⟨v, w2, hr, hk, hw3⟩ | ⟨E, hr, hK⟩
  · subst hk
    subst hw3
    obtain ⟨hr9, hw⟩ := okW_o hr
    subst hw
    replace hr := hr9
    refine J_callV hX [.int p1] [.int 0, .ref (adr G 16 0)] [.int v, .int 0, .ref (adr G 16 0)] (ctX12_money (G := G) (l := l) w p1 hr) miX12_money mvX12_money cb9 kEcho q_1390 ⟨rfl, rfl, Nat.le_of_ble_eq_true rfl, Nat.le_of_ble_eq_true rfl⟩ rfl rfl (Nat.le_of_ble_eq_true rfl) ⟨Nat.le_of_ble_eq_true rfl, Nat.le_of_ble_eq_true rfl⟩ dL_money_4 (t := 7) rfl rfl ?_
    refine J_i2l hX dL_money_7 (t := 8) rfl ?_
    refine J_last (w2 := sW w 16 (sL (w 16) 0 0 v.toInt64)) (k9 := 0) hX kOut (by decide) rfl rfl dL_money_8 (t := 9) rfl ?_
    refine J_goto (tgt := 15) hX dL_money_9 (by decide) ?_
    refine J_iconst (v := 0) hX dL_money_15 (by decide) (t := 16) rfl ?_
    refine J_wid (k := 1) (n := 6) (by decide) (by decide) ?_
    exact J_iretP hX hR hlk (fun H h => ⟨rfl, h⟩) dL_money_16
  · replace hr := okW_x hr
    by_cases e0 : E = "java/lang/IndexOutOfBoundsException"
    · subst e0
      cases hK
      refine J_callVT hX [.int p1] [.int 0, .ref (adr G 16 0)] (ceX12_money (G := G) (l := l) hl w p1 hr) miX12_money mvX12_money cb9 kEcho q_1390 ⟨rfl, rfl, Nat.le_of_ble_eq_true rfl, Nat.le_of_ble_eq_true rfl⟩ rfl rfl (Nat.le_of_ble_eq_true rfl) ⟨Nat.le_of_ble_eq_true rfl, Nat.le_of_ble_eq_true rfl⟩ dL_money_4 ?_
      refine JT_catch hX (name := "java/lang/IndexOutOfBoundsException") [] _ _ hT (fun z hz => absurd hz List.not_mem_nil) (by decide) (by decide) q_1315 (hX.cast (by simp [castL])) (fun q => ?_)
      refine J_astore_n (lc2 := [(3, .ref q), (0, .ref (adr G 0 0)), (1, .int p1), (2, .ref (adr G 16 0))]) hX dL_money_12 rfl (Nat.le_of_ble_eq_true rfl) rfl (t := 13) rfl ?_
      refine J_iconst (v := 1) hX dL_money_13 (by decide) (t := 14) rfl ?_
      refine J_wid (k := 1) (n := 6) (by decide) (by decide) ?_
      exact J_iretP hX hR hlk (fun H h => ⟨rfl, h⟩) dL_money_14
    replace hK := it_f hK e0
    cases hK
abbrev rmL_patience : Room := { frames := 9, cells := 1, slots := 6, locals := 152 }
theorem miL_patience : MIW yL_patience cL_patience 4 (some .int) [(0, 9, 12, 32)] 3 := ⟨q_1401, q_135, by decide +kernel, by decide +kernel, by decide +kernel, by decide +kernel⟩
def FL_patience (w : Wd) (p1 : Int32) : Option (Int32 × Wd) := lwW (fun E => if E = "java/lang/IndexOutOfBoundsException" then some 1 else none) (okW w (FX12_patience w p1))
set_option maxHeartbeats 4000000 in
theorem ctL_patience {G : GG} {l : Launch} (hl : l.stackTraces = false) (w : Wd) (p1 : Int32) {k : Int32} {w3 : Wd} (hF : FL_patience w p1 = some (k, w3)) : CTW G l yL_patience cL_patience 4 (some .int) [(0, 9, 12, 32)] rmL_patience 1 6 [.ref (adr G 0 0), .int p1, .ref (adr G 16 0)] (GH G w) (fun v H => v = some (.int k) ∧ GH G w3 H) := by
  refine CTW.of miL_patience [(0, .ref (adr G 0 0)), (1, .int p1), (2, .ref (adr G 16 0))] rfl (Nat.le_of_ble_eq_true rfl) ?_
  intro p e s m args below meth c hX hNC hT hR hlk
  have hX : FX G RL cL_patience 4 p s m args c := hX
  unfold FL_patience at hF
  refine J_aload_n hX dL_patience_0 2 rfl (t := 1) rfl ?_
  refine J_iconst (v := 0) hX dL_patience_1 (by decide) (t := 2) rfl ?_
  refine J_aload_n hX dL_patience_2 0 rfl (t := 3) rfl ?_
  refine J_iload_n hX dL_patience_3 1 rfl (t := 4) rfl ?_
  rcases lwW_e hF with ⟨v, w2, hr, hk, hw3⟩ | ⟨E, hr, hK⟩
  · subst hk
    subst hw3
    obtain ⟨hr9, hw⟩ := okW_o hr
    subst hw
    replace hr := hr9
    refine J_callV hX [.int p1] [.int 0, .ref (adr G 16 0)] [.int v, .int 0, .ref (adr G 16 0)] (ctX12_patience (G := G) (l := l) w p1 hr) miX12_patience mvX12_patience cb9 kEcho q_1402 ⟨rfl, rfl, Nat.le_of_ble_eq_true rfl, Nat.le_of_ble_eq_true rfl⟩ rfl rfl (Nat.le_of_ble_eq_true rfl) ⟨Nat.le_of_ble_eq_true rfl, Nat.le_of_ble_eq_true rfl⟩ dL_patience_4 (t := 7) rfl rfl ?_
    refine J_i2l hX dL_patience_7 (t := 8) rfl ?_
    refine J_last (w2 := sW w 16 (sL (w 16) 0 0 v.toInt64)) (k9 := 0) hX kOut (by decide) rfl rfl dL_patience_8 (t := 9) rfl ?_
    refine J_goto (tgt := 15) hX dL_patience_9 (by decide) ?_
    refine J_iconst (v := 0) hX dL_patience_15 (by decide) (t := 16) rfl ?_
    refine J_wid (k := 1) (n := 6) (by decide) (by decide) ?_
    exact J_iretP hX hR hlk (fun H h => ⟨rfl, h⟩) dL_patience_16
  · replace hr := okW_x hr
    by_cases e0 : E = "java/lang/IndexOutOfBoundsException"
    · subst e0
      cases hK
      refine J_callVT hX [.int p1] [.int 0, .ref (adr G 16 0)] (ceX12_patience (G := G) (l := l) hl w p1 hr) miX12_patience mvX12_patience cb9 kEcho q_1402 ⟨rfl, rfl, Nat.le_of_ble_eq_true rfl, Nat.le_of_ble_eq_true rfl⟩ rfl rfl (Nat.le_of_ble_eq_true rfl) ⟨Nat.le_of_ble_eq_true rfl, Nat.le_of_ble_eq_true rfl⟩ dL_patience_4 ?_
      refine JT_catch hX (name := "java/lang/IndexOutOfBoundsException") [] _ _ hT (fun z hz => absurd hz List.not_mem_nil) (by decide) (by decide) q_1315 (hX.cast (by simp [castL])) (fun q => ?_)
      refine J_astore_n (lc2 := [(3, .ref q), (0, .ref (adr G 0 0)), (1, .int p1), (2, .ref (adr G 16 0))]) hX dL_patience_12 rfl (Nat.le_of_ble_eq_true rfl) rfl (t := 13) rfl ?_
      refine J_iconst (v := 1) hX dL_patience_13 (by decide) (t := 14) rfl ?_
      refine J_wid (k := 1) (n := 6) (by decide) (by decide) ?_
      exact J_iretP hX hR hlk (fun H h => ⟨rfl, h⟩) dL_patience_14
    replace hK := it_f hK e0
    cases hK
abbrev rmL_suspicion : Room := { frames := 9, cells := 1, slots := 6, locals := 152 }
theorem miL_suspicion : MIW yL_suspicion cL_suspicion 4 (some .int) [(0, 9, 12, 32)] 3 := ⟨q_1408, q_135, by decide +kernel, by decide +kernel, by decide +kernel, by decide +kernel⟩
def FL_suspicion (w : Wd) (p1 : Int32) : Option (Int32 × Wd) := lwW (fun E => if E = "java/lang/IndexOutOfBoundsException" then some 1 else none) (okW w (FX12_suspicion w p1))
set_option maxHeartbeats 4000000 in
theorem ctL_suspicion {G : GG} {l : Launch} (hl : l.stackTraces = false) (w : Wd) (p1 : Int32) {k : Int32} {w3 : Wd} (hF : FL_suspicion w p1 = some (k, w3)) : CTW G l yL_suspicion cL_suspicion 4 (some .int) [(0, 9, 12, 32)] rmL_suspicion 1 6 [.ref (adr G 0 0), .int p1, .ref (adr G 16 0)] (GH G w) (fun v H => v = some (.int k) ∧ GH G w3 H) := by
  refine CTW.of miL_suspicion [(0, .ref (adr G 0 0)), (1, .int p1), (2, .ref (adr G 16 0))] rfl (Nat.le_of_ble_eq_true rfl) ?_
  intro p e s m args below meth c hX hNC hT hR hlk
  have hX : FX G RL cL_suspicion 4 p s m args c := hX
  unfold FL_suspicion at hF
  refine J_aload_n hX dL_suspicion_0 2 rfl (t := 1) rfl ?_
  refine J_iconst (v := 0) hX dL_suspicion_1 (by decide) (t := 2) rfl ?_
  refine J_aload_n hX dL_suspicion_2 0 rfl (t := 3) rfl ?_
  refine J_iload_n hX dL_suspicion_3 1 rfl (t := 4) rfl ?_
  rcases lwW_e hF with ⟨v, w2, hr, hk, hw3⟩ | ⟨E, hr, hK⟩
  · subst hk
    subst hw3
    obtain ⟨hr9, hw⟩ := okW_o hr
    subst hw
    replace hr := hr9
    refine J_callV hX [.int p1] [.int 0, .ref (adr G 16 0)] [.int v, .int 0, .ref (adr G 16 0)] (ctX12_suspicion (G := G) (l := l) w p1 hr) miX12_suspicion mvX12_suspicion cb9 kEcho q_1409 ⟨rfl, rfl, Nat.le_of_ble_eq_true rfl, Nat.le_of_ble_eq_true rfl⟩ rfl rfl (Nat.le_of_ble_eq_true rfl) ⟨Nat.le_of_ble_eq_true rfl, Nat.le_of_ble_eq_true rfl⟩ dL_suspicion_4 (t := 7) rfl rfl ?_
    refine J_i2l hX dL_suspicion_7 (t := 8) rfl ?_
    refine J_last (w2 := sW w 16 (sL (w 16) 0 0 v.toInt64)) (k9 := 0) hX kOut (by decide) rfl rfl dL_suspicion_8 (t := 9) rfl ?_
    refine J_goto (tgt := 15) hX dL_suspicion_9 (by decide) ?_
    refine J_iconst (v := 0) hX dL_suspicion_15 (by decide) (t := 16) rfl ?_
    refine J_wid (k := 1) (n := 6) (by decide) (by decide) ?_
    exact J_iretP hX hR hlk (fun H h => ⟨rfl, h⟩) dL_suspicion_16
  · replace hr := okW_x hr
    by_cases e0 : E = "java/lang/IndexOutOfBoundsException"
    · subst e0
      cases hK
      refine J_callVT hX [.int p1] [.int 0, .ref (adr G 16 0)] (ceX12_suspicion (G := G) (l := l) hl w p1 hr) miX12_suspicion mvX12_suspicion cb9 kEcho q_1409 ⟨rfl, rfl, Nat.le_of_ble_eq_true rfl, Nat.le_of_ble_eq_true rfl⟩ rfl rfl (Nat.le_of_ble_eq_true rfl) ⟨Nat.le_of_ble_eq_true rfl, Nat.le_of_ble_eq_true rfl⟩ dL_suspicion_4 ?_
      refine JT_catch hX (name := "java/lang/IndexOutOfBoundsException") [] _ _ hT (fun z hz => absurd hz List.not_mem_nil) (by decide) (by decide) q_1315 (hX.cast (by simp [castL])) (fun q => ?_)
      refine J_astore_n (lc2 := [(3, .ref q), (0, .ref (adr G 0 0)), (1, .int p1), (2, .ref (adr G 16 0))]) hX dL_suspicion_12 rfl (Nat.le_of_ble_eq_true rfl) rfl (t := 13) rfl ?_
      refine J_iconst (v := 1) hX dL_suspicion_13 (by decide) (t := 14) rfl ?_
      refine J_wid (k := 1) (n := 6) (by decide) (by decide) ?_
      exact J_iretP hX hR hlk (fun H h => ⟨rfl, h⟩) dL_suspicion_14
    replace hK := it_f hK e0
    cases hK
abbrev rmL_isAngry : Room := { frames := 9, cells := 1, slots := 6, locals := 152 }
theorem miL_isAngry : MIW yL_isAngry cL_isAngry 4 (some .int) [(0, 16, 19, 32)] 3 := ⟨q_1415, q_135, by decide +kernel, by decide +kernel, by decide +kernel, by decide +kernel⟩
def FL_isAngry (w : Wd) (p1 : Int32) : Option (Int32 × Wd) := lwW (fun E => if E = "java/lang/IndexOutOfBoundsException" then some 1 else none) (okZ (okW w (FX12_isAngry w p1)))
set_option maxHeartbeats 4000000 in
theorem ctL_isAngry {G : GG} {l : Launch} (hl : l.stackTraces = false) (w : Wd) (p1 : Int32) {k : Int32} {w3 : Wd} (hF : FL_isAngry w p1 = some (k, w3)) : CTW G l yL_isAngry cL_isAngry 4 (some .int) [(0, 16, 19, 32)] rmL_isAngry 1 6 [.ref (adr G 0 0), .int p1, .ref (adr G 16 0)] (GH G w) (fun v H => v = some (.int k) ∧ GH G w3 H) := by
  refine CTW.of miL_isAngry [(0, .ref (adr G 0 0)), (1, .int p1), (2, .ref (adr G 16 0))] rfl (Nat.le_of_ble_eq_true rfl) ?_
  intro p e s m args below meth c hX hNC hT hR hlk
  have hX : FX G RL cL_isAngry 4 p s m args c := hX
  unfold FL_isAngry at hF
  refine J_aload_n hX dL_isAngry_0 2 rfl (t := 1) rfl ?_
  refine J_iconst (v := 0) hX dL_isAngry_1 (by decide) (t := 2) rfl ?_
  refine J_aload_n hX dL_isAngry_2 0 rfl (t := 3) rfl ?_
  refine J_iload_n hX dL_isAngry_3 1 rfl (t := 4) rfl ?_
  rcases lwW_e hF with ⟨v, w2, hr, hk, hw3⟩ | ⟨E, hr, hK⟩
  · subst hk
    subst hw3
    obtain ⟨b, hr8, hb⟩ := okZ_o hr
    replace hr := hr8
    obtain ⟨hr9, hw⟩ := okW_o hr
    subst hw
    replace hr := hr9
    subst hb
    refine J_callV hX [.int p1] [.int 0, .ref (adr G 16 0)] [.int (bI b), .int 0, .ref (adr G 16 0)] (ctX12_isAngry (G := G) (l := l) w p1 hr) miX12_isAngry mvX12_isAngry cb9 kEcho q_1416 ⟨rfl, rfl, Nat.le_of_ble_eq_true rfl, Nat.le_of_ble_eq_true rfl⟩ rfl rfl (Nat.le_of_ble_eq_true rfl) ⟨Nat.le_of_ble_eq_true rfl, Nat.le_of_ble_eq_true rfl⟩ dL_isAngry_4 (t := 7) rfl rfl ?_
    refine J_ifZ_eq (tgt := 14) hX dL_isAngry_7 (by decide) (t := 10) rfl (fun z => ?_) (fun z => ?_)
    · subst z
      refine J_lconst (v := 0) hX dL_isAngry_14 (by decide) (t := 15) rfl ?_
      refine J_last (w2 := sW w 16 (sL (w 16) 0 0 (bI false).toInt64)) (k9 := 0) hX kOut (by decide) rfl rfl dL_isAngry_15 (t := 16) rfl ?_
      refine J_goto (tgt := 22) hX dL_isAngry_16 (by decide) ?_
      refine J_iconst (v := 0) hX dL_isAngry_22 (by decide) (t := 23) rfl ?_
      refine J_wid (k := 1) (n := 6) (by decide) (by decide) ?_
      exact J_iretP hX hR hlk (fun H h => ⟨rfl, h⟩) dL_isAngry_23
    · subst z
      refine J_lconst (v := 1) hX dL_isAngry_10 (by decide) (t := 11) rfl ?_
      refine J_goto (tgt := 15) hX dL_isAngry_11 (by decide) ?_
      refine J_last (w2 := sW w 16 (sL (w 16) 0 0 (bI true).toInt64)) (k9 := 0) hX kOut (by decide) rfl rfl dL_isAngry_15 (t := 16) rfl ?_
      refine J_goto (tgt := 22) hX dL_isAngry_16 (by decide) ?_
      refine J_iconst (v := 0) hX dL_isAngry_22 (by decide) (t := 23) rfl ?_
      refine J_wid (k := 1) (n := 6) (by decide) (by decide) ?_
      exact J_iretP hX hR hlk (fun H h => ⟨rfl, h⟩) dL_isAngry_23
  · replace hr := okZ_x hr; replace hr := okW_x hr
    by_cases e0 : E = "java/lang/IndexOutOfBoundsException"
    · subst e0
      cases hK
      refine J_callVT hX [.int p1] [.int 0, .ref (adr G 16 0)] (ceX12_isAngry (G := G) (l := l) hl w p1 hr) miX12_isAngry mvX12_isAngry cb9 kEcho q_1416 ⟨rfl, rfl, Nat.le_of_ble_eq_true rfl, Nat.le_of_ble_eq_true rfl⟩ rfl rfl (Nat.le_of_ble_eq_true rfl) ⟨Nat.le_of_ble_eq_true rfl, Nat.le_of_ble_eq_true rfl⟩ dL_isAngry_4 ?_
      refine JT_catch hX (name := "java/lang/IndexOutOfBoundsException") [] _ _ hT (fun z hz => absurd hz List.not_mem_nil) (by decide) (by decide) q_1315 (hX.cast (by simp [castL])) (fun q => ?_)
      refine J_astore_n (lc2 := [(3, .ref q), (0, .ref (adr G 0 0)), (1, .int p1), (2, .ref (adr G 16 0))]) hX dL_isAngry_19 rfl (Nat.le_of_ble_eq_true rfl) rfl (t := 20) rfl ?_
      refine J_iconst (v := 1) hX dL_isAngry_20 (by decide) (t := 21) rfl ?_
      refine J_wid (k := 1) (n := 6) (by decide) (by decide) ?_
      exact J_iretP hX hR hlk (fun H h => ⟨rfl, h⟩) dL_isAngry_21
    replace hK := it_f hK e0
    cases hK
abbrev rmL_echoesHeard : Room := { frames := 9, cells := 1, slots := 6, locals := 152 }
theorem miL_echoesHeard : MIW yL_echoesHeard cL_echoesHeard 4 (some .int) [(0, 9, 12, 32)] 3 := ⟨q_1423, q_135, by decide +kernel, by decide +kernel, by decide +kernel, by decide +kernel⟩
def FL_echoesHeard (w : Wd) (p1 : Int32) : Option (Int32 × Wd) := lwW (fun E => if E = "java/lang/IndexOutOfBoundsException" then some 1 else none) (okW w (FX12_echoesHeard w p1))
set_option maxHeartbeats 4000000 in
theorem ctL_echoesHeard {G : GG} {l : Launch} (hl : l.stackTraces = false) (w : Wd) (p1 : Int32) {k : Int32} {w3 : Wd} (hF : FL_echoesHeard w p1 = some (k, w3)) : CTW G l yL_echoesHeard cL_echoesHeard 4 (some .int) [(0, 9, 12, 32)] rmL_echoesHeard 1 6 [.ref (adr G 0 0), .int p1, .ref (adr G 16 0)] (GH G w) (fun v H => v = some (.int k) ∧ GH G w3 H) := by
  refine CTW.of miL_echoesHeard [(0, .ref (adr G 0 0)), (1, .int p1), (2, .ref (adr G 16 0))] rfl (Nat.le_of_ble_eq_true rfl) ?_
  intro p e s m args below meth c hX hNC hT hR hlk
  have hX : FX G RL cL_echoesHeard 4 p s m args c := hX
  unfold FL_echoesHeard at hF
  refine J_aload_n hX dL_echoesHeard_0 2 rfl (t := 1) rfl ?_
  refine J_iconst (v := 0) hX dL_echoesHeard_1 (by decide) (t := 2) rfl ?_
  refine J_aload_n hX dL_echoesHeard_2 0 rfl (t := 3) rfl ?_
  refine J_iload_n hX dL_echoesHeard_3 1 rfl (t := 4) rfl ?_
  rcases lwW_e hF with ⟨v, w2, hr, hk, hw3⟩ | ⟨E, hr, hK⟩
  · subst hk
    subst hw3
    obtain ⟨hr9, hw⟩ := okW_o hr
    subst hw
    replace hr := hr9
    refine J_callV hX [.int p1] [.int 0, .ref (adr G 16 0)] [.int v, .int 0, .ref (adr G 16 0)] (ctX12_echoesHeard (G := G) (l := l) w p1 hr) miX12_echoesHeard mvX12_echoesHeard cb9 kEcho q_1424 ⟨rfl, rfl, Nat.le_of_ble_eq_true rfl, Nat.le_of_ble_eq_true rfl⟩ rfl rfl (Nat.le_of_ble_eq_true rfl) ⟨Nat.le_of_ble_eq_true rfl, Nat.le_of_ble_eq_true rfl⟩ dL_echoesHeard_4 (t := 7) rfl rfl ?_
    refine J_i2l hX dL_echoesHeard_7 (t := 8) rfl ?_
    refine J_last (w2 := sW w 16 (sL (w 16) 0 0 v.toInt64)) (k9 := 0) hX kOut (by decide) rfl rfl dL_echoesHeard_8 (t := 9) rfl ?_
    refine J_goto (tgt := 15) hX dL_echoesHeard_9 (by decide) ?_
    refine J_iconst (v := 0) hX dL_echoesHeard_15 (by decide) (t := 16) rfl ?_
    refine J_wid (k := 1) (n := 6) (by decide) (by decide) ?_
    exact J_iretP hX hR hlk (fun H h => ⟨rfl, h⟩) dL_echoesHeard_16
  · replace hr := okW_x hr
    by_cases e0 : E = "java/lang/IndexOutOfBoundsException"
    · subst e0
      cases hK
      refine J_callVT hX [.int p1] [.int 0, .ref (adr G 16 0)] (ceX12_echoesHeard (G := G) (l := l) hl w p1 hr) miX12_echoesHeard mvX12_echoesHeard cb9 kEcho q_1424 ⟨rfl, rfl, Nat.le_of_ble_eq_true rfl, Nat.le_of_ble_eq_true rfl⟩ rfl rfl (Nat.le_of_ble_eq_true rfl) ⟨Nat.le_of_ble_eq_true rfl, Nat.le_of_ble_eq_true rfl⟩ dL_echoesHeard_4 ?_
      refine JT_catch hX (name := "java/lang/IndexOutOfBoundsException") [] _ _ hT (fun z hz => absurd hz List.not_mem_nil) (by decide) (by decide) q_1315 (hX.cast (by simp [castL])) (fun q => ?_)
      refine J_astore_n (lc2 := [(3, .ref q), (0, .ref (adr G 0 0)), (1, .int p1), (2, .ref (adr G 16 0))]) hX dL_echoesHeard_12 rfl (Nat.le_of_ble_eq_true rfl) rfl (t := 13) rfl ?_
      refine J_iconst (v := 1) hX dL_echoesHeard_13 (by decide) (t := 14) rfl ?_
      refine J_wid (k := 1) (n := 6) (by decide) (by decide) ?_
      exact J_iretP hX hR hlk (fun H h => ⟨rfl, h⟩) dL_echoesHeard_14
    replace hK := it_f hK e0
    cases hK
abbrev rmL_heldFor : Room := { frames := 9, cells := 1, slots := 6, locals := 152 }
theorem miL_heldFor : MIW yL_heldFor cL_heldFor 4 (some .int) [(0, 9, 12, 32)] 3 := ⟨q_1430, q_135, by decide +kernel, by decide +kernel, by decide +kernel, by decide +kernel⟩
def FL_heldFor (w : Wd) (p1 : Int32) : Option (Int32 × Wd) := lwW (fun E => if E = "java/lang/IndexOutOfBoundsException" then some 1 else none) (okW w (FX12_heldFor w p1))
set_option maxHeartbeats 4000000 in
theorem ctL_heldFor {G : GG} {l : Launch} (hl : l.stackTraces = false) (w : Wd) (p1 : Int32) {k : Int32} {w3 : Wd} (hF : FL_heldFor w p1 = some (k, w3)) : CTW G l yL_heldFor cL_heldFor 4 (some .int) [(0, 9, 12, 32)] rmL_heldFor 1 6 [.ref (adr G 0 0), .int p1, .ref (adr G 16 0)] (GH G w) (fun v H => v = some (.int k) ∧ GH G w3 H) := by
  refine CTW.of miL_heldFor [(0, .ref (adr G 0 0)), (1, .int p1), (2, .ref (adr G 16 0))] rfl (Nat.le_of_ble_eq_true rfl) ?_
  intro p e s m args below meth c hX hNC hT hR hlk
  have hX : FX G RL cL_heldFor 4 p s m args c := hX
  unfold FL_heldFor at hF
  refine J_aload_n hX dL_heldFor_0 2 rfl (t := 1) rfl ?_
  refine J_iconst (v := 0) hX dL_heldFor_1 (by decide) (t := 2) rfl ?_
  refine J_aload_n hX dL_heldFor_2 0 rfl (t := 3) rfl ?_
  refine J_iload_n hX dL_heldFor_3 1 rfl (t := 4) rfl ?_
  rcases lwW_e hF with ⟨v, w2, hr, hk, hw3⟩ | ⟨E, hr, hK⟩
  · subst hk
    subst hw3
    obtain ⟨hr9, hw⟩ := okW_o hr
    subst hw
    replace hr := hr9
    refine J_callV hX [.int p1] [.int 0, .ref (adr G 16 0)] [.int v, .int 0, .ref (adr G 16 0)] (ctX12_heldFor (G := G) (l := l) w p1 hr) miX12_heldFor mvX12_heldFor cb9 kEcho q_1431 ⟨rfl, rfl, Nat.le_of_ble_eq_true rfl, Nat.le_of_ble_eq_true rfl⟩ rfl rfl (Nat.le_of_ble_eq_true rfl) ⟨Nat.le_of_ble_eq_true rfl, Nat.le_of_ble_eq_true rfl⟩ dL_heldFor_4 (t := 7) rfl rfl ?_
    refine J_i2l hX dL_heldFor_7 (t := 8) rfl ?_
    refine J_last (w2 := sW w 16 (sL (w 16) 0 0 v.toInt64)) (k9 := 0) hX kOut (by decide) rfl rfl dL_heldFor_8 (t := 9) rfl ?_
    refine J_goto (tgt := 15) hX dL_heldFor_9 (by decide) ?_
    refine J_iconst (v := 0) hX dL_heldFor_15 (by decide) (t := 16) rfl ?_
    refine J_wid (k := 1) (n := 6) (by decide) (by decide) ?_
    exact J_iretP hX hR hlk (fun H h => ⟨rfl, h⟩) dL_heldFor_16
  · replace hr := okW_x hr
    by_cases e0 : E = "java/lang/IndexOutOfBoundsException"
    · subst e0
      cases hK
      refine J_callVT hX [.int p1] [.int 0, .ref (adr G 16 0)] (ceX12_heldFor (G := G) (l := l) hl w p1 hr) miX12_heldFor mvX12_heldFor cb9 kEcho q_1431 ⟨rfl, rfl, Nat.le_of_ble_eq_true rfl, Nat.le_of_ble_eq_true rfl⟩ rfl rfl (Nat.le_of_ble_eq_true rfl) ⟨Nat.le_of_ble_eq_true rfl, Nat.le_of_ble_eq_true rfl⟩ dL_heldFor_4 ?_
      refine JT_catch hX (name := "java/lang/IndexOutOfBoundsException") [] _ _ hT (fun z hz => absurd hz List.not_mem_nil) (by decide) (by decide) q_1315 (hX.cast (by simp [castL])) (fun q => ?_)
      refine J_astore_n (lc2 := [(3, .ref q), (0, .ref (adr G 0 0)), (1, .int p1), (2, .ref (adr G 16 0))]) hX dL_heldFor_12 rfl (Nat.le_of_ble_eq_true rfl) rfl (t := 13) rfl ?_
      refine J_iconst (v := 1) hX dL_heldFor_13 (by decide) (t := 14) rfl ?_
      refine J_wid (k := 1) (n := 6) (by decide) (by decide) ?_
      exact J_iretP hX hR hlk (fun H h => ⟨rfl, h⟩) dL_heldFor_14
    replace hK := it_f hK e0
    cases hK
abbrev rmL_shoutCustomer : Room := { frames := 9, cells := 1, slots := 6, locals := 152 }
theorem miL_shoutCustomer : MIW yL_shoutCustomer cL_shoutCustomer 4 (some .int) [(0, 9, 12, 32)] 3 := ⟨q_1437, q_135, by decide +kernel, by decide +kernel, by decide +kernel, by decide +kernel⟩
def FL_shoutCustomer (w : Wd) (p1 : Int32) : Option (Int32 × Wd) := lwW (fun E => if E = "java/lang/IndexOutOfBoundsException" then some 1 else none) (okW w (FX12_shoutCustomer w p1))
set_option maxHeartbeats 4000000 in
theorem ctL_shoutCustomer {G : GG} {l : Launch} (hl : l.stackTraces = false) (w : Wd) (p1 : Int32) {k : Int32} {w3 : Wd} (hF : FL_shoutCustomer w p1 = some (k, w3)) : CTW G l yL_shoutCustomer cL_shoutCustomer 4 (some .int) [(0, 9, 12, 32)] rmL_shoutCustomer 1 6 [.ref (adr G 0 0), .int p1, .ref (adr G 16 0)] (GH G w) (fun v H => v = some (.int k) ∧ GH G w3 H) := by
  refine CTW.of miL_shoutCustomer [(0, .ref (adr G 0 0)), (1, .int p1), (2, .ref (adr G 16 0))] rfl (Nat.le_of_ble_eq_true rfl) ?_
  intro p e s m args below meth c hX hNC hT hR hlk
  have hX : FX G RL cL_shoutCustomer 4 p s m args c := hX
  unfold FL_shoutCustomer at hF
  refine J_aload_n hX dL_shoutCustomer_0 2 rfl (t := 1) rfl ?_
  refine J_iconst (v := 0) hX dL_shoutCustomer_1 (by decide) (t := 2) rfl ?_
  refine J_aload_n hX dL_shoutCustomer_2 0 rfl (t := 3) rfl ?_
  refine J_iload_n hX dL_shoutCustomer_3 1 rfl (t := 4) rfl ?_
  rcases lwW_e hF with ⟨v, w2, hr, hk, hw3⟩ | ⟨E, hr, hK⟩
  · subst hk
    subst hw3
    obtain ⟨hr9, hw⟩ := okW_o hr
    subst hw
    replace hr := hr9
    refine J_callV hX [.int p1] [.int 0, .ref (adr G 16 0)] [.int v, .int 0, .ref (adr G 16 0)] (ctX12_shoutCustomer (G := G) (l := l) w p1 hr) miX12_shoutCustomer mvX12_shoutCustomer cb9 kEcho q_1438 ⟨rfl, rfl, Nat.le_of_ble_eq_true rfl, Nat.le_of_ble_eq_true rfl⟩ rfl rfl (Nat.le_of_ble_eq_true rfl) ⟨Nat.le_of_ble_eq_true rfl, Nat.le_of_ble_eq_true rfl⟩ dL_shoutCustomer_4 (t := 7) rfl rfl ?_
    refine J_i2l hX dL_shoutCustomer_7 (t := 8) rfl ?_
    refine J_last (w2 := sW w 16 (sL (w 16) 0 0 v.toInt64)) (k9 := 0) hX kOut (by decide) rfl rfl dL_shoutCustomer_8 (t := 9) rfl ?_
    refine J_goto (tgt := 15) hX dL_shoutCustomer_9 (by decide) ?_
    refine J_iconst (v := 0) hX dL_shoutCustomer_15 (by decide) (t := 16) rfl ?_
    refine J_wid (k := 1) (n := 6) (by decide) (by decide) ?_
    exact J_iretP hX hR hlk (fun H h => ⟨rfl, h⟩) dL_shoutCustomer_16
  · replace hr := okW_x hr
    by_cases e0 : E = "java/lang/IndexOutOfBoundsException"
    · subst e0
      cases hK
      refine J_callVT hX [.int p1] [.int 0, .ref (adr G 16 0)] (ceX12_shoutCustomer (G := G) (l := l) hl w p1 hr) miX12_shoutCustomer mvX12_shoutCustomer cb9 kEcho q_1438 ⟨rfl, rfl, Nat.le_of_ble_eq_true rfl, Nat.le_of_ble_eq_true rfl⟩ rfl rfl (Nat.le_of_ble_eq_true rfl) ⟨Nat.le_of_ble_eq_true rfl, Nat.le_of_ble_eq_true rfl⟩ dL_shoutCustomer_4 ?_
      refine JT_catch hX (name := "java/lang/IndexOutOfBoundsException") [] _ _ hT (fun z hz => absurd hz List.not_mem_nil) (by decide) (by decide) q_1315 (hX.cast (by simp [castL])) (fun q => ?_)
      refine J_astore_n (lc2 := [(3, .ref q), (0, .ref (adr G 0 0)), (1, .int p1), (2, .ref (adr G 16 0))]) hX dL_shoutCustomer_12 rfl (Nat.le_of_ble_eq_true rfl) rfl (t := 13) rfl ?_
      refine J_iconst (v := 1) hX dL_shoutCustomer_13 (by decide) (t := 14) rfl ?_
      refine J_wid (k := 1) (n := 6) (by decide) (by decide) ?_
      exact J_iretP hX hR hlk (fun H h => ⟨rfl, h⟩) dL_shoutCustomer_14
    replace hK := it_f hK e0
    cases hK
abbrev rmL_shoutValley : Room := { frames := 9, cells := 1, slots := 6, locals := 152 }
theorem miL_shoutValley : MIW yL_shoutValley cL_shoutValley 4 (some .int) [(0, 9, 12, 32)] 3 := ⟨q_1449, q_135, by decide +kernel, by decide +kernel, by decide +kernel, by decide +kernel⟩
def FL_shoutValley (w : Wd) (p1 : Int32) : Option (Int32 × Wd) := lwW (fun E => if E = "java/lang/IndexOutOfBoundsException" then some 1 else none) (okW w (FX12_shoutValley w p1))
set_option maxHeartbeats 4000000 in
theorem ctL_shoutValley {G : GG} {l : Launch} (hl : l.stackTraces = false) (w : Wd) (p1 : Int32) {k : Int32} {w3 : Wd} (hF : FL_shoutValley w p1 = some (k, w3)) : CTW G l yL_shoutValley cL_shoutValley 4 (some .int) [(0, 9, 12, 32)] rmL_shoutValley 1 6 [.ref (adr G 0 0), .int p1, .ref (adr G 16 0)] (GH G w) (fun v H => v = some (.int k) ∧ GH G w3 H) := by
  refine CTW.of miL_shoutValley [(0, .ref (adr G 0 0)), (1, .int p1), (2, .ref (adr G 16 0))] rfl (Nat.le_of_ble_eq_true rfl) ?_
  intro p e s m args below meth c hX hNC hT hR hlk
  have hX : FX G RL cL_shoutValley 4 p s m args c := hX
  unfold FL_shoutValley at hF
  refine J_aload_n hX dL_shoutValley_0 2 rfl (t := 1) rfl ?_
  refine J_iconst (v := 0) hX dL_shoutValley_1 (by decide) (t := 2) rfl ?_
  refine J_aload_n hX dL_shoutValley_2 0 rfl (t := 3) rfl ?_
  refine J_iload_n hX dL_shoutValley_3 1 rfl (t := 4) rfl ?_
  rcases lwW_e hF with ⟨v, w2, hr, hk, hw3⟩ | ⟨E, hr, hK⟩
  · subst hk
    subst hw3
    obtain ⟨hr9, hw⟩ := okW_o hr
    subst hw
    replace hr := hr9
    refine J_callV hX [.int p1] [.int 0, .ref (adr G 16 0)] [.int v, .int 0, .ref (adr G 16 0)] (ctX12_shoutValley (G := G) (l := l) w p1 hr) miX12_shoutValley mvX12_shoutValley cb9 kEcho q_1450 ⟨rfl, rfl, Nat.le_of_ble_eq_true rfl, Nat.le_of_ble_eq_true rfl⟩ rfl rfl (Nat.le_of_ble_eq_true rfl) ⟨Nat.le_of_ble_eq_true rfl, Nat.le_of_ble_eq_true rfl⟩ dL_shoutValley_4 (t := 7) rfl rfl ?_
    refine J_i2l hX dL_shoutValley_7 (t := 8) rfl ?_
    refine J_last (w2 := sW w 16 (sL (w 16) 0 0 v.toInt64)) (k9 := 0) hX kOut (by decide) rfl rfl dL_shoutValley_8 (t := 9) rfl ?_
    refine J_goto (tgt := 15) hX dL_shoutValley_9 (by decide) ?_
    refine J_iconst (v := 0) hX dL_shoutValley_15 (by decide) (t := 16) rfl ?_
    refine J_wid (k := 1) (n := 6) (by decide) (by decide) ?_
    exact J_iretP hX hR hlk (fun H h => ⟨rfl, h⟩) dL_shoutValley_16
  · replace hr := okW_x hr
    by_cases e0 : E = "java/lang/IndexOutOfBoundsException"
    · subst e0
      cases hK
      refine J_callVT hX [.int p1] [.int 0, .ref (adr G 16 0)] (ceX12_shoutValley (G := G) (l := l) hl w p1 hr) miX12_shoutValley mvX12_shoutValley cb9 kEcho q_1450 ⟨rfl, rfl, Nat.le_of_ble_eq_true rfl, Nat.le_of_ble_eq_true rfl⟩ rfl rfl (Nat.le_of_ble_eq_true rfl) ⟨Nat.le_of_ble_eq_true rfl, Nat.le_of_ble_eq_true rfl⟩ dL_shoutValley_4 ?_
      refine JT_catch hX (name := "java/lang/IndexOutOfBoundsException") [] _ _ hT (fun z hz => absurd hz List.not_mem_nil) (by decide) (by decide) q_1315 (hX.cast (by simp [castL])) (fun q => ?_)
      refine J_astore_n (lc2 := [(3, .ref q), (0, .ref (adr G 0 0)), (1, .int p1), (2, .ref (adr G 16 0))]) hX dL_shoutValley_12 rfl (Nat.le_of_ble_eq_true rfl) rfl (t := 13) rfl ?_
      refine J_iconst (v := 1) hX dL_shoutValley_13 (by decide) (t := 14) rfl ?_
      refine J_wid (k := 1) (n := 6) (by decide) (by decide) ?_
      exact J_iretP hX hR hlk (fun H h => ⟨rfl, h⟩) dL_shoutValley_14
    replace hK := it_f hK e0
    cases hK
abbrev rmL_shoutState : Room := { frames := 9, cells := 1, slots := 6, locals := 152 }
theorem miL_shoutState : MIW yL_shoutState cL_shoutState 4 (some .int) [(0, 9, 12, 32)] 3 := ⟨q_1456, q_135, by decide +kernel, by decide +kernel, by decide +kernel, by decide +kernel⟩
def FL_shoutState (w : Wd) (p1 : Int32) : Option (Int32 × Wd) := lwW (fun E => if E = "java/lang/IndexOutOfBoundsException" then some 1 else none) (okW w (FX12_shoutState w p1))
set_option maxHeartbeats 4000000 in
theorem ctL_shoutState {G : GG} {l : Launch} (hl : l.stackTraces = false) (w : Wd) (p1 : Int32) {k : Int32} {w3 : Wd} (hF : FL_shoutState w p1 = some (k, w3)) : CTW G l yL_shoutState cL_shoutState 4 (some .int) [(0, 9, 12, 32)] rmL_shoutState 1 6 [.ref (adr G 0 0), .int p1, .ref (adr G 16 0)] (GH G w) (fun v H => v = some (.int k) ∧ GH G w3 H) := by
  refine CTW.of miL_shoutState [(0, .ref (adr G 0 0)), (1, .int p1), (2, .ref (adr G 16 0))] rfl (Nat.le_of_ble_eq_true rfl) ?_
  intro p e s m args below meth c hX hNC hT hR hlk
  have hX : FX G RL cL_shoutState 4 p s m args c := hX
  unfold FL_shoutState at hF
  refine J_aload_n hX dL_shoutState_0 2 rfl (t := 1) rfl ?_
  refine J_iconst (v := 0) hX dL_shoutState_1 (by decide) (t := 2) rfl ?_
  refine J_aload_n hX dL_shoutState_2 0 rfl (t := 3) rfl ?_
  refine J_iload_n hX dL_shoutState_3 1 rfl (t := 4) rfl ?_
  rcases lwW_e hF with ⟨v, w2, hr, hk, hw3⟩ | ⟨E, hr, hK⟩
  · subst hk
    subst hw3
    obtain ⟨hr9, hw⟩ := okW_o hr
    subst hw
    replace hr := hr9
    refine J_callV hX [.int p1] [.int 0, .ref (adr G 16 0)] [.int v, .int 0, .ref (adr G 16 0)] (ctX12_shoutState (G := G) (l := l) w p1 hr) miX12_shoutState mvX12_shoutState cb9 kEcho q_1457 ⟨rfl, rfl, Nat.le_of_ble_eq_true rfl, Nat.le_of_ble_eq_true rfl⟩ rfl rfl (Nat.le_of_ble_eq_true rfl) ⟨Nat.le_of_ble_eq_true rfl, Nat.le_of_ble_eq_true rfl⟩ dL_shoutState_4 (t := 7) rfl rfl ?_
    refine J_i2l hX dL_shoutState_7 (t := 8) rfl ?_
    refine J_last (w2 := sW w 16 (sL (w 16) 0 0 v.toInt64)) (k9 := 0) hX kOut (by decide) rfl rfl dL_shoutState_8 (t := 9) rfl ?_
    refine J_goto (tgt := 15) hX dL_shoutState_9 (by decide) ?_
    refine J_iconst (v := 0) hX dL_shoutState_15 (by decide) (t := 16) rfl ?_
    refine J_wid (k := 1) (n := 6) (by decide) (by decide) ?_
    exact J_iretP hX hR hlk (fun H h => ⟨rfl, h⟩) dL_shoutState_16
  · replace hr := okW_x hr
    by_cases e0 : E = "java/lang/IndexOutOfBoundsException"
    · subst e0
      cases hK
      refine J_callVT hX [.int p1] [.int 0, .ref (adr G 16 0)] (ceX12_shoutState (G := G) (l := l) hl w p1 hr) miX12_shoutState mvX12_shoutState cb9 kEcho q_1457 ⟨rfl, rfl, Nat.le_of_ble_eq_true rfl, Nat.le_of_ble_eq_true rfl⟩ rfl rfl (Nat.le_of_ble_eq_true rfl) ⟨Nat.le_of_ble_eq_true rfl, Nat.le_of_ble_eq_true rfl⟩ dL_shoutState_4 ?_
      refine JT_catch hX (name := "java/lang/IndexOutOfBoundsException") [] _ _ hT (fun z hz => absurd hz List.not_mem_nil) (by decide) (by decide) q_1315 (hX.cast (by simp [castL])) (fun q => ?_)
      refine J_astore_n (lc2 := [(3, .ref q), (0, .ref (adr G 0 0)), (1, .int p1), (2, .ref (adr G 16 0))]) hX dL_shoutState_12 rfl (Nat.le_of_ble_eq_true rfl) rfl (t := 13) rfl ?_
      refine J_iconst (v := 1) hX dL_shoutState_13 (by decide) (t := 14) rfl ?_
      refine J_wid (k := 1) (n := 6) (by decide) (by decide) ?_
      exact J_iretP hX hR hlk (fun H h => ⟨rfl, h⟩) dL_shoutState_14
    replace hK := it_f hK e0
    cases hK
abbrev rmL_returns : Room := { frames := 9, cells := 1, slots := 6, locals := 152 }
theorem miL_returns : MIW yL_returns cL_returns 4 (some .int) [(0, 9, 12, 32)] 3 := ⟨q_1463, q_135, by decide +kernel, by decide +kernel, by decide +kernel, by decide +kernel⟩
def FL_returns (w : Wd) (p1 : Int32) : Option (Int32 × Wd) := lwW (fun E => if E = "java/lang/IndexOutOfBoundsException" then some 1 else none) (okW w (FX12_returns w p1))
set_option maxHeartbeats 4000000 in
theorem ctL_returns {G : GG} {l : Launch} (hl : l.stackTraces = false) (w : Wd) (p1 : Int32) {k : Int32} {w3 : Wd} (hF : FL_returns w p1 = some (k, w3)) : CTW G l yL_returns cL_returns 4 (some .int) [(0, 9, 12, 32)] rmL_returns 1 6 [.ref (adr G 0 0), .int p1, .ref (adr G 16 0)] (GH G w) (fun v H => v = some (.int k) ∧ GH G w3 H) := by
  refine CTW.of miL_returns [(0, .ref (adr G 0 0)), (1, .int p1), (2, .ref (adr G 16 0))] rfl (Nat.le_of_ble_eq_true rfl) ?_
  intro p e s m args below meth c hX hNC hT hR hlk
  have hX : FX G RL cL_returns 4 p s m args c := hX
  unfold FL_returns at hF
  refine J_aload_n hX dL_returns_0 2 rfl (t := 1) rfl ?_
  refine J_iconst (v := 0) hX dL_returns_1 (by decide) (t := 2) rfl ?_
  refine J_aload_n hX dL_returns_2 0 rfl (t := 3) rfl ?_
  refine J_iload_n hX dL_returns_3 1 rfl (t := 4) rfl ?_
  rcases lwW_e hF with ⟨v, w2, hr, hk, hw3⟩ | ⟨E, hr, hK⟩
  · subst hk
    subst hw3
    obtain ⟨hr9, hw⟩ := okW_o hr
    subst hw
    replace hr := hr9
    refine J_callV hX [.int p1] [.int 0, .ref (adr G 16 0)] [.int v, .int 0, .ref (adr G 16 0)] (ctX12_returns (G := G) (l := l) w p1 hr) miX12_returns mvX12_returns cb9 kEcho q_1464 ⟨rfl, rfl, Nat.le_of_ble_eq_true rfl, Nat.le_of_ble_eq_true rfl⟩ rfl rfl (Nat.le_of_ble_eq_true rfl) ⟨Nat.le_of_ble_eq_true rfl, Nat.le_of_ble_eq_true rfl⟩ dL_returns_4 (t := 7) rfl rfl ?_
    refine J_i2l hX dL_returns_7 (t := 8) rfl ?_
    refine J_last (w2 := sW w 16 (sL (w 16) 0 0 v.toInt64)) (k9 := 0) hX kOut (by decide) rfl rfl dL_returns_8 (t := 9) rfl ?_
    refine J_goto (tgt := 15) hX dL_returns_9 (by decide) ?_
    refine J_iconst (v := 0) hX dL_returns_15 (by decide) (t := 16) rfl ?_
    refine J_wid (k := 1) (n := 6) (by decide) (by decide) ?_
    exact J_iretP hX hR hlk (fun H h => ⟨rfl, h⟩) dL_returns_16
  · replace hr := okW_x hr
    by_cases e0 : E = "java/lang/IndexOutOfBoundsException"
    · subst e0
      cases hK
      refine J_callVT hX [.int p1] [.int 0, .ref (adr G 16 0)] (ceX12_returns (G := G) (l := l) hl w p1 hr) miX12_returns mvX12_returns cb9 kEcho q_1464 ⟨rfl, rfl, Nat.le_of_ble_eq_true rfl, Nat.le_of_ble_eq_true rfl⟩ rfl rfl (Nat.le_of_ble_eq_true rfl) ⟨Nat.le_of_ble_eq_true rfl, Nat.le_of_ble_eq_true rfl⟩ dL_returns_4 ?_
      refine JT_catch hX (name := "java/lang/IndexOutOfBoundsException") [] _ _ hT (fun z hz => absurd hz List.not_mem_nil) (by decide) (by decide) q_1315 (hX.cast (by simp [castL])) (fun q => ?_)
      refine J_astore_n (lc2 := [(3, .ref q), (0, .ref (adr G 0 0)), (1, .int p1), (2, .ref (adr G 16 0))]) hX dL_returns_12 rfl (Nat.le_of_ble_eq_true rfl) rfl (t := 13) rfl ?_
      refine J_iconst (v := 1) hX dL_returns_13 (by decide) (t := 14) rfl ?_
      refine J_wid (k := 1) (n := 6) (by decide) (by decide) ?_
      exact J_iretP hX hR hlk (fun H h => ⟨rfl, h⟩) dL_returns_14
    replace hK := it_f hK e0
    cases hK
abbrev rmL_receipt : Room := { frames := 9, cells := 1, slots := 6, locals := 152 }
theorem miL_receipt : MIW yL_receipt cL_receipt 4 (some .int) [(0, 9, 12, 32)] 3 := ⟨q_1470, q_135, by decide +kernel, by decide +kernel, by decide +kernel, by decide +kernel⟩
def FL_receipt (w : Wd) (p1 : Int32) : Option (Int32 × Wd) := lwW (fun E => if E = "java/lang/IndexOutOfBoundsException" then some 1 else none) (okW w (FX12_receipt w p1))
set_option maxHeartbeats 4000000 in
theorem ctL_receipt {G : GG} {l : Launch} (hl : l.stackTraces = false) (w : Wd) (p1 : Int32) {k : Int32} {w3 : Wd} (hF : FL_receipt w p1 = some (k, w3)) : CTW G l yL_receipt cL_receipt 4 (some .int) [(0, 9, 12, 32)] rmL_receipt 1 6 [.ref (adr G 0 0), .int p1, .ref (adr G 16 0)] (GH G w) (fun v H => v = some (.int k) ∧ GH G w3 H) := by
  refine CTW.of miL_receipt [(0, .ref (adr G 0 0)), (1, .int p1), (2, .ref (adr G 16 0))] rfl (Nat.le_of_ble_eq_true rfl) ?_
  intro p e s m args below meth c hX hNC hT hR hlk
  have hX : FX G RL cL_receipt 4 p s m args c := hX
  unfold FL_receipt at hF
  refine J_aload_n hX dL_receipt_0 2 rfl (t := 1) rfl ?_
  refine J_iconst (v := 0) hX dL_receipt_1 (by decide) (t := 2) rfl ?_
  refine J_aload_n hX dL_receipt_2 0 rfl (t := 3) rfl ?_
  refine J_iload_n hX dL_receipt_3 1 rfl (t := 4) rfl ?_
  rcases lwW_e hF with ⟨v, w2, hr, hk, hw3⟩ | ⟨E, hr, hK⟩
  · subst hk
    subst hw3
    obtain ⟨hr9, hw⟩ := okW_o hr
    subst hw
    replace hr := hr9
    refine J_callV hX [.int p1] [.int 0, .ref (adr G 16 0)] [.int v, .int 0, .ref (adr G 16 0)] (ctX12_receipt (G := G) (l := l) w p1 hr) miX12_receipt mvX12_receipt cb9 kEcho q_1471 ⟨rfl, rfl, Nat.le_of_ble_eq_true rfl, Nat.le_of_ble_eq_true rfl⟩ rfl rfl (Nat.le_of_ble_eq_true rfl) ⟨Nat.le_of_ble_eq_true rfl, Nat.le_of_ble_eq_true rfl⟩ dL_receipt_4 (t := 7) rfl rfl ?_
    refine J_i2l hX dL_receipt_7 (t := 8) rfl ?_
    refine J_last (w2 := sW w 16 (sL (w 16) 0 0 v.toInt64)) (k9 := 0) hX kOut (by decide) rfl rfl dL_receipt_8 (t := 9) rfl ?_
    refine J_goto (tgt := 15) hX dL_receipt_9 (by decide) ?_
    refine J_iconst (v := 0) hX dL_receipt_15 (by decide) (t := 16) rfl ?_
    refine J_wid (k := 1) (n := 6) (by decide) (by decide) ?_
    exact J_iretP hX hR hlk (fun H h => ⟨rfl, h⟩) dL_receipt_16
  · replace hr := okW_x hr
    by_cases e0 : E = "java/lang/IndexOutOfBoundsException"
    · subst e0
      cases hK
      refine J_callVT hX [.int p1] [.int 0, .ref (adr G 16 0)] (ceX12_receipt (G := G) (l := l) hl w p1 hr) miX12_receipt mvX12_receipt cb9 kEcho q_1471 ⟨rfl, rfl, Nat.le_of_ble_eq_true rfl, Nat.le_of_ble_eq_true rfl⟩ rfl rfl (Nat.le_of_ble_eq_true rfl) ⟨Nat.le_of_ble_eq_true rfl, Nat.le_of_ble_eq_true rfl⟩ dL_receipt_4 ?_
      refine JT_catch hX (name := "java/lang/IndexOutOfBoundsException") [] _ _ hT (fun z hz => absurd hz List.not_mem_nil) (by decide) (by decide) q_1315 (hX.cast (by simp [castL])) (fun q => ?_)
      refine J_astore_n (lc2 := [(3, .ref q), (0, .ref (adr G 0 0)), (1, .int p1), (2, .ref (adr G 16 0))]) hX dL_receipt_12 rfl (Nat.le_of_ble_eq_true rfl) rfl (t := 13) rfl ?_
      refine J_iconst (v := 1) hX dL_receipt_13 (by decide) (t := 14) rfl ?_
      refine J_wid (k := 1) (n := 6) (by decide) (by decide) ?_
      exact J_iretP hX hR hlk (fun H h => ⟨rfl, h⟩) dL_receipt_14
    replace hK := it_f hK e0
    cases hK
abbrev rmL_nextReturn : Room := { frames := 9, cells := 1, slots := 6, locals := 153 }
theorem miL_nextReturn : MIW yL_nextReturn cL_nextReturn 4 (some .int) [(0, 9, 12, 32)] 3 := ⟨q_1487, q_135, by decide +kernel, by decide +kernel, by decide +kernel, by decide +kernel⟩
def FL_nextReturn (w : Wd) (p1 : Int32) : Option (Int32 × Wd) := lwW (fun E => if E = "java/lang/IndexOutOfBoundsException" then some 1 else none) (okW w (FX12_nextReturn w p1))
set_option maxHeartbeats 4000000 in
theorem ctL_nextReturn {G : GG} {l : Launch} (hl : l.stackTraces = false) (w : Wd) (p1 : Int32) {k : Int32} {w3 : Wd} (hF : FL_nextReturn w p1 = some (k, w3)) : CTW G l yL_nextReturn cL_nextReturn 4 (some .int) [(0, 9, 12, 32)] rmL_nextReturn 1 6 [.ref (adr G 0 0), .int p1, .ref (adr G 16 0)] (GH G w) (fun v H => v = some (.int k) ∧ GH G w3 H) := by
  refine CTW.of miL_nextReturn [(0, .ref (adr G 0 0)), (1, .int p1), (2, .ref (adr G 16 0))] rfl (Nat.le_of_ble_eq_true rfl) ?_
  intro p e s m args below meth c hX hNC hT hR hlk
  have hX : FX G RL cL_nextReturn 4 p s m args c := hX
  unfold FL_nextReturn at hF
  refine J_aload_n hX dL_nextReturn_0 2 rfl (t := 1) rfl ?_
  refine J_iconst (v := 0) hX dL_nextReturn_1 (by decide) (t := 2) rfl ?_
  refine J_aload_n hX dL_nextReturn_2 0 rfl (t := 3) rfl ?_
  refine J_iload_n hX dL_nextReturn_3 1 rfl (t := 4) rfl ?_
  rcases lwW_e hF with ⟨v, w2, hr, hk, hw3⟩ | ⟨E, hr, hK⟩
  · subst hk
    subst hw3
    obtain ⟨hr9, hw⟩ := okW_o hr
    subst hw
    replace hr := hr9
    refine J_callV hX [.int p1] [.int 0, .ref (adr G 16 0)] [.int v, .int 0, .ref (adr G 16 0)] (ctX12_nextReturn (G := G) (l := l) w p1 hr) miX12_nextReturn mvX12_nextReturn cb9 kEcho q_1488 ⟨rfl, rfl, Nat.le_of_ble_eq_true rfl, Nat.le_of_ble_eq_true rfl⟩ rfl rfl (Nat.le_of_ble_eq_true rfl) ⟨Nat.le_of_ble_eq_true rfl, Nat.le_of_ble_eq_true rfl⟩ dL_nextReturn_4 (t := 7) rfl rfl ?_
    refine J_i2l hX dL_nextReturn_7 (t := 8) rfl ?_
    refine J_last (w2 := sW w 16 (sL (w 16) 0 0 v.toInt64)) (k9 := 0) hX kOut (by decide) rfl rfl dL_nextReturn_8 (t := 9) rfl ?_
    refine J_goto (tgt := 15) hX dL_nextReturn_9 (by decide) ?_
    refine J_iconst (v := 0) hX dL_nextReturn_15 (by decide) (t := 16) rfl ?_
    refine J_wid (k := 1) (n := 6) (by decide) (by decide) ?_
    exact J_iretP hX hR hlk (fun H h => ⟨rfl, h⟩) dL_nextReturn_16
  · replace hr := okW_x hr
    by_cases e0 : E = "java/lang/IndexOutOfBoundsException"
    · subst e0
      cases hK
      refine J_callVT hX [.int p1] [.int 0, .ref (adr G 16 0)] (ceX12_nextReturn (G := G) (l := l) hl w p1 hr) miX12_nextReturn mvX12_nextReturn cb9 kEcho q_1488 ⟨rfl, rfl, Nat.le_of_ble_eq_true rfl, Nat.le_of_ble_eq_true rfl⟩ rfl rfl (Nat.le_of_ble_eq_true rfl) ⟨Nat.le_of_ble_eq_true rfl, Nat.le_of_ble_eq_true rfl⟩ dL_nextReturn_4 ?_
      refine JT_catch hX (name := "java/lang/IndexOutOfBoundsException") [] _ _ hT (fun z hz => absurd hz List.not_mem_nil) (by decide) (by decide) q_1315 (hX.cast (by simp [castL])) (fun q => ?_)
      refine J_astore_n (lc2 := [(3, .ref q), (0, .ref (adr G 0 0)), (1, .int p1), (2, .ref (adr G 16 0))]) hX dL_nextReturn_12 rfl (Nat.le_of_ble_eq_true rfl) rfl (t := 13) rfl ?_
      refine J_iconst (v := 1) hX dL_nextReturn_13 (by decide) (t := 14) rfl ?_
      refine J_wid (k := 1) (n := 6) (by decide) (by decide) ?_
      exact J_iretP hX hR hlk (fun H h => ⟨rfl, h⟩) dL_nextReturn_14
    replace hK := it_f hK e0
    cases hK
abbrev rmL_patienceEnds : Room := { frames := 9, cells := 1, slots := 6, locals := 152 }
theorem miL_patienceEnds : MIW yL_patienceEnds cL_patienceEnds 4 (some .int) [(0, 9, 12, 32)] 3 := ⟨q_1496, q_135, by decide +kernel, by decide +kernel, by decide +kernel, by decide +kernel⟩
def FL_patienceEnds (w : Wd) (p1 : Int32) : Option (Int32 × Wd) := lwW (fun E => if E = "java/lang/IndexOutOfBoundsException" then some 1 else none) (okW w (FX12_patienceEnds w p1))
set_option maxHeartbeats 4000000 in
theorem ctL_patienceEnds {G : GG} {l : Launch} (hl : l.stackTraces = false) (w : Wd) (p1 : Int32) {k : Int32} {w3 : Wd} (hF : FL_patienceEnds w p1 = some (k, w3)) : CTW G l yL_patienceEnds cL_patienceEnds 4 (some .int) [(0, 9, 12, 32)] rmL_patienceEnds 1 6 [.ref (adr G 0 0), .int p1, .ref (adr G 16 0)] (GH G w) (fun v H => v = some (.int k) ∧ GH G w3 H) := by
  refine CTW.of miL_patienceEnds [(0, .ref (adr G 0 0)), (1, .int p1), (2, .ref (adr G 16 0))] rfl (Nat.le_of_ble_eq_true rfl) ?_
  intro p e s m args below meth c hX hNC hT hR hlk
  have hX : FX G RL cL_patienceEnds 4 p s m args c := hX
  unfold FL_patienceEnds at hF
  refine J_aload_n hX dL_patienceEnds_0 2 rfl (t := 1) rfl ?_
  refine J_iconst (v := 0) hX dL_patienceEnds_1 (by decide) (t := 2) rfl ?_
  refine J_aload_n hX dL_patienceEnds_2 0 rfl (t := 3) rfl ?_
  refine J_iload_n hX dL_patienceEnds_3 1 rfl (t := 4) rfl ?_
  rcases lwW_e hF with ⟨v, w2, hr, hk, hw3⟩ | ⟨E, hr, hK⟩
  · subst hk
    subst hw3
    obtain ⟨hr9, hw⟩ := okW_o hr
    subst hw
    replace hr := hr9
    refine J_callV hX [.int p1] [.int 0, .ref (adr G 16 0)] [.int v, .int 0, .ref (adr G 16 0)] (ctX12_patienceEnds (G := G) (l := l) w p1 hr) miX12_patienceEnds mvX12_patienceEnds cb9 kEcho q_1497 ⟨rfl, rfl, Nat.le_of_ble_eq_true rfl, Nat.le_of_ble_eq_true rfl⟩ rfl rfl (Nat.le_of_ble_eq_true rfl) ⟨Nat.le_of_ble_eq_true rfl, Nat.le_of_ble_eq_true rfl⟩ dL_patienceEnds_4 (t := 7) rfl rfl ?_
    refine J_i2l hX dL_patienceEnds_7 (t := 8) rfl ?_
    refine J_last (w2 := sW w 16 (sL (w 16) 0 0 v.toInt64)) (k9 := 0) hX kOut (by decide) rfl rfl dL_patienceEnds_8 (t := 9) rfl ?_
    refine J_goto (tgt := 15) hX dL_patienceEnds_9 (by decide) ?_
    refine J_iconst (v := 0) hX dL_patienceEnds_15 (by decide) (t := 16) rfl ?_
    refine J_wid (k := 1) (n := 6) (by decide) (by decide) ?_
    exact J_iretP hX hR hlk (fun H h => ⟨rfl, h⟩) dL_patienceEnds_16
  · replace hr := okW_x hr
    by_cases e0 : E = "java/lang/IndexOutOfBoundsException"
    · subst e0
      cases hK
      refine J_callVT hX [.int p1] [.int 0, .ref (adr G 16 0)] (ceX12_patienceEnds (G := G) (l := l) hl w p1 hr) miX12_patienceEnds mvX12_patienceEnds cb9 kEcho q_1497 ⟨rfl, rfl, Nat.le_of_ble_eq_true rfl, Nat.le_of_ble_eq_true rfl⟩ rfl rfl (Nat.le_of_ble_eq_true rfl) ⟨Nat.le_of_ble_eq_true rfl, Nat.le_of_ble_eq_true rfl⟩ dL_patienceEnds_4 ?_
      refine JT_catch hX (name := "java/lang/IndexOutOfBoundsException") [] _ _ hT (fun z hz => absurd hz List.not_mem_nil) (by decide) (by decide) q_1315 (hX.cast (by simp [castL])) (fun q => ?_)
      refine J_astore_n (lc2 := [(3, .ref q), (0, .ref (adr G 0 0)), (1, .int p1), (2, .ref (adr G 16 0))]) hX dL_patienceEnds_12 rfl (Nat.le_of_ble_eq_true rfl) rfl (t := 13) rfl ?_
      refine J_iconst (v := 1) hX dL_patienceEnds_13 (by decide) (t := 14) rfl ?_
      refine J_wid (k := 1) (n := 6) (by decide) (by decide) ?_
      exact J_iretP hX hR hlk (fun H h => ⟨rfl, h⟩) dL_patienceEnds_14
    replace hK := it_f hK e0
    cases hK
abbrev rmL_refusal : Room := { frames := 8, cells := 1, slots := 6, locals := 133 }
theorem miL_refusal : MIW yL_refusal cL_refusal 6 (some .int) [(0, 12, 15, 32), (0, 12, 19, 19)] 5 := ⟨q_1503, q_135, by decide +kernel, by decide +kernel, by decide +kernel, by decide +kernel⟩
def FL_refusal (n : Nat) (w : Wd) (p1 : Int32) (p2 : Int32) (p3 : Int32) : Option (Int32 × Wd) := lwW (fun E => if E = "java/lang/IndexOutOfBoundsException" then some 1 else if E = "java/lang/IllegalArgumentException" then some 2 else none) (okW w (FX12_refusal n w p1 p2 p3))
set_option maxHeartbeats 4000000 in
theorem ctL_refusal {G : GG} {l : Launch} (hl : l.stackTraces = false) (w : Wd) (p1 : Int32) (p2 : Int32) (p3 : Int32) (n : Nat) {k : Int32} {w3 : Wd} (hF : FL_refusal n w p1 p2 p3 = some (k, w3)) : CTW G l yL_refusal cL_refusal 6 (some .int) [(0, 12, 15, 32), (0, 12, 19, 19)] rmL_refusal 1 6 [.ref (adr G 0 0), .int p1, .int p2, .int p3, .ref (adr G 16 0)] (GH G w) (fun v H => v = some (.int k) ∧ GH G w3 H) := by
  refine CTW.of miL_refusal [(0, .ref (adr G 0 0)), (1, .int p1), (2, .int p2), (3, .int p3), (4, .ref (adr G 16 0))] rfl (Nat.le_of_ble_eq_true rfl) ?_
  intro p e s m args below meth c hX hNC hT hR hlk
  have hX : FX G RL cL_refusal 6 p s m args c := hX
  unfold FL_refusal at hF
  refine J_aload hX dL_refusal_0 4 rfl (t := 2) rfl ?_
  refine J_iconst (v := 0) hX dL_refusal_2 (by decide) (t := 3) rfl ?_
  refine J_aload_n hX dL_refusal_3 0 rfl (t := 4) rfl ?_
  refine J_iload_n hX dL_refusal_4 1 rfl (t := 5) rfl ?_
  refine J_iload_n hX dL_refusal_5 2 rfl (t := 6) rfl ?_
  refine J_iload_n hX dL_refusal_6 3 rfl (t := 7) rfl ?_
  rcases lwW_e hF with ⟨v, w2, hr, hk, hw3⟩ | ⟨E, hr, hK⟩
  · subst hk
    subst hw3
    obtain ⟨hr9, hw⟩ := okW_o hr
    subst hw
    replace hr := hr9
    refine J_callV hX [.int p1, .int p2, .int p3] [.int 0, .ref (adr G 16 0)] [.int v, .int 0, .ref (adr G 16 0)] (ctX12_refusal (G := G) (l := l) w p1 p2 p3 n hr) miX12_refusal mvX12_refusal cb9 kEcho q_1504 ⟨rfl, rfl, Nat.le_of_ble_eq_true rfl, Nat.le_of_ble_eq_true rfl⟩ rfl rfl (Nat.le_of_ble_eq_true rfl) ⟨Nat.le_of_ble_eq_true rfl, Nat.le_of_ble_eq_true rfl⟩ dL_refusal_7 (t := 10) rfl rfl ?_
    refine J_i2l hX dL_refusal_10 (t := 11) rfl ?_
    refine J_last (w2 := sW w 16 (sL (w 16) 0 0 v.toInt64)) (k9 := 0) hX kOut (by decide) rfl rfl dL_refusal_11 (t := 12) rfl ?_
    refine J_goto (tgt := 23) hX dL_refusal_12 (by decide) ?_
    refine J_iconst (v := 0) hX dL_refusal_23 (by decide) (t := 24) rfl ?_
    refine J_wid (k := 1) (n := 6) (by decide) (by decide) ?_
    exact J_iretP hX hR hlk (fun H h => ⟨rfl, h⟩) dL_refusal_24
  · replace hr := okW_x hr
    by_cases e0 : E = "java/lang/IndexOutOfBoundsException"
    · subst e0
      cases hK
      refine J_callVT hX [.int p1, .int p2, .int p3] [.int 0, .ref (adr G 16 0)] (ceX12_refusal (G := G) (l := l) hl w p1 p2 p3 n hr) miX12_refusal mvX12_refusal cb9 kEcho q_1504 ⟨rfl, rfl, Nat.le_of_ble_eq_true rfl, Nat.le_of_ble_eq_true rfl⟩ rfl rfl (Nat.le_of_ble_eq_true rfl) ⟨Nat.le_of_ble_eq_true rfl, Nat.le_of_ble_eq_true rfl⟩ dL_refusal_7 ?_
      refine JT_catch hX (name := "java/lang/IndexOutOfBoundsException") [] _ _ hT (fun z hz => absurd hz List.not_mem_nil) (by decide) (by decide) q_1315 (hX.cast (by simp [castL])) (fun q => ?_)
      refine J_astore (lc2 := [(5, .ref q), (0, .ref (adr G 0 0)), (1, .int p1), (2, .int p2), (3, .int p3), (4, .ref (adr G 16 0))]) hX dL_refusal_15 (Nat.le_of_ble_eq_true rfl) rfl (t := 17) rfl ?_
      refine J_iconst (v := 1) hX dL_refusal_17 (by decide) (t := 18) rfl ?_
      refine J_wid (k := 1) (n := 6) (by decide) (by decide) ?_
      exact J_iretP hX hR hlk (fun H h => ⟨rfl, h⟩) dL_refusal_18
    replace hK := it_f hK e0
    by_cases e1 : E = "java/lang/IllegalArgumentException"
    · subst e1
      cases hK
      refine J_callVT hX [.int p1, .int p2, .int p3] [.int 0, .ref (adr G 16 0)] (ceX12_refusal (G := G) (l := l) hl w p1 p2 p3 n hr) miX12_refusal mvX12_refusal cb9 kEcho q_1504 ⟨rfl, rfl, Nat.le_of_ble_eq_true rfl, Nat.le_of_ble_eq_true rfl⟩ rfl rfl (Nat.le_of_ble_eq_true rfl) ⟨Nat.le_of_ble_eq_true rfl, Nat.le_of_ble_eq_true rfl⟩ dL_refusal_7 ?_
      refine JT_catch hX (name := "java/lang/IllegalArgumentException") [_] _ _ hT (fun z hz => Or.inr (by
            rcases List.mem_cons.mp hz with rfl | hz
            · exact ⟨by decide, "java/lang/IndexOutOfBoundsException", hX.2.2.2.2.1 _ q_1315, hNC.1⟩
            · cases hz)) (by decide) (by decide) q_868 (hX.cast (by simp [castL])) (fun q => ?_)
      refine J_astore (lc2 := [(5, .ref q), (0, .ref (adr G 0 0)), (1, .int p1), (2, .int p2), (3, .int p3), (4, .ref (adr G 16 0))]) hX dL_refusal_19 (Nat.le_of_ble_eq_true rfl) rfl (t := 21) rfl ?_
      refine J_iconst (v := 2) hX dL_refusal_21 (by decide) (t := 22) rfl ?_
      refine J_wid (k := 1) (n := 6) (by decide) (by decide) ?_
      exact J_iretP hX hR hlk (fun H h => ⟨rfl, h⟩) dL_refusal_22
    replace hK := it_f hK e1
    cases hK
abbrev rmL_neededLoudness : Room := { frames := 9, cells := 1, slots := 6, locals := 154 }
theorem miL_neededLoudness : MIW yL_neededLoudness cL_neededLoudness 5 (some .int) [(0, 10, 13, 32), (0, 10, 17, 19)] 4 := ⟨q_1511, q_135, by decide +kernel, by decide +kernel, by decide +kernel, by decide +kernel⟩
def FL_neededLoudness (w : Wd) (p1 : Int32) (p2 : Int32) : Option (Int32 × Wd) := lwW (fun E => if E = "java/lang/IndexOutOfBoundsException" then some 1 else if E = "java/lang/IllegalArgumentException" then some 2 else none) (okW w (FX12_neededLoudness w p1 p2))
set_option maxHeartbeats 4000000 in
theorem ctL_neededLoudness {G : GG} {l : Launch} (hl : l.stackTraces = false) (w : Wd) (p1 : Int32) (p2 : Int32) {k : Int32} {w3 : Wd} (hF : FL_neededLoudness w p1 p2 = some (k, w3)) : CTW G l yL_neededLoudness cL_neededLoudness 5 (some .int) [(0, 10, 13, 32), (0, 10, 17, 19)] rmL_neededLoudness 1 6 [.ref (adr G 0 0), .int p1, .int p2, .ref (adr G 16 0)] (GH G w) (fun v H => v = some (.int k) ∧ GH G w3 H) := by
  refine CTW.of miL_neededLoudness [(0, .ref (adr G 0 0)), (1, .int p1), (2, .int p2), (3, .ref (adr G 16 0))] rfl (Nat.le_of_ble_eq_true rfl) ?_
  intro p e s m args below meth c hX hNC hT hR hlk
  have hX : FX G RL cL_neededLoudness 5 p s m args c := hX
  unfold FL_neededLoudness at hF
  refine J_aload_n hX dL_neededLoudness_0 3 rfl (t := 1) rfl ?_
  refine J_iconst (v := 0) hX dL_neededLoudness_1 (by decide) (t := 2) rfl ?_
  refine J_aload_n hX dL_neededLoudness_2 0 rfl (t := 3) rfl ?_
  refine J_iload_n hX dL_neededLoudness_3 1 rfl (t := 4) rfl ?_
  refine J_iload_n hX dL_neededLoudness_4 2 rfl (t := 5) rfl ?_
  rcases lwW_e hF with ⟨v, w2, hr, hk, hw3⟩ | ⟨E, hr, hK⟩
  · subst hk
    subst hw3
    obtain ⟨hr9, hw⟩ := okW_o hr
    subst hw
    replace hr := hr9
    refine J_callV hX [.int p1, .int p2] [.int 0, .ref (adr G 16 0)] [.int v, .int 0, .ref (adr G 16 0)] (ctX12_neededLoudness (G := G) (l := l) w p1 p2 hr) miX12_neededLoudness mvX12_neededLoudness cb9 kEcho q_1512 ⟨rfl, rfl, Nat.le_of_ble_eq_true rfl, Nat.le_of_ble_eq_true rfl⟩ rfl rfl (Nat.le_of_ble_eq_true rfl) ⟨Nat.le_of_ble_eq_true rfl, Nat.le_of_ble_eq_true rfl⟩ dL_neededLoudness_5 (t := 8) rfl rfl ?_
    refine J_i2l hX dL_neededLoudness_8 (t := 9) rfl ?_
    refine J_last (w2 := sW w 16 (sL (w 16) 0 0 v.toInt64)) (k9 := 0) hX kOut (by decide) rfl rfl dL_neededLoudness_9 (t := 10) rfl ?_
    refine J_goto (tgt := 21) hX dL_neededLoudness_10 (by decide) ?_
    refine J_iconst (v := 0) hX dL_neededLoudness_21 (by decide) (t := 22) rfl ?_
    refine J_wid (k := 1) (n := 6) (by decide) (by decide) ?_
    exact J_iretP hX hR hlk (fun H h => ⟨rfl, h⟩) dL_neededLoudness_22
  · replace hr := okW_x hr
    by_cases e0 : E = "java/lang/IndexOutOfBoundsException"
    · subst e0
      cases hK
      refine J_callVT hX [.int p1, .int p2] [.int 0, .ref (adr G 16 0)] (ceX12_neededLoudness (G := G) (l := l) hl w p1 p2 hr) miX12_neededLoudness mvX12_neededLoudness cb9 kEcho q_1512 ⟨rfl, rfl, Nat.le_of_ble_eq_true rfl, Nat.le_of_ble_eq_true rfl⟩ rfl rfl (Nat.le_of_ble_eq_true rfl) ⟨Nat.le_of_ble_eq_true rfl, Nat.le_of_ble_eq_true rfl⟩ dL_neededLoudness_5 ?_
      refine JT_catch hX (name := "java/lang/IndexOutOfBoundsException") [] _ _ hT (fun z hz => absurd hz List.not_mem_nil) (by decide) (by decide) q_1315 (hX.cast (by simp [castL])) (fun q => ?_)
      refine J_astore (lc2 := [(4, .ref q), (0, .ref (adr G 0 0)), (1, .int p1), (2, .int p2), (3, .ref (adr G 16 0))]) hX dL_neededLoudness_13 (Nat.le_of_ble_eq_true rfl) rfl (t := 15) rfl ?_
      refine J_iconst (v := 1) hX dL_neededLoudness_15 (by decide) (t := 16) rfl ?_
      refine J_wid (k := 1) (n := 6) (by decide) (by decide) ?_
      exact J_iretP hX hR hlk (fun H h => ⟨rfl, h⟩) dL_neededLoudness_16
    replace hK := it_f hK e0
    by_cases e1 : E = "java/lang/IllegalArgumentException"
    · subst e1
      cases hK
      refine J_callVT hX [.int p1, .int p2] [.int 0, .ref (adr G 16 0)] (ceX12_neededLoudness (G := G) (l := l) hl w p1 p2 hr) miX12_neededLoudness mvX12_neededLoudness cb9 kEcho q_1512 ⟨rfl, rfl, Nat.le_of_ble_eq_true rfl, Nat.le_of_ble_eq_true rfl⟩ rfl rfl (Nat.le_of_ble_eq_true rfl) ⟨Nat.le_of_ble_eq_true rfl, Nat.le_of_ble_eq_true rfl⟩ dL_neededLoudness_5 ?_
      refine JT_catch hX (name := "java/lang/IllegalArgumentException") [_] _ _ hT (fun z hz => Or.inr (by
            rcases List.mem_cons.mp hz with rfl | hz
            · exact ⟨by decide, "java/lang/IndexOutOfBoundsException", hX.2.2.2.2.1 _ q_1315, hNC.1⟩
            · cases hz)) (by decide) (by decide) q_868 (hX.cast (by simp [castL])) (fun q => ?_)
      refine J_astore (lc2 := [(4, .ref q), (0, .ref (adr G 0 0)), (1, .int p1), (2, .int p2), (3, .ref (adr G 16 0))]) hX dL_neededLoudness_17 (Nat.le_of_ble_eq_true rfl) rfl (t := 19) rfl ?_
      refine J_iconst (v := 2) hX dL_neededLoudness_19 (by decide) (t := 20) rfl ?_
      refine J_wid (k := 1) (n := 6) (by decide) (by decide) ?_
      exact J_iretP hX hR hlk (fun H h => ⟨rfl, h⟩) dL_neededLoudness_20
    replace hK := it_f hK e1
    cases hK
abbrev rmL_bestOffer : Room := { frames := 8, cells := 1, slots := 6, locals := 132 }
theorem miL_bestOffer : MIW yL_bestOffer cL_bestOffer 5 (some .int) [(0, 10, 13, 32), (0, 10, 17, 19)] 4 := ⟨q_1519, q_135, by decide +kernel, by decide +kernel, by decide +kernel, by decide +kernel⟩
def FL_bestOffer (n : Nat) (w : Wd) (p1 : Int32) (p2 : Int32) : Option (Int32 × Wd) := lwW (fun E => if E = "java/lang/IndexOutOfBoundsException" then some 1 else if E = "java/lang/IllegalArgumentException" then some 2 else none) (okW w (FX12_bestOffer n w p1 p2))
set_option maxHeartbeats 4000000 in
theorem ctL_bestOffer {G : GG} {l : Launch} (hl : l.stackTraces = false) (w : Wd) (p1 : Int32) (p2 : Int32) (n : Nat) {k : Int32} {w3 : Wd} (hF : FL_bestOffer n w p1 p2 = some (k, w3)) : CTW G l yL_bestOffer cL_bestOffer 5 (some .int) [(0, 10, 13, 32), (0, 10, 17, 19)] rmL_bestOffer 1 6 [.ref (adr G 0 0), .int p1, .int p2, .ref (adr G 16 0)] (GH G w) (fun v H => v = some (.int k) ∧ GH G w3 H) := by
  refine CTW.of miL_bestOffer [(0, .ref (adr G 0 0)), (1, .int p1), (2, .int p2), (3, .ref (adr G 16 0))] rfl (Nat.le_of_ble_eq_true rfl) ?_
  intro p e s m args below meth c hX hNC hT hR hlk
  have hX : FX G RL cL_bestOffer 5 p s m args c := hX
  unfold FL_bestOffer at hF
  refine J_aload_n hX dL_bestOffer_0 3 rfl (t := 1) rfl ?_
  refine J_iconst (v := 0) hX dL_bestOffer_1 (by decide) (t := 2) rfl ?_
  refine J_aload_n hX dL_bestOffer_2 0 rfl (t := 3) rfl ?_
  refine J_iload_n hX dL_bestOffer_3 1 rfl (t := 4) rfl ?_
  refine J_iload_n hX dL_bestOffer_4 2 rfl (t := 5) rfl ?_
  rcases lwW_e hF with ⟨v, w2, hr, hk, hw3⟩ | ⟨E, hr, hK⟩
  · subst hk
    subst hw3
    obtain ⟨hr9, hw⟩ := okW_o hr
    subst hw
    replace hr := hr9
    refine J_callV hX [.int p1, .int p2] [.int 0, .ref (adr G 16 0)] [.int v, .int 0, .ref (adr G 16 0)] (ctX12_bestOffer (G := G) (l := l) w p1 p2 n hr) miX12_bestOffer mvX12_bestOffer cb9 kEcho q_1520 ⟨rfl, rfl, Nat.le_of_ble_eq_true rfl, Nat.le_of_ble_eq_true rfl⟩ rfl rfl (Nat.le_of_ble_eq_true rfl) ⟨Nat.le_of_ble_eq_true rfl, Nat.le_of_ble_eq_true rfl⟩ dL_bestOffer_5 (t := 8) rfl rfl ?_
    refine J_i2l hX dL_bestOffer_8 (t := 9) rfl ?_
    refine J_last (w2 := sW w 16 (sL (w 16) 0 0 v.toInt64)) (k9 := 0) hX kOut (by decide) rfl rfl dL_bestOffer_9 (t := 10) rfl ?_
    refine J_goto (tgt := 21) hX dL_bestOffer_10 (by decide) ?_
    refine J_iconst (v := 0) hX dL_bestOffer_21 (by decide) (t := 22) rfl ?_
    refine J_wid (k := 1) (n := 6) (by decide) (by decide) ?_
    exact J_iretP hX hR hlk (fun H h => ⟨rfl, h⟩) dL_bestOffer_22
  · replace hr := okW_x hr
    by_cases e0 : E = "java/lang/IndexOutOfBoundsException"
    · subst e0
      cases hK
      refine J_callVT hX [.int p1, .int p2] [.int 0, .ref (adr G 16 0)] (ceX12_bestOffer (G := G) (l := l) hl w p1 p2 n hr) miX12_bestOffer mvX12_bestOffer cb9 kEcho q_1520 ⟨rfl, rfl, Nat.le_of_ble_eq_true rfl, Nat.le_of_ble_eq_true rfl⟩ rfl rfl (Nat.le_of_ble_eq_true rfl) ⟨Nat.le_of_ble_eq_true rfl, Nat.le_of_ble_eq_true rfl⟩ dL_bestOffer_5 ?_
      refine JT_catch hX (name := "java/lang/IndexOutOfBoundsException") [] _ _ hT (fun z hz => absurd hz List.not_mem_nil) (by decide) (by decide) q_1315 (hX.cast (by simp [castL])) (fun q => ?_)
      refine J_astore (lc2 := [(4, .ref q), (0, .ref (adr G 0 0)), (1, .int p1), (2, .int p2), (3, .ref (adr G 16 0))]) hX dL_bestOffer_13 (Nat.le_of_ble_eq_true rfl) rfl (t := 15) rfl ?_
      refine J_iconst (v := 1) hX dL_bestOffer_15 (by decide) (t := 16) rfl ?_
      refine J_wid (k := 1) (n := 6) (by decide) (by decide) ?_
      exact J_iretP hX hR hlk (fun H h => ⟨rfl, h⟩) dL_bestOffer_16
    replace hK := it_f hK e0
    by_cases e1 : E = "java/lang/IllegalArgumentException"
    · subst e1
      cases hK
      refine J_callVT hX [.int p1, .int p2] [.int 0, .ref (adr G 16 0)] (ceX12_bestOffer (G := G) (l := l) hl w p1 p2 n hr) miX12_bestOffer mvX12_bestOffer cb9 kEcho q_1520 ⟨rfl, rfl, Nat.le_of_ble_eq_true rfl, Nat.le_of_ble_eq_true rfl⟩ rfl rfl (Nat.le_of_ble_eq_true rfl) ⟨Nat.le_of_ble_eq_true rfl, Nat.le_of_ble_eq_true rfl⟩ dL_bestOffer_5 ?_
      refine JT_catch hX (name := "java/lang/IllegalArgumentException") [_] _ _ hT (fun z hz => Or.inr (by
            rcases List.mem_cons.mp hz with rfl | hz
            · exact ⟨by decide, "java/lang/IndexOutOfBoundsException", hX.2.2.2.2.1 _ q_1315, hNC.1⟩
            · cases hz)) (by decide) (by decide) q_868 (hX.cast (by simp [castL])) (fun q => ?_)
      refine J_astore (lc2 := [(4, .ref q), (0, .ref (adr G 0 0)), (1, .int p1), (2, .int p2), (3, .ref (adr G 16 0))]) hX dL_bestOffer_17 (Nat.le_of_ble_eq_true rfl) rfl (t := 19) rfl ?_
      refine J_iconst (v := 2) hX dL_bestOffer_19 (by decide) (t := 20) rfl ?_
      refine J_wid (k := 1) (n := 6) (by decide) (by decide) ?_
      exact J_iretP hX hR hlk (fun H h => ⟨rfl, h⟩) dL_bestOffer_20
    replace hK := it_f hK e1
    cases hK
abbrev rmL_earnedAfter : Room := { frames := 8, cells := 1, slots := 6, locals := 131 }
theorem miL_earnedAfter : MIW yL_earnedAfter cL_earnedAfter 4 (some .int) [(0, 9, 12, 19)] 3 := ⟨q_1533, q_135, by decide +kernel, by decide +kernel, by decide +kernel, by decide +kernel⟩
def FL_earnedAfter (n : Nat) (w : Wd) (p1 : Int32) : Option (Int32 × Wd) := lwW (fun E => if E = "java/lang/IllegalArgumentException" then some 1 else none) (okW w (FX12_earnedAfter n w p1))
set_option maxHeartbeats 4000000 in
theorem ctL_earnedAfter {G : GG} {l : Launch} (hl : l.stackTraces = false) (w : Wd) (p1 : Int32) (n : Nat) {k : Int32} {w3 : Wd} (hF : FL_earnedAfter n w p1 = some (k, w3)) : CTW G l yL_earnedAfter cL_earnedAfter 4 (some .int) [(0, 9, 12, 19)] rmL_earnedAfter 1 6 [.ref (adr G 0 0), .int p1, .ref (adr G 16 0)] (GH G w) (fun v H => v = some (.int k) ∧ GH G w3 H) := by
  refine CTW.of miL_earnedAfter [(0, .ref (adr G 0 0)), (1, .int p1), (2, .ref (adr G 16 0))] rfl (Nat.le_of_ble_eq_true rfl) ?_
  intro p e s m args below meth c hX hNC hT hR hlk
  have hX : FX G RL cL_earnedAfter 4 p s m args c := hX
  unfold FL_earnedAfter at hF
  refine J_aload_n hX dL_earnedAfter_0 2 rfl (t := 1) rfl ?_
  refine J_iconst (v := 0) hX dL_earnedAfter_1 (by decide) (t := 2) rfl ?_
  refine J_aload_n hX dL_earnedAfter_2 0 rfl (t := 3) rfl ?_
  refine J_iload_n hX dL_earnedAfter_3 1 rfl (t := 4) rfl ?_
  rcases lwW_e hF with ⟨v, w2, hr, hk, hw3⟩ | ⟨E, hr, hK⟩
  · subst hk
    subst hw3
    obtain ⟨hr9, hw⟩ := okW_o hr
    subst hw
    replace hr := hr9
    refine J_callV hX [.int p1] [.int 0, .ref (adr G 16 0)] [.int v, .int 0, .ref (adr G 16 0)] (ctX12_earnedAfter (G := G) (l := l) w p1 n hr) miX12_earnedAfter mvX12_earnedAfter cb9 kEcho q_1534 ⟨rfl, rfl, Nat.le_of_ble_eq_true rfl, Nat.le_of_ble_eq_true rfl⟩ rfl rfl (Nat.le_of_ble_eq_true rfl) ⟨Nat.le_of_ble_eq_true rfl, Nat.le_of_ble_eq_true rfl⟩ dL_earnedAfter_4 (t := 7) rfl rfl ?_
    refine J_i2l hX dL_earnedAfter_7 (t := 8) rfl ?_
    refine J_last (w2 := sW w 16 (sL (w 16) 0 0 v.toInt64)) (k9 := 0) hX kOut (by decide) rfl rfl dL_earnedAfter_8 (t := 9) rfl ?_
    refine J_goto (tgt := 15) hX dL_earnedAfter_9 (by decide) ?_
    refine J_iconst (v := 0) hX dL_earnedAfter_15 (by decide) (t := 16) rfl ?_
    refine J_wid (k := 1) (n := 6) (by decide) (by decide) ?_
    exact J_iretP hX hR hlk (fun H h => ⟨rfl, h⟩) dL_earnedAfter_16
  · replace hr := okW_x hr
    by_cases e0 : E = "java/lang/IllegalArgumentException"
    · subst e0
      cases hK
      refine J_callVT hX [.int p1] [.int 0, .ref (adr G 16 0)] (ceX12_earnedAfter (G := G) (l := l) hl w p1 n hr) miX12_earnedAfter mvX12_earnedAfter cb9 kEcho q_1534 ⟨rfl, rfl, Nat.le_of_ble_eq_true rfl, Nat.le_of_ble_eq_true rfl⟩ rfl rfl (Nat.le_of_ble_eq_true rfl) ⟨Nat.le_of_ble_eq_true rfl, Nat.le_of_ble_eq_true rfl⟩ dL_earnedAfter_4 ?_
      refine JT_catch hX (name := "java/lang/IllegalArgumentException") [] _ _ hT (fun z hz => absurd hz List.not_mem_nil) (by decide) (by decide) q_868 (hX.cast (by simp [castL])) (fun q => ?_)
      refine J_astore_n (lc2 := [(3, .ref q), (0, .ref (adr G 0 0)), (1, .int p1), (2, .ref (adr G 16 0))]) hX dL_earnedAfter_12 rfl (Nat.le_of_ble_eq_true rfl) rfl (t := 13) rfl ?_
      refine J_iconst (v := 1) hX dL_earnedAfter_13 (by decide) (t := 14) rfl ?_
      refine J_wid (k := 1) (n := 6) (by decide) (by decide) ?_
      exact J_iretP hX hR hlk (fun H h => ⟨rfl, h⟩) dL_earnedAfter_14
    replace hK := it_f hK e0
    cases hK
abbrev rmL_finalState : Room := { frames := 9, cells := 1, slots := 6, locals := 152 }
theorem miL_finalState : MIW yL_finalState cL_finalState 4 (some .int) [(0, 9, 12, 32)] 3 := ⟨q_1549, q_135, by decide +kernel, by decide +kernel, by decide +kernel, by decide +kernel⟩
def FL_finalState (w : Wd) (p1 : Int32) : Option (Int32 × Wd) := lwW (fun E => if E = "java/lang/IndexOutOfBoundsException" then some 1 else none) (okW w (FX12_finalState w p1))
set_option maxHeartbeats 4000000 in
theorem ctL_finalState {G : GG} {l : Launch} (hl : l.stackTraces = false) (w : Wd) (p1 : Int32) {k : Int32} {w3 : Wd} (hF : FL_finalState w p1 = some (k, w3)) : CTW G l yL_finalState cL_finalState 4 (some .int) [(0, 9, 12, 32)] rmL_finalState 1 6 [.ref (adr G 0 0), .int p1, .ref (adr G 16 0)] (GH G w) (fun v H => v = some (.int k) ∧ GH G w3 H) := by
  refine CTW.of miL_finalState [(0, .ref (adr G 0 0)), (1, .int p1), (2, .ref (adr G 16 0))] rfl (Nat.le_of_ble_eq_true rfl) ?_
  intro p e s m args below meth c hX hNC hT hR hlk
  have hX : FX G RL cL_finalState 4 p s m args c := hX
  unfold FL_finalState at hF
  refine J_aload_n hX dL_finalState_0 2 rfl (t := 1) rfl ?_
  refine J_iconst (v := 0) hX dL_finalState_1 (by decide) (t := 2) rfl ?_
  refine J_aload_n hX dL_finalState_2 0 rfl (t := 3) rfl ?_
  refine J_iload_n hX dL_finalState_3 1 rfl (t := 4) rfl ?_
  rcases lwW_e hF with ⟨v, w2, hr, hk, hw3⟩ | ⟨E, hr, hK⟩
  · subst hk
    subst hw3
    obtain ⟨hr9, hw⟩ := okW_o hr
    subst hw
    replace hr := hr9
    refine J_callV hX [.int p1] [.int 0, .ref (adr G 16 0)] [.int v, .int 0, .ref (adr G 16 0)] (ctX12_finalState (G := G) (l := l) w p1 hr) miX12_finalState mvX12_finalState cb9 kEcho q_1550 ⟨rfl, rfl, Nat.le_of_ble_eq_true rfl, Nat.le_of_ble_eq_true rfl⟩ rfl rfl (Nat.le_of_ble_eq_true rfl) ⟨Nat.le_of_ble_eq_true rfl, Nat.le_of_ble_eq_true rfl⟩ dL_finalState_4 (t := 7) rfl rfl ?_
    refine J_i2l hX dL_finalState_7 (t := 8) rfl ?_
    refine J_last (w2 := sW w 16 (sL (w 16) 0 0 v.toInt64)) (k9 := 0) hX kOut (by decide) rfl rfl dL_finalState_8 (t := 9) rfl ?_
    refine J_goto (tgt := 15) hX dL_finalState_9 (by decide) ?_
    refine J_iconst (v := 0) hX dL_finalState_15 (by decide) (t := 16) rfl ?_
    refine J_wid (k := 1) (n := 6) (by decide) (by decide) ?_
    exact J_iretP hX hR hlk (fun H h => ⟨rfl, h⟩) dL_finalState_16
  · replace hr := okW_x hr
    by_cases e0 : E = "java/lang/IndexOutOfBoundsException"
    · subst e0
      cases hK
      refine J_callVT hX [.int p1] [.int 0, .ref (adr G 16 0)] (ceX12_finalState (G := G) (l := l) hl w p1 hr) miX12_finalState mvX12_finalState cb9 kEcho q_1550 ⟨rfl, rfl, Nat.le_of_ble_eq_true rfl, Nat.le_of_ble_eq_true rfl⟩ rfl rfl (Nat.le_of_ble_eq_true rfl) ⟨Nat.le_of_ble_eq_true rfl, Nat.le_of_ble_eq_true rfl⟩ dL_finalState_4 ?_
      refine JT_catch hX (name := "java/lang/IndexOutOfBoundsException") [] _ _ hT (fun z hz => absurd hz List.not_mem_nil) (by decide) (by decide) q_1315 (hX.cast (by simp [castL])) (fun q => ?_)
      refine J_astore_n (lc2 := [(3, .ref q), (0, .ref (adr G 0 0)), (1, .int p1), (2, .ref (adr G 16 0))]) hX dL_finalState_12 rfl (Nat.le_of_ble_eq_true rfl) rfl (t := 13) rfl ?_
      refine J_iconst (v := 1) hX dL_finalState_13 (by decide) (t := 14) rfl ?_
      refine J_wid (k := 1) (n := 6) (by decide) (by decide) ?_
      exact J_iretP hX hR hlk (fun H h => ⟨rfl, h⟩) dL_finalState_14
    replace hK := it_f hK e0
    cases hK
abbrev rmL_addValley : Room := { frames := 8, cells := 1, slots := 6, locals := 135 }
theorem miL_addValley : MIW yL_addValley cL_addValley 6 (some .int) [(0, 12, 15, 19), (0, 12, 19, 13)] 5 := ⟨q_1561, q_135, by decide +kernel, by decide +kernel, by decide +kernel, by decide +kernel⟩
def FL_addValley (n : Nat) (w : Wd) (p1 : Int32) (p2 : Int32) (p3 : Int32) : Option (Int32 × Wd) := lwW (fun E => if E = "java/lang/IllegalArgumentException" then some 1 else if E = "java/lang/IllegalStateException" then some 2 else none) (FX12_addValley n w p1 p2 p3)
set_option maxHeartbeats 4000000 in
theorem ctL_addValley {G : GG} {l : Launch} (hl : l.stackTraces = false) (w : Wd) (p1 : Int32) (p2 : Int32) (p3 : Int32) (n : Nat) {k : Int32} {w3 : Wd} (hF : FL_addValley n w p1 p2 p3 = some (k, w3)) : CTW G l yL_addValley cL_addValley 6 (some .int) [(0, 12, 15, 19), (0, 12, 19, 13)] rmL_addValley 1 6 [.ref (adr G 0 0), .int p1, .int p2, .int p3, .ref (adr G 16 0)] (GH G w) (fun v H => v = some (.int k) ∧ GH G w3 H) := by
  refine CTW.of miL_addValley [(0, .ref (adr G 0 0)), (1, .int p1), (2, .int p2), (3, .int p3), (4, .ref (adr G 16 0))] rfl (Nat.le_of_ble_eq_true rfl) ?_
  intro p e s m args below meth c hX hNC hT hR hlk
  have hX : FX G RL cL_addValley 6 p s m args c := hX
  unfold FL_addValley at hF
  refine J_aload hX dL_addValley_0 4 rfl (t := 2) rfl ?_
  refine J_iconst (v := 0) hX dL_addValley_2 (by decide) (t := 3) rfl ?_
  refine J_aload_n hX dL_addValley_3 0 rfl (t := 4) rfl ?_
  refine J_iload_n hX dL_addValley_4 1 rfl (t := 5) rfl ?_
  refine J_iload_n hX dL_addValley_5 2 rfl (t := 6) rfl ?_
  refine J_iload_n hX dL_addValley_6 3 rfl (t := 7) rfl ?_
  rcases lwW_e hF with ⟨v, w2, hr, hk, hw3⟩ | ⟨E, hr, hK⟩
  · subst hk
    subst hw3
    refine J_callV hX [.int p1, .int p2, .int p3] [.int 0, .ref (adr G 16 0)] [.int v, .int 0, .ref (adr G 16 0)] (ctX12_addValley (G := G) (l := l) w p1 p2 p3 n hr) miX12_addValley mvX12_addValley cb9 kEcho q_1562 ⟨rfl, rfl, Nat.le_of_ble_eq_true rfl, Nat.le_of_ble_eq_true rfl⟩ rfl rfl (Nat.le_of_ble_eq_true rfl) ⟨Nat.le_of_ble_eq_true rfl, Nat.le_of_ble_eq_true rfl⟩ dL_addValley_7 (t := 10) rfl rfl ?_
    refine J_i2l hX dL_addValley_10 (t := 11) rfl ?_
    refine J_last (w2 := sW w2 16 (sL (w2 16) 0 0 v.toInt64)) (k9 := 0) hX kOut (by decide) rfl rfl dL_addValley_11 (t := 12) rfl ?_
    refine J_goto (tgt := 23) hX dL_addValley_12 (by decide) ?_
    refine J_iconst (v := 0) hX dL_addValley_23 (by decide) (t := 24) rfl ?_
    refine J_wid (k := 1) (n := 6) (by decide) (by decide) ?_
    exact J_iretP hX hR hlk (fun H h => ⟨rfl, h⟩) dL_addValley_24
  · skip
    by_cases e0 : E = "java/lang/IllegalArgumentException"
    · subst e0
      cases hK
      refine J_callVT hX [.int p1, .int p2, .int p3] [.int 0, .ref (adr G 16 0)] (ceX12_addValley (G := G) (l := l) hl w p1 p2 p3 n hr) miX12_addValley mvX12_addValley cb9 kEcho q_1562 ⟨rfl, rfl, Nat.le_of_ble_eq_true rfl, Nat.le_of_ble_eq_true rfl⟩ rfl rfl (Nat.le_of_ble_eq_true rfl) ⟨Nat.le_of_ble_eq_true rfl, Nat.le_of_ble_eq_true rfl⟩ dL_addValley_7 ?_
      refine JT_catch hX (name := "java/lang/IllegalArgumentException") [] _ _ hT (fun z hz => absurd hz List.not_mem_nil) (by decide) (by decide) q_868 (hX.cast (by simp [castL])) (fun q => ?_)
      refine J_astore (lc2 := [(5, .ref q), (0, .ref (adr G 0 0)), (1, .int p1), (2, .int p2), (3, .int p3), (4, .ref (adr G 16 0))]) hX dL_addValley_15 (Nat.le_of_ble_eq_true rfl) rfl (t := 17) rfl ?_
      refine J_iconst (v := 1) hX dL_addValley_17 (by decide) (t := 18) rfl ?_
      refine J_wid (k := 1) (n := 6) (by decide) (by decide) ?_
      exact J_iretP hX hR hlk (fun H h => ⟨rfl, h⟩) dL_addValley_18
    replace hK := it_f hK e0
    by_cases e1 : E = "java/lang/IllegalStateException"
    · subst e1
      cases hK
      refine J_callVT hX [.int p1, .int p2, .int p3] [.int 0, .ref (adr G 16 0)] (ceX12_addValley (G := G) (l := l) hl w p1 p2 p3 n hr) miX12_addValley mvX12_addValley cb9 kEcho q_1562 ⟨rfl, rfl, Nat.le_of_ble_eq_true rfl, Nat.le_of_ble_eq_true rfl⟩ rfl rfl (Nat.le_of_ble_eq_true rfl) ⟨Nat.le_of_ble_eq_true rfl, Nat.le_of_ble_eq_true rfl⟩ dL_addValley_7 ?_
      refine JT_catch hX (name := "java/lang/IllegalStateException") [_] _ _ hT (fun z hz => Or.inr (by
            rcases List.mem_cons.mp hz with rfl | hz
            · exact ⟨by decide, "java/lang/IllegalArgumentException", hX.2.2.2.2.1 _ q_868, hNC.2.2⟩
            · cases hz)) (by decide) (by decide) q_784 (hX.cast (by simp [castL])) (fun q => ?_)
      refine J_astore (lc2 := [(5, .ref q), (0, .ref (adr G 0 0)), (1, .int p1), (2, .int p2), (3, .int p3), (4, .ref (adr G 16 0))]) hX dL_addValley_19 (Nat.le_of_ble_eq_true rfl) rfl (t := 21) rfl ?_
      refine J_iconst (v := 2) hX dL_addValley_21 (by decide) (t := 22) rfl ?_
      refine J_wid (k := 1) (n := 6) (by decide) (by decide) ?_
      exact J_iretP hX hR hlk (fun H h => ⟨rfl, h⟩) dL_addValley_22
    replace hK := it_f hK e1
    cases hK
abbrev rmL_addCustomer : Room := { frames := 8, cells := 1, slots := 6, locals := 134 }
theorem miL_addCustomer : MIW yL_addCustomer cL_addCustomer 5 (some .int) [(0, 10, 13, 19), (0, 10, 17, 13)] 4 := ⟨q_1569, q_135, by decide +kernel, by decide +kernel, by decide +kernel, by decide +kernel⟩
def FL_addCustomer (n : Nat) (w : Wd) (p1 : Int32) (p2 : Int32) : Option (Int32 × Wd) := lwW (fun E => if E = "java/lang/IllegalArgumentException" then some 1 else if E = "java/lang/IllegalStateException" then some 2 else none) (FX12_addCustomer n w p1 p2)
set_option maxHeartbeats 4000000 in
theorem ctL_addCustomer {G : GG} {l : Launch} (hl : l.stackTraces = false) (w : Wd) (p1 : Int32) (p2 : Int32) (n : Nat) {k : Int32} {w3 : Wd} (hF : FL_addCustomer n w p1 p2 = some (k, w3)) : CTW G l yL_addCustomer cL_addCustomer 5 (some .int) [(0, 10, 13, 19), (0, 10, 17, 13)] rmL_addCustomer 1 6 [.ref (adr G 0 0), .int p1, .int p2, .ref (adr G 16 0)] (GH G w) (fun v H => v = some (.int k) ∧ GH G w3 H) := by
  refine CTW.of miL_addCustomer [(0, .ref (adr G 0 0)), (1, .int p1), (2, .int p2), (3, .ref (adr G 16 0))] rfl (Nat.le_of_ble_eq_true rfl) ?_
  intro p e s m args below meth c hX hNC hT hR hlk
  have hX : FX G RL cL_addCustomer 5 p s m args c := hX
  unfold FL_addCustomer at hF
  refine J_aload_n hX dL_addCustomer_0 3 rfl (t := 1) rfl ?_
  refine J_iconst (v := 0) hX dL_addCustomer_1 (by decide) (t := 2) rfl ?_
  refine J_aload_n hX dL_addCustomer_2 0 rfl (t := 3) rfl ?_
  refine J_iload_n hX dL_addCustomer_3 1 rfl (t := 4) rfl ?_
  refine J_iload_n hX dL_addCustomer_4 2 rfl (t := 5) rfl ?_
  rcases lwW_e hF with ⟨v, w2, hr, hk, hw3⟩ | ⟨E, hr, hK⟩
  · subst hk
    subst hw3
    refine J_callV hX [.int p1, .int p2] [.int 0, .ref (adr G 16 0)] [.int v, .int 0, .ref (adr G 16 0)] (ctX12_addCustomer (G := G) (l := l) w p1 p2 n hr) miX12_addCustomer mvX12_addCustomer cb9 kEcho q_1570 ⟨rfl, rfl, Nat.le_of_ble_eq_true rfl, Nat.le_of_ble_eq_true rfl⟩ rfl rfl (Nat.le_of_ble_eq_true rfl) ⟨Nat.le_of_ble_eq_true rfl, Nat.le_of_ble_eq_true rfl⟩ dL_addCustomer_5 (t := 8) rfl rfl ?_
    refine J_i2l hX dL_addCustomer_8 (t := 9) rfl ?_
    refine J_last (w2 := sW w2 16 (sL (w2 16) 0 0 v.toInt64)) (k9 := 0) hX kOut (by decide) rfl rfl dL_addCustomer_9 (t := 10) rfl ?_
    refine J_goto (tgt := 21) hX dL_addCustomer_10 (by decide) ?_
    refine J_iconst (v := 0) hX dL_addCustomer_21 (by decide) (t := 22) rfl ?_
    refine J_wid (k := 1) (n := 6) (by decide) (by decide) ?_
    exact J_iretP hX hR hlk (fun H h => ⟨rfl, h⟩) dL_addCustomer_22
  · skip
    by_cases e0 : E = "java/lang/IllegalArgumentException"
    · subst e0
      cases hK
      refine J_callVT hX [.int p1, .int p2] [.int 0, .ref (adr G 16 0)] (ceX12_addCustomer (G := G) (l := l) hl w p1 p2 n hr) miX12_addCustomer mvX12_addCustomer cb9 kEcho q_1570 ⟨rfl, rfl, Nat.le_of_ble_eq_true rfl, Nat.le_of_ble_eq_true rfl⟩ rfl rfl (Nat.le_of_ble_eq_true rfl) ⟨Nat.le_of_ble_eq_true rfl, Nat.le_of_ble_eq_true rfl⟩ dL_addCustomer_5 ?_
      refine JT_catch hX (name := "java/lang/IllegalArgumentException") [] _ _ hT (fun z hz => absurd hz List.not_mem_nil) (by decide) (by decide) q_868 (hX.cast (by simp [castL])) (fun q => ?_)
      refine J_astore (lc2 := [(4, .ref q), (0, .ref (adr G 0 0)), (1, .int p1), (2, .int p2), (3, .ref (adr G 16 0))]) hX dL_addCustomer_13 (Nat.le_of_ble_eq_true rfl) rfl (t := 15) rfl ?_
      refine J_iconst (v := 1) hX dL_addCustomer_15 (by decide) (t := 16) rfl ?_
      refine J_wid (k := 1) (n := 6) (by decide) (by decide) ?_
      exact J_iretP hX hR hlk (fun H h => ⟨rfl, h⟩) dL_addCustomer_16
    replace hK := it_f hK e0
    by_cases e1 : E = "java/lang/IllegalStateException"
    · subst e1
      cases hK
      refine J_callVT hX [.int p1, .int p2] [.int 0, .ref (adr G 16 0)] (ceX12_addCustomer (G := G) (l := l) hl w p1 p2 n hr) miX12_addCustomer mvX12_addCustomer cb9 kEcho q_1570 ⟨rfl, rfl, Nat.le_of_ble_eq_true rfl, Nat.le_of_ble_eq_true rfl⟩ rfl rfl (Nat.le_of_ble_eq_true rfl) ⟨Nat.le_of_ble_eq_true rfl, Nat.le_of_ble_eq_true rfl⟩ dL_addCustomer_5 ?_
      refine JT_catch hX (name := "java/lang/IllegalStateException") [_] _ _ hT (fun z hz => Or.inr (by
            rcases List.mem_cons.mp hz with rfl | hz
            · exact ⟨by decide, "java/lang/IllegalArgumentException", hX.2.2.2.2.1 _ q_868, hNC.2.2⟩
            · cases hz)) (by decide) (by decide) q_784 (hX.cast (by simp [castL])) (fun q => ?_)
      refine J_astore (lc2 := [(4, .ref q), (0, .ref (adr G 0 0)), (1, .int p1), (2, .int p2), (3, .ref (adr G 16 0))]) hX dL_addCustomer_17 (Nat.le_of_ble_eq_true rfl) rfl (t := 19) rfl ?_
      refine J_iconst (v := 2) hX dL_addCustomer_19 (by decide) (t := 20) rfl ?_
      refine J_wid (k := 1) (n := 6) (by decide) (by decide) ?_
      exact J_iretP hX hR hlk (fun H h => ⟨rfl, h⟩) dL_addCustomer_20
    replace hK := it_f hK e1
    cases hK
abbrev rmL_shout : Room := { frames := 9, cells := 1, slots := 6, locals := 154 }
theorem miL_shout : MIW yL_shout cL_shout 7 (some .int) [(0, 14, 17, 32), (0, 14, 21, 19), (0, 14, 25, 13)] 6 := ⟨q_1577, q_135, by decide +kernel, by decide +kernel, by decide +kernel, by decide +kernel⟩
def FL_shout (n : Nat) (w : Wd) (p1 : Int32) (p2 : Int32) (p3 : Int32) (p4 : Int32) : Option (Int32 × Wd) := lwW (fun E => if E = "java/lang/IndexOutOfBoundsException" then some 1 else if E = "java/lang/IllegalArgumentException" then some 2 else if E = "java/lang/IllegalStateException" then some 3 else none) (FX12_shout n w p1 p2 p3 p4)
set_option maxHeartbeats 4000000 in
theorem ctL_shout {G : GG} {l : Launch} (hl : l.stackTraces = false) (w : Wd) (p1 : Int32) (p2 : Int32) (p3 : Int32) (p4 : Int32) (n : Nat) {k : Int32} {w3 : Wd} (hF : FL_shout n w p1 p2 p3 p4 = some (k, w3)) : CTW G l yL_shout cL_shout 7 (some .int) [(0, 14, 17, 32), (0, 14, 21, 19), (0, 14, 25, 13)] rmL_shout 1 6 [.ref (adr G 0 0), .int p1, .int p2, .int p3, .int p4, .ref (adr G 16 0)] (GH G w) (fun v H => v = some (.int k) ∧ GH G w3 H) := by
  refine CTW.of miL_shout [(0, .ref (adr G 0 0)), (1, .int p1), (2, .int p2), (3, .int p3), (4, .int p4), (5, .ref (adr G 16 0))] rfl (Nat.le_of_ble_eq_true rfl) ?_
  intro p e s m args below meth c hX hNC hT hR hlk
  have hX : FX G RL cL_shout 7 p s m args c := hX
  unfold FL_shout at hF
  refine J_aload hX dL_shout_0 5 rfl (t := 2) rfl ?_
  refine J_iconst (v := 0) hX dL_shout_2 (by decide) (t := 3) rfl ?_
  refine J_aload_n hX dL_shout_3 0 rfl (t := 4) rfl ?_
  refine J_iload_n hX dL_shout_4 1 rfl (t := 5) rfl ?_
  refine J_iload_n hX dL_shout_5 2 rfl (t := 6) rfl ?_
  refine J_iload_n hX dL_shout_6 3 rfl (t := 7) rfl ?_
  refine J_iload hX dL_shout_7 4 rfl (t := 9) rfl ?_
  rcases lwW_e hF with ⟨v, w2, hr, hk, hw3⟩ | ⟨E, hr, hK⟩
  · subst hk
    subst hw3
    refine J_callV hX [.int p1, .int p2, .int p3, .int p4] [.int 0, .ref (adr G 16 0)] [.int v, .int 0, .ref (adr G 16 0)] (ctX12_shout (G := G) (l := l) w p1 p2 p3 p4 n hr) miX12_shout mvX12_shout cb9 kEcho q_1578 ⟨rfl, rfl, Nat.le_of_ble_eq_true rfl, Nat.le_of_ble_eq_true rfl⟩ rfl rfl (Nat.le_of_ble_eq_true rfl) ⟨Nat.le_of_ble_eq_true rfl, Nat.le_of_ble_eq_true rfl⟩ dL_shout_9 (t := 12) rfl rfl ?_
    refine J_i2l hX dL_shout_12 (t := 13) rfl ?_
    refine J_last (w2 := sW w2 16 (sL (w2 16) 0 0 v.toInt64)) (k9 := 0) hX kOut (by decide) rfl rfl dL_shout_13 (t := 14) rfl ?_
    refine J_goto (tgt := 29) hX dL_shout_14 (by decide) ?_
    refine J_iconst (v := 0) hX dL_shout_29 (by decide) (t := 30) rfl ?_
    refine J_wid (k := 1) (n := 6) (by decide) (by decide) ?_
    exact J_iretP hX hR hlk (fun H h => ⟨rfl, h⟩) dL_shout_30
  · skip
    by_cases e0 : E = "java/lang/IndexOutOfBoundsException"
    · subst e0
      cases hK
      refine J_callVT hX [.int p1, .int p2, .int p3, .int p4] [.int 0, .ref (adr G 16 0)] (ceX12_shout (G := G) (l := l) hl w p1 p2 p3 p4 n hr) miX12_shout mvX12_shout cb9 kEcho q_1578 ⟨rfl, rfl, Nat.le_of_ble_eq_true rfl, Nat.le_of_ble_eq_true rfl⟩ rfl rfl (Nat.le_of_ble_eq_true rfl) ⟨Nat.le_of_ble_eq_true rfl, Nat.le_of_ble_eq_true rfl⟩ dL_shout_9 ?_
      refine JT_catch hX (name := "java/lang/IndexOutOfBoundsException") [] _ _ hT (fun z hz => absurd hz List.not_mem_nil) (by decide) (by decide) q_1315 (hX.cast (by simp [castL])) (fun q => ?_)
      refine J_astore (lc2 := [(6, .ref q), (0, .ref (adr G 0 0)), (1, .int p1), (2, .int p2), (3, .int p3), (4, .int p4), (5, .ref (adr G 16 0))]) hX dL_shout_17 (Nat.le_of_ble_eq_true rfl) rfl (t := 19) rfl ?_
      refine J_iconst (v := 1) hX dL_shout_19 (by decide) (t := 20) rfl ?_
      refine J_wid (k := 1) (n := 6) (by decide) (by decide) ?_
      exact J_iretP hX hR hlk (fun H h => ⟨rfl, h⟩) dL_shout_20
    replace hK := it_f hK e0
    by_cases e1 : E = "java/lang/IllegalArgumentException"
    · subst e1
      cases hK
      refine J_callVT hX [.int p1, .int p2, .int p3, .int p4] [.int 0, .ref (adr G 16 0)] (ceX12_shout (G := G) (l := l) hl w p1 p2 p3 p4 n hr) miX12_shout mvX12_shout cb9 kEcho q_1578 ⟨rfl, rfl, Nat.le_of_ble_eq_true rfl, Nat.le_of_ble_eq_true rfl⟩ rfl rfl (Nat.le_of_ble_eq_true rfl) ⟨Nat.le_of_ble_eq_true rfl, Nat.le_of_ble_eq_true rfl⟩ dL_shout_9 ?_
      refine JT_catch hX (name := "java/lang/IllegalArgumentException") [_] _ _ hT (fun z hz => Or.inr (by
            rcases List.mem_cons.mp hz with rfl | hz
            · exact ⟨by decide, "java/lang/IndexOutOfBoundsException", hX.2.2.2.2.1 _ q_1315, hNC.1⟩
            · cases hz)) (by decide) (by decide) q_868 (hX.cast (by simp [castL])) (fun q => ?_)
      refine J_astore (lc2 := [(6, .ref q), (0, .ref (adr G 0 0)), (1, .int p1), (2, .int p2), (3, .int p3), (4, .int p4), (5, .ref (adr G 16 0))]) hX dL_shout_21 (Nat.le_of_ble_eq_true rfl) rfl (t := 23) rfl ?_
      refine J_iconst (v := 2) hX dL_shout_23 (by decide) (t := 24) rfl ?_
      refine J_wid (k := 1) (n := 6) (by decide) (by decide) ?_
      exact J_iretP hX hR hlk (fun H h => ⟨rfl, h⟩) dL_shout_24
    replace hK := it_f hK e1
    by_cases e2 : E = "java/lang/IllegalStateException"
    · subst e2
      cases hK
      refine J_callVT hX [.int p1, .int p2, .int p3, .int p4] [.int 0, .ref (adr G 16 0)] (ceX12_shout (G := G) (l := l) hl w p1 p2 p3 p4 n hr) miX12_shout mvX12_shout cb9 kEcho q_1578 ⟨rfl, rfl, Nat.le_of_ble_eq_true rfl, Nat.le_of_ble_eq_true rfl⟩ rfl rfl (Nat.le_of_ble_eq_true rfl) ⟨Nat.le_of_ble_eq_true rfl, Nat.le_of_ble_eq_true rfl⟩ dL_shout_9 ?_
      refine JT_catch hX (name := "java/lang/IllegalStateException") [_, _] _ _ hT (fun z hz => Or.inr (by
            rcases List.mem_cons.mp hz with rfl | hz
            · exact ⟨by decide, "java/lang/IndexOutOfBoundsException", hX.2.2.2.2.1 _ q_1315, hNC.2.1⟩
            · rcases List.mem_cons.mp hz with rfl | hz
              · exact ⟨by decide, "java/lang/IllegalArgumentException", hX.2.2.2.2.1 _ q_868, hNC.2.2⟩
              · cases hz)) (by decide) (by decide) q_784 (hX.cast (by simp [castL])) (fun q => ?_)
      refine J_astore (lc2 := [(6, .ref q), (0, .ref (adr G 0 0)), (1, .int p1), (2, .int p2), (3, .int p3), (4, .int p4), (5, .ref (adr G 16 0))]) hX dL_shout_25 (Nat.le_of_ble_eq_true rfl) rfl (t := 27) rfl ?_
      refine J_iconst (v := 3) hX dL_shout_27 (by decide) (t := 28) rfl ?_
      refine J_wid (k := 1) (n := 6) (by decide) (by decide) ?_
      exact J_iretP hX hR hlk (fun H h => ⟨rfl, h⟩) dL_shout_28
    replace hK := it_f hK e2
    cases hK
abbrev rmL_cancel : Room := { frames := 9, cells := 1, slots := 6, locals := 151 }
theorem miL_cancel : MIW yL_cancel cL_cancel 4 (some .int) [(0, 9, 12, 32), (0, 9, 15, 13)] 3 := ⟨q_1592, q_135, by decide +kernel, by decide +kernel, by decide +kernel, by decide +kernel⟩
def FL_cancel (n : Nat) (w : Wd) (p1 : Int32) : Option (Int32 × Wd) := lwW (fun E => if E = "java/lang/IndexOutOfBoundsException" then some 1 else if E = "java/lang/IllegalStateException" then some 2 else none) (FX12_cancel n w p1)
set_option maxHeartbeats 4000000 in
theorem ctL_cancel {G : GG} {l : Launch} (hl : l.stackTraces = false) (w : Wd) (p1 : Int32) (n : Nat) {k : Int32} {w3 : Wd} (hF : FL_cancel n w p1 = some (k, w3)) : CTW G l yL_cancel cL_cancel 4 (some .int) [(0, 9, 12, 32), (0, 9, 15, 13)] rmL_cancel 1 6 [.ref (adr G 0 0), .int p1, .ref (adr G 16 0)] (GH G w) (fun v H => v = some (.int k) ∧ GH G w3 H) := by
  refine CTW.of miL_cancel [(0, .ref (adr G 0 0)), (1, .int p1), (2, .ref (adr G 16 0))] rfl (Nat.le_of_ble_eq_true rfl) ?_
  intro p e s m args below meth c hX hNC hT hR hlk
  have hX : FX G RL cL_cancel 4 p s m args c := hX
  unfold FL_cancel at hF
  refine J_aload_n hX dL_cancel_0 2 rfl (t := 1) rfl ?_
  refine J_iconst (v := 0) hX dL_cancel_1 (by decide) (t := 2) rfl ?_
  refine J_aload_n hX dL_cancel_2 0 rfl (t := 3) rfl ?_
  refine J_iload_n hX dL_cancel_3 1 rfl (t := 4) rfl ?_
  rcases lwW_e hF with ⟨v, w2, hr, hk, hw3⟩ | ⟨E, hr, hK⟩
  · subst hk
    subst hw3
    refine J_callV hX [.int p1] [.int 0, .ref (adr G 16 0)] [.int v, .int 0, .ref (adr G 16 0)] (ctX12_cancel (G := G) (l := l) w p1 n hr) miX12_cancel mvX12_cancel cb9 kEcho q_1593 ⟨rfl, rfl, Nat.le_of_ble_eq_true rfl, Nat.le_of_ble_eq_true rfl⟩ rfl rfl (Nat.le_of_ble_eq_true rfl) ⟨Nat.le_of_ble_eq_true rfl, Nat.le_of_ble_eq_true rfl⟩ dL_cancel_4 (t := 7) rfl rfl ?_
    refine J_i2l hX dL_cancel_7 (t := 8) rfl ?_
    refine J_last (w2 := sW w2 16 (sL (w2 16) 0 0 v.toInt64)) (k9 := 0) hX kOut (by decide) rfl rfl dL_cancel_8 (t := 9) rfl ?_
    refine J_goto (tgt := 18) hX dL_cancel_9 (by decide) ?_
    refine J_iconst (v := 0) hX dL_cancel_18 (by decide) (t := 19) rfl ?_
    refine J_wid (k := 1) (n := 6) (by decide) (by decide) ?_
    exact J_iretP hX hR hlk (fun H h => ⟨rfl, h⟩) dL_cancel_19
  · skip
    by_cases e0 : E = "java/lang/IndexOutOfBoundsException"
    · subst e0
      cases hK
      refine J_callVT hX [.int p1] [.int 0, .ref (adr G 16 0)] (ceX12_cancel (G := G) (l := l) hl w p1 n hr) miX12_cancel mvX12_cancel cb9 kEcho q_1593 ⟨rfl, rfl, Nat.le_of_ble_eq_true rfl, Nat.le_of_ble_eq_true rfl⟩ rfl rfl (Nat.le_of_ble_eq_true rfl) ⟨Nat.le_of_ble_eq_true rfl, Nat.le_of_ble_eq_true rfl⟩ dL_cancel_4 ?_
      refine JT_catch hX (name := "java/lang/IndexOutOfBoundsException") [] _ _ hT (fun z hz => absurd hz List.not_mem_nil) (by decide) (by decide) q_1315 (hX.cast (by simp [castL])) (fun q => ?_)
      refine J_astore_n (lc2 := [(3, .ref q), (0, .ref (adr G 0 0)), (1, .int p1), (2, .ref (adr G 16 0))]) hX dL_cancel_12 rfl (Nat.le_of_ble_eq_true rfl) rfl (t := 13) rfl ?_
      refine J_iconst (v := 1) hX dL_cancel_13 (by decide) (t := 14) rfl ?_
      refine J_wid (k := 1) (n := 6) (by decide) (by decide) ?_
      exact J_iretP hX hR hlk (fun H h => ⟨rfl, h⟩) dL_cancel_14
    replace hK := it_f hK e0
    by_cases e1 : E = "java/lang/IllegalStateException"
    · subst e1
      cases hK
      refine J_callVT hX [.int p1] [.int 0, .ref (adr G 16 0)] (ceX12_cancel (G := G) (l := l) hl w p1 n hr) miX12_cancel mvX12_cancel cb9 kEcho q_1593 ⟨rfl, rfl, Nat.le_of_ble_eq_true rfl, Nat.le_of_ble_eq_true rfl⟩ rfl rfl (Nat.le_of_ble_eq_true rfl) ⟨Nat.le_of_ble_eq_true rfl, Nat.le_of_ble_eq_true rfl⟩ dL_cancel_4 ?_
      refine JT_catch hX (name := "java/lang/IllegalStateException") [_] _ _ hT (fun z hz => Or.inr (by
            rcases List.mem_cons.mp hz with rfl | hz
            · exact ⟨by decide, "java/lang/IndexOutOfBoundsException", hX.2.2.2.2.1 _ q_1315, hNC.2.1⟩
            · cases hz)) (by decide) (by decide) q_784 (hX.cast (by simp [castL])) (fun q => ?_)
      refine J_astore_n (lc2 := [(3, .ref q), (0, .ref (adr G 0 0)), (1, .int p1), (2, .ref (adr G 16 0))]) hX dL_cancel_15 rfl (Nat.le_of_ble_eq_true rfl) rfl (t := 16) rfl ?_
      refine J_iconst (v := 2) hX dL_cancel_16 (by decide) (t := 17) rfl ?_
      refine J_wid (k := 1) (n := 6) (by decide) (by decide) ?_
      exact J_iretP hX hR hlk (fun H h => ⟨rfl, h⟩) dL_cancel_17
    replace hK := it_f hK e1
    cases hK
abbrev rmL_fake : Room := { frames := 9, cells := 1, slots := 6, locals := 151 }
theorem miL_fake : MIW yL_fake cL_fake 4 (some .int) [(0, 9, 12, 32), (0, 9, 15, 13)] 3 := ⟨q_1601, q_135, by decide +kernel, by decide +kernel, by decide +kernel, by decide +kernel⟩
def FL_fake (n : Nat) (w : Wd) (p1 : Int32) : Option (Int32 × Wd) := lwW (fun E => if E = "java/lang/IndexOutOfBoundsException" then some 1 else if E = "java/lang/IllegalStateException" then some 2 else none) (FX12_fake n w p1)
set_option maxHeartbeats 4000000 in
theorem ctL_fake {G : GG} {l : Launch} (hl : l.stackTraces = false) (w : Wd) (p1 : Int32) (n : Nat) {k : Int32} {w3 : Wd} (hF : FL_fake n w p1 = some (k, w3)) : CTW G l yL_fake cL_fake 4 (some .int) [(0, 9, 12, 32), (0, 9, 15, 13)] rmL_fake 1 6 [.ref (adr G 0 0), .int p1, .ref (adr G 16 0)] (GH G w) (fun v H => v = some (.int k) ∧ GH G w3 H) := by
  refine CTW.of miL_fake [(0, .ref (adr G 0 0)), (1, .int p1), (2, .ref (adr G 16 0))] rfl (Nat.le_of_ble_eq_true rfl) ?_
  intro p e s m args below meth c hX hNC hT hR hlk
  have hX : FX G RL cL_fake 4 p s m args c := hX
  unfold FL_fake at hF
  refine J_aload_n hX dL_fake_0 2 rfl (t := 1) rfl ?_
  refine J_iconst (v := 0) hX dL_fake_1 (by decide) (t := 2) rfl ?_
  refine J_aload_n hX dL_fake_2 0 rfl (t := 3) rfl ?_
  refine J_iload_n hX dL_fake_3 1 rfl (t := 4) rfl ?_
  rcases lwW_e hF with ⟨v, w2, hr, hk, hw3⟩ | ⟨E, hr, hK⟩
  · subst hk
    subst hw3
    refine J_callV hX [.int p1] [.int 0, .ref (adr G 16 0)] [.int v, .int 0, .ref (adr G 16 0)] (ctX12_fake (G := G) (l := l) w p1 n hr) miX12_fake mvX12_fake cb9 kEcho q_1602 ⟨rfl, rfl, Nat.le_of_ble_eq_true rfl, Nat.le_of_ble_eq_true rfl⟩ rfl rfl (Nat.le_of_ble_eq_true rfl) ⟨Nat.le_of_ble_eq_true rfl, Nat.le_of_ble_eq_true rfl⟩ dL_fake_4 (t := 7) rfl rfl ?_
    refine J_i2l hX dL_fake_7 (t := 8) rfl ?_
    refine J_last (w2 := sW w2 16 (sL (w2 16) 0 0 v.toInt64)) (k9 := 0) hX kOut (by decide) rfl rfl dL_fake_8 (t := 9) rfl ?_
    refine J_goto (tgt := 18) hX dL_fake_9 (by decide) ?_
    refine J_iconst (v := 0) hX dL_fake_18 (by decide) (t := 19) rfl ?_
    refine J_wid (k := 1) (n := 6) (by decide) (by decide) ?_
    exact J_iretP hX hR hlk (fun H h => ⟨rfl, h⟩) dL_fake_19
  · skip
    by_cases e0 : E = "java/lang/IndexOutOfBoundsException"
    · subst e0
      cases hK
      refine J_callVT hX [.int p1] [.int 0, .ref (adr G 16 0)] (ceX12_fake (G := G) (l := l) hl w p1 n hr) miX12_fake mvX12_fake cb9 kEcho q_1602 ⟨rfl, rfl, Nat.le_of_ble_eq_true rfl, Nat.le_of_ble_eq_true rfl⟩ rfl rfl (Nat.le_of_ble_eq_true rfl) ⟨Nat.le_of_ble_eq_true rfl, Nat.le_of_ble_eq_true rfl⟩ dL_fake_4 ?_
      refine JT_catch hX (name := "java/lang/IndexOutOfBoundsException") [] _ _ hT (fun z hz => absurd hz List.not_mem_nil) (by decide) (by decide) q_1315 (hX.cast (by simp [castL])) (fun q => ?_)
      refine J_astore_n (lc2 := [(3, .ref q), (0, .ref (adr G 0 0)), (1, .int p1), (2, .ref (adr G 16 0))]) hX dL_fake_12 rfl (Nat.le_of_ble_eq_true rfl) rfl (t := 13) rfl ?_
      refine J_iconst (v := 1) hX dL_fake_13 (by decide) (t := 14) rfl ?_
      refine J_wid (k := 1) (n := 6) (by decide) (by decide) ?_
      exact J_iretP hX hR hlk (fun H h => ⟨rfl, h⟩) dL_fake_14
    replace hK := it_f hK e0
    by_cases e1 : E = "java/lang/IllegalStateException"
    · subst e1
      cases hK
      refine J_callVT hX [.int p1] [.int 0, .ref (adr G 16 0)] (ceX12_fake (G := G) (l := l) hl w p1 n hr) miX12_fake mvX12_fake cb9 kEcho q_1602 ⟨rfl, rfl, Nat.le_of_ble_eq_true rfl, Nat.le_of_ble_eq_true rfl⟩ rfl rfl (Nat.le_of_ble_eq_true rfl) ⟨Nat.le_of_ble_eq_true rfl, Nat.le_of_ble_eq_true rfl⟩ dL_fake_4 ?_
      refine JT_catch hX (name := "java/lang/IllegalStateException") [_] _ _ hT (fun z hz => Or.inr (by
            rcases List.mem_cons.mp hz with rfl | hz
            · exact ⟨by decide, "java/lang/IndexOutOfBoundsException", hX.2.2.2.2.1 _ q_1315, hNC.2.1⟩
            · cases hz)) (by decide) (by decide) q_784 (hX.cast (by simp [castL])) (fun q => ?_)
      refine J_astore_n (lc2 := [(3, .ref q), (0, .ref (adr G 0 0)), (1, .int p1), (2, .ref (adr G 16 0))]) hX dL_fake_15 rfl (Nat.le_of_ble_eq_true rfl) rfl (t := 16) rfl ?_
      refine J_iconst (v := 2) hX dL_fake_16 (by decide) (t := 17) rfl ?_
      refine J_wid (k := 1) (n := 6) (by decide) (by decide) ?_
      exact J_iretP hX hR hlk (fun H h => ⟨rfl, h⟩) dL_fake_17
    replace hK := it_f hK e1
    cases hK
abbrev rmL_setFog : Room := { frames := 9, cells := 1, slots := 6, locals := 152 }
theorem miL_setFog : MIW yL_setFog cL_setFog 5 (some .int) [(0, 10, 13, 32), (0, 10, 17, 19)] 4 := ⟨q_1609, q_135, by decide +kernel, by decide +kernel, by decide +kernel, by decide +kernel⟩
def FL_setFog (n : Nat) (w : Wd) (p1 : Int32) (p2 : Int32) : Option (Int32 × Wd) := lwW (fun E => if E = "java/lang/IndexOutOfBoundsException" then some 1 else if E = "java/lang/IllegalArgumentException" then some 2 else none) (FX12_setFog n w p1 p2)
set_option maxHeartbeats 4000000 in
theorem ctL_setFog {G : GG} {l : Launch} (hl : l.stackTraces = false) (w : Wd) (p1 : Int32) (p2 : Int32) (n : Nat) {k : Int32} {w3 : Wd} (hF : FL_setFog n w p1 p2 = some (k, w3)) : CTW G l yL_setFog cL_setFog 5 (some .int) [(0, 10, 13, 32), (0, 10, 17, 19)] rmL_setFog 1 6 [.ref (adr G 0 0), .int p1, .int p2, .ref (adr G 16 0)] (GH G w) (fun v H => v = some (.int k) ∧ GH G w3 H) := by
  refine CTW.of miL_setFog [(0, .ref (adr G 0 0)), (1, .int p1), (2, .int p2), (3, .ref (adr G 16 0))] rfl (Nat.le_of_ble_eq_true rfl) ?_
  intro p e s m args below meth c hX hNC hT hR hlk
  have hX : FX G RL cL_setFog 5 p s m args c := hX
  unfold FL_setFog at hF
  refine J_aload_n hX dL_setFog_0 3 rfl (t := 1) rfl ?_
  refine J_iconst (v := 0) hX dL_setFog_1 (by decide) (t := 2) rfl ?_
  refine J_aload_n hX dL_setFog_2 0 rfl (t := 3) rfl ?_
  refine J_iload_n hX dL_setFog_3 1 rfl (t := 4) rfl ?_
  refine J_iload_n hX dL_setFog_4 2 rfl (t := 5) rfl ?_
  rcases lwW_e hF with ⟨v, w2, hr, hk, hw3⟩ | ⟨E, hr, hK⟩
  · subst hk
    subst hw3
    refine J_callV hX [.int p1, .int p2] [.int 0, .ref (adr G 16 0)] [.int v, .int 0, .ref (adr G 16 0)] (ctX12_setFog (G := G) (l := l) w p1 p2 n hr) miX12_setFog mvX12_setFog cb9 kEcho q_1610 ⟨rfl, rfl, Nat.le_of_ble_eq_true rfl, Nat.le_of_ble_eq_true rfl⟩ rfl rfl (Nat.le_of_ble_eq_true rfl) ⟨Nat.le_of_ble_eq_true rfl, Nat.le_of_ble_eq_true rfl⟩ dL_setFog_5 (t := 8) rfl rfl ?_
    refine J_i2l hX dL_setFog_8 (t := 9) rfl ?_
    refine J_last (w2 := sW w2 16 (sL (w2 16) 0 0 v.toInt64)) (k9 := 0) hX kOut (by decide) rfl rfl dL_setFog_9 (t := 10) rfl ?_
    refine J_goto (tgt := 21) hX dL_setFog_10 (by decide) ?_
    refine J_iconst (v := 0) hX dL_setFog_21 (by decide) (t := 22) rfl ?_
    refine J_wid (k := 1) (n := 6) (by decide) (by decide) ?_
    exact J_iretP hX hR hlk (fun H h => ⟨rfl, h⟩) dL_setFog_22
  · skip
    by_cases e0 : E = "java/lang/IndexOutOfBoundsException"
    · subst e0
      cases hK
      refine J_callVT hX [.int p1, .int p2] [.int 0, .ref (adr G 16 0)] (ceX12_setFog (G := G) (l := l) hl w p1 p2 n hr) miX12_setFog mvX12_setFog cb9 kEcho q_1610 ⟨rfl, rfl, Nat.le_of_ble_eq_true rfl, Nat.le_of_ble_eq_true rfl⟩ rfl rfl (Nat.le_of_ble_eq_true rfl) ⟨Nat.le_of_ble_eq_true rfl, Nat.le_of_ble_eq_true rfl⟩ dL_setFog_5 ?_
      refine JT_catch hX (name := "java/lang/IndexOutOfBoundsException") [] _ _ hT (fun z hz => absurd hz List.not_mem_nil) (by decide) (by decide) q_1315 (hX.cast (by simp [castL])) (fun q => ?_)
      refine J_astore (lc2 := [(4, .ref q), (0, .ref (adr G 0 0)), (1, .int p1), (2, .int p2), (3, .ref (adr G 16 0))]) hX dL_setFog_13 (Nat.le_of_ble_eq_true rfl) rfl (t := 15) rfl ?_
      refine J_iconst (v := 1) hX dL_setFog_15 (by decide) (t := 16) rfl ?_
      refine J_wid (k := 1) (n := 6) (by decide) (by decide) ?_
      exact J_iretP hX hR hlk (fun H h => ⟨rfl, h⟩) dL_setFog_16
    replace hK := it_f hK e0
    by_cases e1 : E = "java/lang/IllegalArgumentException"
    · subst e1
      cases hK
      refine J_callVT hX [.int p1, .int p2] [.int 0, .ref (adr G 16 0)] (ceX12_setFog (G := G) (l := l) hl w p1 p2 n hr) miX12_setFog mvX12_setFog cb9 kEcho q_1610 ⟨rfl, rfl, Nat.le_of_ble_eq_true rfl, Nat.le_of_ble_eq_true rfl⟩ rfl rfl (Nat.le_of_ble_eq_true rfl) ⟨Nat.le_of_ble_eq_true rfl, Nat.le_of_ble_eq_true rfl⟩ dL_setFog_5 ?_
      refine JT_catch hX (name := "java/lang/IllegalArgumentException") [_] _ _ hT (fun z hz => Or.inr (by
            rcases List.mem_cons.mp hz with rfl | hz
            · exact ⟨by decide, "java/lang/IndexOutOfBoundsException", hX.2.2.2.2.1 _ q_1315, hNC.1⟩
            · cases hz)) (by decide) (by decide) q_868 (hX.cast (by simp [castL])) (fun q => ?_)
      refine J_astore (lc2 := [(4, .ref q), (0, .ref (adr G 0 0)), (1, .int p1), (2, .int p2), (3, .ref (adr G 16 0))]) hX dL_setFog_17 (Nat.le_of_ble_eq_true rfl) rfl (t := 19) rfl ?_
      refine J_iconst (v := 2) hX dL_setFog_19 (by decide) (t := 20) rfl ?_
      refine J_wid (k := 1) (n := 6) (by decide) (by decide) ?_
      exact J_iretP hX hR hlk (fun H h => ⟨rfl, h⟩) dL_setFog_20
    replace hK := it_f hK e1
    cases hK
abbrev rmL_setPrice : Room := { frames := 9, cells := 1, slots := 6, locals := 152 }
theorem miL_setPrice : MIW yL_setPrice cL_setPrice 5 (some .int) [(0, 10, 13, 32), (0, 10, 17, 19)] 4 := ⟨q_1618, q_135, by decide +kernel, by decide +kernel, by decide +kernel, by decide +kernel⟩
def FL_setPrice (n : Nat) (w : Wd) (p1 : Int32) (p2 : Int32) : Option (Int32 × Wd) := lwW (fun E => if E = "java/lang/IndexOutOfBoundsException" then some 1 else if E = "java/lang/IllegalArgumentException" then some 2 else none) (FX12_setPrice n w p1 p2)
set_option maxHeartbeats 4000000 in
theorem ctL_setPrice {G : GG} {l : Launch} (hl : l.stackTraces = false) (w : Wd) (p1 : Int32) (p2 : Int32) (n : Nat) {k : Int32} {w3 : Wd} (hF : FL_setPrice n w p1 p2 = some (k, w3)) : CTW G l yL_setPrice cL_setPrice 5 (some .int) [(0, 10, 13, 32), (0, 10, 17, 19)] rmL_setPrice 1 6 [.ref (adr G 0 0), .int p1, .int p2, .ref (adr G 16 0)] (GH G w) (fun v H => v = some (.int k) ∧ GH G w3 H) := by
  refine CTW.of miL_setPrice [(0, .ref (adr G 0 0)), (1, .int p1), (2, .int p2), (3, .ref (adr G 16 0))] rfl (Nat.le_of_ble_eq_true rfl) ?_
  intro p e s m args below meth c hX hNC hT hR hlk
  have hX : FX G RL cL_setPrice 5 p s m args c := hX
  unfold FL_setPrice at hF
  refine J_aload_n hX dL_setPrice_0 3 rfl (t := 1) rfl ?_
  refine J_iconst (v := 0) hX dL_setPrice_1 (by decide) (t := 2) rfl ?_
  refine J_aload_n hX dL_setPrice_2 0 rfl (t := 3) rfl ?_
  refine J_iload_n hX dL_setPrice_3 1 rfl (t := 4) rfl ?_
  refine J_iload_n hX dL_setPrice_4 2 rfl (t := 5) rfl ?_
  rcases lwW_e hF with ⟨v, w2, hr, hk, hw3⟩ | ⟨E, hr, hK⟩
  · subst hk
    subst hw3
    refine J_callV hX [.int p1, .int p2] [.int 0, .ref (adr G 16 0)] [.int v, .int 0, .ref (adr G 16 0)] (ctX12_setPrice (G := G) (l := l) w p1 p2 n hr) miX12_setPrice mvX12_setPrice cb9 kEcho q_1619 ⟨rfl, rfl, Nat.le_of_ble_eq_true rfl, Nat.le_of_ble_eq_true rfl⟩ rfl rfl (Nat.le_of_ble_eq_true rfl) ⟨Nat.le_of_ble_eq_true rfl, Nat.le_of_ble_eq_true rfl⟩ dL_setPrice_5 (t := 8) rfl rfl ?_
    refine J_i2l hX dL_setPrice_8 (t := 9) rfl ?_
    refine J_last (w2 := sW w2 16 (sL (w2 16) 0 0 v.toInt64)) (k9 := 0) hX kOut (by decide) rfl rfl dL_setPrice_9 (t := 10) rfl ?_
    refine J_goto (tgt := 21) hX dL_setPrice_10 (by decide) ?_
    refine J_iconst (v := 0) hX dL_setPrice_21 (by decide) (t := 22) rfl ?_
    refine J_wid (k := 1) (n := 6) (by decide) (by decide) ?_
    exact J_iretP hX hR hlk (fun H h => ⟨rfl, h⟩) dL_setPrice_22
  · skip
    by_cases e0 : E = "java/lang/IndexOutOfBoundsException"
    · subst e0
      cases hK
      refine J_callVT hX [.int p1, .int p2] [.int 0, .ref (adr G 16 0)] (ceX12_setPrice (G := G) (l := l) hl w p1 p2 n hr) miX12_setPrice mvX12_setPrice cb9 kEcho q_1619 ⟨rfl, rfl, Nat.le_of_ble_eq_true rfl, Nat.le_of_ble_eq_true rfl⟩ rfl rfl (Nat.le_of_ble_eq_true rfl) ⟨Nat.le_of_ble_eq_true rfl, Nat.le_of_ble_eq_true rfl⟩ dL_setPrice_5 ?_
      refine JT_catch hX (name := "java/lang/IndexOutOfBoundsException") [] _ _ hT (fun z hz => absurd hz List.not_mem_nil) (by decide) (by decide) q_1315 (hX.cast (by simp [castL])) (fun q => ?_)
      refine J_astore (lc2 := [(4, .ref q), (0, .ref (adr G 0 0)), (1, .int p1), (2, .int p2), (3, .ref (adr G 16 0))]) hX dL_setPrice_13 (Nat.le_of_ble_eq_true rfl) rfl (t := 15) rfl ?_
      refine J_iconst (v := 1) hX dL_setPrice_15 (by decide) (t := 16) rfl ?_
      refine J_wid (k := 1) (n := 6) (by decide) (by decide) ?_
      exact J_iretP hX hR hlk (fun H h => ⟨rfl, h⟩) dL_setPrice_16
    replace hK := it_f hK e0
    by_cases e1 : E = "java/lang/IllegalArgumentException"
    · subst e1
      cases hK
      refine J_callVT hX [.int p1, .int p2] [.int 0, .ref (adr G 16 0)] (ceX12_setPrice (G := G) (l := l) hl w p1 p2 n hr) miX12_setPrice mvX12_setPrice cb9 kEcho q_1619 ⟨rfl, rfl, Nat.le_of_ble_eq_true rfl, Nat.le_of_ble_eq_true rfl⟩ rfl rfl (Nat.le_of_ble_eq_true rfl) ⟨Nat.le_of_ble_eq_true rfl, Nat.le_of_ble_eq_true rfl⟩ dL_setPrice_5 ?_
      refine JT_catch hX (name := "java/lang/IllegalArgumentException") [_] _ _ hT (fun z hz => Or.inr (by
            rcases List.mem_cons.mp hz with rfl | hz
            · exact ⟨by decide, "java/lang/IndexOutOfBoundsException", hX.2.2.2.2.1 _ q_1315, hNC.1⟩
            · cases hz)) (by decide) (by decide) q_868 (hX.cast (by simp [castL])) (fun q => ?_)
      refine J_astore (lc2 := [(4, .ref q), (0, .ref (adr G 0 0)), (1, .int p1), (2, .int p2), (3, .ref (adr G 16 0))]) hX dL_setPrice_17 (Nat.le_of_ble_eq_true rfl) rfl (t := 19) rfl ?_
      refine J_iconst (v := 2) hX dL_setPrice_19 (by decide) (t := 20) rfl ?_
      refine J_wid (k := 1) (n := 6) (by decide) (by decide) ?_
      exact J_iretP hX hR hlk (fun H h => ⟨rfl, h⟩) dL_setPrice_20
    replace hK := it_f hK e1
    cases hK
abbrev rmL_setWell : Room := { frames := 9, cells := 1, slots := 6, locals := 151 }
theorem miL_setWell : MIW yL_setWell cL_setWell 4 (some .int) [(0, 9, 12, 19)] 3 := ⟨q_1627, q_135, by decide +kernel, by decide +kernel, by decide +kernel, by decide +kernel⟩
def FL_setWell (n : Nat) (w : Wd) (p1 : Int32) : Option (Int32 × Wd) := lwW (fun E => if E = "java/lang/IllegalArgumentException" then some 1 else none) (FX12_setWell n w p1)
set_option maxHeartbeats 4000000 in
theorem ctL_setWell {G : GG} {l : Launch} (hl : l.stackTraces = false) (w : Wd) (p1 : Int32) (n : Nat) {k : Int32} {w3 : Wd} (hF : FL_setWell n w p1 = some (k, w3)) : CTW G l yL_setWell cL_setWell 4 (some .int) [(0, 9, 12, 19)] rmL_setWell 1 6 [.ref (adr G 0 0), .int p1, .ref (adr G 16 0)] (GH G w) (fun v H => v = some (.int k) ∧ GH G w3 H) := by
  refine CTW.of miL_setWell [(0, .ref (adr G 0 0)), (1, .int p1), (2, .ref (adr G 16 0))] rfl (Nat.le_of_ble_eq_true rfl) ?_
  intro p e s m args below meth c hX hNC hT hR hlk
  have hX : FX G RL cL_setWell 4 p s m args c := hX
  unfold FL_setWell at hF
  refine J_aload_n hX dL_setWell_0 2 rfl (t := 1) rfl ?_
  refine J_iconst (v := 0) hX dL_setWell_1 (by decide) (t := 2) rfl ?_
  refine J_aload_n hX dL_setWell_2 0 rfl (t := 3) rfl ?_
  refine J_iload_n hX dL_setWell_3 1 rfl (t := 4) rfl ?_
  rcases lwW_e hF with ⟨v, w2, hr, hk, hw3⟩ | ⟨E, hr, hK⟩
  · subst hk
    subst hw3
    refine J_callV hX [.int p1] [.int 0, .ref (adr G 16 0)] [.int v, .int 0, .ref (adr G 16 0)] (ctX12_setWell (G := G) (l := l) w p1 n hr) miX12_setWell mvX12_setWell cb9 kEcho q_1628 ⟨rfl, rfl, Nat.le_of_ble_eq_true rfl, Nat.le_of_ble_eq_true rfl⟩ rfl rfl (Nat.le_of_ble_eq_true rfl) ⟨Nat.le_of_ble_eq_true rfl, Nat.le_of_ble_eq_true rfl⟩ dL_setWell_4 (t := 7) rfl rfl ?_
    refine J_i2l hX dL_setWell_7 (t := 8) rfl ?_
    refine J_last (w2 := sW w2 16 (sL (w2 16) 0 0 v.toInt64)) (k9 := 0) hX kOut (by decide) rfl rfl dL_setWell_8 (t := 9) rfl ?_
    refine J_goto (tgt := 15) hX dL_setWell_9 (by decide) ?_
    refine J_iconst (v := 0) hX dL_setWell_15 (by decide) (t := 16) rfl ?_
    refine J_wid (k := 1) (n := 6) (by decide) (by decide) ?_
    exact J_iretP hX hR hlk (fun H h => ⟨rfl, h⟩) dL_setWell_16
  · skip
    by_cases e0 : E = "java/lang/IllegalArgumentException"
    · subst e0
      cases hK
      refine J_callVT hX [.int p1] [.int 0, .ref (adr G 16 0)] (ceX12_setWell (G := G) (l := l) hl w p1 n hr) miX12_setWell mvX12_setWell cb9 kEcho q_1628 ⟨rfl, rfl, Nat.le_of_ble_eq_true rfl, Nat.le_of_ble_eq_true rfl⟩ rfl rfl (Nat.le_of_ble_eq_true rfl) ⟨Nat.le_of_ble_eq_true rfl, Nat.le_of_ble_eq_true rfl⟩ dL_setWell_4 ?_
      refine JT_catch hX (name := "java/lang/IllegalArgumentException") [] _ _ hT (fun z hz => absurd hz List.not_mem_nil) (by decide) (by decide) q_868 (hX.cast (by simp [castL])) (fun q => ?_)
      refine J_astore_n (lc2 := [(3, .ref q), (0, .ref (adr G 0 0)), (1, .int p1), (2, .ref (adr G 16 0))]) hX dL_setWell_12 rfl (Nat.le_of_ble_eq_true rfl) rfl (t := 13) rfl ?_
      refine J_iconst (v := 1) hX dL_setWell_13 (by decide) (t := 14) rfl ?_
      refine J_wid (k := 1) (n := 6) (by decide) (by decide) ?_
      exact J_iretP hX hR hlk (fun H h => ⟨rfl, h⟩) dL_setWell_14
    replace hK := it_f hK e0
    cases hK
abbrev rmL_pass : Room := { frames := 9, cells := 1, slots := 6, locals := 151 }
theorem miL_pass : MIW yL_pass cL_pass 4 (some .int) [(0, 9, 12, 19), (0, 9, 15, 13)] 3 := ⟨q_1636, q_135, by decide +kernel, by decide +kernel, by decide +kernel, by decide +kernel⟩
def FL_pass (n : Nat) (w : Wd) (p1 : Int32) : Option (Int32 × Wd) := lwW (fun E => if E = "java/lang/IllegalArgumentException" then some 1 else if E = "java/lang/IllegalStateException" then some 2 else none) (FX12_pass n w p1)
set_option maxHeartbeats 4000000 in
theorem ctL_pass {G : GG} {l : Launch} (hl : l.stackTraces = false) (w : Wd) (p1 : Int32) (n : Nat) {k : Int32} {w3 : Wd} (hF : FL_pass n w p1 = some (k, w3)) : CTW G l yL_pass cL_pass 4 (some .int) [(0, 9, 12, 19), (0, 9, 15, 13)] rmL_pass 1 6 [.ref (adr G 0 0), .int p1, .ref (adr G 16 0)] (GH G w) (fun v H => v = some (.int k) ∧ GH G w3 H) := by
  refine CTW.of miL_pass [(0, .ref (adr G 0 0)), (1, .int p1), (2, .ref (adr G 16 0))] rfl (Nat.le_of_ble_eq_true rfl) ?_
  intro p e s m args below meth c hX hNC hT hR hlk
  have hX : FX G RL cL_pass 4 p s m args c := hX
  unfold FL_pass at hF
  refine J_aload_n hX dL_pass_0 2 rfl (t := 1) rfl ?_
  refine J_iconst (v := 0) hX dL_pass_1 (by decide) (t := 2) rfl ?_
  refine J_aload_n hX dL_pass_2 0 rfl (t := 3) rfl ?_
  refine J_iload_n hX dL_pass_3 1 rfl (t := 4) rfl ?_
  rcases lwW_e hF with ⟨v, w2, hr, hk, hw3⟩ | ⟨E, hr, hK⟩
  · subst hk
    subst hw3
    refine J_callV hX [.int p1] [.int 0, .ref (adr G 16 0)] [.int v, .int 0, .ref (adr G 16 0)] (ctX12_pass (G := G) (l := l) w p1 n hr) miX12_pass mvX12_pass cb9 kEcho q_1637 ⟨rfl, rfl, Nat.le_of_ble_eq_true rfl, Nat.le_of_ble_eq_true rfl⟩ rfl rfl (Nat.le_of_ble_eq_true rfl) ⟨Nat.le_of_ble_eq_true rfl, Nat.le_of_ble_eq_true rfl⟩ dL_pass_4 (t := 7) rfl rfl ?_
    refine J_i2l hX dL_pass_7 (t := 8) rfl ?_
    refine J_last (w2 := sW w2 16 (sL (w2 16) 0 0 v.toInt64)) (k9 := 0) hX kOut (by decide) rfl rfl dL_pass_8 (t := 9) rfl ?_
    refine J_goto (tgt := 18) hX dL_pass_9 (by decide) ?_
    refine J_iconst (v := 0) hX dL_pass_18 (by decide) (t := 19) rfl ?_
    refine J_wid (k := 1) (n := 6) (by decide) (by decide) ?_
    exact J_iretP hX hR hlk (fun H h => ⟨rfl, h⟩) dL_pass_19
  · skip
    by_cases e0 : E = "java/lang/IllegalArgumentException"
    · subst e0
      cases hK
      refine J_callVT hX [.int p1] [.int 0, .ref (adr G 16 0)] (ceX12_pass (G := G) (l := l) hl w p1 n hr) miX12_pass mvX12_pass cb9 kEcho q_1637 ⟨rfl, rfl, Nat.le_of_ble_eq_true rfl, Nat.le_of_ble_eq_true rfl⟩ rfl rfl (Nat.le_of_ble_eq_true rfl) ⟨Nat.le_of_ble_eq_true rfl, Nat.le_of_ble_eq_true rfl⟩ dL_pass_4 ?_
      refine JT_catch hX (name := "java/lang/IllegalArgumentException") [] _ _ hT (fun z hz => absurd hz List.not_mem_nil) (by decide) (by decide) q_868 (hX.cast (by simp [castL])) (fun q => ?_)
      refine J_astore_n (lc2 := [(3, .ref q), (0, .ref (adr G 0 0)), (1, .int p1), (2, .ref (adr G 16 0))]) hX dL_pass_12 rfl (Nat.le_of_ble_eq_true rfl) rfl (t := 13) rfl ?_
      refine J_iconst (v := 1) hX dL_pass_13 (by decide) (t := 14) rfl ?_
      refine J_wid (k := 1) (n := 6) (by decide) (by decide) ?_
      exact J_iretP hX hR hlk (fun H h => ⟨rfl, h⟩) dL_pass_14
    replace hK := it_f hK e0
    by_cases e1 : E = "java/lang/IllegalStateException"
    · subst e1
      cases hK
      refine J_callVT hX [.int p1] [.int 0, .ref (adr G 16 0)] (ceX12_pass (G := G) (l := l) hl w p1 n hr) miX12_pass mvX12_pass cb9 kEcho q_1637 ⟨rfl, rfl, Nat.le_of_ble_eq_true rfl, Nat.le_of_ble_eq_true rfl⟩ rfl rfl (Nat.le_of_ble_eq_true rfl) ⟨Nat.le_of_ble_eq_true rfl, Nat.le_of_ble_eq_true rfl⟩ dL_pass_4 ?_
      refine JT_catch hX (name := "java/lang/IllegalStateException") [_] _ _ hT (fun z hz => Or.inr (by
            rcases List.mem_cons.mp hz with rfl | hz
            · exact ⟨by decide, "java/lang/IllegalArgumentException", hX.2.2.2.2.1 _ q_868, hNC.2.2⟩
            · cases hz)) (by decide) (by decide) q_784 (hX.cast (by simp [castL])) (fun q => ?_)
      refine J_astore_n (lc2 := [(3, .ref q), (0, .ref (adr G 0 0)), (1, .int p1), (2, .ref (adr G 16 0))]) hX dL_pass_15 rfl (Nat.le_of_ble_eq_true rfl) rfl (t := 16) rfl ?_
      refine J_iconst (v := 2) hX dL_pass_16 (by decide) (t := 17) rfl ?_
      refine J_wid (k := 1) (n := 6) (by decide) (by decide) ?_
      exact J_iretP hX hR hlk (fun H h => ⟨rfl, h⟩) dL_pass_17
    replace hK := it_f hK e1
    cases hK
abbrev rmL_undo : Room := { frames := 8, cells := 1, slots := 6, locals := 130 }
theorem miL_undo : MIW yL_undo cL_undo 3 (some .int) [(0, 8, 11, 13)] 2 := ⟨q_1645, q_135, by decide +kernel, by decide +kernel, by decide +kernel, by decide +kernel⟩
def FL_undo (n : Nat) (w : Wd)  : Option (Int32 × Wd) := lwW (fun E => if E = "java/lang/IllegalStateException" then some 1 else none) (FX12_undo n w)
set_option maxHeartbeats 4000000 in
theorem ctL_undo {G : GG} {l : Launch} (hl : l.stackTraces = false) (w : Wd)  (n : Nat) {k : Int32} {w3 : Wd} (hF : FL_undo n w  = some (k, w3)) : CTW G l yL_undo cL_undo 3 (some .int) [(0, 8, 11, 13)] rmL_undo 1 6 [.ref (adr G 0 0), .ref (adr G 16 0)] (GH G w) (fun v H => v = some (.int k) ∧ GH G w3 H) := by
  refine CTW.of miL_undo [(0, .ref (adr G 0 0)), (1, .ref (adr G 16 0))] rfl (Nat.le_of_ble_eq_true rfl) ?_
  intro p e s m args below meth c hX hNC hT hR hlk
  have hX : FX G RL cL_undo 3 p s m args c := hX
  unfold FL_undo at hF
  refine J_aload_n hX dL_undo_0 1 rfl (t := 1) rfl ?_
  refine J_iconst (v := 0) hX dL_undo_1 (by decide) (t := 2) rfl ?_
  refine J_aload_n hX dL_undo_2 0 rfl (t := 3) rfl ?_
  rcases lwW_e hF with ⟨v, w2, hr, hk, hw3⟩ | ⟨E, hr, hK⟩
  · subst hk
    subst hw3
    refine J_callV hX [] [.int 0, .ref (adr G 16 0)] [.int v, .int 0, .ref (adr G 16 0)] (ctX12_undo (G := G) (l := l) w  n hr) miX12_undo mvX12_undo cb9 kEcho q_1646 ⟨rfl, rfl, Nat.le_of_ble_eq_true rfl, Nat.le_of_ble_eq_true rfl⟩ rfl rfl (Nat.le_of_ble_eq_true rfl) ⟨Nat.le_of_ble_eq_true rfl, Nat.le_of_ble_eq_true rfl⟩ dL_undo_3 (t := 6) rfl rfl ?_
    refine J_i2l hX dL_undo_6 (t := 7) rfl ?_
    refine J_last (w2 := sW w2 16 (sL (w2 16) 0 0 v.toInt64)) (k9 := 0) hX kOut (by decide) rfl rfl dL_undo_7 (t := 8) rfl ?_
    refine J_goto (tgt := 14) hX dL_undo_8 (by decide) ?_
    refine J_iconst (v := 0) hX dL_undo_14 (by decide) (t := 15) rfl ?_
    refine J_wid (k := 1) (n := 6) (by decide) (by decide) ?_
    exact J_iretP hX hR hlk (fun H h => ⟨rfl, h⟩) dL_undo_15
  · skip
    by_cases e0 : E = "java/lang/IllegalStateException"
    · subst e0
      cases hK
      refine J_callVT hX [] [.int 0, .ref (adr G 16 0)] (ceX12_undo (G := G) (l := l) hl w  n hr) miX12_undo mvX12_undo cb9 kEcho q_1646 ⟨rfl, rfl, Nat.le_of_ble_eq_true rfl, Nat.le_of_ble_eq_true rfl⟩ rfl rfl (Nat.le_of_ble_eq_true rfl) ⟨Nat.le_of_ble_eq_true rfl, Nat.le_of_ble_eq_true rfl⟩ dL_undo_3 ?_
      refine JT_catch hX (name := "java/lang/IllegalStateException") [] _ _ hT (fun z hz => absurd hz List.not_mem_nil) (by decide) (by decide) q_784 (hX.cast (by simp [castL])) (fun q => ?_)
      refine J_astore_n (lc2 := [(2, .ref q), (0, .ref (adr G 0 0)), (1, .ref (adr G 16 0))]) hX dL_undo_11 rfl (Nat.le_of_ble_eq_true rfl) rfl (t := 12) rfl ?_
      refine J_iconst (v := 1) hX dL_undo_12 (by decide) (t := 13) rfl ?_
      refine J_wid (k := 1) (n := 6) (by decide) (by decide) ?_
      exact J_iretP hX hR hlk (fun H h => ⟨rfl, h⟩) dL_undo_13
    replace hK := it_f hK e0
    cases hK
abbrev rmL_printReceipt : Room := { frames := 13, cells := 30, slots := 3900, locals := 623 }
theorem miL_printReceipt : MIW yL_printReceipt cL_printReceipt 4 (some .int) [(0, 9, 12, 32)] 3 := ⟨q_1656, q_135, by decide +kernel, by decide +kernel, by decide +kernel, by decide +kernel⟩
def FL_printReceipt (w : Wd) (p1 : Int32) : Option (Int32 × Wd) := lwW (fun E => if E = "java/lang/IndexOutOfBoundsException" then some 1 else none) (FX12_printReceipt w p1)
set_option maxHeartbeats 4000000 in
theorem ctL_printReceipt {G : GG} {l : Launch} (hl : l.stackTraces = false) (w : Wd) (p1 : Int32) {k : Int32} {w3 : Wd} (hF : FL_printReceipt w p1 = some (k, w3)) : CTW G l yL_printReceipt cL_printReceipt 4 (some .int) [(0, 9, 12, 32)] rmL_printReceipt 30 3900 [.ref (adr G 0 0), .int p1, .ref (adr G 16 0)] (GH G w) (fun v H => v = some (.int k) ∧ GH G w3 H) := by
  refine CTW.of miL_printReceipt [(0, .ref (adr G 0 0)), (1, .int p1), (2, .ref (adr G 16 0))] rfl (Nat.le_of_ble_eq_true rfl) ?_
  intro p e s m args below meth c hX hNC hT hR hlk
  have hX : FX G RL cL_printReceipt 4 p s m args c := hX
  unfold FL_printReceipt at hF
  refine J_aload_n hX dL_printReceipt_0 2 rfl (t := 1) rfl ?_
  refine J_iconst (v := 0) hX dL_printReceipt_1 (by decide) (t := 2) rfl ?_
  refine J_aload_n hX dL_printReceipt_2 0 rfl (t := 3) rfl ?_
  refine J_iload_n hX dL_printReceipt_3 1 rfl (t := 4) rfl ?_
  rcases lwW_e hF with ⟨v, w2, hr, hk, hw3⟩ | ⟨E, hr, hK⟩
  · subst hk
    subst hw3
    refine J_callWP hX [.int p1] [.int 0, .ref (adr G 16 0)] (ct_pr hr) miX12_printReceipt mvX12_printReceipt cb9 kEcho q_1657 ⟨rfl, rfl, Nat.le_of_ble_eq_true rfl, Nat.le_of_ble_eq_true rfl⟩ rfl rfl (Nat.le_of_ble_eq_true rfl) ⟨Nat.le_of_ble_eq_true rfl, Nat.le_of_ble_eq_true rfl⟩ dL_printReceipt_4 (t := 7) rfl (fun v9 => J_pure fun hv9 => ?_)
    subst hv9
    refine J_i2l hX dL_printReceipt_7 (t := 8) rfl ?_
    refine J_last (w2 := sW w2 16 (sL (w2 16) 0 0 v.toInt64)) (k9 := 0) hX kOut (by decide) rfl rfl dL_printReceipt_8 (t := 9) rfl ?_
    refine J_goto (tgt := 15) hX dL_printReceipt_9 (by decide) ?_
    refine J_iconst (v := 0) hX dL_printReceipt_15 (by decide) (t := 16) rfl ?_
    refine J_wid (k := 30) (n := 3900) (by decide) (by decide) ?_
    exact J_iretP hX hR hlk (fun H h => ⟨rfl, h⟩) dL_printReceipt_16
  · skip
    by_cases e0 : E = "java/lang/IndexOutOfBoundsException"
    · subst e0
      cases hK
      refine J_callVT hX [.int p1] [.int 0, .ref (adr G 16 0)] (ce_pr hl hr) miX12_printReceipt mvX12_printReceipt cb9 kEcho q_1657 ⟨rfl, rfl, Nat.le_of_ble_eq_true rfl, Nat.le_of_ble_eq_true rfl⟩ rfl rfl (Nat.le_of_ble_eq_true rfl) ⟨Nat.le_of_ble_eq_true rfl, Nat.le_of_ble_eq_true rfl⟩ dL_printReceipt_4 ?_
      refine JT_catch hX (name := "java/lang/IndexOutOfBoundsException") [] _ _ hT (fun z hz => absurd hz List.not_mem_nil) (by decide) (by decide) q_1315 (hX.cast (by simp [castL])) (fun q => ?_)
      refine J_astore_n (lc2 := [(3, .ref q), (0, .ref (adr G 0 0)), (1, .int p1), (2, .ref (adr G 16 0))]) hX dL_printReceipt_12 rfl (Nat.le_of_ble_eq_true rfl) rfl (t := 13) rfl ?_
      refine J_iconst (v := 1) hX dL_printReceipt_13 (by decide) (t := 14) rfl ?_
      refine J_wid (k := 30) (n := 3900) (by decide) (by decide) ?_
      exact J_iretP hX hR hlk (fun H h => ⟨rfl, h⟩) dL_printReceipt_14
    replace hK := it_f hK e0
    cases hK
abbrev rmL_outputByte : Room := { frames := 9, cells := 1, slots := 6, locals := 421 }
theorem miL_outputByte : MIW yL_outputByte cL_outputByte 4 (some .int) [(0, 9, 12, 32)] 3 := ⟨q_1935, q_135, by decide +kernel, by decide +kernel, by decide +kernel, by decide +kernel⟩
def FL_outputByte (w : Wd) (p1 : Int32) : Option (Int32 × Wd) := lwW (fun E => if E = "java/lang/IndexOutOfBoundsException" then some 1 else none) (okW w (FX12_outputByte w p1))
set_option maxHeartbeats 4000000 in
theorem ctL_outputByte {G : GG} {l : Launch} (hl : l.stackTraces = false) (w : Wd) (p1 : Int32) {k : Int32} {w3 : Wd} (hF : FL_outputByte w p1 = some (k, w3)) : CTW G l yL_outputByte cL_outputByte 4 (some .int) [(0, 9, 12, 32)] rmL_outputByte 1 6 [.ref (adr G 0 0), .int p1, .ref (adr G 16 0)] (GH G w) (fun v H => v = some (.int k) ∧ GH G w3 H) := by
  refine CTW.of miL_outputByte [(0, .ref (adr G 0 0)), (1, .int p1), (2, .ref (adr G 16 0))] rfl (Nat.le_of_ble_eq_true rfl) ?_
  intro p e s m args below meth c hX hNC hT hR hlk
  have hX : FX G RL cL_outputByte 4 p s m args c := hX
  unfold FL_outputByte at hF
  refine J_aload_n hX dL_outputByte_0 2 rfl (t := 1) rfl ?_
  refine J_iconst (v := 0) hX dL_outputByte_1 (by decide) (t := 2) rfl ?_
  refine J_aload_n hX dL_outputByte_2 0 rfl (t := 3) rfl ?_
  refine J_iload_n hX dL_outputByte_3 1 rfl (t := 4) rfl ?_
  rcases lwW_e hF with ⟨v, w2, hr, hk, hw3⟩ | ⟨E, hr, hK⟩
  · subst hk
    subst hw3
    obtain ⟨hr9, hw⟩ := okW_o hr
    subst hw
    replace hr := hr9
    refine J_callV hX [.int p1] [.int 0, .ref (adr G 16 0)] [.int v, .int 0, .ref (adr G 16 0)] (ctX12_outputByte (G := G) (l := l) w p1 hr) miX12_outputByte mvX12_outputByte cb9 kEcho q_1936 ⟨rfl, rfl, Nat.le_of_ble_eq_true rfl, Nat.le_of_ble_eq_true rfl⟩ rfl rfl (Nat.le_of_ble_eq_true rfl) ⟨Nat.le_of_ble_eq_true rfl, Nat.le_of_ble_eq_true rfl⟩ dL_outputByte_4 (t := 7) rfl rfl ?_
    refine J_i2l hX dL_outputByte_7 (t := 8) rfl ?_
    refine J_last (w2 := sW w 16 (sL (w 16) 0 0 v.toInt64)) (k9 := 0) hX kOut (by decide) rfl rfl dL_outputByte_8 (t := 9) rfl ?_
    refine J_goto (tgt := 15) hX dL_outputByte_9 (by decide) ?_
    refine J_iconst (v := 0) hX dL_outputByte_15 (by decide) (t := 16) rfl ?_
    refine J_wid (k := 1) (n := 6) (by decide) (by decide) ?_
    exact J_iretP hX hR hlk (fun H h => ⟨rfl, h⟩) dL_outputByte_16
  · replace hr := okW_x hr
    by_cases e0 : E = "java/lang/IndexOutOfBoundsException"
    · subst e0
      cases hK
      refine J_callVT hX [.int p1] [.int 0, .ref (adr G 16 0)] (ceX12_outputByte (G := G) (l := l) hl w p1 hr) miX12_outputByte mvX12_outputByte cb9 kEcho q_1936 ⟨rfl, rfl, Nat.le_of_ble_eq_true rfl, Nat.le_of_ble_eq_true rfl⟩ rfl rfl (Nat.le_of_ble_eq_true rfl) ⟨Nat.le_of_ble_eq_true rfl, Nat.le_of_ble_eq_true rfl⟩ dL_outputByte_4 ?_
      refine JT_catch hX (name := "java/lang/IndexOutOfBoundsException") [] _ _ hT (fun z hz => absurd hz List.not_mem_nil) (by decide) (by decide) q_1315 (hX.cast (by simp [castL])) (fun q => ?_)
      refine J_astore_n (lc2 := [(3, .ref q), (0, .ref (adr G 0 0)), (1, .int p1), (2, .ref (adr G 16 0))]) hX dL_outputByte_12 rfl (Nat.le_of_ble_eq_true rfl) rfl (t := 13) rfl ?_
      refine J_iconst (v := 1) hX dL_outputByte_13 (by decide) (t := 14) rfl ?_
      refine J_wid (k := 1) (n := 6) (by decide) (by decide) ?_
      exact J_iretP hX hR hlk (fun H h => ⟨rfl, h⟩) dL_outputByte_14
    replace hK := it_f hK e0
    cases hK
abbrev rmL_restoreState : Room := { frames := 8, cells := 1, slots := 6, locals := 130 }
theorem miL_restoreState : MIW yL_restoreState cL_restoreState 3 (some .int) [(0, 8, 11, 13)] 2 := ⟨q_1952, q_135, by decide +kernel, by decide +kernel, by decide +kernel, by decide +kernel⟩
def FL_restoreState (n : Nat) (w : Wd)  : Option (Int32 × Wd) := lwW (fun E => if E = "java/lang/IllegalStateException" then some 1 else none) (FX12_restoreState n w)
set_option maxHeartbeats 4000000 in
theorem ctL_restoreState {G : GG} {l : Launch} (hl : l.stackTraces = false) (w : Wd)  (n : Nat) {k : Int32} {w3 : Wd} (hF : FL_restoreState n w  = some (k, w3)) : CTW G l yL_restoreState cL_restoreState 3 (some .int) [(0, 8, 11, 13)] rmL_restoreState 1 6 [.ref (adr G 0 0), .ref (adr G 16 0)] (GH G w) (fun v H => v = some (.int k) ∧ GH G w3 H) := by
  refine CTW.of miL_restoreState [(0, .ref (adr G 0 0)), (1, .ref (adr G 16 0))] rfl (Nat.le_of_ble_eq_true rfl) ?_
  intro p e s m args below meth c hX hNC hT hR hlk
  have hX : FX G RL cL_restoreState 3 p s m args c := hX
  unfold FL_restoreState at hF
  refine J_aload_n hX dL_restoreState_0 1 rfl (t := 1) rfl ?_
  refine J_iconst (v := 0) hX dL_restoreState_1 (by decide) (t := 2) rfl ?_
  refine J_aload_n hX dL_restoreState_2 0 rfl (t := 3) rfl ?_
  rcases lwW_e hF with ⟨v, w2, hr, hk, hw3⟩ | ⟨E, hr, hK⟩
  · subst hk
    subst hw3
    refine J_callV hX [] [.int 0, .ref (adr G 16 0)] [.int v, .int 0, .ref (adr G 16 0)] (ctX12_restoreState (G := G) (l := l) w  n hr) miX12_restoreState mvX12_restoreState cb9 kEcho q_1953 ⟨rfl, rfl, Nat.le_of_ble_eq_true rfl, Nat.le_of_ble_eq_true rfl⟩ rfl rfl (Nat.le_of_ble_eq_true rfl) ⟨Nat.le_of_ble_eq_true rfl, Nat.le_of_ble_eq_true rfl⟩ dL_restoreState_3 (t := 6) rfl rfl ?_
    refine J_i2l hX dL_restoreState_6 (t := 7) rfl ?_
    refine J_last (w2 := sW w2 16 (sL (w2 16) 0 0 v.toInt64)) (k9 := 0) hX kOut (by decide) rfl rfl dL_restoreState_7 (t := 8) rfl ?_
    refine J_goto (tgt := 14) hX dL_restoreState_8 (by decide) ?_
    refine J_iconst (v := 0) hX dL_restoreState_14 (by decide) (t := 15) rfl ?_
    refine J_wid (k := 1) (n := 6) (by decide) (by decide) ?_
    exact J_iretP hX hR hlk (fun H h => ⟨rfl, h⟩) dL_restoreState_15
  · skip
    by_cases e0 : E = "java/lang/IllegalStateException"
    · subst e0
      cases hK
      refine J_callVT hX [] [.int 0, .ref (adr G 16 0)] (ceX12_restoreState (G := G) (l := l) hl w  n hr) miX12_restoreState mvX12_restoreState cb9 kEcho q_1953 ⟨rfl, rfl, Nat.le_of_ble_eq_true rfl, Nat.le_of_ble_eq_true rfl⟩ rfl rfl (Nat.le_of_ble_eq_true rfl) ⟨Nat.le_of_ble_eq_true rfl, Nat.le_of_ble_eq_true rfl⟩ dL_restoreState_3 ?_
      refine JT_catch hX (name := "java/lang/IllegalStateException") [] _ _ hT (fun z hz => absurd hz List.not_mem_nil) (by decide) (by decide) q_784 (hX.cast (by simp [castL])) (fun q => ?_)
      refine J_astore_n (lc2 := [(2, .ref q), (0, .ref (adr G 0 0)), (1, .ref (adr G 16 0))]) hX dL_restoreState_11 rfl (Nat.le_of_ble_eq_true rfl) rfl (t := 12) rfl ?_
      refine J_iconst (v := 1) hX dL_restoreState_12 (by decide) (t := 13) rfl ?_
      refine J_wid (k := 1) (n := 6) (by decide) (by decide) ?_
      exact J_iretP hX hR hlk (fun H h => ⟨rfl, h⟩) dL_restoreState_13
    replace hK := it_f hK e0
    cases hK
