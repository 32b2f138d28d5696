theorem q_590 : Cond.methodLink RL 172 yX12_errorCode ∈ WALL := WALL_in (List.mem_append_right _ (List.mem_append_right _ (List.mem_append_left _ (List.mem_of_getElem? (i := 215) rfl)))) rfl
theorem q_594 : Cond.methodLink RL 176 yX12_errorOffset ∈ WALL := WALL_in (List.mem_append_right _ (List.mem_append_right _ (List.mem_append_left _ (List.mem_of_getElem? (i := 219) rfl)))) rfl
theorem q_598 : Cond.methodLink RL 180 yX12_valleyCount ∈ WALL := WALL_in (List.mem_append_right _ (List.mem_append_right _ (List.mem_append_left _ (List.mem_of_getElem? (i := 223) rfl)))) rfl
theorem q_602 : Cond.methodLink RL 184 yX12_customerCount ∈ WALL := WALL_in (List.mem_append_right _ (List.mem_append_right _ (List.mem_append_left _ (List.mem_of_getElem? (i := 227) rfl)))) rfl
theorem q_606 : Cond.methodLink RL 188 yX12_shoutCount ∈ WALL := WALL_in (List.mem_append_right _ (List.mem_append_right _ (List.mem_append_left _ (List.mem_of_getElem? (i := 231) rfl)))) rfl
theorem q_610 : Cond.methodLink RL 192 yX12_time ∈ WALL := WALL_in (List.mem_append_right _ (List.mem_append_right _ (List.mem_append_left _ (List.mem_of_getElem? (i := 235) rfl)))) rfl
theorem q_614 : Cond.methodLink RL 196 yX12_earned ∈ WALL := WALL_in (List.mem_append_right _ (List.mem_append_right _ (List.mem_append_left _ (List.mem_of_getElem? (i := 239) rfl)))) rfl
theorem q_618 : Cond.methodLink RL 200 yX12_refunded ∈ WALL := WALL_in (List.mem_append_right _ (List.mem_append_right _ (List.mem_append_right _ (List.mem_append_left _ (List.mem_of_getElem? (i := 3) rfl))))) rfl
theorem q_622 : Cond.methodLink RL 204 yX12_held ∈ WALL := WALL_in (List.mem_append_right _ (List.mem_append_right _ (List.mem_append_right _ (List.mem_append_left _ (List.mem_of_getElem? (i := 7) rfl))))) rfl
theorem q_626 : Cond.methodLink RL 208 yX12_wellDepth ∈ WALL := WALL_in (List.mem_append_right _ (List.mem_append_right _ (List.mem_append_right _ (List.mem_append_left _ (List.mem_of_getElem? (i := 11) rfl))))) rfl
theorem q_630 : Cond.methodLink RL 212 yX12_openShouts ∈ WALL := WALL_in (List.mem_append_right _ (List.mem_append_right _ (List.mem_append_right _ (List.mem_append_left _ (List.mem_of_getElem? (i := 15) rfl))))) rfl
theorem q_642 : Cond.methodLink RL 220 yX12_findValley ∈ WALL := WALL_in (List.mem_append_right _ (List.mem_append_right _ (List.mem_append_right _ (List.mem_append_left _ (List.mem_of_getElem? (i := 27) rfl))))) rfl
theorem q_664 : Cond.methodLink RL 242 yX12_bestValley ∈ WALL := WALL_in (List.mem_append_right _ (List.mem_append_right _ (List.mem_append_right _ (List.mem_append_left _ (List.mem_of_getElem? (i := 49) rfl))))) rfl
theorem q_675 : Cond.methodLink RL 246 yX12_valleyByName ∈ WALL := WALL_in (List.mem_append_right _ (List.mem_append_right _ (List.mem_append_right _ (List.mem_append_left _ (List.mem_of_getElem? (i := 60) rfl))))) rfl
theorem q_687 : Cond.methodLink RL 250 yX12_findCustomer ∈ WALL := WALL_in (List.mem_append_right _ (List.mem_append_right _ (List.mem_append_right _ (List.mem_append_left _ (List.mem_of_getElem? (i := 72) rfl))))) rfl
theorem q_695 : Cond.methodLink RL 272 yX12_angryCustomers ∈ WALL := WALL_in (List.mem_append_right _ (List.mem_append_right _ (List.mem_append_right _ (List.mem_append_left _ (List.mem_of_getElem? (i := 80) rfl))))) rfl
theorem q_707 : Cond.methodLink RL 276 yX12_bestCustomer ∈ WALL := WALL_in (List.mem_append_right _ (List.mem_append_right _ (List.mem_append_right _ (List.mem_append_left _ (List.mem_of_getElem? (i := 92) rfl))))) rfl
theorem q_715 : Cond.methodLink RL 311 yX12_nextEvent ∈ WALL := WALL_in (List.mem_append_right _ (List.mem_append_right _ (List.mem_append_right _ (List.mem_append_left _ (List.mem_of_getElem? (i := 100) rfl))))) rfl
theorem q_734 : Cond.methodLink RL 321 yX12_violations ∈ WALL := WALL_in (List.mem_append_right _ (List.mem_append_right _ (List.mem_append_right _ (List.mem_append_left _ (List.mem_of_getElem? (i := 119) rfl))))) rfl
theorem q_749 : Cond.methodLink RL 325 yX12_meanRating ∈ WALL := WALL_in (List.mem_append_right _ (List.mem_append_right _ (List.mem_append_right _ (List.mem_append_left _ (List.mem_of_getElem? (i := 134) rfl))))) rfl
theorem q_757 : Cond.methodLink RL 330 yX12_heardFraction ∈ WALL := WALL_in (List.mem_append_right _ (List.mem_append_right _ (List.mem_append_right _ (List.mem_append_left _ (List.mem_of_getElem? (i := 142) rfl))))) rfl
theorem q_761 : Cond.methodLink RL 372 yX12_saveState ∈ WALL := WALL_in (List.mem_append_right _ (List.mem_append_right _ (List.mem_append_right _ (List.mem_append_left _ (List.mem_of_getElem? (i := 146) rfl))))) rfl
theorem q_781 : Cond.methodLink RL 152 yL_feed ∈ WALL := WALL_in (List.mem_append_right _ (List.mem_append_right _ (List.mem_append_right _ (List.mem_append_left _ (List.mem_of_getElem? (i := 166) rfl))))) rfl
theorem q_782 : Cond.static yL_feed ∈ WALL := WALL_in (List.mem_append_right _ (List.mem_append_right _ (List.mem_append_right _ (List.mem_append_left _ (List.mem_of_getElem? (i := 167) rfl))))) rfl
theorem q_865 : Cond.methodLink RL 161 yL_truncate ∈ WALL := WALL_in (List.mem_append_right _ (List.mem_append_right _ (List.mem_append_right _ (List.mem_append_right _ (List.mem_append_left _ (List.mem_of_getElem? (i := 10) rfl)))))) rfl
theorem q_866 : Cond.static yL_truncate ∈ WALL := WALL_in (List.mem_append_right _ (List.mem_append_right _ (List.mem_append_right _ (List.mem_append_right _ (List.mem_append_left _ (List.mem_of_getElem? (i := 11) rfl)))))) rfl
theorem q_893 : Cond.methodLink RL 165 yL_readText ∈ WALL := WALL_in (List.mem_append_right _ (List.mem_append_right _ (List.mem_append_right _ (List.mem_append_right _ (List.mem_append_left _ (List.mem_of_getElem? (i := 38) rfl)))))) rfl
theorem q_894 : Cond.static yL_readText ∈ WALL := WALL_in (List.mem_append_right _ (List.mem_append_right _ (List.mem_append_right _ (List.mem_append_right _ (List.mem_append_left _ (List.mem_of_getElem? (i := 39) rfl)))))) rfl
theorem q_1219 : Cond.methodLink RL 169 yL_runScript ∈ WALL := WALL_in (List.mem_append_right _ (List.mem_append_right _ (List.mem_append_right _ (List.mem_append_right _ (List.mem_append_right _ (List.mem_append_left _ (List.mem_of_getElem? (i := 124) rfl))))))) rfl
theorem q_1220 : Cond.static yL_runScript ∈ WALL := WALL_in (List.mem_append_right _ (List.mem_append_right _ (List.mem_append_right _ (List.mem_append_right _ (List.mem_append_right _ (List.mem_append_left _ (List.mem_of_getElem? (i := 125) rfl))))))) rfl
theorem q_1312 : Cond.methodLink RL 216 yL_valleyByte ∈ WALL := WALL_in (List.mem_append_right _ (List.mem_append_right _ (List.mem_append_right _ (List.mem_append_right _ (List.mem_append_right _ (List.mem_append_left _ (List.mem_of_getElem? (i := 217) rfl))))))) rfl
theorem q_1313 : Cond.static yL_valleyByte ∈ WALL := WALL_in (List.mem_append_right _ (List.mem_append_right _ (List.mem_append_right _ (List.mem_append_right _ (List.mem_append_right _ (List.mem_append_left _ (List.mem_of_getElem? (i := 218) rfl))))))) rfl
theorem q_1345 : Cond.methodLink RL 224 yL_width ∈ WALL := WALL_in (List.mem_append_right _ (List.mem_append_right _ (List.mem_append_right _ (List.mem_append_right _ (List.mem_append_right _ (List.mem_append_right _ (List.mem_append_left _ (List.mem_of_getElem? (i := 10) rfl)))))))) rfl
theorem q_1346 : Cond.static yL_width ∈ WALL := WALL_in (List.mem_append_right _ (List.mem_append_right _ (List.mem_append_right _ (List.mem_append_right _ (List.mem_append_right _ (List.mem_append_right _ (List.mem_append_left _ (List.mem_of_getElem? (i := 11) rfl)))))))) rfl
theorem q_1352 : Cond.methodLink RL 227 yL_walls ∈ WALL := WALL_in (List.mem_append_right _ (List.mem_append_right _ (List.mem_append_right _ (List.mem_append_right _ (List.mem_append_right _ (List.mem_append_right _ (List.mem_append_left _ (List.mem_of_getElem? (i := 17) rfl)))))))) rfl
theorem q_1353 : Cond.static yL_walls ∈ WALL := WALL_in (List.mem_append_right _ (List.mem_append_right _ (List.mem_append_right _ (List.mem_append_right _ (List.mem_append_right _ (List.mem_append_right _ (List.mem_append_left _ (List.mem_of_getElem? (i := 18) rfl)))))))) rfl
theorem q_1359 : Cond.methodLink RL 230 yL_price ∈ WALL := WALL_in (List.mem_append_right _ (List.mem_append_right _ (List.mem_append_right _ (List.mem_append_right _ (List.mem_append_right _ (List.mem_append_right _ (List.mem_append_left _ (List.mem_of_getElem? (i := 24) rfl)))))))) rfl
theorem q_1360 : Cond.static yL_price ∈ WALL := WALL_in (List.mem_append_right _ (List.mem_append_right _ (List.mem_append_right _ (List.mem_append_right _ (List.mem_append_right _ (List.mem_append_right _ (List.mem_append_left _ (List.mem_of_getElem? (i := 25) rfl)))))))) rfl
theorem q_1366 : Cond.methodLink RL 233 yL_rating ∈ WALL := WALL_in (List.mem_append_right _ (List.mem_append_right _ (List.mem_append_right _ (List.mem_append_right _ (List.mem_append_right _ (List.mem_append_right _ (List.mem_append_left _ (List.mem_of_getElem? (i := 31) rfl)))))))) rfl
theorem q_1367 : Cond.static yL_rating ∈ WALL := WALL_in (List.mem_append_right _ (List.mem_append_right _ (List.mem_append_right _ (List.mem_append_right _ (List.mem_append_right _ (List.mem_append_right _ (List.mem_append_left _ (List.mem_of_getElem? (i := 32) rfl)))))))) rfl
theorem q_1373 : Cond.methodLink RL 236 yL_echoesLost ∈ WALL := WALL_in (List.mem_append_right _ (List.mem_append_right _ (List.mem_append_right _ (List.mem_append_right _ (List.mem_append_right _ (List.mem_append_right _ (List.mem_append_left _ (List.mem_of_getElem? (i := 38) rfl)))))))) rfl
theorem q_1374 : Cond.static yL_echoesLost ∈ WALL := WALL_in (List.mem_append_right _ (List.mem_append_right _ (List.mem_append_right _ (List.mem_append_right _ (List.mem_append_right _ (List.mem_append_right _ (List.mem_append_left _ (List.mem_of_getElem? (i := 39) rfl)))))))) rfl
theorem q_1380 : Cond.methodLink RL 239 yL_earnedIn ∈ WALL := WALL_in (List.mem_append_right _ (List.mem_append_right _ (List.mem_append_right _ (List.mem_append_right _ (List.mem_append_right _ (List.mem_append_right _ (List.mem_append_left _ (List.mem_of_getElem? (i := 45) rfl)))))))) rfl
theorem q_1381 : Cond.static yL_earnedIn ∈ WALL := WALL_in (List.mem_append_right _ (List.mem_append_right _ (List.mem_append_right _ (List.mem_append_right _ (List.mem_append_right _ (List.mem_append_right _ (List.mem_append_left _ (List.mem_of_getElem? (i := 46) rfl)))))))) rfl
theorem q_1387 : Cond.methodLink RL 254 yL_money ∈ WALL := WALL_in (List.mem_append_right _ (List.mem_append_right _ (List.mem_append_right _ (List.mem_append_right _ (List.mem_append_right _ (List.mem_append_right _ (List.mem_append_left _ (List.mem_of_getElem? (i := 52) rfl)))))))) rfl
theorem q_1388 : Cond.static yL_money ∈ WALL := WALL_in (List.mem_append_right _ (List.mem_append_right _ (List.mem_append_right _ (List.mem_append_right _ (List.mem_append_right _ (List.mem_append_right _ (List.mem_append_left _ (List.mem_of_getElem? (i := 53) rfl)))))))) rfl
theorem q_1399 : Cond.methodLink RL 257 yL_patience ∈ WALL := WALL_in (List.mem_append_right _ (List.mem_append_right _ (List.mem_append_right _ (List.mem_append_right _ (List.mem_append_right _ (List.mem_append_right _ (List.mem_append_left _ (List.mem_of_getElem? (i := 64) rfl)))))))) rfl
theorem q_1400 : Cond.static yL_patience ∈ WALL := WALL_in (List.mem_append_right _ (List.mem_append_right _ (List.mem_append_right _ (List.mem_append_right _ (List.mem_append_right _ (List.mem_append_right _ (List.mem_append_left _ (List.mem_of_getElem? (i := 65) rfl)))))))) rfl
theorem q_1406 : Cond.methodLink RL 260 yL_suspicion ∈ WALL := WALL_in (List.mem_append_right _ (List.mem_append_right _ (List.mem_append_right _ (List.mem_append_right _ (List.mem_append_right _ (List.mem_append_right _ (List.mem_append_left _ (List.mem_of_getElem? (i := 71) rfl)))))))) rfl
theorem q_1407 : Cond.static yL_suspicion ∈ WALL := WALL_in (List.mem_append_right _ (List.mem_append_right _ (List.mem_append_right _ (List.mem_append_right _ (List.mem_append_right _ (List.mem_append_right _ (List.mem_append_left _ (List.mem_of_getElem? (i := 72) rfl)))))))) rfl
theorem q_1413 : Cond.methodLink RL 263 yL_isAngry ∈ WALL := WALL_in (List.mem_append_right _ (List.mem_append_right _ (List.mem_append_right _ (List.mem_append_right _ (List.mem_append_right _ (List.mem_append_right _ (List.mem_append_left _ (List.mem_of_getElem? (i := 78) rfl)))))))) rfl
theorem q_1414 : Cond.static yL_isAngry ∈ WALL := WALL_in (List.mem_append_right _ (List.mem_append_right _ (List.mem_append_right _ (List.mem_append_right _ (List.mem_append_right _ (List.mem_append_right _ (List.mem_append_left _ (List.mem_of_getElem? (i := 79) rfl)))))))) rfl
theorem q_1421 : Cond.methodLink RL 266 yL_echoesHeard ∈ WALL := WALL_in (List.mem_append_right _ (List.mem_append_right _ (List.mem_append_right _ (List.mem_append_right _ (List.mem_append_right _ (List.mem_append_right _ (List.mem_append_left _ (List.mem_of_getElem? (i := 86) rfl)))))))) rfl
theorem q_1422 : Cond.static yL_echoesHeard ∈ WALL := WALL_in (List.mem_append_right _ (List.mem_append_right _ (List.mem_append_right _ (List.mem_append_right _ (List.mem_append_right _ (List.mem_append_right _ (List.mem_append_left _ (List.mem_of_getElem? (i := 87) rfl)))))))) rfl
theorem q_1428 : Cond.methodLink RL 269 yL_heldFor ∈ WALL := WALL_in (List.mem_append_right _ (List.mem_append_right _ (List.mem_append_right _ (List.mem_append_right _ (List.mem_append_right _ (List.mem_append_right _ (List.mem_append_left _ (List.mem_of_getElem? (i := 93) rfl)))))))) rfl
theorem q_1429 : Cond.static yL_heldFor ∈ WALL := WALL_in (List.mem_append_right _ (List.mem_append_right _ (List.mem_append_right _ (List.mem_append_right _ (List.mem_append_right _ (List.mem_append_right _ (List.mem_append_left _ (List.mem_of_getElem? (i := 94) rfl)))))))) rfl
theorem q_1435 : Cond.methodLink RL 280 yL_shoutCustomer ∈ WALL := WALL_in (List.mem_append_right _ (List.mem_append_right _ (List.mem_append_right _ (List.mem_append_right _ (List.mem_append_right _ (List.mem_append_right _ (List.mem_append_left _ (List.mem_of_getElem? (i := 100) rfl)))))))) rfl
theorem q_1436 : Cond.static yL_shoutCustomer ∈ WALL := WALL_in (List.mem_append_right _ (List.mem_append_right _ (List.mem_append_right _ (List.mem_append_right _ (List.mem_append_right _ (List.mem_append_right _ (List.mem_append_left _ (List.mem_of_getElem? (i := 101) rfl)))))))) rfl
theorem q_1447 : Cond.methodLink RL 283 yL_shoutValley ∈ WALL := WALL_in (List.mem_append_right _ (List.mem_append_right _ (List.mem_append_right _ (List.mem_append_right _ (List.mem_append_right _ (List.mem_append_right _ (List.mem_append_left _ (List.mem_of_getElem? (i := 112) rfl)))))))) rfl
theorem q_1448 : Cond.static yL_shoutValley ∈ WALL := WALL_in (List.mem_append_right _ (List.mem_append_right _ (List.mem_append_right _ (List.mem_append_right _ (List.mem_append_right _ (List.mem_append_right _ (List.mem_append_left _ (List.mem_of_getElem? (i := 113) rfl)))))))) rfl
theorem q_1454 : Cond.methodLink RL 286 yL_shoutState ∈ WALL := WALL_in (List.mem_append_right _ (List.mem_append_right _ (List.mem_append_right _ (List.mem_append_right _ (List.mem_append_right _ (List.mem_append_right _ (List.mem_append_left _ (List.mem_of_getElem? (i := 119) rfl)))))))) rfl
theorem q_1455 : Cond.static yL_shoutState ∈ WALL := WALL_in (List.mem_append_right _ (List.mem_append_right _ (List.mem_append_right _ (List.mem_append_right _ (List.mem_append_right _ (List.mem_append_right _ (List.mem_append_left _ (List.mem_of_getElem? (i := 120) rfl)))))))) rfl
theorem q_1461 : Cond.methodLink RL 289 yL_returns ∈ WALL := WALL_in (List.mem_append_right _ (List.mem_append_right _ (List.mem_append_right _ (List.mem_append_right _ (List.mem_append_right _ (List.mem_append_right _ (List.mem_append_left _ (List.mem_of_getElem? (i := 126) rfl)))))))) rfl
theorem q_1462 : Cond.static yL_returns ∈ WALL := WALL_in (List.mem_append_right _ (List.mem_append_right _ (List.mem_append_right _ (List.mem_append_right _ (List.mem_append_right _ (List.mem_append_right _ (List.mem_append_left _ (List.mem_of_getElem? (i := 127) rfl)))))))) rfl
theorem q_1468 : Cond.methodLink RL 292 yL_receipt ∈ WALL := WALL_in (List.mem_append_right _ (List.mem_append_right _ (List.mem_append_right _ (List.mem_append_right _ (List.mem_append_right _ (List.mem_append_right _ (List.mem_append_left _ (List.mem_of_getElem? (i := 133) rfl)))))))) rfl
theorem q_1469 : Cond.static yL_receipt ∈ WALL := WALL_in (List.mem_append_right _ (List.mem_append_right _ (List.mem_append_right _ (List.mem_append_right _ (List.mem_append_right _ (List.mem_append_right _ (List.mem_append_left _ (List.mem_of_getElem? (i := 134) rfl)))))))) rfl
theorem q_1485 : Cond.methodLink RL 295 yL_nextReturn ∈ WALL := WALL_in (List.mem_append_right _ (List.mem_append_right _ (List.mem_append_right _ (List.mem_append_right _ (List.mem_append_right _ (List.mem_append_right _ (List.mem_append_left _ (List.mem_of_getElem? (i := 150) rfl)))))))) rfl
theorem q_1486 : Cond.static yL_nextReturn ∈ WALL := WALL_in (List.mem_append_right _ (List.mem_append_right _ (List.mem_append_right _ (List.mem_append_right _ (List.mem_append_right _ (List.mem_append_right _ (List.mem_append_left _ (List.mem_of_getElem? (i := 151) rfl)))))))) rfl
theorem q_1494 : Cond.methodLink RL 298 yL_patienceEnds ∈ WALL := WALL_in (List.mem_append_right _ (List.mem_append_right _ (List.mem_append_right _ (List.mem_append_right _ (List.mem_append_right _ (List.mem_append_right _ (List.mem_append_left _ (List.mem_of_getElem? (i := 159) rfl)))))))) rfl
theorem q_1495 : Cond.static yL_patienceEnds ∈ WALL := WALL_in (List.mem_append_right _ (List.mem_append_right _ (List.mem_append_right _ (List.mem_append_right _ (List.mem_append_right _ (List.mem_append_right _ (List.mem_append_left _ (List.mem_of_getElem? (i := 160) rfl)))))))) rfl
theorem q_1501 : Cond.methodLink RL 301 yL_refusal ∈ WALL := WALL_in (List.mem_append_right _ (List.mem_append_right _ (List.mem_append_right _ (List.mem_append_right _ (List.mem_append_right _ (List.mem_append_right _ (List.mem_append_left _ (List.mem_of_getElem? (i := 166) rfl)))))))) rfl
theorem q_1502 : Cond.static yL_refusal ∈ WALL := WALL_in (List.mem_append_right _ (List.mem_append_right _ (List.mem_append_right _ (List.mem_append_right _ (List.mem_append_right _ (List.mem_append_right _ (List.mem_append_left _ (List.mem_of_getElem? (i := 167) rfl)))))))) rfl
theorem q_1509 : Cond.methodLink RL 305 yL_neededLoudness ∈ WALL := WALL_in (List.mem_append_right _ (List.mem_append_right _ (List.mem_append_right _ (List.mem_append_right _ (List.mem_append_right _ (List.mem_append_right _ (List.mem_append_left _ (List.mem_of_getElem? (i := 174) rfl)))))))) rfl
theorem q_1510 : Cond.static yL_neededLoudness ∈ WALL := WALL_in (List.mem_append_right _ (List.mem_append_right _ (List.mem_append_right _ (List.mem_append_right _ (List.mem_append_right _ (List.mem_append_right _ (List.mem_append_left _ (List.mem_of_getElem? (i := 175) rfl)))))))) rfl
theorem q_1517 : Cond.methodLink RL 308 yL_bestOffer ∈ WALL := WALL_in (List.mem_append_right _ (List.mem_append_right _ (List.mem_append_right _ (List.mem_append_right _ (List.mem_append_right _ (List.mem_append_right _ (List.mem_append_left _ (List.mem_of_getElem? (i := 182) rfl)))))))) rfl
theorem q_1518 : Cond.static yL_bestOffer ∈ WALL := WALL_in (List.mem_append_right _ (List.mem_append_right _ (List.mem_append_right _ (List.mem_append_right _ (List.mem_append_right _ (List.mem_append_right _ (List.mem_append_left _ (List.mem_of_getElem? (i := 183) rfl)))))))) rfl
theorem q_1531 : Cond.methodLink RL 315 yL_earnedAfter ∈ WALL := WALL_in (List.mem_append_right _ (List.mem_append_right _ (List.mem_append_right _ (List.mem_append_right _ (List.mem_append_right _ (List.mem_append_right _ (List.mem_append_left _ (List.mem_of_getElem? (i := 196) rfl)))))))) rfl
theorem q_1532 : Cond.static yL_earnedAfter ∈ WALL := WALL_in (List.mem_append_right _ (List.mem_append_right _ (List.mem_append_right _ (List.mem_append_right _ (List.mem_append_right _ (List.mem_append_right _ (List.mem_append_left _ (List.mem_of_getElem? (i := 197) rfl)))))))) rfl
theorem q_1547 : Cond.methodLink RL 318 yL_finalState ∈ WALL := WALL_in (List.mem_append_right _ (List.mem_append_right _ (List.mem_append_right _ (List.mem_append_right _ (List.mem_append_right _ (List.mem_append_right _ (List.mem_append_left _ (List.mem_of_getElem? (i := 212) rfl)))))))) rfl
theorem q_1548 : Cond.static yL_finalState ∈ WALL := WALL_in (List.mem_append_right _ (List.mem_append_right _ (List.mem_append_right _ (List.mem_append_right _ (List.mem_append_right _ (List.mem_append_right _ (List.mem_append_left _ (List.mem_of_getElem? (i := 213) rfl)))))))) rfl
theorem q_1559 : Cond.methodLink RL 335 yL_addValley ∈ WALL := WALL_in (List.mem_append_right _ (List.mem_append_right _ (List.mem_append_right _ (List.mem_append_right _ (List.mem_append_right _ (List.mem_append_right _ (List.mem_append_left _ (List.mem_of_getElem? (i := 224) rfl)))))))) rfl
theorem q_1560 : Cond.static yL_addValley ∈ WALL := WALL_in (List.mem_append_right _ (List.mem_append_right _ (List.mem_append_right _ (List.mem_append_right _ (List.mem_append_right _ (List.mem_append_right _ (List.mem_append_left _ (List.mem_of_getElem? (i := 225) rfl)))))))) rfl
theorem q_1567 : Cond.methodLink RL 338 yL_addCustomer ∈ WALL := WALL_in (List.mem_append_right _ (List.mem_append_right _ (List.mem_append_right _ (List.mem_append_right _ (List.mem_append_right _ (List.mem_append_right _ (List.mem_append_left _ (List.mem_of_getElem? (i := 232) rfl)))))))) rfl
theorem q_1568 : Cond.static yL_addCustomer ∈ WALL := WALL_in (List.mem_append_right _ (List.mem_append_right _ (List.mem_append_right _ (List.mem_append_right _ (List.mem_append_right _ (List.mem_append_right _ (List.mem_append_left _ (List.mem_of_getElem? (i := 233) rfl)))))))) rfl
theorem q_1575 : Cond.methodLink RL 341 yL_shout ∈ WALL := WALL_in (List.mem_append_right _ (List.mem_append_right _ (List.mem_append_right _ (List.mem_append_right _ (List.mem_append_right _ (List.mem_append_right _ (List.mem_append_right _ (List.mem_append_left _ (List.mem_of_getElem? (i := 0) rfl))))))))) rfl
theorem q_1576 : Cond.static yL_shout ∈ WALL := WALL_in (List.mem_append_right _ (List.mem_append_right _ (List.mem_append_right _ (List.mem_append_right _ (List.mem_append_right _ (List.mem_append_right _ (List.mem_append_right _ (List.mem_append_left _ (List.mem_of_getElem? (i := 1) rfl))))))))) rfl
theorem q_1590 : Cond.methodLink RL 345 yL_cancel ∈ WALL := WALL_in (List.mem_append_right _ (List.mem_append_right _ (List.mem_append_right _ (List.mem_append_right _ (List.mem_append_right _ (List.mem_append_right _ (List.mem_append_right _ (List.mem_append_left _ (List.mem_of_getElem? (i := 15) rfl))))))))) rfl
theorem q_1591 : Cond.static yL_cancel ∈ WALL := WALL_in (List.mem_append_right _ (List.mem_append_right _ (List.mem_append_right _ (List.mem_append_right _ (List.mem_append_right _ (List.mem_append_right _ (List.mem_append_right _ (List.mem_append_left _ (List.mem_of_getElem? (i := 16) rfl))))))))) rfl
theorem q_1599 : Cond.methodLink RL 348 yL_fake ∈ WALL := WALL_in (List.mem_append_right _ (List.mem_append_right _ (List.mem_append_right _ (List.mem_append_right _ (List.mem_append_right _ (List.mem_append_right _ (List.mem_append_right _ (List.mem_append_left _ (List.mem_of_getElem? (i := 24) rfl))))))))) rfl
theorem q_1600 : Cond.static yL_fake ∈ WALL := WALL_in (List.mem_append_right _ (List.mem_append_right _ (List.mem_append_right _ (List.mem_append_right _ (List.mem_append_right _ (List.mem_append_right _ (List.mem_append_right _ (List.mem_append_left _ (List.mem_of_getElem? (i := 25) rfl))))))))) rfl
theorem q_1607 : Cond.methodLink RL 351 yL_setFog ∈ WALL := WALL_in (List.mem_append_right _ (List.mem_append_right _ (List.mem_append_right _ (List.mem_append_right _ (List.mem_append_right _ (List.mem_append_right _ (List.mem_append_right _ (List.mem_append_left _ (List.mem_of_getElem? (i := 32) rfl))))))))) rfl
theorem q_1608 : Cond.static yL_setFog ∈ WALL := WALL_in (List.mem_append_right _ (List.mem_append_right _ (List.mem_append_right _ (List.mem_append_right _ (List.mem_append_right _ (List.mem_append_right _ (List.mem_append_right _ (List.mem_append_left _ (List.mem_of_getElem? (i := 33) rfl))))))))) rfl
theorem q_1616 : Cond.methodLink RL 354 yL_setPrice ∈ WALL := WALL_in (List.mem_append_right _ (List.mem_append_right _ (List.mem_append_right _ (List.mem_append_right _ (List.mem_append_right _ (List.mem_append_right _ (List.mem_append_right _ (List.mem_append_left _ (List.mem_of_getElem? (i := 41) rfl))))))))) rfl
theorem q_1617 : Cond.static yL_setPrice ∈ WALL := WALL_in (List.mem_append_right _ (List.mem_append_right _ (List.mem_append_right _ (List.mem_append_right _ (List.mem_append_right _ (List.mem_append_right _ (List.mem_append_right _ (List.mem_append_left _ (List.mem_of_getElem? (i := 42) rfl))))))))) rfl
theorem q_1625 : Cond.methodLink RL 357 yL_setWell ∈ WALL := WALL_in (List.mem_append_right _ (List.mem_append_right _ (List.mem_append_right _ (List.mem_append_right _ (List.mem_append_right _ (List.mem_append_right _ (List.mem_append_right _ (List.mem_append_left _ (List.mem_of_getElem? (i := 50) rfl))))))))) rfl
theorem q_1626 : Cond.static yL_setWell ∈ WALL := WALL_in (List.mem_append_right _ (List.mem_append_right _ (List.mem_append_right _ (List.mem_append_right _ (List.mem_append_right _ (List.mem_append_right _ (List.mem_append_right _ (List.mem_append_left _ (List.mem_of_getElem? (i := 51) rfl))))))))) rfl
theorem q_1634 : Cond.methodLink RL 360 yL_pass ∈ WALL := WALL_in (List.mem_append_right _ (List.mem_append_right _ (List.mem_append_right _ (List.mem_append_right _ (List.mem_append_right _ (List.mem_append_right _ (List.mem_append_right _ (List.mem_append_left _ (List.mem_of_getElem? (i := 59) rfl))))))))) rfl
theorem q_1635 : Cond.static yL_pass ∈ WALL := WALL_in (List.mem_append_right _ (List.mem_append_right _ (List.mem_append_right _ (List.mem_append_right _ (List.mem_append_right _ (List.mem_append_right _ (List.mem_append_right _ (List.mem_append_left _ (List.mem_of_getElem? (i := 60) rfl))))))))) rfl
theorem q_1643 : Cond.methodLink RL 363 yL_undo ∈ WALL := WALL_in (List.mem_append_right _ (List.mem_append_right _ (List.mem_append_right _ (List.mem_append_right _ (List.mem_append_right _ (List.mem_append_right _ (List.mem_append_right _ (List.mem_append_left _ (List.mem_of_getElem? (i := 68) rfl))))))))) rfl
theorem q_1644 : Cond.static yL_undo ∈ WALL := WALL_in (List.mem_append_right _ (List.mem_append_right _ (List.mem_append_right _ (List.mem_append_right _ (List.mem_append_right _ (List.mem_append_right _ (List.mem_append_right _ (List.mem_append_left _ (List.mem_of_getElem? (i := 69) rfl))))))))) rfl
theorem q_1654 : Cond.methodLink RL 366 yL_printReceipt ∈ WALL := WALL_in (List.mem_append_right _ (List.mem_append_right _ (List.mem_append_right _ (List.mem_append_right _ (List.mem_append_right _ (List.mem_append_right _ (List.mem_append_right _ (List.mem_append_left _ (List.mem_of_getElem? (i := 79) rfl))))))))) rfl
theorem q_1655 : Cond.static yL_printReceipt ∈ WALL := WALL_in (List.mem_append_right _ (List.mem_append_right _ (List.mem_append_right _ (List.mem_append_right _ (List.mem_append_right _ (List.mem_append_right _ (List.mem_append_right _ (List.mem_append_left _ (List.mem_of_getElem? (i := 80) rfl))))))))) rfl
theorem q_1933 : Cond.methodLink RL 369 yL_outputByte ∈ WALL := WALL_in (List.mem_append_right _ (List.mem_append_right _ (List.mem_append_right _ (List.mem_append_right _ (List.mem_append_right _ (List.mem_append_right _ (List.mem_append_right _ (List.mem_append_right _ (List.mem_append_left _ (List.mem_of_getElem? (i := 118) rfl)))))))))) rfl
theorem q_1934 : Cond.static yL_outputByte ∈ WALL := WALL_in (List.mem_append_right _ (List.mem_append_right _ (List.mem_append_right _ (List.mem_append_right _ (List.mem_append_right _ (List.mem_append_right _ (List.mem_append_right _ (List.mem_append_right _ (List.mem_append_left _ (List.mem_of_getElem? (i := 119) rfl)))))))))) rfl
theorem q_1950 : Cond.methodLink RL 376 yL_restoreState ∈ WALL := WALL_in (List.mem_append_right _ (List.mem_append_right _ (List.mem_append_right _ (List.mem_append_right _ (List.mem_append_right _ (List.mem_append_right _ (List.mem_append_right _ (List.mem_append_right _ (List.mem_append_left _ (List.mem_of_getElem? (i := 135) rfl)))))))))) rfl
theorem q_1951 : Cond.static yL_restoreState ∈ WALL := WALL_in (List.mem_append_right _ (List.mem_append_right _ (List.mem_append_right _ (List.mem_append_right _ (List.mem_append_right _ (List.mem_append_right _ (List.mem_append_right _ (List.mem_append_right _ (List.mem_append_left _ (List.mem_of_getElem? (i := 136) rfl)))))))))) rfl
theorem q_2070 : Cond.methodLink RL 158 yX13_thrown ∈ WALL := WALL_in (List.mem_append_right _ (List.mem_append_right _ (List.mem_append_right _ (List.mem_append_right _ (List.mem_append_right _ (List.mem_append_right _ (List.mem_append_right _ (List.mem_append_right _ (List.mem_append_right _ (List.mem_append_left _ (List.mem_of_getElem? (i := 15) rfl))))))))))) rfl
theorem q_2074 : Cond.methodLink RL 157 yX13_feed ∈ WALL := WALL_in (List.mem_append_right _ (List.mem_append_right _ (List.mem_append_right _ (List.mem_append_right _ (List.mem_append_right _ (List.mem_append_right _ (List.mem_append_right _ (List.mem_append_right _ (List.mem_append_right _ (List.mem_append_left _ (List.mem_of_getElem? (i := 19) rfl))))))))))) rfl
theorem q_2089 : Cond.methodLink RL 164 yX13_truncate ∈ WALL := WALL_in (List.mem_append_right _ (List.mem_append_right _ (List.mem_append_right _ (List.mem_append_right _ (List.mem_append_right _ (List.mem_append_right _ (List.mem_append_right _ (List.mem_append_right _ (List.mem_append_right _ (List.mem_append_left _ (List.mem_of_getElem? (i := 34) rfl))))))))))) rfl
theorem q_2096 : Cond.methodLink RL 175 yX13_errorCode ∈ WALL := WALL_in (List.mem_append_right _ (List.mem_append_right _ (List.mem_append_right _ (List.mem_append_right _ (List.mem_append_right _ (List.mem_append_right _ (List.mem_append_right _ (List.mem_append_right _ (List.mem_append_right _ (List.mem_append_left _ (List.mem_of_getElem? (i := 41) rfl))))))))))) rfl
theorem q_2100 : Cond.methodLink RL 179 yX13_errorOffset ∈ WALL := WALL_in (List.mem_append_right _ (List.mem_append_right _ (List.mem_append_right _ (List.mem_append_right _ (List.mem_append_right _ (List.mem_append_right _ (List.mem_append_right _ (List.mem_append_right _ (List.mem_append_right _ (List.mem_append_left _ (List.mem_of_getElem? (i := 45) rfl))))))))))) rfl
theorem q_2104 : Cond.methodLink RL 365 yX13_undo ∈ WALL := WALL_in (List.mem_append_right _ (List.mem_append_right _ (List.mem_append_right _ (List.mem_append_right _ (List.mem_append_right _ (List.mem_append_right _ (List.mem_append_right _ (List.mem_append_right _ (List.mem_append_right _ (List.mem_append_left _ (List.mem_of_getElem? (i := 49) rfl))))))))))) rfl
theorem q_2111 : Cond.methodLink RL 375 yX13_saveState ∈ WALL := WALL_in (List.mem_append_right _ (List.mem_append_right _ (List.mem_append_right _ (List.mem_append_right _ (List.mem_append_right _ (List.mem_append_right _ (List.mem_append_right _ (List.mem_append_right _ (List.mem_append_right _ (List.mem_append_left _ (List.mem_of_getElem? (i := 56) rfl))))))))))) rfl
theorem q_2115 : Cond.methodLink RL 378 yX13_restoreState ∈ WALL := WALL_in (List.mem_append_right _ (List.mem_append_right _ (List.mem_append_right _ (List.mem_append_right _ (List.mem_append_right _ (List.mem_append_right _ (List.mem_append_right _ (List.mem_append_right _ (List.mem_append_right _ (List.mem_append_left _ (List.mem_of_getElem? (i := 60) rfl))))))))))) rfl
theorem q_2119 : Cond.methodLink RL 337 yX13_addValley ∈ WALL := WALL_in (List.mem_append_right _ (List.mem_append_right _ (List.mem_append_right _ (List.mem_append_right _ (List.mem_append_right _ (List.mem_append_right _ (List.mem_append_right _ (List.mem_append_right _ (List.mem_append_right _ (List.mem_append_left _ (List.mem_of_getElem? (i := 64) rfl))))))))))) rfl
theorem q_2189 : Cond.methodLink RL 340 yX13_addCustomer ∈ WALL := WALL_in (List.mem_append_right _ (List.mem_append_right _ (List.mem_append_right _ (List.mem_append_right _ (List.mem_append_right _ (List.mem_append_right _ (List.mem_append_right _ (List.mem_append_right _ (List.mem_append_right _ (List.mem_append_left _ (List.mem_of_getElem? (i := 134) rfl))))))))))) rfl
theorem q_2205 : Cond.methodLink RL 344 yX13_shout ∈ WALL := WALL_in (List.mem_append_right _ (List.mem_append_right _ (List.mem_append_right _ (List.mem_append_right _ (List.mem_append_right _ (List.mem_append_right _ (List.mem_append_right _ (List.mem_append_right _ (List.mem_append_right _ (List.mem_append_left _ (List.mem_of_getElem? (i := 150) rfl))))))))))) rfl
theorem q_2256 : Cond.methodLink RL 347 yX13_cancel ∈ WALL := WALL_in (List.mem_append_right _ (List.mem_append_right _ (List.mem_append_right _ (List.mem_append_right _ (List.mem_append_right _ (List.mem_append_right _ (List.mem_append_right _ (List.mem_append_right _ (List.mem_append_right _ (List.mem_append_left _ (List.mem_of_getElem? (i := 201) rfl))))))))))) rfl
theorem q_2280 : Cond.methodLink RL 350 yX13_fake ∈ WALL := WALL_in (List.mem_append_right _ (List.mem_append_right _ (List.mem_append_right _ (List.mem_append_right _ (List.mem_append_right _ (List.mem_append_right _ (List.mem_append_right _ (List.mem_append_right _ (List.mem_append_right _ (List.mem_append_left _ (List.mem_of_getElem? (i := 225) rfl))))))))))) rfl
theorem q_2304 : Cond.methodLink RL 353 yX13_setFog ∈ WALL := WALL_in (List.mem_append_right _ (List.mem_append_right _ (List.mem_append_right _ (List.mem_append_right _ (List.mem_append_right _ (List.mem_append_right _ (List.mem_append_right _ (List.mem_append_right _ (List.mem_append_right _ (List.mem_append_right _ (List.mem_append_left _ (List.mem_of_getElem? (i := 9) rfl)))))))))))) rfl
theorem q_2316 : Cond.methodLink RL 356 yX13_setPrice ∈ WALL := WALL_in (List.mem_append_right _ (List.mem_append_right _ (List.mem_append_right _ (List.mem_append_right _ (List.mem_append_right _ (List.mem_append_right _ (List.mem_append_right _ (List.mem_append_right _ (List.mem_append_right _ (List.mem_append_right _ (List.mem_append_left _ (List.mem_of_getElem? (i := 21) rfl)))))))))))) rfl
theorem q_2320 : Cond.methodLink RL 359 yX13_setWell ∈ WALL := WALL_in (List.mem_append_right _ (List.mem_append_right _ (List.mem_append_right _ (List.mem_append_right _ (List.mem_append_right _ (List.mem_append_right _ (List.mem_append_right _ (List.mem_append_right _ (List.mem_append_right _ (List.mem_append_right _ (List.mem_append_left _ (List.mem_of_getElem? (i := 25) rfl)))))))))))) rfl
theorem q_2327 : Cond.methodLink RL 362 yX13_pass ∈ WALL := WALL_in (List.mem_append_right _ (List.mem_append_right _ (List.mem_append_right _ (List.mem_append_right _ (List.mem_append_right _ (List.mem_append_right _ (List.mem_append_right _ (List.mem_append_right _ (List.mem_append_right _ (List.mem_append_right _ (List.mem_append_left _ (List.mem_of_getElem? (i := 32) rfl)))))))))))) rfl
theorem q_2363 : Cond.methodLink RL 168 yX13_readText ∈ WALL := WALL_in (List.mem_append_right _ (List.mem_append_right _ (List.mem_append_right _ (List.mem_append_right _ (List.mem_append_right _ (List.mem_append_right _ (List.mem_append_right _ (List.mem_append_right _ (List.mem_append_right _ (List.mem_append_right _ (List.mem_append_left _ (List.mem_of_getElem? (i := 68) rfl)))))))))))) rfl
theorem q_2475 : Cond.methodLink RL 183 yX13_valleyCount ∈ WALL := WALL_in (List.mem_append_right _ (List.mem_append_right _ (List.mem_append_right _ (List.mem_append_right _ (List.mem_append_right _ (List.mem_append_right _ (List.mem_append_right _ (List.mem_append_right _ (List.mem_append_right _ (List.mem_append_right _ (List.mem_append_left _ (List.mem_of_getElem? (i := 180) rfl)))))))))))) rfl
theorem q_2483 : Cond.methodLink RL 187 yX13_customerCount ∈ WALL := WALL_in (List.mem_append_right _ (List.mem_append_right _ (List.mem_append_right _ (List.mem_append_right _ (List.mem_append_right _ (List.mem_append_right _ (List.mem_append_right _ (List.mem_append_right _ (List.mem_append_right _ (List.mem_append_right _ (List.mem_append_left _ (List.mem_of_getElem? (i := 188) rfl)))))))))))) rfl
theorem q_2487 : Cond.methodLink RL 191 yX13_shoutCount ∈ WALL := WALL_in (List.mem_append_right _ (List.mem_append_right _ (List.mem_append_right _ (List.mem_append_right _ (List.mem_append_right _ (List.mem_append_right _ (List.mem_append_right _ (List.mem_append_right _ (List.mem_append_right _ (List.mem_append_right _ (List.mem_append_left _ (List.mem_of_getElem? (i := 192) rfl)))))))))))) rfl
theorem q_2491 : Cond.methodLink RL 195 yX13_time ∈ WALL := WALL_in (List.mem_append_right _ (List.mem_append_right _ (List.mem_append_right _ (List.mem_append_right _ (List.mem_append_right _ (List.mem_append_right _ (List.mem_append_right _ (List.mem_append_right _ (List.mem_append_right _ (List.mem_append_right _ (List.mem_append_left _ (List.mem_of_getElem? (i := 196) rfl)))))))))))) rfl
theorem q_2495 : Cond.methodLink RL 199 yX13_earned ∈ WALL := WALL_in (List.mem_append_right _ (List.mem_append_right _ (List.mem_append_right _ (List.mem_append_right _ (List.mem_append_right _ (List.mem_append_right _ (List.mem_append_right _ (List.mem_append_right _ (List.mem_append_right _ (List.mem_append_right _ (List.mem_append_left _ (List.mem_of_getElem? (i := 200) rfl)))))))))))) rfl
theorem q_2499 : Cond.methodLink RL 203 yX13_refunded ∈ WALL := WALL_in (List.mem_append_right _ (List.mem_append_right _ (List.mem_append_right _ (List.mem_append_right _ (List.mem_append_right _ (List.mem_append_right _ (List.mem_append_right _ (List.mem_append_right _ (List.mem_append_right _ (List.mem_append_right _ (List.mem_append_left _ (List.mem_of_getElem? (i := 204) rfl)))))))))))) rfl
theorem q_2503 : Cond.methodLink RL 207 yX13_held ∈ WALL := WALL_in (List.mem_append_right _ (List.mem_append_right _ (List.mem_append_right _ (List.mem_append_right _ (List.mem_append_right _ (List.mem_append_right _ (List.mem_append_right _ (List.mem_append_right _ (List.mem_append_right _ (List.mem_append_right _ (List.mem_append_left _ (List.mem_of_getElem? (i := 208) rfl)))))))))))) rfl
theorem q_2511 : Cond.methodLink RL 211 yX13_wellDepth ∈ WALL := WALL_in (List.mem_append_right _ (List.mem_append_right _ (List.mem_append_right _ (List.mem_append_right _ (List.mem_append_right _ (List.mem_append_right _ (List.mem_append_right _ (List.mem_append_right _ (List.mem_append_right _ (List.mem_append_right _ (List.mem_append_left _ (List.mem_of_getElem? (i := 216) rfl)))))))))))) rfl
theorem q_2515 : Cond.methodLink RL 215 yX13_openShouts ∈ WALL := WALL_in (List.mem_append_right _ (List.mem_append_right _ (List.mem_append_right _ (List.mem_append_right _ (List.mem_append_right _ (List.mem_append_right _ (List.mem_append_right _ (List.mem_append_right _ (List.mem_append_right _ (List.mem_append_right _ (List.mem_append_left _ (List.mem_of_getElem? (i := 220) rfl)))))))))))) rfl
theorem q_2519 : Cond.methodLink RL 219 yX13_valleyByte ∈ WALL := WALL_in (List.mem_append_right _ (List.mem_append_right _ (List.mem_append_right _ (List.mem_append_right _ (List.mem_append_right _ (List.mem_append_right _ (List.mem_append_right _ (List.mem_append_right _ (List.mem_append_right _ (List.mem_append_right _ (List.mem_append_left _ (List.mem_of_getElem? (i := 224) rfl)))))))))))) rfl
theorem q_2530 : Cond.methodLink RL 223 yX13_findValley ∈ WALL := WALL_in (List.mem_append_right _ (List.mem_append_right _ (List.mem_append_right _ (List.mem_append_right _ (List.mem_append_right _ (List.mem_append_right _ (List.mem_append_right _ (List.mem_append_right _ (List.mem_append_right _ (List.mem_append_right _ (List.mem_append_left _ (List.mem_of_getElem? (i := 235) rfl)))))))))))) rfl
theorem q_2534 : Cond.methodLink RL 226 yX13_width ∈ WALL := WALL_in (List.mem_append_right _ (List.mem_append_right _ (List.mem_append_right _ (List.mem_append_right _ (List.mem_append_right _ (List.mem_append_right _ (List.mem_append_right _ (List.mem_append_right _ (List.mem_append_right _ (List.mem_append_right _ (List.mem_append_left _ (List.mem_of_getElem? (i := 239) rfl)))))))))))) rfl
theorem q_2542 : Cond.methodLink RL 229 yX13_walls ∈ WALL := WALL_in (List.mem_append_right _ (List.mem_append_right _ (List.mem_append_right _ (List.mem_append_right _ (List.mem_append_right _ (List.mem_append_right _ (List.mem_append_right _ (List.mem_append_right _ (List.mem_append_right _ (List.mem_append_right _ (List.mem_append_right _ (List.mem_append_left _ (List.mem_of_getElem? (i := 7) rfl))))))))))))) rfl
theorem q_2546 : Cond.methodLink RL 232 yX13_price ∈ WALL := WALL_in (List.mem_append_right _ (List.mem_append_right _ (List.mem_append_right _ (List.mem_append_right _ (List.mem_append_right _ (List.mem_append_right _ (List.mem_append_right _ (List.mem_append_right _ (List.mem_append_right _ (List.mem_append_right _ (List.mem_append_right _ (List.mem_append_left _ (List.mem_of_getElem? (i := 11) rfl))))))))))))) rfl
theorem q_2550 : Cond.methodLink RL 235 yX13_rating ∈ WALL := WALL_in (List.mem_append_right _ (List.mem_append_right _ (List.mem_append_right _ (List.mem_append_right _ (List.mem_append_right _ (List.mem_append_right _ (List.mem_append_right _ (List.mem_append_right _ (List.mem_append_right _ (List.mem_append_right _ (List.mem_append_right _ (List.mem_append_left _ (List.mem_of_getElem? (i := 15) rfl))))))))))))) rfl
theorem q_2554 : Cond.methodLink RL 238 yX13_echoesLost ∈ WALL := WALL_in (List.mem_append_right _ (List.mem_append_right _ (List.mem_append_right _ (List.mem_append_right _ (List.mem_append_right _ (List.mem_append_right _ (List.mem_append_right _ (List.mem_append_right _ (List.mem_append_right _ (List.mem_append_right _ (List.mem_append_right _ (List.mem_append_left _ (List.mem_of_getElem? (i := 19) rfl))))))))))))) rfl
theorem q_2558 : Cond.methodLink RL 241 yX13_earnedIn ∈ WALL := WALL_in (List.mem_append_right _ (List.mem_append_right _ (List.mem_append_right _ (List.mem_append_right _ (List.mem_append_right _ (List.mem_append_right _ (List.mem_append_right _ (List.mem_append_right _ (List.mem_append_right _ (List.mem_append_right _ (List.mem_append_right _ (List.mem_append_left _ (List.mem_of_getElem? (i := 23) rfl))))))))))))) rfl
theorem q_2573 : Cond.methodLink RL 245 yX13_bestValley ∈ WALL := WALL_in (List.mem_append_right _ (List.mem_append_right _ (List.mem_append_right _ (List.mem_append_right _ (List.mem_append_right _ (List.mem_append_right _ (List.mem_append_right _ (List.mem_append_right _ (List.mem_append_right _ (List.mem_append_right _ (List.mem_append_right _ (List.mem_append_left _ (List.mem_of_getElem? (i := 38) rfl))))))))))))) rfl
theorem q_2581 : Cond.methodLink RL 249 yX13_valleyByName ∈ WALL := WALL_in (List.mem_append_right _ (List.mem_append_right _ (List.mem_append_right _ (List.mem_append_right _ (List.mem_append_right _ (List.mem_append_right _ (List.mem_append_right _ (List.mem_append_right _ (List.mem_append_right _ (List.mem_append_right _ (List.mem_append_right _ (List.mem_append_left _ (List.mem_of_getElem? (i := 46) rfl))))))))))))) rfl
theorem q_2593 : Cond.methodLink RL 253 yX13_findCustomer ∈ WALL := WALL_in (List.mem_append_right _ (List.mem_append_right _ (List.mem_append_right _ (List.mem_append_right _ (List.mem_append_right _ (List.mem_append_right _ (List.mem_append_right _ (List.mem_append_right _ (List.mem_append_right _ (List.mem_append_right _ (List.mem_append_right _ (List.mem_append_left _ (List.mem_of_getElem? (i := 58) rfl))))))))))))) rfl
theorem q_2597 : Cond.methodLink RL 256 yX13_money ∈ WALL := WALL_in (List.mem_append_right _ (List.mem_append_right _ (List.mem_append_right _ (List.mem_append_right _ (List.mem_append_right _ (List.mem_append_right _ (List.mem_append_right _ (List.mem_append_right _ (List.mem_append_right _ (List.mem_append_right _ (List.mem_append_right _ (List.mem_append_left _ (List.mem_of_getElem? (i := 62) rfl))))))))))))) rfl
theorem q_2605 : Cond.methodLink RL 259 yX13_patience ∈ WALL := WALL_in (List.mem_append_right _ (List.mem_append_right _ (List.mem_append_right _ (List.mem_append_right _ (List.mem_append_right _ (List.mem_append_right _ (List.mem_append_right _ (List.mem_append_right _ (List.mem_append_right _ (List.mem_append_right _ (List.mem_append_right _ (List.mem_append_left _ (List.mem_of_getElem? (i := 70) rfl))))))))))))) rfl
theorem q_2609 : Cond.methodLink RL 262 yX13_suspicion ∈ WALL := WALL_in (List.mem_append_right _ (List.mem_append_right _ (List.mem_append_right _ (List.mem_append_right _ (List.mem_append_right _ (List.mem_append_right _ (List.mem_append_right _ (List.mem_append_right _ (List.mem_append_right _ (List.mem_append_right _ (List.mem_append_right _ (List.mem_append_left _ (List.mem_of_getElem? (i := 74) rfl))))))))))))) rfl
theorem q_2613 : Cond.methodLink RL 265 yX13_isAngry ∈ WALL := WALL_in (List.mem_append_right _ (List.mem_append_right _ (List.mem_append_right _ (List.mem_append_right _ (List.mem_append_right _ (List.mem_append_right _ (List.mem_append_right _ (List.mem_append_right _ (List.mem_append_right _ (List.mem_append_right _ (List.mem_append_right _ (List.mem_append_left _ (List.mem_of_getElem? (i := 78) rfl))))))))))))) rfl
theorem q_2617 : Cond.methodLink RL 268 yX13_echoesHeard ∈ WALL := WALL_in (List.mem_append_right _ (List.mem_append_right _ (List.mem_append_right _ (List.mem_append_right _ (List.mem_append_right _ (List.mem_append_right _ (List.mem_append_right _ (List.mem_append_right _ (List.mem_append_right _ (List.mem_append_right _ (List.mem_append_right _ (List.mem_append_left _ (List.mem_of_getElem? (i := 82) rfl))))))))))))) rfl
theorem q_2621 : Cond.methodLink RL 275 yX13_angryCustomers ∈ WALL := WALL_in (List.mem_append_right _ (List.mem_append_right _ (List.mem_append_right _ (List.mem_append_right _ (List.mem_append_right _ (List.mem_append_right _ (List.mem_append_right _ (List.mem_append_right _ (List.mem_append_right _ (List.mem_append_right _ (List.mem_append_right _ (List.mem_append_left _ (List.mem_of_getElem? (i := 86) rfl))))))))))))) rfl
theorem q_2625 : Cond.methodLink RL 279 yX13_bestCustomer ∈ WALL := WALL_in (List.mem_append_right _ (List.mem_append_right _ (List.mem_append_right _ (List.mem_append_right _ (List.mem_append_right _ (List.mem_append_right _ (List.mem_append_right _ (List.mem_append_right _ (List.mem_append_right _ (List.mem_append_right _ (List.mem_append_right _ (List.mem_append_left _ (List.mem_of_getElem? (i := 90) rfl))))))))))))) rfl
theorem q_2629 : Cond.methodLink RL 271 yX13_heldFor ∈ WALL := WALL_in (List.mem_append_right _ (List.mem_append_right _ (List.mem_append_right _ (List.mem_append_right _ (List.mem_append_right _ (List.mem_append_right _ (List.mem_append_right _ (List.mem_append_right _ (List.mem_append_right _ (List.mem_append_right _ (List.mem_append_right _ (List.mem_append_left _ (List.mem_of_getElem? (i := 94) rfl))))))))))))) rfl
theorem q_2637 : Cond.methodLink RL 282 yX13_shoutCustomer ∈ WALL := WALL_in (List.mem_append_right _ (List.mem_append_right _ (List.mem_append_right _ (List.mem_append_right _ (List.mem_append_right _ (List.mem_append_right _ (List.mem_append_right _ (List.mem_append_right _ (List.mem_append_right _ (List.mem_append_right _ (List.mem_append_right _ (List.mem_append_left _ (List.mem_of_getElem? (i := 102) rfl))))))))))))) rfl
theorem q_2645 : Cond.methodLink RL 285 yX13_shoutValley ∈ WALL := WALL_in (List.mem_append_right _ (List.mem_append_right _ (List.mem_append_right _ (List.mem_append_right _ (List.mem_append_right _ (List.mem_append_right _ (List.mem_append_right _ (List.mem_append_right _ (List.mem_append_right _ (List.mem_append_right _ (List.mem_append_right _ (List.mem_append_left _ (List.mem_of_getElem? (i := 110) rfl))))))))))))) rfl
theorem q_2649 : Cond.methodLink RL 288 yX13_shoutState ∈ WALL := WALL_in (List.mem_append_right _ (List.mem_append_right _ (List.mem_append_right _ (List.mem_append_right _ (List.mem_append_right _ (List.mem_append_right _ (List.mem_append_right _ (List.mem_append_right _ (List.mem_append_right _ (List.mem_append_right _ (List.mem_append_right _ (List.mem_append_left _ (List.mem_of_getElem? (i := 114) rfl))))))))))))) rfl
theorem q_2653 : Cond.methodLink RL 291 yX13_returns ∈ WALL := WALL_in (List.mem_append_right _ (List.mem_append_right _ (List.mem_append_right _ (List.mem_append_right _ (List.mem_append_right _ (List.mem_append_right _ (List.mem_append_right _ (List.mem_append_right _ (List.mem_append_right _ (List.mem_append_right _ (List.mem_append_right _ (List.mem_append_left _ (List.mem_of_getElem? (i := 118) rfl))))))))))))) rfl
theorem q_2657 : Cond.methodLink RL 294 yX13_receipt ∈ WALL := WALL_in (List.mem_append_right _ (List.mem_append_right _ (List.mem_append_right _ (List.mem_append_right _ (List.mem_append_right _ (List.mem_append_right _ (List.mem_append_right _ (List.mem_append_right _ (List.mem_append_right _ (List.mem_append_right _ (List.mem_append_right _ (List.mem_append_left _ (List.mem_of_getElem? (i := 122) rfl))))))))))))) rfl
theorem q_2661 : Cond.methodLink RL 297 yX13_nextReturn ∈ WALL := WALL_in (List.mem_append_right _ (List.mem_append_right _ (List.mem_append_right _ (List.mem_append_right _ (List.mem_append_right _ (List.mem_append_right _ (List.mem_append_right _ (List.mem_append_right _ (List.mem_append_right _ (List.mem_append_right _ (List.mem_append_right _ (List.mem_append_left _ (List.mem_of_getElem? (i := 126) rfl))))))))))))) rfl
theorem q_2665 : Cond.methodLink RL 300 yX13_patienceEnds ∈ WALL := WALL_in (List.mem_append_right _ (List.mem_append_right _ (List.mem_append_right _ (List.mem_append_right _ (List.mem_append_right _ (List.mem_append_right _ (List.mem_append_right _ (List.mem_append_right _ (List.mem_append_right _ (List.mem_append_right _ (List.mem_append_right _ (List.mem_append_left _ (List.mem_of_getElem? (i := 130) rfl))))))))))))) rfl
theorem q_2669 : Cond.methodLink RL 304 yX13_refusal ∈ WALL := WALL_in (List.mem_append_right _ (List.mem_append_right _ (List.mem_append_right _ (List.mem_append_right _ (List.mem_append_right _ (List.mem_append_right _ (List.mem_append_right _ (List.mem_append_right _ (List.mem_append_right _ (List.mem_append_right _ (List.mem_append_right _ (List.mem_append_left _ (List.mem_of_getElem? (i := 134) rfl))))))))))))) rfl
theorem q_2673 : Cond.methodLink RL 307 yX13_neededLoudness ∈ WALL := WALL_in (List.mem_append_right _ (List.mem_append_right _ (List.mem_append_right _ (List.mem_append_right _ (List.mem_append_right _ (List.mem_append_right _ (List.mem_append_right _ (List.mem_append_right _ (List.mem_append_right _ (List.mem_append_right _ (List.mem_append_right _ (List.mem_append_left _ (List.mem_of_getElem? (i := 138) rfl))))))))))))) rfl
theorem q_2677 : Cond.methodLink RL 310 yX13_bestOffer ∈ WALL := WALL_in (List.mem_append_right _ (List.mem_append_right _ (List.mem_append_right _ (List.mem_append_right _ (List.mem_append_right _ (List.mem_append_right _ (List.mem_append_right _ (List.mem_append_right _ (List.mem_append_right _ (List.mem_append_right _ (List.mem_append_right _ (List.mem_append_left _ (List.mem_of_getElem? (i := 142) rfl))))))))))))) rfl
theorem q_2693 : Cond.methodLink RL 314 yX13_nextEvent ∈ WALL := WALL_in (List.mem_append_right _ (List.mem_append_right _ (List.mem_append_right _ (List.mem_append_right _ (List.mem_append_right _ (List.mem_append_right _ (List.mem_append_right _ (List.mem_append_right _ (List.mem_append_right _ (List.mem_append_right _ (List.mem_append_right _ (List.mem_append_left _ (List.mem_of_getElem? (i := 158) rfl))))))))))))) rfl
theorem q_2700 : Cond.methodLink RL 317 yX13_earnedAfter ∈ WALL := WALL_in (List.mem_append_right _ (List.mem_append_right _ (List.mem_append_right _ (List.mem_append_right _ (List.mem_append_right _ (List.mem_append_right _ (List.mem_append_right _ (List.mem_append_right _ (List.mem_append_right _ (List.mem_append_right _ (List.mem_append_right _ (List.mem_append_left _ (List.mem_of_getElem? (i := 165) rfl))))))))))))) rfl
theorem q_2716 : Cond.methodLink RL 320 yX13_finalState ∈ WALL := WALL_in (List.mem_append_right _ (List.mem_append_right _ (List.mem_append_right _ (List.mem_append_right _ (List.mem_append_right _ (List.mem_append_right _ (List.mem_append_right _ (List.mem_append_right _ (List.mem_append_right _ (List.mem_append_right _ (List.mem_append_right _ (List.mem_append_left _ (List.mem_of_getElem? (i := 181) rfl))))))))))))) rfl
theorem q_2724 : Cond.methodLink RL 324 yX13_violations ∈ WALL := WALL_in (List.mem_append_right _ (List.mem_append_right _ (List.mem_append_right _ (List.mem_append_right _ (List.mem_append_right _ (List.mem_append_right _ (List.mem_append_right _ (List.mem_append_right _ (List.mem_append_right _ (List.mem_append_right _ (List.mem_append_right _ (List.mem_append_left _ (List.mem_of_getElem? (i := 189) rfl))))))))))))) rfl
theorem q_2743 : Cond.methodLink RL 329 yX13_meanRating ∈ WALL := WALL_in (List.mem_append_right _ (List.mem_append_right _ (List.mem_append_right _ (List.mem_append_right _ (List.mem_append_right _ (List.mem_append_right _ (List.mem_append_right _ (List.mem_append_right _ (List.mem_append_right _ (List.mem_append_right _ (List.mem_append_right _ (List.mem_append_left _ (List.mem_of_getElem? (i := 208) rfl))))))))))))) rfl
theorem q_2747 : Cond.methodLink RL 334 yX13_heardFraction ∈ WALL := WALL_in (List.mem_append_right _ (List.mem_append_right _ (List.mem_append_right _ (List.mem_append_right _ (List.mem_append_right _ (List.mem_append_right _ (List.mem_append_right _ (List.mem_append_right _ (List.mem_append_right _ (List.mem_append_right _ (List.mem_append_right _ (List.mem_append_left _ (List.mem_of_getElem? (i := 212) rfl))))))))))))) rfl
theorem q_2759 : Cond.methodLink RL 171 yX13_runScript ∈ WALL := WALL_in (List.mem_append_right _ (List.mem_append_right _ (List.mem_append_right _ (List.mem_append_right _ (List.mem_append_right _ (List.mem_append_right _ (List.mem_append_right _ (List.mem_append_right _ (List.mem_append_right _ (List.mem_append_right _ (List.mem_append_right _ (List.mem_append_left _ (List.mem_of_getElem? (i := 224) rfl))))))))))))) rfl
theorem q_2797 : Cond.methodLink RL 368 yX13_printReceipt ∈ WALL := WALL_in (List.mem_append_right _ (List.mem_append_right _ (List.mem_append_right _ (List.mem_append_right _ (List.mem_append_right _ (List.mem_append_right _ (List.mem_append_right _ (List.mem_append_right _ (List.mem_append_right _ (List.mem_append_right _ (List.mem_append_right _ (List.mem_append_right _ (List.mem_of_getElem? (i := 22) rfl))))))))))))) rfl
theorem q_2824 : Cond.methodLink RL 371 yX13_outputByte ∈ WALL := WALL_in (List.mem_append_right _ (List.mem_append_right _ (List.mem_append_right _ (List.mem_append_right _ (List.mem_append_right _ (List.mem_append_right _ (List.mem_append_right _ (List.mem_append_right _ (List.mem_append_right _ (List.mem_append_right _ (List.mem_append_right _ (List.mem_append_right _ (List.mem_of_getElem? (i := 49) rfl))))))))))))) rfl
/-! THE LAW: one command at a time -/
def ARG (L : Nat) (xs : Nat → Int32) (i a1 a2 a3 a4 a5 : Int32) : Prop := (vp_in (i + 1) L ∧ xs (i + 1).toNatClampNeg = a1) ∧ (vp_in (i + 2) L ∧ xs (i + 2).toNatClampNeg = a2) ∧ (vp_in (i + 3) L ∧ xs (i + 3).toNatClampNeg = a3) ∧ (vp_in (i + 4) L ∧ xs (i + 4).toNatClampNeg = a4) ∧ (vp_in (i + 5) L ∧ xs (i + 5).toNatClampNeg = a5)
def LW (G : GG) (p : Program) (l : Launch) (s : State) (m : MethodId) (args : Array Value) (c : Code) (b L : Nat) (xs : Nat → Int32) : Prop := FX G RL cL_law 9 p s m args c ∧ NC s ∧ l.stackTraces = false ∧ va_X b L xs s s.heap ∧ b < gn G
section LAWR
variable {G : GG} {own : String} {cc : ByteArray} {p : Program} {l : Launch} {e : Env} {R : Room} {s : State} {m : MethodId} {args : Array Value} {below : List Frame} {meth : Method} {c : Code} {nL cells slots : Nat} {Q : State → Prop} {pc t : Nat} {lc : List (Nat × Value)} {st : List Value} {w : Wd} {r j : Nat} {I : Heap → Prop} {b L : Nat} {xs : Nat → Int32}
theorem J_sld (hX : FX G own cc nL p s m args c) (hs : va_X b L xs s s.heap) (hb : b < gn G) {i v : Int32} (hin : vp_in i L) (hv : xs i.toNatClampNeg = v) (hdg : decode cc pc = .ok (.iaload, 1)) (ht : pc + 1 = t) (kk : J G p l e R s m args below meth c nL cells slots Q I t lc (.int v :: st)) : J G p l e R s m args below meth c nL cells slots Q I pc lc (.int i :: .ref b :: st) := by
  subst ht
  subst hv
  intro H locs ls h1 h2 h3
  exact va_sld hX.1 hX.2.1 hs (Nat.lt_of_lt_of_le hb hX.2.2.2.2.2.2.2) (Nat.not_le.mpr hb) h3 hin hdg (kk H locs ls h1 h2 h3)
theorem J_slen (hX : FX G own cc nL p s m args c) (hs : va_X b L xs s s.heap) (hb : b < gn G) (hdg : decode cc pc = .ok (.arraylength, 1)) (ht : pc + 1 = t) (kk : J G p l e R s m args below meth c nL cells slots Q I t lc (.int (nI L) :: st)) : J G p l e R s m args below meth c nL cells slots Q I pc lc (.ref b :: st) := by
  subst ht
  intro H locs ls h1 h2 h3
  exact va_slen hX.1 hX.2.1 hs (Nat.lt_of_lt_of_le hb hX.2.2.2.2.2.2.2) (Nat.not_le.mpr hb) h3 hdg (kk H locs ls h1 h2 h3)
theorem J_dstore (hX : FX G own cc nL p s m args c) {i : Nat} {x : UInt64} {lc2 : List (Nat × Value)} (hdg : decode cc pc = .ok (.dstore i, 2)) (hn : i + 1 < nL) (hl : (i, Value.double x) :: lc.filter (fun q => !(q.1 == i) && (!(q.1 == i + 1) && !(q.1 + 1 == i && q.2.category == 2))) = lc2) (ht : pc + 2 = t) (kk : J G p l e R s m args below meth c nL cells slots Q I t lc2 st) : J G p l e R s m args below meth c nL cells slots Q I pc lc (.double x :: st) := by
  subst ht
  intro H locs ls h1 h2 h3
  exact lv_dstore hX.1 hX.2.1 hdg h1 hn hl (fun ls9 h9 => kk H locs ls9 h9 h2 h3)
theorem J_dload (hX : FX G own cc nL p s m args c) {i : Nat} {x : UInt64} (hdg : decode cc pc = .ok (.dload i, 2)) (q : Nat) (hl : lc[q]? = some (i, .double x)) (ht : pc + 2 = t) (kk : J G p l e R s m args below meth c nL cells slots Q I t lc (.double x :: st)) : J G p l e R s m args below meth c nL cells slots Q I pc lc st := by
  subst ht
  intro H locs ls h1 h2 h3
  exact lv_dload hX.1 hX.2.1 hdg (lv_at h1 q hl) (kk H locs ls h1 h2 h3)
theorem J_dcmp (hX : FX G own cc nL p s m args c) {x y : UInt64} {op : CmpOp} (hdg : decode cc pc = .ok (.dcmp op, 1)) (ht : pc + 1 = t) (kk : J G p l e R s m args below meth c nL cells slots Q I t lc (.int (Op.cmpValue (FP.dcmp x y) op) :: st)) : J G p l e R s m args below meth c nL cells slots Q I pc lc (.double y :: .double x :: st) := by
  subst ht
  intro H locs ls h1 h2 h3
  exact lv_dcmp hX.1 hX.2.1 hdg (kk H locs ls h1 h2 h3)
end LAWR
theorem LW.drawn {G : GG} {p : Program} {l : Launch} {s : State} {m : MethodId} {args : Array Value} {c : Code} {b L : Nat} {xs : Nat → Int32} (h : LW G p l s m args c b L xs) (d : Drawn) : LW G p l (s.setDrawn d) m args c b L xs := ⟨h.1.drawn d, NC.moved (u := s) (U := s.setDrawn d) (Vm.Alike.refl s.vm) h.2.1, h.2.2.1, h.2.2.2.1, h.2.2.2.2⟩
def LJ (G : GG) (p : Program) (l : Launch) (e : Env) (s : State) (m : MethodId) (args : Array Value) (below : List Frame) (meth : Method) (c : Code) (b : Nat) (Q : State → Prop) (cells slots pc : Nat) (i : Int32) (w : Wd) : Prop := ∀ d : Drawn, s.drawn.sameBut d lw_cs → J G p l e room_1 (s.setDrawn d) m args below meth c 9 cells slots Q (GH G w) pc [(4, .int i), (3, .ref (adr G 16 0)), (2, .ref (adr G 15 0)), (1, .ref (adr G 0 0)), (0, .ref b)] []
def FLc_0 (n : Nat) (w : Wd) (a1 a2 a3 a4 a5 : Int32) : Option Wd := bo2 (FL_feed n w a1 a2 a3 a4 a5) fun k w1 => bo2 (FX13_feed n w1 a1 a2 a3 a4 a5) fun q w2 => if FX13_thrown w2 = k then (if k = 0 then (if lg_cmp ((w2 16).2 0 0) q.toInt64 = 0 then some w2 else none) else some w2) else none
set_option maxHeartbeats 4000000 in
theorem cs_0 {G : GG} {p : Program} {l : Launch} {e : Env} {s : State} {m : MethodId} {args : Array Value} {below : List Frame} {meth : Method} {c : Code} {b L : Nat} {xs : Nat → Int32} {Q : State → Prop} {cells slots n : Nat} {i a1 a2 a3 a4 a5 : Int32} {w w9 : Wd} (hW : LW G p l s m args c b L xs) (hA : ARG L xs i a1 a2 a3 a4 a5) (hc : cells + 30 ≤ room_1.cells) (hs9 : slots + 3900 ≤ room_1.slots) (hF : FLc_0 n w a1 a2 a3 a4 a5 = some w9) (kk : LJ G p l e s m args below meth c b Q (cells + 30) (slots + 3900) 3183 i w9) : LJ G p l e s m args below meth c b Q cells slots 312 i w := by
  intro d0 hd0
  obtain ⟨hX, hNC, hl, hs, hb⟩ := hW.drawn d0
  unfold FLc_0 at hF
  obtain ⟨k, w1, hk, hF⟩ := bo2_e hF
  obtain ⟨q, w2, hq, hF⟩ := bo2_e hF
  refine J_aload_n hX dL_law_312 3 rfl (t := 313) rfl ?_
  refine J_aload_n hX dL_law_313 4 rfl (t := 314) rfl ?_
  refine J_iload hX dL_law_314 0 rfl (t := 316) rfl ?_
  refine J_iconst (v := 1) hX dL_law_316 (by decide) (t := 317) rfl ?_
  refine J_iadd hX dL_law_317 (t := 318) rfl ?_
  refine J_sld hX hs hb hA.1.1 hA.1.2 dL_law_318 (t := 319) rfl ?_
  refine J_aload_n hX dL_law_319 4 rfl (t := 320) rfl ?_
  refine J_iload hX dL_law_320 0 rfl (t := 322) rfl ?_
  refine J_iconst (v := 2) hX dL_law_322 (by decide) (t := 323) rfl ?_
  refine J_iadd hX dL_law_323 (t := 324) rfl ?_
  refine J_sld hX hs hb hA.2.1.1 hA.2.1.2 dL_law_324 (t := 325) rfl ?_
  refine J_aload_n hX dL_law_325 4 rfl (t := 326) rfl ?_
  refine J_iload hX dL_law_326 0 rfl (t := 328) rfl ?_
  refine J_iconst (v := 3) hX dL_law_328 (by decide) (t := 329) rfl ?_
  refine J_iadd hX dL_law_329 (t := 330) rfl ?_
  refine J_sld hX hs hb hA.2.2.1.1 hA.2.2.1.2 dL_law_330 (t := 331) rfl ?_
  refine J_aload_n hX dL_law_331 4 rfl (t := 332) rfl ?_
  refine J_iload hX dL_law_332 0 rfl (t := 334) rfl ?_
  refine J_iconst (v := 4) hX dL_law_334 (by decide) (t := 335) rfl ?_
  refine J_iadd hX dL_law_335 (t := 336) rfl ?_
  refine J_sld hX hs hb hA.2.2.2.1.1 hA.2.2.2.1.2 dL_law_336 (t := 337) rfl ?_
  refine J_aload_n hX dL_law_337 4 rfl (t := 338) rfl ?_
  refine J_iload hX dL_law_338 0 rfl (t := 340) rfl ?_
  refine J_iconst (v := 5) hX dL_law_340 (by decide) (t := 341) rfl ?_
  refine J_iadd hX dL_law_341 (t := 342) rfl ?_
  refine J_sld hX hs hb hA.2.2.2.2.1 hA.2.2.2.2.2 dL_law_342 (t := 343) rfl ?_
  refine J_aload_n hX dL_law_343 1 rfl (t := 344) rfl ?_
  refine J_callSW hX hNC [.ref (adr G 0 0), .int a1, .int a2, .int a3, .int a4, .int a5, .ref (adr G 16 0)] [] (ctL_feed hl w a1 a2 a3 a4 a5 n hk) miL_feed q_782 q_781 ⟨rfl, rfl, Nat.le_of_ble_eq_true rfl, Nat.le_of_ble_eq_true rfl⟩ rfl rfl (Nat.le_of_ble_eq_true rfl) ⟨Nat.le_trans (Nat.add_le_add_left (m := 30) (n := 1) (Nat.le_of_ble_eq_true rfl) cells) hc, Nat.le_trans (Nat.add_le_add_left (m := 3900) (n := 6) (Nat.le_of_ble_eq_true rfl) slots) hs9⟩ dL_law_344 (t := 347) rfl (fun v9 => J_pure fun hv9 => ?_)
  subst hv9
  refine J_istore (lc2 := [(5, .int k), (4, .int i), (3, .ref (adr G 16 0)), (2, .ref (adr G 15 0)), (1, .ref (adr G 0 0)), (0, .ref b)]) hX dL_law_347 (Nat.le_of_ble_eq_true rfl) rfl (t := 349) rfl ?_
  refine J_aload_n hX dL_law_349 3 rfl (t := 350) rfl ?_
  refine J_aload_n hX dL_law_350 5 rfl (t := 351) rfl ?_
  refine J_iload hX dL_law_351 1 rfl (t := 353) rfl ?_
  refine J_iconst (v := 1) hX dL_law_353 (by decide) (t := 354) rfl ?_
  refine J_iadd hX dL_law_354 (t := 355) rfl ?_
  refine J_sld hX hs hb hA.1.1 hA.1.2 dL_law_355 (t := 356) rfl ?_
  refine J_aload_n hX dL_law_356 5 rfl (t := 357) rfl ?_
  refine J_iload hX dL_law_357 1 rfl (t := 359) rfl ?_
  refine J_iconst (v := 2) hX dL_law_359 (by decide) (t := 360) rfl ?_
  refine J_iadd hX dL_law_360 (t := 361) rfl ?_
  refine J_sld hX hs hb hA.2.1.1 hA.2.1.2 dL_law_361 (t := 362) rfl ?_
  refine J_aload_n hX dL_law_362 5 rfl (t := 363) rfl ?_
  refine J_iload hX dL_law_363 1 rfl (t := 365) rfl ?_
  refine J_iconst (v := 3) hX dL_law_365 (by decide) (t := 366) rfl ?_
  refine J_iadd hX dL_law_366 (t := 367) rfl ?_
  refine J_sld hX hs hb hA.2.2.1.1 hA.2.2.1.2 dL_law_367 (t := 368) rfl ?_
  refine J_aload_n hX dL_law_368 5 rfl (t := 369) rfl ?_
  refine J_iload hX dL_law_369 1 rfl (t := 371) rfl ?_
  refine J_iconst (v := 4) hX dL_law_371 (by decide) (t := 372) rfl ?_
  refine J_iadd hX dL_law_372 (t := 373) rfl ?_
  refine J_sld hX hs hb hA.2.2.2.1.1 hA.2.2.2.1.2 dL_law_373 (t := 374) rfl ?_
  refine J_aload_n hX dL_law_374 5 rfl (t := 375) rfl ?_
  refine J_iload hX dL_law_375 1 rfl (t := 377) rfl ?_
  refine J_iconst (v := 5) hX dL_law_377 (by decide) (t := 378) rfl ?_
  refine J_iadd hX dL_law_378 (t := 379) rfl ?_
  refine J_sld hX hs hb hA.2.2.2.2.1 hA.2.2.2.2.2 dL_law_379 (t := 380) rfl ?_
  refine J_callV hX [.int a1, .int a2, .int a3, .int a4, .int a5] [] [.int q] (ctX13_feed w1 a1 a2 a3 a4 a5 n hq) miX13_feed mvX13_feed cb10 kModel q_2074 ⟨rfl, rfl, Nat.le_of_ble_eq_true rfl, Nat.le_of_ble_eq_true rfl⟩ rfl rfl (Nat.le_of_ble_eq_true rfl) ⟨Nat.le_trans (Nat.add_le_add_left (m := 30) (n := 1) (Nat.le_of_ble_eq_true rfl) cells) hc, Nat.le_trans (Nat.add_le_add_left (m := 3900) (n := 6) (Nat.le_of_ble_eq_true rfl) slots) hs9⟩ dL_law_380 (t := 383) rfl rfl ?_
  refine J_istore (lc2 := [(6, .int q), (5, .int k), (4, .int i), (3, .ref (adr G 16 0)), (2, .ref (adr G 15 0)), (1, .ref (adr G 0 0)), (0, .ref b)]) hX dL_law_383 (Nat.le_of_ble_eq_true rfl) rfl (t := 385) rfl ?_
  refine J_aload_n hX dL_law_385 4 rfl (t := 386) rfl ?_
  refine J_callV hX [] [] [.int (FX13_thrown w2)] (ctX13_thrown w2  rfl) miX13_thrown mvX13_thrown cb10 kModel q_2070 ⟨rfl, rfl, Nat.le_of_ble_eq_true rfl, Nat.le_of_ble_eq_true rfl⟩ rfl rfl (Nat.le_of_ble_eq_true rfl) ⟨Nat.le_trans (Nat.add_le_add_left (m := 30) (n := 1) (Nat.le_of_ble_eq_true rfl) cells) hc, Nat.le_trans (Nat.add_le_add_left (m := 3900) (n := 6) (Nat.le_of_ble_eq_true rfl) slots) hs9⟩ dL_law_386 (t := 389) rfl rfl ?_
  refine J_iload hX dL_law_389 1 rfl (t := 391) rfl ?_
  refine J_icmp_eq (tgt := 396) hX dL_law_391 (by decide) (t := 394) rfl (fun z => ?_) (fun z => nomatch it_f hF z)
  replace hF := it_t hF z
  refine J_iload hX dL_law_396 1 rfl (t := 398) rfl ?_
  refine J_if_ne (tgt := 413) hX dL_law_398 (by decide) (t := 401) rfl (fun z2 => ?_) (fun z2 => ?_)
  · replace hF := Option.some.inj (it_f hF z2)
    subst hF
    refine J_goto (tgt := 3183) hX dL_law_413 (by decide) ?_
    refine J_sub (lc2 := [(4, .int i), (3, .ref (adr G 16 0)), (2, .ref (adr G 15 0)), (1, .ref (adr G 0 0)), (0, .ref b)]) [2, 3, 4, 5, 6] rfl ?_
    exact J_wid (Nat.add_le_add_left (m := 30) (n := 1) (Nat.le_of_ble_eq_true rfl) cells) (Nat.add_le_add_left (m := 3900) (n := 6) (Nat.le_of_ble_eq_true rfl) slots) (kk d0 hd0)
  · replace hF := it_t hF z2
    refine J_aload_n hX dL_law_401 3 rfl (t := 402) rfl ?_
    refine J_iconst (v := 0) hX dL_law_402 (by decide) (t := 403) rfl ?_
    refine J_lald (w := w2) (v := (w2 16).2 0 0) hX kOut (by decide) rfl dL_law_403 (t := 404) rfl ?_
    refine J_iload hX dL_law_404 0 rfl (t := 406) rfl ?_
    refine J_i2l hX dL_law_406 (t := 407) rfl ?_
    refine J_lcmp hX dL_law_407 (t := 408) rfl ?_
    refine J_if_eq (tgt := 413) hX dL_law_408 (by decide) (t := 411) rfl (fun z3 => ?_) (fun z3 => nomatch it_f hF z3)
    replace hF := Option.some.inj (it_t hF z3)
    subst hF
    refine J_goto (tgt := 3183) hX dL_law_413 (by decide) ?_
    refine J_sub (lc2 := [(4, .int i), (3, .ref (adr G 16 0)), (2, .ref (adr G 15 0)), (1, .ref (adr G 0 0)), (0, .ref b)]) [2, 3, 4, 5, 6] rfl ?_
    exact J_wid (Nat.add_le_add_left (m := 30) (n := 1) (Nat.le_of_ble_eq_true rfl) cells) (Nat.add_le_add_left (m := 3900) (n := 6) (Nat.le_of_ble_eq_true rfl) slots) (kk d0 hd0)
def FLc_1 (n : Nat) (w : Wd) (a1 a2 a3 a4 a5 : Int32) : Option Wd := bo2 (FL_truncate w a1) fun k w1 => bnd2 (FX13_truncate w1 a1) fun q w2 => if FX13_thrown w2 = k then (if k = 0 then (if lg_cmp ((w2 16).2 0 0) q.toInt64 = 0 then some w2 else none) else some w2) else none
set_option maxHeartbeats 4000000 in
theorem cs_1 {G : GG} {p : Program} {l : Launch} {e : Env} {s : State} {m : MethodId} {args : Array Value} {below : List Frame} {meth : Method} {c : Code} {b L : Nat} {xs : Nat → Int32} {Q : State → Prop} {cells slots n : Nat} {i a1 a2 a3 a4 a5 : Int32} {w w9 : Wd} (hW : LW G p l s m args c b L xs) (hA : ARG L xs i a1 a2 a3 a4 a5) (hc : cells + 30 ≤ room_1.cells) (hs9 : slots + 3900 ≤ room_1.slots) (hF : FLc_1 n w a1 a2 a3 a4 a5 = some w9) (kk : LJ G p l e s m args below meth c b Q (cells + 30) (slots + 3900) 3183 i w9) : LJ G p l e s m args below meth c b Q cells slots 416 i w := by
  intro d0 hd0
  obtain ⟨hX, hNC, hl, hs, hb⟩ := hW.drawn d0
  unfold FLc_1 at hF
  obtain ⟨k, w1, hk, hF⟩ := bo2_e hF
  obtain ⟨q, w2, hq, hF⟩ := bnd2_e hF
  refine J_aload_n hX dL_law_416 3 rfl (t := 417) rfl ?_
  refine J_aload_n hX dL_law_417 4 rfl (t := 418) rfl ?_
  refine J_iload hX dL_law_418 0 rfl (t := 420) rfl ?_
  refine J_iconst (v := 1) hX dL_law_420 (by decide) (t := 421) rfl ?_
  refine J_iadd hX dL_law_421 (t := 422) rfl ?_
  refine J_sld hX hs hb hA.1.1 hA.1.2 dL_law_422 (t := 423) rfl ?_
  refine J_aload_n hX dL_law_423 1 rfl (t := 424) rfl ?_
  refine J_callSW hX hNC [.ref (adr G 0 0), .int a1, .ref (adr G 16 0)] [] (ctL_truncate hl w a1 hk) miL_truncate q_866 q_865 ⟨rfl, rfl, Nat.le_of_ble_eq_true rfl, Nat.le_of_ble_eq_true rfl⟩ rfl rfl (Nat.le_of_ble_eq_true rfl) ⟨Nat.le_trans (Nat.add_le_add_left (m := 30) (n := 1) (Nat.le_of_ble_eq_true rfl) cells) hc, Nat.le_trans (Nat.add_le_add_left (m := 3900) (n := 6) (Nat.le_of_ble_eq_true rfl) slots) hs9⟩ dL_law_424 (t := 427) rfl (fun v9 => J_pure fun hv9 => ?_)
  subst hv9
  refine J_istore (lc2 := [(5, .int k), (4, .int i), (3, .ref (adr G 16 0)), (2, .ref (adr G 15 0)), (1, .ref (adr G 0 0)), (0, .ref b)]) hX dL_law_427 (Nat.le_of_ble_eq_true rfl) rfl (t := 429) rfl ?_
  refine J_aload_n hX dL_law_429 3 rfl (t := 430) rfl ?_
  refine J_aload_n hX dL_law_430 5 rfl (t := 431) rfl ?_
  refine J_iload hX dL_law_431 1 rfl (t := 433) rfl ?_
  refine J_iconst (v := 1) hX dL_law_433 (by decide) (t := 434) rfl ?_
  refine J_iadd hX dL_law_434 (t := 435) rfl ?_
  refine J_sld hX hs hb hA.1.1 hA.1.2 dL_law_435 (t := 436) rfl ?_
  refine J_callV hX [.int a1] [] [.int q] (ctX13_truncate w1 a1 hq) miX13_truncate mvX13_truncate cb10 kModel q_2089 ⟨rfl, rfl, Nat.le_of_ble_eq_true rfl, Nat.le_of_ble_eq_true rfl⟩ rfl rfl (Nat.le_of_ble_eq_true rfl) ⟨Nat.le_trans (Nat.add_le_add_left (m := 30) (n := 1) (Nat.le_of_ble_eq_true rfl) cells) hc, Nat.le_trans (Nat.add_le_add_left (m := 3900) (n := 6) (Nat.le_of_ble_eq_true rfl) slots) hs9⟩ dL_law_436 (t := 439) rfl rfl ?_
  refine J_istore (lc2 := [(6, .int q), (5, .int k), (4, .int i), (3, .ref (adr G 16 0)), (2, .ref (adr G 15 0)), (1, .ref (adr G 0 0)), (0, .ref b)]) hX dL_law_439 (Nat.le_of_ble_eq_true rfl) rfl (t := 441) rfl ?_
  refine J_aload_n hX dL_law_441 4 rfl (t := 442) rfl ?_
  refine J_callV hX [] [] [.int (FX13_thrown w2)] (ctX13_thrown w2  rfl) miX13_thrown mvX13_thrown cb10 kModel q_2070 ⟨rfl, rfl, Nat.le_of_ble_eq_true rfl, Nat.le_of_ble_eq_true rfl⟩ rfl rfl (Nat.le_of_ble_eq_true rfl) ⟨Nat.le_trans (Nat.add_le_add_left (m := 30) (n := 1) (Nat.le_of_ble_eq_true rfl) cells) hc, Nat.le_trans (Nat.add_le_add_left (m := 3900) (n := 6) (Nat.le_of_ble_eq_true rfl) slots) hs9⟩ dL_law_442 (t := 445) rfl rfl ?_
  refine J_iload hX dL_law_445 1 rfl (t := 447) rfl ?_
  refine J_icmp_eq (tgt := 452) hX dL_law_447 (by decide) (t := 450) rfl (fun z => ?_) (fun z => nomatch it_f hF z)
  replace hF := it_t hF z
  refine J_iload hX dL_law_452 1 rfl (t := 454) rfl ?_
  refine J_if_ne (tgt := 469) hX dL_law_454 (by decide) (t := 457) rfl (fun z2 => ?_) (fun z2 => ?_)
  · replace hF := Option.some.inj (it_f hF z2)
    subst hF
    refine J_goto (tgt := 3183) hX dL_law_469 (by decide) ?_
    refine J_sub (lc2 := [(4, .int i), (3, .ref (adr G 16 0)), (2, .ref (adr G 15 0)), (1, .ref (adr G 0 0)), (0, .ref b)]) [2, 3, 4, 5, 6] rfl ?_
    exact J_wid (Nat.add_le_add_left (m := 30) (n := 1) (Nat.le_of_ble_eq_true rfl) cells) (Nat.add_le_add_left (m := 3900) (n := 6) (Nat.le_of_ble_eq_true rfl) slots) (kk d0 hd0)
  · replace hF := it_t hF z2
    refine J_aload_n hX dL_law_457 3 rfl (t := 458) rfl ?_
    refine J_iconst (v := 0) hX dL_law_458 (by decide) (t := 459) rfl ?_
    refine J_lald (w := w2) (v := (w2 16).2 0 0) hX kOut (by decide) rfl dL_law_459 (t := 460) rfl ?_
    refine J_iload hX dL_law_460 0 rfl (t := 462) rfl ?_
    refine J_i2l hX dL_law_462 (t := 463) rfl ?_
    refine J_lcmp hX dL_law_463 (t := 464) rfl ?_
    refine J_if_eq (tgt := 469) hX dL_law_464 (by decide) (t := 467) rfl (fun z3 => ?_) (fun z3 => nomatch it_f hF z3)
    replace hF := Option.some.inj (it_t hF z3)
    subst hF
    refine J_goto (tgt := 3183) hX dL_law_469 (by decide) ?_
    refine J_sub (lc2 := [(4, .int i), (3, .ref (adr G 16 0)), (2, .ref (adr G 15 0)), (1, .ref (adr G 0 0)), (0, .ref b)]) [2, 3, 4, 5, 6] rfl ?_
    exact J_wid (Nat.add_le_add_left (m := 30) (n := 1) (Nat.le_of_ble_eq_true rfl) cells) (Nat.add_le_add_left (m := 3900) (n := 6) (Nat.le_of_ble_eq_true rfl) slots) (kk d0 hd0)
def FLc_2 (n : Nat) (w : Wd) (a1 a2 a3 a4 a5 : Int32) : Option Wd := bo2 (FL_readText n w) fun k w1 => bo2 (FX13_readText n w1) fun q w2 => if FX13_thrown w2 = k then (if k = 0 then (if lg_cmp ((w2 16).2 0 0) q.toInt64 = 0 then some w2 else none) else some w2) else none
set_option maxHeartbeats 4000000 in
theorem cs_2 {G : GG} {p : Program} {l : Launch} {e : Env} {s : State} {m : MethodId} {args : Array Value} {below : List Frame} {meth : Method} {c : Code} {b L : Nat} {xs : Nat → Int32} {Q : State → Prop} {cells slots n : Nat} {i a1 a2 a3 a4 a5 : Int32} {w w9 : Wd} (hW : LW G p l s m args c b L xs) (hA : ARG L xs i a1 a2 a3 a4 a5) (hc : cells + 30 ≤ room_1.cells) (hs9 : slots + 3900 ≤ room_1.slots) (hF : FLc_2 n w a1 a2 a3 a4 a5 = some w9) (kk : LJ G p l e s m args below meth c b Q (cells + 30) (slots + 3900) 3183 i w9) : LJ G p l e s m args below meth c b Q cells slots 472 i w := by
  intro d0 hd0
  obtain ⟨hX, hNC, hl, hs, hb⟩ := hW.drawn d0
  unfold FLc_2 at hF
  obtain ⟨k, w1, hk, hF⟩ := bo2_e hF
  obtain ⟨q, w2, hq, hF⟩ := bo2_e hF
  refine J_aload_n hX dL_law_472 3 rfl (t := 473) rfl ?_
  refine J_aload_n hX dL_law_473 1 rfl (t := 474) rfl ?_
  refine J_callSW hX hNC [.ref (adr G 0 0), .ref (adr G 16 0)] [] (ctL_readText hl w  n hk) miL_readText q_894 q_893 ⟨rfl, rfl, Nat.le_of_ble_eq_true rfl, Nat.le_of_ble_eq_true rfl⟩ rfl rfl (Nat.le_of_ble_eq_true rfl) ⟨Nat.le_trans (Nat.add_le_add_left (m := 30) (n := 1) (Nat.le_of_ble_eq_true rfl) cells) hc, Nat.le_trans (Nat.add_le_add_left (m := 3900) (n := 6) (Nat.le_of_ble_eq_true rfl) slots) hs9⟩ dL_law_474 (t := 477) rfl (fun v9 => J_pure fun hv9 => ?_)
  subst hv9
  refine J_istore (lc2 := [(5, .int k), (4, .int i), (3, .ref (adr G 16 0)), (2, .ref (adr G 15 0)), (1, .ref (adr G 0 0)), (0, .ref b)]) hX dL_law_477 (Nat.le_of_ble_eq_true rfl) rfl (t := 479) rfl ?_
  refine J_aload_n hX dL_law_479 3 rfl (t := 480) rfl ?_
  refine J_callV hX [] [] [.int q] (ctX13_readText w1  n hq) miX13_readText mvX13_readText cb10 kModel q_2363 ⟨rfl, rfl, Nat.le_of_ble_eq_true rfl, Nat.le_of_ble_eq_true rfl⟩ rfl rfl (Nat.le_of_ble_eq_true rfl) ⟨Nat.le_trans (Nat.add_le_add_left (m := 30) (n := 1) (Nat.le_of_ble_eq_true rfl) cells) hc, Nat.le_trans (Nat.add_le_add_left (m := 3900) (n := 6) (Nat.le_of_ble_eq_true rfl) slots) hs9⟩ dL_law_480 (t := 483) rfl rfl ?_
  refine J_istore (lc2 := [(6, .int q), (5, .int k), (4, .int i), (3, .ref (adr G 16 0)), (2, .ref (adr G 15 0)), (1, .ref (adr G 0 0)), (0, .ref b)]) hX dL_law_483 (Nat.le_of_ble_eq_true rfl) rfl (t := 485) rfl ?_
  refine J_aload_n hX dL_law_485 4 rfl (t := 486) rfl ?_
  refine J_callV hX [] [] [.int (FX13_thrown w2)] (ctX13_thrown w2  rfl) miX13_thrown mvX13_thrown cb10 kModel q_2070 ⟨rfl, rfl, Nat.le_of_ble_eq_true rfl, Nat.le_of_ble_eq_true rfl⟩ rfl rfl (Nat.le_of_ble_eq_true rfl) ⟨Nat.le_trans (Nat.add_le_add_left (m := 30) (n := 1) (Nat.le_of_ble_eq_true rfl) cells) hc, Nat.le_trans (Nat.add_le_add_left (m := 3900) (n := 6) (Nat.le_of_ble_eq_true rfl) slots) hs9⟩ dL_law_486 (t := 489) rfl rfl ?_
  refine J_iload hX dL_law_489 1 rfl (t := 491) rfl ?_
  refine J_icmp_eq (tgt := 496) hX dL_law_491 (by decide) (t := 494) rfl (fun z => ?_) (fun z => nomatch it_f hF z)
  replace hF := it_t hF z
  refine J_iload hX dL_law_496 1 rfl (t := 498) rfl ?_
  refine J_if_ne (tgt := 513) hX dL_law_498 (by decide) (t := 501) rfl (fun z2 => ?_) (fun z2 => ?_)
  · replace hF := Option.some.inj (it_f hF z2)
    subst hF
    refine J_goto (tgt := 3183) hX dL_law_513 (by decide) ?_
    refine J_sub (lc2 := [(4, .int i), (3, .ref (adr G 16 0)), (2, .ref (adr G 15 0)), (1, .ref (adr G 0 0)), (0, .ref b)]) [2, 3, 4, 5, 6] rfl ?_
    exact J_wid (Nat.add_le_add_left (m := 30) (n := 1) (Nat.le_of_ble_eq_true rfl) cells) (Nat.add_le_add_left (m := 3900) (n := 6) (Nat.le_of_ble_eq_true rfl) slots) (kk d0 hd0)
  · replace hF := it_t hF z2
    refine J_aload_n hX dL_law_501 3 rfl (t := 502) rfl ?_
    refine J_iconst (v := 0) hX dL_law_502 (by decide) (t := 503) rfl ?_
    refine J_lald (w := w2) (v := (w2 16).2 0 0) hX kOut (by decide) rfl dL_law_503 (t := 504) rfl ?_
    refine J_iload hX dL_law_504 0 rfl (t := 506) rfl ?_
    refine J_i2l hX dL_law_506 (t := 507) rfl ?_
    refine J_lcmp hX dL_law_507 (t := 508) rfl ?_
    refine J_if_eq (tgt := 513) hX dL_law_508 (by decide) (t := 511) rfl (fun z3 => ?_) (fun z3 => nomatch it_f hF z3)
    replace hF := Option.some.inj (it_t hF z3)
    subst hF
    refine J_goto (tgt := 3183) hX dL_law_513 (by decide) ?_
    refine J_sub (lc2 := [(4, .int i), (3, .ref (adr G 16 0)), (2, .ref (adr G 15 0)), (1, .ref (adr G 0 0)), (0, .ref b)]) [2, 3, 4, 5, 6] rfl ?_
    exact J_wid (Nat.add_le_add_left (m := 30) (n := 1) (Nat.le_of_ble_eq_true rfl) cells) (Nat.add_le_add_left (m := 3900) (n := 6) (Nat.le_of_ble_eq_true rfl) slots) (kk d0 hd0)
def FLc_3 (n : Nat) (w : Wd) (a1 a2 a3 a4 a5 : Int32) : Option Wd := bo2 (FL_runScript n w) fun k w1 => bo2 (FX13_runScript n w1) fun q w2 => if FX13_thrown w2 = k then (if k = 0 then (if lg_cmp ((w2 16).2 0 0) q.toInt64 = 0 then some w2 else none) else some w2) else none
set_option maxHeartbeats 4000000 in
theorem cs_3 {G : GG} {p : Program} {l : Launch} {e : Env} {s : State} {m : MethodId} {args : Array Value} {below : List Frame} {meth : Method} {c : Code} {b L : Nat} {xs : Nat → Int32} {Q : State → Prop} {cells slots n : Nat} {i a1 a2 a3 a4 a5 : Int32} {w w9 : Wd} (hW : LW G p l s m args c b L xs) (hA : ARG L xs i a1 a2 a3 a4 a5) (hc : cells + 30 ≤ room_1.cells) (hs9 : slots + 3900 ≤ room_1.slots) (hF : FLc_3 n w a1 a2 a3 a4 a5 = some w9) (kk : LJ G p l e s m args below meth c b Q (cells + 30) (slots + 3900) 3183 i w9) : LJ G p l e s m args below meth c b Q cells slots 516 i w := by
  intro d0 hd0
  obtain ⟨hX, hNC, hl, hs, hb⟩ := hW.drawn d0
  unfold FLc_3 at hF
  obtain ⟨k, w1, hk, hF⟩ := bo2_e hF
  obtain ⟨q, w2, hq, hF⟩ := bo2_e hF
  refine J_aload_n hX dL_law_516 3 rfl (t := 517) rfl ?_
  refine J_aload_n hX dL_law_517 1 rfl (t := 518) rfl ?_
  refine J_callSW hX hNC [.ref (adr G 0 0), .ref (adr G 16 0)] [] (ctL_runScript hl w  n hk) miL_runScript q_1220 q_1219 ⟨rfl, rfl, Nat.le_of_ble_eq_true rfl, Nat.le_of_ble_eq_true rfl⟩ rfl rfl (Nat.le_of_ble_eq_true rfl) ⟨Nat.le_trans (Nat.add_le_add_left (m := 30) (n := 1) (Nat.le_of_ble_eq_true rfl) cells) hc, Nat.le_trans (Nat.add_le_add_left (m := 3900) (n := 6) (Nat.le_of_ble_eq_true rfl) slots) hs9⟩ dL_law_518 (t := 521) rfl (fun v9 => J_pure fun hv9 => ?_)
  subst hv9
  refine J_istore (lc2 := [(5, .int k), (4, .int i), (3, .ref (adr G 16 0)), (2, .ref (adr G 15 0)), (1, .ref (adr G 0 0)), (0, .ref b)]) hX dL_law_521 (Nat.le_of_ble_eq_true rfl) rfl (t := 523) rfl ?_
  refine J_aload_n hX dL_law_523 3 rfl (t := 524) rfl ?_
  refine J_callV hX [] [] [.int q] (ctX13_runScript w1  n hq) miX13_runScript mvX13_runScript cb10 kModel q_2759 ⟨rfl, rfl, Nat.le_of_ble_eq_true rfl, Nat.le_of_ble_eq_true rfl⟩ rfl rfl (Nat.le_of_ble_eq_true rfl) ⟨Nat.le_trans (Nat.add_le_add_left (m := 30) (n := 1) (Nat.le_of_ble_eq_true rfl) cells) hc, Nat.le_trans (Nat.add_le_add_left (m := 3900) (n := 6) (Nat.le_of_ble_eq_true rfl) slots) hs9⟩ dL_law_524 (t := 527) rfl rfl ?_
  refine J_istore (lc2 := [(6, .int q), (5, .int k), (4, .int i), (3, .ref (adr G 16 0)), (2, .ref (adr G 15 0)), (1, .ref (adr G 0 0)), (0, .ref b)]) hX dL_law_527 (Nat.le_of_ble_eq_true rfl) rfl (t := 529) rfl ?_
  refine J_aload_n hX dL_law_529 4 rfl (t := 530) rfl ?_
  refine J_callV hX [] [] [.int (FX13_thrown w2)] (ctX13_thrown w2  rfl) miX13_thrown mvX13_thrown cb10 kModel q_2070 ⟨rfl, rfl, Nat.le_of_ble_eq_true rfl, Nat.le_of_ble_eq_true rfl⟩ rfl rfl (Nat.le_of_ble_eq_true rfl) ⟨Nat.le_trans (Nat.add_le_add_left (m := 30) (n := 1) (Nat.le_of_ble_eq_true rfl) cells) hc, Nat.le_trans (Nat.add_le_add_left (m := 3900) (n := 6) (Nat.le_of_ble_eq_true rfl) slots) hs9⟩ dL_law_530 (t := 533) rfl rfl ?_
  refine J_iload hX dL_law_533 1 rfl (t := 535) rfl ?_
  refine J_icmp_eq (tgt := 540) hX dL_law_535 (by decide) (t := 538) rfl (fun z => ?_) (fun z => nomatch it_f hF z)
  replace hF := it_t hF z
  refine J_iload hX dL_law_540 1 rfl (t := 542) rfl ?_
  refine J_if_ne (tgt := 557) hX dL_law_542 (by decide) (t := 545) rfl (fun z2 => ?_) (fun z2 => ?_)
  · replace hF := Option.some.inj (it_f hF z2)
    subst hF
    refine J_goto (tgt := 3183) hX dL_law_557 (by decide) ?_
    refine J_sub (lc2 := [(4, .int i), (3, .ref (adr G 16 0)), (2, .ref (adr G 15 0)), (1, .ref (adr G 0 0)), (0, .ref b)]) [2, 3, 4, 5, 6] rfl ?_
    exact J_wid (Nat.add_le_add_left (m := 30) (n := 1) (Nat.le_of_ble_eq_true rfl) cells) (Nat.add_le_add_left (m := 3900) (n := 6) (Nat.le_of_ble_eq_true rfl) slots) (kk d0 hd0)
  · replace hF := it_t hF z2
    refine J_aload_n hX dL_law_545 3 rfl (t := 546) rfl ?_
    refine J_iconst (v := 0) hX dL_law_546 (by decide) (t := 547) rfl ?_
    refine J_lald (w := w2) (v := (w2 16).2 0 0) hX kOut (by decide) rfl dL_law_547 (t := 548) rfl ?_
    refine J_iload hX dL_law_548 0 rfl (t := 550) rfl ?_
    refine J_i2l hX dL_law_550 (t := 551) rfl ?_
    refine J_lcmp hX dL_law_551 (t := 552) rfl ?_
    refine J_if_eq (tgt := 557) hX dL_law_552 (by decide) (t := 555) rfl (fun z3 => ?_) (fun z3 => nomatch it_f hF z3)
    replace hF := Option.some.inj (it_t hF z3)
    subst hF
    refine J_goto (tgt := 3183) hX dL_law_557 (by decide) ?_
    refine J_sub (lc2 := [(4, .int i), (3, .ref (adr G 16 0)), (2, .ref (adr G 15 0)), (1, .ref (adr G 0 0)), (0, .ref b)]) [2, 3, 4, 5, 6] rfl ?_
    exact J_wid (Nat.add_le_add_left (m := 30) (n := 1) (Nat.le_of_ble_eq_true rfl) cells) (Nat.add_le_add_left (m := 3900) (n := 6) (Nat.le_of_ble_eq_true rfl) slots) (kk d0 hd0)
def FLc_4 (n : Nat) (w : Wd) (a1 a2 a3 a4 a5 : Int32) : Option Wd := bnd (FX12_errorCode w) fun k => bnd2 (FX13_errorCode w) fun q w2 => if k = q then some w2 else none
set_option maxHeartbeats 4000000 in
theorem cs_4 {G : GG} {p : Program} {l : Launch} {e : Env} {s : State} {m : MethodId} {args : Array Value} {below : List Frame} {meth : Method} {c : Code} {b L : Nat} {xs : Nat → Int32} {Q : State → Prop} {cells slots n : Nat} {i a1 a2 a3 a4 a5 : Int32} {w w9 : Wd} (hW : LW G p l s m args c b L xs) (hA : ARG L xs i a1 a2 a3 a4 a5) (hc : cells + 30 ≤ room_1.cells) (hs9 : slots + 3900 ≤ room_1.slots) (hF : FLc_4 n w a1 a2 a3 a4 a5 = some w9) (kk : LJ G p l e s m args below meth c b Q (cells + 30) (slots + 3900) 3183 i w9) : LJ G p l e s m args below meth c b Q cells slots 560 i w := by
  intro d0 hd0
  obtain ⟨hX, hNC, hl, hs, hb⟩ := hW.drawn d0
  unfold FLc_4 at hF
  obtain ⟨k, hk, hF⟩ := bnd_e hF
  obtain ⟨q, w2, hq, hF⟩ := bnd2_e hF
  refine J_aload_n hX dL_law_560 3 rfl (t := 561) rfl ?_
  refine J_callV hX [] [] [.int k] (ctX12_errorCode w  hk) miX12_errorCode mvX12_errorCode cb9 kEcho q_590 ⟨rfl, rfl, Nat.le_of_ble_eq_true rfl, Nat.le_of_ble_eq_true rfl⟩ rfl rfl (Nat.le_of_ble_eq_true rfl) ⟨Nat.le_trans (Nat.add_le_add_left (m := 30) (n := 0) (Nat.le_of_ble_eq_true rfl) cells) hc, Nat.le_trans (Nat.add_le_add_left (m := 3900) (n := 0) (Nat.le_of_ble_eq_true rfl) slots) hs9⟩ dL_law_561 (t := 564) rfl rfl ?_
  refine J_aload_n hX dL_law_564 2 rfl (t := 565) rfl ?_
  refine J_callV hX [] [.int k] [.int q, .int k] (ctX13_errorCode w  hq) miX13_errorCode mvX13_errorCode cb10 kModel q_2096 ⟨rfl, rfl, Nat.le_of_ble_eq_true rfl, Nat.le_of_ble_eq_true rfl⟩ rfl rfl (Nat.le_of_ble_eq_true rfl) ⟨Nat.le_trans (Nat.add_le_add_left (m := 30) (n := 0) (Nat.le_of_ble_eq_true rfl) cells) hc, Nat.le_trans (Nat.add_le_add_left (m := 3900) (n := 0) (Nat.le_of_ble_eq_true rfl) slots) hs9⟩ dL_law_565 (t := 568) rfl rfl ?_
  refine J_icmp_eq (tgt := 3183) hX dL_law_568 (by decide) (t := 571) rfl (fun z => ?_) (fun z => nomatch it_f hF z)
  replace hF := Option.some.inj (it_t hF z)
  subst hF
  exact J_wid (Nat.le_add_right cells 30) (Nat.le_add_right slots 3900) (kk d0 hd0)
def FLc_5 (n : Nat) (w : Wd) (a1 a2 a3 a4 a5 : Int32) : Option Wd := bnd (FX12_errorOffset w) fun k => bnd2 (FX13_errorOffset w) fun q w2 => if k = q then some w2 else none
set_option maxHeartbeats 4000000 in
theorem cs_5 {G : GG} {p : Program} {l : Launch} {e : Env} {s : State} {m : MethodId} {args : Array Value} {below : List Frame} {meth : Method} {c : Code} {b L : Nat} {xs : Nat → Int32} {Q : State → Prop} {cells slots n : Nat} {i a1 a2 a3 a4 a5 : Int32} {w w9 : Wd} (hW : LW G p l s m args c b L xs) (hA : ARG L xs i a1 a2 a3 a4 a5) (hc : cells + 30 ≤ room_1.cells) (hs9 : slots + 3900 ≤ room_1.slots) (hF : FLc_5 n w a1 a2 a3 a4 a5 = some w9) (kk : LJ G p l e s m args below meth c b Q (cells + 30) (slots + 3900) 3183 i w9) : LJ G p l e s m args below meth c b Q cells slots 573 i w := by
  intro d0 hd0
  obtain ⟨hX, hNC, hl, hs, hb⟩ := hW.drawn d0
  unfold FLc_5 at hF
  obtain ⟨k, hk, hF⟩ := bnd_e hF
  obtain ⟨q, w2, hq, hF⟩ := bnd2_e hF
  refine J_aload_n hX dL_law_573 3 rfl (t := 574) rfl ?_
  refine J_callV hX [] [] [.int k] (ctX12_errorOffset w  hk) miX12_errorOffset mvX12_errorOffset cb9 kEcho q_594 ⟨rfl, rfl, Nat.le_of_ble_eq_true rfl, Nat.le_of_ble_eq_true rfl⟩ rfl rfl (Nat.le_of_ble_eq_true rfl) ⟨Nat.le_trans (Nat.add_le_add_left (m := 30) (n := 0) (Nat.le_of_ble_eq_true rfl) cells) hc, Nat.le_trans (Nat.add_le_add_left (m := 3900) (n := 0) (Nat.le_of_ble_eq_true rfl) slots) hs9⟩ dL_law_574 (t := 577) rfl rfl ?_
  refine J_aload_n hX dL_law_577 2 rfl (t := 578) rfl ?_
  refine J_callV hX [] [.int k] [.int q, .int k] (ctX13_errorOffset w  hq) miX13_errorOffset mvX13_errorOffset cb10 kModel q_2100 ⟨rfl, rfl, Nat.le_of_ble_eq_true rfl, Nat.le_of_ble_eq_true rfl⟩ rfl rfl (Nat.le_of_ble_eq_true rfl) ⟨Nat.le_trans (Nat.add_le_add_left (m := 30) (n := 0) (Nat.le_of_ble_eq_true rfl) cells) hc, Nat.le_trans (Nat.add_le_add_left (m := 3900) (n := 0) (Nat.le_of_ble_eq_true rfl) slots) hs9⟩ dL_law_578 (t := 581) rfl rfl ?_
  refine J_icmp_eq (tgt := 3183) hX dL_law_581 (by decide) (t := 584) rfl (fun z => ?_) (fun z => nomatch it_f hF z)
  replace hF := Option.some.inj (it_t hF z)
  subst hF
  exact J_wid (Nat.le_add_right cells 30) (Nat.le_add_right slots 3900) (kk d0 hd0)
def FLc_6 (n : Nat) (w : Wd) (a1 a2 a3 a4 a5 : Int32) : Option Wd := bnd (FX12_valleyCount w) fun k => bo2 (FX13_valleyCount w) fun q w2 => if k = q then some w2 else none
set_option maxHeartbeats 4000000 in
theorem cs_6 {G : GG} {p : Program} {l : Launch} {e : Env} {s : State} {m : MethodId} {args : Array Value} {below : List Frame} {meth : Method} {c : Code} {b L : Nat} {xs : Nat → Int32} {Q : State → Prop} {cells slots n : Nat} {i a1 a2 a3 a4 a5 : Int32} {w w9 : Wd} (hW : LW G p l s m args c b L xs) (hA : ARG L xs i a1 a2 a3 a4 a5) (hc : cells + 30 ≤ room_1.cells) (hs9 : slots + 3900 ≤ room_1.slots) (hF : FLc_6 n w a1 a2 a3 a4 a5 = some w9) (kk : LJ G p l e s m args below meth c b Q (cells + 30) (slots + 3900) 3183 i w9) : LJ G p l e s m args below meth c b Q cells slots 586 i w := by
  intro d0 hd0
  obtain ⟨hX, hNC, hl, hs, hb⟩ := hW.drawn d0
  unfold FLc_6 at hF
  obtain ⟨k, hk, hF⟩ := bnd_e hF
  obtain ⟨q, w2, hq, hF⟩ := bo2_e hF
  refine J_aload_n hX dL_law_586 3 rfl (t := 587) rfl ?_
  refine J_callV hX [] [] [.int k] (ctX12_valleyCount w  hk) miX12_valleyCount mvX12_valleyCount cb9 kEcho q_598 ⟨rfl, rfl, Nat.le_of_ble_eq_true rfl, Nat.le_of_ble_eq_true rfl⟩ rfl rfl (Nat.le_of_ble_eq_true rfl) ⟨Nat.le_trans (Nat.add_le_add_left (m := 30) (n := 0) (Nat.le_of_ble_eq_true rfl) cells) hc, Nat.le_trans (Nat.add_le_add_left (m := 3900) (n := 0) (Nat.le_of_ble_eq_true rfl) slots) hs9⟩ dL_law_587 (t := 590) rfl rfl ?_
  refine J_aload_n hX dL_law_590 2 rfl (t := 591) rfl ?_
  refine J_callV hX [] [.int k] [.int q, .int k] (ctX13_valleyCount w  hq) miX13_valleyCount mvX13_valleyCount cb10 kModel q_2475 ⟨rfl, rfl, Nat.le_of_ble_eq_true rfl, Nat.le_of_ble_eq_true rfl⟩ rfl rfl (Nat.le_of_ble_eq_true rfl) ⟨Nat.le_trans (Nat.add_le_add_left (m := 30) (n := 0) (Nat.le_of_ble_eq_true rfl) cells) hc, Nat.le_trans (Nat.add_le_add_left (m := 3900) (n := 0) (Nat.le_of_ble_eq_true rfl) slots) hs9⟩ dL_law_591 (t := 594) rfl rfl ?_
  refine J_icmp_eq (tgt := 3183) hX dL_law_594 (by decide) (t := 597) rfl (fun z => ?_) (fun z => nomatch it_f hF z)
  replace hF := Option.some.inj (it_t hF z)
  subst hF
  exact J_wid (Nat.le_add_right cells 30) (Nat.le_add_right slots 3900) (kk d0 hd0)
def FLc_7 (n : Nat) (w : Wd) (a1 a2 a3 a4 a5 : Int32) : Option Wd := bnd (FX12_customerCount w) fun k => bo2 (FX13_customerCount w) fun q w2 => if k = q then some w2 else none
set_option maxHeartbeats 4000000 in
theorem cs_7 {G : GG} {p : Program} {l : Launch} {e : Env} {s : State} {m : MethodId} {args : Array Value} {below : List Frame} {meth : Method} {c : Code} {b L : Nat} {xs : Nat → Int32} {Q : State → Prop} {cells slots n : Nat} {i a1 a2 a3 a4 a5 : Int32} {w w9 : Wd} (hW : LW G p l s m args c b L xs) (hA : ARG L xs i a1 a2 a3 a4 a5) (hc : cells + 30 ≤ room_1.cells) (hs9 : slots + 3900 ≤ room_1.slots) (hF : FLc_7 n w a1 a2 a3 a4 a5 = some w9) (kk : LJ G p l e s m args below meth c b Q (cells + 30) (slots + 3900) 3183 i w9) : LJ G p l e s m args below meth c b Q cells slots 599 i w := by
  intro d0 hd0
  obtain ⟨hX, hNC, hl, hs, hb⟩ := hW.drawn d0
  unfold FLc_7 at hF
  obtain ⟨k, hk, hF⟩ := bnd_e hF
  obtain ⟨q, w2, hq, hF⟩ := bo2_e hF
  refine J_aload_n hX dL_law_599 3 rfl (t := 600) rfl ?_
  refine J_callV hX [] [] [.int k] (ctX12_customerCount w  hk) miX12_customerCount mvX12_customerCount cb9 kEcho q_602 ⟨rfl, rfl, Nat.le_of_ble_eq_true rfl, Nat.le_of_ble_eq_true rfl⟩ rfl rfl (Nat.le_of_ble_eq_true rfl) ⟨Nat.le_trans (Nat.add_le_add_left (m := 30) (n := 0) (Nat.le_of_ble_eq_true rfl) cells) hc, Nat.le_trans (Nat.add_le_add_left (m := 3900) (n := 0) (Nat.le_of_ble_eq_true rfl) slots) hs9⟩ dL_law_600 (t := 603) rfl rfl ?_
  refine J_aload_n hX dL_law_603 2 rfl (t := 604) rfl ?_
  refine J_callV hX [] [.int k] [.int q, .int k] (ctX13_customerCount w  hq) miX13_customerCount mvX13_customerCount cb10 kModel q_2483 ⟨rfl, rfl, Nat.le_of_ble_eq_true rfl, Nat.le_of_ble_eq_true rfl⟩ rfl rfl (Nat.le_of_ble_eq_true rfl) ⟨Nat.le_trans (Nat.add_le_add_left (m := 30) (n := 0) (Nat.le_of_ble_eq_true rfl) cells) hc, Nat.le_trans (Nat.add_le_add_left (m := 3900) (n := 0) (Nat.le_of_ble_eq_true rfl) slots) hs9⟩ dL_law_604 (t := 607) rfl rfl ?_
  refine J_icmp_eq (tgt := 3183) hX dL_law_607 (by decide) (t := 610) rfl (fun z => ?_) (fun z => nomatch it_f hF z)
  replace hF := Option.some.inj (it_t hF z)
  subst hF
  exact J_wid (Nat.le_add_right cells 30) (Nat.le_add_right slots 3900) (kk d0 hd0)
def FLc_8 (n : Nat) (w : Wd) (a1 a2 a3 a4 a5 : Int32) : Option Wd := bnd (FX12_shoutCount w) fun k => bo2 (FX13_shoutCount w) fun q w2 => if k = q then some w2 else none
set_option maxHeartbeats 4000000 in
theorem cs_8 {G : GG} {p : Program} {l : Launch} {e : Env} {s : State} {m : MethodId} {args : Array Value} {below : List Frame} {meth : Method} {c : Code} {b L : Nat} {xs : Nat → Int32} {Q : State → Prop} {cells slots n : Nat} {i a1 a2 a3 a4 a5 : Int32} {w w9 : Wd} (hW : LW G p l s m args c b L xs) (hA : ARG L xs i a1 a2 a3 a4 a5) (hc : cells + 30 ≤ room_1.cells) (hs9 : slots + 3900 ≤ room_1.slots) (hF : FLc_8 n w a1 a2 a3 a4 a5 = some w9) (kk : LJ G p l e s m args below meth c b Q (cells + 30) (slots + 3900) 3183 i w9) : LJ G p l e s m args below meth c b Q cells slots 612 i w := by
  intro d0 hd0
  obtain ⟨hX, hNC, hl, hs, hb⟩ := hW.drawn d0
  unfold FLc_8 at hF
  obtain ⟨k, hk, hF⟩ := bnd_e hF
  obtain ⟨q, w2, hq, hF⟩ := bo2_e hF
  refine J_aload_n hX dL_law_612 3 rfl (t := 613) rfl ?_
  refine J_callV hX [] [] [.int k] (ctX12_shoutCount w  hk) miX12_shoutCount mvX12_shoutCount cb9 kEcho q_606 ⟨rfl, rfl, Nat.le_of_ble_eq_true rfl, Nat.le_of_ble_eq_true rfl⟩ rfl rfl (Nat.le_of_ble_eq_true rfl) ⟨Nat.le_trans (Nat.add_le_add_left (m := 30) (n := 0) (Nat.le_of_ble_eq_true rfl) cells) hc, Nat.le_trans (Nat.add_le_add_left (m := 3900) (n := 0) (Nat.le_of_ble_eq_true rfl) slots) hs9⟩ dL_law_613 (t := 616) rfl rfl ?_
  refine J_aload_n hX dL_law_616 2 rfl (t := 617) rfl ?_
  refine J_callV hX [] [.int k] [.int q, .int k] (ctX13_shoutCount w  hq) miX13_shoutCount mvX13_shoutCount cb10 kModel q_2487 ⟨rfl, rfl, Nat.le_of_ble_eq_true rfl, Nat.le_of_ble_eq_true rfl⟩ rfl rfl (Nat.le_of_ble_eq_true rfl) ⟨Nat.le_trans (Nat.add_le_add_left (m := 30) (n := 0) (Nat.le_of_ble_eq_true rfl) cells) hc, Nat.le_trans (Nat.add_le_add_left (m := 3900) (n := 0) (Nat.le_of_ble_eq_true rfl) slots) hs9⟩ dL_law_617 (t := 620) rfl rfl ?_
  refine J_icmp_eq (tgt := 3183) hX dL_law_620 (by decide) (t := 623) rfl (fun z => ?_) (fun z => nomatch it_f hF z)
  replace hF := Option.some.inj (it_t hF z)
  subst hF
  exact J_wid (Nat.le_add_right cells 30) (Nat.le_add_right slots 3900) (kk d0 hd0)
def FLc_9 (n : Nat) (w : Wd) (a1 a2 a3 a4 a5 : Int32) : Option Wd := bnd (FX12_time w) fun k => bo2 (FX13_time w) fun q w2 => if k = q then some w2 else none
set_option maxHeartbeats 4000000 in
theorem cs_9 {G : GG} {p : Program} {l : Launch} {e : Env} {s : State} {m : MethodId} {args : Array Value} {below : List Frame} {meth : Method} {c : Code} {b L : Nat} {xs : Nat → Int32} {Q : State → Prop} {cells slots n : Nat} {i a1 a2 a3 a4 a5 : Int32} {w w9 : Wd} (hW : LW G p l s m args c b L xs) (hA : ARG L xs i a1 a2 a3 a4 a5) (hc : cells + 30 ≤ room_1.cells) (hs9 : slots + 3900 ≤ room_1.slots) (hF : FLc_9 n w a1 a2 a3 a4 a5 = some w9) (kk : LJ G p l e s m args below meth c b Q (cells + 30) (slots + 3900) 3183 i w9) : LJ G p l e s m args below meth c b Q cells slots 625 i w := by
  intro d0 hd0
  obtain ⟨hX, hNC, hl, hs, hb⟩ := hW.drawn d0
  unfold FLc_9 at hF
  obtain ⟨k, hk, hF⟩ := bnd_e hF
  obtain ⟨q, w2, hq, hF⟩ := bo2_e hF
  refine J_aload_n hX dL_law_625 3 rfl (t := 626) rfl ?_
  refine J_callV hX [] [] [.int k] (ctX12_time w  hk) miX12_time mvX12_time cb9 kEcho q_610 ⟨rfl, rfl, Nat.le_of_ble_eq_true rfl, Nat.le_of_ble_eq_true rfl⟩ rfl rfl (Nat.le_of_ble_eq_true rfl) ⟨Nat.le_trans (Nat.add_le_add_left (m := 30) (n := 0) (Nat.le_of_ble_eq_true rfl) cells) hc, Nat.le_trans (Nat.add_le_add_left (m := 3900) (n := 0) (Nat.le_of_ble_eq_true rfl) slots) hs9⟩ dL_law_626 (t := 629) rfl rfl ?_
  refine J_aload_n hX dL_law_629 2 rfl (t := 630) rfl ?_
  refine J_callV hX [] [.int k] [.int q, .int k] (ctX13_time w  hq) miX13_time mvX13_time cb10 kModel q_2491 ⟨rfl, rfl, Nat.le_of_ble_eq_true rfl, Nat.le_of_ble_eq_true rfl⟩ rfl rfl (Nat.le_of_ble_eq_true rfl) ⟨Nat.le_trans (Nat.add_le_add_left (m := 30) (n := 0) (Nat.le_of_ble_eq_true rfl) cells) hc, Nat.le_trans (Nat.add_le_add_left (m := 3900) (n := 0) (Nat.le_of_ble_eq_true rfl) slots) hs9⟩ dL_law_630 (t := 633) rfl rfl ?_
  refine J_icmp_eq (tgt := 3183) hX dL_law_633 (by decide) (t := 636) rfl (fun z => ?_) (fun z => nomatch it_f hF z)
  replace hF := Option.some.inj (it_t hF z)
  subst hF
  exact J_wid (Nat.le_add_right cells 30) (Nat.le_add_right slots 3900) (kk d0 hd0)
def FLc_10 (n : Nat) (w : Wd) (a1 a2 a3 a4 a5 : Int32) : Option Wd := bnd (FX12_earned w) fun k => bo2 (FX13_earned w) fun q w2 => if k = q then some w2 else none
set_option maxHeartbeats 4000000 in
theorem cs_10 {G : GG} {p : Program} {l : Launch} {e : Env} {s : State} {m : MethodId} {args : Array Value} {below : List Frame} {meth : Method} {c : Code} {b L : Nat} {xs : Nat → Int32} {Q : State → Prop} {cells slots n : Nat} {i a1 a2 a3 a4 a5 : Int32} {w w9 : Wd} (hW : LW G p l s m args c b L xs) (hA : ARG L xs i a1 a2 a3 a4 a5) (hc : cells + 30 ≤ room_1.cells) (hs9 : slots + 3900 ≤ room_1.slots) (hF : FLc_10 n w a1 a2 a3 a4 a5 = some w9) (kk : LJ G p l e s m args below meth c b Q (cells + 30) (slots + 3900) 3183 i w9) : LJ G p l e s m args below meth c b Q cells slots 638 i w := by
  intro d0 hd0
  obtain ⟨hX, hNC, hl, hs, hb⟩ := hW.drawn d0
  unfold FLc_10 at hF
  obtain ⟨k, hk, hF⟩ := bnd_e hF
  obtain ⟨q, w2, hq, hF⟩ := bo2_e hF
  refine J_aload_n hX dL_law_638 3 rfl (t := 639) rfl ?_
  refine J_callV hX [] [] [.int k] (ctX12_earned w  hk) miX12_earned mvX12_earned cb9 kEcho q_614 ⟨rfl, rfl, Nat.le_of_ble_eq_true rfl, Nat.le_of_ble_eq_true rfl⟩ rfl rfl (Nat.le_of_ble_eq_true rfl) ⟨Nat.le_trans (Nat.add_le_add_left (m := 30) (n := 0) (Nat.le_of_ble_eq_true rfl) cells) hc, Nat.le_trans (Nat.add_le_add_left (m := 3900) (n := 0) (Nat.le_of_ble_eq_true rfl) slots) hs9⟩ dL_law_639 (t := 642) rfl rfl ?_
  refine J_aload_n hX dL_law_642 2 rfl (t := 643) rfl ?_
  refine J_callV hX [] [.int k] [.int q, .int k] (ctX13_earned w  hq) miX13_earned mvX13_earned cb10 kModel q_2495 ⟨rfl, rfl, Nat.le_of_ble_eq_true rfl, Nat.le_of_ble_eq_true rfl⟩ rfl rfl (Nat.le_of_ble_eq_true rfl) ⟨Nat.le_trans (Nat.add_le_add_left (m := 30) (n := 0) (Nat.le_of_ble_eq_true rfl) cells) hc, Nat.le_trans (Nat.add_le_add_left (m := 3900) (n := 0) (Nat.le_of_ble_eq_true rfl) slots) hs9⟩ dL_law_643 (t := 646) rfl rfl ?_
  refine J_icmp_eq (tgt := 3183) hX dL_law_646 (by decide) (t := 649) rfl (fun z => ?_) (fun z => nomatch it_f hF z)
  replace hF := Option.some.inj (it_t hF z)
  subst hF
  exact J_wid (Nat.le_add_right cells 30) (Nat.le_add_right slots 3900) (kk d0 hd0)
def FLc_11 (n : Nat) (w : Wd) (a1 a2 a3 a4 a5 : Int32) : Option Wd := bnd (FX12_refunded w) fun k => bo2 (FX13_refunded w) fun q w2 => if k = q then some w2 else none
set_option maxHeartbeats 4000000 in
theorem cs_11 {G : GG} {p : Program} {l : Launch} {e : Env} {s : State} {m : MethodId} {args : Array Value} {below : List Frame} {meth : Method} {c : Code} {b L : Nat} {xs : Nat → Int32} {Q : State → Prop} {cells slots n : Nat} {i a1 a2 a3 a4 a5 : Int32} {w w9 : Wd} (hW : LW G p l s m args c b L xs) (hA : ARG L xs i a1 a2 a3 a4 a5) (hc : cells + 30 ≤ room_1.cells) (hs9 : slots + 3900 ≤ room_1.slots) (hF : FLc_11 n w a1 a2 a3 a4 a5 = some w9) (kk : LJ G p l e s m args below meth c b Q (cells + 30) (slots + 3900) 3183 i w9) : LJ G p l e s m args below meth c b Q cells slots 651 i w := by
  intro d0 hd0
  obtain ⟨hX, hNC, hl, hs, hb⟩ := hW.drawn d0
  unfold FLc_11 at hF
  obtain ⟨k, hk, hF⟩ := bnd_e hF
  obtain ⟨q, w2, hq, hF⟩ := bo2_e hF
  refine J_aload_n hX dL_law_651 3 rfl (t := 652) rfl ?_
  refine J_callV hX [] [] [.int k] (ctX12_refunded w  hk) miX12_refunded mvX12_refunded cb9 kEcho q_618 ⟨rfl, rfl, Nat.le_of_ble_eq_true rfl, Nat.le_of_ble_eq_true rfl⟩ rfl rfl (Nat.le_of_ble_eq_true rfl) ⟨Nat.le_trans (Nat.add_le_add_left (m := 30) (n := 0) (Nat.le_of_ble_eq_true rfl) cells) hc, Nat.le_trans (Nat.add_le_add_left (m := 3900) (n := 0) (Nat.le_of_ble_eq_true rfl) slots) hs9⟩ dL_law_652 (t := 655) rfl rfl ?_
  refine J_aload_n hX dL_law_655 2 rfl (t := 656) rfl ?_
  refine J_callV hX [] [.int k] [.int q, .int k] (ctX13_refunded w  hq) miX13_refunded mvX13_refunded cb10 kModel q_2499 ⟨rfl, rfl, Nat.le_of_ble_eq_true rfl, Nat.le_of_ble_eq_true rfl⟩ rfl rfl (Nat.le_of_ble_eq_true rfl) ⟨Nat.le_trans (Nat.add_le_add_left (m := 30) (n := 0) (Nat.le_of_ble_eq_true rfl) cells) hc, Nat.le_trans (Nat.add_le_add_left (m := 3900) (n := 0) (Nat.le_of_ble_eq_true rfl) slots) hs9⟩ dL_law_656 (t := 659) rfl rfl ?_
  refine J_icmp_eq (tgt := 3183) hX dL_law_659 (by decide) (t := 662) rfl (fun z => ?_) (fun z => nomatch it_f hF z)
  replace hF := Option.some.inj (it_t hF z)
  subst hF
  exact J_wid (Nat.le_add_right cells 30) (Nat.le_add_right slots 3900) (kk d0 hd0)
def FLc_12 (n : Nat) (w : Wd) (a1 a2 a3 a4 a5 : Int32) : Option Wd := bnd (FX12_held w) fun k => bo2 (FX13_held n w) fun q w2 => if k = q then some w2 else none
set_option maxHeartbeats 4000000 in
theorem cs_12 {G : GG} {p : Program} {l : Launch} {e : Env} {s : State} {m : MethodId} {args : Array Value} {below : List Frame} {meth : Method} {c : Code} {b L : Nat} {xs : Nat → Int32} {Q : State → Prop} {cells slots n : Nat} {i a1 a2 a3 a4 a5 : Int32} {w w9 : Wd} (hW : LW G p l s m args c b L xs) (hA : ARG L xs i a1 a2 a3 a4 a5) (hc : cells + 30 ≤ room_1.cells) (hs9 : slots + 3900 ≤ room_1.slots) (hF : FLc_12 n w a1 a2 a3 a4 a5 = some w9) (kk : LJ G p l e s m args below meth c b Q (cells + 30) (slots + 3900) 3183 i w9) : LJ G p l e s m args below meth c b Q cells slots 664 i w := by
  intro d0 hd0
  obtain ⟨hX, hNC, hl, hs, hb⟩ := hW.drawn d0
  unfold FLc_12 at hF
  obtain ⟨k, hk, hF⟩ := bnd_e hF
  obtain ⟨q, w2, hq, hF⟩ := bo2_e hF
  refine J_aload_n hX dL_law_664 3 rfl (t := 665) rfl ?_
  refine J_callV hX [] [] [.int k] (ctX12_held w  hk) miX12_held mvX12_held cb9 kEcho q_622 ⟨rfl, rfl, Nat.le_of_ble_eq_true rfl, Nat.le_of_ble_eq_true rfl⟩ rfl rfl (Nat.le_of_ble_eq_true rfl) ⟨Nat.le_trans (Nat.add_le_add_left (m := 30) (n := 0) (Nat.le_of_ble_eq_true rfl) cells) hc, Nat.le_trans (Nat.add_le_add_left (m := 3900) (n := 0) (Nat.le_of_ble_eq_true rfl) slots) hs9⟩ dL_law_665 (t := 668) rfl rfl ?_
  refine J_aload_n hX dL_law_668 2 rfl (t := 669) rfl ?_
  refine J_callV hX [] [.int k] [.int q, .int k] (ctX13_held w  n hq) miX13_held mvX13_held cb10 kModel q_2503 ⟨rfl, rfl, Nat.le_of_ble_eq_true rfl, Nat.le_of_ble_eq_true rfl⟩ rfl rfl (Nat.le_of_ble_eq_true rfl) ⟨Nat.le_trans (Nat.add_le_add_left (m := 30) (n := 0) (Nat.le_of_ble_eq_true rfl) cells) hc, Nat.le_trans (Nat.add_le_add_left (m := 3900) (n := 0) (Nat.le_of_ble_eq_true rfl) slots) hs9⟩ dL_law_669 (t := 672) rfl rfl ?_
  refine J_icmp_eq (tgt := 3183) hX dL_law_672 (by decide) (t := 675) rfl (fun z => ?_) (fun z => nomatch it_f hF z)
  replace hF := Option.some.inj (it_t hF z)
  subst hF
  exact J_wid (Nat.le_add_right cells 30) (Nat.le_add_right slots 3900) (kk d0 hd0)
def FLc_13 (n : Nat) (w : Wd) (a1 a2 a3 a4 a5 : Int32) : Option Wd := bnd (FX12_wellDepth w) fun k => bo2 (FX13_wellDepth w) fun q w2 => if k = q then some w2 else none
set_option maxHeartbeats 4000000 in
theorem cs_13 {G : GG} {p : Program} {l : Launch} {e : Env} {s : State} {m : MethodId} {args : Array Value} {below : List Frame} {meth : Method} {c : Code} {b L : Nat} {xs : Nat → Int32} {Q : State → Prop} {cells slots n : Nat} {i a1 a2 a3 a4 a5 : Int32} {w w9 : Wd} (hW : LW G p l s m args c b L xs) (hA : ARG L xs i a1 a2 a3 a4 a5) (hc : cells + 30 ≤ room_1.cells) (hs9 : slots + 3900 ≤ room_1.slots) (hF : FLc_13 n w a1 a2 a3 a4 a5 = some w9) (kk : LJ G p l e s m args below meth c b Q (cells + 30) (slots + 3900) 3183 i w9) : LJ G p l e s m args below meth c b Q cells slots 677 i w := by
  intro d0 hd0
  obtain ⟨hX, hNC, hl, hs, hb⟩ := hW.drawn d0
  unfold FLc_13 at hF
  obtain ⟨k, hk, hF⟩ := bnd_e hF
  obtain ⟨q, w2, hq, hF⟩ := bo2_e hF
  refine J_aload_n hX dL_law_677 3 rfl (t := 678) rfl ?_
  refine J_callV hX [] [] [.int k] (ctX12_wellDepth w  hk) miX12_wellDepth mvX12_wellDepth cb9 kEcho q_626 ⟨rfl, rfl, Nat.le_of_ble_eq_true rfl, Nat.le_of_ble_eq_true rfl⟩ rfl rfl (Nat.le_of_ble_eq_true rfl) ⟨Nat.le_trans (Nat.add_le_add_left (m := 30) (n := 0) (Nat.le_of_ble_eq_true rfl) cells) hc, Nat.le_trans (Nat.add_le_add_left (m := 3900) (n := 0) (Nat.le_of_ble_eq_true rfl) slots) hs9⟩ dL_law_678 (t := 681) rfl rfl ?_
  refine J_aload_n hX dL_law_681 2 rfl (t := 682) rfl ?_
  refine J_callV hX [] [.int k] [.int q, .int k] (ctX13_wellDepth w  hq) miX13_wellDepth mvX13_wellDepth cb10 kModel q_2511 ⟨rfl, rfl, Nat.le_of_ble_eq_true rfl, Nat.le_of_ble_eq_true rfl⟩ rfl rfl (Nat.le_of_ble_eq_true rfl) ⟨Nat.le_trans (Nat.add_le_add_left (m := 30) (n := 0) (Nat.le_of_ble_eq_true rfl) cells) hc, Nat.le_trans (Nat.add_le_add_left (m := 3900) (n := 0) (Nat.le_of_ble_eq_true rfl) slots) hs9⟩ dL_law_682 (t := 685) rfl rfl ?_
  refine J_icmp_eq (tgt := 3183) hX dL_law_685 (by decide) (t := 688) rfl (fun z => ?_) (fun z => nomatch it_f hF z)
  replace hF := Option.some.inj (it_t hF z)
  subst hF
  exact J_wid (Nat.le_add_right cells 30) (Nat.le_add_right slots 3900) (kk d0 hd0)
def FLc_14 (n : Nat) (w : Wd) (a1 a2 a3 a4 a5 : Int32) : Option Wd := bo1 (FX12_openShouts n w) fun k => bo2 (FX13_openShouts n w) fun q w2 => if k = q then some w2 else none
set_option maxHeartbeats 4000000 in
theorem cs_14 {G : GG} {p : Program} {l : Launch} {e : Env} {s : State} {m : MethodId} {args : Array Value} {below : List Frame} {meth : Method} {c : Code} {b L : Nat} {xs : Nat → Int32} {Q : State → Prop} {cells slots n : Nat} {i a1 a2 a3 a4 a5 : Int32} {w w9 : Wd} (hW : LW G p l s m args c b L xs) (hA : ARG L xs i a1 a2 a3 a4 a5) (hc : cells + 30 ≤ room_1.cells) (hs9 : slots + 3900 ≤ room_1.slots) (hF : FLc_14 n w a1 a2 a3 a4 a5 = some w9) (kk : LJ G p l e s m args below meth c b Q (cells + 30) (slots + 3900) 3183 i w9) : LJ G p l e s m args below meth c b Q cells slots 690 i w := by
  intro d0 hd0
  obtain ⟨hX, hNC, hl, hs, hb⟩ := hW.drawn d0
  unfold FLc_14 at hF
  obtain ⟨k, hk, hF⟩ := bo1_e hF
  obtain ⟨q, w2, hq, hF⟩ := bo2_e hF
  refine J_aload_n hX dL_law_690 3 rfl (t := 691) rfl ?_
  refine J_callV hX [] [] [.int k] (ctX12_openShouts w  n hk) miX12_openShouts mvX12_openShouts cb9 kEcho q_630 ⟨rfl, rfl, Nat.le_of_ble_eq_true rfl, Nat.le_of_ble_eq_true rfl⟩ rfl rfl (Nat.le_of_ble_eq_true rfl) ⟨Nat.le_trans (Nat.add_le_add_left (m := 30) (n := 0) (Nat.le_of_ble_eq_true rfl) cells) hc, Nat.le_trans (Nat.add_le_add_left (m := 3900) (n := 0) (Nat.le_of_ble_eq_true rfl) slots) hs9⟩ dL_law_691 (t := 694) rfl rfl ?_
  refine J_aload_n hX dL_law_694 2 rfl (t := 695) rfl ?_
  refine J_callV hX [] [.int k] [.int q, .int k] (ctX13_openShouts w  n hq) miX13_openShouts mvX13_openShouts cb10 kModel q_2515 ⟨rfl, rfl, Nat.le_of_ble_eq_true rfl, Nat.le_of_ble_eq_true rfl⟩ rfl rfl (Nat.le_of_ble_eq_true rfl) ⟨Nat.le_trans (Nat.add_le_add_left (m := 30) (n := 0) (Nat.le_of_ble_eq_true rfl) cells) hc, Nat.le_trans (Nat.add_le_add_left (m := 3900) (n := 0) (Nat.le_of_ble_eq_true rfl) slots) hs9⟩ dL_law_695 (t := 698) rfl rfl ?_
  refine J_icmp_eq (tgt := 3183) hX dL_law_698 (by decide) (t := 701) rfl (fun z => ?_) (fun z => nomatch it_f hF z)
  replace hF := Option.some.inj (it_t hF z)
  subst hF
  exact J_wid (Nat.le_add_right cells 30) (Nat.le_add_right slots 3900) (kk d0 hd0)
def FLc_15 (n : Nat) (w : Wd) (a1 a2 a3 a4 a5 : Int32) : Option Wd := bo2 (FL_valleyByte w a1 a2) fun k w1 => bo2 (FX13_valleyByte n w1 a1 a2) fun q w2 => if FX13_thrown w2 = k then (if k = 0 then (if lg_cmp ((w2 16).2 0 0) q.toInt64 = 0 then some w2 else none) else some w2) else none
set_option maxHeartbeats 4000000 in
theorem cs_15 {G : GG} {p : Program} {l : Launch} {e : Env} {s : State} {m : MethodId} {args : Array Value} {below : List Frame} {meth : Method} {c : Code} {b L : Nat} {xs : Nat → Int32} {Q : State → Prop} {cells slots n : Nat} {i a1 a2 a3 a4 a5 : Int32} {w w9 : Wd} (hW : LW G p l s m args c b L xs) (hA : ARG L xs i a1 a2 a3 a4 a5) (hc : cells + 30 ≤ room_1.cells) (hs9 : slots + 3900 ≤ room_1.slots) (hF : FLc_15 n w a1 a2 a3 a4 a5 = some w9) (kk : LJ G p l e s m args below meth c b Q (cells + 30) (slots + 3900) 3183 i w9) : LJ G p l e s m args below meth c b Q cells slots 703 i w := by
  intro d0 hd0
  obtain ⟨hX, hNC, hl, hs, hb⟩ := hW.drawn d0
  unfold FLc_15 at hF
  obtain ⟨k, w1, hk, hF⟩ := bo2_e hF
  obtain ⟨q, w2, hq, hF⟩ := bo2_e hF
  refine J_aload_n hX dL_law_703 3 rfl (t := 704) rfl ?_
  refine J_aload_n hX dL_law_704 4 rfl (t := 705) rfl ?_
  refine J_iload hX dL_law_705 0 rfl (t := 707) rfl ?_
  refine J_iconst (v := 1) hX dL_law_707 (by decide) (t := 708) rfl ?_
  refine J_iadd hX dL_law_708 (t := 709) rfl ?_
  refine J_sld hX hs hb hA.1.1 hA.1.2 dL_law_709 (t := 710) rfl ?_
  refine J_aload_n hX dL_law_710 4 rfl (t := 711) rfl ?_
  refine J_iload hX dL_law_711 0 rfl (t := 713) rfl ?_
  refine J_iconst (v := 2) hX dL_law_713 (by decide) (t := 714) rfl ?_
  refine J_iadd hX dL_law_714 (t := 715) rfl ?_
  refine J_sld hX hs hb hA.2.1.1 hA.2.1.2 dL_law_715 (t := 716) rfl ?_
  refine J_aload_n hX dL_law_716 1 rfl (t := 717) rfl ?_
  refine J_callSW hX hNC [.ref (adr G 0 0), .int a1, .int a2, .ref (adr G 16 0)] [] (ctL_valleyByte hl w a1 a2 hk) miL_valleyByte q_1313 q_1312 ⟨rfl, rfl, Nat.le_of_ble_eq_true rfl, Nat.le_of_ble_eq_true rfl⟩ rfl rfl (Nat.le_of_ble_eq_true rfl) ⟨Nat.le_trans (Nat.add_le_add_left (m := 30) (n := 1) (Nat.le_of_ble_eq_true rfl) cells) hc, Nat.le_trans (Nat.add_le_add_left (m := 3900) (n := 6) (Nat.le_of_ble_eq_true rfl) slots) hs9⟩ dL_law_717 (t := 720) rfl (fun v9 => J_pure fun hv9 => ?_)
  subst hv9
  refine J_istore (lc2 := [(5, .int k), (4, .int i), (3, .ref (adr G 16 0)), (2, .ref (adr G 15 0)), (1, .ref (adr G 0 0)), (0, .ref b)]) hX dL_law_720 (Nat.le_of_ble_eq_true rfl) rfl (t := 722) rfl ?_
  refine J_aload_n hX dL_law_722 3 rfl (t := 723) rfl ?_
  refine J_aload_n hX dL_law_723 5 rfl (t := 724) rfl ?_
  refine J_iload hX dL_law_724 1 rfl (t := 726) rfl ?_
  refine J_iconst (v := 1) hX dL_law_726 (by decide) (t := 727) rfl ?_
  refine J_iadd hX dL_law_727 (t := 728) rfl ?_
  refine J_sld hX hs hb hA.1.1 hA.1.2 dL_law_728 (t := 729) rfl ?_
  refine J_aload_n hX dL_law_729 5 rfl (t := 730) rfl ?_
  refine J_iload hX dL_law_730 1 rfl (t := 732) rfl ?_
  refine J_iconst (v := 2) hX dL_law_732 (by decide) (t := 733) rfl ?_
  refine J_iadd hX dL_law_733 (t := 734) rfl ?_
  refine J_sld hX hs hb hA.2.1.1 hA.2.1.2 dL_law_734 (t := 735) rfl ?_
  refine J_callV hX [.int a1, .int a2] [] [.int q] (ctX13_valleyByte w1 a1 a2 n hq) miX13_valleyByte mvX13_valleyByte cb10 kModel q_2519 ⟨rfl, rfl, Nat.le_of_ble_eq_true rfl, Nat.le_of_ble_eq_true rfl⟩ rfl rfl (Nat.le_of_ble_eq_true rfl) ⟨Nat.le_trans (Nat.add_le_add_left (m := 30) (n := 1) (Nat.le_of_ble_eq_true rfl) cells) hc, Nat.le_trans (Nat.add_le_add_left (m := 3900) (n := 6) (Nat.le_of_ble_eq_true rfl) slots) hs9⟩ dL_law_735 (t := 738) rfl rfl ?_
  refine J_istore (lc2 := [(6, .int q), (5, .int k), (4, .int i), (3, .ref (adr G 16 0)), (2, .ref (adr G 15 0)), (1, .ref (adr G 0 0)), (0, .ref b)]) hX dL_law_738 (Nat.le_of_ble_eq_true rfl) rfl (t := 740) rfl ?_
  refine J_aload_n hX dL_law_740 4 rfl (t := 741) rfl ?_
  refine J_callV hX [] [] [.int (FX13_thrown w2)] (ctX13_thrown w2  rfl) miX13_thrown mvX13_thrown cb10 kModel q_2070 ⟨rfl, rfl, Nat.le_of_ble_eq_true rfl, Nat.le_of_ble_eq_true rfl⟩ rfl rfl (Nat.le_of_ble_eq_true rfl) ⟨Nat.le_trans (Nat.add_le_add_left (m := 30) (n := 1) (Nat.le_of_ble_eq_true rfl) cells) hc, Nat.le_trans (Nat.add_le_add_left (m := 3900) (n := 6) (Nat.le_of_ble_eq_true rfl) slots) hs9⟩ dL_law_741 (t := 744) rfl rfl ?_
  refine J_iload hX dL_law_744 1 rfl (t := 746) rfl ?_
  refine J_icmp_eq (tgt := 751) hX dL_law_746 (by decide) (t := 749) rfl (fun z => ?_) (fun z => nomatch it_f hF z)
  replace hF := it_t hF z
  refine J_iload hX dL_law_751 1 rfl (t := 753) rfl ?_
  refine J_if_ne (tgt := 768) hX dL_law_753 (by decide) (t := 756) rfl (fun z2 => ?_) (fun z2 => ?_)
  · replace hF := Option.some.inj (it_f hF z2)
    subst hF
    refine J_goto (tgt := 3183) hX dL_law_768 (by decide) ?_
    refine J_sub (lc2 := [(4, .int i), (3, .ref (adr G 16 0)), (2, .ref (adr G 15 0)), (1, .ref (adr G 0 0)), (0, .ref b)]) [2, 3, 4, 5, 6] rfl ?_
    exact J_wid (Nat.add_le_add_left (m := 30) (n := 1) (Nat.le_of_ble_eq_true rfl) cells) (Nat.add_le_add_left (m := 3900) (n := 6) (Nat.le_of_ble_eq_true rfl) slots) (kk d0 hd0)
  · replace hF := it_t hF z2
    refine J_aload_n hX dL_law_756 3 rfl (t := 757) rfl ?_
    refine J_iconst (v := 0) hX dL_law_757 (by decide) (t := 758) rfl ?_
    refine J_lald (w := w2) (v := (w2 16).2 0 0) hX kOut (by decide) rfl dL_law_758 (t := 759) rfl ?_
    refine J_iload hX dL_law_759 0 rfl (t := 761) rfl ?_
    refine J_i2l hX dL_law_761 (t := 762) rfl ?_
    refine J_lcmp hX dL_law_762 (t := 763) rfl ?_
    refine J_if_eq (tgt := 768) hX dL_law_763 (by decide) (t := 766) rfl (fun z3 => ?_) (fun z3 => nomatch it_f hF z3)
    replace hF := Option.some.inj (it_t hF z3)
    subst hF
    refine J_goto (tgt := 3183) hX dL_law_768 (by decide) ?_
    refine J_sub (lc2 := [(4, .int i), (3, .ref (adr G 16 0)), (2, .ref (adr G 15 0)), (1, .ref (adr G 0 0)), (0, .ref b)]) [2, 3, 4, 5, 6] rfl ?_
    exact J_wid (Nat.add_le_add_left (m := 30) (n := 1) (Nat.le_of_ble_eq_true rfl) cells) (Nat.add_le_add_left (m := 3900) (n := 6) (Nat.le_of_ble_eq_true rfl) slots) (kk d0 hd0)
def FLc_16 (n : Nat) (w : Wd) (a1 a2 a3 a4 a5 : Int32) : Option Wd := bo1 (FX12_findValley n w) fun k => bo2 (FX13_findValley n w) fun q w2 => if k = q then some w2 else none
set_option maxHeartbeats 4000000 in
theorem cs_16 {G : GG} {p : Program} {l : Launch} {e : Env} {s : State} {m : MethodId} {args : Array Value} {below : List Frame} {meth : Method} {c : Code} {b L : Nat} {xs : Nat → Int32} {Q : State → Prop} {cells slots n : Nat} {i a1 a2 a3 a4 a5 : Int32} {w w9 : Wd} (hW : LW G p l s m args c b L xs) (hA : ARG L xs i a1 a2 a3 a4 a5) (hc : cells + 30 ≤ room_1.cells) (hs9 : slots + 3900 ≤ room_1.slots) (hF : FLc_16 n w a1 a2 a3 a4 a5 = some w9) (kk : LJ G p l e s m args below meth c b Q (cells + 30) (slots + 3900) 3183 i w9) : LJ G p l e s m args below meth c b Q cells slots 771 i w := by
  intro d0 hd0
  obtain ⟨hX, hNC, hl, hs, hb⟩ := hW.drawn d0
  unfold FLc_16 at hF
  obtain ⟨k, hk, hF⟩ := bo1_e hF
  obtain ⟨q, w2, hq, hF⟩ := bo2_e hF
  refine J_aload_n hX dL_law_771 3 rfl (t := 772) rfl ?_
  refine J_callV hX [] [] [.int k] (ctX12_findValley w  n hk) miX12_findValley mvX12_findValley cb9 kEcho q_642 ⟨rfl, rfl, Nat.le_of_ble_eq_true rfl, Nat.le_of_ble_eq_true rfl⟩ rfl rfl (Nat.le_of_ble_eq_true rfl) ⟨Nat.le_trans (Nat.add_le_add_left (m := 30) (n := 0) (Nat.le_of_ble_eq_true rfl) cells) hc, Nat.le_trans (Nat.add_le_add_left (m := 3900) (n := 0) (Nat.le_of_ble_eq_true rfl) slots) hs9⟩ dL_law_772 (t := 775) rfl rfl ?_
  refine J_aload_n hX dL_law_775 2 rfl (t := 776) rfl ?_
  refine J_callV hX [] [.int k] [.int q, .int k] (ctX13_findValley w  n hq) miX13_findValley mvX13_findValley cb10 kModel q_2530 ⟨rfl, rfl, Nat.le_of_ble_eq_true rfl, Nat.le_of_ble_eq_true rfl⟩ rfl rfl (Nat.le_of_ble_eq_true rfl) ⟨Nat.le_trans (Nat.add_le_add_left (m := 30) (n := 0) (Nat.le_of_ble_eq_true rfl) cells) hc, Nat.le_trans (Nat.add_le_add_left (m := 3900) (n := 0) (Nat.le_of_ble_eq_true rfl) slots) hs9⟩ dL_law_776 (t := 779) rfl rfl ?_
  refine J_icmp_eq (tgt := 3183) hX dL_law_779 (by decide) (t := 782) rfl (fun z => ?_) (fun z => nomatch it_f hF z)
  replace hF := Option.some.inj (it_t hF z)
  subst hF
  exact J_wid (Nat.le_add_right cells 30) (Nat.le_add_right slots 3900) (kk d0 hd0)
def FLc_17 (n : Nat) (w : Wd) (a1 a2 a3 a4 a5 : Int32) : Option Wd := bo2 (FL_width w a1) fun k w1 => bo2 (FX13_width w1 a1) fun q w2 => if FX13_thrown w2 = k then (if k = 0 then (if lg_cmp ((w2 16).2 0 0) q.toInt64 = 0 then some w2 else none) else some w2) else none
set_option maxHeartbeats 4000000 in
theorem cs_17 {G : GG} {p : Program} {l : Launch} {e : Env} {s : State} {m : MethodId} {args : Array Value} {below : List Frame} {meth : Method} {c : Code} {b L : Nat} {xs : Nat → Int32} {Q : State → Prop} {cells slots n : Nat} {i a1 a2 a3 a4 a5 : Int32} {w w9 : Wd} (hW : LW G p l s m args c b L xs) (hA : ARG L xs i a1 a2 a3 a4 a5) (hc : cells + 30 ≤ room_1.cells) (hs9 : slots + 3900 ≤ room_1.slots) (hF : FLc_17 n w a1 a2 a3 a4 a5 = some w9) (kk : LJ G p l e s m args below meth c b Q (cells + 30) (slots + 3900) 3183 i w9) : LJ G p l e s m args below meth c b Q cells slots 784 i w := by
  intro d0 hd0
  obtain ⟨hX, hNC, hl, hs, hb⟩ := hW.drawn d0
  unfold FLc_17 at hF
  obtain ⟨k, w1, hk, hF⟩ := bo2_e hF
  obtain ⟨q, w2, hq, hF⟩ := bo2_e hF
  refine J_aload_n hX dL_law_784 3 rfl (t := 785) rfl ?_
  refine J_aload_n hX dL_law_785 4 rfl (t := 786) rfl ?_
  refine J_iload hX dL_law_786 0 rfl (t := 788) rfl ?_
  refine J_iconst (v := 1) hX dL_law_788 (by decide) (t := 789) rfl ?_
  refine J_iadd hX dL_law_789 (t := 790) rfl ?_
  refine J_sld hX hs hb hA.1.1 hA.1.2 dL_law_790 (t := 791) rfl ?_
  refine J_aload_n hX dL_law_791 1 rfl (t := 792) rfl ?_
  refine J_callSW hX hNC [.ref (adr G 0 0), .int a1, .ref (adr G 16 0)] [] (ctL_width hl w a1 hk) miL_width q_1346 q_1345 ⟨rfl, rfl, Nat.le_of_ble_eq_true rfl, Nat.le_of_ble_eq_true rfl⟩ rfl rfl (Nat.le_of_ble_eq_true rfl) ⟨Nat.le_trans (Nat.add_le_add_left (m := 30) (n := 1) (Nat.le_of_ble_eq_true rfl) cells) hc, Nat.le_trans (Nat.add_le_add_left (m := 3900) (n := 6) (Nat.le_of_ble_eq_true rfl) slots) hs9⟩ dL_law_792 (t := 795) rfl (fun v9 => J_pure fun hv9 => ?_)
  subst hv9
  refine J_istore (lc2 := [(5, .int k), (4, .int i), (3, .ref (adr G 16 0)), (2, .ref (adr G 15 0)), (1, .ref (adr G 0 0)), (0, .ref b)]) hX dL_law_795 (Nat.le_of_ble_eq_true rfl) rfl (t := 797) rfl ?_
  refine J_aload_n hX dL_law_797 3 rfl (t := 798) rfl ?_
  refine J_aload_n hX dL_law_798 5 rfl (t := 799) rfl ?_
  refine J_iload hX dL_law_799 1 rfl (t := 801) rfl ?_
  refine J_iconst (v := 1) hX dL_law_801 (by decide) (t := 802) rfl ?_
  refine J_iadd hX dL_law_802 (t := 803) rfl ?_
  refine J_sld hX hs hb hA.1.1 hA.1.2 dL_law_803 (t := 804) rfl ?_
  refine J_callV hX [.int a1] [] [.int q] (ctX13_width w1 a1 hq) miX13_width mvX13_width cb10 kModel q_2534 ⟨rfl, rfl, Nat.le_of_ble_eq_true rfl, Nat.le_of_ble_eq_true rfl⟩ rfl rfl (Nat.le_of_ble_eq_true rfl) ⟨Nat.le_trans (Nat.add_le_add_left (m := 30) (n := 1) (Nat.le_of_ble_eq_true rfl) cells) hc, Nat.le_trans (Nat.add_le_add_left (m := 3900) (n := 6) (Nat.le_of_ble_eq_true rfl) slots) hs9⟩ dL_law_804 (t := 807) rfl rfl ?_
  refine J_istore (lc2 := [(6, .int q), (5, .int k), (4, .int i), (3, .ref (adr G 16 0)), (2, .ref (adr G 15 0)), (1, .ref (adr G 0 0)), (0, .ref b)]) hX dL_law_807 (Nat.le_of_ble_eq_true rfl) rfl (t := 809) rfl ?_
  refine J_aload_n hX dL_law_809 4 rfl (t := 810) rfl ?_
  refine J_callV hX [] [] [.int (FX13_thrown w2)] (ctX13_thrown w2  rfl) miX13_thrown mvX13_thrown cb10 kModel q_2070 ⟨rfl, rfl, Nat.le_of_ble_eq_true rfl, Nat.le_of_ble_eq_true rfl⟩ rfl rfl (Nat.le_of_ble_eq_true rfl) ⟨Nat.le_trans (Nat.add_le_add_left (m := 30) (n := 1) (Nat.le_of_ble_eq_true rfl) cells) hc, Nat.le_trans (Nat.add_le_add_left (m := 3900) (n := 6) (Nat.le_of_ble_eq_true rfl) slots) hs9⟩ dL_law_810 (t := 813) rfl rfl ?_
  refine J_iload hX dL_law_813 1 rfl (t := 815) rfl ?_
  refine J_icmp_eq (tgt := 820) hX dL_law_815 (by decide) (t := 818) rfl (fun z => ?_) (fun z => nomatch it_f hF z)
  replace hF := it_t hF z
  refine J_iload hX dL_law_820 1 rfl (t := 822) rfl ?_
  refine J_if_ne (tgt := 837) hX dL_law_822 (by decide) (t := 825) rfl (fun z2 => ?_) (fun z2 => ?_)
  · replace hF := Option.some.inj (it_f hF z2)
    subst hF
    refine J_goto (tgt := 3183) hX dL_law_837 (by decide) ?_
    refine J_sub (lc2 := [(4, .int i), (3, .ref (adr G 16 0)), (2, .ref (adr G 15 0)), (1, .ref (adr G 0 0)), (0, .ref b)]) [2, 3, 4, 5, 6] rfl ?_
    exact J_wid (Nat.add_le_add_left (m := 30) (n := 1) (Nat.le_of_ble_eq_true rfl) cells) (Nat.add_le_add_left (m := 3900) (n := 6) (Nat.le_of_ble_eq_true rfl) slots) (kk d0 hd0)
  · replace hF := it_t hF z2
    refine J_aload_n hX dL_law_825 3 rfl (t := 826) rfl ?_
    refine J_iconst (v := 0) hX dL_law_826 (by decide) (t := 827) rfl ?_
    refine J_lald (w := w2) (v := (w2 16).2 0 0) hX kOut (by decide) rfl dL_law_827 (t := 828) rfl ?_
    refine J_iload hX dL_law_828 0 rfl (t := 830) rfl ?_
    refine J_i2l hX dL_law_830 (t := 831) rfl ?_
    refine J_lcmp hX dL_law_831 (t := 832) rfl ?_
    refine J_if_eq (tgt := 837) hX dL_law_832 (by decide) (t := 835) rfl (fun z3 => ?_) (fun z3 => nomatch it_f hF z3)
    replace hF := Option.some.inj (it_t hF z3)
    subst hF
    refine J_goto (tgt := 3183) hX dL_law_837 (by decide) ?_
    refine J_sub (lc2 := [(4, .int i), (3, .ref (adr G 16 0)), (2, .ref (adr G 15 0)), (1, .ref (adr G 0 0)), (0, .ref b)]) [2, 3, 4, 5, 6] rfl ?_
    exact J_wid (Nat.add_le_add_left (m := 30) (n := 1) (Nat.le_of_ble_eq_true rfl) cells) (Nat.add_le_add_left (m := 3900) (n := 6) (Nat.le_of_ble_eq_true rfl) slots) (kk d0 hd0)
def FLc_18 (n : Nat) (w : Wd) (a1 a2 a3 a4 a5 : Int32) : Option Wd := bo2 (FL_walls w a1) fun k w1 => bo2 (FX13_walls w1 a1) fun q w2 => if FX13_thrown w2 = k then (if k = 0 then (if lg_cmp ((w2 16).2 0 0) q.toInt64 = 0 then some w2 else none) else some w2) else none
set_option maxHeartbeats 4000000 in
theorem cs_18 {G : GG} {p : Program} {l : Launch} {e : Env} {s : State} {m : MethodId} {args : Array Value} {below : List Frame} {meth : Method} {c : Code} {b L : Nat} {xs : Nat → Int32} {Q : State → Prop} {cells slots n : Nat} {i a1 a2 a3 a4 a5 : Int32} {w w9 : Wd} (hW : LW G p l s m args c b L xs) (hA : ARG L xs i a1 a2 a3 a4 a5) (hc : cells + 30 ≤ room_1.cells) (hs9 : slots + 3900 ≤ room_1.slots) (hF : FLc_18 n w a1 a2 a3 a4 a5 = some w9) (kk : LJ G p l e s m args below meth c b Q (cells + 30) (slots + 3900) 3183 i w9) : LJ G p l e s m args below meth c b Q cells slots 840 i w := by
  intro d0 hd0
  obtain ⟨hX, hNC, hl, hs, hb⟩ := hW.drawn d0
  unfold FLc_18 at hF
  obtain ⟨k, w1, hk, hF⟩ := bo2_e hF
  obtain ⟨q, w2, hq, hF⟩ := bo2_e hF
  refine J_aload_n hX dL_law_840 3 rfl (t := 841) rfl ?_
  refine J_aload_n hX dL_law_841 4 rfl (t := 842) rfl ?_
  refine J_iload hX dL_law_842 0 rfl (t := 844) rfl ?_
  refine J_iconst (v := 1) hX dL_law_844 (by decide) (t := 845) rfl ?_
  refine J_iadd hX dL_law_845 (t := 846) rfl ?_
  refine J_sld hX hs hb hA.1.1 hA.1.2 dL_law_846 (t := 847) rfl ?_
  refine J_aload_n hX dL_law_847 1 rfl (t := 848) rfl ?_
  refine J_callSW hX hNC [.ref (adr G 0 0), .int a1, .ref (adr G 16 0)] [] (ctL_walls hl w a1 hk) miL_walls q_1353 q_1352 ⟨rfl, rfl, Nat.le_of_ble_eq_true rfl, Nat.le_of_ble_eq_true rfl⟩ rfl rfl (Nat.le_of_ble_eq_true rfl) ⟨Nat.le_trans (Nat.add_le_add_left (m := 30) (n := 1) (Nat.le_of_ble_eq_true rfl) cells) hc, Nat.le_trans (Nat.add_le_add_left (m := 3900) (n := 6) (Nat.le_of_ble_eq_true rfl) slots) hs9⟩ dL_law_848 (t := 851) rfl (fun v9 => J_pure fun hv9 => ?_)
  subst hv9
  refine J_istore (lc2 := [(5, .int k), (4, .int i), (3, .ref (adr G 16 0)), (2, .ref (adr G 15 0)), (1, .ref (adr G 0 0)), (0, .ref b)]) hX dL_law_851 (Nat.le_of_ble_eq_true rfl) rfl (t := 853) rfl ?_
  refine J_aload_n hX dL_law_853 3 rfl (t := 854) rfl ?_
  refine J_aload_n hX dL_law_854 5 rfl (t := 855) rfl ?_
  refine J_iload hX dL_law_855 1 rfl (t := 857) rfl ?_
  refine J_iconst (v := 1) hX dL_law_857 (by decide) (t := 858) rfl ?_
  refine J_iadd hX dL_law_858 (t := 859) rfl ?_
  refine J_sld hX hs hb hA.1.1 hA.1.2 dL_law_859 (t := 860) rfl ?_
  refine J_callV hX [.int a1] [] [.int q] (ctX13_walls w1 a1 hq) miX13_walls mvX13_walls cb10 kModel q_2542 ⟨rfl, rfl, Nat.le_of_ble_eq_true rfl, Nat.le_of_ble_eq_true rfl⟩ rfl rfl (Nat.le_of_ble_eq_true rfl) ⟨Nat.le_trans (Nat.add_le_add_left (m := 30) (n := 1) (Nat.le_of_ble_eq_true rfl) cells) hc, Nat.le_trans (Nat.add_le_add_left (m := 3900) (n := 6) (Nat.le_of_ble_eq_true rfl) slots) hs9⟩ dL_law_860 (t := 863) rfl rfl ?_
  refine J_istore (lc2 := [(6, .int q), (5, .int k), (4, .int i), (3, .ref (adr G 16 0)), (2, .ref (adr G 15 0)), (1, .ref (adr G 0 0)), (0, .ref b)]) hX dL_law_863 (Nat.le_of_ble_eq_true rfl) rfl (t := 865) rfl ?_
  refine J_aload_n hX dL_law_865 4 rfl (t := 866) rfl ?_
  refine J_callV hX [] [] [.int (FX13_thrown w2)] (ctX13_thrown w2  rfl) miX13_thrown mvX13_thrown cb10 kModel q_2070 ⟨rfl, rfl, Nat.le_of_ble_eq_true rfl, Nat.le_of_ble_eq_true rfl⟩ rfl rfl (Nat.le_of_ble_eq_true rfl) ⟨Nat.le_trans (Nat.add_le_add_left (m := 30) (n := 1) (Nat.le_of_ble_eq_true rfl) cells) hc, Nat.le_trans (Nat.add_le_add_left (m := 3900) (n := 6) (Nat.le_of_ble_eq_true rfl) slots) hs9⟩ dL_law_866 (t := 869) rfl rfl ?_
  refine J_iload hX dL_law_869 1 rfl (t := 871) rfl ?_
  refine J_icmp_eq (tgt := 876) hX dL_law_871 (by decide) (t := 874) rfl (fun z => ?_) (fun z => nomatch it_f hF z)
  replace hF := it_t hF z
  refine J_iload hX dL_law_876 1 rfl (t := 878) rfl ?_
  refine J_if_ne (tgt := 893) hX dL_law_878 (by decide) (t := 881) rfl (fun z2 => ?_) (fun z2 => ?_)
  · replace hF := Option.some.inj (it_f hF z2)
    subst hF
    refine J_goto (tgt := 3183) hX dL_law_893 (by decide) ?_
    refine J_sub (lc2 := [(4, .int i), (3, .ref (adr G 16 0)), (2, .ref (adr G 15 0)), (1, .ref (adr G 0 0)), (0, .ref b)]) [2, 3, 4, 5, 6] rfl ?_
    exact J_wid (Nat.add_le_add_left (m := 30) (n := 1) (Nat.le_of_ble_eq_true rfl) cells) (Nat.add_le_add_left (m := 3900) (n := 6) (Nat.le_of_ble_eq_true rfl) slots) (kk d0 hd0)
  · replace hF := it_t hF z2
    refine J_aload_n hX dL_law_881 3 rfl (t := 882) rfl ?_
    refine J_iconst (v := 0) hX dL_law_882 (by decide) (t := 883) rfl ?_
    refine J_lald (w := w2) (v := (w2 16).2 0 0) hX kOut (by decide) rfl dL_law_883 (t := 884) rfl ?_
    refine J_iload hX dL_law_884 0 rfl (t := 886) rfl ?_
    refine J_i2l hX dL_law_886 (t := 887) rfl ?_
    refine J_lcmp hX dL_law_887 (t := 888) rfl ?_
    refine J_if_eq (tgt := 893) hX dL_law_888 (by decide) (t := 891) rfl (fun z3 => ?_) (fun z3 => nomatch it_f hF z3)
    replace hF := Option.some.inj (it_t hF z3)
    subst hF
    refine J_goto (tgt := 3183) hX dL_law_893 (by decide) ?_
    refine J_sub (lc2 := [(4, .int i), (3, .ref (adr G 16 0)), (2, .ref (adr G 15 0)), (1, .ref (adr G 0 0)), (0, .ref b)]) [2, 3, 4, 5, 6] rfl ?_
    exact J_wid (Nat.add_le_add_left (m := 30) (n := 1) (Nat.le_of_ble_eq_true rfl) cells) (Nat.add_le_add_left (m := 3900) (n := 6) (Nat.le_of_ble_eq_true rfl) slots) (kk d0 hd0)
def FLc_19 (n : Nat) (w : Wd) (a1 a2 a3 a4 a5 : Int32) : Option Wd := bo2 (FL_price w a1) fun k w1 => bo2 (FX13_price w1 a1) fun q w2 => if FX13_thrown w2 = k then (if k = 0 then (if lg_cmp ((w2 16).2 0 0) q.toInt64 = 0 then some w2 else none) else some w2) else none
set_option maxHeartbeats 4000000 in
theorem cs_19 {G : GG} {p : Program} {l : Launch} {e : Env} {s : State} {m : MethodId} {args : Array Value} {below : List Frame} {meth : Method} {c : Code} {b L : Nat} {xs : Nat → Int32} {Q : State → Prop} {cells slots n : Nat} {i a1 a2 a3 a4 a5 : Int32} {w w9 : Wd} (hW : LW G p l s m args c b L xs) (hA : ARG L xs i a1 a2 a3 a4 a5) (hc : cells + 30 ≤ room_1.cells) (hs9 : slots + 3900 ≤ room_1.slots) (hF : FLc_19 n w a1 a2 a3 a4 a5 = some w9) (kk : LJ G p l e s m args below meth c b Q (cells + 30) (slots + 3900) 3183 i w9) : LJ G p l e s m args below meth c b Q cells slots 896 i w := by
  intro d0 hd0
  obtain ⟨hX, hNC, hl, hs, hb⟩ := hW.drawn d0
  unfold FLc_19 at hF
  obtain ⟨k, w1, hk, hF⟩ := bo2_e hF
  obtain ⟨q, w2, hq, hF⟩ := bo2_e hF
  refine J_aload_n hX dL_law_896 3 rfl (t := 897) rfl ?_
  refine J_aload_n hX dL_law_897 4 rfl (t := 898) rfl ?_
  refine J_iload hX dL_law_898 0 rfl (t := 900) rfl ?_
  refine J_iconst (v := 1) hX dL_law_900 (by decide) (t := 901) rfl ?_
  refine J_iadd hX dL_law_901 (t := 902) rfl ?_
  refine J_sld hX hs hb hA.1.1 hA.1.2 dL_law_902 (t := 903) rfl ?_
  refine J_aload_n hX dL_law_903 1 rfl (t := 904) rfl ?_
  refine J_callSW hX hNC [.ref (adr G 0 0), .int a1, .ref (adr G 16 0)] [] (ctL_price hl w a1 hk) miL_price q_1360 q_1359 ⟨rfl, rfl, Nat.le_of_ble_eq_true rfl, Nat.le_of_ble_eq_true rfl⟩ rfl rfl (Nat.le_of_ble_eq_true rfl) ⟨Nat.le_trans (Nat.add_le_add_left (m := 30) (n := 1) (Nat.le_of_ble_eq_true rfl) cells) hc, Nat.le_trans (Nat.add_le_add_left (m := 3900) (n := 6) (Nat.le_of_ble_eq_true rfl) slots) hs9⟩ dL_law_904 (t := 907) rfl (fun v9 => J_pure fun hv9 => ?_)
  subst hv9
  refine J_istore (lc2 := [(5, .int k), (4, .int i), (3, .ref (adr G 16 0)), (2, .ref (adr G 15 0)), (1, .ref (adr G 0 0)), (0, .ref b)]) hX dL_law_907 (Nat.le_of_ble_eq_true rfl) rfl (t := 909) rfl ?_
  refine J_aload_n hX dL_law_909 3 rfl (t := 910) rfl ?_
  refine J_aload_n hX dL_law_910 5 rfl (t := 911) rfl ?_
  refine J_iload hX dL_law_911 1 rfl (t := 913) rfl ?_
  refine J_iconst (v := 1) hX dL_law_913 (by decide) (t := 914) rfl ?_
  refine J_iadd hX dL_law_914 (t := 915) rfl ?_
  refine J_sld hX hs hb hA.1.1 hA.1.2 dL_law_915 (t := 916) rfl ?_
  refine J_callV hX [.int a1] [] [.int q] (ctX13_price w1 a1 hq) miX13_price mvX13_price cb10 kModel q_2546 ⟨rfl, rfl, Nat.le_of_ble_eq_true rfl, Nat.le_of_ble_eq_true rfl⟩ rfl rfl (Nat.le_of_ble_eq_true rfl) ⟨Nat.le_trans (Nat.add_le_add_left (m := 30) (n := 1) (Nat.le_of_ble_eq_true rfl) cells) hc, Nat.le_trans (Nat.add_le_add_left (m := 3900) (n := 6) (Nat.le_of_ble_eq_true rfl) slots) hs9⟩ dL_law_916 (t := 919) rfl rfl ?_
  refine J_istore (lc2 := [(6, .int q), (5, .int k), (4, .int i), (3, .ref (adr G 16 0)), (2, .ref (adr G 15 0)), (1, .ref (adr G 0 0)), (0, .ref b)]) hX dL_law_919 (Nat.le_of_ble_eq_true rfl) rfl (t := 921) rfl ?_
  refine J_aload_n hX dL_law_921 4 rfl (t := 922) rfl ?_
  refine J_callV hX [] [] [.int (FX13_thrown w2)] (ctX13_thrown w2  rfl) miX13_thrown mvX13_thrown cb10 kModel q_2070 ⟨rfl, rfl, Nat.le_of_ble_eq_true rfl, Nat.le_of_ble_eq_true rfl⟩ rfl rfl (Nat.le_of_ble_eq_true rfl) ⟨Nat.le_trans (Nat.add_le_add_left (m := 30) (n := 1) (Nat.le_of_ble_eq_true rfl) cells) hc, Nat.le_trans (Nat.add_le_add_left (m := 3900) (n := 6) (Nat.le_of_ble_eq_true rfl) slots) hs9⟩ dL_law_922 (t := 925) rfl rfl ?_
  refine J_iload hX dL_law_925 1 rfl (t := 927) rfl ?_
  refine J_icmp_eq (tgt := 932) hX dL_law_927 (by decide) (t := 930) rfl (fun z => ?_) (fun z => nomatch it_f hF z)
  replace hF := it_t hF z
  refine J_iload hX dL_law_932 1 rfl (t := 934) rfl ?_
  refine J_if_ne (tgt := 949) hX dL_law_934 (by decide) (t := 937) rfl (fun z2 => ?_) (fun z2 => ?_)
  · replace hF := Option.some.inj (it_f hF z2)
    subst hF
    refine J_goto (tgt := 3183) hX dL_law_949 (by decide) ?_
    refine J_sub (lc2 := [(4, .int i), (3, .ref (adr G 16 0)), (2, .ref (adr G 15 0)), (1, .ref (adr G 0 0)), (0, .ref b)]) [2, 3, 4, 5, 6] rfl ?_
    exact J_wid (Nat.add_le_add_left (m := 30) (n := 1) (Nat.le_of_ble_eq_true rfl) cells) (Nat.add_le_add_left (m := 3900) (n := 6) (Nat.le_of_ble_eq_true rfl) slots) (kk d0 hd0)
  · replace hF := it_t hF z2
    refine J_aload_n hX dL_law_937 3 rfl (t := 938) rfl ?_
    refine J_iconst (v := 0) hX dL_law_938 (by decide) (t := 939) rfl ?_
    refine J_lald (w := w2) (v := (w2 16).2 0 0) hX kOut (by decide) rfl dL_law_939 (t := 940) rfl ?_
    refine J_iload hX dL_law_940 0 rfl (t := 942) rfl ?_
    refine J_i2l hX dL_law_942 (t := 943) rfl ?_
    refine J_lcmp hX dL_law_943 (t := 944) rfl ?_
    refine J_if_eq (tgt := 949) hX dL_law_944 (by decide) (t := 947) rfl (fun z3 => ?_) (fun z3 => nomatch it_f hF z3)
    replace hF := Option.some.inj (it_t hF z3)
    subst hF
    refine J_goto (tgt := 3183) hX dL_law_949 (by decide) ?_
    refine J_sub (lc2 := [(4, .int i), (3, .ref (adr G 16 0)), (2, .ref (adr G 15 0)), (1, .ref (adr G 0 0)), (0, .ref b)]) [2, 3, 4, 5, 6] rfl ?_
    exact J_wid (Nat.add_le_add_left (m := 30) (n := 1) (Nat.le_of_ble_eq_true rfl) cells) (Nat.add_le_add_left (m := 3900) (n := 6) (Nat.le_of_ble_eq_true rfl) slots) (kk d0 hd0)
def FLc_20 (n : Nat) (w : Wd) (a1 a2 a3 a4 a5 : Int32) : Option Wd := bo2 (FL_rating w a1) fun k w1 => bo2 (FX13_rating w1 a1) fun q w2 => if FX13_thrown w2 = k then (if k = 0 then (if lg_cmp ((w2 16).2 0 0) q.toInt64 = 0 then some w2 else none) else some w2) else none
set_option maxHeartbeats 4000000 in
theorem cs_20 {G : GG} {p : Program} {l : Launch} {e : Env} {s : State} {m : MethodId} {args : Array Value} {below : List Frame} {meth : Method} {c : Code} {b L : Nat} {xs : Nat → Int32} {Q : State → Prop} {cells slots n : Nat} {i a1 a2 a3 a4 a5 : Int32} {w w9 : Wd} (hW : LW G p l s m args c b L xs) (hA : ARG L xs i a1 a2 a3 a4 a5) (hc : cells + 30 ≤ room_1.cells) (hs9 : slots + 3900 ≤ room_1.slots) (hF : FLc_20 n w a1 a2 a3 a4 a5 = some w9) (kk : LJ G p l e s m args below meth c b Q (cells + 30) (slots + 3900) 3183 i w9) : LJ G p l e s m args below meth c b Q cells slots 952 i w := by
  intro d0 hd0
  obtain ⟨hX, hNC, hl, hs, hb⟩ := hW.drawn d0
  unfold FLc_20 at hF
  obtain ⟨k, w1, hk, hF⟩ := bo2_e hF
  obtain ⟨q, w2, hq, hF⟩ := bo2_e hF
  refine J_aload_n hX dL_law_952 3 rfl (t := 953) rfl ?_
  refine J_aload_n hX dL_law_953 4 rfl (t := 954) rfl ?_
  refine J_iload hX dL_law_954 0 rfl (t := 956) rfl ?_
  refine J_iconst (v := 1) hX dL_law_956 (by decide) (t := 957) rfl ?_
  refine J_iadd hX dL_law_957 (t := 958) rfl ?_
  refine J_sld hX hs hb hA.1.1 hA.1.2 dL_law_958 (t := 959) rfl ?_
  refine J_aload_n hX dL_law_959 1 rfl (t := 960) rfl ?_
  refine J_callSW hX hNC [.ref (adr G 0 0), .int a1, .ref (adr G 16 0)] [] (ctL_rating hl w a1 hk) miL_rating q_1367 q_1366 ⟨rfl, rfl, Nat.le_of_ble_eq_true rfl, Nat.le_of_ble_eq_true rfl⟩ rfl rfl (Nat.le_of_ble_eq_true rfl) ⟨Nat.le_trans (Nat.add_le_add_left (m := 30) (n := 1) (Nat.le_of_ble_eq_true rfl) cells) hc, Nat.le_trans (Nat.add_le_add_left (m := 3900) (n := 6) (Nat.le_of_ble_eq_true rfl) slots) hs9⟩ dL_law_960 (t := 963) rfl (fun v9 => J_pure fun hv9 => ?_)
  subst hv9
  refine J_istore (lc2 := [(5, .int k), (4, .int i), (3, .ref (adr G 16 0)), (2, .ref (adr G 15 0)), (1, .ref (adr G 0 0)), (0, .ref b)]) hX dL_law_963 (Nat.le_of_ble_eq_true rfl) rfl (t := 965) rfl ?_
  refine J_aload_n hX dL_law_965 3 rfl (t := 966) rfl ?_
  refine J_aload_n hX dL_law_966 5 rfl (t := 967) rfl ?_
  refine J_iload hX dL_law_967 1 rfl (t := 969) rfl ?_
  refine J_iconst (v := 1) hX dL_law_969 (by decide) (t := 970) rfl ?_
  refine J_iadd hX dL_law_970 (t := 971) rfl ?_
  refine J_sld hX hs hb hA.1.1 hA.1.2 dL_law_971 (t := 972) rfl ?_
  refine J_callV hX [.int a1] [] [.int q] (ctX13_rating w1 a1 hq) miX13_rating mvX13_rating cb10 kModel q_2550 ⟨rfl, rfl, Nat.le_of_ble_eq_true rfl, Nat.le_of_ble_eq_true rfl⟩ rfl rfl (Nat.le_of_ble_eq_true rfl) ⟨Nat.le_trans (Nat.add_le_add_left (m := 30) (n := 1) (Nat.le_of_ble_eq_true rfl) cells) hc, Nat.le_trans (Nat.add_le_add_left (m := 3900) (n := 6) (Nat.le_of_ble_eq_true rfl) slots) hs9⟩ dL_law_972 (t := 975) rfl rfl ?_
  refine J_istore (lc2 := [(6, .int q), (5, .int k), (4, .int i), (3, .ref (adr G 16 0)), (2, .ref (adr G 15 0)), (1, .ref (adr G 0 0)), (0, .ref b)]) hX dL_law_975 (Nat.le_of_ble_eq_true rfl) rfl (t := 977) rfl ?_
  refine J_aload_n hX dL_law_977 4 rfl (t := 978) rfl ?_
  refine J_callV hX [] [] [.int (FX13_thrown w2)] (ctX13_thrown w2  rfl) miX13_thrown mvX13_thrown cb10 kModel q_2070 ⟨rfl, rfl, Nat.le_of_ble_eq_true rfl, Nat.le_of_ble_eq_true rfl⟩ rfl rfl (Nat.le_of_ble_eq_true rfl) ⟨Nat.le_trans (Nat.add_le_add_left (m := 30) (n := 1) (Nat.le_of_ble_eq_true rfl) cells) hc, Nat.le_trans (Nat.add_le_add_left (m := 3900) (n := 6) (Nat.le_of_ble_eq_true rfl) slots) hs9⟩ dL_law_978 (t := 981) rfl rfl ?_
  refine J_iload hX dL_law_981 1 rfl (t := 983) rfl ?_
  refine J_icmp_eq (tgt := 988) hX dL_law_983 (by decide) (t := 986) rfl (fun z => ?_) (fun z => nomatch it_f hF z)
  replace hF := it_t hF z
  refine J_iload hX dL_law_988 1 rfl (t := 990) rfl ?_
  refine J_if_ne (tgt := 1005) hX dL_law_990 (by decide) (t := 993) rfl (fun z2 => ?_) (fun z2 => ?_)
  · replace hF := Option.some.inj (it_f hF z2)
    subst hF
    refine J_goto (tgt := 3183) hX dL_law_1005 (by decide) ?_
    refine J_sub (lc2 := [(4, .int i), (3, .ref (adr G 16 0)), (2, .ref (adr G 15 0)), (1, .ref (adr G 0 0)), (0, .ref b)]) [2, 3, 4, 5, 6] rfl ?_
    exact J_wid (Nat.add_le_add_left (m := 30) (n := 1) (Nat.le_of_ble_eq_true rfl) cells) (Nat.add_le_add_left (m := 3900) (n := 6) (Nat.le_of_ble_eq_true rfl) slots) (kk d0 hd0)
  · replace hF := it_t hF z2
    refine J_aload_n hX dL_law_993 3 rfl (t := 994) rfl ?_
    refine J_iconst (v := 0) hX dL_law_994 (by decide) (t := 995) rfl ?_
    refine J_lald (w := w2) (v := (w2 16).2 0 0) hX kOut (by decide) rfl dL_law_995 (t := 996) rfl ?_
    refine J_iload hX dL_law_996 0 rfl (t := 998) rfl ?_
    refine J_i2l hX dL_law_998 (t := 999) rfl ?_
    refine J_lcmp hX dL_law_999 (t := 1000) rfl ?_
    refine J_if_eq (tgt := 1005) hX dL_law_1000 (by decide) (t := 1003) rfl (fun z3 => ?_) (fun z3 => nomatch it_f hF z3)
    replace hF := Option.some.inj (it_t hF z3)
    subst hF
    refine J_goto (tgt := 3183) hX dL_law_1005 (by decide) ?_
    refine J_sub (lc2 := [(4, .int i), (3, .ref (adr G 16 0)), (2, .ref (adr G 15 0)), (1, .ref (adr G 0 0)), (0, .ref b)]) [2, 3, 4, 5, 6] rfl ?_
    exact J_wid (Nat.add_le_add_left (m := 30) (n := 1) (Nat.le_of_ble_eq_true rfl) cells) (Nat.add_le_add_left (m := 3900) (n := 6) (Nat.le_of_ble_eq_true rfl) slots) (kk d0 hd0)
def FLc_21 (n : Nat) (w : Wd) (a1 a2 a3 a4 a5 : Int32) : Option Wd := bo2 (FL_echoesLost w a1) fun k w1 => bo2 (FX13_echoesLost w1 a1) fun q w2 => if FX13_thrown w2 = k then (if k = 0 then (if lg_cmp ((w2 16).2 0 0) q.toInt64 = 0 then some w2 else none) else some w2) else none
set_option maxHeartbeats 4000000 in
theorem cs_21 {G : GG} {p : Program} {l : Launch} {e : Env} {s : State} {m : MethodId} {args : Array Value} {below : List Frame} {meth : Method} {c : Code} {b L : Nat} {xs : Nat → Int32} {Q : State → Prop} {cells slots n : Nat} {i a1 a2 a3 a4 a5 : Int32} {w w9 : Wd} (hW : LW G p l s m args c b L xs) (hA : ARG L xs i a1 a2 a3 a4 a5) (hc : cells + 30 ≤ room_1.cells) (hs9 : slots + 3900 ≤ room_1.slots) (hF : FLc_21 n w a1 a2 a3 a4 a5 = some w9) (kk : LJ G p l e s m args below meth c b Q (cells + 30) (slots + 3900) 3183 i w9) : LJ G p l e s m args below meth c b Q cells slots 1008 i w := by
  intro d0 hd0
  obtain ⟨hX, hNC, hl, hs, hb⟩ := hW.drawn d0
  unfold FLc_21 at hF
  obtain ⟨k, w1, hk, hF⟩ := bo2_e hF
  obtain ⟨q, w2, hq, hF⟩ := bo2_e hF
  refine J_aload_n hX dL_law_1008 3 rfl (t := 1009) rfl ?_
  refine J_aload_n hX dL_law_1009 4 rfl (t := 1010) rfl ?_
  refine J_iload hX dL_law_1010 0 rfl (t := 1012) rfl ?_
  refine J_iconst (v := 1) hX dL_law_1012 (by decide) (t := 1013) rfl ?_
  refine J_iadd hX dL_law_1013 (t := 1014) rfl ?_
  refine J_sld hX hs hb hA.1.1 hA.1.2 dL_law_1014 (t := 1015) rfl ?_
  refine J_aload_n hX dL_law_1015 1 rfl (t := 1016) rfl ?_
  refine J_callSW hX hNC [.ref (adr G 0 0), .int a1, .ref (adr G 16 0)] [] (ctL_echoesLost hl w a1 hk) miL_echoesLost q_1374 q_1373 ⟨rfl, rfl, Nat.le_of_ble_eq_true rfl, Nat.le_of_ble_eq_true rfl⟩ rfl rfl (Nat.le_of_ble_eq_true rfl) ⟨Nat.le_trans (Nat.add_le_add_left (m := 30) (n := 1) (Nat.le_of_ble_eq_true rfl) cells) hc, Nat.le_trans (Nat.add_le_add_left (m := 3900) (n := 6) (Nat.le_of_ble_eq_true rfl) slots) hs9⟩ dL_law_1016 (t := 1019) rfl (fun v9 => J_pure fun hv9 => ?_)
  subst hv9
  refine J_istore (lc2 := [(5, .int k), (4, .int i), (3, .ref (adr G 16 0)), (2, .ref (adr G 15 0)), (1, .ref (adr G 0 0)), (0, .ref b)]) hX dL_law_1019 (Nat.le_of_ble_eq_true rfl) rfl (t := 1021) rfl ?_
  refine J_aload_n hX dL_law_1021 3 rfl (t := 1022) rfl ?_
  refine J_aload_n hX dL_law_1022 5 rfl (t := 1023) rfl ?_
  refine J_iload hX dL_law_1023 1 rfl (t := 1025) rfl ?_
  refine J_iconst (v := 1) hX dL_law_1025 (by decide) (t := 1026) rfl ?_
  refine J_iadd hX dL_law_1026 (t := 1027) rfl ?_
  refine J_sld hX hs hb hA.1.1 hA.1.2 dL_law_1027 (t := 1028) rfl ?_
  refine J_callV hX [.int a1] [] [.int q] (ctX13_echoesLost w1 a1 hq) miX13_echoesLost mvX13_echoesLost cb10 kModel q_2554 ⟨rfl, rfl, Nat.le_of_ble_eq_true rfl, Nat.le_of_ble_eq_true rfl⟩ rfl rfl (Nat.le_of_ble_eq_true rfl) ⟨Nat.le_trans (Nat.add_le_add_left (m := 30) (n := 1) (Nat.le_of_ble_eq_true rfl) cells) hc, Nat.le_trans (Nat.add_le_add_left (m := 3900) (n := 6) (Nat.le_of_ble_eq_true rfl) slots) hs9⟩ dL_law_1028 (t := 1031) rfl rfl ?_
  refine J_istore (lc2 := [(6, .int q), (5, .int k), (4, .int i), (3, .ref (adr G 16 0)), (2, .ref (adr G 15 0)), (1, .ref (adr G 0 0)), (0, .ref b)]) hX dL_law_1031 (Nat.le_of_ble_eq_true rfl) rfl (t := 1033) rfl ?_
  refine J_aload_n hX dL_law_1033 4 rfl (t := 1034) rfl ?_
  refine J_callV hX [] [] [.int (FX13_thrown w2)] (ctX13_thrown w2  rfl) miX13_thrown mvX13_thrown cb10 kModel q_2070 ⟨rfl, rfl, Nat.le_of_ble_eq_true rfl, Nat.le_of_ble_eq_true rfl⟩ rfl rfl (Nat.le_of_ble_eq_true rfl) ⟨Nat.le_trans (Nat.add_le_add_left (m := 30) (n := 1) (Nat.le_of_ble_eq_true rfl) cells) hc, Nat.le_trans (Nat.add_le_add_left (m := 3900) (n := 6) (Nat.le_of_ble_eq_true rfl) slots) hs9⟩ dL_law_1034 (t := 1037) rfl rfl ?_
  refine J_iload hX dL_law_1037 1 rfl (t := 1039) rfl ?_
  refine J_icmp_eq (tgt := 1044) hX dL_law_1039 (by decide) (t := 1042) rfl (fun z => ?_) (fun z => nomatch it_f hF z)
  replace hF := it_t hF z
  refine J_iload hX dL_law_1044 1 rfl (t := 1046) rfl ?_
  refine J_if_ne (tgt := 1061) hX dL_law_1046 (by decide) (t := 1049) rfl (fun z2 => ?_) (fun z2 => ?_)
  · replace hF := Option.some.inj (it_f hF z2)
    subst hF
    refine J_goto (tgt := 3183) hX dL_law_1061 (by decide) ?_
    refine J_sub (lc2 := [(4, .int i), (3, .ref (adr G 16 0)), (2, .ref (adr G 15 0)), (1, .ref (adr G 0 0)), (0, .ref b)]) [2, 3, 4, 5, 6] rfl ?_
    exact J_wid (Nat.add_le_add_left (m := 30) (n := 1) (Nat.le_of_ble_eq_true rfl) cells) (Nat.add_le_add_left (m := 3900) (n := 6) (Nat.le_of_ble_eq_true rfl) slots) (kk d0 hd0)
  · replace hF := it_t hF z2
    refine J_aload_n hX dL_law_1049 3 rfl (t := 1050) rfl ?_
    refine J_iconst (v := 0) hX dL_law_1050 (by decide) (t := 1051) rfl ?_
    refine J_lald (w := w2) (v := (w2 16).2 0 0) hX kOut (by decide) rfl dL_law_1051 (t := 1052) rfl ?_
    refine J_iload hX dL_law_1052 0 rfl (t := 1054) rfl ?_
    refine J_i2l hX dL_law_1054 (t := 1055) rfl ?_
    refine J_lcmp hX dL_law_1055 (t := 1056) rfl ?_
    refine J_if_eq (tgt := 1061) hX dL_law_1056 (by decide) (t := 1059) rfl (fun z3 => ?_) (fun z3 => nomatch it_f hF z3)
    replace hF := Option.some.inj (it_t hF z3)
    subst hF
    refine J_goto (tgt := 3183) hX dL_law_1061 (by decide) ?_
    refine J_sub (lc2 := [(4, .int i), (3, .ref (adr G 16 0)), (2, .ref (adr G 15 0)), (1, .ref (adr G 0 0)), (0, .ref b)]) [2, 3, 4, 5, 6] rfl ?_
    exact J_wid (Nat.add_le_add_left (m := 30) (n := 1) (Nat.le_of_ble_eq_true rfl) cells) (Nat.add_le_add_left (m := 3900) (n := 6) (Nat.le_of_ble_eq_true rfl) slots) (kk d0 hd0)
def FLc_22 (n : Nat) (w : Wd) (a1 a2 a3 a4 a5 : Int32) : Option Wd := bo2 (FL_earnedIn w a1) fun k w1 => bo2 (FX13_earnedIn n w1 a1) fun q w2 => if FX13_thrown w2 = k then (if k = 0 then (if lg_cmp ((w2 16).2 0 0) q.toInt64 = 0 then some w2 else none) else some w2) else none
set_option maxHeartbeats 4000000 in
theorem cs_22 {G : GG} {p : Program} {l : Launch} {e : Env} {s : State} {m : MethodId} {args : Array Value} {below : List Frame} {meth : Method} {c : Code} {b L : Nat} {xs : Nat → Int32} {Q : State → Prop} {cells slots n : Nat} {i a1 a2 a3 a4 a5 : Int32} {w w9 : Wd} (hW : LW G p l s m args c b L xs) (hA : ARG L xs i a1 a2 a3 a4 a5) (hc : cells + 30 ≤ room_1.cells) (hs9 : slots + 3900 ≤ room_1.slots) (hF : FLc_22 n w a1 a2 a3 a4 a5 = some w9) (kk : LJ G p l e s m args below meth c b Q (cells + 30) (slots + 3900) 3183 i w9) : LJ G p l e s m args below meth c b Q cells slots 1064 i w := by
  intro d0 hd0
  obtain ⟨hX, hNC, hl, hs, hb⟩ := hW.drawn d0
  unfold FLc_22 at hF
  obtain ⟨k, w1, hk, hF⟩ := bo2_e hF
  obtain ⟨q, w2, hq, hF⟩ := bo2_e hF
  refine J_aload_n hX dL_law_1064 3 rfl (t := 1065) rfl ?_
  refine J_aload_n hX dL_law_1065 4 rfl (t := 1066) rfl ?_
  refine J_iload hX dL_law_1066 0 rfl (t := 1068) rfl ?_
  refine J_iconst (v := 1) hX dL_law_1068 (by decide) (t := 1069) rfl ?_
  refine J_iadd hX dL_law_1069 (t := 1070) rfl ?_
  refine J_sld hX hs hb hA.1.1 hA.1.2 dL_law_1070 (t := 1071) rfl ?_
  refine J_aload_n hX dL_law_1071 1 rfl (t := 1072) rfl ?_
  refine J_callSW hX hNC [.ref (adr G 0 0), .int a1, .ref (adr G 16 0)] [] (ctL_earnedIn hl w a1 hk) miL_earnedIn q_1381 q_1380 ⟨rfl, rfl, Nat.le_of_ble_eq_true rfl, Nat.le_of_ble_eq_true rfl⟩ rfl rfl (Nat.le_of_ble_eq_true rfl) ⟨Nat.le_trans (Nat.add_le_add_left (m := 30) (n := 1) (Nat.le_of_ble_eq_true rfl) cells) hc, Nat.le_trans (Nat.add_le_add_left (m := 3900) (n := 6) (Nat.le_of_ble_eq_true rfl) slots) hs9⟩ dL_law_1072 (t := 1075) rfl (fun v9 => J_pure fun hv9 => ?_)
  subst hv9
  refine J_istore (lc2 := [(5, .int k), (4, .int i), (3, .ref (adr G 16 0)), (2, .ref (adr G 15 0)), (1, .ref (adr G 0 0)), (0, .ref b)]) hX dL_law_1075 (Nat.le_of_ble_eq_true rfl) rfl (t := 1077) rfl ?_
  refine J_aload_n hX dL_law_1077 3 rfl (t := 1078) rfl ?_
  refine J_aload_n hX dL_law_1078 5 rfl (t := 1079) rfl ?_
  refine J_iload hX dL_law_1079 1 rfl (t := 1081) rfl ?_
  refine J_iconst (v := 1) hX dL_law_1081 (by decide) (t := 1082) rfl ?_
  refine J_iadd hX dL_law_1082 (t := 1083) rfl ?_
  refine J_sld hX hs hb hA.1.1 hA.1.2 dL_law_1083 (t := 1084) rfl ?_
  refine J_callV hX [.int a1] [] [.int q] (ctX13_earnedIn w1 a1 n hq) miX13_earnedIn mvX13_earnedIn cb10 kModel q_2558 ⟨rfl, rfl, Nat.le_of_ble_eq_true rfl, Nat.le_of_ble_eq_true rfl⟩ rfl rfl (Nat.le_of_ble_eq_true rfl) ⟨Nat.le_trans (Nat.add_le_add_left (m := 30) (n := 1) (Nat.le_of_ble_eq_true rfl) cells) hc, Nat.le_trans (Nat.add_le_add_left (m := 3900) (n := 6) (Nat.le_of_ble_eq_true rfl) slots) hs9⟩ dL_law_1084 (t := 1087) rfl rfl ?_
  refine J_istore (lc2 := [(6, .int q), (5, .int k), (4, .int i), (3, .ref (adr G 16 0)), (2, .ref (adr G 15 0)), (1, .ref (adr G 0 0)), (0, .ref b)]) hX dL_law_1087 (Nat.le_of_ble_eq_true rfl) rfl (t := 1089) rfl ?_
  refine J_aload_n hX dL_law_1089 4 rfl (t := 1090) rfl ?_
  refine J_callV hX [] [] [.int (FX13_thrown w2)] (ctX13_thrown w2  rfl) miX13_thrown mvX13_thrown cb10 kModel q_2070 ⟨rfl, rfl, Nat.le_of_ble_eq_true rfl, Nat.le_of_ble_eq_true rfl⟩ rfl rfl (Nat.le_of_ble_eq_true rfl) ⟨Nat.le_trans (Nat.add_le_add_left (m := 30) (n := 1) (Nat.le_of_ble_eq_true rfl) cells) hc, Nat.le_trans (Nat.add_le_add_left (m := 3900) (n := 6) (Nat.le_of_ble_eq_true rfl) slots) hs9⟩ dL_law_1090 (t := 1093) rfl rfl ?_
  refine J_iload hX dL_law_1093 1 rfl (t := 1095) rfl ?_
  refine J_icmp_eq (tgt := 1100) hX dL_law_1095 (by decide) (t := 1098) rfl (fun z => ?_) (fun z => nomatch it_f hF z)
  replace hF := it_t hF z
  refine J_iload hX dL_law_1100 1 rfl (t := 1102) rfl ?_
  refine J_if_ne (tgt := 1117) hX dL_law_1102 (by decide) (t := 1105) rfl (fun z2 => ?_) (fun z2 => ?_)
  · replace hF := Option.some.inj (it_f hF z2)
    subst hF
    refine J_goto (tgt := 3183) hX dL_law_1117 (by decide) ?_
    refine J_sub (lc2 := [(4, .int i), (3, .ref (adr G 16 0)), (2, .ref (adr G 15 0)), (1, .ref (adr G 0 0)), (0, .ref b)]) [2, 3, 4, 5, 6] rfl ?_
    exact J_wid (Nat.add_le_add_left (m := 30) (n := 1) (Nat.le_of_ble_eq_true rfl) cells) (Nat.add_le_add_left (m := 3900) (n := 6) (Nat.le_of_ble_eq_true rfl) slots) (kk d0 hd0)
  · replace hF := it_t hF z2
    refine J_aload_n hX dL_law_1105 3 rfl (t := 1106) rfl ?_
    refine J_iconst (v := 0) hX dL_law_1106 (by decide) (t := 1107) rfl ?_
    refine J_lald (w := w2) (v := (w2 16).2 0 0) hX kOut (by decide) rfl dL_law_1107 (t := 1108) rfl ?_
    refine J_iload hX dL_law_1108 0 rfl (t := 1110) rfl ?_
    refine J_i2l hX dL_law_1110 (t := 1111) rfl ?_
    refine J_lcmp hX dL_law_1111 (t := 1112) rfl ?_
    refine J_if_eq (tgt := 1117) hX dL_law_1112 (by decide) (t := 1115) rfl (fun z3 => ?_) (fun z3 => nomatch it_f hF z3)
    replace hF := Option.some.inj (it_t hF z3)
    subst hF
    refine J_goto (tgt := 3183) hX dL_law_1117 (by decide) ?_
    refine J_sub (lc2 := [(4, .int i), (3, .ref (adr G 16 0)), (2, .ref (adr G 15 0)), (1, .ref (adr G 0 0)), (0, .ref b)]) [2, 3, 4, 5, 6] rfl ?_
    exact J_wid (Nat.add_le_add_left (m := 30) (n := 1) (Nat.le_of_ble_eq_true rfl) cells) (Nat.add_le_add_left (m := 3900) (n := 6) (Nat.le_of_ble_eq_true rfl) slots) (kk d0 hd0)
def FLc_23 (n : Nat) (w : Wd) (a1 a2 a3 a4 a5 : Int32) : Option Wd := bo1 (FX12_bestValley n w) fun k => bo2 (FX13_bestValley n w) fun q w2 => if k = q then some w2 else none
set_option maxHeartbeats 4000000 in
theorem cs_23 {G : GG} {p : Program} {l : Launch} {e : Env} {s : State} {m : MethodId} {args : Array Value} {below : List Frame} {meth : Method} {c : Code} {b L : Nat} {xs : Nat → Int32} {Q : State → Prop} {cells slots n : Nat} {i a1 a2 a3 a4 a5 : Int32} {w w9 : Wd} (hW : LW G p l s m args c b L xs) (hA : ARG L xs i a1 a2 a3 a4 a5) (hc : cells + 30 ≤ room_1.cells) (hs9 : slots + 3900 ≤ room_1.slots) (hF : FLc_23 n w a1 a2 a3 a4 a5 = some w9) (kk : LJ G p l e s m args below meth c b Q (cells + 30) (slots + 3900) 3183 i w9) : LJ G p l e s m args below meth c b Q cells slots 1120 i w := by
  intro d0 hd0
  obtain ⟨hX, hNC, hl, hs, hb⟩ := hW.drawn d0
  unfold FLc_23 at hF
  obtain ⟨k, hk, hF⟩ := bo1_e hF
  obtain ⟨q, w2, hq, hF⟩ := bo2_e hF
  refine J_aload_n hX dL_law_1120 3 rfl (t := 1121) rfl ?_
  refine J_callV hX [] [] [.int k] (ctX12_bestValley w  n hk) miX12_bestValley mvX12_bestValley cb9 kEcho q_664 ⟨rfl, rfl, Nat.le_of_ble_eq_true rfl, Nat.le_of_ble_eq_true rfl⟩ rfl rfl (Nat.le_of_ble_eq_true rfl) ⟨Nat.le_trans (Nat.add_le_add_left (m := 30) (n := 0) (Nat.le_of_ble_eq_true rfl) cells) hc, Nat.le_trans (Nat.add_le_add_left (m := 3900) (n := 0) (Nat.le_of_ble_eq_true rfl) slots) hs9⟩ dL_law_1121 (t := 1124) rfl rfl ?_
  refine J_aload_n hX dL_law_1124 2 rfl (t := 1125) rfl ?_
  refine J_callV hX [] [.int k] [.int q, .int k] (ctX13_bestValley w  n hq) miX13_bestValley mvX13_bestValley cb10 kModel q_2573 ⟨rfl, rfl, Nat.le_of_ble_eq_true rfl, Nat.le_of_ble_eq_true rfl⟩ rfl rfl (Nat.le_of_ble_eq_true rfl) ⟨Nat.le_trans (Nat.add_le_add_left (m := 30) (n := 0) (Nat.le_of_ble_eq_true rfl) cells) hc, Nat.le_trans (Nat.add_le_add_left (m := 3900) (n := 0) (Nat.le_of_ble_eq_true rfl) slots) hs9⟩ dL_law_1125 (t := 1128) rfl rfl ?_
  refine J_icmp_eq (tgt := 3183) hX dL_law_1128 (by decide) (t := 1131) rfl (fun z => ?_) (fun z => nomatch it_f hF z)
  replace hF := Option.some.inj (it_t hF z)
  subst hF
  exact J_wid (Nat.le_add_right cells 30) (Nat.le_add_right slots 3900) (kk d0 hd0)
def FLc_24 (n : Nat) (w : Wd) (a1 a2 a3 a4 a5 : Int32) : Option Wd := bo1 (FX12_valleyByName n w a1) fun k => bo2 (FX13_valleyByName n w a1) fun q w2 => if k = q then some w2 else none
set_option maxHeartbeats 4000000 in
theorem cs_24 {G : GG} {p : Program} {l : Launch} {e : Env} {s : State} {m : MethodId} {args : Array Value} {below : List Frame} {meth : Method} {c : Code} {b L : Nat} {xs : Nat → Int32} {Q : State → Prop} {cells slots n : Nat} {i a1 a2 a3 a4 a5 : Int32} {w w9 : Wd} (hW : LW G p l s m args c b L xs) (hA : ARG L xs i a1 a2 a3 a4 a5) (hc : cells + 30 ≤ room_1.cells) (hs9 : slots + 3900 ≤ room_1.slots) (hF : FLc_24 n w a1 a2 a3 a4 a5 = some w9) (kk : LJ G p l e s m args below meth c b Q (cells + 30) (slots + 3900) 3183 i w9) : LJ G p l e s m args below meth c b Q cells slots 1133 i w := by
  intro d0 hd0
  obtain ⟨hX, hNC, hl, hs, hb⟩ := hW.drawn d0
  unfold FLc_24 at hF
  obtain ⟨k, hk, hF⟩ := bo1_e hF
  obtain ⟨q, w2, hq, hF⟩ := bo2_e hF
  refine J_aload_n hX dL_law_1133 3 rfl (t := 1134) rfl ?_
  refine J_aload_n hX dL_law_1134 4 rfl (t := 1135) rfl ?_
  refine J_iload hX dL_law_1135 0 rfl (t := 1137) rfl ?_
  refine J_iconst (v := 1) hX dL_law_1137 (by decide) (t := 1138) rfl ?_
  refine J_iadd hX dL_law_1138 (t := 1139) rfl ?_
  refine J_sld hX hs hb hA.1.1 hA.1.2 dL_law_1139 (t := 1140) rfl ?_
  refine J_callV hX [.int a1] [] [.int k] (ctX12_valleyByName w a1 n hk) miX12_valleyByName mvX12_valleyByName cb9 kEcho q_675 ⟨rfl, rfl, Nat.le_of_ble_eq_true rfl, Nat.le_of_ble_eq_true rfl⟩ rfl rfl (Nat.le_of_ble_eq_true rfl) ⟨Nat.le_trans (Nat.add_le_add_left (m := 30) (n := 0) (Nat.le_of_ble_eq_true rfl) cells) hc, Nat.le_trans (Nat.add_le_add_left (m := 3900) (n := 0) (Nat.le_of_ble_eq_true rfl) slots) hs9⟩ dL_law_1140 (t := 1143) rfl rfl ?_
  refine J_aload_n hX dL_law_1143 2 rfl (t := 1144) rfl ?_
  refine J_aload_n hX dL_law_1144 4 rfl (t := 1145) rfl ?_
  refine J_iload hX dL_law_1145 0 rfl (t := 1147) rfl ?_
  refine J_iconst (v := 1) hX dL_law_1147 (by decide) (t := 1148) rfl ?_
  refine J_iadd hX dL_law_1148 (t := 1149) rfl ?_
  refine J_sld hX hs hb hA.1.1 hA.1.2 dL_law_1149 (t := 1150) rfl ?_
  refine J_callV hX [.int a1] [.int k] [.int q, .int k] (ctX13_valleyByName w a1 n hq) miX13_valleyByName mvX13_valleyByName cb10 kModel q_2581 ⟨rfl, rfl, Nat.le_of_ble_eq_true rfl, Nat.le_of_ble_eq_true rfl⟩ rfl rfl (Nat.le_of_ble_eq_true rfl) ⟨Nat.le_trans (Nat.add_le_add_left (m := 30) (n := 0) (Nat.le_of_ble_eq_true rfl) cells) hc, Nat.le_trans (Nat.add_le_add_left (m := 3900) (n := 0) (Nat.le_of_ble_eq_true rfl) slots) hs9⟩ dL_law_1150 (t := 1153) rfl rfl ?_
  refine J_icmp_eq (tgt := 3183) hX dL_law_1153 (by decide) (t := 1156) rfl (fun z => ?_) (fun z => nomatch it_f hF z)
  replace hF := Option.some.inj (it_t hF z)
  subst hF
  exact J_wid (Nat.le_add_right cells 30) (Nat.le_add_right slots 3900) (kk d0 hd0)
def FLc_25 (n : Nat) (w : Wd) (a1 a2 a3 a4 a5 : Int32) : Option Wd := bo1 (FX12_findCustomer n w) fun k => bo2 (FX13_findCustomer n w) fun q w2 => if k = q then some w2 else none
set_option maxHeartbeats 4000000 in
theorem cs_25 {G : GG} {p : Program} {l : Launch} {e : Env} {s : State} {m : MethodId} {args : Array Value} {below : List Frame} {meth : Method} {c : Code} {b L : Nat} {xs : Nat → Int32} {Q : State → Prop} {cells slots n : Nat} {i a1 a2 a3 a4 a5 : Int32} {w w9 : Wd} (hW : LW G p l s m args c b L xs) (hA : ARG L xs i a1 a2 a3 a4 a5) (hc : cells + 30 ≤ room_1.cells) (hs9 : slots + 3900 ≤ room_1.slots) (hF : FLc_25 n w a1 a2 a3 a4 a5 = some w9) (kk : LJ G p l e s m args below meth c b Q (cells + 30) (slots + 3900) 3183 i w9) : LJ G p l e s m args below meth c b Q cells slots 1158 i w := by
  intro d0 hd0
  obtain ⟨hX, hNC, hl, hs, hb⟩ := hW.drawn d0
  unfold FLc_25 at hF
  obtain ⟨k, hk, hF⟩ := bo1_e hF
  obtain ⟨q, w2, hq, hF⟩ := bo2_e hF
  refine J_aload_n hX dL_law_1158 3 rfl (t := 1159) rfl ?_
  refine J_callV hX [] [] [.int k] (ctX12_findCustomer w  n hk) miX12_findCustomer mvX12_findCustomer cb9 kEcho q_687 ⟨rfl, rfl, Nat.le_of_ble_eq_true rfl, Nat.le_of_ble_eq_true rfl⟩ rfl rfl (Nat.le_of_ble_eq_true rfl) ⟨Nat.le_trans (Nat.add_le_add_left (m := 30) (n := 0) (Nat.le_of_ble_eq_true rfl) cells) hc, Nat.le_trans (Nat.add_le_add_left (m := 3900) (n := 0) (Nat.le_of_ble_eq_true rfl) slots) hs9⟩ dL_law_1159 (t := 1162) rfl rfl ?_
  refine J_aload_n hX dL_law_1162 2 rfl (t := 1163) rfl ?_
  refine J_callV hX [] [.int k] [.int q, .int k] (ctX13_findCustomer w  n hq) miX13_findCustomer mvX13_findCustomer cb10 kModel q_2593 ⟨rfl, rfl, Nat.le_of_ble_eq_true rfl, Nat.le_of_ble_eq_true rfl⟩ rfl rfl (Nat.le_of_ble_eq_true rfl) ⟨Nat.le_trans (Nat.add_le_add_left (m := 30) (n := 0) (Nat.le_of_ble_eq_true rfl) cells) hc, Nat.le_trans (Nat.add_le_add_left (m := 3900) (n := 0) (Nat.le_of_ble_eq_true rfl) slots) hs9⟩ dL_law_1163 (t := 1166) rfl rfl ?_
  refine J_icmp_eq (tgt := 3183) hX dL_law_1166 (by decide) (t := 1169) rfl (fun z => ?_) (fun z => nomatch it_f hF z)
  replace hF := Option.some.inj (it_t hF z)
  subst hF
  exact J_wid (Nat.le_add_right cells 30) (Nat.le_add_right slots 3900) (kk d0 hd0)
def FLc_26 (n : Nat) (w : Wd) (a1 a2 a3 a4 a5 : Int32) : Option Wd := bo2 (FL_money w a1) fun k w1 => bo2 (FX13_money w1 a1) fun q w2 => if FX13_thrown w2 = k then (if k = 0 then (if lg_cmp ((w2 16).2 0 0) q.toInt64 = 0 then some w2 else none) else some w2) else none
set_option maxHeartbeats 4000000 in
theorem cs_26 {G : GG} {p : Program} {l : Launch} {e : Env} {s : State} {m : MethodId} {args : Array Value} {below : List Frame} {meth : Method} {c : Code} {b L : Nat} {xs : Nat → Int32} {Q : State → Prop} {cells slots n : Nat} {i a1 a2 a3 a4 a5 : Int32} {w w9 : Wd} (hW : LW G p l s m args c b L xs) (hA : ARG L xs i a1 a2 a3 a4 a5) (hc : cells + 30 ≤ room_1.cells) (hs9 : slots + 3900 ≤ room_1.slots) (hF : FLc_26 n w a1 a2 a3 a4 a5 = some w9) (kk : LJ G p l e s m args below meth c b Q (cells + 30) (slots + 3900) 3183 i w9) : LJ G p l e s m args below meth c b Q cells slots 1171 i w := by
  intro d0 hd0
  obtain ⟨hX, hNC, hl, hs, hb⟩ := hW.drawn d0
  unfold FLc_26 at hF
  obtain ⟨k, w1, hk, hF⟩ := bo2_e hF
  obtain ⟨q, w2, hq, hF⟩ := bo2_e hF
  refine J_aload_n hX dL_law_1171 3 rfl (t := 1172) rfl ?_
  refine J_aload_n hX dL_law_1172 4 rfl (t := 1173) rfl ?_
  refine J_iload hX dL_law_1173 0 rfl (t := 1175) rfl ?_
  refine J_iconst (v := 1) hX dL_law_1175 (by decide) (t := 1176) rfl ?_
  refine J_iadd hX dL_law_1176 (t := 1177) rfl ?_
  refine J_sld hX hs hb hA.1.1 hA.1.2 dL_law_1177 (t := 1178) rfl ?_
  refine J_aload_n hX dL_law_1178 1 rfl (t := 1179) rfl ?_
  refine J_callSW hX hNC [.ref (adr G 0 0), .int a1, .ref (adr G 16 0)] [] (ctL_money hl w a1 hk) miL_money q_1388 q_1387 ⟨rfl, rfl, Nat.le_of_ble_eq_true rfl, Nat.le_of_ble_eq_true rfl⟩ rfl rfl (Nat.le_of_ble_eq_true rfl) ⟨Nat.le_trans (Nat.add_le_add_left (m := 30) (n := 1) (Nat.le_of_ble_eq_true rfl) cells) hc, Nat.le_trans (Nat.add_le_add_left (m := 3900) (n := 6) (Nat.le_of_ble_eq_true rfl) slots) hs9⟩ dL_law_1179 (t := 1182) rfl (fun v9 => J_pure fun hv9 => ?_)
  subst hv9
  refine J_istore (lc2 := [(5, .int k), (4, .int i), (3, .ref (adr G 16 0)), (2, .ref (adr G 15 0)), (1, .ref (adr G 0 0)), (0, .ref b)]) hX dL_law_1182 (Nat.le_of_ble_eq_true rfl) rfl (t := 1184) rfl ?_
  refine J_aload_n hX dL_law_1184 3 rfl (t := 1185) rfl ?_
  refine J_aload_n hX dL_law_1185 5 rfl (t := 1186) rfl ?_
  refine J_iload hX dL_law_1186 1 rfl (t := 1188) rfl ?_
  refine J_iconst (v := 1) hX dL_law_1188 (by decide) (t := 1189) rfl ?_
  refine J_iadd hX dL_law_1189 (t := 1190) rfl ?_
  refine J_sld hX hs hb hA.1.1 hA.1.2 dL_law_1190 (t := 1191) rfl ?_
  refine J_callV hX [.int a1] [] [.int q] (ctX13_money w1 a1 hq) miX13_money mvX13_money cb10 kModel q_2597 ⟨rfl, rfl, Nat.le_of_ble_eq_true rfl, Nat.le_of_ble_eq_true rfl⟩ rfl rfl (Nat.le_of_ble_eq_true rfl) ⟨Nat.le_trans (Nat.add_le_add_left (m := 30) (n := 1) (Nat.le_of_ble_eq_true rfl) cells) hc, Nat.le_trans (Nat.add_le_add_left (m := 3900) (n := 6) (Nat.le_of_ble_eq_true rfl) slots) hs9⟩ dL_law_1191 (t := 1194) rfl rfl ?_
  refine J_istore (lc2 := [(6, .int q), (5, .int k), (4, .int i), (3, .ref (adr G 16 0)), (2, .ref (adr G 15 0)), (1, .ref (adr G 0 0)), (0, .ref b)]) hX dL_law_1194 (Nat.le_of_ble_eq_true rfl) rfl (t := 1196) rfl ?_
  refine J_aload_n hX dL_law_1196 4 rfl (t := 1197) rfl ?_
  refine J_callV hX [] [] [.int (FX13_thrown w2)] (ctX13_thrown w2  rfl) miX13_thrown mvX13_thrown cb10 kModel q_2070 ⟨rfl, rfl, Nat.le_of_ble_eq_true rfl, Nat.le_of_ble_eq_true rfl⟩ rfl rfl (Nat.le_of_ble_eq_true rfl) ⟨Nat.le_trans (Nat.add_le_add_left (m := 30) (n := 1) (Nat.le_of_ble_eq_true rfl) cells) hc, Nat.le_trans (Nat.add_le_add_left (m := 3900) (n := 6) (Nat.le_of_ble_eq_true rfl) slots) hs9⟩ dL_law_1197 (t := 1200) rfl rfl ?_
  refine J_iload hX dL_law_1200 1 rfl (t := 1202) rfl ?_
  refine J_icmp_eq (tgt := 1207) hX dL_law_1202 (by decide) (t := 1205) rfl (fun z => ?_) (fun z => nomatch it_f hF z)
  replace hF := it_t hF z
  refine J_iload hX dL_law_1207 1 rfl (t := 1209) rfl ?_
  refine J_if_ne (tgt := 1224) hX dL_law_1209 (by decide) (t := 1212) rfl (fun z2 => ?_) (fun z2 => ?_)
  · replace hF := Option.some.inj (it_f hF z2)
    subst hF
    refine J_goto (tgt := 3183) hX dL_law_1224 (by decide) ?_
    refine J_sub (lc2 := [(4, .int i), (3, .ref (adr G 16 0)), (2, .ref (adr G 15 0)), (1, .ref (adr G 0 0)), (0, .ref b)]) [2, 3, 4, 5, 6] rfl ?_
    exact J_wid (Nat.add_le_add_left (m := 30) (n := 1) (Nat.le_of_ble_eq_true rfl) cells) (Nat.add_le_add_left (m := 3900) (n := 6) (Nat.le_of_ble_eq_true rfl) slots) (kk d0 hd0)
  · replace hF := it_t hF z2
    refine J_aload_n hX dL_law_1212 3 rfl (t := 1213) rfl ?_
    refine J_iconst (v := 0) hX dL_law_1213 (by decide) (t := 1214) rfl ?_
    refine J_lald (w := w2) (v := (w2 16).2 0 0) hX kOut (by decide) rfl dL_law_1214 (t := 1215) rfl ?_
    refine J_iload hX dL_law_1215 0 rfl (t := 1217) rfl ?_
    refine J_i2l hX dL_law_1217 (t := 1218) rfl ?_
    refine J_lcmp hX dL_law_1218 (t := 1219) rfl ?_
    refine J_if_eq (tgt := 1224) hX dL_law_1219 (by decide) (t := 1222) rfl (fun z3 => ?_) (fun z3 => nomatch it_f hF z3)
    replace hF := Option.some.inj (it_t hF z3)
    subst hF
    refine J_goto (tgt := 3183) hX dL_law_1224 (by decide) ?_
    refine J_sub (lc2 := [(4, .int i), (3, .ref (adr G 16 0)), (2, .ref (adr G 15 0)), (1, .ref (adr G 0 0)), (0, .ref b)]) [2, 3, 4, 5, 6] rfl ?_
    exact J_wid (Nat.add_le_add_left (m := 30) (n := 1) (Nat.le_of_ble_eq_true rfl) cells) (Nat.add_le_add_left (m := 3900) (n := 6) (Nat.le_of_ble_eq_true rfl) slots) (kk d0 hd0)
def FLc_27 (n : Nat) (w : Wd) (a1 a2 a3 a4 a5 : Int32) : Option Wd := bo2 (FL_patience w a1) fun k w1 => bo2 (FX13_patience w1 a1) fun q w2 => if FX13_thrown w2 = k then (if k = 0 then (if lg_cmp ((w2 16).2 0 0) q.toInt64 = 0 then some w2 else none) else some w2) else none
set_option maxHeartbeats 4000000 in
theorem cs_27 {G : GG} {p : Program} {l : Launch} {e : Env} {s : State} {m : MethodId} {args : Array Value} {below : List Frame} {meth : Method} {c : Code} {b L : Nat} {xs : Nat → Int32} {Q : State → Prop} {cells slots n : Nat} {i a1 a2 a3 a4 a5 : Int32} {w w9 : Wd} (hW : LW G p l s m args c b L xs) (hA : ARG L xs i a1 a2 a3 a4 a5) (hc : cells + 30 ≤ room_1.cells) (hs9 : slots + 3900 ≤ room_1.slots) (hF : FLc_27 n w a1 a2 a3 a4 a5 = some w9) (kk : LJ G p l e s m args below meth c b Q (cells + 30) (slots + 3900) 3183 i w9) : LJ G p l e s m args below meth c b Q cells slots 1227 i w := by
  intro d0 hd0
  obtain ⟨hX, hNC, hl, hs, hb⟩ := hW.drawn d0
  unfold FLc_27 at hF
  obtain ⟨k, w1, hk, hF⟩ := bo2_e hF
  obtain ⟨q, w2, hq, hF⟩ := bo2_e hF
  refine J_aload_n hX dL_law_1227 3 rfl (t := 1228) rfl ?_
  refine J_aload_n hX dL_law_1228 4 rfl (t := 1229) rfl ?_
  refine J_iload hX dL_law_1229 0 rfl (t := 1231) rfl ?_
  refine J_iconst (v := 1) hX dL_law_1231 (by decide) (t := 1232) rfl ?_
  refine J_iadd hX dL_law_1232 (t := 1233) rfl ?_
  refine J_sld hX hs hb hA.1.1 hA.1.2 dL_law_1233 (t := 1234) rfl ?_
  refine J_aload_n hX dL_law_1234 1 rfl (t := 1235) rfl ?_
  refine J_callSW hX hNC [.ref (adr G 0 0), .int a1, .ref (adr G 16 0)] [] (ctL_patience hl w a1 hk) miL_patience q_1400 q_1399 ⟨rfl, rfl, Nat.le_of_ble_eq_true rfl, Nat.le_of_ble_eq_true rfl⟩ rfl rfl (Nat.le_of_ble_eq_true rfl) ⟨Nat.le_trans (Nat.add_le_add_left (m := 30) (n := 1) (Nat.le_of_ble_eq_true rfl) cells) hc, Nat.le_trans (Nat.add_le_add_left (m := 3900) (n := 6) (Nat.le_of_ble_eq_true rfl) slots) hs9⟩ dL_law_1235 (t := 1238) rfl (fun v9 => J_pure fun hv9 => ?_)
  subst hv9
  refine J_istore (lc2 := [(5, .int k), (4, .int i), (3, .ref (adr G 16 0)), (2, .ref (adr G 15 0)), (1, .ref (adr G 0 0)), (0, .ref b)]) hX dL_law_1238 (Nat.le_of_ble_eq_true rfl) rfl (t := 1240) rfl ?_
  refine J_aload_n hX dL_law_1240 3 rfl (t := 1241) rfl ?_
  refine J_aload_n hX dL_law_1241 5 rfl (t := 1242) rfl ?_
  refine J_iload hX dL_law_1242 1 rfl (t := 1244) rfl ?_
  refine J_iconst (v := 1) hX dL_law_1244 (by decide) (t := 1245) rfl ?_
  refine J_iadd hX dL_law_1245 (t := 1246) rfl ?_
  refine J_sld hX hs hb hA.1.1 hA.1.2 dL_law_1246 (t := 1247) rfl ?_
  refine J_callV hX [.int a1] [] [.int q] (ctX13_patience w1 a1 hq) miX13_patience mvX13_patience cb10 kModel q_2605 ⟨rfl, rfl, Nat.le_of_ble_eq_true rfl, Nat.le_of_ble_eq_true rfl⟩ rfl rfl (Nat.le_of_ble_eq_true rfl) ⟨Nat.le_trans (Nat.add_le_add_left (m := 30) (n := 1) (Nat.le_of_ble_eq_true rfl) cells) hc, Nat.le_trans (Nat.add_le_add_left (m := 3900) (n := 6) (Nat.le_of_ble_eq_true rfl) slots) hs9⟩ dL_law_1247 (t := 1250) rfl rfl ?_
  refine J_istore (lc2 := [(6, .int q), (5, .int k), (4, .int i), (3, .ref (adr G 16 0)), (2, .ref (adr G 15 0)), (1, .ref (adr G 0 0)), (0, .ref b)]) hX dL_law_1250 (Nat.le_of_ble_eq_true rfl) rfl (t := 1252) rfl ?_
  refine J_aload_n hX dL_law_1252 4 rfl (t := 1253) rfl ?_
  refine J_callV hX [] [] [.int (FX13_thrown w2)] (ctX13_thrown w2  rfl) miX13_thrown mvX13_thrown cb10 kModel q_2070 ⟨rfl, rfl, Nat.le_of_ble_eq_true rfl, Nat.le_of_ble_eq_true rfl⟩ rfl rfl (Nat.le_of_ble_eq_true rfl) ⟨Nat.le_trans (Nat.add_le_add_left (m := 30) (n := 1) (Nat.le_of_ble_eq_true rfl) cells) hc, Nat.le_trans (Nat.add_le_add_left (m := 3900) (n := 6) (Nat.le_of_ble_eq_true rfl) slots) hs9⟩ dL_law_1253 (t := 1256) rfl rfl ?_
  refine J_iload hX dL_law_1256 1 rfl (t := 1258) rfl ?_
  refine J_icmp_eq (tgt := 1263) hX dL_law_1258 (by decide) (t := 1261) rfl (fun z => ?_) (fun z => nomatch it_f hF z)
  replace hF := it_t hF z
  refine J_iload hX dL_law_1263 1 rfl (t := 1265) rfl ?_
  refine J_if_ne (tgt := 1280) hX dL_law_1265 (by decide) (t := 1268) rfl (fun z2 => ?_) (fun z2 => ?_)
  · replace hF := Option.some.inj (it_f hF z2)
    subst hF
    refine J_goto (tgt := 3183) hX dL_law_1280 (by decide) ?_
    refine J_sub (lc2 := [(4, .int i), (3, .ref (adr G 16 0)), (2, .ref (adr G 15 0)), (1, .ref (adr G 0 0)), (0, .ref b)]) [2, 3, 4, 5, 6] rfl ?_
    exact J_wid (Nat.add_le_add_left (m := 30) (n := 1) (Nat.le_of_ble_eq_true rfl) cells) (Nat.add_le_add_left (m := 3900) (n := 6) (Nat.le_of_ble_eq_true rfl) slots) (kk d0 hd0)
  · replace hF := it_t hF z2
    refine J_aload_n hX dL_law_1268 3 rfl (t := 1269) rfl ?_
    refine J_iconst (v := 0) hX dL_law_1269 (by decide) (t := 1270) rfl ?_
    refine J_lald (w := w2) (v := (w2 16).2 0 0) hX kOut (by decide) rfl dL_law_1270 (t := 1271) rfl ?_
    refine J_iload hX dL_law_1271 0 rfl (t := 1273) rfl ?_
    refine J_i2l hX dL_law_1273 (t := 1274) rfl ?_
    refine J_lcmp hX dL_law_1274 (t := 1275) rfl ?_
    refine J_if_eq (tgt := 1280) hX dL_law_1275 (by decide) (t := 1278) rfl (fun z3 => ?_) (fun z3 => nomatch it_f hF z3)
    replace hF := Option.some.inj (it_t hF z3)
    subst hF
    refine J_goto (tgt := 3183) hX dL_law_1280 (by decide) ?_
    refine J_sub (lc2 := [(4, .int i), (3, .ref (adr G 16 0)), (2, .ref (adr G 15 0)), (1, .ref (adr G 0 0)), (0, .ref b)]) [2, 3, 4, 5, 6] rfl ?_
    exact J_wid (Nat.add_le_add_left (m := 30) (n := 1) (Nat.le_of_ble_eq_true rfl) cells) (Nat.add_le_add_left (m := 3900) (n := 6) (Nat.le_of_ble_eq_true rfl) slots) (kk d0 hd0)
def FLc_28 (n : Nat) (w : Wd) (a1 a2 a3 a4 a5 : Int32) : Option Wd := bo2 (FL_suspicion w a1) fun k w1 => bo2 (FX13_suspicion w1 a1) fun q w2 => if FX13_thrown w2 = k then (if k = 0 then (if lg_cmp ((w2 16).2 0 0) q.toInt64 = 0 then some w2 else none) else some w2) else none
set_option maxHeartbeats 4000000 in
theorem cs_28 {G : GG} {p : Program} {l : Launch} {e : Env} {s : State} {m : MethodId} {args : Array Value} {below : List Frame} {meth : Method} {c : Code} {b L : Nat} {xs : Nat → Int32} {Q : State → Prop} {cells slots n : Nat} {i a1 a2 a3 a4 a5 : Int32} {w w9 : Wd} (hW : LW G p l s m args c b L xs) (hA : ARG L xs i a1 a2 a3 a4 a5) (hc : cells + 30 ≤ room_1.cells) (hs9 : slots + 3900 ≤ room_1.slots) (hF : FLc_28 n w a1 a2 a3 a4 a5 = some w9) (kk : LJ G p l e s m args below meth c b Q (cells + 30) (slots + 3900) 3183 i w9) : LJ G p l e s m args below meth c b Q cells slots 1283 i w := by
  intro d0 hd0
  obtain ⟨hX, hNC, hl, hs, hb⟩ := hW.drawn d0
  unfold FLc_28 at hF
  obtain ⟨k, w1, hk, hF⟩ := bo2_e hF
  obtain ⟨q, w2, hq, hF⟩ := bo2_e hF
  refine J_aload_n hX dL_law_1283 3 rfl (t := 1284) rfl ?_
  refine J_aload_n hX dL_law_1284 4 rfl (t := 1285) rfl ?_
  refine J_iload hX dL_law_1285 0 rfl (t := 1287) rfl ?_
  refine J_iconst (v := 1) hX dL_law_1287 (by decide) (t := 1288) rfl ?_
  refine J_iadd hX dL_law_1288 (t := 1289) rfl ?_
  refine J_sld hX hs hb hA.1.1 hA.1.2 dL_law_1289 (t := 1290) rfl ?_
  refine J_aload_n hX dL_law_1290 1 rfl (t := 1291) rfl ?_
  refine J_callSW hX hNC [.ref (adr G 0 0), .int a1, .ref (adr G 16 0)] [] (ctL_suspicion hl w a1 hk) miL_suspicion q_1407 q_1406 ⟨rfl, rfl, Nat.le_of_ble_eq_true rfl, Nat.le_of_ble_eq_true rfl⟩ rfl rfl (Nat.le_of_ble_eq_true rfl) ⟨Nat.le_trans (Nat.add_le_add_left (m := 30) (n := 1) (Nat.le_of_ble_eq_true rfl) cells) hc, Nat.le_trans (Nat.add_le_add_left (m := 3900) (n := 6) (Nat.le_of_ble_eq_true rfl) slots) hs9⟩ dL_law_1291 (t := 1294) rfl (fun v9 => J_pure fun hv9 => ?_)
  subst hv9
  refine J_istore (lc2 := [(5, .int k), (4, .int i), (3, .ref (adr G 16 0)), (2, .ref (adr G 15 0)), (1, .ref (adr G 0 0)), (0, .ref b)]) hX dL_law_1294 (Nat.le_of_ble_eq_true rfl) rfl (t := 1296) rfl ?_
  refine J_aload_n hX dL_law_1296 3 rfl (t := 1297) rfl ?_
  refine J_aload_n hX dL_law_1297 5 rfl (t := 1298) rfl ?_
  refine J_iload hX dL_law_1298 1 rfl (t := 1300) rfl ?_
  refine J_iconst (v := 1) hX dL_law_1300 (by decide) (t := 1301) rfl ?_
  refine J_iadd hX dL_law_1301 (t := 1302) rfl ?_
  refine J_sld hX hs hb hA.1.1 hA.1.2 dL_law_1302 (t := 1303) rfl ?_
  refine J_callV hX [.int a1] [] [.int q] (ctX13_suspicion w1 a1 hq) miX13_suspicion mvX13_suspicion cb10 kModel q_2609 ⟨rfl, rfl, Nat.le_of_ble_eq_true rfl, Nat.le_of_ble_eq_true rfl⟩ rfl rfl (Nat.le_of_ble_eq_true rfl) ⟨Nat.le_trans (Nat.add_le_add_left (m := 30) (n := 1) (Nat.le_of_ble_eq_true rfl) cells) hc, Nat.le_trans (Nat.add_le_add_left (m := 3900) (n := 6) (Nat.le_of_ble_eq_true rfl) slots) hs9⟩ dL_law_1303 (t := 1306) rfl rfl ?_
  refine J_istore (lc2 := [(6, .int q), (5, .int k), (4, .int i), (3, .ref (adr G 16 0)), (2, .ref (adr G 15 0)), (1, .ref (adr G 0 0)), (0, .ref b)]) hX dL_law_1306 (Nat.le_of_ble_eq_true rfl) rfl (t := 1308) rfl ?_
  refine J_aload_n hX dL_law_1308 4 rfl (t := 1309) rfl ?_
  refine J_callV hX [] [] [.int (FX13_thrown w2)] (ctX13_thrown w2  rfl) miX13_thrown mvX13_thrown cb10 kModel q_2070 ⟨rfl, rfl, Nat.le_of_ble_eq_true rfl, Nat.le_of_ble_eq_true rfl⟩ rfl rfl (Nat.le_of_ble_eq_true rfl) ⟨Nat.le_trans (Nat.add_le_add_left (m := 30) (n := 1) (Nat.le_of_ble_eq_true rfl) cells) hc, Nat.le_trans (Nat.add_le_add_left (m := 3900) (n := 6) (Nat.le_of_ble_eq_true rfl) slots) hs9⟩ dL_law_1309 (t := 1312) rfl rfl ?_
  refine J_iload hX dL_law_1312 1 rfl (t := 1314) rfl ?_
  refine J_icmp_eq (tgt := 1319) hX dL_law_1314 (by decide) (t := 1317) rfl (fun z => ?_) (fun z => nomatch it_f hF z)
  replace hF := it_t hF z
  refine J_iload hX dL_law_1319 1 rfl (t := 1321) rfl ?_
  refine J_if_ne (tgt := 1336) hX dL_law_1321 (by decide) (t := 1324) rfl (fun z2 => ?_) (fun z2 => ?_)
  · replace hF := Option.some.inj (it_f hF z2)
    subst hF
    refine J_goto (tgt := 3183) hX dL_law_1336 (by decide) ?_
    refine J_sub (lc2 := [(4, .int i), (3, .ref (adr G 16 0)), (2, .ref (adr G 15 0)), (1, .ref (adr G 0 0)), (0, .ref b)]) [2, 3, 4, 5, 6] rfl ?_
    exact J_wid (Nat.add_le_add_left (m := 30) (n := 1) (Nat.le_of_ble_eq_true rfl) cells) (Nat.add_le_add_left (m := 3900) (n := 6) (Nat.le_of_ble_eq_true rfl) slots) (kk d0 hd0)
  · replace hF := it_t hF z2
    refine J_aload_n hX dL_law_1324 3 rfl (t := 1325) rfl ?_
    refine J_iconst (v := 0) hX dL_law_1325 (by decide) (t := 1326) rfl ?_
    refine J_lald (w := w2) (v := (w2 16).2 0 0) hX kOut (by decide) rfl dL_law_1326 (t := 1327) rfl ?_
    refine J_iload hX dL_law_1327 0 rfl (t := 1329) rfl ?_
    refine J_i2l hX dL_law_1329 (t := 1330) rfl ?_
    refine J_lcmp hX dL_law_1330 (t := 1331) rfl ?_
    refine J_if_eq (tgt := 1336) hX dL_law_1331 (by decide) (t := 1334) rfl (fun z3 => ?_) (fun z3 => nomatch it_f hF z3)
    replace hF := Option.some.inj (it_t hF z3)
    subst hF
    refine J_goto (tgt := 3183) hX dL_law_1336 (by decide) ?_
    refine J_sub (lc2 := [(4, .int i), (3, .ref (adr G 16 0)), (2, .ref (adr G 15 0)), (1, .ref (adr G 0 0)), (0, .ref b)]) [2, 3, 4, 5, 6] rfl ?_
    exact J_wid (Nat.add_le_add_left (m := 30) (n := 1) (Nat.le_of_ble_eq_true rfl) cells) (Nat.add_le_add_left (m := 3900) (n := 6) (Nat.le_of_ble_eq_true rfl) slots) (kk d0 hd0)
def FLc_29 (n : Nat) (w : Wd) (a1 a2 a3 a4 a5 : Int32) : Option Wd := bo2 (FL_isAngry w a1) fun k w1 => bo2 (FX13_isAngry w1 a1) fun q w2 => if FX13_thrown w2 = k then (if k = 0 then (if lg_cmp ((w2 16).2 0 0) (bI q).toInt64 = 0 then some w2 else none) else some w2) else none
set_option maxHeartbeats 4000000 in
theorem cs_29 {G : GG} {p : Program} {l : Launch} {e : Env} {s : State} {m : MethodId} {args : Array Value} {below : List Frame} {meth : Method} {c : Code} {b L : Nat} {xs : Nat → Int32} {Q : State → Prop} {cells slots n : Nat} {i a1 a2 a3 a4 a5 : Int32} {w w9 : Wd} (hW : LW G p l s m args c b L xs) (hA : ARG L xs i a1 a2 a3 a4 a5) (hc : cells + 30 ≤ room_1.cells) (hs9 : slots + 3900 ≤ room_1.slots) (hF : FLc_29 n w a1 a2 a3 a4 a5 = some w9) (kk : LJ G p l e s m args below meth c b Q (cells + 30) (slots + 3900) 3183 i w9) : LJ G p l e s m args below meth c b Q cells slots 1339 i w := by
  intro d0 hd0
  obtain ⟨hX, hNC, hl, hs, hb⟩ := hW.drawn d0
  unfold FLc_29 at hF
  obtain ⟨k, w1, hk, hF⟩ := bo2_e hF
  obtain ⟨q, w2, hq, hF⟩ := bo2_e hF
  refine J_aload_n hX dL_law_1339 3 rfl (t := 1340) rfl ?_
  refine J_aload_n hX dL_law_1340 4 rfl (t := 1341) rfl ?_
  refine J_iload hX dL_law_1341 0 rfl (t := 1343) rfl ?_
  refine J_iconst (v := 1) hX dL_law_1343 (by decide) (t := 1344) rfl ?_
  refine J_iadd hX dL_law_1344 (t := 1345) rfl ?_
  refine J_sld hX hs hb hA.1.1 hA.1.2 dL_law_1345 (t := 1346) rfl ?_
  refine J_aload_n hX dL_law_1346 1 rfl (t := 1347) rfl ?_
  refine J_callSW hX hNC [.ref (adr G 0 0), .int a1, .ref (adr G 16 0)] [] (ctL_isAngry hl w a1 hk) miL_isAngry q_1414 q_1413 ⟨rfl, rfl, Nat.le_of_ble_eq_true rfl, Nat.le_of_ble_eq_true rfl⟩ rfl rfl (Nat.le_of_ble_eq_true rfl) ⟨Nat.le_trans (Nat.add_le_add_left (m := 30) (n := 1) (Nat.le_of_ble_eq_true rfl) cells) hc, Nat.le_trans (Nat.add_le_add_left (m := 3900) (n := 6) (Nat.le_of_ble_eq_true rfl) slots) hs9⟩ dL_law_1347 (t := 1350) rfl (fun v9 => J_pure fun hv9 => ?_)
  subst hv9
  refine J_istore (lc2 := [(5, .int k), (4, .int i), (3, .ref (adr G 16 0)), (2, .ref (adr G 15 0)), (1, .ref (adr G 0 0)), (0, .ref b)]) hX dL_law_1350 (Nat.le_of_ble_eq_true rfl) rfl (t := 1352) rfl ?_
  refine J_aload_n hX dL_law_1352 3 rfl (t := 1353) rfl ?_
  refine J_aload_n hX dL_law_1353 5 rfl (t := 1354) rfl ?_
  refine J_iload hX dL_law_1354 1 rfl (t := 1356) rfl ?_
  refine J_iconst (v := 1) hX dL_law_1356 (by decide) (t := 1357) rfl ?_
  refine J_iadd hX dL_law_1357 (t := 1358) rfl ?_
  refine J_sld hX hs hb hA.1.1 hA.1.2 dL_law_1358 (t := 1359) rfl ?_
  refine J_callV hX [.int a1] [] [.int (bI q)] (ctX13_isAngry w1 a1 hq) miX13_isAngry mvX13_isAngry cb10 kModel q_2613 ⟨rfl, rfl, Nat.le_of_ble_eq_true rfl, Nat.le_of_ble_eq_true rfl⟩ rfl rfl (Nat.le_of_ble_eq_true rfl) ⟨Nat.le_trans (Nat.add_le_add_left (m := 30) (n := 1) (Nat.le_of_ble_eq_true rfl) cells) hc, Nat.le_trans (Nat.add_le_add_left (m := 3900) (n := 6) (Nat.le_of_ble_eq_true rfl) slots) hs9⟩ dL_law_1359 (t := 1362) rfl rfl ?_
  refine J_istore (lc2 := [(6, .int (bI q)), (5, .int k), (4, .int i), (3, .ref (adr G 16 0)), (2, .ref (adr G 15 0)), (1, .ref (adr G 0 0)), (0, .ref b)]) hX dL_law_1362 (Nat.le_of_ble_eq_true rfl) rfl (t := 1364) rfl ?_
  refine J_aload_n hX dL_law_1364 4 rfl (t := 1365) rfl ?_
  refine J_callV hX [] [] [.int (FX13_thrown w2)] (ctX13_thrown w2  rfl) miX13_thrown mvX13_thrown cb10 kModel q_2070 ⟨rfl, rfl, Nat.le_of_ble_eq_true rfl, Nat.le_of_ble_eq_true rfl⟩ rfl rfl (Nat.le_of_ble_eq_true rfl) ⟨Nat.le_trans (Nat.add_le_add_left (m := 30) (n := 1) (Nat.le_of_ble_eq_true rfl) cells) hc, Nat.le_trans (Nat.add_le_add_left (m := 3900) (n := 6) (Nat.le_of_ble_eq_true rfl) slots) hs9⟩ dL_law_1365 (t := 1368) rfl rfl ?_
  refine J_iload hX dL_law_1368 1 rfl (t := 1370) rfl ?_
  refine J_icmp_eq (tgt := 1375) hX dL_law_1370 (by decide) (t := 1373) rfl (fun z => ?_) (fun z => nomatch it_f hF z)
  replace hF := it_t hF z
  refine J_iload hX dL_law_1375 1 rfl (t := 1377) rfl ?_
  refine J_if_ne (tgt := 1399) hX dL_law_1377 (by decide) (t := 1380) rfl (fun z2 => ?_) (fun z2 => ?_)
  · replace hF := Option.some.inj (it_f hF z2)
    subst hF
    refine J_goto (tgt := 3183) hX dL_law_1399 (by decide) ?_
    refine J_sub (lc2 := [(4, .int i), (3, .ref (adr G 16 0)), (2, .ref (adr G 15 0)), (1, .ref (adr G 0 0)), (0, .ref b)]) [2, 3, 4, 5, 6] rfl ?_
    exact J_wid (Nat.add_le_add_left (m := 30) (n := 1) (Nat.le_of_ble_eq_true rfl) cells) (Nat.add_le_add_left (m := 3900) (n := 6) (Nat.le_of_ble_eq_true rfl) slots) (kk d0 hd0)
  · replace hF := it_t hF z2
    refine J_aload_n hX dL_law_1380 3 rfl (t := 1381) rfl ?_
    refine J_iconst (v := 0) hX dL_law_1381 (by decide) (t := 1382) rfl ?_
    refine J_lald (w := w2) (v := (w2 16).2 0 0) hX kOut (by decide) rfl dL_law_1382 (t := 1383) rfl ?_
    refine J_iload hX dL_law_1383 0 rfl (t := 1385) rfl ?_
    refine J_ifZ_eq (tgt := 1392) hX dL_law_1385 (by decide) (t := 1388) rfl (fun z4 => ?_) (fun z4 => ?_)
    · subst z4
      refine J_lconst (v := 0) hX dL_law_1392 (by decide) (t := 1393) rfl ?_
      refine J_lcmp hX dL_law_1393 (t := 1394) rfl ?_
      refine J_if_eq (tgt := 1399) hX dL_law_1394 (by decide) (t := 1397) rfl (fun z3 => ?_) (fun z3 => nomatch it_f hF z3)
      replace hF := Option.some.inj (it_t hF z3)
      subst hF
      refine J_goto (tgt := 3183) hX dL_law_1399 (by decide) ?_
      refine J_sub (lc2 := [(4, .int i), (3, .ref (adr G 16 0)), (2, .ref (adr G 15 0)), (1, .ref (adr G 0 0)), (0, .ref b)]) [2, 3, 4, 5, 6] rfl ?_
      exact J_wid (Nat.add_le_add_left (m := 30) (n := 1) (Nat.le_of_ble_eq_true rfl) cells) (Nat.add_le_add_left (m := 3900) (n := 6) (Nat.le_of_ble_eq_true rfl) slots) (kk d0 hd0)
    · subst z4
      refine J_lconst (v := 1) hX dL_law_1388 (by decide) (t := 1389) rfl ?_
      refine J_goto (tgt := 1393) hX dL_law_1389 (by decide) ?_
      refine J_lcmp hX dL_law_1393 (t := 1394) rfl ?_
      refine J_if_eq (tgt := 1399) hX dL_law_1394 (by decide) (t := 1397) rfl (fun z3 => ?_) (fun z3 => nomatch it_f hF z3)
      replace hF := Option.some.inj (it_t hF z3)
      subst hF
      refine J_goto (tgt := 3183) hX dL_law_1399 (by decide) ?_
      refine J_sub (lc2 := [(4, .int i), (3, .ref (adr G 16 0)), (2, .ref (adr G 15 0)), (1, .ref (adr G 0 0)), (0, .ref b)]) [2, 3, 4, 5, 6] rfl ?_
      exact J_wid (Nat.add_le_add_left (m := 30) (n := 1) (Nat.le_of_ble_eq_true rfl) cells) (Nat.add_le_add_left (m := 3900) (n := 6) (Nat.le_of_ble_eq_true rfl) slots) (kk d0 hd0)
def FLc_30 (n : Nat) (w : Wd) (a1 a2 a3 a4 a5 : Int32) : Option Wd := bo2 (FL_echoesHeard w a1) fun k w1 => bo2 (FX13_echoesHeard w1 a1) fun q w2 => if FX13_thrown w2 = k then (if k = 0 then (if lg_cmp ((w2 16).2 0 0) q.toInt64 = 0 then some w2 else none) else some w2) else none
set_option maxHeartbeats 4000000 in
theorem cs_30 {G : GG} {p : Program} {l : Launch} {e : Env} {s : State} {m : MethodId} {args : Array Value} {below : List Frame} {meth : Method} {c : Code} {b L : Nat} {xs : Nat → Int32} {Q : State → Prop} {cells slots n : Nat} {i a1 a2 a3 a4 a5 : Int32} {w w9 : Wd} (hW : LW G p l s m args c b L xs) (hA : ARG L xs i a1 a2 a3 a4 a5) (hc : cells + 30 ≤ room_1.cells) (hs9 : slots + 3900 ≤ room_1.slots) (hF : FLc_30 n w a1 a2 a3 a4 a5 = some w9) (kk : LJ G p l e s m args below meth c b Q (cells + 30) (slots + 3900) 3183 i w9) : LJ G p l e s m args below meth c b Q cells slots 1402 i w := by
  intro d0 hd0
  obtain ⟨hX, hNC, hl, hs, hb⟩ := hW.drawn d0
  unfold FLc_30 at hF
  obtain ⟨k, w1, hk, hF⟩ := bo2_e hF
  obtain ⟨q, w2, hq, hF⟩ := bo2_e hF
  refine J_aload_n hX dL_law_1402 3 rfl (t := 1403) rfl ?_
  refine J_aload_n hX dL_law_1403 4 rfl (t := 1404) rfl ?_
  refine J_iload hX dL_law_1404 0 rfl (t := 1406) rfl ?_
  refine J_iconst (v := 1) hX dL_law_1406 (by decide) (t := 1407) rfl ?_
  refine J_iadd hX dL_law_1407 (t := 1408) rfl ?_
  refine J_sld hX hs hb hA.1.1 hA.1.2 dL_law_1408 (t := 1409) rfl ?_
  refine J_aload_n hX dL_law_1409 1 rfl (t := 1410) rfl ?_
  refine J_callSW hX hNC [.ref (adr G 0 0), .int a1, .ref (adr G 16 0)] [] (ctL_echoesHeard hl w a1 hk) miL_echoesHeard q_1422 q_1421 ⟨rfl, rfl, Nat.le_of_ble_eq_true rfl, Nat.le_of_ble_eq_true rfl⟩ rfl rfl (Nat.le_of_ble_eq_true rfl) ⟨Nat.le_trans (Nat.add_le_add_left (m := 30) (n := 1) (Nat.le_of_ble_eq_true rfl) cells) hc, Nat.le_trans (Nat.add_le_add_left (m := 3900) (n := 6) (Nat.le_of_ble_eq_true rfl) slots) hs9⟩ dL_law_1410 (t := 1413) rfl (fun v9 => J_pure fun hv9 => ?_)
  subst hv9
  refine J_istore (lc2 := [(5, .int k), (4, .int i), (3, .ref (adr G 16 0)), (2, .ref (adr G 15 0)), (1, .ref (adr G 0 0)), (0, .ref b)]) hX dL_law_1413 (Nat.le_of_ble_eq_true rfl) rfl (t := 1415) rfl ?_
  refine J_aload_n hX dL_law_1415 3 rfl (t := 1416) rfl ?_
  refine J_aload_n hX dL_law_1416 5 rfl (t := 1417) rfl ?_
  refine J_iload hX dL_law_1417 1 rfl (t := 1419) rfl ?_
  refine J_iconst (v := 1) hX dL_law_1419 (by decide) (t := 1420) rfl ?_
  refine J_iadd hX dL_law_1420 (t := 1421) rfl ?_
  refine J_sld hX hs hb hA.1.1 hA.1.2 dL_law_1421 (t := 1422) rfl ?_
  refine J_callV hX [.int a1] [] [.int q] (ctX13_echoesHeard w1 a1 hq) miX13_echoesHeard mvX13_echoesHeard cb10 kModel q_2617 ⟨rfl, rfl, Nat.le_of_ble_eq_true rfl, Nat.le_of_ble_eq_true rfl⟩ rfl rfl (Nat.le_of_ble_eq_true rfl) ⟨Nat.le_trans (Nat.add_le_add_left (m := 30) (n := 1) (Nat.le_of_ble_eq_true rfl) cells) hc, Nat.le_trans (Nat.add_le_add_left (m := 3900) (n := 6) (Nat.le_of_ble_eq_true rfl) slots) hs9⟩ dL_law_1422 (t := 1425) rfl rfl ?_
  refine J_istore (lc2 := [(6, .int q), (5, .int k), (4, .int i), (3, .ref (adr G 16 0)), (2, .ref (adr G 15 0)), (1, .ref (adr G 0 0)), (0, .ref b)]) hX dL_law_1425 (Nat.le_of_ble_eq_true rfl) rfl (t := 1427) rfl ?_
  refine J_aload_n hX dL_law_1427 4 rfl (t := 1428) rfl ?_
  refine J_callV hX [] [] [.int (FX13_thrown w2)] (ctX13_thrown w2  rfl) miX13_thrown mvX13_thrown cb10 kModel q_2070 ⟨rfl, rfl, Nat.le_of_ble_eq_true rfl, Nat.le_of_ble_eq_true rfl⟩ rfl rfl (Nat.le_of_ble_eq_true rfl) ⟨Nat.le_trans (Nat.add_le_add_left (m := 30) (n := 1) (Nat.le_of_ble_eq_true rfl) cells) hc, Nat.le_trans (Nat.add_le_add_left (m := 3900) (n := 6) (Nat.le_of_ble_eq_true rfl) slots) hs9⟩ dL_law_1428 (t := 1431) rfl rfl ?_
  refine J_iload hX dL_law_1431 1 rfl (t := 1433) rfl ?_
  refine J_icmp_eq (tgt := 1438) hX dL_law_1433 (by decide) (t := 1436) rfl (fun z => ?_) (fun z => nomatch it_f hF z)
  replace hF := it_t hF z
  refine J_iload hX dL_law_1438 1 rfl (t := 1440) rfl ?_
  refine J_if_ne (tgt := 1455) hX dL_law_1440 (by decide) (t := 1443) rfl (fun z2 => ?_) (fun z2 => ?_)
  · replace hF := Option.some.inj (it_f hF z2)
    subst hF
    refine J_goto (tgt := 3183) hX dL_law_1455 (by decide) ?_
    refine J_sub (lc2 := [(4, .int i), (3, .ref (adr G 16 0)), (2, .ref (adr G 15 0)), (1, .ref (adr G 0 0)), (0, .ref b)]) [2, 3, 4, 5, 6] rfl ?_
    exact J_wid (Nat.add_le_add_left (m := 30) (n := 1) (Nat.le_of_ble_eq_true rfl) cells) (Nat.add_le_add_left (m := 3900) (n := 6) (Nat.le_of_ble_eq_true rfl) slots) (kk d0 hd0)
  · replace hF := it_t hF z2
    refine J_aload_n hX dL_law_1443 3 rfl (t := 1444) rfl ?_
    refine J_iconst (v := 0) hX dL_law_1444 (by decide) (t := 1445) rfl ?_
    refine J_lald (w := w2) (v := (w2 16).2 0 0) hX kOut (by decide) rfl dL_law_1445 (t := 1446) rfl ?_
    refine J_iload hX dL_law_1446 0 rfl (t := 1448) rfl ?_
    refine J_i2l hX dL_law_1448 (t := 1449) rfl ?_
    refine J_lcmp hX dL_law_1449 (t := 1450) rfl ?_
    refine J_if_eq (tgt := 1455) hX dL_law_1450 (by decide) (t := 1453) rfl (fun z3 => ?_) (fun z3 => nomatch it_f hF z3)
    replace hF := Option.some.inj (it_t hF z3)
    subst hF
    refine J_goto (tgt := 3183) hX dL_law_1455 (by decide) ?_
    refine J_sub (lc2 := [(4, .int i), (3, .ref (adr G 16 0)), (2, .ref (adr G 15 0)), (1, .ref (adr G 0 0)), (0, .ref b)]) [2, 3, 4, 5, 6] rfl ?_
    exact J_wid (Nat.add_le_add_left (m := 30) (n := 1) (Nat.le_of_ble_eq_true rfl) cells) (Nat.add_le_add_left (m := 3900) (n := 6) (Nat.le_of_ble_eq_true rfl) slots) (kk d0 hd0)
def FLc_31 (n : Nat) (w : Wd) (a1 a2 a3 a4 a5 : Int32) : Option Wd := bo2 (FL_heldFor w a1) fun k w1 => bo2 (FX13_heldFor n w1 a1) fun q w2 => if FX13_thrown w2 = k then (if k = 0 then (if lg_cmp ((w2 16).2 0 0) q.toInt64 = 0 then some w2 else none) else some w2) else none
set_option maxHeartbeats 4000000 in
theorem cs_31 {G : GG} {p : Program} {l : Launch} {e : Env} {s : State} {m : MethodId} {args : Array Value} {below : List Frame} {meth : Method} {c : Code} {b L : Nat} {xs : Nat → Int32} {Q : State → Prop} {cells slots n : Nat} {i a1 a2 a3 a4 a5 : Int32} {w w9 : Wd} (hW : LW G p l s m args c b L xs) (hA : ARG L xs i a1 a2 a3 a4 a5) (hc : cells + 30 ≤ room_1.cells) (hs9 : slots + 3900 ≤ room_1.slots) (hF : FLc_31 n w a1 a2 a3 a4 a5 = some w9) (kk : LJ G p l e s m args below meth c b Q (cells + 30) (slots + 3900) 3183 i w9) : LJ G p l e s m args below meth c b Q cells slots 1458 i w := by
  intro d0 hd0
  obtain ⟨hX, hNC, hl, hs, hb⟩ := hW.drawn d0
  unfold FLc_31 at hF
  obtain ⟨k, w1, hk, hF⟩ := bo2_e hF
  obtain ⟨q, w2, hq, hF⟩ := bo2_e hF
  refine J_aload_n hX dL_law_1458 3 rfl (t := 1459) rfl ?_
  refine J_aload_n hX dL_law_1459 4 rfl (t := 1460) rfl ?_
  refine J_iload hX dL_law_1460 0 rfl (t := 1462) rfl ?_
  refine J_iconst (v := 1) hX dL_law_1462 (by decide) (t := 1463) rfl ?_
  refine J_iadd hX dL_law_1463 (t := 1464) rfl ?_
  refine J_sld hX hs hb hA.1.1 hA.1.2 dL_law_1464 (t := 1465) rfl ?_
  refine J_aload_n hX dL_law_1465 1 rfl (t := 1466) rfl ?_
  refine J_callSW hX hNC [.ref (adr G 0 0), .int a1, .ref (adr G 16 0)] [] (ctL_heldFor hl w a1 hk) miL_heldFor q_1429 q_1428 ⟨rfl, rfl, Nat.le_of_ble_eq_true rfl, Nat.le_of_ble_eq_true rfl⟩ rfl rfl (Nat.le_of_ble_eq_true rfl) ⟨Nat.le_trans (Nat.add_le_add_left (m := 30) (n := 1) (Nat.le_of_ble_eq_true rfl) cells) hc, Nat.le_trans (Nat.add_le_add_left (m := 3900) (n := 6) (Nat.le_of_ble_eq_true rfl) slots) hs9⟩ dL_law_1466 (t := 1469) rfl (fun v9 => J_pure fun hv9 => ?_)
  subst hv9
  refine J_istore (lc2 := [(5, .int k), (4, .int i), (3, .ref (adr G 16 0)), (2, .ref (adr G 15 0)), (1, .ref (adr G 0 0)), (0, .ref b)]) hX dL_law_1469 (Nat.le_of_ble_eq_true rfl) rfl (t := 1471) rfl ?_
  refine J_aload_n hX dL_law_1471 3 rfl (t := 1472) rfl ?_
  refine J_aload_n hX dL_law_1472 5 rfl (t := 1473) rfl ?_
  refine J_iload hX dL_law_1473 1 rfl (t := 1475) rfl ?_
  refine J_iconst (v := 1) hX dL_law_1475 (by decide) (t := 1476) rfl ?_
  refine J_iadd hX dL_law_1476 (t := 1477) rfl ?_
  refine J_sld hX hs hb hA.1.1 hA.1.2 dL_law_1477 (t := 1478) rfl ?_
  refine J_callV hX [.int a1] [] [.int q] (ctX13_heldFor w1 a1 n hq) miX13_heldFor mvX13_heldFor cb10 kModel q_2629 ⟨rfl, rfl, Nat.le_of_ble_eq_true rfl, Nat.le_of_ble_eq_true rfl⟩ rfl rfl (Nat.le_of_ble_eq_true rfl) ⟨Nat.le_trans (Nat.add_le_add_left (m := 30) (n := 1) (Nat.le_of_ble_eq_true rfl) cells) hc, Nat.le_trans (Nat.add_le_add_left (m := 3900) (n := 6) (Nat.le_of_ble_eq_true rfl) slots) hs9⟩ dL_law_1478 (t := 1481) rfl rfl ?_
  refine J_istore (lc2 := [(6, .int q), (5, .int k), (4, .int i), (3, .ref (adr G 16 0)), (2, .ref (adr G 15 0)), (1, .ref (adr G 0 0)), (0, .ref b)]) hX dL_law_1481 (Nat.le_of_ble_eq_true rfl) rfl (t := 1483) rfl ?_
  refine J_aload_n hX dL_law_1483 4 rfl (t := 1484) rfl ?_
  refine J_callV hX [] [] [.int (FX13_thrown w2)] (ctX13_thrown w2  rfl) miX13_thrown mvX13_thrown cb10 kModel q_2070 ⟨rfl, rfl, Nat.le_of_ble_eq_true rfl, Nat.le_of_ble_eq_true rfl⟩ rfl rfl (Nat.le_of_ble_eq_true rfl) ⟨Nat.le_trans (Nat.add_le_add_left (m := 30) (n := 1) (Nat.le_of_ble_eq_true rfl) cells) hc, Nat.le_trans (Nat.add_le_add_left (m := 3900) (n := 6) (Nat.le_of_ble_eq_true rfl) slots) hs9⟩ dL_law_1484 (t := 1487) rfl rfl ?_
  refine J_iload hX dL_law_1487 1 rfl (t := 1489) rfl ?_
  refine J_icmp_eq (tgt := 1494) hX dL_law_1489 (by decide) (t := 1492) rfl (fun z => ?_) (fun z => nomatch it_f hF z)
  replace hF := it_t hF z
  refine J_iload hX dL_law_1494 1 rfl (t := 1496) rfl ?_
  refine J_if_ne (tgt := 1511) hX dL_law_1496 (by decide) (t := 1499) rfl (fun z2 => ?_) (fun z2 => ?_)
  · replace hF := Option.some.inj (it_f hF z2)
    subst hF
    refine J_goto (tgt := 3183) hX dL_law_1511 (by decide) ?_
    refine J_sub (lc2 := [(4, .int i), (3, .ref (adr G 16 0)), (2, .ref (adr G 15 0)), (1, .ref (adr G 0 0)), (0, .ref b)]) [2, 3, 4, 5, 6] rfl ?_
    exact J_wid (Nat.add_le_add_left (m := 30) (n := 1) (Nat.le_of_ble_eq_true rfl) cells) (Nat.add_le_add_left (m := 3900) (n := 6) (Nat.le_of_ble_eq_true rfl) slots) (kk d0 hd0)
  · replace hF := it_t hF z2
    refine J_aload_n hX dL_law_1499 3 rfl (t := 1500) rfl ?_
    refine J_iconst (v := 0) hX dL_law_1500 (by decide) (t := 1501) rfl ?_
    refine J_lald (w := w2) (v := (w2 16).2 0 0) hX kOut (by decide) rfl dL_law_1501 (t := 1502) rfl ?_
    refine J_iload hX dL_law_1502 0 rfl (t := 1504) rfl ?_
    refine J_i2l hX dL_law_1504 (t := 1505) rfl ?_
    refine J_lcmp hX dL_law_1505 (t := 1506) rfl ?_
    refine J_if_eq (tgt := 1511) hX dL_law_1506 (by decide) (t := 1509) rfl (fun z3 => ?_) (fun z3 => nomatch it_f hF z3)
    replace hF := Option.some.inj (it_t hF z3)
    subst hF
    refine J_goto (tgt := 3183) hX dL_law_1511 (by decide) ?_
    refine J_sub (lc2 := [(4, .int i), (3, .ref (adr G 16 0)), (2, .ref (adr G 15 0)), (1, .ref (adr G 0 0)), (0, .ref b)]) [2, 3, 4, 5, 6] rfl ?_
    exact J_wid (Nat.add_le_add_left (m := 30) (n := 1) (Nat.le_of_ble_eq_true rfl) cells) (Nat.add_le_add_left (m := 3900) (n := 6) (Nat.le_of_ble_eq_true rfl) slots) (kk d0 hd0)
def FLc_32 (n : Nat) (w : Wd) (a1 a2 a3 a4 a5 : Int32) : Option Wd := bo1 (FX12_angryCustomers n w) fun k => bo2 (FX13_angryCustomers n w) fun q w2 => if k = q then some w2 else none
set_option maxHeartbeats 4000000 in
theorem cs_32 {G : GG} {p : Program} {l : Launch} {e : Env} {s : State} {m : MethodId} {args : Array Value} {below : List Frame} {meth : Method} {c : Code} {b L : Nat} {xs : Nat → Int32} {Q : State → Prop} {cells slots n : Nat} {i a1 a2 a3 a4 a5 : Int32} {w w9 : Wd} (hW : LW G p l s m args c b L xs) (hA : ARG L xs i a1 a2 a3 a4 a5) (hc : cells + 30 ≤ room_1.cells) (hs9 : slots + 3900 ≤ room_1.slots) (hF : FLc_32 n w a1 a2 a3 a4 a5 = some w9) (kk : LJ G p l e s m args below meth c b Q (cells + 30) (slots + 3900) 3183 i w9) : LJ G p l e s m args below meth c b Q cells slots 1514 i w := by
  intro d0 hd0
  obtain ⟨hX, hNC, hl, hs, hb⟩ := hW.drawn d0
  unfold FLc_32 at hF
  obtain ⟨k, hk, hF⟩ := bo1_e hF
  obtain ⟨q, w2, hq, hF⟩ := bo2_e hF
  refine J_aload_n hX dL_law_1514 3 rfl (t := 1515) rfl ?_
  refine J_callV hX [] [] [.int k] (ctX12_angryCustomers w  n hk) miX12_angryCustomers mvX12_angryCustomers cb9 kEcho q_695 ⟨rfl, rfl, Nat.le_of_ble_eq_true rfl, Nat.le_of_ble_eq_true rfl⟩ rfl rfl (Nat.le_of_ble_eq_true rfl) ⟨Nat.le_trans (Nat.add_le_add_left (m := 30) (n := 0) (Nat.le_of_ble_eq_true rfl) cells) hc, Nat.le_trans (Nat.add_le_add_left (m := 3900) (n := 0) (Nat.le_of_ble_eq_true rfl) slots) hs9⟩ dL_law_1515 (t := 1518) rfl rfl ?_
  refine J_aload_n hX dL_law_1518 2 rfl (t := 1519) rfl ?_
  refine J_callV hX [] [.int k] [.int q, .int k] (ctX13_angryCustomers w  n hq) miX13_angryCustomers mvX13_angryCustomers cb10 kModel q_2621 ⟨rfl, rfl, Nat.le_of_ble_eq_true rfl, Nat.le_of_ble_eq_true rfl⟩ rfl rfl (Nat.le_of_ble_eq_true rfl) ⟨Nat.le_trans (Nat.add_le_add_left (m := 30) (n := 0) (Nat.le_of_ble_eq_true rfl) cells) hc, Nat.le_trans (Nat.add_le_add_left (m := 3900) (n := 0) (Nat.le_of_ble_eq_true rfl) slots) hs9⟩ dL_law_1519 (t := 1522) rfl rfl ?_
  refine J_icmp_eq (tgt := 3183) hX dL_law_1522 (by decide) (t := 1525) rfl (fun z => ?_) (fun z => nomatch it_f hF z)
  replace hF := Option.some.inj (it_t hF z)
  subst hF
  exact J_wid (Nat.le_add_right cells 30) (Nat.le_add_right slots 3900) (kk d0 hd0)
def FLc_33 (n : Nat) (w : Wd) (a1 a2 a3 a4 a5 : Int32) : Option Wd := bo1 (FX12_bestCustomer n w) fun k => bo2 (FX13_bestCustomer n w) fun q w2 => if k = q then some w2 else none
set_option maxHeartbeats 4000000 in
theorem cs_33 {G : GG} {p : Program} {l : Launch} {e : Env} {s : State} {m : MethodId} {args : Array Value} {below : List Frame} {meth : Method} {c : Code} {b L : Nat} {xs : Nat → Int32} {Q : State → Prop} {cells slots n : Nat} {i a1 a2 a3 a4 a5 : Int32} {w w9 : Wd} (hW : LW G p l s m args c b L xs) (hA : ARG L xs i a1 a2 a3 a4 a5) (hc : cells + 30 ≤ room_1.cells) (hs9 : slots + 3900 ≤ room_1.slots) (hF : FLc_33 n w a1 a2 a3 a4 a5 = some w9) (kk : LJ G p l e s m args below meth c b Q (cells + 30) (slots + 3900) 3183 i w9) : LJ G p l e s m args below meth c b Q cells slots 1527 i w := by
  intro d0 hd0
  obtain ⟨hX, hNC, hl, hs, hb⟩ := hW.drawn d0
  unfold FLc_33 at hF
  obtain ⟨k, hk, hF⟩ := bo1_e hF
  obtain ⟨q, w2, hq, hF⟩ := bo2_e hF
  refine J_aload_n hX dL_law_1527 3 rfl (t := 1528) rfl ?_
  refine J_callV hX [] [] [.int k] (ctX12_bestCustomer w  n hk) miX12_bestCustomer mvX12_bestCustomer cb9 kEcho q_707 ⟨rfl, rfl, Nat.le_of_ble_eq_true rfl, Nat.le_of_ble_eq_true rfl⟩ rfl rfl (Nat.le_of_ble_eq_true rfl) ⟨Nat.le_trans (Nat.add_le_add_left (m := 30) (n := 0) (Nat.le_of_ble_eq_true rfl) cells) hc, Nat.le_trans (Nat.add_le_add_left (m := 3900) (n := 0) (Nat.le_of_ble_eq_true rfl) slots) hs9⟩ dL_law_1528 (t := 1531) rfl rfl ?_
  refine J_aload_n hX dL_law_1531 2 rfl (t := 1532) rfl ?_
  refine J_callV hX [] [.int k] [.int q, .int k] (ctX13_bestCustomer w  n hq) miX13_bestCustomer mvX13_bestCustomer cb10 kModel q_2625 ⟨rfl, rfl, Nat.le_of_ble_eq_true rfl, Nat.le_of_ble_eq_true rfl⟩ rfl rfl (Nat.le_of_ble_eq_true rfl) ⟨Nat.le_trans (Nat.add_le_add_left (m := 30) (n := 0) (Nat.le_of_ble_eq_true rfl) cells) hc, Nat.le_trans (Nat.add_le_add_left (m := 3900) (n := 0) (Nat.le_of_ble_eq_true rfl) slots) hs9⟩ dL_law_1532 (t := 1535) rfl rfl ?_
  refine J_icmp_eq (tgt := 3183) hX dL_law_1535 (by decide) (t := 1538) rfl (fun z => ?_) (fun z => nomatch it_f hF z)
  replace hF := Option.some.inj (it_t hF z)
  subst hF
  exact J_wid (Nat.le_add_right cells 30) (Nat.le_add_right slots 3900) (kk d0 hd0)
def FLc_34 (n : Nat) (w : Wd) (a1 a2 a3 a4 a5 : Int32) : Option Wd := bo2 (FL_shoutCustomer w a1) fun k w1 => bo2 (FX13_shoutCustomer w1 a1) fun q w2 => if FX13_thrown w2 = k then (if k = 0 then (if lg_cmp ((w2 16).2 0 0) q.toInt64 = 0 then some w2 else none) else some w2) else none
set_option maxHeartbeats 4000000 in
theorem cs_34 {G : GG} {p : Program} {l : Launch} {e : Env} {s : State} {m : MethodId} {args : Array Value} {below : List Frame} {meth : Method} {c : Code} {b L : Nat} {xs : Nat → Int32} {Q : State → Prop} {cells slots n : Nat} {i a1 a2 a3 a4 a5 : Int32} {w w9 : Wd} (hW : LW G p l s m args c b L xs) (hA : ARG L xs i a1 a2 a3 a4 a5) (hc : cells + 30 ≤ room_1.cells) (hs9 : slots + 3900 ≤ room_1.slots) (hF : FLc_34 n w a1 a2 a3 a4 a5 = some w9) (kk : LJ G p l e s m args below meth c b Q (cells + 30) (slots + 3900) 3183 i w9) : LJ G p l e s m args below meth c b Q cells slots 1540 i w := by
  intro d0 hd0
  obtain ⟨hX, hNC, hl, hs, hb⟩ := hW.drawn d0
  unfold FLc_34 at hF
  obtain ⟨k, w1, hk, hF⟩ := bo2_e hF
  obtain ⟨q, w2, hq, hF⟩ := bo2_e hF
  refine J_aload_n hX dL_law_1540 3 rfl (t := 1541) rfl ?_
  refine J_aload_n hX dL_law_1541 4 rfl (t := 1542) rfl ?_
  refine J_iload hX dL_law_1542 0 rfl (t := 1544) rfl ?_
  refine J_iconst (v := 1) hX dL_law_1544 (by decide) (t := 1545) rfl ?_
  refine J_iadd hX dL_law_1545 (t := 1546) rfl ?_
  refine J_sld hX hs hb hA.1.1 hA.1.2 dL_law_1546 (t := 1547) rfl ?_
  refine J_aload_n hX dL_law_1547 1 rfl (t := 1548) rfl ?_
  refine J_callSW hX hNC [.ref (adr G 0 0), .int a1, .ref (adr G 16 0)] [] (ctL_shoutCustomer hl w a1 hk) miL_shoutCustomer q_1436 q_1435 ⟨rfl, rfl, Nat.le_of_ble_eq_true rfl, Nat.le_of_ble_eq_true rfl⟩ rfl rfl (Nat.le_of_ble_eq_true rfl) ⟨Nat.le_trans (Nat.add_le_add_left (m := 30) (n := 1) (Nat.le_of_ble_eq_true rfl) cells) hc, Nat.le_trans (Nat.add_le_add_left (m := 3900) (n := 6) (Nat.le_of_ble_eq_true rfl) slots) hs9⟩ dL_law_1548 (t := 1551) rfl (fun v9 => J_pure fun hv9 => ?_)
  subst hv9
  refine J_istore (lc2 := [(5, .int k), (4, .int i), (3, .ref (adr G 16 0)), (2, .ref (adr G 15 0)), (1, .ref (adr G 0 0)), (0, .ref b)]) hX dL_law_1551 (Nat.le_of_ble_eq_true rfl) rfl (t := 1553) rfl ?_
  refine J_aload_n hX dL_law_1553 3 rfl (t := 1554) rfl ?_
  refine J_aload_n hX dL_law_1554 5 rfl (t := 1555) rfl ?_
  refine J_iload hX dL_law_1555 1 rfl (t := 1557) rfl ?_
  refine J_iconst (v := 1) hX dL_law_1557 (by decide) (t := 1558) rfl ?_
  refine J_iadd hX dL_law_1558 (t := 1559) rfl ?_
  refine J_sld hX hs hb hA.1.1 hA.1.2 dL_law_1559 (t := 1560) rfl ?_
  refine J_callV hX [.int a1] [] [.int q] (ctX13_shoutCustomer w1 a1 hq) miX13_shoutCustomer mvX13_shoutCustomer cb10 kModel q_2637 ⟨rfl, rfl, Nat.le_of_ble_eq_true rfl, Nat.le_of_ble_eq_true rfl⟩ rfl rfl (Nat.le_of_ble_eq_true rfl) ⟨Nat.le_trans (Nat.add_le_add_left (m := 30) (n := 1) (Nat.le_of_ble_eq_true rfl) cells) hc, Nat.le_trans (Nat.add_le_add_left (m := 3900) (n := 6) (Nat.le_of_ble_eq_true rfl) slots) hs9⟩ dL_law_1560 (t := 1563) rfl rfl ?_
  refine J_istore (lc2 := [(6, .int q), (5, .int k), (4, .int i), (3, .ref (adr G 16 0)), (2, .ref (adr G 15 0)), (1, .ref (adr G 0 0)), (0, .ref b)]) hX dL_law_1563 (Nat.le_of_ble_eq_true rfl) rfl (t := 1565) rfl ?_
  refine J_aload_n hX dL_law_1565 4 rfl (t := 1566) rfl ?_
  refine J_callV hX [] [] [.int (FX13_thrown w2)] (ctX13_thrown w2  rfl) miX13_thrown mvX13_thrown cb10 kModel q_2070 ⟨rfl, rfl, Nat.le_of_ble_eq_true rfl, Nat.le_of_ble_eq_true rfl⟩ rfl rfl (Nat.le_of_ble_eq_true rfl) ⟨Nat.le_trans (Nat.add_le_add_left (m := 30) (n := 1) (Nat.le_of_ble_eq_true rfl) cells) hc, Nat.le_trans (Nat.add_le_add_left (m := 3900) (n := 6) (Nat.le_of_ble_eq_true rfl) slots) hs9⟩ dL_law_1566 (t := 1569) rfl rfl ?_
  refine J_iload hX dL_law_1569 1 rfl (t := 1571) rfl ?_
  refine J_icmp_eq (tgt := 1576) hX dL_law_1571 (by decide) (t := 1574) rfl (fun z => ?_) (fun z => nomatch it_f hF z)
  replace hF := it_t hF z
  refine J_iload hX dL_law_1576 1 rfl (t := 1578) rfl ?_
  refine J_if_ne (tgt := 1593) hX dL_law_1578 (by decide) (t := 1581) rfl (fun z2 => ?_) (fun z2 => ?_)
  · replace hF := Option.some.inj (it_f hF z2)
    subst hF
    refine J_goto (tgt := 3183) hX dL_law_1593 (by decide) ?_
    refine J_sub (lc2 := [(4, .int i), (3, .ref (adr G 16 0)), (2, .ref (adr G 15 0)), (1, .ref (adr G 0 0)), (0, .ref b)]) [2, 3, 4, 5, 6] rfl ?_
    exact J_wid (Nat.add_le_add_left (m := 30) (n := 1) (Nat.le_of_ble_eq_true rfl) cells) (Nat.add_le_add_left (m := 3900) (n := 6) (Nat.le_of_ble_eq_true rfl) slots) (kk d0 hd0)
  · replace hF := it_t hF z2
    refine J_aload_n hX dL_law_1581 3 rfl (t := 1582) rfl ?_
    refine J_iconst (v := 0) hX dL_law_1582 (by decide) (t := 1583) rfl ?_
    refine J_lald (w := w2) (v := (w2 16).2 0 0) hX kOut (by decide) rfl dL_law_1583 (t := 1584) rfl ?_
    refine J_iload hX dL_law_1584 0 rfl (t := 1586) rfl ?_
    refine J_i2l hX dL_law_1586 (t := 1587) rfl ?_
    refine J_lcmp hX dL_law_1587 (t := 1588) rfl ?_
    refine J_if_eq (tgt := 1593) hX dL_law_1588 (by decide) (t := 1591) rfl (fun z3 => ?_) (fun z3 => nomatch it_f hF z3)
    replace hF := Option.some.inj (it_t hF z3)
    subst hF
    refine J_goto (tgt := 3183) hX dL_law_1593 (by decide) ?_
    refine J_sub (lc2 := [(4, .int i), (3, .ref (adr G 16 0)), (2, .ref (adr G 15 0)), (1, .ref (adr G 0 0)), (0, .ref b)]) [2, 3, 4, 5, 6] rfl ?_
    exact J_wid (Nat.add_le_add_left (m := 30) (n := 1) (Nat.le_of_ble_eq_true rfl) cells) (Nat.add_le_add_left (m := 3900) (n := 6) (Nat.le_of_ble_eq_true rfl) slots) (kk d0 hd0)
def FLc_35 (n : Nat) (w : Wd) (a1 a2 a3 a4 a5 : Int32) : Option Wd := bo2 (FL_shoutValley w a1) fun k w1 => bo2 (FX13_shoutValley w1 a1) fun q w2 => if FX13_thrown w2 = k then (if k = 0 then (if lg_cmp ((w2 16).2 0 0) q.toInt64 = 0 then some w2 else none) else some w2) else none
set_option maxHeartbeats 4000000 in
theorem cs_35 {G : GG} {p : Program} {l : Launch} {e : Env} {s : State} {m : MethodId} {args : Array Value} {below : List Frame} {meth : Method} {c : Code} {b L : Nat} {xs : Nat → Int32} {Q : State → Prop} {cells slots n : Nat} {i a1 a2 a3 a4 a5 : Int32} {w w9 : Wd} (hW : LW G p l s m args c b L xs) (hA : ARG L xs i a1 a2 a3 a4 a5) (hc : cells + 30 ≤ room_1.cells) (hs9 : slots + 3900 ≤ room_1.slots) (hF : FLc_35 n w a1 a2 a3 a4 a5 = some w9) (kk : LJ G p l e s m args below meth c b Q (cells + 30) (slots + 3900) 3183 i w9) : LJ G p l e s m args below meth c b Q cells slots 1596 i w := by
  intro d0 hd0
  obtain ⟨hX, hNC, hl, hs, hb⟩ := hW.drawn d0
  unfold FLc_35 at hF
  obtain ⟨k, w1, hk, hF⟩ := bo2_e hF
  obtain ⟨q, w2, hq, hF⟩ := bo2_e hF
  refine J_aload_n hX dL_law_1596 3 rfl (t := 1597) rfl ?_
  refine J_aload_n hX dL_law_1597 4 rfl (t := 1598) rfl ?_
  refine J_iload hX dL_law_1598 0 rfl (t := 1600) rfl ?_
  refine J_iconst (v := 1) hX dL_law_1600 (by decide) (t := 1601) rfl ?_
  refine J_iadd hX dL_law_1601 (t := 1602) rfl ?_
  refine J_sld hX hs hb hA.1.1 hA.1.2 dL_law_1602 (t := 1603) rfl ?_
  refine J_aload_n hX dL_law_1603 1 rfl (t := 1604) rfl ?_
  refine J_callSW hX hNC [.ref (adr G 0 0), .int a1, .ref (adr G 16 0)] [] (ctL_shoutValley hl w a1 hk) miL_shoutValley q_1448 q_1447 ⟨rfl, rfl, Nat.le_of_ble_eq_true rfl, Nat.le_of_ble_eq_true rfl⟩ rfl rfl (Nat.le_of_ble_eq_true rfl) ⟨Nat.le_trans (Nat.add_le_add_left (m := 30) (n := 1) (Nat.le_of_ble_eq_true rfl) cells) hc, Nat.le_trans (Nat.add_le_add_left (m := 3900) (n := 6) (Nat.le_of_ble_eq_true rfl) slots) hs9⟩ dL_law_1604 (t := 1607) rfl (fun v9 => J_pure fun hv9 => ?_)
  subst hv9
  refine J_istore (lc2 := [(5, .int k), (4, .int i), (3, .ref (adr G 16 0)), (2, .ref (adr G 15 0)), (1, .ref (adr G 0 0)), (0, .ref b)]) hX dL_law_1607 (Nat.le_of_ble_eq_true rfl) rfl (t := 1609) rfl ?_
  refine J_aload_n hX dL_law_1609 3 rfl (t := 1610) rfl ?_
  refine J_aload_n hX dL_law_1610 5 rfl (t := 1611) rfl ?_
  refine J_iload hX dL_law_1611 1 rfl (t := 1613) rfl ?_
  refine J_iconst (v := 1) hX dL_law_1613 (by decide) (t := 1614) rfl ?_
  refine J_iadd hX dL_law_1614 (t := 1615) rfl ?_
  refine J_sld hX hs hb hA.1.1 hA.1.2 dL_law_1615 (t := 1616) rfl ?_
  refine J_callV hX [.int a1] [] [.int q] (ctX13_shoutValley w1 a1 hq) miX13_shoutValley mvX13_shoutValley cb10 kModel q_2645 ⟨rfl, rfl, Nat.le_of_ble_eq_true rfl, Nat.le_of_ble_eq_true rfl⟩ rfl rfl (Nat.le_of_ble_eq_true rfl) ⟨Nat.le_trans (Nat.add_le_add_left (m := 30) (n := 1) (Nat.le_of_ble_eq_true rfl) cells) hc, Nat.le_trans (Nat.add_le_add_left (m := 3900) (n := 6) (Nat.le_of_ble_eq_true rfl) slots) hs9⟩ dL_law_1616 (t := 1619) rfl rfl ?_
  refine J_istore (lc2 := [(6, .int q), (5, .int k), (4, .int i), (3, .ref (adr G 16 0)), (2, .ref (adr G 15 0)), (1, .ref (adr G 0 0)), (0, .ref b)]) hX dL_law_1619 (Nat.le_of_ble_eq_true rfl) rfl (t := 1621) rfl ?_
  refine J_aload_n hX dL_law_1621 4 rfl (t := 1622) rfl ?_
  refine J_callV hX [] [] [.int (FX13_thrown w2)] (ctX13_thrown w2  rfl) miX13_thrown mvX13_thrown cb10 kModel q_2070 ⟨rfl, rfl, Nat.le_of_ble_eq_true rfl, Nat.le_of_ble_eq_true rfl⟩ rfl rfl (Nat.le_of_ble_eq_true rfl) ⟨Nat.le_trans (Nat.add_le_add_left (m := 30) (n := 1) (Nat.le_of_ble_eq_true rfl) cells) hc, Nat.le_trans (Nat.add_le_add_left (m := 3900) (n := 6) (Nat.le_of_ble_eq_true rfl) slots) hs9⟩ dL_law_1622 (t := 1625) rfl rfl ?_
  refine J_iload hX dL_law_1625 1 rfl (t := 1627) rfl ?_
  refine J_icmp_eq (tgt := 1632) hX dL_law_1627 (by decide) (t := 1630) rfl (fun z => ?_) (fun z => nomatch it_f hF z)
  replace hF := it_t hF z
  refine J_iload hX dL_law_1632 1 rfl (t := 1634) rfl ?_
  refine J_if_ne (tgt := 1649) hX dL_law_1634 (by decide) (t := 1637) rfl (fun z2 => ?_) (fun z2 => ?_)
  · replace hF := Option.some.inj (it_f hF z2)
    subst hF
    refine J_goto (tgt := 3183) hX dL_law_1649 (by decide) ?_
    refine J_sub (lc2 := [(4, .int i), (3, .ref (adr G 16 0)), (2, .ref (adr G 15 0)), (1, .ref (adr G 0 0)), (0, .ref b)]) [2, 3, 4, 5, 6] rfl ?_
    exact J_wid (Nat.add_le_add_left (m := 30) (n := 1) (Nat.le_of_ble_eq_true rfl) cells) (Nat.add_le_add_left (m := 3900) (n := 6) (Nat.le_of_ble_eq_true rfl) slots) (kk d0 hd0)
  · replace hF := it_t hF z2
    refine J_aload_n hX dL_law_1637 3 rfl (t := 1638) rfl ?_
    refine J_iconst (v := 0) hX dL_law_1638 (by decide) (t := 1639) rfl ?_
    refine J_lald (w := w2) (v := (w2 16).2 0 0) hX kOut (by decide) rfl dL_law_1639 (t := 1640) rfl ?_
    refine J_iload hX dL_law_1640 0 rfl (t := 1642) rfl ?_
    refine J_i2l hX dL_law_1642 (t := 1643) rfl ?_
    refine J_lcmp hX dL_law_1643 (t := 1644) rfl ?_
    refine J_if_eq (tgt := 1649) hX dL_law_1644 (by decide) (t := 1647) rfl (fun z3 => ?_) (fun z3 => nomatch it_f hF z3)
    replace hF := Option.some.inj (it_t hF z3)
    subst hF
    refine J_goto (tgt := 3183) hX dL_law_1649 (by decide) ?_
    refine J_sub (lc2 := [(4, .int i), (3, .ref (adr G 16 0)), (2, .ref (adr G 15 0)), (1, .ref (adr G 0 0)), (0, .ref b)]) [2, 3, 4, 5, 6] rfl ?_
    exact J_wid (Nat.add_le_add_left (m := 30) (n := 1) (Nat.le_of_ble_eq_true rfl) cells) (Nat.add_le_add_left (m := 3900) (n := 6) (Nat.le_of_ble_eq_true rfl) slots) (kk d0 hd0)
def FLc_36 (n : Nat) (w : Wd) (a1 a2 a3 a4 a5 : Int32) : Option Wd := bo2 (FL_shoutState w a1) fun k w1 => bo2 (FX13_shoutState w1 a1) fun q w2 => if FX13_thrown w2 = k then (if k = 0 then (if lg_cmp ((w2 16).2 0 0) q.toInt64 = 0 then some w2 else none) else some w2) else none
set_option maxHeartbeats 4000000 in
theorem cs_36 {G : GG} {p : Program} {l : Launch} {e : Env} {s : State} {m : MethodId} {args : Array Value} {below : List Frame} {meth : Method} {c : Code} {b L : Nat} {xs : Nat → Int32} {Q : State → Prop} {cells slots n : Nat} {i a1 a2 a3 a4 a5 : Int32} {w w9 : Wd} (hW : LW G p l s m args c b L xs) (hA : ARG L xs i a1 a2 a3 a4 a5) (hc : cells + 30 ≤ room_1.cells) (hs9 : slots + 3900 ≤ room_1.slots) (hF : FLc_36 n w a1 a2 a3 a4 a5 = some w9) (kk : LJ G p l e s m args below meth c b Q (cells + 30) (slots + 3900) 3183 i w9) : LJ G p l e s m args below meth c b Q cells slots 1652 i w := by
  intro d0 hd0
  obtain ⟨hX, hNC, hl, hs, hb⟩ := hW.drawn d0
  unfold FLc_36 at hF
  obtain ⟨k, w1, hk, hF⟩ := bo2_e hF
  obtain ⟨q, w2, hq, hF⟩ := bo2_e hF
  refine J_aload_n hX dL_law_1652 3 rfl (t := 1653) rfl ?_
  refine J_aload_n hX dL_law_1653 4 rfl (t := 1654) rfl ?_
  refine J_iload hX dL_law_1654 0 rfl (t := 1656) rfl ?_
  refine J_iconst (v := 1) hX dL_law_1656 (by decide) (t := 1657) rfl ?_
  refine J_iadd hX dL_law_1657 (t := 1658) rfl ?_
  refine J_sld hX hs hb hA.1.1 hA.1.2 dL_law_1658 (t := 1659) rfl ?_
  refine J_aload_n hX dL_law_1659 1 rfl (t := 1660) rfl ?_
  refine J_callSW hX hNC [.ref (adr G 0 0), .int a1, .ref (adr G 16 0)] [] (ctL_shoutState hl w a1 hk) miL_shoutState q_1455 q_1454 ⟨rfl, rfl, Nat.le_of_ble_eq_true rfl, Nat.le_of_ble_eq_true rfl⟩ rfl rfl (Nat.le_of_ble_eq_true rfl) ⟨Nat.le_trans (Nat.add_le_add_left (m := 30) (n := 1) (Nat.le_of_ble_eq_true rfl) cells) hc, Nat.le_trans (Nat.add_le_add_left (m := 3900) (n := 6) (Nat.le_of_ble_eq_true rfl) slots) hs9⟩ dL_law_1660 (t := 1663) rfl (fun v9 => J_pure fun hv9 => ?_)
  subst hv9
  refine J_istore (lc2 := [(5, .int k), (4, .int i), (3, .ref (adr G 16 0)), (2, .ref (adr G 15 0)), (1, .ref (adr G 0 0)), (0, .ref b)]) hX dL_law_1663 (Nat.le_of_ble_eq_true rfl) rfl (t := 1665) rfl ?_
  refine J_aload_n hX dL_law_1665 3 rfl (t := 1666) rfl ?_
  refine J_aload_n hX dL_law_1666 5 rfl (t := 1667) rfl ?_
  refine J_iload hX dL_law_1667 1 rfl (t := 1669) rfl ?_
  refine J_iconst (v := 1) hX dL_law_1669 (by decide) (t := 1670) rfl ?_
  refine J_iadd hX dL_law_1670 (t := 1671) rfl ?_
  refine J_sld hX hs hb hA.1.1 hA.1.2 dL_law_1671 (t := 1672) rfl ?_
  refine J_callV hX [.int a1] [] [.int q] (ctX13_shoutState w1 a1 hq) miX13_shoutState mvX13_shoutState cb10 kModel q_2649 ⟨rfl, rfl, Nat.le_of_ble_eq_true rfl, Nat.le_of_ble_eq_true rfl⟩ rfl rfl (Nat.le_of_ble_eq_true rfl) ⟨Nat.le_trans (Nat.add_le_add_left (m := 30) (n := 1) (Nat.le_of_ble_eq_true rfl) cells) hc, Nat.le_trans (Nat.add_le_add_left (m := 3900) (n := 6) (Nat.le_of_ble_eq_true rfl) slots) hs9⟩ dL_law_1672 (t := 1675) rfl rfl ?_
  refine J_istore (lc2 := [(6, .int q), (5, .int k), (4, .int i), (3, .ref (adr G 16 0)), (2, .ref (adr G 15 0)), (1, .ref (adr G 0 0)), (0, .ref b)]) hX dL_law_1675 (Nat.le_of_ble_eq_true rfl) rfl (t := 1677) rfl ?_
  refine J_aload_n hX dL_law_1677 4 rfl (t := 1678) rfl ?_
  refine J_callV hX [] [] [.int (FX13_thrown w2)] (ctX13_thrown w2  rfl) miX13_thrown mvX13_thrown cb10 kModel q_2070 ⟨rfl, rfl, Nat.le_of_ble_eq_true rfl, Nat.le_of_ble_eq_true rfl⟩ rfl rfl (Nat.le_of_ble_eq_true rfl) ⟨Nat.le_trans (Nat.add_le_add_left (m := 30) (n := 1) (Nat.le_of_ble_eq_true rfl) cells) hc, Nat.le_trans (Nat.add_le_add_left (m := 3900) (n := 6) (Nat.le_of_ble_eq_true rfl) slots) hs9⟩ dL_law_1678 (t := 1681) rfl rfl ?_
  refine J_iload hX dL_law_1681 1 rfl (t := 1683) rfl ?_
  refine J_icmp_eq (tgt := 1688) hX dL_law_1683 (by decide) (t := 1686) rfl (fun z => ?_) (fun z => nomatch it_f hF z)
  replace hF := it_t hF z
  refine J_iload hX dL_law_1688 1 rfl (t := 1690) rfl ?_
  refine J_if_ne (tgt := 1705) hX dL_law_1690 (by decide) (t := 1693) rfl (fun z2 => ?_) (fun z2 => ?_)
  · replace hF := Option.some.inj (it_f hF z2)
    subst hF
    refine J_goto (tgt := 3183) hX dL_law_1705 (by decide) ?_
    refine J_sub (lc2 := [(4, .int i), (3, .ref (adr G 16 0)), (2, .ref (adr G 15 0)), (1, .ref (adr G 0 0)), (0, .ref b)]) [2, 3, 4, 5, 6] rfl ?_
    exact J_wid (Nat.add_le_add_left (m := 30) (n := 1) (Nat.le_of_ble_eq_true rfl) cells) (Nat.add_le_add_left (m := 3900) (n := 6) (Nat.le_of_ble_eq_true rfl) slots) (kk d0 hd0)
  · replace hF := it_t hF z2
    refine J_aload_n hX dL_law_1693 3 rfl (t := 1694) rfl ?_
    refine J_iconst (v := 0) hX dL_law_1694 (by decide) (t := 1695) rfl ?_
    refine J_lald (w := w2) (v := (w2 16).2 0 0) hX kOut (by decide) rfl dL_law_1695 (t := 1696) rfl ?_
    refine J_iload hX dL_law_1696 0 rfl (t := 1698) rfl ?_
    refine J_i2l hX dL_law_1698 (t := 1699) rfl ?_
    refine J_lcmp hX dL_law_1699 (t := 1700) rfl ?_
    refine J_if_eq (tgt := 1705) hX dL_law_1700 (by decide) (t := 1703) rfl (fun z3 => ?_) (fun z3 => nomatch it_f hF z3)
    replace hF := Option.some.inj (it_t hF z3)
    subst hF
    refine J_goto (tgt := 3183) hX dL_law_1705 (by decide) ?_
    refine J_sub (lc2 := [(4, .int i), (3, .ref (adr G 16 0)), (2, .ref (adr G 15 0)), (1, .ref (adr G 0 0)), (0, .ref b)]) [2, 3, 4, 5, 6] rfl ?_
    exact J_wid (Nat.add_le_add_left (m := 30) (n := 1) (Nat.le_of_ble_eq_true rfl) cells) (Nat.add_le_add_left (m := 3900) (n := 6) (Nat.le_of_ble_eq_true rfl) slots) (kk d0 hd0)
