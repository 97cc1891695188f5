-- links, by the classes' numbers, and their places in lw_tbl: printed by wip/whole/tab.py
def clsN (i : Nat) : String := lnth "" [RX0, RX1, RX2, RX3, RX4, RX5, RX6, RX7, RX8, RJ6, RL] i
def FLt : List (Nat × (Nat × Nat × Nat × Nat)) := [(119, (6, 9, 6, 0)), (0, (6, 24, 6, 1)), (0, (7, 76, 6, 1)), (0, (6, 30, 6, 2)), (0, (6, 57, 6, 3)), (0, (4, 50, 6, 4)), (0, (6, 33, 6, 4)), (0, (4, 57, 6, 5)), (0, (6, 36, 6, 5)), (0, (6, 15, 6, 6)), (0, (4, 73, 6, 6)), (0, (6, 18, 6, 7)), (0, (4, 82, 6, 7)), (0, (6, 21, 6, 8)), (0, (4, 85, 6, 8)), (26, (4, 46, 4, 0)), (0, (7, 104, 4, 0)), (0, (4, 56, 4, 1)), (0, (7, 98, 4, 1)), (0, (0, 50, 4, 1)), (0, (4, 60, 4, 2)), (0, (7, 101, 4, 2)), (0, (1, 92, 4, 2)), (0, (0, 96, 4, 2)), (0, (4, 61, 4, 3)), (0, (3, 45, 4, 3)), (0, (7, 132, 4, 3)), (0, (0, 86, 4, 3)), (0, (4, 9, 4, 4)), (0, (7, 112, 4, 4)), (0, (4, 15, 4, 5)), (0, (1, 57, 4, 5)), (0, (0, 53, 4, 5)), (0, (7, 261, 4, 5)), (0, (4, 95, 4, 6)), (0, (1, 62, 4, 6)), (0, (0, 42, 4, 6)), (0, (7, 251, 4, 6)), (0, (4, 19, 4, 7)), (0, (2, 38, 4, 7)), (0, (5, 49, 4, 7)), (0, (7, 119, 4, 7)), (0, (1, 82, 4, 7)), (0, (0, 110, 4, 7)), (0, (4, 22, 4, 8)), (0, (2, 42, 4, 8)), (0, (1, 66, 4, 8)), (0, (5, 52, 4, 8)), (0, (7, 122, 4, 8)), (0, (0, 89, 4, 8)), (0, (4, 25, 4, 9)), (0, (3, 42, 4, 9)), (0, (7, 125, 4, 9)), (0, (4, 64, 4, 10)), (0, (3, 34, 4, 10)), (0, (7, 155, 4, 10)), (0, (4, 28, 4, 11)), (0, (5, 26, 4, 11)), (0, (7, 170, 4, 11)), (0, (0, 75, 4, 11)), (0, (4, 31, 4, 12)), (0, (2, 28, 4, 13)), (0, (4, 67, 4, 13)), (0, (3, 39, 4, 13)), (0, (7, 321, 4, 13)), (0, (4, 34, 4, 14)), (0, (0, 34, 4, 14)), (0, (7, 324, 4, 14)), (0, (4, 37, 4, 15)), (0, (2, 49, 4, 15)), (0, (0, 39, 4, 15)), (0, (7, 327, 4, 15)), (0, (4, 70, 4, 16)), (0, (7, 241, 4, 16)), (0, (4, 40, 4, 17)), (0, (7, 258, 4, 17)), (0, (4, 43, 4, 18)), (0, (7, 255, 4, 18)), (46, (3, 21, 3, 0)), (0, (7, 92, 3, 0)), (0, (3, 9, 3, 1)), (0, (3, 15, 3, 2)), (0, (3, 18, 3, 3)), (15, (0, 22, 0, 0)), (0, (0, 9, 0, 1)), (0, (0, 15, 0, 2)), (0, (0, 19, 0, 3)), (0, (0, 26, 0, 4)), (17, (1, 27, 1, 0)), (0, (1, 31, 1, 1)), (0, (1, 11, 1, 2)), (0, (1, 15, 1, 3)), (0, (1, 50, 1, 4)), (0, (1, 18, 1, 5)), (0, (7, 284, 1, 5)), (0, (1, 21, 1, 6)), (0, (7, 287, 1, 6)), (0, (1, 24, 1, 7)), (0, (7, 290, 1, 7)), (0, (1, 35, 1, 8)), (0, (7, 278, 1, 8)), (0, (1, 109, 1, 9)), (0, (7, 296, 1, 9)), (0, (1, 112, 1, 10)), (0, (7, 299, 1, 10)), (0, (1, 115, 1, 11)), (0, (7, 302, 1, 11)), (0, (1, 118, 1, 12)), (0, (7, 308, 1, 12)), (33, (2, 15, 2, 0)), (0, (2, 19, 2, 1)), (0, (2, 11, 2, 2)), (0, (2, 84, 2, 3)), (0, (7, 361, 2, 3)), (0, (2, 87, 2, 4)), (0, (7, 364, 2, 4)), (17, (5, 9, 5, 0)), (0, (5, 15, 5, 1)), (5, (7, 12, 7, 0)), (0, (7, 16, 7, 1)), (0, (7, 95, 7, 2)), (0, (7, 23, 7, 3)), (0, (7, 27, 7, 4)), (0, (7, 33, 7, 5)), (0, (7, 42, 7, 6)), (0, (7, 51, 7, 7)), (0, (7, 58, 7, 8)), (0, (7, 65, 7, 9)), (0, (7, 69, 7, 10)), (662, (8, 161, 8, 0)), (0, (8, 164, 8, 1)), (0, (8, 7, 8, 2)), (0, (8, 13, 8, 3)), (0, (8, 16, 8, 4)), (0, (8, 167, 8, 5)), (0, (8, 170, 8, 6)), (0, (8, 19, 8, 7)), (0, (8, 22, 8, 8)), (0, (8, 173, 8, 9)), (0, (8, 25, 8, 10)), (0, (8, 28, 8, 11)), (0, (8, 176, 8, 12)), (0, (8, 31, 8, 13)), (0, (8, 34, 8, 14)), (0, (8, 37, 8, 15)), (0, (8, 179, 8, 16)), (0, (8, 40, 8, 17)), (0, (8, 118, 8, 18)), (0, (8, 182, 8, 19)), (0, (8, 43, 8, 20)), (0, (8, 46, 8, 21)), (0, (8, 49, 8, 22)), (0, (8, 52, 8, 23)), (0, (8, 124, 8, 24)), (0, (8, 127, 8, 25)), (0, (8, 130, 8, 26)), (0, (8, 149, 8, 27)), (0, (8, 152, 8, 28)), (0, (8, 55, 8, 29)), (0, (8, 58, 8, 30)), (0, (8, 61, 8, 31)), (0, (8, 65, 8, 32)), (1, (8, 71, 8, 34)), (0, (8, 292, 8, 35)), (0, (8, 74, 8, 36)), (0, (8, 77, 8, 37)), (0, (8, 281, 8, 38)), (0, (8, 80, 8, 39)), (0, (8, 83, 8, 40)), (0, (8, 86, 8, 41)), (0, (8, 313, 8, 42)), (0, (8, 317, 8, 43)), (0, (8, 320, 8, 44)), (0, (8, 332, 8, 45)), (0, (8, 335, 8, 46)), (0, (8, 338, 8, 47)), (0, (8, 349, 8, 48)), (0, (8, 89, 8, 49)), (0, (8, 373, 8, 50)), (0, (8, 364, 8, 51)), (0, (8, 92, 8, 52)), (0, (8, 95, 8, 53)), (0, (8, 98, 8, 54)), (0, (8, 416, 8, 55)), (0, (8, 101, 8, 56)), (0, (8, 410, 8, 57)), (0, (8, 407, 8, 58))]
def MLt : List (Nat × (Nat × Nat × Nat)) := [(430, (10, 15, m_X_feed)), (3, (7, 72, m_X_refuse)), (3, (7, 80, m_T_append)), (4, (10, 20, m_X_read)), (3, (7, 84, m_T_parse)), (3, (6, 39, m_T_parseTruths)), (3, (6, 46, m_T_peek)), (3, (6, 50, m_T_skip)), (3, (6, 54, m_T_parseDigits)), (3, (6, 43, m_T_parseActs)), (3, (6, 60, m_T_parsePairs)), (3, (6, 63, m_T_parseNumber)), (3, (7, 88, m_S_begin)), (6, (4, 88, m_S_reducePrior)), (9, (10, 25, m_X_weight)), (3, (7, 108, m_S_hasTruth)), (3, (10, 30, m_X_gets)), (3, (7, 115, m_S_lacksAct)), (3, (4, 110, m_S_hasAct)), (3, (4, 107, m_S_hasTruth)), (0, (10, 35, m_X_second)), (3, (7, 128, m_P_keep)), (3, (3, 25, m_P_giveUpOldest)), (4, (10, 39, m_X_ties)), (3, (10, 43, m_X_done)), (3, (7, 135, m_B_lay)), (3, (7, 139, m_B_any)), (3, (7, 142, m_B_least)), (6, (7, 146, m_B_greatest)), (7, (7, 151, m_B_choose)), (3, (0, 92, m_B_sumOf)), (3, (10, 48, m_X_put)), (3, (10, 52, m_X_look)), (3, (7, 158, m_X_rowFits)), (3, (7, 161, m_S_write)), (3, (7, 164, m_X_keepLook)), (3, (10, 56, m_X_plain)), (3, (10, 60, m_X_bar)), (3, (10, 64, m_X_mix)), (3, (7, 167, m_S_hasLook)), (3, (7, 173, m_S_isWhole)), (3, (4, 116, m_S_partOf)), (3, (7, 177, m_S_writeShare)), (3, (4, 120, m_S_write)), (0, (10, 68, m_X_meld)), (3, (7, 180, m_S_hasSign)), (3, (4, 99, m_S_hasLook)), (6, (7, 191, m_S_partOf)), (0, (10, 72, m_X_signs)), (3, (7, 195, m_S_lacksLook)), (3, (10, 76, m_X_parts)), (3, (7, 198, m_S_lacksSign)), (3, (4, 103, m_S_hasSign)), (0, (10, 80, m_X_leaves)), (3, (7, 201, m_B_seeOne)), (3, (0, 68, m_B_layBefore)), (3, (0, 71, m_B_step)), (3, (0, 78, m_S_partOf)), (0, (7, 204, m_B_leastTerm)), (4, (10, 84, m_X_does)), (3, (10, 89, m_X_worth)), (3, (7, 208, m_X_isPart)), (2, (7, 211, m_X_refuseFar)), (4, (7, 215, m_B_attendOnly)), (3, (0, 30, m_B_attend)), (3, (7, 219, m_S_pay)), (3, (7, 223, m_B_brings)), (3, (0, 103, m_B_gather)), (3, (0, 99, m_B_choose)), (4, (7, 227, m_B_unit)), (3, (7, 230, m_X_tell)), (2, (7, 395, m_X_commonDivisor)), (0, (10, 94, m_X_harm)), (3, (7, 234, m_B_attendNone)), (3, (10, 99, m_X_think)), (3, (7, 237, m_S_thoughtFits)), (3, (7, 244, m_S_keepThought)), (3, (10, 104, m_X_forget)), (3, (10, 108, m_X_made)), (3, (7, 248, m_S_firstOff)), (3, (4, 124, m_S_comesBack)), (3, (4, 127, m_S_allShares)), (3, (4, 131, m_S_thoughtTotal)), (3, (10, 112, m_X_chance)), (3, (7, 265, m_S_allShares)), (0, (7, 268, m_S_thoughtTotal)), (0, (10, 117, m_X_edges)), (3, (7, 271, m_S_hasTwo)), (3, (7, 275, m_L_survey)), (3, (1, 39, m_L_findCrossings)), (3, (1, 89, m_L_cross)), (3, (1, 95, m_L_crossActs)), (4, (1, 42, m_L_mark)), (3, (1, 53, m_L_actAt)), (3, (1, 78, m_B_lay)), (0, (1, 85, m_B_choose)), (0, (1, 70, m_B_sumOf)), (0, (1, 46, m_L_actBetween)), (4, (10, 121, m_X_edge)), (3, (7, 281, m_X_lacksEdge)), (3, (7, 392, m_L_hasEdge)), (3, (10, 125, m_X_value)), (3, (10, 129, m_X_best)), (3, (7, 293, m_L_climb)), (3, (1, 105, m_L_order)), (3, (1, 121, m_L_climbBridge)), (3, (1, 125, m_L_bridgeAbove)), (3, (1, 129, m_L_bridgeBelow)), (3, (7, 305, m_L_gainAbove)), (3, (10, 133, m_X_corners)), (3, (7, 311, m_L_cornerBits)), (3, (1, 132, m_L_isCorner)), (3, (10, 137, m_X_prove)), (6, (7, 317, m_L_judgePrices)), (3, (1, 136, m_L_priceAbove)), (4, (10, 141, m_X_test)), (3, (10, 145, m_X_set)), (3, (7, 330, m_S_hasTests)), (3, (7, 333, m_J_bitCountI)), (5, (7, 338, m_K_bringsOf)), (3, (2, 23, m_B_attendNone)), (0, (2, 34, m_B_attendTest)), (3, (2, 45, m_B_brings)), (0, (7, 341, m_K_costOf)), (3, (10, 149, m_X_chosen)), (3, (7, 344, m_K_dearest)), (3, (2, 52, m_K_bringsOf)), (0, (2, 56, m_J_bitCountI)), (0, (2, 62, m_K_costOf)), (0, (2, 65, m_B_unit)), (0, (10, 153, m_X_enough)), (3, (7, 347, m_K_cheapest)), (3, (2, 69, m_K_isCheaper)), (3, (10, 157, m_X_hear)), (3, (10, 161, m_X_knows)), (3, (7, 351, m_B_attend)), (0, (10, 166, m_X_rests)), (3, (7, 355, m_K_weighRivals)), (3, (2, 73, m_K_mayChoose)), (3, (2, 76, m_K_bringsBoth)), (3, (7, 358, m_K_findRests)), (3, (2, 80, m_K_isRest)), (3, (10, 170, m_X_shown)), (3, (7, 367, m_Z_settle)), (3, (5, 19, m_Z_silentBits)), (3, (5, 32, m_B_seeOne)), (0, (5, 23, m_Z_shownNow)), (3, (5, 38, m_B_seeMany)), (3, (0, 82, m_B_any)), (0, (5, 41, m_Z_expected)), (3, (5, 55, m_B_outcome)), (3, (5, 45, m_B_mass)), (3, (10, 174, m_X_law)), (3, (7, 370, m_Z_lostByJudge)), (3, (10, 178, m_X_time)), (3, (7, 375, m_S_isOrder)), (3, (4, 113, m_S_hasTest)), (3, (7, 378, m_B_attendTest)), (0, (7, 381, m_B_bestRule)), (3, (0, 107, m_B_stopOrGo)), (3, (0, 113, m_B_outcome)), (0, (0, 116, m_B_mass)), (0, (10, 183, m_X_undo)), (3, (7, 384, m_P_takeBack)), (3, (10, 187, m_X_image)), (3, (7, 387, m_S_copyFrom)), (3, (10, 191, m_X_on)), (3, (10, 195, m_X_count)), (187, (10, 19, m_M_feed)), (3, (8, 106, m_M_refuse)), (4, (10, 24, m_M_read)), (3, (8, 134, m_M_here)), (3, (8, 145, m_M_take)), (3, (8, 142, m_M_readNumber)), (4, (8, 114, m_M_in)), (3, (8, 158, m_M_readAct)), (3, (8, 155, m_M_readSigned)), (3, (8, 110, m_M_divisor)), (2, (10, 29, m_M_weight)), (3, (8, 189, m_M_isTruth)), (3, (10, 34, m_M_gets)), (4, (8, 194, m_M_isAct)), (3, (10, 38, m_M_second)), (3, (8, 197, m_M_keepBack)), (3, (10, 42, m_M_ties)), (3, (10, 47, m_M_done)), (4, (8, 207, m_M_doneBy)), (3, (8, 201, m_M_sumOf)), (3, (10, 51, m_M_put)), (3, (10, 55, m_M_look)), (3, (8, 210, m_M_clearLook)), (3, (8, 213, m_M_place)), (2, (8, 217, m_M_newLook)), (3, (10, 59, m_M_plain)), (3, (10, 63, m_M_bar)), (3, (10, 67, m_M_mix)), (3, (8, 185, m_M_isLook)), (3, (10, 71, m_M_meld)), (3, (8, 220, m_M_isSign)), (3, (10, 75, m_M_signs)), (3, (10, 79, m_M_parts)), (3, (10, 83, m_M_leaves)), (3, (8, 228, m_M_leave)), (3, (8, 224, m_M_allMass)), (3, (10, 88, m_M_does)), (3, (10, 93, m_M_worth)), (3, (8, 236, m_M_wrongLook)), (3, (8, 233, m_M_isPart)), (2, (8, 240, m_M_refuseFar)), (4, (8, 244, m_M_gotOf)), (4, (8, 248, m_M_allBefore)), (3, (8, 251, m_M_fraction)), (2, (10, 98, m_M_harm)), (3, (8, 255, m_M_gotPlain)), (3, (10, 103, m_M_think)), (3, (10, 107, m_M_forget)), (3, (10, 111, m_M_made)), (3, (8, 278, m_M_firstOther)), (3, (8, 275, m_M_isLeft)), (3, (8, 260, m_M_begin)), (3, (8, 263, m_M_times)), (4, (8, 266, m_M_allOf)), (3, (8, 269, m_M_addLimbs)), (3, (8, 272, m_M_allShares)), (3, (10, 116, m_M_chance)), (3, (10, 120, m_M_edges)), (3, (8, 305, m_M_findEdges)), (3, (8, 295, m_M_addMeeting)), (3, (8, 284, m_M_addCandidate)), (3, (8, 298, m_M_addEdge)), (3, (8, 301, m_M_doneBetween)), (3, (8, 288, m_M_doneAt)), (3, (10, 124, m_M_edge)), (3, (10, 128, m_M_value)), (4, (8, 310, m_M_valueOf)), (3, (10, 132, m_M_best)), (4, (8, 343, m_M_findBest)), (3, (8, 323, m_M_isBelow)), (3, (8, 326, m_M_findHeight)), (3, (8, 329, m_M_isHigher)), (3, (10, 136, m_M_corners)), (3, (10, 140, m_M_prove)), (6, (10, 144, m_M_test)), (3, (10, 148, m_M_set)), (3, (8, 376, m_M_isSet)), (3, (8, 379, m_M_ones)), (2, (8, 382, m_M_findSet)), (3, (8, 358, m_M_hearSet)), (3, (8, 361, m_M_power)), (2, (8, 367, m_M_gotTogether)), (3, (8, 352, m_M_waysOf)), (3, (8, 355, m_M_hearWay)), (3, (8, 370, m_M_costOf)), (3, (10, 152, m_M_chosen)), (3, (10, 156, m_M_enough)), (3, (10, 160, m_M_hear)), (3, (10, 165, m_M_knows)), (4, (10, 169, m_M_rests)), (3, (8, 391, m_M_findRivals)), (3, (8, 394, m_M_isRest)), (3, (8, 388, m_M_mayChoose)), (2, (10, 173, m_M_shown)), (3, (8, 401, m_M_findShown)), (3, (8, 398, m_M_beSilent)), (3, (10, 177, m_M_law)), (3, (10, 182, m_M_time)), (3, (8, 404, m_M_isTest)), (3, (10, 186, m_M_undo)), (3, (10, 190, m_M_image)), (3, (8, 419, m_M_moveAll)), (3, (8, 413, m_M_move)), (3, (10, 194, m_M_on)), (3, (10, 198, m_M_count))]
def MAt : List (Nat × (Nat × Nat × Nat)) := [(493, (7, 399, 994)), (56, (0, 56, 992)), (6, (0, 62, 993)), (69, (7, 183, 990)), (2, (7, 188, 991)), (165, (1, 99, 994))]
def NLt : List (Nat × (Nat × Nat × Nat)) := [(490, (4, 91, m_X_commonDivisor)), (181, (0, 65, m_X_commonDivisor)), (37, (0, 46, m_X_wholes)), (173, (1, 140, m_X_tell))]
def CIt : List (Nat × (Nat × Nat × Int)) := [(873, (7, 314, (-9999999))), (0, (7, 315, 9999999)), (0, (7, 316, 99999)), (24, (9, 265, 1431655765)), (0, (9, 266, 858993459)), (0, (9, 267, 252645135)), (645, (8, 346, (-9999999))), (0, (8, 347, 9999999)), (0, (8, 348, 99999))]
def CLt : List (Nat × (Nat × Nat × Int)) := [(442, (6, 28, 255)), (117, (7, 149, 9999)), (127, (7, 390, 4000000000000000000)), (24, (7, 373, 60)), (98, (1, 76, 2)), (442, (8, 122, 255)), (16, (8, 138, 57)), (3, (8, 140, 48)), (23, (8, 192, 2)), (20, (8, 205, 9999)), (90, (8, 104, (-4000000000000000000))), (4, (8, 231, 60)), (43, (8, 258, 10000)), (52, (8, 308, (-1))), (8, (8, 341, 3)), (85, (8, 386, 3600)), (63, (8, 422, 11)), (0, (8, 424, 16)), (0, (10, 13, 4294967295))]
def ACt : List (Nat × (Nat × Nat)) := [(483, (4, 76)), (45, (3, 28))]
def CDt : List (Nat × Nat) := [(433, 92), (3, 135), (3, 83), (4, 93), (3, 84), (3, 85), (3, 91), (3, 90), (3, 89), (3, 86), (3, 87), (3, 88), (3, 53), (6, 54), (2, 142), (6, 94), (3, 57), (3, 95), (3, 63), (3, 58), (4, 96), (3, 50), (3, 51), (4, 97), (3, 98), (3, 5), (3, 7), (3, 8), (6, 9), (7, 15), (3, 16), (3, 99), (3, 100), (3, 137), (3, 69), (3, 138), (3, 101), (3, 102), (3, 103), (3, 59), (3, 70), (3, 68), (3, 71), (4, 104), (3, 60), (11, 105), (3, 61), (3, 106), (3, 62), (4, 107), (3, 12), (3, 6), (3, 14), (4, 11), (4, 108), (3, 109), (2, 140), (3, 136), (4, 1), (3, 3), (3, 67), (3, 18), (3, 19), (3, 143), (4, 4), (2, 141), (4, 110), (3, 0), (3, 111), (3, 72), (3, 73), (3, 112), (3, 113), (3, 76), (3, 77), (3, 75), (3, 74), (3, 114), (5, 115), (3, 56), (3, 23), (3, 27), (3, 29), (3, 28), (4, 24), (3, 26), (6, 25), (4, 116), (3, 139), (3, 22), (3, 117), (3, 118), (3, 33), (3, 30), (3, 34), (3, 31), (3, 32), (3, 35), (3, 119), (3, 36), (3, 37), (3, 120), (6, 38), (3, 39), (4, 121), (3, 122), (3, 65), (2, 249), (6, 40), (4, 2), (4, 41), (3, 123), (3, 42), (7, 124), (3, 43), (3, 44), (3, 125), (3, 126), (4, 127), (3, 45), (3, 46), (3, 47), (3, 48), (3, 49), (3, 128), (3, 78), (3, 79), (4, 80), (3, 13), (4, 81), (3, 17), (3, 10), (3, 129), (3, 82), (3, 130), (3, 66), (3, 64), (4, 20), (3, 21), (5, 131), (3, 52), (3, 132), (3, 55), (3, 133), (3, 134), (187, 150), (3, 145), (4, 156), (3, 151), (3, 152), (3, 153), (3, 144), (4, 155), (3, 154), (2, 147), (3, 162), (3, 157), (3, 163), (4, 158), (3, 165), (3, 164), (3, 166), (3, 170), (4, 169), (3, 167), (3, 171), (3, 175), (3, 174), (2, 172), (3, 173), (3, 176), (3, 177), (3, 178), (3, 159), (3, 179), (3, 160), (3, 180), (3, 181), (3, 183), (3, 182), (3, 168), (3, 184), (3, 189), (3, 188), (2, 149), (3, 146), (4, 186), (4, 185), (2, 148), (3, 190), (3, 187), (3, 191), (3, 192), (3, 200), (3, 199), (3, 198), (3, 195), (3, 196), (4, 193), (3, 197), (3, 194), (3, 201), (3, 209), (3, 207), (3, 203), (3, 202), (3, 206), (3, 205), (3, 204), (3, 210), (3, 211), (4, 208), (3, 216), (4, 214), (3, 213), (3, 212), (3, 215), (3, 217), (3, 218), (6, 219), (3, 229), (3, 228), (2, 224), (3, 227), (3, 226), (2, 220), (3, 223), (3, 221), (3, 222), (3, 225), (3, 230), (3, 231), (3, 232), (3, 233), (4, 237), (3, 234), (3, 236), (2, 235), (3, 240), (3, 239), (3, 238), (3, 241), (3, 242), (3, 161), (3, 243), (3, 246), (3, 245), (3, 244), (3, 247), (3, 248)]
def IMt : List (Nat × Nat) := [(431, 92), (4, 135), (2, 83), (4, 93), (3, 84), (4, 85), (3, 91), (3, 90), (3, 89), (3, 86), (3, 87), (3, 88), (2, 53), (7, 54), (8, 94), (3, 57), (3, 95), (3, 63), (3, 58), (4, 96), (3, 50), (4, 51), (3, 97), (3, 98), (3, 5), (3, 7), (3, 8), (6, 9), (7, 15), (3, 16), (3, 99), (3, 100), (4, 137), (2, 69), (4, 138), (2, 101), (3, 102), (3, 103), (3, 59), (3, 70), (3, 68), (3, 71), (4, 104), (3, 60), (11, 105), (3, 61), (3, 106), (3, 62), (4, 107), (3, 12), (4, 6), (3, 14), (3, 11), (4, 108), (3, 109), (7, 136), (3, 1), (3, 3), (3, 67), (3, 18), (4, 19), (7, 4), (7, 110), (3, 0), (3, 111), (3, 72), (3, 73), (3, 112), (3, 113), (3, 76), (4, 77), (2, 75), (3, 74), (3, 114), (5, 115), (3, 56), (3, 23), (4, 27), (3, 29), (3, 28), (4, 24), (3, 26), (6, 25), (3, 116), (4, 139), (2, 22), (3, 117), (3, 118), (3, 33), (4, 30), (3, 34), (3, 31), (3, 32), (2, 35), (3, 119), (3, 36), (4, 37), (2, 120), (6, 38), (4, 39), (3, 121), (3, 122), (3, 65), (9, 40), (4, 2), (4, 41), (3, 123), (3, 42), (7, 124), (3, 43), (4, 44), (2, 125), (3, 126), (4, 127), (3, 45), (4, 46), (3, 47), (2, 48), (4, 49), (2, 128), (3, 78), (4, 79), (4, 80), (2, 13), (5, 81), (2, 17), (3, 10), (3, 129), (3, 82), (3, 130), (3, 66), (3, 64), (4, 20), (4, 21), (4, 131), (3, 52), (3, 132), (3, 55), (3, 133), (3, 134), (187, 150), (4, 145), (3, 156), (4, 151), (3, 152), (3, 153), (8, 155), (3, 154), (5, 162), (4, 157), (2, 163), (5, 158), (2, 165), (4, 164), (2, 166), (3, 170), (5, 169), (3, 167), (2, 171), (3, 175), (4, 174), (6, 173), (2, 176), (3, 177), (3, 178), (4, 159), (2, 179), (4, 160), (2, 180), (3, 181), (3, 183), (4, 182), (3, 168), (2, 184), (3, 189), (4, 188), (6, 146), (4, 186), (4, 185), (5, 190), (4, 187), (2, 191), (3, 192), (3, 200), (4, 199), (3, 198), (3, 195), (3, 196), (4, 193), (3, 197), (3, 194), (2, 201), (3, 209), (4, 207), (3, 203), (3, 202), (3, 206), (3, 205), (3, 204), (2, 210), (3, 211), (5, 208), (2, 216), (5, 214), (3, 213), (3, 212), (3, 215), (2, 217), (3, 218), (6, 219), (3, 229), (4, 228), (6, 227), (3, 226), (6, 223), (3, 221), (3, 222), (3, 225), (2, 230), (3, 231), (3, 232), (3, 233), (4, 237), (4, 234), (3, 236), (5, 240), (4, 239), (3, 238), (2, 241), (3, 242), (4, 161), (2, 243), (3, 246), (4, 245), (3, 244), (2, 247), (3, 248)]
def STt : List (Nat × Nat) := [(491, 142), (190, 140), (28, 143), (7, 141), (178, 249), (375, 144), (11, 147), (56, 172), (62, 149), (16, 148), (140, 224), (10, 220), (47, 235)]
def SEt : List (Nat × Nat) := [(0, 135), (0, 85), (0, 91), (0, 90), (0, 89), (0, 86), (0, 87), (0, 88), (0, 54), (0, 51), (0, 137), (0, 138), (0, 6), (0, 14), (0, 136), (0, 19), (0, 77), (0, 27), (0, 29), (0, 28), (0, 24), (0, 26), (0, 25), (0, 139), (0, 30), (0, 34), (0, 31), (0, 32), (0, 37), (0, 39), (0, 44), (0, 46), (0, 47), (0, 49), (0, 79), (0, 80), (0, 81), (0, 21), (0, 145), (0, 151), (0, 152), (0, 153), (0, 155), (0, 154), (0, 157), (0, 158), (0, 164), (0, 169), (0, 167), (0, 174), (0, 173), (0, 159), (0, 160), (0, 182), (0, 168), (0, 188), (0, 146), (0, 186), (0, 185), (0, 187), (0, 199), (0, 198), (0, 195), (0, 196), (0, 193), (0, 197), (0, 194), (0, 207), (0, 203), (0, 202), (0, 206), (0, 205), (0, 204), (0, 208), (0, 214), (0, 213), (0, 212), (0, 215), (0, 228), (0, 227), (0, 226), (0, 223), (0, 221), (0, 222), (0, 225), (0, 234), (0, 236), (0, 239), (0, 238), (0, 161), (0, 245), (0, 244), (340, 92), (7, 83), (4, 93), (3, 84), (31, 53), (16, 94), (3, 57), (3, 95), (3, 63), (3, 58), (4, 96), (3, 50), (8, 97), (3, 98), (3, 5), (3, 7), (3, 8), (6, 9), (7, 15), (3, 16), (3, 99), (3, 100), (7, 69), (7, 101), (3, 102), (3, 103), (3, 59), (3, 70), (3, 68), (3, 71), (4, 104), (3, 60), (11, 105), (3, 61), (3, 106), (3, 62), (4, 107), (3, 12), (12, 11), (4, 108), (3, 109), (11, 1), (3, 3), (3, 67), (3, 18), (12, 4), (7, 110), (3, 0), (3, 111), (3, 72), (3, 73), (3, 112), (3, 113), (3, 76), (7, 75), (3, 74), (3, 114), (5, 115), (3, 56), (3, 23), (32, 116), (7, 22), (3, 117), (3, 118), (3, 33), (19, 35), (3, 119), (3, 36), (7, 120), (6, 38), (8, 121), (3, 122), (3, 65), (9, 40), (4, 2), (4, 41), (3, 123), (3, 42), (7, 124), (3, 43), (7, 125), (3, 126), (4, 127), (3, 45), (11, 48), (7, 128), (3, 78), (12, 13), (8, 17), (3, 10), (3, 129), (3, 82), (3, 130), (3, 66), (3, 64), (4, 20), (9, 131), (3, 52), (3, 132), (3, 55), (3, 133), (3, 134), (187, 150), (8, 156), (31, 162), (7, 163), (8, 165), (7, 166), (3, 170), (12, 171), (3, 175), (14, 176), (3, 177), (3, 178), (7, 179), (7, 180), (3, 181), (3, 183), (11, 184), (3, 189), (27, 190), (7, 191), (3, 192), (3, 200), (32, 201), (3, 209), (27, 210), (3, 211), (8, 216), (20, 217), (3, 218), (6, 219), (3, 229), (37, 230), (3, 231), (3, 232), (3, 233), (4, 237), (14, 240), (11, 241), (3, 242), (7, 243), (3, 246), (11, 247), (3, 248)]
def INt : List (Nat × Nat) := [(92, 10), (0, 7), (0, 6), (0, 4), (0, 3), (0, 0), (0, 1), (0, 2), (0, 5), (0, 8), (2, 9)]
def mx : List (Nat × Nat × Bool) := [
  (0, 0, false),
  (0, 1, false),
  (0, 1, false),
  (0, 2, false),
  (0, 0, false),
  (0, 4, false),
  (0, 0, false),
  (0, 1, false),
  (0, 0, false),
  (0, 0, false),
  (0, 1, false),
  (0, 2, false),
  (0, 2, false),
  (0, 2, false),
  (0, 3, false),
  (0, 2, false),
  (0, 3, false),
  (0, 3, false),
  (0, 2, false),
  (0, 3, false),
  (0, 0, false),
  (0, 1, false),
  (1, 1, false),
  (1, 0, false),
  (1, 2, false),
  (1, 1, false),
  (1, 2, false),
  (1, 0, false),
  (1, 3, false),
  (1, 2, false),
  (1, 2, false),
  (1, 3, false),
  (1, 3, false),
  (1, 0, false),
  (1, 3, false),
  (1, 0, false),
  (1, 0, false),
  (1, 1, false),
  (1, 3, false),
  (1, 3, false),
  (2, 1, false),
  (2, 1, false),
  (2, 0, false),
  (2, 2, false),
  (2, 2, false),
  (2, 2, false),
  (2, 2, false),
  (2, 2, false),
  (2, 2, false),
  (2, 4, false),
  (3, 3, false),
  (3, 0, false),
  (3, 1, false),
  (4, 1, false),
  (4, 0, false),
  (4, 1, false),
  (4, 0, false),
  (4, 1, false),
  (4, 1, false),
  (4, 1, false),
  (4, 2, false),
  (4, 1, false),
  (4, 3, false),
  (4, 2, false),
  (4, 1, false),
  (4, 1, false),
  (4, 3, false),
  (4, 1, false),
  (4, 3, false),
  (4, 3, false),
  (4, 2, false),
  (4, 3, false),
  (4, 3, false),
  (4, 5, false),
  (4, 1, false),
  (4, 0, false),
  (4, 0, false),
  (4, 1, false),
  (5, 1, false),
  (5, 2, false),
  (5, 2, false),
  (5, 0, false),
  (5, 2, false),
  (6, 2, false),
  (6, 0, false),
  (6, 0, false),
  (6, 0, false),
  (6, 1, false),
  (6, 0, false),
  (6, 1, false),
  (6, 1, false),
  (6, 0, false),
  (7, 2, false),
  (7, 0, false),
  (7, 1, false),
  (7, 3, false),
  (7, 3, false),
  (7, 1, false),
  (7, 4, false),
  (7, 1, false),
  (7, 1, false),
  (7, 1, false),
  (7, 1, false),
  (7, 3, false),
  (7, 3, false),
  (7, 1, false),
  (7, 3, false),
  (7, 3, false),
  (7, 2, false),
  (7, 3, false),
  (7, 2, false),
  (7, 5, false),
  (7, 0, false),
  (7, 0, false),
  (7, 3, false),
  (7, 0, false),
  (7, 2, false),
  (7, 2, false),
  (7, 2, false),
  (7, 0, false),
  (7, 4, false),
  (7, 2, false),
  (7, 2, false),
  (7, 0, false),
  (7, 2, false),
  (7, 3, false),
  (7, 4, false),
  (7, 3, false),
  (7, 1, false),
  (7, 2, false),
  (7, 4, false),
  (7, 0, false),
  (7, 0, false),
  (7, 0, false),
  (7, 1, false),
  (7, 1, false),
  (7, 1, false),
  (7, 1, false),
  (7, 1, false),
  (7, 2, false),
  (7, 1, true),
  (7, 3, true),
  (7, 2, true),
  (7, 1, true),
  (8, 3, true),
  (8, 1, false),
  (8, 1, false),
  (8, 2, true),
  (8, 3, true),
  (8, 1, true),
  (8, 2, false),
  (8, 0, false),
  (8, 1, false),
  (8, 1, false),
  (8, 0, false),
  (8, 0, false),
  (8, 0, false),
  (8, 1, false),
  (8, 1, false),
  (8, 1, false),
  (8, 2, false),
  (8, 1, false),
  (8, 1, false),
  (8, 3, false),
  (8, 3, false),
  (8, 3, false),
  (8, 1, false),
  (8, 2, false),
  (8, 0, false),
  (8, 1, false),
  (8, 4, false),
  (8, 1, false),
  (8, 3, true),
  (8, 1, false),
  (8, 0, false),
  (8, 1, false),
  (8, 1, false),
  (8, 1, false),
  (8, 3, false),
  (8, 3, false),
  (8, 1, false),
  (8, 3, false),
  (8, 2, false),
  (8, 3, false),
  (8, 2, false),
  (8, 0, false),
  (8, 3, false),
  (8, 2, false),
  (8, 2, false),
  (8, 3, false),
  (8, 2, false),
  (8, 5, false),
  (8, 0, false),
  (8, 1, false),
  (8, 0, false),
  (8, 1, false),
  (8, 1, false),
  (8, 0, false),
  (8, 1, false),
  (8, 0, false),
  (8, 0, false),
  (8, 3, false),
  (8, 2, false),
  (8, 3, false),
  (8, 2, false),
  (8, 4, false),
  (8, 2, false),
  (8, 0, false),
  (8, 1, false),
  (8, 0, false),
  (8, 2, false),
  (8, 2, false),
  (8, 3, false),
  (8, 2, false),
  (8, 0, false),
  (8, 2, false),
  (8, 2, false),
  (8, 0, false),
  (8, 4, false),
  (8, 2, false),
  (8, 1, true),
  (8, 1, false),
  (8, 2, false),
  (8, 1, false),
  (8, 1, true),
  (8, 1, false),
  (8, 1, false),
  (8, 2, false),
  (8, 1, false),
  (8, 2, false),
  (8, 0, false),
  (8, 2, false),
  (8, 3, false),
  (8, 4, false),
  (8, 0, false),
  (8, 2, true),
  (8, 4, false),
  (8, 3, false),
  (8, 2, false),
  (8, 1, false),
  (8, 1, false),
  (8, 2, false),
  (8, 4, false),
  (8, 0, false),
  (8, 1, false),
  (8, 0, false),
  (8, 0, false),
  (8, 0, false),
  (8, 1, false),
  (9, 1, true)]
def mxOf (i : Nat) : Nat × Nat × Bool := lnth (0, 0, false) mx i
def flw (q : Nat × Nat × Nat × Nat) : Cond := match vwCl[q.2.2.1]? with
  | some (_, T, _) => .fieldLink (clsN q.1) q.2.1 (T q.2.2.2).1 (T q.2.2.2).2.1 (T q.2.2.2).2.2.1
  | none => .tt
def flN (q : Nat × Nat × Nat × Nat) : Bool := match vwCl[q.2.2.1]? with
  | some (_, _, N) => decide (q.2.2.2 < N)
  | none => false
def mY (i : Nat) : MethodName := (mtOf i).1
def mB (i : Nat) : ByteArray := (mtOf i).2.1
def mL (i : Nat) : Nat := (mtOf i).2.2.1
def mR (i : Nat) : Option FieldType := (mtOf i).2.2.2
def mlw (q : Nat × Nat × Nat) : Cond := .methodLink (clsN q.1) q.2.1 (mY q.2.2)
def mathY (a : Nat) : MethodName := match a with
  | 990 => Lib.Math.min.name
  | 991 => Lib.Math.max.name
  | 992 => Lib.MathLoose.min_long.x
  | 993 => Lib.MathLoose.max_long.x
  | _ => Lib.MathLoose.abs_long.x
def maw (q : Nat × Nat × Nat) : Cond := .methodLink (clsN q.1) q.2.1 (mathY q.2.2)
def nlw (q : Nat × Nat × Nat) : Cond := .methodLinkNest (clsN q.1) q.2.1 (mY q.2.2) "ShowRoom"
def ciw (q : Nat × Nat × Int) : Cond := .constant (clsN q.1) q.2.1 (Int32.ofInt q.2.2)
def clw (q : Nat × Nat × Int) : Cond := .constantLong (clsN q.1) q.2.1 (Int64.ofInt q.2.2)
def acw (q : Nat × Nat) : Cond := .methodLink (clsN q.1) q.2 arraycopyName
def cdw (i : Nat) : Cond := .code (mY i) (mB i) (mL i) (mR i)
def imw (i : Nat) : Cond := .instanceMethod (mY i)
def stw (i : Nat) : Cond := .static (mY i)
def sew (i : Nat) : Cond := .selects (mY i).cls (mY i) (mY i)
def inw (i : Nat) : Cond := .initialized (clsN i)
/-- the words stand in the list, each so many places behind the one before -/
def pkW : List Cond → List (Nat × Cond) → Bool
  | _, [] => true
  | [], _ :: _ => false
  | w :: ws, (0, c) :: t => decide (w = c) && pkW ws t
  | _ :: ws, (k + 1, c) :: t => pkW ws ((k, c) :: t)
theorem pkW_in : ∀ {ws : List Cond} {l : List (Nat × Cond)}, pkW ws l = true → ∀ q ∈ l, q.2 ∈ ws
  | _, [], _, q, h => by cases h
  | [], _ :: _, h, _, _ => by simp [pkW] at h
  | w :: ws, (0, c) :: t, h, q, hq => by
    simp only [pkW, Bool.and_eq_true, decide_eq_true_eq] at h
    rcases List.mem_cons.mp hq with rfl | hq
    · rw [h.1]; exact List.mem_cons_self
    · exact List.mem_cons_of_mem _ (pkW_in h.2 q hq)
  | w :: ws, (k + 1, c) :: t, h, q, hq => by
    simp only [pkW] at h
    refine List.mem_cons_of_mem _ ?_
    rcases List.mem_cons.mp hq with rfl | hq
    · exact pkW_in h (k, c) List.mem_cons_self
    · exact pkW_in h q (List.mem_cons_of_mem _ hq)
def gwl : List Cond := lw_tbl.filter goodWord
theorem pk_gwl {α : Type} {t : List (Nat × α)} {f : α → Cond} (h : pkW lw_tbl (t.map (fun q => (q.1, f q.2))) = true) (hg : t.all (fun q => goodWord (f q.2)) = true) {a : α} (ha : ∃ g, (g, a) ∈ t) : f a ∈ gwl := by
  obtain ⟨g, hm⟩ := ha
  exact List.mem_filter.mpr ⟨pkW_in h (g, f a) (List.mem_map.mpr ⟨(g, a), hm, rfl⟩), List.all_eq_true.mp hg (g, a) hm⟩
theorem gwl_good : GoodIn gwl gwl := fun w h => ⟨h, good_of_word (List.mem_filter.mp h).2⟩
set_option maxRecDepth 100000 in
theorem FLt_ok : pkW lw_tbl (FLt.map (fun q => (q.1, flw q.2))) = true := by decide +kernel
set_option maxRecDepth 100000 in
theorem FLt_g : FLt.all (fun q => goodWord (flw q.2)) = true := by decide +kernel
set_option maxRecDepth 100000 in
theorem MLt_ok : pkW lw_tbl (MLt.map (fun q => (q.1, mlw q.2))) = true := by decide +kernel
set_option maxRecDepth 100000 in
theorem MLt_g : MLt.all (fun q => goodWord (mlw q.2)) = true := by decide +kernel
set_option maxRecDepth 100000 in
theorem CIt_ok : pkW lw_tbl (CIt.map (fun q => (q.1, ciw q.2))) = true := by decide +kernel
set_option maxRecDepth 100000 in
theorem CIt_g : CIt.all (fun q => goodWord (ciw q.2)) = true := by decide +kernel
set_option maxRecDepth 100000 in
theorem CLt_ok : pkW lw_tbl (CLt.map (fun q => (q.1, clw q.2))) = true := by decide +kernel
set_option maxRecDepth 100000 in
theorem CLt_g : CLt.all (fun q => goodWord (clw q.2)) = true := by decide +kernel
set_option maxRecDepth 100000 in
theorem ACt_ok : pkW lw_tbl (ACt.map (fun q => (q.1, acw q.2))) = true := by decide +kernel
set_option maxRecDepth 100000 in
theorem ACt_g : ACt.all (fun q => goodWord (acw q.2)) = true := by decide +kernel
set_option maxRecDepth 100000 in
theorem MAt_ok : pkW lw_tbl (MAt.map (fun q => (q.1, maw q.2))) = true := by decide +kernel
set_option maxRecDepth 100000 in
theorem MAt_g : MAt.all (fun q => goodWord (maw q.2)) = true := by decide +kernel
set_option maxRecDepth 100000 in
theorem IMt_ok : pkW lw_tbl (IMt.map (fun q => (q.1, imw q.2))) = true := by decide +kernel
set_option maxRecDepth 100000 in
theorem IMt_g : IMt.all (fun q => goodWord (imw q.2)) = true := by decide +kernel
set_option maxRecDepth 100000 in
theorem STt_ok : pkW lw_tbl (STt.map (fun q => (q.1, stw q.2))) = true := by decide +kernel
set_option maxRecDepth 100000 in
theorem STt_g : STt.all (fun q => goodWord (stw q.2)) = true := by decide +kernel
set_option maxRecDepth 100000 in
theorem SEt_ok : pkW lw_tbl (SEt.map (fun q => (q.1, sew q.2))) = true := by decide +kernel
set_option maxRecDepth 100000 in
theorem SEt_g : SEt.all (fun q => goodWord (sew q.2)) = true := by decide +kernel
set_option maxRecDepth 100000 in
theorem INt_ok : pkW lw_tbl (INt.map (fun q => (q.1, inw q.2))) = true := by decide +kernel
set_option maxRecDepth 100000 in
theorem INt_g : INt.all (fun q => goodWord (inw q.2)) = true := by decide +kernel
def cdP : List (Nat ⊕ Cond) := [.inr (.code yX7_init cX7_init 1 none), .inr (.code objectInit object_method_1_code 1 none), .inr (.code yX6_init cX6_init 1 none), .inr (.code yX4_init cX4_init 1 none), .inr (.code yX3_init cX3_init 1 none), .inr (.code yX0_init cX0_init 2 none), .inr (.code yX1_init cX1_init 3 none), .inr (.code yX2_init cX2_init 3 none), .inr (.code yX5_init cX5_init 3 none), .inl m_X_feed, .inl m_X_refuse, .inl m_T_append, .inl m_X_read, .inl m_T_parse, .inl m_T_parseTruths, .inl m_T_peek, .inl m_T_skip, .inl m_T_parseDigits, .inl m_T_parseActs, .inl m_T_parsePairs, .inl m_T_parseNumber, .inl m_S_begin, .inl m_S_reducePrior, .inl m_X_commonDivisor, .inr (.code Lib.MathLoose.abs_long.x Lib.MathLoose.abs_long.code 2 (some .long)), .inl m_X_weight, .inl m_S_hasTruth, .inl m_X_gets, .inl m_S_lacksAct, .inl m_S_hasAct, .inl m_X_second, .inl m_P_keep, .inl m_P_giveUpOldest, .inl m_X_ties, .inl m_X_done, .inl m_B_lay, .inl m_B_any, .inl m_B_least, .inr (.code Lib.MathLoose.min_long.x Lib.MathLoose.min_long.code 4 (some .long)), .inl m_B_greatest, .inr (.code Lib.MathLoose.max_long.x Lib.MathLoose.max_long.code 4 (some .long)), .inl m_B_choose, .inl m_B_sumOf, .inl m_X_put, .inl m_X_look, .inl m_X_rowFits, .inl m_S_write, .inl m_X_keepLook, .inl m_X_plain, .inl m_X_bar, .inl m_X_mix, .inl m_S_hasLook, .inl m_S_isWhole, .inl m_S_partOf, .inl m_S_writeShare, .inl m_X_meld, .inl m_S_hasSign, .inr (.code Lib.Math.min.name Lib.Math.min.code 2 (some .int)), .inr (.code Lib.Math.max.name Lib.Math.max.code 2 (some .int)), .inl m_X_signs, .inl m_S_lacksLook, .inl m_X_parts, .inl m_S_lacksSign, .inl m_X_leaves, .inl m_B_seeOne, .inl m_B_layBefore, .inl m_B_step, .inl m_B_leastTerm, .inl m_X_does, .inl m_X_worth, .inl m_X_isPart, .inl m_X_refuseFar, .inl m_B_attendOnly, .inl m_B_attend, .inl m_S_pay, .inl m_B_brings, .inl m_B_gather, .inl m_X_wholes, .inl m_B_unit, .inl m_X_tell, .inl m_X_harm, .inl m_B_attendNone, .inl m_X_think, .inl m_S_thoughtFits, .inl m_S_keepThought, .inl m_X_forget, .inl m_X_made, .inl m_S_firstOff, .inl m_S_comesBack, .inl m_S_allShares, .inl m_S_thoughtTotal, .inl m_X_chance, .inl m_X_edges, .inl m_S_hasTwo, .inl m_L_survey, .inl m_L_findCrossings, .inl m_L_cross, .inl m_L_crossActs, .inl m_L_mark, .inl m_L_actAt, .inl m_L_actBetween, .inl m_X_edge, .inl m_X_lacksEdge, .inl m_L_hasEdge, .inl m_X_value, .inl m_X_best, .inl m_L_climb, .inl m_L_order, .inl m_L_climbBridge, .inl m_L_bridgeAbove, .inl m_L_bridgeBelow, .inl m_L_gainAbove, .inl m_X_corners, .inl m_L_cornerBits, .inl m_L_isCorner, .inl m_X_prove, .inl m_L_judgePrices, .inl m_L_priceAbove, .inl m_X_test, .inl m_X_set, .inl m_S_hasTests, .inl m_J_bitCountI, .inl m_K_bringsOf, .inl m_B_attendTest, .inl m_K_costOf, .inl m_X_chosen, .inl m_K_dearest, .inl m_X_enough, .inl m_K_cheapest, .inl m_K_isCheaper, .inl m_X_hear, .inl m_X_knows, .inl m_X_rests, .inl m_K_weighRivals, .inl m_K_mayChoose, .inl m_K_bringsBoth, .inl m_K_findRests, .inl m_K_isRest, .inl m_X_shown, .inl m_Z_settle, .inl m_Z_silentBits, .inl m_Z_shownNow, .inl m_B_seeMany, .inl m_Z_expected, .inl m_B_outcome, .inl m_B_mass, .inl m_X_law, .inl m_Z_lostByJudge, .inl m_X_time, .inl m_S_isOrder, .inl m_S_hasTest, .inl m_B_bestRule, .inl m_B_stopOrGo, .inl m_X_undo, .inl m_P_takeBack, .inl m_X_image, .inl m_S_copyFrom, .inl m_X_on, .inl m_X_count, .inr (.code yX8_init cX8_init 1 none), .inl m_M_feed, .inl m_M_refuse, .inl m_M_read, .inl m_M_here, .inl m_M_take, .inl m_M_readNumber, .inl m_M_in, .inl m_M_readAct, .inl m_M_readSigned, .inl m_M_divisor, .inl m_M_weight, .inl m_M_isTruth, .inl m_M_gets, .inl m_M_isAct, .inl m_M_second, .inl m_M_keepBack, .inl m_M_ties, .inl m_M_done, .inl m_M_doneBy, .inl m_M_sumOf, .inl m_M_put, .inl m_M_look, .inl m_M_clearLook, .inl m_M_place, .inl m_M_newLook, .inl m_M_plain, .inl m_M_bar, .inl m_M_mix, .inl m_M_isLook, .inl m_M_meld, .inl m_M_isSign, .inl m_M_signs, .inl m_M_parts, .inl m_M_leaves, .inl m_M_leave, .inl m_M_allMass, .inl m_M_does, .inl m_M_worth, .inl m_M_wrongLook, .inl m_M_isPart, .inl m_M_refuseFar, .inl m_M_gotOf, .inl m_M_allBefore, .inl m_M_fraction, .inl m_M_harm, .inl m_M_gotPlain, .inl m_M_think, .inl m_M_forget, .inl m_M_made, .inl m_M_firstOther, .inl m_M_isLeft, .inl m_M_begin, .inl m_M_times, .inl m_M_allOf, .inl m_M_addLimbs, .inl m_M_allShares, .inl m_M_chance, .inl m_M_edges, .inl m_M_findEdges, .inl m_M_addMeeting, .inl m_M_addCandidate, .inl m_M_addEdge, .inl m_M_doneBetween, .inl m_M_doneAt, .inl m_M_edge, .inl m_M_value, .inl m_M_valueOf, .inl m_M_best, .inl m_M_findBest, .inl m_M_isBelow, .inl m_M_findHeight, .inl m_M_isHigher, .inl m_M_corners, .inl m_M_prove, .inl m_M_test, .inl m_M_set, .inl m_M_isSet, .inl m_M_ones, .inl m_M_findSet, .inl m_M_hearSet, .inl m_M_power, .inl m_M_gotTogether, .inl m_M_waysOf, .inl m_M_hearWay, .inl m_M_costOf, .inl m_M_chosen, .inl m_M_enough, .inl m_M_hear, .inl m_M_knows, .inl m_M_rests, .inl m_M_findRivals, .inl m_M_isRest, .inl m_M_mayChoose, .inl m_M_shown, .inl m_M_findShown, .inl m_M_beSilent, .inl m_M_law, .inl m_M_time, .inl m_M_isTest, .inl m_M_undo, .inl m_M_image, .inl m_M_moveAll, .inl m_M_move, .inl m_M_on, .inl m_M_count]
def cdF (q : Nat ⊕ Cond) : Cond := match q with
  | .inl i => cdw i
  | .inr w => w
def cdL : List Cond := cdP.map cdF
theorem cdP_all : (List.range 250).all (fun i => cdP.any (fun q => match q with
  | .inl j => Nat.beq i j
  | .inr _ => false)) = true := by decide +kernel
set_option maxRecDepth 100000 in
theorem cdL_ok : tables_1.filter k2_isCode = cdL := by rfl
theorem cdL_in {w : Cond} (h : w ∈ cdL) : w ∈ lw_tbl := by
  rw [← cdL_ok] at h
  exact List.mem_append_right _ (List.mem_filter.mp h).1
set_option maxRecDepth 100000 in
theorem NLt_ok : pkW lw_tbl (NLt.map (fun q => (q.1, nlw q.2))) = true := by decide +kernel
def AC0 : List (Nat × Cond) := [(102, .initialized "java/lang/System"), (381, .static arraycopyName), (0, .native arraycopyName)]
set_option maxRecDepth 100000 in
theorem AC0_ok : pkW lw_tbl AC0 = true := by decide +kernel
def AM0 : List (Nat × Cond) := [(103, .initialized "java/lang/Math"), (390, .static Lib.MathLoose.abs_long.x), (56, .static Lib.MathLoose.min_long.x), (6, .static Lib.MathLoose.max_long.x), (69, .static Lib.Math.min.name), (2, .static Lib.Math.max.name)]
set_option maxRecDepth 100000 in
theorem AM0_ok : pkW lw_tbl AM0 = true := by decide +kernel
def rkOf (r : Option FieldType) : Nat := match r with
  | none => 0
  | some .int => 1
  | some .boolean => 1
  | some .long => 2
  | some (.array .int) => 3
  | _ => 9
/-- what of a method a program decides, beside its code -/
def mchk (i : Nat) : Bool := match mxOf i with
  | (own, n, sta) => decide ((mY i).cls = clsN own) && Jvm.plainName (mY i).cls && decide ((mY i).cls ≠ "java/lang/invoke/MethodHandle") && decide ((mY i).cls ≠ "java/lang/invoke/VarHandle") && decide ((parseMethodDescriptor (mY i).desc).map (fun d => d.parameters.length) = some n) && decide (mL i ≤ 40) && decide (rkOf (mR i) < 9) &&
    INt.any (fun q => Nat.beq q.2 own) && (match sta with
      | true => STt.any (fun q => Nat.beq q.2 i)
      | false => IMt.any (fun q => Nat.beq q.2 i) && SEt.any (fun q => Nat.beq q.2 i))
set_option maxRecDepth 100000 in
theorem flN_ok : FLt.all (fun q => flN q.2) = true := by decide +kernel
set_option maxRecDepth 100000 in
theorem mchk_ok : (List.range 250).all mchk = true := by decide +kernel
def finF (ci k : Nat) : Bool := match vwCl[ci]? with
  | some (_, T, _) => (T k).2.2.2
  | none => true
/-- what of an entry's link a program decides -/
def okR (own : Nat) (en : En) : Bool := match en with
  | (pc, _, ins, len, a, b, c, v, ts) => match ins with
    | .getfield k => FLt.any (fun q => decide (q.2 = (own, k, b, a)))
    | .putfield k => FLt.any (fun q => decide (q.2 = (own, k, b, a))) && !finF b a
    | .invokevirtual k => MLt.any (fun q => decide (q.2 = (own, k, a))) && decide (a < 250) && (match mxOf a with
      | (o2, n, sta) => !sta && decide (b = n + 1) && decide (v.toNat = o2) && decide (o2 < 9)) && decide (c = rkOf (mR a))
    | .invokestatic k => (decide (a = 999) && ACt.any (fun q => decide (q.2 = (own, k)))) || MAt.any (fun q => decide (q.2 = (own, k, a))) || ((MLt.any (fun q => decide (q.2 = (own, k, a))) || NLt.any (fun q => decide (q.2 = (own, k, a)))) && decide (a < 250) && (match mxOf a with
      | (o2, n, sta) => sta && decide (b = n)) && decide (c = rkOf (mR a)))
    | .ldc_w k => CIt.any (fun q => decide (q.2 = (own, k, v)))
    | .ldc2_w k => CLt.any (fun q => decide (q.2 = (own, k, v)))
    | _ => true
def chkE (own nL : Nat) (bytes : ByteArray) (en : En) : Bool := decide (decode bytes en.1 = .ok (en.2.2.1, en.2.2.2.1)) && okE nL en && okR own en
def seqC : List En → Bool
  | [] => true
  | e1 :: t => (match t with
    | [] => true
    | e2 :: _ => decide (e2.1 = e1.1 + e1.2.2.2.1)) && seqC t
def retOK (r : Option FieldType) (en : En) : Bool := match en.2.2.1 with
  | .ireturn => decide (r = some .int) || decide (r = some .boolean)
  | .lreturn => decide (r = some .long)
  | .areturn => decide (r = some (.array .int))
  | .return_ => decide (r = none)
  | _ => true
def chkM (i : Nat) : Bool := (codeOf i).all (chkE (mxOf i).1 (mL i) (mB i)) && seqC (codeOf i) && (codeOf i).all (retOK (mR i))

def LYt : List (Nat × Nat × Nat) := [(134, (6, 0)), (1, (6, 1)), (1, (6, 2)), (1, (6, 3)), (1, (6, 4)), (1, (6, 5)), (1, (6, 6)), (1, (6, 7)), (1, (6, 8)), (72, (4, 0)), (1, (4, 1)), (1, (4, 2)), (1, (4, 3)), (1, (4, 4)), (1, (4, 5)), (1, (4, 6)), (1, (4, 7)), (1, (4, 8)), (1, (4, 9)), (1, (4, 10)), (1, (4, 11)), (1, (4, 12)), (1, (4, 13)), (1, (4, 14)), (1, (4, 15)), (1, (4, 16)), (1, (4, 17)), (1, (4, 18)), (14, (3, 0)), (1, (3, 1)), (1, (3, 2)), (1, (3, 3)), (13, (0, 0)), (1, (0, 1)), (1, (0, 2)), (1, (0, 3)), (1, (0, 4)), (29, (1, 0)), (1, (1, 1)), (1, (1, 2)), (1, (1, 3)), (1, (1, 4)), (1, (1, 5)), (1, (1, 6)), (1, (1, 7)), (1, (1, 8)), (1, (1, 9)), (1, (1, 10)), (1, (1, 11)), (1, (1, 12)), (15, (2, 0)), (1, (2, 1)), (1, (2, 2)), (1, (2, 3)), (1, (2, 4)), (10, (5, 0)), (1, (5, 1)), (13, (7, 0)), (1, (7, 1)), (1, (7, 2)), (1, (7, 3)), (1, (7, 4)), (1, (7, 5)), (1, (7, 6)), (1, (7, 7)), (1, (7, 8)), (1, (7, 9)), (1, (7, 10)), (700, (8, 0)), (1, (8, 1)), (1, (8, 2)), (1, (8, 3)), (1, (8, 4)), (1, (8, 5)), (1, (8, 6)), (1, (8, 7)), (1, (8, 8)), (1, (8, 9)), (1, (8, 10)), (1, (8, 11)), (1, (8, 12)), (1, (8, 13)), (1, (8, 14)), (1, (8, 15)), (1, (8, 16)), (1, (8, 17)), (1, (8, 18)), (1, (8, 19)), (1, (8, 20)), (1, (8, 21)), (1, (8, 22)), (1, (8, 23)), (1, (8, 24)), (1, (8, 25)), (1, (8, 26)), (1, (8, 27)), (1, (8, 28)), (1, (8, 29)), (1, (8, 30)), (1, (8, 31)), (1, (8, 32)), (1, (8, 33)), (1, (8, 34)), (1, (8, 35)), (1, (8, 36)), (1, (8, 37)), (1, (8, 38)), (1, (8, 39)), (1, (8, 40)), (1, (8, 41)), (1, (8, 42)), (1, (8, 43)), (1, (8, 44)), (1, (8, 45)), (1, (8, 46)), (1, (8, 47)), (1, (8, 48)), (1, (8, 49)), (1, (8, 50)), (1, (8, 51)), (1, (8, 52)), (1, (8, 53)), (1, (8, 54)), (1, (8, 55)), (1, (8, 56)), (1, (8, 57)), (1, (8, 58))]
def lyw (q : Nat × Nat) : Cond := match vwCl[q.1]? with
  | some (C, T, _) => u_lay C T q.2
  | none => .tt
set_option maxRecDepth 100000 in
theorem LYt_ok : pkW lw_tbl (LYt.map (fun q => (q.1, lyw q.2))) = true := by decide +kernel
set_option maxRecDepth 100000 in
theorem LYt_g : LYt.all (fun q => goodWord (lyw q.2)) = true := by decide +kernel

