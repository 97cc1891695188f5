set_option maxRecDepth 100000 in
theorem k_B_attendNone : chkM m_B_attendNone = true := by decide +kernel
set_option maxRecDepth 100000 in
theorem k_B_attendOnly : chkM m_B_attendOnly = true := by decide +kernel
set_option maxRecDepth 100000 in
theorem k_B_attendTest : chkM m_B_attendTest = true := by decide +kernel
set_option maxRecDepth 100000 in
theorem k_B_attend : chkM m_B_attend = true := by decide +kernel
set_option maxRecDepth 100000 in
theorem k_B_unit : chkM m_B_unit = true := by decide +kernel
set_option maxRecDepth 100000 in
theorem k_B_lay : chkM m_B_lay = true := by decide +kernel
set_option maxRecDepth 100000 in
theorem k_B_layBefore : chkM m_B_layBefore = true := by decide +kernel
set_option maxRecDepth 100000 in
theorem k_B_any : chkM m_B_any = true := by decide +kernel
set_option maxRecDepth 100000 in
theorem k_B_least : chkM m_B_least = true := by decide +kernel
set_option maxRecDepth 100000 in
theorem k_B_greatest : chkM m_B_greatest = true := by decide +kernel
set_option maxRecDepth 100000 in
theorem k_B_mass : chkM m_B_mass = true := by decide +kernel
set_option maxRecDepth 100000 in
theorem k_B_leastTerm : chkM m_B_leastTerm = true := by decide +kernel
set_option maxRecDepth 100000 in
theorem k_B_seeOne : chkM m_B_seeOne = true := by decide +kernel
set_option maxRecDepth 100000 in
theorem k_B_seeMany : chkM m_B_seeMany = true := by decide +kernel
set_option maxRecDepth 100000 in
theorem k_B_step : chkM m_B_step = true := by decide +kernel
set_option maxRecDepth 100000 in
theorem k_B_choose : chkM m_B_choose = true := by decide +kernel
set_option maxRecDepth 100000 in
theorem k_B_sumOf : chkM m_B_sumOf = true := by decide +kernel
set_option maxRecDepth 100000 in
theorem k_B_outcome : chkM m_B_outcome = true := by decide +kernel
set_option maxRecDepth 100000 in
theorem k_B_brings : chkM m_B_brings = true := by decide +kernel
set_option maxRecDepth 100000 in
theorem k_B_gather : chkM m_B_gather = true := by decide +kernel
set_option maxRecDepth 100000 in
theorem k_B_bestRule : chkM m_B_bestRule = true := by decide +kernel
set_option maxRecDepth 100000 in
theorem k_B_stopOrGo : chkM m_B_stopOrGo = true := by decide +kernel
set_option maxRecDepth 100000 in
theorem k_L_hasEdge : chkM m_L_hasEdge = true := by decide +kernel
set_option maxRecDepth 100000 in
theorem k_L_survey : chkM m_L_survey = true := by decide +kernel
set_option maxRecDepth 100000 in
theorem k_L_mark : chkM m_L_mark = true := by decide +kernel
set_option maxRecDepth 100000 in
theorem k_L_actBetween : chkM m_L_actBetween = true := by decide +kernel
set_option maxRecDepth 100000 in
theorem k_L_actAt : chkM m_L_actAt = true := by decide +kernel
set_option maxRecDepth 100000 in
theorem k_L_findCrossings : chkM m_L_findCrossings = true := by decide +kernel
set_option maxRecDepth 100000 in
theorem k_L_crossActs : chkM m_L_crossActs = true := by decide +kernel
set_option maxRecDepth 100000 in
theorem k_L_cross : chkM m_L_cross = true := by decide +kernel
set_option maxRecDepth 100000 in
theorem k_L_order : chkM m_L_order = true := by decide +kernel
set_option maxRecDepth 100000 in
theorem k_L_bridgeAbove : chkM m_L_bridgeAbove = true := by decide +kernel
set_option maxRecDepth 100000 in
theorem k_L_bridgeBelow : chkM m_L_bridgeBelow = true := by decide +kernel
set_option maxRecDepth 100000 in
theorem k_L_climb : chkM m_L_climb = true := by decide +kernel
set_option maxRecDepth 100000 in
theorem k_L_climbBridge : chkM m_L_climbBridge = true := by decide +kernel
set_option maxRecDepth 100000 in
theorem k_L_gainAbove : chkM m_L_gainAbove = true := by decide +kernel
set_option maxRecDepth 100000 in
theorem k_L_cornerBits : chkM m_L_cornerBits = true := by decide +kernel
set_option maxRecDepth 100000 in
theorem k_L_isCorner : chkM m_L_isCorner = true := by decide +kernel
set_option maxRecDepth 100000 in
theorem k_L_judgePrices : chkM m_L_judgePrices = true := by decide +kernel
set_option maxRecDepth 100000 in
theorem k_L_priceAbove : chkM m_L_priceAbove = true := by decide +kernel
set_option maxRecDepth 100000 in
theorem k_K_bringsOf : chkM m_K_bringsOf = true := by decide +kernel
set_option maxRecDepth 100000 in
theorem k_K_costOf : chkM m_K_costOf = true := by decide +kernel
set_option maxRecDepth 100000 in
theorem k_K_dearest : chkM m_K_dearest = true := by decide +kernel
set_option maxRecDepth 100000 in
theorem k_K_cheapest : chkM m_K_cheapest = true := by decide +kernel
set_option maxRecDepth 100000 in
theorem k_K_isCheaper : chkM m_K_isCheaper = true := by decide +kernel
set_option maxRecDepth 100000 in
theorem k_K_weighRivals : chkM m_K_weighRivals = true := by decide +kernel
set_option maxRecDepth 100000 in
theorem k_K_mayChoose : chkM m_K_mayChoose = true := by decide +kernel
set_option maxRecDepth 100000 in
theorem k_K_bringsBoth : chkM m_K_bringsBoth = true := by decide +kernel
set_option maxRecDepth 100000 in
theorem k_K_findRests : chkM m_K_findRests = true := by decide +kernel
set_option maxRecDepth 100000 in
theorem k_K_isRest : chkM m_K_isRest = true := by decide +kernel
set_option maxRecDepth 100000 in
theorem k_P_keep : chkM m_P_keep = true := by decide +kernel
set_option maxRecDepth 100000 in
theorem k_P_giveUpOldest : chkM m_P_giveUpOldest = true := by decide +kernel
set_option maxRecDepth 100000 in
theorem k_P_takeBack : chkM m_P_takeBack = true := by decide +kernel
set_option maxRecDepth 100000 in
theorem k_S_begin : chkM m_S_begin = true := by decide +kernel
set_option maxRecDepth 100000 in
theorem k_S_reducePrior : chkM m_S_reducePrior = true := by decide +kernel
set_option maxRecDepth 100000 in
theorem k_S_copyFrom : chkM m_S_copyFrom = true := by decide +kernel
set_option maxRecDepth 100000 in
theorem k_S_hasTwo : chkM m_S_hasTwo = true := by decide +kernel
set_option maxRecDepth 100000 in
theorem k_S_hasTruth : chkM m_S_hasTruth = true := by decide +kernel
set_option maxRecDepth 100000 in
theorem k_S_hasAct : chkM m_S_hasAct = true := by decide +kernel
set_option maxRecDepth 100000 in
theorem k_S_hasLook : chkM m_S_hasLook = true := by decide +kernel
set_option maxRecDepth 100000 in
theorem k_S_hasSign : chkM m_S_hasSign = true := by decide +kernel
set_option maxRecDepth 100000 in
theorem k_S_lacksLook : chkM m_S_lacksLook = true := by decide +kernel
set_option maxRecDepth 100000 in
theorem k_S_lacksSign : chkM m_S_lacksSign = true := by decide +kernel
set_option maxRecDepth 100000 in
theorem k_S_lacksAct : chkM m_S_lacksAct = true := by decide +kernel
