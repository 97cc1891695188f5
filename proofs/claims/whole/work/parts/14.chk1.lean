set_option maxRecDepth 100000 in
theorem k_S_hasTest : chkM m_S_hasTest = true := by decide +kernel
set_option maxRecDepth 100000 in
theorem k_S_hasTests : chkM m_S_hasTests = true := by decide +kernel
set_option maxRecDepth 100000 in
theorem k_S_isOrder : chkM m_S_isOrder = true := by decide +kernel
set_option maxRecDepth 100000 in
theorem k_S_pay : chkM m_S_pay = true := by decide +kernel
set_option maxRecDepth 100000 in
theorem k_S_partOf : chkM m_S_partOf = true := by decide +kernel
set_option maxRecDepth 100000 in
theorem k_S_write : chkM m_S_write = true := by decide +kernel
set_option maxRecDepth 100000 in
theorem k_S_isWhole : chkM m_S_isWhole = true := by decide +kernel
set_option maxRecDepth 100000 in
theorem k_S_writeShare : chkM m_S_writeShare = true := by decide +kernel
set_option maxRecDepth 100000 in
theorem k_S_thoughtFits : chkM m_S_thoughtFits = true := by decide +kernel
set_option maxRecDepth 100000 in
theorem k_S_keepThought : chkM m_S_keepThought = true := by decide +kernel
set_option maxRecDepth 100000 in
theorem k_S_thoughtTotal : chkM m_S_thoughtTotal = true := by decide +kernel
set_option maxRecDepth 100000 in
theorem k_S_allShares : chkM m_S_allShares = true := by decide +kernel
set_option maxRecDepth 100000 in
theorem k_S_firstOff : chkM m_S_firstOff = true := by decide +kernel
set_option maxRecDepth 100000 in
theorem k_S_comesBack : chkM m_S_comesBack = true := by decide +kernel
set_option maxRecDepth 100000 in
theorem k_Z_settle : chkM m_Z_settle = true := by decide +kernel
set_option maxRecDepth 100000 in
theorem k_Z_silentBits : chkM m_Z_silentBits = true := by decide +kernel
set_option maxRecDepth 100000 in
theorem k_Z_shownNow : chkM m_Z_shownNow = true := by decide +kernel
set_option maxRecDepth 100000 in
theorem k_Z_expected : chkM m_Z_expected = true := by decide +kernel
set_option maxRecDepth 100000 in
theorem k_Z_lostByJudge : chkM m_Z_lostByJudge = true := by decide +kernel
set_option maxRecDepth 100000 in
theorem k_T_append : chkM m_T_append = true := by decide +kernel
set_option maxRecDepth 100000 in
theorem k_T_parse : chkM m_T_parse = true := by decide +kernel
set_option maxRecDepth 100000 in
theorem k_T_parseTruths : chkM m_T_parseTruths = true := by decide +kernel
set_option maxRecDepth 100000 in
theorem k_T_parseActs : chkM m_T_parseActs = true := by decide +kernel
set_option maxRecDepth 100000 in
theorem k_T_parsePairs : chkM m_T_parsePairs = true := by decide +kernel
set_option maxRecDepth 100000 in
theorem k_T_parseNumber : chkM m_T_parseNumber = true := by decide +kernel
set_option maxRecDepth 100000 in
theorem k_T_parseDigits : chkM m_T_parseDigits = true := by decide +kernel
set_option maxRecDepth 100000 in
theorem k_T_skip : chkM m_T_skip = true := by decide +kernel
set_option maxRecDepth 100000 in
theorem k_T_peek : chkM m_T_peek = true := by decide +kernel
set_option maxRecDepth 100000 in
theorem k_X_feed : chkM m_X_feed = true := by decide +kernel
set_option maxRecDepth 100000 in
theorem k_X_read : chkM m_X_read = true := by decide +kernel
set_option maxRecDepth 100000 in
theorem k_X_weight : chkM m_X_weight = true := by decide +kernel
set_option maxRecDepth 100000 in
theorem k_X_gets : chkM m_X_gets = true := by decide +kernel
set_option maxRecDepth 100000 in
theorem k_X_second : chkM m_X_second = true := by decide +kernel
set_option maxRecDepth 100000 in
theorem k_X_ties : chkM m_X_ties = true := by decide +kernel
set_option maxRecDepth 100000 in
theorem k_X_done : chkM m_X_done = true := by decide +kernel
set_option maxRecDepth 100000 in
theorem k_X_put : chkM m_X_put = true := by decide +kernel
set_option maxRecDepth 100000 in
theorem k_X_look : chkM m_X_look = true := by decide +kernel
set_option maxRecDepth 100000 in
theorem k_X_plain : chkM m_X_plain = true := by decide +kernel
set_option maxRecDepth 100000 in
theorem k_X_bar : chkM m_X_bar = true := by decide +kernel
set_option maxRecDepth 100000 in
theorem k_X_mix : chkM m_X_mix = true := by decide +kernel
set_option maxRecDepth 100000 in
theorem k_X_meld : chkM m_X_meld = true := by decide +kernel
set_option maxRecDepth 100000 in
theorem k_X_signs : chkM m_X_signs = true := by decide +kernel
set_option maxRecDepth 100000 in
theorem k_X_parts : chkM m_X_parts = true := by decide +kernel
set_option maxRecDepth 100000 in
theorem k_X_leaves : chkM m_X_leaves = true := by decide +kernel
set_option maxRecDepth 100000 in
theorem k_X_does : chkM m_X_does = true := by decide +kernel
set_option maxRecDepth 100000 in
theorem k_X_worth : chkM m_X_worth = true := by decide +kernel
set_option maxRecDepth 100000 in
theorem k_X_harm : chkM m_X_harm = true := by decide +kernel
set_option maxRecDepth 100000 in
theorem k_X_think : chkM m_X_think = true := by decide +kernel
set_option maxRecDepth 100000 in
theorem k_X_forget : chkM m_X_forget = true := by decide +kernel
set_option maxRecDepth 100000 in
theorem k_X_made : chkM m_X_made = true := by decide +kernel
set_option maxRecDepth 100000 in
theorem k_X_chance : chkM m_X_chance = true := by decide +kernel
set_option maxRecDepth 100000 in
theorem k_X_edges : chkM m_X_edges = true := by decide +kernel
set_option maxRecDepth 100000 in
theorem k_X_edge : chkM m_X_edge = true := by decide +kernel
set_option maxRecDepth 100000 in
theorem k_X_value : chkM m_X_value = true := by decide +kernel
set_option maxRecDepth 100000 in
theorem k_X_best : chkM m_X_best = true := by decide +kernel
set_option maxRecDepth 100000 in
theorem k_X_corners : chkM m_X_corners = true := by decide +kernel
set_option maxRecDepth 100000 in
theorem k_X_prove : chkM m_X_prove = true := by decide +kernel
set_option maxRecDepth 100000 in
theorem k_X_test : chkM m_X_test = true := by decide +kernel
set_option maxRecDepth 100000 in
theorem k_X_set : chkM m_X_set = true := by decide +kernel
set_option maxRecDepth 100000 in
theorem k_X_chosen : chkM m_X_chosen = true := by decide +kernel
set_option maxRecDepth 100000 in
theorem k_X_enough : chkM m_X_enough = true := by decide +kernel
set_option maxRecDepth 100000 in
theorem k_X_hear : chkM m_X_hear = true := by decide +kernel
set_option maxRecDepth 100000 in
theorem k_X_knows : chkM m_X_knows = true := by decide +kernel
set_option maxRecDepth 100000 in
theorem k_X_rests : chkM m_X_rests = true := by decide +kernel
