set_option maxRecDepth 100000 in
theorem k_X_shown : chkM m_X_shown = true := by decide +kernel
set_option maxRecDepth 100000 in
theorem k_X_law : chkM m_X_law = true := by decide +kernel
set_option maxRecDepth 100000 in
theorem k_X_time : chkM m_X_time = true := by decide +kernel
set_option maxRecDepth 100000 in
theorem k_X_undo : chkM m_X_undo = true := by decide +kernel
set_option maxRecDepth 100000 in
theorem k_X_image : chkM m_X_image = true := by decide +kernel
set_option maxRecDepth 100000 in
theorem k_X_on : chkM m_X_on = true := by decide +kernel
set_option maxRecDepth 100000 in
theorem k_X_count : chkM m_X_count = true := by decide +kernel
set_option maxRecDepth 100000 in
theorem k_X_refuse : chkM m_X_refuse = true := by decide +kernel
set_option maxRecDepth 100000 in
theorem k_X_refuseFar : chkM m_X_refuseFar = true := by decide +kernel
set_option maxRecDepth 100000 in
theorem k_X_rowFits : chkM m_X_rowFits = true := by decide +kernel
set_option maxRecDepth 100000 in
theorem k_X_keepLook : chkM m_X_keepLook = true := by decide +kernel
set_option maxRecDepth 100000 in
theorem k_X_lacksEdge : chkM m_X_lacksEdge = true := by decide +kernel
set_option maxRecDepth 100000 in
theorem k_X_isPart : chkM m_X_isPart = true := by decide +kernel
set_option maxRecDepth 100000 in
theorem k_X_tell : chkM m_X_tell = true := by decide +kernel
set_option maxRecDepth 100000 in
theorem k_X_commonDivisor : chkM m_X_commonDivisor = true := by decide +kernel
set_option maxRecDepth 100000 in
theorem k_X_wholes : chkM m_X_wholes = true := by decide +kernel
set_option maxRecDepth 100000 in
theorem k_M_in : chkM m_M_in = true := by decide +kernel
set_option maxRecDepth 100000 in
theorem k_M_refuse : chkM m_M_refuse = true := by decide +kernel
set_option maxRecDepth 100000 in
theorem k_M_refuseFar : chkM m_M_refuseFar = true := by decide +kernel
set_option maxRecDepth 100000 in
theorem k_M_divisor : chkM m_M_divisor = true := by decide +kernel
set_option maxRecDepth 100000 in
theorem k_M_fraction : chkM m_M_fraction = true := by decide +kernel
set_option maxRecDepth 100000 in
theorem k_M_isPart : chkM m_M_isPart = true := by decide +kernel
set_option maxRecDepth 100000 in
theorem k_M_feed : chkM m_M_feed = true := by decide +kernel
set_option maxRecDepth 100000 in
theorem k_M_here : chkM m_M_here = true := by decide +kernel
set_option maxRecDepth 100000 in
theorem k_M_take : chkM m_M_take = true := by decide +kernel
set_option maxRecDepth 100000 in
theorem k_M_readNumber : chkM m_M_readNumber = true := by decide +kernel
set_option maxRecDepth 100000 in
theorem k_M_readSigned : chkM m_M_readSigned = true := by decide +kernel
set_option maxRecDepth 100000 in
theorem k_M_readAct : chkM m_M_readAct = true := by decide +kernel
set_option maxRecDepth 100000 in
theorem k_M_read : chkM m_M_read = true := by decide +kernel
set_option maxRecDepth 100000 in
theorem k_M_isTruth : chkM m_M_isTruth = true := by decide +kernel
set_option maxRecDepth 100000 in
theorem k_M_isAct : chkM m_M_isAct = true := by decide +kernel
set_option maxRecDepth 100000 in
theorem k_M_isLook : chkM m_M_isLook = true := by decide +kernel
set_option maxRecDepth 100000 in
theorem k_M_isSign : chkM m_M_isSign = true := by decide +kernel
set_option maxRecDepth 100000 in
theorem k_M_isTest : chkM m_M_isTest = true := by decide +kernel
set_option maxRecDepth 100000 in
theorem k_M_weight : chkM m_M_weight = true := by decide +kernel
set_option maxRecDepth 100000 in
theorem k_M_gets : chkM m_M_gets = true := by decide +kernel
set_option maxRecDepth 100000 in
theorem k_M_keepBack : chkM m_M_keepBack = true := by decide +kernel
set_option maxRecDepth 100000 in
theorem k_M_second : chkM m_M_second = true := by decide +kernel
set_option maxRecDepth 100000 in
theorem k_M_ties : chkM m_M_ties = true := by decide +kernel
set_option maxRecDepth 100000 in
theorem k_M_sumOf : chkM m_M_sumOf = true := by decide +kernel
set_option maxRecDepth 100000 in
theorem k_M_allMass : chkM m_M_allMass = true := by decide +kernel
set_option maxRecDepth 100000 in
theorem k_M_doneBy : chkM m_M_doneBy = true := by decide +kernel
set_option maxRecDepth 100000 in
theorem k_M_done : chkM m_M_done = true := by decide +kernel
set_option maxRecDepth 100000 in
theorem k_M_put : chkM m_M_put = true := by decide +kernel
set_option maxRecDepth 100000 in
theorem k_M_place : chkM m_M_place = true := by decide +kernel
set_option maxRecDepth 100000 in
theorem k_M_newLook : chkM m_M_newLook = true := by decide +kernel
set_option maxRecDepth 100000 in
theorem k_M_clearLook : chkM m_M_clearLook = true := by decide +kernel
set_option maxRecDepth 100000 in
theorem k_M_look : chkM m_M_look = true := by decide +kernel
set_option maxRecDepth 100000 in
theorem k_M_plain : chkM m_M_plain = true := by decide +kernel
set_option maxRecDepth 100000 in
theorem k_M_bar : chkM m_M_bar = true := by decide +kernel
set_option maxRecDepth 100000 in
theorem k_M_mix : chkM m_M_mix = true := by decide +kernel
set_option maxRecDepth 100000 in
theorem k_M_meld : chkM m_M_meld = true := by decide +kernel
set_option maxRecDepth 100000 in
theorem k_M_signs : chkM m_M_signs = true := by decide +kernel
set_option maxRecDepth 100000 in
theorem k_M_parts : chkM m_M_parts = true := by decide +kernel
set_option maxRecDepth 100000 in
theorem k_M_leave : chkM m_M_leave = true := by decide +kernel
set_option maxRecDepth 100000 in
theorem k_M_leaves : chkM m_M_leaves = true := by decide +kernel
set_option maxRecDepth 100000 in
theorem k_M_does : chkM m_M_does = true := by decide +kernel
set_option maxRecDepth 100000 in
theorem k_M_allBefore : chkM m_M_allBefore = true := by decide +kernel
set_option maxRecDepth 100000 in
theorem k_M_gotOf : chkM m_M_gotOf = true := by decide +kernel
set_option maxRecDepth 100000 in
theorem k_M_gotPlain : chkM m_M_gotPlain = true := by decide +kernel
set_option maxRecDepth 100000 in
theorem k_M_wrongLook : chkM m_M_wrongLook = true := by decide +kernel
set_option maxRecDepth 100000 in
theorem k_M_worth : chkM m_M_worth = true := by decide +kernel
set_option maxRecDepth 100000 in
theorem k_M_harm : chkM m_M_harm = true := by decide +kernel
set_option maxRecDepth 100000 in
theorem k_M_think : chkM m_M_think = true := by decide +kernel
