set_option maxRecDepth 100000 in
theorem k_M_forget : chkM m_M_forget = true := by decide +kernel
set_option maxRecDepth 100000 in
theorem k_M_allOf : chkM m_M_allOf = true := by decide +kernel
set_option maxRecDepth 100000 in
theorem k_M_allShares : chkM m_M_allShares = true := by decide +kernel
set_option maxRecDepth 100000 in
theorem k_M_begin : chkM m_M_begin = true := by decide +kernel
set_option maxRecDepth 100000 in
theorem k_M_times : chkM m_M_times = true := by decide +kernel
set_option maxRecDepth 100000 in
theorem k_M_addLimbs : chkM m_M_addLimbs = true := by decide +kernel
set_option maxRecDepth 100000 in
theorem k_M_isLeft : chkM m_M_isLeft = true := by decide +kernel
set_option maxRecDepth 100000 in
theorem k_M_firstOther : chkM m_M_firstOther = true := by decide +kernel
set_option maxRecDepth 100000 in
theorem k_M_made : chkM m_M_made = true := by decide +kernel
set_option maxRecDepth 100000 in
theorem k_M_chance : chkM m_M_chance = true := by decide +kernel
set_option maxRecDepth 100000 in
theorem k_M_addCandidate : chkM m_M_addCandidate = true := by decide +kernel
set_option maxRecDepth 100000 in
theorem k_M_addMeeting : chkM m_M_addMeeting = true := by decide +kernel
set_option maxRecDepth 100000 in
theorem k_M_doneAt : chkM m_M_doneAt = true := by decide +kernel
set_option maxRecDepth 100000 in
theorem k_M_doneBetween : chkM m_M_doneBetween = true := by decide +kernel
set_option maxRecDepth 100000 in
theorem k_M_addEdge : chkM m_M_addEdge = true := by decide +kernel
set_option maxRecDepth 100000 in
theorem k_M_findEdges : chkM m_M_findEdges = true := by decide +kernel
set_option maxRecDepth 100000 in
theorem k_M_valueOf : chkM m_M_valueOf = true := by decide +kernel
set_option maxRecDepth 100000 in
theorem k_M_edges : chkM m_M_edges = true := by decide +kernel
set_option maxRecDepth 100000 in
theorem k_M_edge : chkM m_M_edge = true := by decide +kernel
set_option maxRecDepth 100000 in
theorem k_M_value : chkM m_M_value = true := by decide +kernel
set_option maxRecDepth 100000 in
theorem k_M_findHeight : chkM m_M_findHeight = true := by decide +kernel
set_option maxRecDepth 100000 in
theorem k_M_isBelow : chkM m_M_isBelow = true := by decide +kernel
set_option maxRecDepth 100000 in
theorem k_M_findBest : chkM m_M_findBest = true := by decide +kernel
set_option maxRecDepth 100000 in
theorem k_M_isHigher : chkM m_M_isHigher = true := by decide +kernel
set_option maxRecDepth 100000 in
theorem k_M_best : chkM m_M_best = true := by decide +kernel
set_option maxRecDepth 100000 in
theorem k_M_corners : chkM m_M_corners = true := by decide +kernel
set_option maxRecDepth 100000 in
theorem k_M_prove : chkM m_M_prove = true := by decide +kernel
set_option maxRecDepth 100000 in
theorem k_M_test : chkM m_M_test = true := by decide +kernel
set_option maxRecDepth 100000 in
theorem k_M_power : chkM m_M_power = true := by decide +kernel
set_option maxRecDepth 100000 in
theorem k_M_waysOf : chkM m_M_waysOf = true := by decide +kernel
set_option maxRecDepth 100000 in
theorem k_M_hearWay : chkM m_M_hearWay = true := by decide +kernel
set_option maxRecDepth 100000 in
theorem k_M_gotTogether : chkM m_M_gotTogether = true := by decide +kernel
set_option maxRecDepth 100000 in
theorem k_M_ones : chkM m_M_ones = true := by decide +kernel
set_option maxRecDepth 100000 in
theorem k_M_costOf : chkM m_M_costOf = true := by decide +kernel
set_option maxRecDepth 100000 in
theorem k_M_hearSet : chkM m_M_hearSet = true := by decide +kernel
set_option maxRecDepth 100000 in
theorem k_M_findSet : chkM m_M_findSet = true := by decide +kernel
set_option maxRecDepth 100000 in
theorem k_M_isSet : chkM m_M_isSet = true := by decide +kernel
set_option maxRecDepth 100000 in
theorem k_M_set : chkM m_M_set = true := by decide +kernel
set_option maxRecDepth 100000 in
theorem k_M_chosen : chkM m_M_chosen = true := by decide +kernel
set_option maxRecDepth 100000 in
theorem k_M_enough : chkM m_M_enough = true := by decide +kernel
set_option maxRecDepth 100000 in
theorem k_M_hear : chkM m_M_hear = true := by decide +kernel
set_option maxRecDepth 100000 in
theorem k_M_knows : chkM m_M_knows = true := by decide +kernel
set_option maxRecDepth 100000 in
theorem k_M_findRivals : chkM m_M_findRivals = true := by decide +kernel
set_option maxRecDepth 100000 in
theorem k_M_mayChoose : chkM m_M_mayChoose = true := by decide +kernel
set_option maxRecDepth 100000 in
theorem k_M_isRest : chkM m_M_isRest = true := by decide +kernel
set_option maxRecDepth 100000 in
theorem k_M_rests : chkM m_M_rests = true := by decide +kernel
set_option maxRecDepth 100000 in
theorem k_M_beSilent : chkM m_M_beSilent = true := by decide +kernel
set_option maxRecDepth 100000 in
theorem k_M_findShown : chkM m_M_findShown = true := by decide +kernel
set_option maxRecDepth 100000 in
theorem k_M_shown : chkM m_M_shown = true := by decide +kernel
set_option maxRecDepth 100000 in
theorem k_M_law : chkM m_M_law = true := by decide +kernel
set_option maxRecDepth 100000 in
theorem k_M_time : chkM m_M_time = true := by decide +kernel
set_option maxRecDepth 100000 in
theorem k_M_undo : chkM m_M_undo = true := by decide +kernel
set_option maxRecDepth 100000 in
theorem k_M_move : chkM m_M_move = true := by decide +kernel
set_option maxRecDepth 100000 in
theorem k_M_moveAll : chkM m_M_moveAll = true := by decide +kernel
set_option maxRecDepth 100000 in
theorem k_M_image : chkM m_M_image = true := by decide +kernel
set_option maxRecDepth 100000 in
theorem k_M_on : chkM m_M_on = true := by decide +kernel
set_option maxRecDepth 100000 in
theorem k_M_count : chkM m_M_count = true := by decide +kernel
set_option maxRecDepth 100000 in
theorem k_J_bitCountI : chkM m_J_bitCountI = true := by decide +kernel
