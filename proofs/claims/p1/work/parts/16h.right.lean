/-! ===== the program as data: it is right ===== -/
set_option maxRecDepth 100000 in
theorem ri_k_X11_blanks : ri_chk ri_hh0 ri_NW0 ri_CW0 ri_NC0 ri_CN0 ri_AO0 ri_cl0 ri_Ms0 ri_tyL0 ri_exn0 ri_XT0 ri_m_X11_blanks ri_m_X11_blanks.2.2.2.2.2 [[], [], [], [1732, 135, 1729, 1731, 46], [], [], [], [1610], [], [], [1610], [], [], [], [1610], [1612], []] = true := by decide +kernel
set_option maxRecDepth 100000 in
theorem ri_k_X11_isAt : ri_chk ri_hh0 ri_NW0 ri_CW0 ri_NC0 ri_CN0 ri_AO0 ri_cl0 ri_Ms0 ri_tyL0 ri_exn0 ri_XT0 ri_m_X11_isAt ri_m_X11_isAt.2.2.2.2.2 [[], [1610], [], [1611], [], [], [1608], [], [1610], [], [], [], [], [1608], [], [1610], [], [], [], [], [], [], []] = true := by decide +kernel
set_option maxRecDepth 100000 in
theorem ri_k_X10_knownLoop : ri_chk ri_hh0 ri_NW0 ri_CW0 ri_NC0 ri_CN0 ri_AO0 ri_cl0 ri_Ms0 ri_tyL0 ri_exn0 ri_XT0 ri_m_X10_knownLoop ri_m_X10_knownLoop.2.2.2.2.2 [[], [], [], [], [647], [528], [], [], [], [], [], [], [647], [523], [], [], []] = true := by decide +kernel
set_option maxRecDepth 100000 in
theorem ri_k_X10_checkBetween : ri_chk ri_hh0 ri_NW0 ri_CW0 ri_NC0 ri_CN0 ri_AO0 ri_cl0 ri_Ms0 ri_tyL0 ri_exn0 ri_XT0 ri_m_X10_checkBetween ri_m_X10_checkBetween.2.2.2.2.2 [[], [], [], [], [], [], [], [], [], [], []] = true := by decide +kernel
set_option maxRecDepth 100000 in
theorem ri_k_X0_happen : ri_chk ri_hh0 ri_NW0 ri_CW0 ri_NC0 ri_CN0 ri_AO0 ri_cl0 ri_Ms0 ri_tyL0 ri_exn0 ri_XT0 ri_m_X0_happen ri_m_X0_happen.2.2.2.2.2 [[], [], [], [534], [184], [], [], [], [], [534], [], [], [], [], [531], [], [], [], [], [], [534], [], [], [], [], [534], [], [], [], [], [534], [], [], [], [], [], [534], [], [], [], [], []] = true := by decide +kernel
set_option maxRecDepth 100000 in
theorem ri_k_X0_advance : ri_chk ri_hh0 ri_NW0 ri_CW0 ri_NC0 ri_CN0 ri_AO0 ri_cl0 ri_Ms0 ri_tyL0 ri_exn0 ri_XT0 ri_m_X0_advance ri_m_X0_advance.2.2.2.2.2 [[], [], [], [], [], [], [524], [], [], [], [519], [], [], [], [], [], [541], [], [], [], [], [], [], [], [], [], [], [], [], [], [], [], [], [], [], [], [], [], [], [], [], [], [], [], [], [], [], [], [], [], [524], [], [], [], [], [], [], [519], [], [], [421], [], [], [519], [], [], [416], [], [], [], [], [], [280], [], [], [], [519], [], [], [416], [], [], [], [], [], [], [531], [], [], [531], [], []] = true := by decide +kernel
set_option maxRecDepth 100000 in
theorem ri_k_J6_bitCount_0f7a4 : ri_chk ri_hh0 ri_NW0 ri_CW0 ri_NC0 ri_CN0 ri_AO0 ri_cl0 ri_Ms0 ri_tyL0 ri_exn0 ri_XT0 ri_m_J6_bitCount_0f7a4 ri_m_J6_bitCount_0f7a4.2.2.2.2.2 [[], [], [], [], [1336], [], [], [], [], [1337], [], [], [], [], [1337], [], [], [], [], [], [], [], [], [1338], [], [], [], [], [], [], [], [], [], [], [], [], [], [], [], [], [], []] = true := by decide +kernel
set_option maxRecDepth 100000 in
theorem ri_k_X11_allHappen : ri_chk ri_hh0 ri_NW0 ri_CW0 ri_NC0 ri_CN0 ri_AO0 ri_cl0 ri_Ms0 ri_tyL0 ri_exn0 ri_XT0 ri_m_X11_allHappen ri_m_X11_allHappen.2.2.2.2.2 [[], [], [], [1603], [], [], [], [], [], [], [], [], [], [], [], [], [], [], [], [], [1603], [], [], [], [], [], [1603], [], [], [], [], [], [], [1603], [], [], [], [], [], [], [1603], [], [], [], [], [], [], [1603], [], [], [], [], [], [], [], [], [], [], [], [], [], [1603], [], [], [], [], [], [], [], [], [1603], [], [], [], [], [], [], [], [], [], [], [], [1603], [], [], [], [], []] = true := by decide +kernel
set_option maxRecDepth 100000 in
theorem ri_k_X10_within : ri_chk ri_hh0 ri_NW0 ri_CW0 ri_NC0 ri_CN0 ri_AO0 ri_cl0 ri_Ms0 ri_tyL0 ri_exn0 ri_XT0 ri_m_X10_within ri_m_X10_within.2.2.2.2.2 [[], [], [], [], [], [], [], [], [], [], [], [], [], []] = true := by decide +kernel
set_option maxRecDepth 100000 in
theorem ri_k_X6_lengthOf : ri_chk ri_hh0 ri_NW0 ri_CW0 ri_NC0 ri_CN0 ri_AO0 ri_cl0 ri_Ms0 ri_tyL0 ri_exn0 ri_XT0 ri_m_X6_lengthOf ri_m_X6_lengthOf.2.2.2.2.2 [[], [], [], [], [], [], [], [745, 134, 742, 744, 2], [], [], [], [], [], [], [757, 126, 754, 755, 756], [], [], [], [], [905, 134, 902, 904, 12], [], [], [], [], [], [], [], [], [], [], [], [745, 134, 742, 744, 2], [], [], [], [], [], [], [], [], [], [], [], []] = true := by decide +kernel
set_option maxRecDepth 100000 in
theorem ri_k_X6_beginOf : ri_chk ri_hh0 ri_NW0 ri_CW0 ri_NC0 ri_CN0 ri_AO0 ri_cl0 ri_Ms0 ri_tyL0 ri_exn0 ri_XT0 ri_m_X6_beginOf ri_m_X6_beginOf.2.2.2.2.2 [[], [], [], [], [631], [], [], [757, 126, 754, 755, 756], [], [], [], [], [], [], [], [631], [], [], [], [], [], [], [745, 134, 742, 744, 2], [], [], [], [905, 134, 902, 904, 12], [], [], [], [], [757, 126, 754, 755, 756], [], [], [757, 126, 754, 755, 756], [], [], [], [], []] = true := by decide +kernel
set_option maxRecDepth 100000 in
theorem ri_k_X11_keepsTime : ri_chk ri_hh0 ri_NW0 ri_CW0 ri_NC0 ri_CN0 ri_AO0 ri_cl0 ri_Ms0 ri_tyL0 ri_exn0 ri_XT0 ri_m_X11_keepsTime ri_m_X11_keepsTime.2.2.2.2.2 [[], [], [], [], [], [], [], [], [], [], [1603], [], [], [], [], [], [], [], []] = true := by decide +kernel
set_option maxRecDepth 100000 in
theorem ri_k_X11_areAlike : ri_chk ri_hh0 ri_NW0 ri_CW0 ri_NC0 ri_CN0 ri_AO0 ri_cl0 ri_Ms0 ri_tyL0 ri_exn0 ri_XT0 ri_m_X11_areAlike ri_m_X11_areAlike.2.2.2.2.2 [[], [], [], [], [], [], [1755, 135, 1752, 1754, 51], [], [], [], [], [], [], [], [], [], [], [], [], [], [], [2066], [], [], [], [], [], [], [], [], [], [], [], [], [], [], [], [], [], [], [], [], [], [], [], [], [], [], [], [], [], [], [], [], [], [], [], [], [], [], []] = true := by decide +kernel
set_option maxRecDepth 100000 in
theorem ri_k_X8_begin : ri_chk ri_hh0 ri_NW0 ri_CW0 ri_NC0 ri_CN0 ri_AO0 ri_cl0 ri_Ms0 ri_tyL0 ri_exn0 ri_XT0 ri_m_X8_begin ri_m_X8_begin.2.2.2.2.2 [[], [], [], [], [525], [], [], [520], [], [], [], [], [594], [], [], [412], [227], [], [], [], [595], [], [], [412], [231], [], [], [], [596], [], [], [447], [], [], [], [597], [], [], [451], [], [], [], [598], [], [], [454], [], [], [], [599], [], [], [439], [], [], [], [600], [], [], [442], [], [], [], [601], [], [], [418], [276], [], [], [], [], [], [], [], [], [602], [], [], [], [], [412], [235], [], [], [], [], [], [], [], [], []] = true := by decide +kernel
set_option maxRecDepth 100000 in
theorem ri_k_X8_advance : ri_chk ri_hh0 ri_NW0 ri_CW0 ri_NC0 ri_CN0 ri_AO0 ri_cl0 ri_Ms0 ri_tyL0 ri_exn0 ri_XT0 ri_m_X8_advance ri_m_X8_advance.2.2.2.2.2 [[], [], [], [], [525], [], [], [], [], [], [], [], [], [], [], [], [525], [], [], [], [], [], [], [], [520], [], [], [412], [], [], [], [], [], [], [520], [], [], [418], [], [], [], [], [594], [], [], [1508], [], [], [], [], []] = true := by decide +kernel
set_option maxRecDepth 100000 in
theorem ri_k_X8_farthestFrom : ri_chk ri_hh0 ri_NW0 ri_CW0 ri_NC0 ri_CN0 ri_AO0 ri_cl0 ri_Ms0 ri_tyL0 ri_exn0 ri_XT0 ri_m_X8_farthestFrom ri_m_X8_farthestFrom.2.2.2.2.2 [[], [], [], [], [], [], [525], [], [], [594], [], [], [1508], [], [], [520], [], [], [412], [227], [], [1508], [], [], [], [], [], [], [], [], [], [], [], [], [], [], [], [], [], [], [], [], [], [], [], []] = true := by decide +kernel
set_option maxRecDepth 100000 in
theorem ri_k_X10_goAhead : ri_chk ri_hh0 ri_NW0 ri_CW0 ri_NC0 ri_CN0 ri_AO0 ri_cl0 ri_Ms0 ri_tyL0 ri_exn0 ri_XT0 ri_m_X10_goAhead ri_m_X10_goAhead.2.2.2.2.2 [[], [], [], [1306, 124, 1304, 1305], [], [650], [], [647], [697, 126, 694, 695, 696], [], [], [], [], [], [], [650], [757, 126, 1332, 755, 756], [], [], [], []] = true := by decide +kernel
set_option maxRecDepth 100000 in
theorem ri_k_X7_copyFrom : ri_chk ri_hh0 ri_NW0 ri_CW0 ri_NC0 ri_CN0 ri_AO0 ri_cl0 ri_Ms0 ri_tyL0 ri_exn0 ri_XT0 ri_m_X7_copyFrom ri_m_X7_copyFrom.2.2.2.2.2 [[], [181], [], [], [181], [], [], [], [183], [], [728, 708, 707, 136], [], [], [183], [183], []] = true := by decide +kernel
set_option maxRecDepth 100000 in
theorem ri_k_X3_init : ri_chk ri_hh0 ri_NW0 ri_CW0 ri_NC0 ri_CN0 ri_AO0 ri_cl0 ri_Ms0 ri_tyL0 ri_exn0 ri_XT0 ri_m_X3_init ri_m_X3_init.2.2.2.2.2 [[], [205, 159, 160], [], [], [194], [234], []] = true := by decide +kernel
set_option maxRecDepth 100000 in
theorem ri_k_X9_init : ri_chk ri_hh0 ri_NW0 ri_CW0 ri_NC0 ri_CN0 ri_AO0 ri_cl0 ri_Ms0 ri_tyL0 ri_exn0 ri_XT0 ri_m_X9_init ri_m_X9_init.2.2.2.2.2 [[], [261, 159, 160], [], [], [194], [285], []] = true := by decide +kernel
set_option maxRecDepth 100000 in
theorem ri_k_X1_init : ri_chk ri_hh0 ri_NW0 ri_CW0 ri_NC0 ri_CN0 ri_AO0 ri_cl0 ri_Ms0 ri_tyL0 ri_exn0 ri_XT0 ri_m_X1_init ri_m_X1_init.2.2.2.2.2 [[], [306, 159, 160], [], [], [194], [333], [], [], [194], [336], [], [], [194], [340], [], [], [194], [344], []] = true := by decide +kernel
set_option maxRecDepth 100000 in
theorem ri_k_X5_init : ri_chk ri_hh0 ri_NW0 ri_CW0 ri_NC0 ri_CN0 ri_AO0 ri_cl0 ri_Ms0 ri_tyL0 ri_exn0 ri_XT0 ri_m_X5_init ri_m_X5_init.2.2.2.2.2 [[], [374, 159, 160], []] = true := by decide +kernel
set_option maxRecDepth 100000 in
theorem ri_k_X4_skipBlanks : ri_chk ri_hh0 ri_NW0 ri_CW0 ri_NC0 ri_CN0 ri_AO0 ri_cl0 ri_Ms0 ri_tyL0 ri_exn0 ri_XT0 ri_m_X4_skipBlanks ri_m_X4_skipBlanks.2.2.2.2.2 [[], [565], [], [564], [], [], [563], [], [565], [], [], [], [], [], [565], [], [], [565], [], []] = true := by decide +kernel
set_option maxRecDepth 100000 in
theorem ri_k_X6_keep : ri_chk ri_hh0 ri_NW0 ri_CW0 ri_NC0 ri_CN0 ri_AO0 ri_cl0 ri_Ms0 ri_tyL0 ri_exn0 ri_XT0 ri_m_X6_keep ri_m_X6_keep.2.2.2.2.2 [[], [], [], [], [527], [], [], [], [], [], [], [], [], [], [], [], [], [], [], [], [635], [], [], [], [], [522], [], [], [], [], [], [], [], [], [], []] = true := by decide +kernel
set_option maxRecDepth 100000 in
theorem ri_k_X6_isKept : ri_chk ri_hh0 ri_NW0 ri_CW0 ri_NC0 ri_CN0 ri_AO0 ri_cl0 ri_Ms0 ri_tyL0 ri_exn0 ri_XT0 ri_m_X6_isKept ri_m_X6_isKept.2.2.2.2.2 [[], [], [], [], [527], [], [], [], [], [], [], [], [], [], [], [], [], [], [], [], [635], [], [], [], [], [], [522], [], [], [], [], [], [], [], [], [], [], [], [], [], []] = true := by decide +kernel
