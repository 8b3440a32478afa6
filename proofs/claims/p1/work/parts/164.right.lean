/-! ===== the program as data: it is right ===== -/
set_option maxRecDepth 100000 in
theorem ri_k_X11_keepsAll : ri_chk ri_hh0 ri_NW0 ri_CW0 ri_NC0 ri_CN0 ri_AO0 ri_cl0 ri_Ms0 ri_tyL0 ri_exn0 ri_XT0 ri_m_X11_keepsAll ri_m_X11_keepsAll.2.2.2.2.2 [[], [], [], [], [], [], [1606], [], [], [1603], [], [], [], [], [], []] = true := by decide +kernel
set_option maxRecDepth 100000 in
theorem ri_k_X11_goesOn : ri_chk ri_hh0 ri_NW0 ri_CW0 ri_NC0 ri_CN0 ri_AO0 ri_cl0 ri_Ms0 ri_tyL0 ri_exn0 ri_XT0 ri_m_X11_goesOn ri_m_X11_goesOn.2.2.2.2.2 [[], [], [], [], [], [], [], [1896, 135, 1893, 1895, 73], [], [], [], []] = true := by decide +kernel
set_option maxRecDepth 100000 in
theorem ri_k_X11_bringsBack : ri_chk ri_hh0 ri_NW0 ri_CW0 ri_NC0 ri_CN0 ri_AO0 ri_cl0 ri_Ms0 ri_tyL0 ri_exn0 ri_XT0 ri_m_X11_bringsBack ri_m_X11_bringsBack.2.2.2.2.2 [[], [], [], [], [], [], [1603], [], [], [1606], [], [], [], [], [], []] = true := by decide +kernel
set_option maxRecDepth 100000 in
theorem ri_k_X10_startAt : ri_chk ri_hh0 ri_NW0 ri_CW0 ri_NC0 ri_CN0 ri_AO0 ri_cl0 ri_Ms0 ri_tyL0 ri_exn0 ri_XT0 ri_m_X10_startAt ri_m_X10_startAt.2.2.2.2.2 [[], [650], [], [647], [697, 126, 694, 695, 696], [], [650], [523], [], [], [414], [], [], [], [228], [], [], [], [], [729], [730], [733, 124, 731, 732], [], [228], [], [645], [560], [], [650], [697, 126, 694, 695, 696], []] = true := by decide +kernel
set_option maxRecDepth 100000 in
theorem ri_k_X6_find : ri_chk ri_hh0 ri_NW0 ri_CW0 ri_NC0 ri_CN0 ri_AO0 ri_cl0 ri_Ms0 ri_tyL0 ri_exn0 ri_XT0 ri_m_X6_find ri_m_X6_find.2.2.2.2.2 [[], [], [629], [], [], [], [741, 134, 738, 740, 1], [631], [], [631], [], [], [], [], [], [697, 126, 907, 695, 696], [], [], [], [], [911, 134, 908, 910, 13], [629], [], [629], [], [], [], [], [631], []] = true := by decide +kernel
set_option maxRecDepth 100000 in
theorem ri_k_X11_laysRound : ri_chk ri_hh0 ri_NW0 ri_CW0 ri_NC0 ri_CN0 ri_AO0 ri_cl0 ri_Ms0 ri_tyL0 ri_exn0 ri_XT0 ri_m_X11_laysRound ri_m_X11_laysRound.2.2.2.2.2 [[], [2115, 135, 2112, 2114, 105], [], [], [1618], [], [], [1617], [], [2179, 135, 2176, 2178, 112], [], [], [], [], [], [], [1618], [], [], [], [], [1896, 135, 1893, 1895, 73], [], [], [], [1617], [], [], [], [2179, 135, 2176, 2178, 112], [], [], [], [], [], [], [1618], [], [], [], [], [1617], [], [], [], [], [1617], [], [], [], [2183, 135, 2180, 2182, 113], [], [], [], [1618], [], [], [], [], [], [1618], [], [1619], [], [], [], [2123, 135, 2120, 2122, 107], []] = true := by decide +kernel
set_option maxRecDepth 100000 in
theorem ri_k_X10_sweep : ri_chk ri_hh0 ri_NW0 ri_CW0 ri_NC0 ri_CN0 ri_AO0 ri_cl0 ri_Ms0 ri_tyL0 ri_exn0 ri_XT0 ri_m_X10_sweep ri_m_X10_sweep.2.2.2.2.2 [[], [], [1220, 124, 1217, 1219, 36], [], [], [], [], [693, 124, 690, 692, 0], [], [652], [], [650], [], [645], [560], [737, 134, 734, 735, 736], [], [652], [], [650], [], [], []] = true := by decide +kernel
set_option maxRecDepth 100000 in
theorem ri_k_X10_starts : ri_chk ri_hh0 ri_NW0 ri_CW0 ri_NC0 ri_CN0 ri_AO0 ri_cl0 ri_Ms0 ri_tyL0 ri_exn0 ri_XT0 ri_m_X10_starts ri_m_X10_starts.2.2.2.2.2 [[], [], [1220, 124, 1217, 1219, 36], [], [], [], [], [], [], [], [], [], [], [], [652], [], [], [], [], [], [], [], [], [], [], [], [], [], [693, 124, 690, 692, 0], [], [652], [], [650], [], [645], [560], [737, 134, 734, 735, 736], [], [652], [], [650], [], [], [], [], [652], [634], [], [], []] = true := by decide +kernel
set_option maxRecDepth 100000 in
theorem ri_k_X10_step : ri_chk ri_hh0 ri_NW0 ri_CW0 ri_NC0 ri_CN0 ri_AO0 ri_cl0 ri_Ms0 ri_tyL0 ri_exn0 ri_XT0 ri_m_X10_step ri_m_X10_step.2.2.2.2.2 [[], [], [1220, 124, 1217, 1219, 36], [], [], [], [], [], [], [], [], [], [], [], [], [], [1306, 124, 1304, 1305], [], [], [], [], [], [], [], [], [], [], [], [], [], [], []] = true := by decide +kernel
set_option maxRecDepth 100000 in
theorem ri_k_X10_twin : ri_chk ri_hh0 ri_NW0 ri_CW0 ri_NC0 ri_CN0 ri_AO0 ri_cl0 ri_Ms0 ri_tyL0 ri_exn0 ri_XT0 ri_m_X10_twin ri_m_X10_twin.2.2.2.2.2 [[], [], [], [1306, 124, 1304, 1305], [], [], [], [], [647], [528], [], [], [647], [523], [], [], [437], [], [], [], [], [], [], [], [], [], [650], [], [647], [697, 126, 694, 695, 696], [], [651], [], [647], [1499, 133, 1496, 1497, 1498], [], [], [], [], [], [], [], [], [650], [757, 126, 1332, 755, 756], [], [], [651], [], [647], [1503, 133, 1500, 1501, 1502], [], [651], [], [650], [1532, 133, 1529, 1530, 1531], [], [], [], [], [], [], [], [], [], [], [], [], [1533], [], [], [], [1534], [], [], [1535], [], [], [], []] = true := by decide +kernel
set_option maxRecDepth 100000 in
theorem ri_k_X10_ahead : ri_chk ri_hh0 ri_NW0 ri_CW0 ri_NC0 ri_CN0 ri_AO0 ri_cl0 ri_Ms0 ri_tyL0 ri_exn0 ri_XT0 ri_m_X10_ahead ri_m_X10_ahead.2.2.2.2.2 [[], [], [1220, 124, 1217, 1219, 36], [], [], [], [1546, 124, 1543, 1545, 43], [], [650], [523], [], [], [], [], [], [], [444], [], [], [414], [], []] = true := by decide +kernel
set_option maxRecDepth 100000 in
theorem ri_k_X10_peak : ri_chk ri_hh0 ri_NW0 ri_CW0 ri_NC0 ri_CN0 ri_AO0 ri_cl0 ri_Ms0 ri_tyL0 ri_exn0 ri_XT0 ri_m_X10_peak ri_m_X10_peak.2.2.2.2.2 [[], [], [1220, 124, 1217, 1219, 36], [], [], [], [], [1306, 124, 1304, 1305], [], [650], [], [647], [697, 126, 694, 695, 696], [], [], [], [], [], [], [], [], [650], [757, 126, 1332, 755, 756], [], [], [], [650], [540], [], [], [], [], [], [], [], []] = true := by decide +kernel
set_option maxRecDepth 100000 in
theorem ri_k_X11_noTicks : ri_chk ri_hh0 ri_NW0 ri_CW0 ri_NC0 ri_CN0 ri_AO0 ri_cl0 ri_Ms0 ri_tyL0 ri_exn0 ri_XT0 ri_m_X11_noTicks ri_m_X11_noTicks.2.2.2.2.2 [[], [], [1602], [], [], [], [2037, 135, 2034, 2036, 102], [], [1887, 135, 1884, 1886, 72], [], [], [], [], [], [1789, 135, 1787, 1788], [], [], [], [], [], [1887, 135, 1884, 1886, 72], [], [], [], [], []] = true := by decide +kernel
set_option maxRecDepth 100000 in
theorem ri_k_X10_hunts : ri_chk ri_hh0 ri_NW0 ri_CW0 ri_NC0 ri_CN0 ri_AO0 ri_cl0 ri_Ms0 ri_tyL0 ri_exn0 ri_XT0 ri_m_X10_hunts ri_m_X10_hunts.2.2.2.2.2 [[], [], [1220, 124, 1217, 1219, 36], [], [], [], [], [1306, 124, 1304, 1305], [], [650], [], [647], [697, 126, 694, 695, 696], [], [650], [523], [], [], [], [], [], [], [414], [], [], [440], [], [], [], [], [], [], [], [], [], [], [], [650], [757, 126, 1332, 755, 756], [], [], [414], [], [], [440], [], [], [], [], [], [], [], [], [], [], [], [], [], [], []] = true := by decide +kernel
set_option maxRecDepth 100000 in
theorem ri_k_X10_worst : ri_chk ri_hh0 ri_NW0 ri_CW0 ri_NC0 ri_CN0 ri_AO0 ri_cl0 ri_Ms0 ri_tyL0 ri_exn0 ri_XT0 ri_m_X10_worst ri_m_X10_worst.2.2.2.2.2 [[], [], [1546, 124, 1543, 1545, 43], [], [], [], [], [], [], [], [], [650], [528], [], [], [650], [523], [], [], [414], [], [], [650], [523], [], [], [440], [], [], [], [], [], [], [], [], [], [], [], [], [], []] = true := by decide +kernel
set_option maxRecDepth 100000 in
theorem ri_k_X11_loops : ri_chk ri_hh0 ri_NW0 ri_CW0 ri_NC0 ri_CN0 ri_AO0 ri_cl0 ri_Ms0 ri_tyL0 ri_exn0 ri_XT0 ri_m_X11_loops ri_m_X11_loops.2.2.2.2.2 [[], [1603], [], [], [], []] = true := by decide +kernel
set_option maxRecDepth 100000 in
theorem ri_k_X10_which : ri_chk ri_hh0 ri_NW0 ri_CW0 ri_NC0 ri_CN0 ri_AO0 ri_cl0 ri_Ms0 ri_tyL0 ri_exn0 ri_XT0 ri_m_X10_which ri_m_X10_which.2.2.2.2.2 [[], [], [], [], [], [], [], [], [], [], [], [], [], [], [], [647], [528], [], [], [647], [], [], [], [], [], [], [], [], [], [], [], [], [], []] = true := by decide +kernel
set_option maxRecDepth 100000 in
theorem ri_k_X10_event : ri_chk ri_hh0 ri_NW0 ri_CW0 ri_NC0 ri_CN0 ri_AO0 ri_cl0 ri_Ms0 ri_tyL0 ri_exn0 ri_XT0 ri_m_X10_event ri_m_X10_event.2.2.2.2.2 [[], [], [], [], [647], [536], [186], [], [], [], [], [], [], [], [], [], [], [], [], [], [], [], [647], [536], [], [], [], []] = true := by decide +kernel
set_option maxRecDepth 100000 in
theorem ri_k_X10_log : ri_chk ri_hh0 ri_NW0 ri_CW0 ri_NC0 ri_CN0 ri_AO0 ri_cl0 ri_Ms0 ri_tyL0 ri_exn0 ri_XT0 ri_m_X10_log ri_m_X10_log.2.2.2.2.2 [[], [], [], [], [], [], [], [], [], [], [], [], [], [647], [538], [186], [], [], [], [], [647], [538], [], [647], [538], [186], [], [], [], [], [], [], []] = true := by decide +kernel
set_option maxRecDepth 100000 in
theorem ri_k_X0_copyFrom : ri_chk ri_hh0 ri_NW0 ri_CW0 ri_NC0 ri_CN0 ri_AO0 ri_cl0 ri_Ms0 ri_tyL0 ri_exn0 ri_XT0 ri_m_X0_copyFrom ri_m_X0_copyFrom.2.2.2.2.2 [[], [], [524], [524], [], [], [529], [529], [], [], [531], [531], [], [], [], [], [524], [], [], [519], [], [], [], [519], [], [], [], [], [], [], [534], [], [534], [727, 127, 724, 725, 726], [], [537], [], [537], [727, 127, 724, 725, 726], []] = true := by decide +kernel
set_option maxRecDepth 100000 in
theorem ri_k_X7_init : ri_chk ri_hh0 ri_NW0 ri_CW0 ri_NC0 ri_CN0 ri_AO0 ri_cl0 ri_Ms0 ri_tyL0 ri_exn0 ri_XT0 ri_m_X7_init ri_m_X7_init.2.2.2.2.2 [[], [180, 159, 160], [], [], [183], [], [], [182], [], [], [], [], [194], [181], []] = true := by decide +kernel
set_option maxRecDepth 100000 in
theorem ri_k_X2_init : ri_chk ri_hh0 ri_NW0 ri_CW0 ri_NC0 ri_CN0 ri_AO0 ri_cl0 ri_Ms0 ri_tyL0 ri_exn0 ri_XT0 ri_m_X2_init ri_m_X2_init.2.2.2.2.2 [[], [199, 159, 160], [], [200], [], [204, 129, 203], [411], [], [256], [], [260, 130, 259], [417], [], [301], [], [305, 131, 304], [422], [], [369], [], [373, 132, 372], [427], [], [], [194], [469], []] = true := by decide +kernel
set_option maxRecDepth 100000 in
theorem ri_k_X4_read : ri_chk ri_hh0 ri_NW0 ri_CW0 ri_NC0 ri_CN0 ri_AO0 ri_cl0 ri_Ms0 ri_tyL0 ri_exn0 ri_XT0 ri_m_X4_read ri_m_X4_read.2.2.2.2.2 [[], [], [561], [564], [], [], [561], [], [], [565], [], [], [567], [], [940, 125, 937, 939, 14], [], [565], [], [564], [], [], [], [], [], [], [], [], [], [], [], [], [], [940, 125, 937, 939, 14], [], [], [], [], [], [565], [], [], [], [], [], [940, 125, 937, 939, 14], [], [567], [], [], [], [565], [], [564], [], [], [], [], [], [], [], [], [563], [], [565], [], [], [], [], [], [565], [], [], [], [], [], [565], [], [], [565], [], [], [], [567], []] = true := by decide +kernel
set_option maxRecDepth 100000 in
theorem ri_k_X11_blanks : ri_chk ri_hh0 ri_NW0 ri_CW0 ri_NC0 ri_CN0 ri_AO0 ri_cl0 ri_Ms0 ri_tyL0 ri_exn0 ri_XT0 ri_m_X11_blanks ri_m_X11_blanks.2.2.2.2.2 [[], [], [], [1732, 135, 1729, 1731, 46], [], [], [], [1610], [], [], [1610], [], [], [], [1610], [1612], []] = true := by decide +kernel
set_option maxRecDepth 100000 in
theorem ri_k_X11_isAt : ri_chk ri_hh0 ri_NW0 ri_CW0 ri_NC0 ri_CN0 ri_AO0 ri_cl0 ri_Ms0 ri_tyL0 ri_exn0 ri_XT0 ri_m_X11_isAt ri_m_X11_isAt.2.2.2.2.2 [[], [1610], [], [1611], [], [], [1608], [], [1610], [], [], [], [], [1608], [], [1610], [], [], [], [], [], [], []] = true := by decide +kernel
set_option maxRecDepth 100000 in
theorem ri_k_X10_knownLoop : ri_chk ri_hh0 ri_NW0 ri_CW0 ri_NC0 ri_CN0 ri_AO0 ri_cl0 ri_Ms0 ri_tyL0 ri_exn0 ri_XT0 ri_m_X10_knownLoop ri_m_X10_knownLoop.2.2.2.2.2 [[], [], [], [], [647], [528], [], [], [], [], [], [], [647], [523], [], [], []] = true := by decide +kernel
set_option maxRecDepth 100000 in
theorem ri_k_X10_checkBetween : ri_chk ri_hh0 ri_NW0 ri_CW0 ri_NC0 ri_CN0 ri_AO0 ri_cl0 ri_Ms0 ri_tyL0 ri_exn0 ri_XT0 ri_m_X10_checkBetween ri_m_X10_checkBetween.2.2.2.2.2 [[], [], [], [], [], [], [], [], [], [], []] = true := by decide +kernel
set_option maxRecDepth 100000 in
theorem ri_k_X0_happen : ri_chk ri_hh0 ri_NW0 ri_CW0 ri_NC0 ri_CN0 ri_AO0 ri_cl0 ri_Ms0 ri_tyL0 ri_exn0 ri_XT0 ri_m_X0_happen ri_m_X0_happen.2.2.2.2.2 [[], [], [], [534], [184], [], [], [], [], [534], [], [], [], [], [531], [], [], [], [], [], [534], [], [], [], [], [534], [], [], [], [], [534], [], [], [], [], [], [534], [], [], [], [], []] = true := by decide +kernel
set_option maxRecDepth 100000 in
theorem ri_k_X0_advance : ri_chk ri_hh0 ri_NW0 ri_CW0 ri_NC0 ri_CN0 ri_AO0 ri_cl0 ri_Ms0 ri_tyL0 ri_exn0 ri_XT0 ri_m_X0_advance ri_m_X0_advance.2.2.2.2.2 [[], [], [], [], [], [], [524], [], [], [], [519], [], [], [], [], [], [541], [], [], [], [], [], [], [], [], [], [], [], [], [], [], [], [], [], [], [], [], [], [], [], [], [], [], [], [], [], [], [], [], [], [524], [], [], [], [], [], [], [519], [], [], [421], [], [], [519], [], [], [416], [], [], [], [], [], [280], [], [], [], [519], [], [], [416], [], [], [], [], [], [], [531], [], [], [531], [], []] = true := by decide +kernel
set_option maxRecDepth 100000 in
theorem ri_k_X10_within : ri_chk ri_hh0 ri_NW0 ri_CW0 ri_NC0 ri_CN0 ri_AO0 ri_cl0 ri_Ms0 ri_tyL0 ri_exn0 ri_XT0 ri_m_X10_within ri_m_X10_within.2.2.2.2.2 [[], [], [], [], [], [], [], [], [], [], [], [], [], []] = true := by decide +kernel
set_option maxRecDepth 100000 in
theorem ri_k_X6_lengthOf : ri_chk ri_hh0 ri_NW0 ri_CW0 ri_NC0 ri_CN0 ri_AO0 ri_cl0 ri_Ms0 ri_tyL0 ri_exn0 ri_XT0 ri_m_X6_lengthOf ri_m_X6_lengthOf.2.2.2.2.2 [[], [], [], [], [], [], [], [745, 134, 742, 744, 2], [], [], [], [], [], [], [757, 126, 754, 755, 756], [], [], [], [], [905, 134, 902, 904, 12], [], [], [], [], [], [], [], [], [], [], [], [745, 134, 742, 744, 2], [], [], [], [], [], [], [], [], [], [], [], []] = true := by decide +kernel
set_option maxRecDepth 100000 in
theorem ri_k_X6_beginOf : ri_chk ri_hh0 ri_NW0 ri_CW0 ri_NC0 ri_CN0 ri_AO0 ri_cl0 ri_Ms0 ri_tyL0 ri_exn0 ri_XT0 ri_m_X6_beginOf ri_m_X6_beginOf.2.2.2.2.2 [[], [], [], [], [631], [], [], [757, 126, 754, 755, 756], [], [], [], [], [], [], [], [631], [], [], [], [], [], [], [745, 134, 742, 744, 2], [], [], [], [905, 134, 902, 904, 12], [], [], [], [], [757, 126, 754, 755, 756], [], [], [757, 126, 754, 755, 756], [], [], [], [], []] = true := by decide +kernel
set_option maxRecDepth 100000 in
theorem ri_k_X11_keepsTime : ri_chk ri_hh0 ri_NW0 ri_CW0 ri_NC0 ri_CN0 ri_AO0 ri_cl0 ri_Ms0 ri_tyL0 ri_exn0 ri_XT0 ri_m_X11_keepsTime ri_m_X11_keepsTime.2.2.2.2.2 [[], [], [], [], [], [], [], [], [], [], [1603], [], [], [], [], [], [], [], []] = true := by decide +kernel
set_option maxRecDepth 100000 in
theorem ri_k_X11_areAlike : ri_chk ri_hh0 ri_NW0 ri_CW0 ri_NC0 ri_CN0 ri_AO0 ri_cl0 ri_Ms0 ri_tyL0 ri_exn0 ri_XT0 ri_m_X11_areAlike ri_m_X11_areAlike.2.2.2.2.2 [[], [], [], [], [], [], [1755, 135, 1752, 1754, 51], [], [], [], [], [], [], [], [], [], [], [], [], [], [], [2066], [], [], [], [], [], [], [], [], [], [], [], [], [], [], [], [], [], [], [], [], [], [], [], [], [], [], [], [], [], [], [], [], [], [], [], [], [], [], []] = true := by decide +kernel
set_option maxRecDepth 100000 in
theorem ri_k_X8_begin : ri_chk ri_hh0 ri_NW0 ri_CW0 ri_NC0 ri_CN0 ri_AO0 ri_cl0 ri_Ms0 ri_tyL0 ri_exn0 ri_XT0 ri_m_X8_begin ri_m_X8_begin.2.2.2.2.2 [[], [], [], [], [525], [], [], [520], [], [], [], [], [594], [], [], [412], [227], [], [], [], [595], [], [], [412], [231], [], [], [], [596], [], [], [447], [], [], [], [597], [], [], [451], [], [], [], [598], [], [], [454], [], [], [], [599], [], [], [439], [], [], [], [600], [], [], [442], [], [], [], [601], [], [], [418], [276], [], [], [], [], [], [], [], [], [602], [], [], [], [], [412], [235], [], [], [], [], [], [], [], [], []] = true := by decide +kernel
set_option maxRecDepth 100000 in
theorem ri_k_X8_advance : ri_chk ri_hh0 ri_NW0 ri_CW0 ri_NC0 ri_CN0 ri_AO0 ri_cl0 ri_Ms0 ri_tyL0 ri_exn0 ri_XT0 ri_m_X8_advance ri_m_X8_advance.2.2.2.2.2 [[], [], [], [], [525], [], [], [], [], [], [], [], [], [], [], [], [525], [], [], [], [], [], [], [], [520], [], [], [412], [], [], [], [], [], [], [520], [], [], [418], [], [], [], [], [594], [], [], [1508], [], [], [], [], []] = true := by decide +kernel
set_option maxRecDepth 100000 in
theorem ri_k_X8_farthestFrom : ri_chk ri_hh0 ri_NW0 ri_CW0 ri_NC0 ri_CN0 ri_AO0 ri_cl0 ri_Ms0 ri_tyL0 ri_exn0 ri_XT0 ri_m_X8_farthestFrom ri_m_X8_farthestFrom.2.2.2.2.2 [[], [], [], [], [], [], [525], [], [], [594], [], [], [1508], [], [], [520], [], [], [412], [227], [], [1508], [], [], [], [], [], [], [], [], [], [], [], [], [], [], [], [], [], [], [], [], [], [], [], []] = true := by decide +kernel
set_option maxRecDepth 100000 in
theorem ri_k_X10_goAhead : ri_chk ri_hh0 ri_NW0 ri_CW0 ri_NC0 ri_CN0 ri_AO0 ri_cl0 ri_Ms0 ri_tyL0 ri_exn0 ri_XT0 ri_m_X10_goAhead ri_m_X10_goAhead.2.2.2.2.2 [[], [], [], [1306, 124, 1304, 1305], [], [650], [], [647], [697, 126, 694, 695, 696], [], [], [], [], [], [], [650], [757, 126, 1332, 755, 756], [], [], [], []] = true := by decide +kernel
set_option maxRecDepth 100000 in
theorem ri_k_X7_copyFrom : ri_chk ri_hh0 ri_NW0 ri_CW0 ri_NC0 ri_CN0 ri_AO0 ri_cl0 ri_Ms0 ri_tyL0 ri_exn0 ri_XT0 ri_m_X7_copyFrom ri_m_X7_copyFrom.2.2.2.2.2 [[], [181], [], [], [181], [], [], [], [183], [], [728, 708, 707, 136], [], [], [183], [183], []] = true := by decide +kernel
set_option maxRecDepth 100000 in
theorem ri_k_X3_init : ri_chk ri_hh0 ri_NW0 ri_CW0 ri_NC0 ri_CN0 ri_AO0 ri_cl0 ri_Ms0 ri_tyL0 ri_exn0 ri_XT0 ri_m_X3_init ri_m_X3_init.2.2.2.2.2 [[], [205, 159, 160], [], [], [194], [234], []] = true := by decide +kernel
set_option maxRecDepth 100000 in
theorem ri_k_X9_init : ri_chk ri_hh0 ri_NW0 ri_CW0 ri_NC0 ri_CN0 ri_AO0 ri_cl0 ri_Ms0 ri_tyL0 ri_exn0 ri_XT0 ri_m_X9_init ri_m_X9_init.2.2.2.2.2 [[], [261, 159, 160], [], [], [194], [285], []] = true := by decide +kernel
set_option maxRecDepth 100000 in
theorem ri_k_X1_init : ri_chk ri_hh0 ri_NW0 ri_CW0 ri_NC0 ri_CN0 ri_AO0 ri_cl0 ri_Ms0 ri_tyL0 ri_exn0 ri_XT0 ri_m_X1_init ri_m_X1_init.2.2.2.2.2 [[], [306, 159, 160], [], [], [194], [333], [], [], [194], [336], [], [], [194], [340], [], [], [194], [344], []] = true := by decide +kernel
set_option maxRecDepth 100000 in
theorem ri_k_X5_init : ri_chk ri_hh0 ri_NW0 ri_CW0 ri_NC0 ri_CN0 ri_AO0 ri_cl0 ri_Ms0 ri_tyL0 ri_exn0 ri_XT0 ri_m_X5_init ri_m_X5_init.2.2.2.2.2 [[], [374, 159, 160], []] = true := by decide +kernel
set_option maxRecDepth 100000 in
theorem ri_k_X4_skipBlanks : ri_chk ri_hh0 ri_NW0 ri_CW0 ri_NC0 ri_CN0 ri_AO0 ri_cl0 ri_Ms0 ri_tyL0 ri_exn0 ri_XT0 ri_m_X4_skipBlanks ri_m_X4_skipBlanks.2.2.2.2.2 [[], [565], [], [564], [], [], [563], [], [565], [], [], [], [], [], [565], [], [], [565], [], []] = true := by decide +kernel
set_option maxRecDepth 100000 in
theorem ri_k_X6_keep : ri_chk ri_hh0 ri_NW0 ri_CW0 ri_NC0 ri_CN0 ri_AO0 ri_cl0 ri_Ms0 ri_tyL0 ri_exn0 ri_XT0 ri_m_X6_keep ri_m_X6_keep.2.2.2.2.2 [[], [], [], [], [527], [], [], [], [], [], [], [], [], [], [], [], [], [], [], [], [635], [], [], [], [], [522], [], [], [], [], [], [], [], [], [], []] = true := by decide +kernel
set_option maxRecDepth 100000 in
theorem ri_k_X6_isKept : ri_chk ri_hh0 ri_NW0 ri_CW0 ri_NC0 ri_CN0 ri_AO0 ri_cl0 ri_Ms0 ri_tyL0 ri_exn0 ri_XT0 ri_m_X6_isKept ri_m_X6_isKept.2.2.2.2.2 [[], [], [], [], [527], [], [], [], [], [], [], [], [], [], [], [], [], [], [], [], [635], [], [], [], [], [], [522], [], [], [], [], [], [], [], [], [], [], [], [], [], []] = true := by decide +kernel
